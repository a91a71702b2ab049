def f_X7_clear (t : Nat) (FM : FMem) : Opt :=
  bindm (fset FM t 3 (0 : Int32)) fun M1 =>
  some (0, M1)
set_option maxHeartbeats 4000000 in
set_option maxRecDepth 100000 in
theorem m_X7_clear (l : Launch) (D : va_G) (cI cM : ClassId) (b : Nat) (t : Nat) (hT : isTh D cI cM b t) (FM : FMem) (r0 : Int32) (FR : FMem) (h : f_X7_clear t FM = some (r0, FR)) : Mt l (wdC D cI cM b) yX7_clear cX7_clear 1 none 0 0 [.ref (b + t)] FM none FR := by
  refine Mt.of (by decide) (cat_cons rfl cat_nil) [some (.ref (b + t))] rfl (Nat.le_of_ble_eq_true rfl) (fun V hV => ?_)
  unfold f_X7_clear at h
  refine r_aload_n hV dX7_clear_0 rfl ?_
  refine r_iconst (v := (0 : Int32)) hV dX7_clear_1 rfl ?_
  refine r_puti hV fl_X7_21 hT.2.2.1 (fun _ _ => rfl) (Nat.le_of_ble_eq_true rfl) dX7_clear_2 ?_
  refine r_bm h (fun M1 h => ?_)
  exact r_vret hV rfl dX7_clear_5 rfl (ret_m h)
def f_X7_add (t : Nat) (a1 a2 a3 : Int32) (FM : FMem) : Opt :=
  if (FM t 3) < (9 : Int32) then (
    grd (inb (FM t 3) 9) <|
    bindm (fset FM (t + 1) (((FM t 3)).toNatClampNeg) a1) fun M3 =>
    grd (inb (M3 t 3) 9) <|
    bindm (fset M3 (t + 2) (((M3 t 3)).toNatClampNeg) a2) fun M5 =>
    grd (inb (M5 t 3) 9) <|
    bindm (fset M5 (t + 3) (((M5 t 3)).toNatClampNeg) a3) fun M7 =>
    bindm (fset M7 t 3 ((M7 t 3) + (1 : Int32))) fun M8 =>
    some ((1 : Int32), M8)
  ) else (
    some ((0 : Int32), FM)
  )
set_option maxHeartbeats 4000000 in
set_option maxRecDepth 100000 in
theorem m_X7_add (l : Launch) (D : va_G) (cI cM : ClassId) (b : Nat) (t : Nat) (hT : isTh D cI cM b t) (a1 a2 a3 : Int32) (FM : FMem) (r0 : Int32) (FR : FMem) (h : f_X7_add t a1 a2 a3 FM = some (r0, FR)) : Mt l (wdC D cI cM b) yX7_add cX7_add 4 (some .boolean) 0 0 [.ref (b + t), .int a1, .int a2, .int a3] FM (some (.int r0)) FR := by
  refine Mt.of (by decide) (cat_cons rfl (cat_cons rfl (cat_cons rfl (cat_cons rfl cat_nil)))) [some (.ref (b + t)), some (.int a1), some (.int a2), some (.int a3)] rfl (Nat.le_of_ble_eq_true rfl) (fun V hV => ?_)
  unfold f_X7_add at h
  refine r_aload_n hV dX7_add_0 rfl ?_
  refine r_geto hV fl_X7_21 hT.2.2.1 rfl dX7_add_1 ?_
  refine r_bipush (v := (9 : Int32)) hV dX7_add_4 rfl ?_
  refine r_icmplt hV 11 dX7_add_6 rfl (fun c1 => ?_) (fun c1 => ?_)
  · have h := (if_pos c1).symm.trans h
    refine r_aload_n hV dX7_add_11 rfl ?_
    refine r_geto hV fl_X7_9 hT.2.2.1 rfl dX7_add_12 ?_
    refine r_aload_n hV dX7_add_15 rfl ?_
    refine r_geto hV fl_X7_21 hT.2.2.1 rfl dX7_add_16 ?_
    refine r_iload_n hV dX7_add_19 rfl ?_
    obtain ⟨g2, h⟩ := grd_some h
    refine r_ast hV hT.2.2.2.1 (inb_in g2) (((FM t 3)).toNatClampNeg) rfl dX7_add_20 ?_
    refine r_bm h (fun M3 h => ?_)
    refine r_aload_n hV dX7_add_21 rfl ?_
    refine r_geto hV fl_X7_15 hT.2.2.1 rfl dX7_add_22 ?_
    refine r_aload_n hV dX7_add_25 rfl ?_
    refine r_geto hV fl_X7_21 hT.2.2.1 rfl dX7_add_26 ?_
    refine r_iload_n hV dX7_add_29 rfl ?_
    obtain ⟨g4, h⟩ := grd_some h
    refine r_ast hV hT.2.2.2.2.1 (inb_in g4) (((M3 t 3)).toNatClampNeg) rfl dX7_add_30 ?_
    refine r_bm h (fun M5 h => ?_)
    refine r_aload_n hV dX7_add_31 rfl ?_
    refine r_geto hV fl_X7_18 hT.2.2.1 rfl dX7_add_32 ?_
    refine r_aload_n hV dX7_add_35 rfl ?_
    refine r_geto hV fl_X7_21 hT.2.2.1 rfl dX7_add_36 ?_
    refine r_iload_n hV dX7_add_39 rfl ?_
    obtain ⟨g6, h⟩ := grd_some h
    refine r_ast hV hT.2.2.2.2.2 (inb_in g6) (((M5 t 3)).toNatClampNeg) rfl dX7_add_40 ?_
    refine r_bm h (fun M7 h => ?_)
    refine r_aload_n hV dX7_add_41 rfl ?_
    refine r_dup hV dX7_add_42 rfl ?_
    refine r_geto hV fl_X7_21 hT.2.2.1 rfl dX7_add_43 ?_
    refine r_iconst (v := (1 : Int32)) hV dX7_add_46 rfl ?_
    refine r_iadd hV dX7_add_47 ?_
    refine r_puti hV fl_X7_21 hT.2.2.1 (fun _ _ => rfl) (Nat.le_of_ble_eq_true rfl) dX7_add_48 ?_
    refine r_bm h (fun M8 h => ?_)
    refine r_iconst (v := (1 : Int32)) hV dX7_add_51 rfl ?_
    exact r_zret hV rfl (Or.inr rfl) dX7_add_52 (ret_r h) (ret_m h)
  · have h := (if_neg c1).symm.trans h
    refine r_iconst (v := (0 : Int32)) hV dX7_add_9 rfl ?_
    exact r_zret hV rfl (Or.inl rfl) dX7_add_10 (ret_r h) (ret_m h)
def X7_copyFrom_b6s (t u : Nat) (k6 : Int32 → FMem → Opt) (x2 : Int32) (FM : FMem) : Opt :=
  if (FM u 3) ≤ x2 then (
    some (0, FM)
  ) else (
    if (9 : Int32) ≤ x2 then (
      some (0, FM)
    ) else (
      grd (inb x2 9) <|
      grd (inb x2 9) <|
      grd (inb x2 9) <|
      bnd (f_X7_add t (FM (u + 1) ((x2).toNatClampNeg)) (FM (u + 2) ((x2).toNatClampNeg)) (FM (u + 3) ((x2).toNatClampNeg)) FM) fun r9 M10 =>
      k6 (x2 + (1 : Int32)) M10
    )
  )
def X7_copyFrom_b6 (t u : Nat) : Nat → Int32 → FMem → Opt
  | 0, _, _ => none
  | nf + 1, x2, FM => X7_copyFrom_b6s t u (X7_copyFrom_b6 t u nf) x2 FM
def f_X7_copyFrom (t u : Nat) (FM : FMem) : Opt :=
  bnd (f_X7_clear t FM) fun r1 M2 =>
  X7_copyFrom_b6 t u FU (0 : Int32) M2
set_option maxHeartbeats 4000000 in
set_option maxRecDepth 100000 in
theorem m_X7_copyFrom (l : Launch) (D : va_G) (cI cM : ClassId) (b : Nat) (t u : Nat) (hT : isTh D cI cM b t) (hU : isTh D cI cM b u) (FM : FMem) (r0 : Int32) (FR : FMem) (h : f_X7_copyFrom t u FM = some (r0, FR)) : Mt l (wdC D cI cM b) yX7_copyFrom cX7_copyFrom 3 none 1 23 [.ref (b + t), .ref (b + u)] FM none FR := by
  refine Mt.of (by decide) (cat_cons rfl (cat_cons rfl cat_nil)) [some (.ref (b + t)), some (.ref (b + u)), none] rfl (Nat.le_of_ble_eq_true rfl) (fun V hV => ?_)
  have B6 : ∀ (k6 : Int32 → FMem → Opt) (hk6 : ∀ (x2 : Int32) (FM : FMem), k6 x2 FM = some (r0, FR) → V FM 6 [some (.ref (b + t)), some (.ref (b + u)), some (.int x2)] []) (x2 : Int32) (FM : FMem), X7_copyFrom_b6s t u k6 x2 FM = some (r0, FR) → V FM 6 [some (.ref (b + t)), some (.ref (b + u)), some (.int x2)] [] := by
    intro k6 hk6 x2 FM h
    unfold X7_copyFrom_b6s at h
    refine r_iload_n hV dX7_copyFrom_6 rfl ?_
    refine r_aload_n hV dX7_copyFrom_7 rfl ?_
    refine r_geto hV fl_X7_21 hU.2.2.1 rfl dX7_copyFrom_8 ?_
    refine r_icmpge hV 49 dX7_copyFrom_11 rfl (fun c4 => ?_) (fun c4 => ?_)
    · have h := (if_pos c4).symm.trans h
      exact r_vret hV rfl dX7_copyFrom_49 rfl (ret_m h)
    · have h := (if_neg c4).symm.trans h
      refine r_iload_n hV dX7_copyFrom_14 rfl ?_
      refine r_bipush (v := (9 : Int32)) hV dX7_copyFrom_15 rfl ?_
      refine r_icmpge hV 49 dX7_copyFrom_17 rfl (fun c5 => ?_) (fun c5 => ?_)
      · have h := (if_pos c5).symm.trans h
        exact r_vret hV rfl dX7_copyFrom_49 rfl (ret_m h)
      · have h := (if_neg c5).symm.trans h
        refine r_aload_n hV dX7_copyFrom_20 rfl ?_
        refine r_aload_n hV dX7_copyFrom_21 rfl ?_
        refine r_geto hV fl_X7_9 hU.2.2.1 rfl dX7_copyFrom_22 ?_
        refine r_iload_n hV dX7_copyFrom_25 rfl ?_
        obtain ⟨g6, h⟩ := grd_some h
        refine r_ald hV hU.2.2.2.1 (inb_in g6) ((x2).toNatClampNeg) rfl dX7_copyFrom_26 ?_
        refine r_aload_n hV dX7_copyFrom_27 rfl ?_
        refine r_geto hV fl_X7_15 hU.2.2.1 rfl dX7_copyFrom_28 ?_
        refine r_iload_n hV dX7_copyFrom_31 rfl ?_
        obtain ⟨g7, h⟩ := grd_some h
        refine r_ald hV hU.2.2.2.2.1 (inb_in g7) ((x2).toNatClampNeg) rfl dX7_copyFrom_32 ?_
        refine r_aload_n hV dX7_copyFrom_33 rfl ?_
        refine r_geto hV fl_X7_18 hU.2.2.1 rfl dX7_copyFrom_34 ?_
        refine r_iload_n hV dX7_copyFrom_37 rfl ?_
        obtain ⟨g8, h⟩ := grd_some h
        refine r_ald hV hU.2.2.2.2.2 (inb_in g8) ((x2).toNatClampNeg) rfl dX7_copyFrom_38 ?_
        obtain ⟨r9, M10, q11, h⟩ := bnd_some h
        refine r_cVi hV (m_X7_add l D cI cM b t hT (FM (u + 1) ((x2).toNatClampNeg)) (FM (u + 2) ((x2).toNatClampNeg)) (FM (u + 3) ((x2).toNatClampNeg)) FM _ _ q11) ml_X7_28 hT.2.2.1 rfl rfl (by decide) (Nat.le_of_ble_eq_true rfl) rfl dX7_copyFrom_39 ?_
        refine r_pop hV dX7_copyFrom_42 rfl ?_
        refine r_iinc (v := (1 : Int32)) hV dX7_copyFrom_43 rfl rfl rfl ?_
        refine r_goto hV 6 dX7_copyFrom_46 rfl ?_
        exact hk6 (x2 + (1 : Int32)) M10 h
  have L6 : ∀ (nf : Nat) (x2 : Int32) (FM : FMem), X7_copyFrom_b6 t u nf x2 FM = some (r0, FR) → V FM 6 [some (.ref (b + t)), some (.ref (b + u)), some (.int x2)] [] := by
    intro  nf
    induction nf with
    | zero => intro x2 FM h; exact absurd (show (none : Opt) = some (r0, FR) from h) (fun h9 => by cases h9)
    | succ nf ih => intro x2 FM h; exact B6 (X7_copyFrom_b6 t u nf) ih x2 FM h
  unfold f_X7_copyFrom at h
  refine r_aload_n hV dX7_copyFrom_0 rfl ?_
  obtain ⟨r1, M2, q3, h⟩ := bnd_some h
  refine r_cVv hV (m_X7_clear l D cI cM b t hT FM _ _ q3) ml_X7_25 hT.2.2.1 rfl rfl (by decide) (Nat.le_of_ble_eq_true rfl) rfl dX7_copyFrom_1 ?_
  refine r_iconst (v := (0 : Int32)) hV dX7_copyFrom_4 rfl ?_
  refine r_istore_n hV dX7_copyFrom_5 (Nat.le_of_ble_eq_true rfl) rfl ?_
  exact L6 FU (0 : Int32) M2 h
