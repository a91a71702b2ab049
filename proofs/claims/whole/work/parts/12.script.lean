def f_X4_append (a1 : Int32) (FM : FMem) : Opt :=
  if (FM 1 1) < (200 : Int32) then (
    grd (inb (FM 1 1) 200) <|
    bindm (fset FM 2 (((FM 1 1)).toNatClampNeg) a1) fun M3 =>
    bindm (fset M3 1 1 ((M3 1 1) + (1 : Int32))) fun M4 =>
    some ((1 : Int32), M4)
  ) else (
    some ((0 : Int32), FM)
  )
set_option maxHeartbeats 4000000 in
set_option maxRecDepth 100000 in
theorem m_X4_append (l : Launch) (D : va_G) (cI cM : ClassId) (b : Nat) (a1 : Int32) (FM : FMem) (r0 : Int32) (FR : FMem) (h : f_X4_append a1 FM = some (r0, FR)) : Mt l (wdC D cI cM b) yX4_append cX4_append 2 (some .boolean) 0 0 [.ref (b + 1), .int a1] FM (some (.int r0)) FR := by
  refine Mt.of (by decide) (cat_cons rfl (cat_cons rfl cat_nil)) [some (.ref (b + 1)), some (.int a1)] rfl (Nat.le_of_ble_eq_true rfl) (fun V hV => ?_)
  unfold f_X4_append at h
  refine r_aload_n hV dX4_append_0 rfl ?_
  refine r_geto hV fl_X4_15 ob_1 rfl dX4_append_1 ?_
  refine r_sipush (v := (200 : Int32)) hV dX4_append_4 rfl ?_
  refine r_icmplt hV 12 dX4_append_7 rfl (fun c1 => ?_) (fun c1 => ?_)
  · have h := (if_pos c1).symm.trans h
    refine r_aload_n hV dX4_append_12 rfl ?_
    refine r_geto hV fl_X4_9 ob_1 rfl dX4_append_13 ?_
    refine r_aload_n hV dX4_append_16 rfl ?_
    refine r_geto hV fl_X4_15 ob_1 rfl dX4_append_17 ?_
    refine r_iload_n hV dX4_append_20 rfl ?_
    obtain ⟨g2, h⟩ := grd_some h
    refine r_ast hV ar_2 (inb_in g2) (((FM 1 1)).toNatClampNeg) rfl dX4_append_21 ?_
    refine r_bm h (fun M3 h => ?_)
    refine r_aload_n hV dX4_append_22 rfl ?_
    refine r_dup hV dX4_append_23 rfl ?_
    refine r_geto hV fl_X4_15 ob_1 rfl dX4_append_24 ?_
    refine r_iconst (v := (1 : Int32)) hV dX4_append_27 rfl ?_
    refine r_iadd hV dX4_append_28 ?_
    refine r_puti hV fl_X4_15 ob_1 (fun _ _ => rfl) (Nat.le_of_ble_eq_true rfl) dX4_append_29 ?_
    refine r_bm h (fun M4 h => ?_)
    refine r_iconst (v := (1 : Int32)) hV dX4_append_32 rfl ?_
    exact r_zret hV rfl (Or.inr rfl) dX4_append_33 (ret_r h) (ret_m h)
  · have h := (if_neg c1).symm.trans h
    refine r_iconst (v := (0 : Int32)) hV dX4_append_10 rfl ?_
    exact r_zret hV rfl (Or.inl rfl) dX4_append_11 (ret_r h) (ret_m h)
def f_X4_clear (FM : FMem) : Opt :=
  bindm (fset FM 1 1 (0 : Int32)) fun M1 =>
  some (0, M1)
set_option maxHeartbeats 4000000 in
set_option maxRecDepth 100000 in
theorem m_X4_clear (l : Launch) (D : va_G) (cI cM : ClassId) (b : Nat) (FM : FMem) (r0 : Int32) (FR : FMem) (h : f_X4_clear FM = some (r0, FR)) : Mt l (wdC D cI cM b) yX4_clear cX4_clear 1 none 0 0 [.ref (b + 1)] FM none FR := by
  refine Mt.of (by decide) (cat_cons rfl cat_nil) [some (.ref (b + 1))] rfl (Nat.le_of_ble_eq_true rfl) (fun V hV => ?_)
  unfold f_X4_clear at h
  refine r_aload_n hV dX4_clear_0 rfl ?_
  refine r_iconst (v := (0 : Int32)) hV dX4_clear_1 rfl ?_
  refine r_puti hV fl_X4_15 ob_1 (fun _ _ => rfl) (Nat.le_of_ble_eq_true rfl) dX4_clear_2 ?_
  refine r_bm h (fun M1 h => ?_)
  exact r_vret hV rfl dX4_clear_5 rfl (ret_m h)
def f_X4_letterAt (a1 : Int32) (FM : FMem) : Opt :=
  if a1 < 0 then (
    some ((-1 : Int32), FM)
  ) else (
    if (FM 1 1) ≤ a1 then (
      some ((-1 : Int32), FM)
    ) else (
      if (200 : Int32) ≤ a1 then (
        some ((-1 : Int32), FM)
      ) else (
        grd (inb a1 200) <|
        some ((FM 2 ((a1).toNatClampNeg)), FM)
      )
    )
  )
set_option maxHeartbeats 4000000 in
set_option maxRecDepth 100000 in
theorem m_X4_letterAt (l : Launch) (D : va_G) (cI cM : ClassId) (b : Nat) (a1 : Int32) (FM : FMem) (r0 : Int32) (FR : FMem) (h : f_X4_letterAt a1 FM = some (r0, FR)) : Mt l (wdC D cI cM b) yX4_letterAt cX4_letterAt 2 (some .int) 0 0 [.ref (b + 1), .int a1] FM (some (.int r0)) FR := by
  refine Mt.of (by decide) (cat_cons rfl (cat_cons rfl cat_nil)) [some (.ref (b + 1)), some (.int a1)] rfl (Nat.le_of_ble_eq_true rfl) (fun V hV => ?_)
  unfold f_X4_letterAt at h
  refine r_iload_n hV dX4_letterAt_0 rfl ?_
  refine r_iflt hV 28 dX4_letterAt_1 rfl (fun c1 => ?_) (fun c1 => ?_)
  · have h := (if_pos c1).symm.trans h
    refine r_iconst (v := (-1 : Int32)) hV dX4_letterAt_28 rfl ?_
    exact r_iret hV rfl dX4_letterAt_29 (ret_r h) (ret_m h)
  · have h := (if_neg c1).symm.trans h
    refine r_iload_n hV dX4_letterAt_4 rfl ?_
    refine r_aload_n hV dX4_letterAt_5 rfl ?_
    refine r_geto hV fl_X4_15 ob_1 rfl dX4_letterAt_6 ?_
    refine r_icmpge hV 28 dX4_letterAt_9 rfl (fun c2 => ?_) (fun c2 => ?_)
    · have h := (if_pos c2).symm.trans h
      refine r_iconst (v := (-1 : Int32)) hV dX4_letterAt_28 rfl ?_
      exact r_iret hV rfl dX4_letterAt_29 (ret_r h) (ret_m h)
    · have h := (if_neg c2).symm.trans h
      refine r_iload_n hV dX4_letterAt_12 rfl ?_
      refine r_sipush (v := (200 : Int32)) hV dX4_letterAt_13 rfl ?_
      refine r_icmpge hV 28 dX4_letterAt_16 rfl (fun c3 => ?_) (fun c3 => ?_)
      · have h := (if_pos c3).symm.trans h
        refine r_iconst (v := (-1 : Int32)) hV dX4_letterAt_28 rfl ?_
        exact r_iret hV rfl dX4_letterAt_29 (ret_r h) (ret_m h)
      · have h := (if_neg c3).symm.trans h
        refine r_aload_n hV dX4_letterAt_19 rfl ?_
        refine r_geto hV fl_X4_9 ob_1 rfl dX4_letterAt_20 ?_
        refine r_iload_n hV dX4_letterAt_23 rfl ?_
        obtain ⟨g4, h⟩ := grd_some h
        refine r_ald hV ar_2 (inb_in g4) ((a1).toNatClampNeg) rfl dX4_letterAt_24 ?_
        refine r_goto hV 29 dX4_letterAt_25 rfl ?_
        exact r_iret hV rfl dX4_letterAt_29 (ret_r h) (ret_m h)
def f_X4_isFigure (a1 : Int32) (FM : FMem) : Opt :=
  bnd (f_X4_letterAt a1 FM) fun r1 M2 =>
  if r1 < (48 : Int32) then (
    some ((0 : Int32), M2)
  ) else (
    if (57 : Int32) < r1 then (
      some ((0 : Int32), M2)
    ) else (
      some ((1 : Int32), M2)
    )
  )
set_option maxHeartbeats 4000000 in
set_option maxRecDepth 100000 in
theorem m_X4_isFigure (l : Launch) (D : va_G) (cI cM : ClassId) (b : Nat) (a1 : Int32) (FM : FMem) (r0 : Int32) (FR : FMem) (h : f_X4_isFigure a1 FM = some (r0, FR)) : Mt l (wdC D cI cM b) yX4_isFigure cX4_isFigure 3 (some .boolean) 1 21 [.ref (b + 1), .int a1] FM (some (.int r0)) FR := by
  refine Mt.of (by decide) (cat_cons rfl (cat_cons rfl cat_nil)) [some (.ref (b + 1)), some (.int a1), none] rfl (Nat.le_of_ble_eq_true rfl) (fun V hV => ?_)
  unfold f_X4_isFigure at h
  refine r_aload_n hV dX4_isFigure_0 rfl ?_
  refine r_iload_n hV dX4_isFigure_1 rfl ?_
  obtain ⟨r1, M2, q3, h⟩ := bnd_some h
  refine r_cVi hV (m_X4_letterAt l D cI cM b a1 FM _ _ q3) ml_X4_19 ob_1 rfl rfl (by decide) (Nat.le_of_ble_eq_true rfl) rfl dX4_isFigure_2 ?_
  refine r_istore_n hV dX4_isFigure_5 (Nat.le_of_ble_eq_true rfl) rfl ?_
  refine r_iload_n hV dX4_isFigure_6 rfl ?_
  refine r_bipush (v := (48 : Int32)) hV dX4_isFigure_7 rfl ?_
  refine r_icmplt hV 22 dX4_isFigure_9 rfl (fun c4 => ?_) (fun c4 => ?_)
  · have h := (if_pos c4).symm.trans h
    refine r_iconst (v := (0 : Int32)) hV dX4_isFigure_22 rfl ?_
    exact r_zret hV rfl (Or.inl rfl) dX4_isFigure_23 (ret_r h) (ret_m h)
  · have h := (if_neg c4).symm.trans h
    refine r_iload_n hV dX4_isFigure_12 rfl ?_
    refine r_bipush (v := (57 : Int32)) hV dX4_isFigure_13 rfl ?_
    refine r_icmpgt hV 22 dX4_isFigure_15 rfl (fun c5 => ?_) (fun c5 => ?_)
    · have h := (if_pos c5).symm.trans h
      refine r_iconst (v := (0 : Int32)) hV dX4_isFigure_22 rfl ?_
      exact r_zret hV rfl (Or.inl rfl) dX4_isFigure_23 (ret_r h) (ret_m h)
    · have h := (if_neg c5).symm.trans h
      refine r_iconst (v := (1 : Int32)) hV dX4_isFigure_18 rfl ?_
      refine r_goto hV 23 dX4_isFigure_19 rfl ?_
      exact r_zret hV rfl (Or.inr rfl) dX4_isFigure_23 (ret_r h) (ret_m h)
def X4_figuresAt_b2s (k2 : Int32 → Int32 → FMem → Opt) (x1 : Int32) (x2 : Int32) (FM : FMem) : Opt :=
  if (3 : Int32) ≤ x2 then (
    some (x2, FM)
  ) else (
    bnd (f_X4_isFigure (x1 + x2) FM) fun r2 M3 =>
    if r2 = 0 then (
      some (x2, M3)
    ) else (
      k2 x1 (x2 + (1 : Int32)) M3
    )
  )
def X4_figuresAt_b2 : Nat → Int32 → Int32 → FMem → Opt
  | 0, _, _, _ => none
  | nf + 1, x1, x2, FM => X4_figuresAt_b2s (X4_figuresAt_b2 nf) x1 x2 FM
def f_X4_figuresAt (a1 : Int32) (FM : FMem) : Opt :=
  X4_figuresAt_b2 FU a1 (0 : Int32) FM
set_option maxHeartbeats 4000000 in
set_option maxRecDepth 100000 in
theorem m_X4_figuresAt (l : Launch) (D : va_G) (cI cM : ClassId) (b : Nat) (a1 : Int32) (FM : FMem) (r0 : Int32) (FR : FMem) (h : f_X4_figuresAt a1 FM = some (r0, FR)) : Mt l (wdC D cI cM b) yX4_figuresAt cX4_figuresAt 3 (some .int) 2 43 [.ref (b + 1), .int a1] FM (some (.int r0)) FR := by
  refine Mt.of (by decide) (cat_cons rfl (cat_cons rfl cat_nil)) [some (.ref (b + 1)), some (.int a1), none] rfl (Nat.le_of_ble_eq_true rfl) (fun V hV => ?_)
  have B2 : ∀ (k2 : Int32 → Int32 → FMem → Opt) (hk2 : ∀ (x1 : Int32) (x2 : Int32) (FM : FMem), k2 x1 x2 FM = some (r0, FR) → V FM 2 [some (.ref (b + 1)), some (.int x1), some (.int x2)] []) (x1 : Int32) (x2 : Int32) (FM : FMem), X4_figuresAt_b2s k2 x1 x2 FM = some (r0, FR) → V FM 2 [some (.ref (b + 1)), some (.int x1), some (.int x2)] [] := by
    intro k2 hk2 x1 x2 FM h
    unfold X4_figuresAt_b2s at h
    refine r_iload_n hV dX4_figuresAt_2 rfl ?_
    refine r_iconst (v := (3 : Int32)) hV dX4_figuresAt_3 rfl ?_
    refine r_icmpge hV 23 dX4_figuresAt_4 rfl (fun c1 => ?_) (fun c1 => ?_)
    · have h := (if_pos c1).symm.trans h
      refine r_iload_n hV dX4_figuresAt_23 rfl ?_
      exact r_iret hV rfl dX4_figuresAt_24 (ret_r h) (ret_m h)
    · have h := (if_neg c1).symm.trans h
      refine r_aload_n hV dX4_figuresAt_7 rfl ?_
      refine r_iload_n hV dX4_figuresAt_8 rfl ?_
      refine r_iload_n hV dX4_figuresAt_9 rfl ?_
      refine r_iadd hV dX4_figuresAt_10 ?_
      obtain ⟨r2, M3, q4, h⟩ := bnd_some h
      refine r_cVi hV (m_X4_isFigure l D cI cM b (x1 + x2) FM _ _ q4) ml_X4_23 ob_1 rfl rfl (by decide) (Nat.le_of_ble_eq_true rfl) rfl dX4_figuresAt_11 ?_
      refine r_ifeq hV 23 dX4_figuresAt_14 rfl (fun c5 => ?_) (fun c5 => ?_)
      · have h := (if_pos c5).symm.trans h
        refine r_iload_n hV dX4_figuresAt_23 rfl ?_
        exact r_iret hV rfl dX4_figuresAt_24 (ret_r h) (ret_m h)
      · have h := (if_neg c5).symm.trans h
        refine r_iinc (v := (1 : Int32)) hV dX4_figuresAt_17 rfl rfl rfl ?_
        refine r_goto hV 2 dX4_figuresAt_20 rfl ?_
        exact hk2 x1 (x2 + (1 : Int32)) M3 h
  have L2 : ∀ (nf : Nat) (x1 : Int32) (x2 : Int32) (FM : FMem), X4_figuresAt_b2 nf x1 x2 FM = some (r0, FR) → V FM 2 [some (.ref (b + 1)), some (.int x1), some (.int x2)] [] := by
    intro  nf
    induction nf with
    | zero => intro x1 x2 FM h; exact absurd (show (none : Opt) = some (r0, FR) from h) (fun h9 => by cases h9)
    | succ nf ih => intro x1 x2 FM h; exact B2 (X4_figuresAt_b2 nf) ih x1 x2 FM h
  unfold f_X4_figuresAt at h
  refine r_iconst (v := (0 : Int32)) hV dX4_figuresAt_0 rfl ?_
  refine r_istore_n hV dX4_figuresAt_1 (Nat.le_of_ble_eq_true rfl) rfl ?_
  exact L2 FU a1 (0 : Int32) FM h
def X4_numberAt_b5s (k5 : Int32 → Int32 → Int32 → Int32 → FMem → Opt) (x1 : Int32) (x2 : Int32) (x3 : Int32) (x4 : Int32) (FM : FMem) : Opt :=
  if x2 ≤ x4 then (
    some (x3, FM)
  ) else (
    bnd (f_X4_letterAt (x1 + x4) FM) fun r2 M3 =>
    bindv ((((10 : Int32) * x3) + r2) - (48 : Int32)) fun v5 =>
    k5 x1 x2 v5 (x4 + (1 : Int32)) M3
  )
def X4_numberAt_b5 : Nat → Int32 → Int32 → Int32 → Int32 → FMem → Opt
  | 0, _, _, _, _, _ => none
  | nf + 1, x1, x2, x3, x4, FM => X4_numberAt_b5s (X4_numberAt_b5 nf) x1 x2 x3 x4 FM
def f_X4_numberAt (a1 a2 : Int32) (FM : FMem) : Opt :=
  X4_numberAt_b5 FU a1 a2 (0 : Int32) (0 : Int32) FM
set_option maxHeartbeats 4000000 in
set_option maxRecDepth 100000 in
theorem m_X4_numberAt (l : Launch) (D : va_G) (cI cM : ClassId) (b : Nat) (a1 a2 : Int32) (FM : FMem) (r0 : Int32) (FR : FMem) (h : f_X4_numberAt a1 a2 FM = some (r0, FR)) : Mt l (wdC D cI cM b) yX4_numberAt cX4_numberAt 5 (some .int) 1 21 [.ref (b + 1), .int a1, .int a2] FM (some (.int r0)) FR := by
  refine Mt.of (by decide) (cat_cons rfl (cat_cons rfl (cat_cons rfl cat_nil))) [some (.ref (b + 1)), some (.int a1), some (.int a2), none, none] rfl (Nat.le_of_ble_eq_true rfl) (fun V hV => ?_)
  have B5 : ∀ (k5 : Int32 → Int32 → Int32 → Int32 → FMem → Opt) (hk5 : ∀ (x1 : Int32) (x2 : Int32) (x3 : Int32) (x4 : Int32) (FM : FMem), k5 x1 x2 x3 x4 FM = some (r0, FR) → V FM 5 [some (.ref (b + 1)), some (.int x1), some (.int x2), some (.int x3), some (.int x4)] []) (x1 : Int32) (x2 : Int32) (x3 : Int32) (x4 : Int32) (FM : FMem), X4_numberAt_b5s k5 x1 x2 x3 x4 FM = some (r0, FR) → V FM 5 [some (.ref (b + 1)), some (.int x1), some (.int x2), some (.int x3), some (.int x4)] [] := by
    intro k5 hk5 x1 x2 x3 x4 FM h
    unfold X4_numberAt_b5s at h
    refine r_iload hV dX4_numberAt_5 rfl ?_
    refine r_iload_n hV dX4_numberAt_7 rfl ?_
    refine r_icmpge hV 34 dX4_numberAt_8 rfl (fun c1 => ?_) (fun c1 => ?_)
    · have h := (if_pos c1).symm.trans h
      refine r_iload_n hV dX4_numberAt_34 rfl ?_
      exact r_iret hV rfl dX4_numberAt_35 (ret_r h) (ret_m h)
    · have h := (if_neg c1).symm.trans h
      refine r_bipush (v := (10 : Int32)) hV dX4_numberAt_11 rfl ?_
      refine r_iload_n hV dX4_numberAt_13 rfl ?_
      refine r_imul hV dX4_numberAt_14 ?_
      refine r_aload_n hV dX4_numberAt_15 rfl ?_
      refine r_iload_n hV dX4_numberAt_16 rfl ?_
      refine r_iload hV dX4_numberAt_17 rfl ?_
      refine r_iadd hV dX4_numberAt_19 ?_
      obtain ⟨r2, M3, q4, h⟩ := bnd_some h
      refine r_cVi hV (m_X4_letterAt l D cI cM b (x1 + x4) FM _ _ q4) ml_X4_19 ob_1 rfl rfl (by decide) (Nat.le_of_ble_eq_true rfl) rfl dX4_numberAt_20 ?_
      refine r_iadd hV dX4_numberAt_23 ?_
      refine r_bipush (v := (48 : Int32)) hV dX4_numberAt_24 rfl ?_
      refine r_isub hV dX4_numberAt_26 ?_
      refine r_bv h (fun v5 h => ?_)
      refine r_istore_n hV dX4_numberAt_27 (Nat.le_of_ble_eq_true rfl) rfl ?_
      refine r_iinc (v := (1 : Int32)) hV dX4_numberAt_28 rfl rfl rfl ?_
      refine r_goto hV 5 dX4_numberAt_31 rfl ?_
      exact hk5 x1 x2 v5 (x4 + (1 : Int32)) M3 h
  have L5 : ∀ (nf : Nat) (x1 : Int32) (x2 : Int32) (x3 : Int32) (x4 : Int32) (FM : FMem), X4_numberAt_b5 nf x1 x2 x3 x4 FM = some (r0, FR) → V FM 5 [some (.ref (b + 1)), some (.int x1), some (.int x2), some (.int x3), some (.int x4)] [] := by
    intro  nf
    induction nf with
    | zero => intro x1 x2 x3 x4 FM h; exact absurd (show (none : Opt) = some (r0, FR) from h) (fun h9 => by cases h9)
    | succ nf ih => intro x1 x2 x3 x4 FM h; exact B5 (X4_numberAt_b5 nf) ih x1 x2 x3 x4 FM h
  unfold f_X4_numberAt at h
  refine r_iconst (v := (0 : Int32)) hV dX4_numberAt_0 rfl ?_
  refine r_istore_n hV dX4_numberAt_1 (Nat.le_of_ble_eq_true rfl) rfl ?_
  refine r_iconst (v := (0 : Int32)) hV dX4_numberAt_2 rfl ?_
  refine r_istore hV dX4_numberAt_3 (Nat.le_of_ble_eq_true rfl) rfl ?_
  exact L5 FU a1 a2 (0 : Int32) (0 : Int32) FM h
def f_X6_clear (FM : FMem) : Opt :=
  bindm (fset FM 91 2 (0 : Int32)) fun M1 =>
  some (0, M1)
set_option maxHeartbeats 4000000 in
set_option maxRecDepth 100000 in
theorem m_X6_clear (l : Launch) (D : va_G) (cI cM : ClassId) (b : Nat) (FM : FMem) (r0 : Int32) (FR : FMem) (h : f_X6_clear FM = some (r0, FR)) : Mt l (wdC D cI cM b) yX6_clear cX6_clear 1 none 0 0 [.ref (b + 91)] FM none FR := by
  refine Mt.of (by decide) (cat_cons rfl cat_nil) [some (.ref (b + 91))] rfl (Nat.le_of_ble_eq_true rfl) (fun V hV => ?_)
  unfold f_X6_clear at h
  refine r_aload_n hV dX6_clear_0 rfl ?_
  refine r_iconst (v := (0 : Int32)) hV dX6_clear_1 rfl ?_
  refine r_puti hV fl_X6_18 ob_91 (fun _ _ => rfl) (Nat.le_of_ble_eq_true rfl) dX6_clear_2 ?_
  refine r_bm h (fun M1 h => ?_)
  exact r_vret hV rfl dX6_clear_5 rfl (ret_m h)
def f_X6_add (a1 a2 : Int32) (FM : FMem) : Opt :=
  if (FM 91 2) < (8 : Int32) then (
    grd (inb (FM 91 2) 8) <|
    bindm (fset FM 92 (((FM 91 2)).toNatClampNeg) a1) fun M3 =>
    grd (inb (M3 91 2) 8) <|
    bindm (fset M3 93 (((M3 91 2)).toNatClampNeg) a2) fun M5 =>
    bindm (fset M5 91 2 ((M5 91 2) + (1 : Int32))) fun M6 =>
    some ((1 : Int32), M6)
  ) else (
    some ((0 : Int32), FM)
  )
set_option maxHeartbeats 4000000 in
set_option maxRecDepth 100000 in
theorem m_X6_add (l : Launch) (D : va_G) (cI cM : ClassId) (b : Nat) (a1 a2 : Int32) (FM : FMem) (r0 : Int32) (FR : FMem) (h : f_X6_add a1 a2 FM = some (r0, FR)) : Mt l (wdC D cI cM b) yX6_add cX6_add 3 (some .boolean) 0 0 [.ref (b + 91), .int a1, .int a2] FM (some (.int r0)) FR := by
  refine Mt.of (by decide) (cat_cons rfl (cat_cons rfl (cat_cons rfl cat_nil))) [some (.ref (b + 91)), some (.int a1), some (.int a2)] rfl (Nat.le_of_ble_eq_true rfl) (fun V hV => ?_)
  unfold f_X6_add at h
  refine r_aload_n hV dX6_add_0 rfl ?_
  refine r_geto hV fl_X6_18 ob_91 rfl dX6_add_1 ?_
  refine r_bipush (v := (8 : Int32)) hV dX6_add_4 rfl ?_
  refine r_icmplt hV 11 dX6_add_6 rfl (fun c1 => ?_) (fun c1 => ?_)
  · have h := (if_pos c1).symm.trans h
    refine r_aload_n hV dX6_add_11 rfl ?_
    refine r_geto hV fl_X6_9 ob_91 rfl dX6_add_12 ?_
    refine r_aload_n hV dX6_add_15 rfl ?_
    refine r_geto hV fl_X6_18 ob_91 rfl dX6_add_16 ?_
    refine r_iload_n hV dX6_add_19 rfl ?_
    obtain ⟨g2, h⟩ := grd_some h
    refine r_ast hV ar_92 (inb_in g2) (((FM 91 2)).toNatClampNeg) rfl dX6_add_20 ?_
    refine r_bm h (fun M3 h => ?_)
    refine r_aload_n hV dX6_add_21 rfl ?_
    refine r_geto hV fl_X6_15 ob_91 rfl dX6_add_22 ?_
    refine r_aload_n hV dX6_add_25 rfl ?_
    refine r_geto hV fl_X6_18 ob_91 rfl dX6_add_26 ?_
    refine r_iload_n hV dX6_add_29 rfl ?_
    obtain ⟨g4, h⟩ := grd_some h
    refine r_ast hV ar_93 (inb_in g4) (((M3 91 2)).toNatClampNeg) rfl dX6_add_30 ?_
    refine r_bm h (fun M5 h => ?_)
    refine r_aload_n hV dX6_add_31 rfl ?_
    refine r_dup hV dX6_add_32 rfl ?_
    refine r_geto hV fl_X6_18 ob_91 rfl dX6_add_33 ?_
    refine r_iconst (v := (1 : Int32)) hV dX6_add_36 rfl ?_
    refine r_iadd hV dX6_add_37 ?_
    refine r_puti hV fl_X6_18 ob_91 (fun _ _ => rfl) (Nat.le_of_ble_eq_true rfl) dX6_add_38 ?_
    refine r_bm h (fun M6 h => ?_)
    refine r_iconst (v := (1 : Int32)) hV dX6_add_41 rfl ?_
    exact r_zret hV rfl (Or.inr rfl) dX6_add_42 (ret_r h) (ret_m h)
  · have h := (if_neg c1).symm.trans h
    refine r_iconst (v := (0 : Int32)) hV dX6_add_9 rfl ?_
    exact r_zret hV rfl (Or.inl rfl) dX6_add_10 (ret_r h) (ret_m h)
def X6_agrees_b38 (k2 : Int32 → Int32 → Int32 → FMem → Opt) (x1 : Int32) (x2 : Int32) (x3 : Int32) (FM : FMem) : Opt :=
  k2 x1 x2 (x3 + (1 : Int32)) FM
def X6_agrees_b2s (k2 : Int32 → Int32 → Int32 → FMem → Opt) (x1 : Int32) (x2 : Int32) (x3 : Int32) (FM : FMem) : Opt :=
  if (FM 91 2) ≤ x3 then (
    some ((1 : Int32), FM)
  ) else (
    if (8 : Int32) ≤ x3 then (
      some ((1 : Int32), FM)
    ) else (
      grd (inb x3 8) <|
      if (FM 93 ((x3).toNatClampNeg)) = x1 then (
        grd (inb x3 8) <|
        if (FM 92 ((x3).toNatClampNeg)) = x2 then (
          X6_agrees_b38 k2 x1 x2 x3 FM
        ) else (
          some ((0 : Int32), FM)
        )
      ) else (
        X6_agrees_b38 k2 x1 x2 x3 FM
      )
    )
  )
def X6_agrees_b2 : Nat → Int32 → Int32 → Int32 → FMem → Opt
  | 0, _, _, _, _ => none
  | nf + 1, x1, x2, x3, FM => X6_agrees_b2s (X6_agrees_b2 nf) x1 x2 x3 FM
def f_X6_agrees (a1 a2 : Int32) (FM : FMem) : Opt :=
  X6_agrees_b2 FU a1 a2 (0 : Int32) FM
set_option maxHeartbeats 4000000 in
set_option maxRecDepth 100000 in
theorem m_X6_agrees (l : Launch) (D : va_G) (cI cM : ClassId) (b : Nat) (a1 a2 : Int32) (FM : FMem) (r0 : Int32) (FR : FMem) (h : f_X6_agrees a1 a2 FM = some (r0, FR)) : Mt l (wdC D cI cM b) yX6_agrees cX6_agrees 4 (some .boolean) 0 0 [.ref (b + 91), .int a1, .int a2] FM (some (.int r0)) FR := by
  refine Mt.of (by decide) (cat_cons rfl (cat_cons rfl (cat_cons rfl cat_nil))) [some (.ref (b + 91)), some (.int a1), some (.int a2), none] rfl (Nat.le_of_ble_eq_true rfl) (fun V hV => ?_)
  have B38 : ∀ (k2 : Int32 → Int32 → Int32 → FMem → Opt) (hk2 : ∀ (x1 : Int32) (x2 : Int32) (x3 : Int32) (FM : FMem), k2 x1 x2 x3 FM = some (r0, FR) → V FM 2 [some (.ref (b + 91)), some (.int x1), some (.int x2), some (.int x3)] []) (x1 : Int32) (x2 : Int32) (x3 : Int32) (FM : FMem), X6_agrees_b38 k2 x1 x2 x3 FM = some (r0, FR) → V FM 38 [some (.ref (b + 91)), some (.int x1), some (.int x2), some (.int x3)] [] := by
    intro k2 hk2 x1 x2 x3 FM h
    unfold X6_agrees_b38 at h
    refine r_iinc (v := (1 : Int32)) hV dX6_agrees_38 rfl rfl rfl ?_
    refine r_goto hV 2 dX6_agrees_41 rfl ?_
    exact hk2 x1 x2 (x3 + (1 : Int32)) FM h
  have B2 : ∀ (k2 : Int32 → Int32 → Int32 → FMem → Opt) (hk2 : ∀ (x1 : Int32) (x2 : Int32) (x3 : Int32) (FM : FMem), k2 x1 x2 x3 FM = some (r0, FR) → V FM 2 [some (.ref (b + 91)), some (.int x1), some (.int x2), some (.int x3)] []) (x1 : Int32) (x2 : Int32) (x3 : Int32) (FM : FMem), X6_agrees_b2s k2 x1 x2 x3 FM = some (r0, FR) → V FM 2 [some (.ref (b + 91)), some (.int x1), some (.int x2), some (.int x3)] [] := by
    intro k2 hk2 x1 x2 x3 FM h
    unfold X6_agrees_b2s at h
    refine r_iload_n hV dX6_agrees_2 rfl ?_
    refine r_aload_n hV dX6_agrees_3 rfl ?_
    refine r_geto hV fl_X6_18 ob_91 rfl dX6_agrees_4 ?_
    refine r_icmpge hV 44 dX6_agrees_7 rfl (fun c1 => ?_) (fun c1 => ?_)
    · have h := (if_pos c1).symm.trans h
      refine r_iconst (v := (1 : Int32)) hV dX6_agrees_44 rfl ?_
      exact r_zret hV rfl (Or.inr rfl) dX6_agrees_45 (ret_r h) (ret_m h)
    · have h := (if_neg c1).symm.trans h
      refine r_iload_n hV dX6_agrees_10 rfl ?_
      refine r_bipush (v := (8 : Int32)) hV dX6_agrees_11 rfl ?_
      refine r_icmpge hV 44 dX6_agrees_13 rfl (fun c2 => ?_) (fun c2 => ?_)
      · have h := (if_pos c2).symm.trans h
        refine r_iconst (v := (1 : Int32)) hV dX6_agrees_44 rfl ?_
        exact r_zret hV rfl (Or.inr rfl) dX6_agrees_45 (ret_r h) (ret_m h)
      · have h := (if_neg c2).symm.trans h
        refine r_aload_n hV dX6_agrees_16 rfl ?_
        refine r_geto hV fl_X6_15 ob_91 rfl dX6_agrees_17 ?_
        refine r_iload_n hV dX6_agrees_20 rfl ?_
        obtain ⟨g3, h⟩ := grd_some h
        refine r_ald hV ar_93 (inb_in g3) ((x3).toNatClampNeg) rfl dX6_agrees_21 ?_
        refine r_iload_n hV dX6_agrees_22 rfl ?_
        refine r_icmpne hV 38 dX6_agrees_23 rfl (fun c4 => ?_) (fun c4 => ?_)
        · have h := (if_neg c4).symm.trans h
          exact B38 k2 hk2 x1 x2 x3 FM h
        · have h := (if_pos c4).symm.trans h
          refine r_aload_n hV dX6_agrees_26 rfl ?_
          refine r_geto hV fl_X6_9 ob_91 rfl dX6_agrees_27 ?_
          refine r_iload_n hV dX6_agrees_30 rfl ?_
          obtain ⟨g5, h⟩ := grd_some h
          refine r_ald hV ar_92 (inb_in g5) ((x3).toNatClampNeg) rfl dX6_agrees_31 ?_
          refine r_iload_n hV dX6_agrees_32 rfl ?_
          refine r_icmpeq hV 38 dX6_agrees_33 rfl (fun c6 => ?_) (fun c6 => ?_)
          · have h := (if_pos c6).symm.trans h
            exact B38 k2 hk2 x1 x2 x3 FM h
          · have h := (if_neg c6).symm.trans h
            refine r_iconst (v := (0 : Int32)) hV dX6_agrees_36 rfl ?_
            exact r_zret hV rfl (Or.inl rfl) dX6_agrees_37 (ret_r h) (ret_m h)
  have L2 : ∀ (nf : Nat) (x1 : Int32) (x2 : Int32) (x3 : Int32) (FM : FMem), X6_agrees_b2 nf x1 x2 x3 FM = some (r0, FR) → V FM 2 [some (.ref (b + 91)), some (.int x1), some (.int x2), some (.int x3)] [] := by
    intro  nf
    induction nf with
    | zero => intro x1 x2 x3 FM h; exact absurd (show (none : Opt) = some (r0, FR) from h) (fun h9 => by cases h9)
    | succ nf ih => intro x1 x2 x3 FM h; exact B2 (X6_agrees_b2 nf) ih x1 x2 x3 FM h
  unfold f_X6_agrees at h
  refine r_iconst (v := (0 : Int32)) hV dX6_agrees_0 rfl ?_
  refine r_istore_n hV dX6_agrees_1 (Nat.le_of_ble_eq_true rfl) rfl ?_
  exact L2 FU a1 a2 (0 : Int32) FM h
def X6_lastDay_b4s (k4 : Int32 → Int32 → FMem → Opt) (x1 : Int32) (x2 : Int32) (FM : FMem) : Opt :=
  if (FM 91 2) ≤ x2 then (
    some (x1, FM)
  ) else (
    if (8 : Int32) ≤ x2 then (
      some (x1, FM)
    ) else (
      grd (inb x2 8) <|
      bindv (jmax x1 (FM 93 ((x2).toNatClampNeg))) fun v4 =>
      k4 v4 (x2 + (1 : Int32)) FM
    )
  )
def X6_lastDay_b4 : Nat → Int32 → Int32 → FMem → Opt
  | 0, _, _, _ => none
  | nf + 1, x1, x2, FM => X6_lastDay_b4s (X6_lastDay_b4 nf) x1 x2 FM
def f_X6_lastDay (FM : FMem) : Opt :=
  X6_lastDay_b4 FU (-1 : Int32) (0 : Int32) FM
set_option maxHeartbeats 4000000 in
set_option maxRecDepth 100000 in
theorem m_X6_lastDay (l : Launch) (D : va_G) (cI cM : ClassId) (b : Nat) (FM : FMem) (r0 : Int32) (FR : FMem) (h : f_X6_lastDay FM = some (r0, FR)) : Mt l (wdC D cI cM b) yX6_lastDay cX6_lastDay 3 (some .int) 1 21 [.ref (b + 91)] FM (some (.int r0)) FR := by
  refine Mt.of (by decide) (cat_cons rfl cat_nil) [some (.ref (b + 91)), none, none] rfl (Nat.le_of_ble_eq_true rfl) (fun V hV => ?_)
  have B4 : ∀ (k4 : Int32 → Int32 → FMem → Opt) (hk4 : ∀ (x1 : Int32) (x2 : Int32) (FM : FMem), k4 x1 x2 FM = some (r0, FR) → V FM 4 [some (.ref (b + 91)), some (.int x1), some (.int x2)] []) (x1 : Int32) (x2 : Int32) (FM : FMem), X6_lastDay_b4s k4 x1 x2 FM = some (r0, FR) → V FM 4 [some (.ref (b + 91)), some (.int x1), some (.int x2)] [] := by
    intro k4 hk4 x1 x2 FM h
    unfold X6_lastDay_b4s at h
    refine r_iload_n hV dX6_lastDay_4 rfl ?_
    refine r_aload_n hV dX6_lastDay_5 rfl ?_
    refine r_geto hV fl_X6_18 ob_91 rfl dX6_lastDay_6 ?_
    refine r_icmpge hV 35 dX6_lastDay_9 rfl (fun c1 => ?_) (fun c1 => ?_)
    · have h := (if_pos c1).symm.trans h
      refine r_iload_n hV dX6_lastDay_35 rfl ?_
      exact r_iret hV rfl dX6_lastDay_36 (ret_r h) (ret_m h)
    · have h := (if_neg c1).symm.trans h
      refine r_iload_n hV dX6_lastDay_12 rfl ?_
      refine r_bipush (v := (8 : Int32)) hV dX6_lastDay_13 rfl ?_
      refine r_icmpge hV 35 dX6_lastDay_15 rfl (fun c2 => ?_) (fun c2 => ?_)
      · have h := (if_pos c2).symm.trans h
        refine r_iload_n hV dX6_lastDay_35 rfl ?_
        exact r_iret hV rfl dX6_lastDay_36 (ret_r h) (ret_m h)
      · have h := (if_neg c2).symm.trans h
        refine r_iload_n hV dX6_lastDay_18 rfl ?_
        refine r_aload_n hV dX6_lastDay_19 rfl ?_
        refine r_geto hV fl_X6_15 ob_91 rfl dX6_lastDay_20 ?_
        refine r_iload_n hV dX6_lastDay_23 rfl ?_
        obtain ⟨g3, h⟩ := grd_some h
        refine r_ald hV ar_93 (inb_in g3) ((x2).toNatClampNeg) rfl dX6_lastDay_24 ?_
        refine r_mmax hV (inT_of 727 (by decide +kernel) (by decide +kernel)) (inT_of 195 (by decide +kernel) (by decide +kernel)) (inT_of 51 (by decide +kernel) (by decide +kernel)) (inT_of 196 (by decide +kernel) (by decide +kernel)) ⟨Nat.le_of_ble_eq_true rfl, Nat.le_of_ble_eq_true rfl⟩ dX6_lastDay_25 ?_
        refine r_bv h (fun v4 h => ?_)
        refine r_istore_n hV dX6_lastDay_28 (Nat.le_of_ble_eq_true rfl) rfl ?_
        refine r_iinc (v := (1 : Int32)) hV dX6_lastDay_29 rfl rfl rfl ?_
        refine r_goto hV 4 dX6_lastDay_32 rfl ?_
        exact hk4 v4 (x2 + (1 : Int32)) FM h
  have L4 : ∀ (nf : Nat) (x1 : Int32) (x2 : Int32) (FM : FMem), X6_lastDay_b4 nf x1 x2 FM = some (r0, FR) → V FM 4 [some (.ref (b + 91)), some (.int x1), some (.int x2)] [] := by
    intro  nf
    induction nf with
    | zero => intro x1 x2 FM h; exact absurd (show (none : Opt) = some (r0, FR) from h) (fun h9 => by cases h9)
    | succ nf ih => intro x1 x2 FM h; exact B4 (X6_lastDay_b4 nf) ih x1 x2 FM h
  unfold f_X6_lastDay at h
  refine r_iconst (v := (-1 : Int32)) hV dX6_lastDay_0 rfl ?_
  refine r_istore_n hV dX6_lastDay_1 (Nat.le_of_ble_eq_true rfl) rfl ?_
  refine r_iconst (v := (0 : Int32)) hV dX6_lastDay_2 rfl ?_
  refine r_istore_n hV dX6_lastDay_3 (Nat.le_of_ble_eq_true rfl) rfl ?_
  exact L4 FU (-1 : Int32) (0 : Int32) FM h
