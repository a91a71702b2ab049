def f_X9_tellsPerson (a1 a2 a3 : Int32) (FM : FMem) : Opt :=
  grd (inb ((3 : Int32) * (FM 0 15)) 18) <|
  bindm (fset FM 9 ((((3 : Int32) * (FM 0 15))).toNatClampNeg) a1) fun M2 =>
  grd (inb (((3 : Int32) * (M2 0 15)) + (1 : Int32)) 18) <|
  bindm (fset M2 9 (((((3 : Int32) * (M2 0 15)) + (1 : Int32))).toNatClampNeg) a2) fun M4 =>
  grd (inb (((3 : Int32) * (M4 0 15)) + (2 : Int32)) 18) <|
  bindm (fset M4 9 (((((3 : Int32) * (M4 0 15)) + (2 : Int32))).toNatClampNeg) a3) fun M6 =>
  bindm (fset M6 0 15 ((M6 0 15) + (1 : Int32))) fun M7 =>
  some (0, M7)
set_option maxHeartbeats 4000000 in
set_option maxRecDepth 100000 in
theorem m_X9_tellsPerson (l : Launch) (D : va_G) (cI : ClassId) (b : Nat) (a1 a2 a3 : Int32) (FM : FMem) (r0 : Int32) (FR : FMem) (h : f_X9_tellsPerson a1 a2 a3 FM = some (r0, FR)) : Mt l (wdM D cI b) yX9_tellsPerson cX9_tellsPerson 4 none 0 0 [.ref (b + 0), .int a1, .int a2, .int a3] FM none FR := by
  refine Mt.of (by decide) (cat_cons rfl (cat_cons rfl (cat_cons rfl (cat_cons rfl cat_nil)))) [some (.ref (b + 0)), some (.int a1), some (.int a2), some (.int a3)] rfl (Nat.le_of_ble_eq_true rfl) (fun V hV => ?_)
  unfold f_X9_tellsPerson at h
  refine r_aload_n hV dX9_tellsPerson_0 rfl ?_
  refine r_geto hV fl_X9_34 obM_0 rfl dX9_tellsPerson_1 ?_
  refine r_iconst (v := (3 : Int32)) hV dX9_tellsPerson_4 rfl ?_
  refine r_aload_n hV dX9_tellsPerson_5 rfl ?_
  refine r_geto hV fl_X9_63 obM_0 rfl dX9_tellsPerson_6 ?_
  refine r_imul hV dX9_tellsPerson_9 ?_
  refine r_iload_n hV dX9_tellsPerson_10 rfl ?_
  obtain ⟨g1, h⟩ := grd_some h
  refine r_ast hV arM_9 (inb_in g1) ((((3 : Int32) * (FM 0 15))).toNatClampNeg) rfl dX9_tellsPerson_11 ?_
  refine r_bm h (fun M2 h => ?_)
  refine r_aload_n hV dX9_tellsPerson_12 rfl ?_
  refine r_geto hV fl_X9_34 obM_0 rfl dX9_tellsPerson_13 ?_
  refine r_iconst (v := (3 : Int32)) hV dX9_tellsPerson_16 rfl ?_
  refine r_aload_n hV dX9_tellsPerson_17 rfl ?_
  refine r_geto hV fl_X9_63 obM_0 rfl dX9_tellsPerson_18 ?_
  refine r_imul hV dX9_tellsPerson_21 ?_
  refine r_iconst (v := (1 : Int32)) hV dX9_tellsPerson_22 rfl ?_
  refine r_iadd hV dX9_tellsPerson_23 ?_
  refine r_iload_n hV dX9_tellsPerson_24 rfl ?_
  obtain ⟨g3, h⟩ := grd_some h
  refine r_ast hV arM_9 (inb_in g3) (((((3 : Int32) * (M2 0 15)) + (1 : Int32))).toNatClampNeg) rfl dX9_tellsPerson_25 ?_
  refine r_bm h (fun M4 h => ?_)
  refine r_aload_n hV dX9_tellsPerson_26 rfl ?_
  refine r_geto hV fl_X9_34 obM_0 rfl dX9_tellsPerson_27 ?_
  refine r_iconst (v := (3 : Int32)) hV dX9_tellsPerson_30 rfl ?_
  refine r_aload_n hV dX9_tellsPerson_31 rfl ?_
  refine r_geto hV fl_X9_63 obM_0 rfl dX9_tellsPerson_32 ?_
  refine r_imul hV dX9_tellsPerson_35 ?_
  refine r_iconst (v := (2 : Int32)) hV dX9_tellsPerson_36 rfl ?_
  refine r_iadd hV dX9_tellsPerson_37 ?_
  refine r_iload_n hV dX9_tellsPerson_38 rfl ?_
  obtain ⟨g5, h⟩ := grd_some h
  refine r_ast hV arM_9 (inb_in g5) (((((3 : Int32) * (M4 0 15)) + (2 : Int32))).toNatClampNeg) rfl dX9_tellsPerson_39 ?_
  refine r_bm h (fun M6 h => ?_)
  refine r_aload_n hV dX9_tellsPerson_40 rfl ?_
  refine r_dup hV dX9_tellsPerson_41 rfl ?_
  refine r_geto hV fl_X9_63 obM_0 rfl dX9_tellsPerson_42 ?_
  refine r_iconst (v := (1 : Int32)) hV dX9_tellsPerson_45 rfl ?_
  refine r_iadd hV dX9_tellsPerson_46 ?_
  refine r_puti hV fl_X9_63 obM_0 (fun _ _ => rfl) (Nat.le_of_ble_eq_true rfl) dX9_tellsPerson_47 ?_
  refine r_bm h (fun M7 h => ?_)
  exact r_vret hV rfl dX9_tellsPerson_50 rfl (ret_m h)
def f_X9_addsThing (u : Nat) (a1 a2 a3 : Int32) (FM : FMem) : Opt :=
  bindv ((16 : Int32) + ((3 : Int32) * (FM u 2))) fun v1 =>
  grd (inb v1 46) <|
  bindm (fset FM u ((v1).toNatClampNeg) a1) fun M3 =>
  grd (inb (v1 + (1 : Int32)) 46) <|
  bindm (fset M3 u (((v1 + (1 : Int32))).toNatClampNeg) a2) fun M5 =>
  grd (inb (v1 + (2 : Int32)) 46) <|
  bindm (fset M5 u (((v1 + (2 : Int32))).toNatClampNeg) a3) fun M7 =>
  bindm (fset M7 u (2) ((M7 u 2) + (1 : Int32))) fun M8 =>
  some (0, M8)
set_option maxHeartbeats 4000000 in
set_option maxRecDepth 100000 in
theorem m_X9_addsThing (l : Launch) (D : va_G) (cI : ClassId) (b : Nat) (u : Nat) (hU : isAr (wdM D cI b) cI u 46) (a1 a2 a3 : Int32) (FM : FMem) (r0 : Int32) (FR : FMem) (h : f_X9_addsThing u a1 a2 a3 FM = some (r0, FR)) : Mt l (wdM D cI b) yX9_addsThing cX9_addsThing 5 none 0 0 [.ref (b + u), .int a1, .int a2, .int a3] FM none FR := by
  refine Mt.of (by decide) (cat_cons rfl (cat_cons rfl (cat_cons rfl (cat_cons rfl cat_nil)))) [some (.ref (b + u)), some (.int a1), some (.int a2), some (.int a3), none] rfl (Nat.le_of_ble_eq_true rfl) (fun V hV => ?_)
  unfold f_X9_addsThing at h
  refine r_bipush (v := (16 : Int32)) hV dX9_addsThing_0 rfl ?_
  refine r_iconst (v := (3 : Int32)) hV dX9_addsThing_2 rfl ?_
  refine r_aload_n hV dX9_addsThing_3 rfl ?_
  refine r_iconst (v := (2 : Int32)) hV dX9_addsThing_4 rfl ?_
  refine r_ald hV hU (inb_in rfl) (2) rfl dX9_addsThing_5 ?_
  refine r_imul hV dX9_addsThing_6 ?_
  refine r_iadd hV dX9_addsThing_7 ?_
  refine r_bv h (fun v1 h => ?_)
  refine r_istore hV dX9_addsThing_8 (Nat.le_of_ble_eq_true rfl) rfl ?_
  refine r_aload_n hV dX9_addsThing_10 rfl ?_
  refine r_iload hV dX9_addsThing_11 rfl ?_
  refine r_iload_n hV dX9_addsThing_13 rfl ?_
  obtain ⟨g2, h⟩ := grd_some h
  refine r_ast hV hU (inb_in g2) ((v1).toNatClampNeg) rfl dX9_addsThing_14 ?_
  refine r_bm h (fun M3 h => ?_)
  refine r_aload_n hV dX9_addsThing_15 rfl ?_
  refine r_iload hV dX9_addsThing_16 rfl ?_
  refine r_iconst (v := (1 : Int32)) hV dX9_addsThing_18 rfl ?_
  refine r_iadd hV dX9_addsThing_19 ?_
  refine r_iload_n hV dX9_addsThing_20 rfl ?_
  obtain ⟨g4, h⟩ := grd_some h
  refine r_ast hV hU (inb_in g4) (((v1 + (1 : Int32))).toNatClampNeg) rfl dX9_addsThing_21 ?_
  refine r_bm h (fun M5 h => ?_)
  refine r_aload_n hV dX9_addsThing_22 rfl ?_
  refine r_iload hV dX9_addsThing_23 rfl ?_
  refine r_iconst (v := (2 : Int32)) hV dX9_addsThing_25 rfl ?_
  refine r_iadd hV dX9_addsThing_26 ?_
  refine r_iload_n hV dX9_addsThing_27 rfl ?_
  obtain ⟨g6, h⟩ := grd_some h
  refine r_ast hV hU (inb_in g6) (((v1 + (2 : Int32))).toNatClampNeg) rfl dX9_addsThing_28 ?_
  refine r_bm h (fun M7 h => ?_)
  refine r_aload_n hV dX9_addsThing_29 rfl ?_
  refine r_iconst (v := (2 : Int32)) hV dX9_addsThing_30 rfl ?_
  refine r_dup2 hV dX9_addsThing_31 rfl rfl ?_
  refine r_ald hV hU (inb_in rfl) (2) rfl dX9_addsThing_32 ?_
  refine r_iconst (v := (1 : Int32)) hV dX9_addsThing_33 rfl ?_
  refine r_iadd hV dX9_addsThing_34 ?_
  refine r_ast hV hU (inb_in rfl) (2) rfl dX9_addsThing_35 ?_
  refine r_bm h (fun M8 h => ?_)
  exact r_vret hV rfl dX9_addsThing_36 rfl (ret_m h)
def f_X9_in (a0 a1 a2 : Int32) (FM : FMem) : Opt :=
  if a0 < a1 then (
    some ((0 : Int32), FM)
  ) else (
    if a2 < a0 then (
      some ((0 : Int32), FM)
    ) else (
      some ((1 : Int32), FM)
    )
  )
set_option maxHeartbeats 4000000 in
set_option maxRecDepth 100000 in
theorem m_X9_in (l : Launch) (D : va_G) (cI : ClassId) (b : Nat) (a0 a1 a2 : Int32) (FM : FMem) (r0 : Int32) (FR : FMem) (h : f_X9_in a0 a1 a2 FM = some (r0, FR)) : Mt l (wdM D cI b) yX9_in cX9_in 3 (some .boolean) 0 0 [.int a0, .int a1, .int a2] FM (some (.int r0)) FR := by
  refine Mt.of (by decide) (cat_cons rfl (cat_cons rfl (cat_cons rfl cat_nil))) [some (.int a0), some (.int a1), some (.int a2)] rfl (Nat.le_of_ble_eq_true rfl) (fun V hV => ?_)
  unfold f_X9_in at h
  refine r_iload_n hV dX9_in_0 rfl ?_
  refine r_iload_n hV dX9_in_1 rfl ?_
  refine r_icmplt hV 14 dX9_in_2 rfl (fun c1 => ?_) (fun c1 => ?_)
  · have h := (if_pos c1).symm.trans h
    refine r_iconst (v := (0 : Int32)) hV dX9_in_14 rfl ?_
    exact r_zret hV rfl (Or.inl rfl) dX9_in_15 (ret_r h) (ret_m h)
  · have h := (if_neg c1).symm.trans h
    refine r_iload_n hV dX9_in_5 rfl ?_
    refine r_iload_n hV dX9_in_6 rfl ?_
    refine r_icmpgt hV 14 dX9_in_7 rfl (fun c2 => ?_) (fun c2 => ?_)
    · have h := (if_pos c2).symm.trans h
      refine r_iconst (v := (0 : Int32)) hV dX9_in_14 rfl ?_
      exact r_zret hV rfl (Or.inl rfl) dX9_in_15 (ret_r h) (ret_m h)
    · have h := (if_neg c2).symm.trans h
      refine r_iconst (v := (1 : Int32)) hV dX9_in_10 rfl ?_
      refine r_goto hV 15 dX9_in_11 rfl ?_
      exact r_zret hV rfl (Or.inr rfl) dX9_in_15 (ret_r h) (ret_m h)
def f_X9_has (a0 a1 : Int32) (FM : FMem) : Opt :=
  if ((a0 >>> (a1 &&& 31)) &&& (1 : Int32)) = (1 : Int32) then (
    some ((1 : Int32), FM)
  ) else (
    some ((0 : Int32), FM)
  )
set_option maxHeartbeats 4000000 in
set_option maxRecDepth 100000 in
theorem m_X9_has (l : Launch) (D : va_G) (cI : ClassId) (b : Nat) (a0 a1 : Int32) (FM : FMem) (r0 : Int32) (FR : FMem) (h : f_X9_has a0 a1 FM = some (r0, FR)) : Mt l (wdM D cI b) yX9_has cX9_has 2 (some .boolean) 0 0 [.int a0, .int a1] FM (some (.int r0)) FR := by
  refine Mt.of (by decide) (cat_cons rfl (cat_cons rfl cat_nil)) [some (.int a0), some (.int a1)] rfl (Nat.le_of_ble_eq_true rfl) (fun V hV => ?_)
  unfold f_X9_has at h
  refine r_iload_n hV dX9_has_0 rfl ?_
  refine r_iload_n hV dX9_has_1 rfl ?_
  refine r_ishr hV dX9_has_2 ?_
  refine r_iconst (v := (1 : Int32)) hV dX9_has_3 rfl ?_
  refine r_iand hV dX9_has_4 ?_
  refine r_iconst (v := (1 : Int32)) hV dX9_has_5 rfl ?_
  refine r_icmpne hV 13 dX9_has_6 rfl (fun c1 => ?_) (fun c1 => ?_)
  · have h := (if_neg c1).symm.trans h
    refine r_iconst (v := (0 : Int32)) hV dX9_has_13 rfl ?_
    exact r_zret hV rfl (Or.inl rfl) dX9_has_14 (ret_r h) (ret_m h)
  · have h := (if_pos c1).symm.trans h
    refine r_iconst (v := (1 : Int32)) hV dX9_has_9 rfl ?_
    refine r_goto hV 14 dX9_has_10 rfl ?_
    exact r_zret hV rfl (Or.inr rfl) dX9_has_14 (ret_r h) (ret_m h)
def X9_bits_b4s (k4 : Int32 → Int32 → Int32 → FMem → Opt) (x0 : Int32) (x1 : Int32) (x2 : Int32) (FM : FMem) : Opt :=
  if (9 : Int32) < x2 then (
    some (x1, FM)
  ) else (
    bindv (x1 + ((x0 >>> (x2 &&& 31)) &&& (1 : Int32))) fun v2 =>
    k4 x0 v2 (x2 + (1 : Int32)) FM
  )
def X9_bits_b4 : Nat → Int32 → Int32 → Int32 → FMem → Opt
  | 0, _, _, _, _ => none
  | nf + 1, x0, x1, x2, FM => X9_bits_b4s (X9_bits_b4 nf) x0 x1 x2 FM
def f_X9_bits (a0 : Int32) (FM : FMem) : Opt :=
  X9_bits_b4 FU a0 (0 : Int32) (0 : Int32) FM
set_option maxHeartbeats 4000000 in
set_option maxRecDepth 100000 in
theorem m_X9_bits (l : Launch) (D : va_G) (cI : ClassId) (b : Nat) (a0 : Int32) (FM : FMem) (r0 : Int32) (FR : FMem) (h : f_X9_bits a0 FM = some (r0, FR)) : Mt l (wdM D cI b) yX9_bits cX9_bits 3 (some .int) 0 0 [.int a0] FM (some (.int r0)) FR := by
  refine Mt.of (by decide) (cat_cons rfl cat_nil) [some (.int a0), none, none] rfl (Nat.le_of_ble_eq_true rfl) (fun V hV => ?_)
  have B4 : ∀ (k4 : Int32 → Int32 → Int32 → FMem → Opt) (hk4 : ∀ (x0 : Int32) (x1 : Int32) (x2 : Int32) (FM : FMem), k4 x0 x1 x2 FM = some (r0, FR) → V FM 4 [some (.int x0), some (.int x1), some (.int x2)] []) (x0 : Int32) (x1 : Int32) (x2 : Int32) (FM : FMem), X9_bits_b4s k4 x0 x1 x2 FM = some (r0, FR) → V FM 4 [some (.int x0), some (.int x1), some (.int x2)] [] := by
    intro k4 hk4 x0 x1 x2 FM h
    unfold X9_bits_b4s at h
    refine r_iload_n hV dX9_bits_4 rfl ?_
    refine r_bipush (v := (9 : Int32)) hV dX9_bits_5 rfl ?_
    refine r_icmpgt hV 24 dX9_bits_7 rfl (fun c1 => ?_) (fun c1 => ?_)
    · have h := (if_pos c1).symm.trans h
      refine r_iload_n hV dX9_bits_24 rfl ?_
      exact r_iret hV rfl dX9_bits_25 (ret_r h) (ret_m h)
    · have h := (if_neg c1).symm.trans h
      refine r_iload_n hV dX9_bits_10 rfl ?_
      refine r_iload_n hV dX9_bits_11 rfl ?_
      refine r_iload_n hV dX9_bits_12 rfl ?_
      refine r_ishr hV dX9_bits_13 ?_
      refine r_iconst (v := (1 : Int32)) hV dX9_bits_14 rfl ?_
      refine r_iand hV dX9_bits_15 ?_
      refine r_iadd hV dX9_bits_16 ?_
      refine r_bv h (fun v2 h => ?_)
      refine r_istore_n hV dX9_bits_17 (Nat.le_of_ble_eq_true rfl) rfl ?_
      refine r_iinc (v := (1 : Int32)) hV dX9_bits_18 rfl rfl rfl ?_
      refine r_goto hV 4 dX9_bits_21 rfl ?_
      exact hk4 x0 v2 (x2 + (1 : Int32)) FM h
  have L4 : ∀ (nf : Nat) (x0 : Int32) (x1 : Int32) (x2 : Int32) (FM : FMem), X9_bits_b4 nf x0 x1 x2 FM = some (r0, FR) → V FM 4 [some (.int x0), some (.int x1), some (.int x2)] [] := by
    intro  nf
    induction nf with
    | zero => intro x0 x1 x2 FM h; exact absurd (show (none : Opt) = some (r0, FR) from h) (fun h9 => by cases h9)
    | succ nf ih => intro x0 x1 x2 FM h; exact B4 (X9_bits_b4 nf) ih x0 x1 x2 FM h
  unfold f_X9_bits at h
  refine r_iconst (v := (0 : Int32)) hV dX9_bits_0 rfl ?_
  refine r_istore_n hV dX9_bits_1 (Nat.le_of_ble_eq_true rfl) rfl ?_
  refine r_iconst (v := (0 : Int32)) hV dX9_bits_2 rfl ?_
  refine r_istore_n hV dX9_bits_3 (Nat.le_of_ble_eq_true rfl) rfl ?_
  exact L4 FU a0 (0 : Int32) (0 : Int32) FM h
def f_X9_isPerson (a1 : Int32) (FM : FMem) : Opt :=
  bnd (f_X9_in a1 (0 : Int32) ((FM 0 0) - (1 : Int32)) FM) fun r1 M2 =>
  grd (isB r1) <|
  some (r1, M2)
set_option maxHeartbeats 4000000 in
set_option maxRecDepth 100000 in
theorem m_X9_isPerson (l : Launch) (D : va_G) (cI : ClassId) (b : Nat) (a1 : Int32) (FM : FMem) (r0 : Int32) (FR : FMem) (h : f_X9_isPerson a1 FM = some (r0, FR)) : Mt l (wdM D cI b) yX9_isPerson cX9_isPerson 2 (some .boolean) 1 22 [.ref (b + 0), .int a1] FM (some (.int r0)) FR := by
  refine Mt.of (by decide) (cat_cons rfl (cat_cons rfl cat_nil)) [some (.ref (b + 0)), some (.int a1)] rfl (Nat.le_of_ble_eq_true rfl) (fun V hV => ?_)
  unfold f_X9_isPerson at h
  refine r_iload_n hV dX9_isPerson_0 rfl ?_
  refine r_iconst (v := (0 : Int32)) hV dX9_isPerson_1 rfl ?_
  refine r_aload_n hV dX9_isPerson_2 rfl ?_
  refine r_geto hV fl_X9_67 obM_0 rfl dX9_isPerson_3 ?_
  refine r_iconst (v := (1 : Int32)) hV dX9_isPerson_6 rfl ?_
  refine r_isub hV dX9_isPerson_7 ?_
  obtain ⟨r1, M2, q3, h⟩ := bnd_some h
  refine r_cSi hV (m_X9_in l D cI b a1 (0 : Int32) ((FM 0 0) - (1 : Int32)) FM _ _ q3) ml_X9_70 rfl (by decide) (Nat.le_of_ble_eq_true rfl) rfl dX9_isPerson_8 ?_
  obtain ⟨g4, h⟩ := grd_some h
  exact r_zret hV rfl (isB_or g4) dX9_isPerson_11 (ret_r h) (ret_m h)
def f_X9_isThing (a1 : Int32) (FM : FMem) : Opt :=
  bnd (f_X9_in a1 (0 : Int32) ((FM 2 2) - (1 : Int32)) FM) fun r1 M2 =>
  grd (isB r1) <|
  some (r1, M2)
set_option maxHeartbeats 4000000 in
set_option maxRecDepth 100000 in
theorem m_X9_isThing (l : Launch) (D : va_G) (cI : ClassId) (b : Nat) (a1 : Int32) (FM : FMem) (r0 : Int32) (FR : FMem) (h : f_X9_isThing a1 FM = some (r0, FR)) : Mt l (wdM D cI b) yX9_isThing cX9_isThing 2 (some .boolean) 1 22 [.ref (b + 0), .int a1] FM (some (.int r0)) FR := by
  refine Mt.of (by decide) (cat_cons rfl (cat_cons rfl cat_nil)) [some (.ref (b + 0)), some (.int a1)] rfl (Nat.le_of_ble_eq_true rfl) (fun V hV => ?_)
  unfold f_X9_isThing at h
  refine r_iload_n hV dX9_isThing_0 rfl ?_
  refine r_iconst (v := (0 : Int32)) hV dX9_isThing_1 rfl ?_
  refine r_aload_n hV dX9_isThing_2 rfl ?_
  refine r_geto hV fl_X9_13 obM_0 rfl dX9_isThing_3 ?_
  refine r_iconst (v := (2 : Int32)) hV dX9_isThing_6 rfl ?_
  refine r_ald hV arM_2 (inb_in rfl) (2) rfl dX9_isThing_7 ?_
  refine r_iconst (v := (1 : Int32)) hV dX9_isThing_8 rfl ?_
  refine r_isub hV dX9_isThing_9 ?_
  obtain ⟨r1, M2, q3, h⟩ := bnd_some h
  refine r_cSi hV (m_X9_in l D cI b a1 (0 : Int32) ((FM 2 2) - (1 : Int32)) FM _ _ q3) ml_X9_70 rfl (by decide) (Nat.le_of_ble_eq_true rfl) rfl dX9_isThing_10 ?_
  obtain ⟨g4, h⟩ := grd_some h
  exact r_zret hV rfl (isB_or g4) dX9_isThing_13 (ret_r h) (ret_m h)
def f_X9_write (a1 : Int32) (FM : FMem) : Opt :=
  bnd (f_X9_in a1 (32 : Int32) (126 : Int32) FM) fun r1 M2 =>
  if r1 = 0 then (
    some ((-1 : Int32), M2)
  ) else (
    if (M2 0 12) = (200 : Int32) then (
      some ((-3 : Int32), M2)
    ) else (
      grd (inb (M2 0 12) 200) <|
      bindm (fset M2 7 (((M2 0 12)).toNatClampNeg) a1) fun M7 =>
      bindm (fset M7 0 12 ((M7 0 12) + (1 : Int32))) fun M8 =>
      some ((M8 0 12), M8)
    )
  )
set_option maxHeartbeats 4000000 in
set_option maxRecDepth 100000 in
theorem m_X9_write (l : Launch) (D : va_G) (cI : ClassId) (b : Nat) (a1 : Int32) (FM : FMem) (r0 : Int32) (FR : FMem) (h : f_X9_write a1 FM = some (r0, FR)) : Mt l (wdM D cI b) yX9_write cX9_write 2 (some .int) 1 22 [.ref (b + 0), .int a1] FM (some (.int r0)) FR := by
  refine Mt.of (by decide) (cat_cons rfl (cat_cons rfl cat_nil)) [some (.ref (b + 0)), some (.int a1)] rfl (Nat.le_of_ble_eq_true rfl) (fun V hV => ?_)
  unfold f_X9_write at h
  refine r_iload_n hV dX9_write_0 rfl ?_
  refine r_bipush (v := (32 : Int32)) hV dX9_write_1 rfl ?_
  refine r_bipush (v := (126 : Int32)) hV dX9_write_3 rfl ?_
  obtain ⟨r1, M2, q3, h⟩ := bnd_some h
  refine r_cSi hV (m_X9_in l D cI b a1 (32 : Int32) (126 : Int32) FM _ _ q3) ml_X9_70 rfl (by decide) (Nat.le_of_ble_eq_true rfl) rfl dX9_write_5 ?_
  refine r_ifne hV 13 dX9_write_8 rfl (fun c4 => ?_) (fun c4 => ?_)
  · have h := (if_neg c4).symm.trans h
    refine r_aload_n hV dX9_write_13 rfl ?_
    refine r_geto hV fl_X9_74 obM_0 rfl dX9_write_14 ?_
    refine r_sipush (v := (200 : Int32)) hV dX9_write_17 rfl ?_
    refine r_icmpne hV 26 dX9_write_20 rfl (fun c5 => ?_) (fun c5 => ?_)
    · have h := (if_neg c5).symm.trans h
      refine r_aload_n hV dX9_write_26 rfl ?_
      refine r_geto hV fl_X9_28 obM_0 rfl dX9_write_27 ?_
      refine r_aload_n hV dX9_write_30 rfl ?_
      refine r_geto hV fl_X9_74 obM_0 rfl dX9_write_31 ?_
      refine r_iload_n hV dX9_write_34 rfl ?_
      obtain ⟨g6, h⟩ := grd_some h
      refine r_ast hV arM_7 (inb_in g6) (((M2 0 12)).toNatClampNeg) rfl dX9_write_35 ?_
      refine r_bm h (fun M7 h => ?_)
      refine r_aload_n hV dX9_write_36 rfl ?_
      refine r_dup hV dX9_write_37 rfl ?_
      refine r_geto hV fl_X9_74 obM_0 rfl dX9_write_38 ?_
      refine r_iconst (v := (1 : Int32)) hV dX9_write_41 rfl ?_
      refine r_iadd hV dX9_write_42 ?_
      refine r_puti hV fl_X9_74 obM_0 (fun _ _ => rfl) (Nat.le_of_ble_eq_true rfl) dX9_write_43 ?_
      refine r_bm h (fun M8 h => ?_)
      refine r_aload_n hV dX9_write_46 rfl ?_
      refine r_geto hV fl_X9_74 obM_0 rfl dX9_write_47 ?_
      exact r_iret hV rfl dX9_write_50 (ret_r h) (ret_m h)
    · have h := (if_pos c5).symm.trans h
      refine r_bipush (v := (-3 : Int32)) hV dX9_write_23 rfl ?_
      exact r_iret hV rfl dX9_write_25 (ret_r h) (ret_m h)
  · have h := (if_pos c4).symm.trans h
    refine r_iconst (v := (-1 : Int32)) hV dX9_write_11 rfl ?_
    exact r_iret hV rfl dX9_write_12 (ret_r h) (ret_m h)
def f_X9_wipe (FM : FMem) : Opt :=
  bindv (FM 0 12) fun v1 =>
  bindm (fset FM 0 12 (0 : Int32)) fun M2 =>
  some (v1, M2)
set_option maxHeartbeats 4000000 in
set_option maxRecDepth 100000 in
theorem m_X9_wipe (l : Launch) (D : va_G) (cI : ClassId) (b : Nat) (FM : FMem) (r0 : Int32) (FR : FMem) (h : f_X9_wipe FM = some (r0, FR)) : Mt l (wdM D cI b) yX9_wipe cX9_wipe 2 (some .int) 0 0 [.ref (b + 0)] FM (some (.int r0)) FR := by
  refine Mt.of (by decide) (cat_cons rfl cat_nil) [some (.ref (b + 0)), none] rfl (Nat.le_of_ble_eq_true rfl) (fun V hV => ?_)
  unfold f_X9_wipe at h
  refine r_aload_n hV dX9_wipe_0 rfl ?_
  refine r_geto hV fl_X9_74 obM_0 rfl dX9_wipe_1 ?_
  refine r_bv h (fun v1 h => ?_)
  refine r_istore_n hV dX9_wipe_4 (Nat.le_of_ble_eq_true rfl) rfl ?_
  refine r_aload_n hV dX9_wipe_5 rfl ?_
  refine r_iconst (v := (0 : Int32)) hV dX9_wipe_6 rfl ?_
  refine r_puti hV fl_X9_74 obM_0 (fun _ _ => rfl) (Nat.le_of_ble_eq_true rfl) dX9_wipe_7 ?_
  refine r_bm h (fun M2 h => ?_)
  refine r_iload_n hV dX9_wipe_10 rfl ?_
  exact r_iret hV rfl dX9_wipe_11 (ret_r h) (ret_m h)
def f_X9_letterAt (a1 : Int32) (FM : FMem) : Opt :=
  if (FM 0 12) ≤ a1 then (
    some ((-1 : Int32), FM)
  ) else (
    grd (inb a1 200) <|
    some ((FM 7 ((a1).toNatClampNeg)), FM)
  )
set_option maxHeartbeats 4000000 in
set_option maxRecDepth 100000 in
theorem m_X9_letterAt (l : Launch) (D : va_G) (cI : ClassId) (b : Nat) (a1 : Int32) (FM : FMem) (r0 : Int32) (FR : FMem) (h : f_X9_letterAt a1 FM = some (r0, FR)) : Mt l (wdM D cI b) yX9_letterAt cX9_letterAt 2 (some .int) 0 0 [.ref (b + 0), .int a1] FM (some (.int r0)) FR := by
  refine Mt.of (by decide) (cat_cons rfl (cat_cons rfl cat_nil)) [some (.ref (b + 0)), some (.int a1)] rfl (Nat.le_of_ble_eq_true rfl) (fun V hV => ?_)
  unfold f_X9_letterAt at h
  refine r_iload_n hV dX9_letterAt_0 rfl ?_
  refine r_aload_n hV dX9_letterAt_1 rfl ?_
  refine r_geto hV fl_X9_74 obM_0 rfl dX9_letterAt_2 ?_
  refine r_icmpge hV 17 dX9_letterAt_5 rfl (fun c1 => ?_) (fun c1 => ?_)
  · have h := (if_pos c1).symm.trans h
    refine r_iconst (v := (-1 : Int32)) hV dX9_letterAt_17 rfl ?_
    exact r_iret hV rfl dX9_letterAt_18 (ret_r h) (ret_m h)
  · have h := (if_neg c1).symm.trans h
    refine r_aload_n hV dX9_letterAt_8 rfl ?_
    refine r_geto hV fl_X9_28 obM_0 rfl dX9_letterAt_9 ?_
    refine r_iload_n hV dX9_letterAt_12 rfl ?_
    obtain ⟨g2, h⟩ := grd_some h
    refine r_ald hV arM_7 (inb_in g2) ((a1).toNatClampNeg) rfl dX9_letterAt_13 ?_
    refine r_goto hV 18 dX9_letterAt_14 rfl ?_
    exact r_iret hV rfl dX9_letterAt_18 (ret_r h) (ret_m h)
def f_X9_isFigure (a0 : Int32) (FM : FMem) : Opt :=
  bnd (f_X9_in a0 (48 : Int32) (57 : Int32) FM) fun r1 M2 =>
  grd (isB r1) <|
  some (r1, M2)
set_option maxHeartbeats 4000000 in
set_option maxRecDepth 100000 in
theorem m_X9_isFigure (l : Launch) (D : va_G) (cI : ClassId) (b : Nat) (a0 : Int32) (FM : FMem) (r0 : Int32) (FR : FMem) (h : f_X9_isFigure a0 FM = some (r0, FR)) : Mt l (wdM D cI b) yX9_isFigure cX9_isFigure 1 (some .boolean) 1 22 [.int a0] FM (some (.int r0)) FR := by
  refine Mt.of (by decide) (cat_cons rfl cat_nil) [some (.int a0)] rfl (Nat.le_of_ble_eq_true rfl) (fun V hV => ?_)
  unfold f_X9_isFigure at h
  refine r_iload_n hV dX9_isFigure_0 rfl ?_
  refine r_bipush (v := (48 : Int32)) hV dX9_isFigure_1 rfl ?_
  refine r_bipush (v := (57 : Int32)) hV dX9_isFigure_3 rfl ?_
  obtain ⟨r1, M2, q3, h⟩ := bnd_some h
  refine r_cSi hV (m_X9_in l D cI b a0 (48 : Int32) (57 : Int32) FM _ _ q3) ml_X9_70 rfl (by decide) (Nat.le_of_ble_eq_true rfl) rfl dX9_isFigure_5 ?_
  obtain ⟨g4, h⟩ := grd_some h
  exact r_zret hV rfl (isB_or g4) dX9_isFigure_8 (ret_r h) (ret_m h)
def X9_readNumbers_b123 (k2 : Int32 → Int32 → FMem → Opt) (x1 : Int32) (x2 : Int32) (s0 : Int32) (s1 : Int32) (FM : FMem) : Opt :=
  if s0 = s1 then (
    bindm (fset FM 0 13 ((FM 0 13) + (1 : Int32))) fun M27 =>
    k2 x1 (x2 + (1 : Int32)) M27
  ) else (
    some ((0 : Int32), FM)
  )
def X9_readNumbers_b101 (k2 : Int32 → Int32 → FMem → Opt) (x1 : Int32) (x2 : Int32) (FM : FMem) : Opt :=
  bnd (f_X9_letterAt (FM 0 13) FM) fun r22 M23 =>
  if (x1 - (1 : Int32)) ≤ x2 then (
    X9_readNumbers_b123 k2 x1 x2 r22 (59 : Int32) M23
  ) else (
    X9_readNumbers_b123 k2 x1 x2 r22 (44 : Int32) M23
  )
def X9_readNumbers_b2s (k2 : Int32 → Int32 → FMem → Opt) (x1 : Int32) (x2 : Int32) (FM : FMem) : Opt :=
  if x1 ≤ x2 then (
    some ((1 : Int32), FM)
  ) else (
    bnd (f_X9_letterAt (FM 0 13) FM) fun r2 M3 =>
    bnd (f_X9_isFigure r2 M3) fun r5 M6 =>
    if r5 = 0 then (
      some ((0 : Int32), M6)
    ) else (
      bnd (f_X9_letterAt (M6 0 13) M6) fun r9 M10 =>
      grd (inb x2 3) <|
      bindm (fset M10 8 ((x2).toNatClampNeg) (r9 - (48 : Int32))) fun M13 =>
      bindm (fset M13 0 13 ((M13 0 13) + (1 : Int32))) fun M14 =>
      bnd (f_X9_letterAt (M14 0 13) M14) fun r15 M16 =>
      bnd (f_X9_isFigure r15 M16) fun r18 M19 =>
      if r18 = 0 then (
        X9_readNumbers_b101 k2 x1 x2 M19
      ) else (
        grd (inb x2 3) <|
        bnd (f_X9_letterAt (M19 0 13) M19) fun r29 M30 =>
        grd (inb x2 3) <|
        bindm (fset M30 8 ((x2).toNatClampNeg) ((((10 : Int32) * (M19 8 ((x2).toNatClampNeg))) + r29) - (48 : Int32))) fun M33 =>
        bindm (fset M33 0 13 ((M33 0 13) + (1 : Int32))) fun M34 =>
        X9_readNumbers_b101 k2 x1 x2 M34
      )
    )
  )
def X9_readNumbers_b2 : Nat → Int32 → Int32 → FMem → Opt
  | 0, _, _, _ => none
  | nf + 1, x1, x2, FM => X9_readNumbers_b2s (X9_readNumbers_b2 nf) x1 x2 FM
def f_X9_readNumbers (a1 : Int32) (FM : FMem) : Opt :=
  X9_readNumbers_b2 FU a1 (0 : Int32) FM
set_option maxHeartbeats 4000000 in
set_option maxRecDepth 100000 in
theorem m_X9_readNumbers (l : Launch) (D : va_G) (cI : ClassId) (b : Nat) (a1 : Int32) (FM : FMem) (r0 : Int32) (FR : FMem) (h : f_X9_readNumbers a1 FM = some (r0, FR)) : Mt l (wdM D cI b) yX9_readNumbers cX9_readNumbers 3 (some .boolean) 2 42 [.ref (b + 0), .int a1] FM (some (.int r0)) FR := by
  refine Mt.of (by decide) (cat_cons rfl (cat_cons rfl cat_nil)) [some (.ref (b + 0)), some (.int a1), none] rfl (Nat.le_of_ble_eq_true rfl) (fun V hV => ?_)
  have B123 : ∀ (k2 : Int32 → Int32 → FMem → Opt) (hk2 : ∀ (x1 : Int32) (x2 : Int32) (FM : FMem), k2 x1 x2 FM = some (r0, FR) → V FM 2 [some (.ref (b + 0)), some (.int x1), some (.int x2)] []) (x1 : Int32) (x2 : Int32) (s0 : Int32) (s1 : Int32) (FM : FMem), X9_readNumbers_b123 k2 x1 x2 s0 s1 FM = some (r0, FR) → V FM 123 [some (.ref (b + 0)), some (.int x1), some (.int x2)] [.int s1, .int s0] := by
    intro k2 hk2 x1 x2 s0 s1 FM h
    unfold X9_readNumbers_b123 at h
    refine r_icmpeq hV 128 dX9_readNumbers_123 rfl (fun c26 => ?_) (fun c26 => ?_)
    · have h := (if_pos c26).symm.trans h
      refine r_aload_n hV dX9_readNumbers_128 rfl ?_
      refine r_dup hV dX9_readNumbers_129 rfl ?_
      refine r_geto hV fl_X9_77 obM_0 rfl dX9_readNumbers_130 ?_
      refine r_iconst (v := (1 : Int32)) hV dX9_readNumbers_133 rfl ?_
      refine r_iadd hV dX9_readNumbers_134 ?_
      refine r_puti hV fl_X9_77 obM_0 (fun _ _ => rfl) (Nat.le_of_ble_eq_true rfl) dX9_readNumbers_135 ?_
      refine r_bm h (fun M27 h => ?_)
      refine r_iinc (v := (1 : Int32)) hV dX9_readNumbers_138 rfl rfl rfl ?_
      refine r_goto hV 2 dX9_readNumbers_141 rfl ?_
      exact hk2 x1 (x2 + (1 : Int32)) M27 h
    · have h := (if_neg c26).symm.trans h
      refine r_iconst (v := (0 : Int32)) hV dX9_readNumbers_126 rfl ?_
      exact r_zret hV rfl (Or.inl rfl) dX9_readNumbers_127 (ret_r h) (ret_m h)
  have B101 : ∀ (k2 : Int32 → Int32 → FMem → Opt) (hk2 : ∀ (x1 : Int32) (x2 : Int32) (FM : FMem), k2 x1 x2 FM = some (r0, FR) → V FM 2 [some (.ref (b + 0)), some (.int x1), some (.int x2)] []) (x1 : Int32) (x2 : Int32) (FM : FMem), X9_readNumbers_b101 k2 x1 x2 FM = some (r0, FR) → V FM 101 [some (.ref (b + 0)), some (.int x1), some (.int x2)] [] := by
    intro k2 hk2 x1 x2 FM h
    unfold X9_readNumbers_b101 at h
    refine r_aload_n hV dX9_readNumbers_101 rfl ?_
    refine r_aload_n hV dX9_readNumbers_102 rfl ?_
    refine r_geto hV fl_X9_77 obM_0 rfl dX9_readNumbers_103 ?_
    obtain ⟨r22, M23, q24, h⟩ := bnd_some h
    refine r_cVi hV (m_X9_letterAt l D cI b (FM 0 13) FM _ _ q24) ml_X9_80 obM_0 rfl rfl (by decide) (Nat.le_of_ble_eq_true rfl) rfl dX9_readNumbers_106 ?_
    refine r_iload_n hV dX9_readNumbers_109 rfl ?_
    refine r_iload_n hV dX9_readNumbers_110 rfl ?_
    refine r_iconst (v := (1 : Int32)) hV dX9_readNumbers_111 rfl ?_
    refine r_isub hV dX9_readNumbers_112 ?_
    refine r_icmpge hV 121 dX9_readNumbers_113 rfl (fun c25 => ?_) (fun c25 => ?_)
    · have h := (if_pos c25).symm.trans h
      refine r_bipush (v := (59 : Int32)) hV dX9_readNumbers_121 rfl ?_
      exact B123 k2 hk2 x1 x2 r22 (59 : Int32) M23 h
    · have h := (if_neg c25).symm.trans h
      refine r_bipush (v := (44 : Int32)) hV dX9_readNumbers_116 rfl ?_
      refine r_goto hV 123 dX9_readNumbers_118 rfl ?_
      exact B123 k2 hk2 x1 x2 r22 (44 : Int32) M23 h
  have B2 : ∀ (k2 : Int32 → Int32 → FMem → Opt) (hk2 : ∀ (x1 : Int32) (x2 : Int32) (FM : FMem), k2 x1 x2 FM = some (r0, FR) → V FM 2 [some (.ref (b + 0)), some (.int x1), some (.int x2)] []) (x1 : Int32) (x2 : Int32) (FM : FMem), X9_readNumbers_b2s k2 x1 x2 FM = some (r0, FR) → V FM 2 [some (.ref (b + 0)), some (.int x1), some (.int x2)] [] := by
    intro k2 hk2 x1 x2 FM h
    unfold X9_readNumbers_b2s at h
    refine r_iload_n hV dX9_readNumbers_2 rfl ?_
    refine r_iload_n hV dX9_readNumbers_3 rfl ?_
    refine r_icmpge hV 144 dX9_readNumbers_4 rfl (fun c1 => ?_) (fun c1 => ?_)
    · have h := (if_pos c1).symm.trans h
      refine r_iconst (v := (1 : Int32)) hV dX9_readNumbers_144 rfl ?_
      exact r_zret hV rfl (Or.inr rfl) dX9_readNumbers_145 (ret_r h) (ret_m h)
    · have h := (if_neg c1).symm.trans h
      refine r_aload_n hV dX9_readNumbers_7 rfl ?_
      refine r_aload_n hV dX9_readNumbers_8 rfl ?_
      refine r_geto hV fl_X9_77 obM_0 rfl dX9_readNumbers_9 ?_
      obtain ⟨r2, M3, q4, h⟩ := bnd_some h
      refine r_cVi hV (m_X9_letterAt l D cI b (FM 0 13) FM _ _ q4) ml_X9_80 obM_0 rfl rfl (by decide) (Nat.le_of_ble_eq_true rfl) rfl dX9_readNumbers_12 ?_
      obtain ⟨r5, M6, q7, h⟩ := bnd_some h
      refine r_cSi hV (m_X9_isFigure l D cI b r2 M3 _ _ q7) ml_X9_84 rfl (by decide) (Nat.le_of_ble_eq_true rfl) rfl dX9_readNumbers_15 ?_
      refine r_ifne hV 23 dX9_readNumbers_18 rfl (fun c8 => ?_) (fun c8 => ?_)
      · have h := (if_neg c8).symm.trans h
        refine r_aload_n hV dX9_readNumbers_23 rfl ?_
        refine r_geto hV fl_X9_31 obM_0 rfl dX9_readNumbers_24 ?_
        refine r_iload_n hV dX9_readNumbers_27 rfl ?_
        refine r_aload_n hV dX9_readNumbers_28 rfl ?_
        refine r_aload_n hV dX9_readNumbers_29 rfl ?_
        refine r_geto hV fl_X9_77 obM_0 rfl dX9_readNumbers_30 ?_
        obtain ⟨r9, M10, q11, h⟩ := bnd_some h
        refine r_cVi hV (m_X9_letterAt l D cI b (M6 0 13) M6 _ _ q11) ml_X9_80 obM_0 rfl rfl (by decide) (Nat.le_of_ble_eq_true rfl) rfl dX9_readNumbers_33 ?_
        refine r_bipush (v := (48 : Int32)) hV dX9_readNumbers_36 rfl ?_
        refine r_isub hV dX9_readNumbers_38 ?_
        obtain ⟨g12, h⟩ := grd_some h
        refine r_ast hV arM_8 (inb_in g12) ((x2).toNatClampNeg) rfl dX9_readNumbers_39 ?_
        refine r_bm h (fun M13 h => ?_)
        refine r_aload_n hV dX9_readNumbers_40 rfl ?_
        refine r_dup hV dX9_readNumbers_41 rfl ?_
        refine r_geto hV fl_X9_77 obM_0 rfl dX9_readNumbers_42 ?_
        refine r_iconst (v := (1 : Int32)) hV dX9_readNumbers_45 rfl ?_
        refine r_iadd hV dX9_readNumbers_46 ?_
        refine r_puti hV fl_X9_77 obM_0 (fun _ _ => rfl) (Nat.le_of_ble_eq_true rfl) dX9_readNumbers_47 ?_
        refine r_bm h (fun M14 h => ?_)
        refine r_aload_n hV dX9_readNumbers_50 rfl ?_
        refine r_aload_n hV dX9_readNumbers_51 rfl ?_
        refine r_geto hV fl_X9_77 obM_0 rfl dX9_readNumbers_52 ?_
        obtain ⟨r15, M16, q17, h⟩ := bnd_some h
        refine r_cVi hV (m_X9_letterAt l D cI b (M14 0 13) M14 _ _ q17) ml_X9_80 obM_0 rfl rfl (by decide) (Nat.le_of_ble_eq_true rfl) rfl dX9_readNumbers_55 ?_
        obtain ⟨r18, M19, q20, h⟩ := bnd_some h
        refine r_cSi hV (m_X9_isFigure l D cI b r15 M16 _ _ q20) ml_X9_84 rfl (by decide) (Nat.le_of_ble_eq_true rfl) rfl dX9_readNumbers_58 ?_
        refine r_ifeq hV 101 dX9_readNumbers_61 rfl (fun c21 => ?_) (fun c21 => ?_)
        · have h := (if_pos c21).symm.trans h
          exact B101 k2 hk2 x1 x2 M19 h
        · have h := (if_neg c21).symm.trans h
          refine r_aload_n hV dX9_readNumbers_64 rfl ?_
          refine r_geto hV fl_X9_31 obM_0 rfl dX9_readNumbers_65 ?_
          refine r_iload_n hV dX9_readNumbers_68 rfl ?_
          refine r_bipush (v := (10 : Int32)) hV dX9_readNumbers_69 rfl ?_
          refine r_aload_n hV dX9_readNumbers_71 rfl ?_
          refine r_geto hV fl_X9_31 obM_0 rfl dX9_readNumbers_72 ?_
          refine r_iload_n hV dX9_readNumbers_75 rfl ?_
          obtain ⟨g28, h⟩ := grd_some h
          refine r_ald hV arM_8 (inb_in g28) ((x2).toNatClampNeg) rfl dX9_readNumbers_76 ?_
          refine r_imul hV dX9_readNumbers_77 ?_
          refine r_aload_n hV dX9_readNumbers_78 rfl ?_
          refine r_aload_n hV dX9_readNumbers_79 rfl ?_
          refine r_geto hV fl_X9_77 obM_0 rfl dX9_readNumbers_80 ?_
          obtain ⟨r29, M30, q31, h⟩ := bnd_some h
          refine r_cVi hV (m_X9_letterAt l D cI b (M19 0 13) M19 _ _ q31) ml_X9_80 obM_0 rfl rfl (by decide) (Nat.le_of_ble_eq_true rfl) rfl dX9_readNumbers_83 ?_
          refine r_iadd hV dX9_readNumbers_86 ?_
          refine r_bipush (v := (48 : Int32)) hV dX9_readNumbers_87 rfl ?_
          refine r_isub hV dX9_readNumbers_89 ?_
          obtain ⟨g32, h⟩ := grd_some h
          refine r_ast hV arM_8 (inb_in g32) ((x2).toNatClampNeg) rfl dX9_readNumbers_90 ?_
          refine r_bm h (fun M33 h => ?_)
          refine r_aload_n hV dX9_readNumbers_91 rfl ?_
          refine r_dup hV dX9_readNumbers_92 rfl ?_
          refine r_geto hV fl_X9_77 obM_0 rfl dX9_readNumbers_93 ?_
          refine r_iconst (v := (1 : Int32)) hV dX9_readNumbers_96 rfl ?_
          refine r_iadd hV dX9_readNumbers_97 ?_
          refine r_puti hV fl_X9_77 obM_0 (fun _ _ => rfl) (Nat.le_of_ble_eq_true rfl) dX9_readNumbers_98 ?_
          refine r_bm h (fun M34 h => ?_)
          exact B101 k2 hk2 x1 x2 M34 h
      · have h := (if_pos c8).symm.trans h
        refine r_iconst (v := (0 : Int32)) hV dX9_readNumbers_21 rfl ?_
        exact r_zret hV rfl (Or.inl rfl) dX9_readNumbers_22 (ret_r h) (ret_m h)
  have L2 : ∀ (nf : Nat) (x1 : Int32) (x2 : Int32) (FM : FMem), X9_readNumbers_b2 nf x1 x2 FM = some (r0, FR) → V FM 2 [some (.ref (b + 0)), some (.int x1), some (.int x2)] [] := by
    intro  nf
    induction nf with
    | zero => intro x1 x2 FM h; exact absurd (show (none : Opt) = some (r0, FR) from h) (fun h9 => by cases h9)
    | succ nf ih => intro x1 x2 FM h; exact B2 (X9_readNumbers_b2 nf) ih x1 x2 FM h
  unfold f_X9_readNumbers at h
  refine r_iconst (v := (0 : Int32)) hV dX9_readNumbers_0 rfl ?_
  refine r_istore_n hV dX9_readNumbers_1 (Nat.le_of_ble_eq_true rfl) rfl ?_
  exact L2 FU a1 (0 : Int32) FM h
def f_X9_isTold (a1 a2 a3 : Int32) (FM : FMem) : Opt :=
  grd (inb a1 3) <|
  bnd (f_X9_in (FM 8 ((a1).toNatClampNeg)) a2 a3 FM) fun r2 M3 =>
  grd (isB r2) <|
  some (r2, M3)
set_option maxHeartbeats 4000000 in
set_option maxRecDepth 100000 in
theorem m_X9_isTold (l : Launch) (D : va_G) (cI : ClassId) (b : Nat) (a1 a2 a3 : Int32) (FM : FMem) (r0 : Int32) (FR : FMem) (h : f_X9_isTold a1 a2 a3 FM = some (r0, FR)) : Mt l (wdM D cI b) yX9_isTold cX9_isTold 4 (some .boolean) 1 22 [.ref (b + 0), .int a1, .int a2, .int a3] FM (some (.int r0)) FR := by
  refine Mt.of (by decide) (cat_cons rfl (cat_cons rfl (cat_cons rfl (cat_cons rfl cat_nil)))) [some (.ref (b + 0)), some (.int a1), some (.int a2), some (.int a3)] rfl (Nat.le_of_ble_eq_true rfl) (fun V hV => ?_)
  unfold f_X9_isTold at h
  refine r_aload_n hV dX9_isTold_0 rfl ?_
  refine r_geto hV fl_X9_31 obM_0 rfl dX9_isTold_1 ?_
  refine r_iload_n hV dX9_isTold_4 rfl ?_
  obtain ⟨g1, h⟩ := grd_some h
  refine r_ald hV arM_8 (inb_in g1) ((a1).toNatClampNeg) rfl dX9_isTold_5 ?_
  refine r_iload_n hV dX9_isTold_6 rfl ?_
  refine r_iload_n hV dX9_isTold_7 rfl ?_
  obtain ⟨r2, M3, q4, h⟩ := bnd_some h
  refine r_cSi hV (m_X9_in l D cI b (FM 8 ((a1).toNatClampNeg)) a2 a3 FM _ _ q4) ml_X9_70 rfl (by decide) (Nat.le_of_ble_eq_true rfl) rfl dX9_isTold_8 ?_
  obtain ⟨g5, h⟩ := grd_some h
  exact r_zret hV rfl (isB_or g5) dX9_isTold_11 (ret_r h) (ret_m h)
def X9_put_b3s (u n u2 n2 : Nat) (k3 : Int32 → Int32 → Int32 → FMem → Opt) (x1 : Int32) (x3 : Int32) (x4 : Int32) (FM : FMem) : Opt :=
  if x3 ≤ x4 then (
    some (0, FM)
  ) else (
    grd (inb x4 n2) <|
    grd (inb (x1 + x4) n) <|
    bindm (fset FM u (((x1 + x4)).toNatClampNeg) (FM u2 ((x4).toNatClampNeg))) fun M4 =>
    k3 x1 x3 (x4 + (1 : Int32)) M4
  )
def X9_put_b3 (u n u2 n2 : Nat) : Nat → Int32 → Int32 → Int32 → FMem → Opt
  | 0, _, _, _, _ => none
  | nf + 1, x1, x3, x4, FM => X9_put_b3s u n u2 n2 (X9_put_b3 u n u2 n2 nf) x1 x3 x4 FM
def f_X9_put (u n u2 n2 : Nat) (a1 a3 : Int32) (FM : FMem) : Opt :=
  X9_put_b3 u n u2 n2 FU a1 a3 (0 : Int32) FM
set_option maxHeartbeats 4000000 in
set_option maxRecDepth 100000 in
theorem m_X9_put (l : Launch) (D : va_G) (cI : ClassId) (b : Nat) (u n u2 n2 : Nat) (hU : isAr (wdM D cI b) cI u n) (hU2 : isAr (wdM D cI b) cI u2 n2) (a1 a3 : Int32) (FM : FMem) (r0 : Int32) (FR : FMem) (h : f_X9_put u n u2 n2 a1 a3 FM = some (r0, FR)) : Mt l (wdM D cI b) yX9_put cX9_put 5 none 0 0 [.ref (b + u), .int a1, .ref (b + u2), .int a3] FM none FR := by
  refine Mt.of (by decide) (cat_cons rfl (cat_cons rfl (cat_cons rfl (cat_cons rfl cat_nil)))) [some (.ref (b + u)), some (.int a1), some (.ref (b + u2)), some (.int a3), none] rfl (Nat.le_of_ble_eq_true rfl) (fun V hV => ?_)
  have B3 : ∀ (k3 : Int32 → Int32 → Int32 → FMem → Opt) (hk3 : ∀ (x1 : Int32) (x3 : Int32) (x4 : Int32) (FM : FMem), k3 x1 x3 x4 FM = some (r0, FR) → V FM 3 [some (.ref (b + u)), some (.int x1), some (.ref (b + u2)), some (.int x3), some (.int x4)] []) (x1 : Int32) (x3 : Int32) (x4 : Int32) (FM : FMem), X9_put_b3s u n u2 n2 k3 x1 x3 x4 FM = some (r0, FR) → V FM 3 [some (.ref (b + u)), some (.int x1), some (.ref (b + u2)), some (.int x3), some (.int x4)] [] := by
    intro k3 hk3 x1 x3 x4 FM h
    unfold X9_put_b3s at h
    refine r_iload hV dX9_put_3 rfl ?_
    refine r_iload_n hV dX9_put_5 rfl ?_
    refine r_icmpge hV 25 dX9_put_6 rfl (fun c1 => ?_) (fun c1 => ?_)
    · have h := (if_pos c1).symm.trans h
      exact r_vret hV rfl dX9_put_25 rfl (ret_m h)
    · have h := (if_neg c1).symm.trans h
      refine r_aload_n hV dX9_put_9 rfl ?_
      refine r_iload_n hV dX9_put_10 rfl ?_
      refine r_iload hV dX9_put_11 rfl ?_
      refine r_iadd hV dX9_put_13 ?_
      refine r_aload_n hV dX9_put_14 rfl ?_
      refine r_iload hV dX9_put_15 rfl ?_
      obtain ⟨g2, h⟩ := grd_some h
      refine r_ald hV hU2 (inb_in g2) ((x4).toNatClampNeg) rfl dX9_put_17 ?_
      obtain ⟨g3, h⟩ := grd_some h
      refine r_ast hV hU (inb_in g3) (((x1 + x4)).toNatClampNeg) rfl dX9_put_18 ?_
      refine r_bm h (fun M4 h => ?_)
      refine r_iinc (v := (1 : Int32)) hV dX9_put_19 rfl rfl rfl ?_
      refine r_goto hV 3 dX9_put_22 rfl ?_
      exact hk3 x1 x3 (x4 + (1 : Int32)) M4 h
  have L3 : ∀ (nf : Nat) (x1 : Int32) (x3 : Int32) (x4 : Int32) (FM : FMem), X9_put_b3 u n u2 n2 nf x1 x3 x4 FM = some (r0, FR) → V FM 3 [some (.ref (b + u)), some (.int x1), some (.ref (b + u2)), some (.int x3), some (.int x4)] [] := by
    intro  nf
    induction nf with
    | zero => intro x1 x3 x4 FM h; exact absurd (show (none : Opt) = some (r0, FR) from h) (fun h9 => by cases h9)
    | succ nf ih => intro x1 x3 x4 FM h; exact B3 (X9_put_b3 u n u2 n2 nf) ih x1 x3 x4 FM h
  unfold f_X9_put at h
  refine r_iconst (v := (0 : Int32)) hV dX9_put_0 rfl ?_
  refine r_istore hV dX9_put_1 (Nat.le_of_ble_eq_true rfl) rfl ?_
  exact L3 FU a1 a3 (0 : Int32) FM h
def X9_clearTold_b12s (k12 : Int32 → FMem → Opt) (x1 : Int32) (FM : FMem) : Opt :=
  if (46 : Int32) ≤ x1 then (
    some (0, FM)
  ) else (
    grd (inb x1 46) <|
    bindm (fset FM 10 ((x1).toNatClampNeg) (0 : Int32)) fun M5 =>
    k12 (x1 + (1 : Int32)) M5
  )
def X9_clearTold_b12 : Nat → Int32 → FMem → Opt
  | 0, _, _ => none
  | nf + 1, x1, FM => X9_clearTold_b12s (X9_clearTold_b12 nf) x1 FM
def f_X9_clearTold (FM : FMem) : Opt :=
  bindm (fset FM 0 15 (0 : Int32)) fun M1 =>
  bindm (fset M1 0 17 (2 : Int32)) fun M2 =>
  X9_clearTold_b12 FU (0 : Int32) M2
set_option maxHeartbeats 4000000 in
set_option maxRecDepth 100000 in
theorem m_X9_clearTold (l : Launch) (D : va_G) (cI : ClassId) (b : Nat) (FM : FMem) (r0 : Int32) (FR : FMem) (h : f_X9_clearTold FM = some (r0, FR)) : Mt l (wdM D cI b) yX9_clearTold cX9_clearTold 2 none 0 0 [.ref (b + 0)] FM none FR := by
  refine Mt.of (by decide) (cat_cons rfl cat_nil) [some (.ref (b + 0)), none] rfl (Nat.le_of_ble_eq_true rfl) (fun V hV => ?_)
  have B12 : ∀ (k12 : Int32 → FMem → Opt) (hk12 : ∀ (x1 : Int32) (FM : FMem), k12 x1 FM = some (r0, FR) → V FM 12 [some (.ref (b + 0)), some (.int x1)] []) (x1 : Int32) (FM : FMem), X9_clearTold_b12s k12 x1 FM = some (r0, FR) → V FM 12 [some (.ref (b + 0)), some (.int x1)] [] := by
    intro k12 hk12 x1 FM h
    unfold X9_clearTold_b12s at h
    refine r_iload_n hV dX9_clearTold_12 rfl ?_
    refine r_bipush (v := (46 : Int32)) hV dX9_clearTold_13 rfl ?_
    refine r_icmpge hV 31 dX9_clearTold_15 rfl (fun c3 => ?_) (fun c3 => ?_)
    · have h := (if_pos c3).symm.trans h
      exact r_vret hV rfl dX9_clearTold_31 rfl (ret_m h)
    · have h := (if_neg c3).symm.trans h
      refine r_aload_n hV dX9_clearTold_18 rfl ?_
      refine r_geto hV fl_X9_37 obM_0 rfl dX9_clearTold_19 ?_
      refine r_iload_n hV dX9_clearTold_22 rfl ?_
      refine r_iconst (v := (0 : Int32)) hV dX9_clearTold_23 rfl ?_
      obtain ⟨g4, h⟩ := grd_some h
      refine r_ast hV arM_10 (inb_in g4) ((x1).toNatClampNeg) rfl dX9_clearTold_24 ?_
      refine r_bm h (fun M5 h => ?_)
      refine r_iinc (v := (1 : Int32)) hV dX9_clearTold_25 rfl rfl rfl ?_
      refine r_goto hV 12 dX9_clearTold_28 rfl ?_
      exact hk12 (x1 + (1 : Int32)) M5 h
  have L12 : ∀ (nf : Nat) (x1 : Int32) (FM : FMem), X9_clearTold_b12 nf x1 FM = some (r0, FR) → V FM 12 [some (.ref (b + 0)), some (.int x1)] [] := by
    intro  nf
    induction nf with
    | zero => intro x1 FM h; exact absurd (show (none : Opt) = some (r0, FR) from h) (fun h9 => by cases h9)
    | succ nf ih => intro x1 FM h; exact B12 (X9_clearTold_b12 nf) ih x1 FM h
  unfold f_X9_clearTold at h
  refine r_aload_n hV dX9_clearTold_0 rfl ?_
  refine r_iconst (v := (0 : Int32)) hV dX9_clearTold_1 rfl ?_
  refine r_puti hV fl_X9_63 obM_0 (fun _ _ => rfl) (Nat.le_of_ble_eq_true rfl) dX9_clearTold_2 ?_
  refine r_bm h (fun M1 h => ?_)
  refine r_aload_n hV dX9_clearTold_5 rfl ?_
  refine r_iconst (v := (2 : Int32)) hV dX9_clearTold_6 rfl ?_
  refine r_puti hV fl_X9_88 obM_0 (fun _ _ => rfl) (Nat.le_of_ble_eq_true rfl) dX9_clearTold_7 ?_
  refine r_bm h (fun M2 h => ?_)
  refine r_iconst (v := (0 : Int32)) hV dX9_clearTold_10 rfl ?_
  refine r_istore_n hV dX9_clearTold_11 (Nat.le_of_ble_eq_true rfl) rfl ?_
  exact L12 FU (0 : Int32) M2 h
def f_X9_readPersonOf (FM : FMem) : Opt :=
  if (FM 0 15) = (6 : Int32) then (
    some ((0 : Int32), FM)
  ) else (
    bnd (f_X9_readNumbers (3 : Int32) FM) fun r2 M3 =>
    if r2 = 0 then (
      some ((0 : Int32), M3)
    ) else (
      bnd (f_X9_isTold (0 : Int32) (0 : Int32) (3 : Int32) M3) fun r6 M7 =>
      if r6 = 0 then (
        some ((0 : Int32), M7)
      ) else (
        bnd (f_X9_isTold (1 : Int32) (0 : Int32) (31 : Int32) M7) fun r10 M11 =>
        if r10 = 0 then (
          some ((0 : Int32), M11)
        ) else (
          bnd (f_X9_isTold (2 : Int32) (1 : Int32) (60 : Int32) M11) fun r14 M15 =>
          if r14 = 0 then (
            some ((0 : Int32), M15)
          ) else (
            bnd (f_X9_tellsPerson (M15 8 0) (M15 8 1) (M15 8 2) M15) fun r18 M19 =>
            some ((1 : Int32), M19)
          )
        )
      )
    )
  )
set_option maxHeartbeats 4000000 in
set_option maxRecDepth 100000 in
theorem m_X9_readPersonOf (l : Launch) (D : va_G) (cI : ClassId) (b : Nat) (FM : FMem) (r0 : Int32) (FR : FMem) (h : f_X9_readPersonOf FM = some (r0, FR)) : Mt l (wdM D cI b) yX9_readPersonOf cX9_readPersonOf 1 (some .boolean) 3 64 [.ref (b + 0)] FM (some (.int r0)) FR := by
  refine Mt.of (by decide) (cat_cons rfl cat_nil) [some (.ref (b + 0))] rfl (Nat.le_of_ble_eq_true rfl) (fun V hV => ?_)
  unfold f_X9_readPersonOf at h
  refine r_aload_n hV dX9_readPersonOf_0 rfl ?_
  refine r_geto hV fl_X9_63 obM_0 rfl dX9_readPersonOf_1 ?_
  refine r_bipush (v := (6 : Int32)) hV dX9_readPersonOf_4 rfl ?_
  refine r_icmpeq hV 49 dX9_readPersonOf_6 rfl (fun c1 => ?_) (fun c1 => ?_)
  · have h := (if_pos c1).symm.trans h
    refine r_iconst (v := (0 : Int32)) hV dX9_readPersonOf_49 rfl ?_
    exact r_zret hV rfl (Or.inl rfl) dX9_readPersonOf_50 (ret_r h) (ret_m h)
  · have h := (if_neg c1).symm.trans h
    refine r_aload_n hV dX9_readPersonOf_9 rfl ?_
    refine r_iconst (v := (3 : Int32)) hV dX9_readPersonOf_10 rfl ?_
    obtain ⟨r2, M3, q4, h⟩ := bnd_some h
    refine r_cVi hV (m_X9_readNumbers l D cI b (3 : Int32) FM _ _ q4) ml_X9_91 obM_0 rfl rfl (by decide) (Nat.le_of_ble_eq_true rfl) rfl dX9_readPersonOf_11 ?_
    refine r_ifeq hV 49 dX9_readPersonOf_14 rfl (fun c5 => ?_) (fun c5 => ?_)
    · have h := (if_pos c5).symm.trans h
      refine r_iconst (v := (0 : Int32)) hV dX9_readPersonOf_49 rfl ?_
      exact r_zret hV rfl (Or.inl rfl) dX9_readPersonOf_50 (ret_r h) (ret_m h)
    · have h := (if_neg c5).symm.trans h
      refine r_aload_n hV dX9_readPersonOf_17 rfl ?_
      refine r_iconst (v := (0 : Int32)) hV dX9_readPersonOf_18 rfl ?_
      refine r_iconst (v := (0 : Int32)) hV dX9_readPersonOf_19 rfl ?_
      refine r_iconst (v := (3 : Int32)) hV dX9_readPersonOf_20 rfl ?_
      obtain ⟨r6, M7, q8, h⟩ := bnd_some h
      refine r_cVi hV (m_X9_isTold l D cI b (0 : Int32) (0 : Int32) (3 : Int32) M3 _ _ q8) ml_X9_94 obM_0 rfl rfl (by decide) (Nat.le_of_ble_eq_true rfl) rfl dX9_readPersonOf_21 ?_
      refine r_ifeq hV 49 dX9_readPersonOf_24 rfl (fun c9 => ?_) (fun c9 => ?_)
      · have h := (if_pos c9).symm.trans h
        refine r_iconst (v := (0 : Int32)) hV dX9_readPersonOf_49 rfl ?_
        exact r_zret hV rfl (Or.inl rfl) dX9_readPersonOf_50 (ret_r h) (ret_m h)
      · have h := (if_neg c9).symm.trans h
        refine r_aload_n hV dX9_readPersonOf_27 rfl ?_
        refine r_iconst (v := (1 : Int32)) hV dX9_readPersonOf_28 rfl ?_
        refine r_iconst (v := (0 : Int32)) hV dX9_readPersonOf_29 rfl ?_
        refine r_bipush (v := (31 : Int32)) hV dX9_readPersonOf_30 rfl ?_
        obtain ⟨r10, M11, q12, h⟩ := bnd_some h
        refine r_cVi hV (m_X9_isTold l D cI b (1 : Int32) (0 : Int32) (31 : Int32) M7 _ _ q12) ml_X9_94 obM_0 rfl rfl (by decide) (Nat.le_of_ble_eq_true rfl) rfl dX9_readPersonOf_32 ?_
        refine r_ifeq hV 49 dX9_readPersonOf_35 rfl (fun c13 => ?_) (fun c13 => ?_)
        · have h := (if_pos c13).symm.trans h
          refine r_iconst (v := (0 : Int32)) hV dX9_readPersonOf_49 rfl ?_
          exact r_zret hV rfl (Or.inl rfl) dX9_readPersonOf_50 (ret_r h) (ret_m h)
        · have h := (if_neg c13).symm.trans h
          refine r_aload_n hV dX9_readPersonOf_38 rfl ?_
          refine r_iconst (v := (2 : Int32)) hV dX9_readPersonOf_39 rfl ?_
          refine r_iconst (v := (1 : Int32)) hV dX9_readPersonOf_40 rfl ?_
          refine r_bipush (v := (60 : Int32)) hV dX9_readPersonOf_41 rfl ?_
          obtain ⟨r14, M15, q16, h⟩ := bnd_some h
          refine r_cVi hV (m_X9_isTold l D cI b (2 : Int32) (1 : Int32) (60 : Int32) M11 _ _ q16) ml_X9_94 obM_0 rfl rfl (by decide) (Nat.le_of_ble_eq_true rfl) rfl dX9_readPersonOf_43 ?_
          refine r_ifne hV 51 dX9_readPersonOf_46 rfl (fun c17 => ?_) (fun c17 => ?_)
          · have h := (if_neg c17).symm.trans h
            refine r_aload_n hV dX9_readPersonOf_51 rfl ?_
            refine r_aload_n hV dX9_readPersonOf_52 rfl ?_
            refine r_geto hV fl_X9_31 obM_0 rfl dX9_readPersonOf_53 ?_
            refine r_iconst (v := (0 : Int32)) hV dX9_readPersonOf_56 rfl ?_
            refine r_ald hV arM_8 (inb_in rfl) (0) rfl dX9_readPersonOf_57 ?_
            refine r_aload_n hV dX9_readPersonOf_58 rfl ?_
            refine r_geto hV fl_X9_31 obM_0 rfl dX9_readPersonOf_59 ?_
            refine r_iconst (v := (1 : Int32)) hV dX9_readPersonOf_62 rfl ?_
            refine r_ald hV arM_8 (inb_in rfl) (1) rfl dX9_readPersonOf_63 ?_
            refine r_aload_n hV dX9_readPersonOf_64 rfl ?_
            refine r_geto hV fl_X9_31 obM_0 rfl dX9_readPersonOf_65 ?_
            refine r_iconst (v := (2 : Int32)) hV dX9_readPersonOf_68 rfl ?_
            refine r_ald hV arM_8 (inb_in rfl) (2) rfl dX9_readPersonOf_69 ?_
            obtain ⟨r18, M19, q20, h⟩ := bnd_some h
            refine r_cVv hV (m_X9_tellsPerson l D cI b (M15 8 0) (M15 8 1) (M15 8 2) M15 _ _ q20) ml_X9_52 obM_0 rfl rfl (by decide) (Nat.le_of_ble_eq_true rfl) rfl dX9_readPersonOf_70 ?_
            refine r_iconst (v := (1 : Int32)) hV dX9_readPersonOf_73 rfl ?_
            exact r_zret hV rfl (Or.inr rfl) dX9_readPersonOf_74 (ret_r h) (ret_m h)
          · have h := (if_pos c17).symm.trans h
            refine r_iconst (v := (0 : Int32)) hV dX9_readPersonOf_49 rfl ?_
            exact r_zret hV rfl (Or.inl rfl) dX9_readPersonOf_50 (ret_r h) (ret_m h)
def f_X9_readThingOf (FM : FMem) : Opt :=
  if (FM 10 2) = (9 : Int32) then (
    some ((0 : Int32), FM)
  ) else (
    bnd (f_X9_readNumbers (3 : Int32) FM) fun r2 M3 =>
    if r2 = 0 then (
      some ((0 : Int32), M3)
    ) else (
      bnd (f_X9_isTold (0 : Int32) (0 : Int32) (60 : Int32) M3) fun r6 M7 =>
      if r6 = 0 then (
        some ((0 : Int32), M7)
      ) else (
        bnd (f_X9_isTold (1 : Int32) (1 : Int32) (31 : Int32) M7) fun r10 M11 =>
        if r10 = 0 then (
          some ((0 : Int32), M11)
        ) else (
          bnd (f_X9_isTold (2 : Int32) (1 : Int32) (9 : Int32) M11) fun r14 M15 =>
          if r14 = 0 then (
            some ((0 : Int32), M15)
          ) else (
            bnd (f_X9_addsThing 10 (M15 8 0) (M15 8 1) (M15 8 2) M15) fun r18 M19 =>
            some ((1 : Int32), M19)
          )
        )
      )
    )
  )
set_option maxHeartbeats 4000000 in
set_option maxRecDepth 100000 in
theorem m_X9_readThingOf (l : Launch) (D : va_G) (cI : ClassId) (b : Nat) (FM : FMem) (r0 : Int32) (FR : FMem) (h : f_X9_readThingOf FM = some (r0, FR)) : Mt l (wdM D cI b) yX9_readThingOf cX9_readThingOf 1 (some .boolean) 3 64 [.ref (b + 0)] FM (some (.int r0)) FR := by
  refine Mt.of (by decide) (cat_cons rfl cat_nil) [some (.ref (b + 0))] rfl (Nat.le_of_ble_eq_true rfl) (fun V hV => ?_)
  unfold f_X9_readThingOf at h
  refine r_aload_n hV dX9_readThingOf_0 rfl ?_
  refine r_geto hV fl_X9_37 obM_0 rfl dX9_readThingOf_1 ?_
  refine r_iconst (v := (2 : Int32)) hV dX9_readThingOf_4 rfl ?_
  refine r_ald hV arM_10 (inb_in rfl) (2) rfl dX9_readThingOf_5 ?_
  refine r_bipush (v := (9 : Int32)) hV dX9_readThingOf_6 rfl ?_
  refine r_icmpeq hV 52 dX9_readThingOf_8 rfl (fun c1 => ?_) (fun c1 => ?_)
  · have h := (if_pos c1).symm.trans h
    refine r_iconst (v := (0 : Int32)) hV dX9_readThingOf_52 rfl ?_
    exact r_zret hV rfl (Or.inl rfl) dX9_readThingOf_53 (ret_r h) (ret_m h)
  · have h := (if_neg c1).symm.trans h
    refine r_aload_n hV dX9_readThingOf_11 rfl ?_
    refine r_iconst (v := (3 : Int32)) hV dX9_readThingOf_12 rfl ?_
    obtain ⟨r2, M3, q4, h⟩ := bnd_some h
    refine r_cVi hV (m_X9_readNumbers l D cI b (3 : Int32) FM _ _ q4) ml_X9_91 obM_0 rfl rfl (by decide) (Nat.le_of_ble_eq_true rfl) rfl dX9_readThingOf_13 ?_
    refine r_ifeq hV 52 dX9_readThingOf_16 rfl (fun c5 => ?_) (fun c5 => ?_)
    · have h := (if_pos c5).symm.trans h
      refine r_iconst (v := (0 : Int32)) hV dX9_readThingOf_52 rfl ?_
      exact r_zret hV rfl (Or.inl rfl) dX9_readThingOf_53 (ret_r h) (ret_m h)
    · have h := (if_neg c5).symm.trans h
      refine r_aload_n hV dX9_readThingOf_19 rfl ?_
      refine r_iconst (v := (0 : Int32)) hV dX9_readThingOf_20 rfl ?_
      refine r_iconst (v := (0 : Int32)) hV dX9_readThingOf_21 rfl ?_
      refine r_bipush (v := (60 : Int32)) hV dX9_readThingOf_22 rfl ?_
      obtain ⟨r6, M7, q8, h⟩ := bnd_some h
      refine r_cVi hV (m_X9_isTold l D cI b (0 : Int32) (0 : Int32) (60 : Int32) M3 _ _ q8) ml_X9_94 obM_0 rfl rfl (by decide) (Nat.le_of_ble_eq_true rfl) rfl dX9_readThingOf_24 ?_
      refine r_ifeq hV 52 dX9_readThingOf_27 rfl (fun c9 => ?_) (fun c9 => ?_)
      · have h := (if_pos c9).symm.trans h
        refine r_iconst (v := (0 : Int32)) hV dX9_readThingOf_52 rfl ?_
        exact r_zret hV rfl (Or.inl rfl) dX9_readThingOf_53 (ret_r h) (ret_m h)
      · have h := (if_neg c9).symm.trans h
        refine r_aload_n hV dX9_readThingOf_30 rfl ?_
        refine r_iconst (v := (1 : Int32)) hV dX9_readThingOf_31 rfl ?_
        refine r_iconst (v := (1 : Int32)) hV dX9_readThingOf_32 rfl ?_
        refine r_bipush (v := (31 : Int32)) hV dX9_readThingOf_33 rfl ?_
        obtain ⟨r10, M11, q12, h⟩ := bnd_some h
        refine r_cVi hV (m_X9_isTold l D cI b (1 : Int32) (1 : Int32) (31 : Int32) M7 _ _ q12) ml_X9_94 obM_0 rfl rfl (by decide) (Nat.le_of_ble_eq_true rfl) rfl dX9_readThingOf_35 ?_
        refine r_ifeq hV 52 dX9_readThingOf_38 rfl (fun c13 => ?_) (fun c13 => ?_)
        · have h := (if_pos c13).symm.trans h
          refine r_iconst (v := (0 : Int32)) hV dX9_readThingOf_52 rfl ?_
          exact r_zret hV rfl (Or.inl rfl) dX9_readThingOf_53 (ret_r h) (ret_m h)
        · have h := (if_neg c13).symm.trans h
          refine r_aload_n hV dX9_readThingOf_41 rfl ?_
          refine r_iconst (v := (2 : Int32)) hV dX9_readThingOf_42 rfl ?_
          refine r_iconst (v := (1 : Int32)) hV dX9_readThingOf_43 rfl ?_
          refine r_bipush (v := (9 : Int32)) hV dX9_readThingOf_44 rfl ?_
          obtain ⟨r14, M15, q16, h⟩ := bnd_some h
          refine r_cVi hV (m_X9_isTold l D cI b (2 : Int32) (1 : Int32) (9 : Int32) M11 _ _ q16) ml_X9_94 obM_0 rfl rfl (by decide) (Nat.le_of_ble_eq_true rfl) rfl dX9_readThingOf_46 ?_
          refine r_ifne hV 54 dX9_readThingOf_49 rfl (fun c17 => ?_) (fun c17 => ?_)
          · have h := (if_neg c17).symm.trans h
            refine r_aload_n hV dX9_readThingOf_54 rfl ?_
            refine r_geto hV fl_X9_37 obM_0 rfl dX9_readThingOf_55 ?_
            refine r_aload_n hV dX9_readThingOf_58 rfl ?_
            refine r_geto hV fl_X9_31 obM_0 rfl dX9_readThingOf_59 ?_
            refine r_iconst (v := (0 : Int32)) hV dX9_readThingOf_62 rfl ?_
            refine r_ald hV arM_8 (inb_in rfl) (0) rfl dX9_readThingOf_63 ?_
            refine r_aload_n hV dX9_readThingOf_64 rfl ?_
            refine r_geto hV fl_X9_31 obM_0 rfl dX9_readThingOf_65 ?_
            refine r_iconst (v := (1 : Int32)) hV dX9_readThingOf_68 rfl ?_
            refine r_ald hV arM_8 (inb_in rfl) (1) rfl dX9_readThingOf_69 ?_
            refine r_aload_n hV dX9_readThingOf_70 rfl ?_
            refine r_geto hV fl_X9_31 obM_0 rfl dX9_readThingOf_71 ?_
            refine r_iconst (v := (2 : Int32)) hV dX9_readThingOf_74 rfl ?_
            refine r_ald hV arM_8 (inb_in rfl) (2) rfl dX9_readThingOf_75 ?_
            obtain ⟨r18, M19, q20, h⟩ := bnd_some h
            refine r_cSv hV (m_X9_addsThing l D cI b 10 arM_10 (M15 8 0) (M15 8 1) (M15 8 2) M15 _ _ q20) ml_X9_56 rfl (by decide) (Nat.le_of_ble_eq_true rfl) rfl dX9_readThingOf_76 ?_
            refine r_iconst (v := (1 : Int32)) hV dX9_readThingOf_79 rfl ?_
            exact r_zret hV rfl (Or.inr rfl) dX9_readThingOf_80 (ret_r h) (ret_m h)
          · have h := (if_pos c17).symm.trans h
            refine r_iconst (v := (0 : Int32)) hV dX9_readThingOf_52 rfl ?_
            exact r_zret hV rfl (Or.inl rfl) dX9_readThingOf_53 (ret_r h) (ret_m h)
def X9_readFadesOf_b24 (s0 : Int32) (FM : FMem) : Opt :=
  if s0 = 0 then (
    bindm (fset FM 0 17 (FM 0 17)) fun M6 =>
    grd (isB s0) <|
    some (s0, M6)
  ) else (
    bindm (fset FM 0 17 (FM 8 0)) fun M8 =>
    grd (isB s0) <|
    some (s0, M8)
  )
def X9_readFadesOf_b23 (FM : FMem) : Opt :=
  X9_readFadesOf_b24 (0 : Int32) FM
def f_X9_readFadesOf (FM : FMem) : Opt :=
  bnd (f_X9_readNumbers (1 : Int32) FM) fun r1 M2 =>
  if r1 = 0 then (
    X9_readFadesOf_b23 M2
  ) else (
    bnd (f_X9_isTold (0 : Int32) (1 : Int32) (9 : Int32) M2) fun r10 M11 =>
    if r10 = 0 then (
      X9_readFadesOf_b23 M11
    ) else (
      X9_readFadesOf_b24 (1 : Int32) M11
    )
  )
set_option maxHeartbeats 4000000 in
set_option maxRecDepth 100000 in
theorem m_X9_readFadesOf (l : Launch) (D : va_G) (cI : ClassId) (b : Nat) (FM : FMem) (r0 : Int32) (FR : FMem) (h : f_X9_readFadesOf FM = some (r0, FR)) : Mt l (wdM D cI b) yX9_readFadesOf cX9_readFadesOf 2 (some .boolean) 3 64 [.ref (b + 0)] FM (some (.int r0)) FR := by
  refine Mt.of (by decide) (cat_cons rfl cat_nil) [some (.ref (b + 0)), none] rfl (Nat.le_of_ble_eq_true rfl) (fun V hV => ?_)
  have B24 : ∀ (s0 : Int32) (FM : FMem), X9_readFadesOf_b24 s0 FM = some (r0, FR) → V FM 24 [some (.ref (b + 0)), none] [.int s0] := by
    intro  s0 FM h
    unfold X9_readFadesOf_b24 at h
    refine r_istore_n hV dX9_readFadesOf_24 (Nat.le_of_ble_eq_true rfl) rfl ?_
    refine r_aload_n hV dX9_readFadesOf_25 rfl ?_
    refine r_iload_n hV dX9_readFadesOf_26 rfl ?_
    refine r_ifeq hV 39 dX9_readFadesOf_27 rfl (fun c5 => ?_) (fun c5 => ?_)
    · have h := (if_pos c5).symm.trans h
      refine r_aload_n hV dX9_readFadesOf_39 rfl ?_
      refine r_geto hV fl_X9_88 obM_0 rfl dX9_readFadesOf_40 ?_
      refine r_puti hV fl_X9_88 obM_0 (fun _ _ => rfl) (Nat.le_of_ble_eq_true rfl) dX9_readFadesOf_43 ?_
      refine r_bm h (fun M6 h => ?_)
      refine r_iload_n hV dX9_readFadesOf_46 rfl ?_
      obtain ⟨g7, h⟩ := grd_some h
      exact r_zret hV rfl (isB_or g7) dX9_readFadesOf_47 (ret_r h) (ret_m h)
    · have h := (if_neg c5).symm.trans h
      refine r_aload_n hV dX9_readFadesOf_30 rfl ?_
      refine r_geto hV fl_X9_31 obM_0 rfl dX9_readFadesOf_31 ?_
      refine r_iconst (v := (0 : Int32)) hV dX9_readFadesOf_34 rfl ?_
      refine r_ald hV arM_8 (inb_in rfl) (0) rfl dX9_readFadesOf_35 ?_
      refine r_goto hV 43 dX9_readFadesOf_36 rfl ?_
      refine r_puti hV fl_X9_88 obM_0 (fun _ _ => rfl) (Nat.le_of_ble_eq_true rfl) dX9_readFadesOf_43 ?_
      refine r_bm h (fun M8 h => ?_)
      refine r_iload_n hV dX9_readFadesOf_46 rfl ?_
      obtain ⟨g9, h⟩ := grd_some h
      exact r_zret hV rfl (isB_or g9) dX9_readFadesOf_47 (ret_r h) (ret_m h)
  have B23 : ∀ (FM : FMem), X9_readFadesOf_b23 FM = some (r0, FR) → V FM 23 [some (.ref (b + 0)), none] [] := by
    intro   FM h
    unfold X9_readFadesOf_b23 at h
    refine r_iconst (v := (0 : Int32)) hV dX9_readFadesOf_23 rfl ?_
    exact B24 (0 : Int32) FM h
  unfold f_X9_readFadesOf at h
  refine r_aload_n hV dX9_readFadesOf_0 rfl ?_
  refine r_iconst (v := (1 : Int32)) hV dX9_readFadesOf_1 rfl ?_
  obtain ⟨r1, M2, q3, h⟩ := bnd_some h
  refine r_cVi hV (m_X9_readNumbers l D cI b (1 : Int32) FM _ _ q3) ml_X9_91 obM_0 rfl rfl (by decide) (Nat.le_of_ble_eq_true rfl) rfl dX9_readFadesOf_2 ?_
  refine r_ifeq hV 23 dX9_readFadesOf_5 rfl (fun c4 => ?_) (fun c4 => ?_)
  · have h := (if_pos c4).symm.trans h
    exact B23 M2 h
  · have h := (if_neg c4).symm.trans h
    refine r_aload_n hV dX9_readFadesOf_8 rfl ?_
    refine r_iconst (v := (0 : Int32)) hV dX9_readFadesOf_9 rfl ?_
    refine r_iconst (v := (1 : Int32)) hV dX9_readFadesOf_10 rfl ?_
    refine r_bipush (v := (9 : Int32)) hV dX9_readFadesOf_11 rfl ?_
    obtain ⟨r10, M11, q12, h⟩ := bnd_some h
    refine r_cVi hV (m_X9_isTold l D cI b (0 : Int32) (1 : Int32) (9 : Int32) M2 _ _ q12) ml_X9_94 obM_0 rfl rfl (by decide) (Nat.le_of_ble_eq_true rfl) rfl dX9_readFadesOf_13 ?_
    refine r_ifeq hV 23 dX9_readFadesOf_16 rfl (fun c13 => ?_) (fun c13 => ?_)
    · have h := (if_pos c13).symm.trans h
      exact B23 M11 h
    · have h := (if_neg c13).symm.trans h
      refine r_iconst (v := (1 : Int32)) hV dX9_readFadesOf_19 rfl ?_
      refine r_goto hV 24 dX9_readFadesOf_20 rfl ?_
      exact B24 (1 : Int32) M11 h
def f_X9_readItem (FM : FMem) : Opt :=
  bnd (f_X9_letterAt (FM 0 13) FM) fun r1 M2 =>
  bindm (fset M2 0 13 ((M2 0 13) + (1 : Int32))) fun M4 =>
  if r1 = (102 : Int32) then (
    bnd (f_X9_readFadesOf M4) fun r6 M7 =>
    grd (isB r6) <|
    some (r6, M7)
  ) else
  if r1 = (112 : Int32) then (
    bnd (f_X9_readPersonOf M4) fun r11 M12 =>
    grd (isB r11) <|
    some (r11, M12)
  ) else
  if r1 = (116 : Int32) then (
    bnd (f_X9_readThingOf M4) fun r16 M17 =>
    grd (isB r16) <|
    some (r16, M17)
  ) else
  some ((0 : Int32), M4)
set_option maxHeartbeats 4000000 in
set_option maxRecDepth 100000 in
theorem m_X9_readItem (l : Launch) (D : va_G) (cI : ClassId) (b : Nat) (FM : FMem) (r0 : Int32) (FR : FMem) (h : f_X9_readItem FM = some (r0, FR)) : Mt l (wdM D cI b) yX9_readItem cX9_readItem 2 (some .boolean) 4 85 [.ref (b + 0)] FM (some (.int r0)) FR := by
  refine Mt.of (by decide) (cat_cons rfl cat_nil) [some (.ref (b + 0)), none] rfl (Nat.le_of_ble_eq_true rfl) (fun V hV => ?_)
  unfold f_X9_readItem at h
  refine r_aload_n hV dX9_readItem_0 rfl ?_
  refine r_aload_n hV dX9_readItem_1 rfl ?_
  refine r_geto hV fl_X9_77 obM_0 rfl dX9_readItem_2 ?_
  obtain ⟨r1, M2, q3, h⟩ := bnd_some h
  refine r_cVi hV (m_X9_letterAt l D cI b (FM 0 13) FM _ _ q3) ml_X9_80 obM_0 rfl rfl (by decide) (Nat.le_of_ble_eq_true rfl) rfl dX9_readItem_5 ?_
  refine r_istore_n hV dX9_readItem_8 (Nat.le_of_ble_eq_true rfl) rfl ?_
  refine r_aload_n hV dX9_readItem_9 rfl ?_
  refine r_dup hV dX9_readItem_10 rfl ?_
  refine r_geto hV fl_X9_77 obM_0 rfl dX9_readItem_11 ?_
  refine r_iconst (v := (1 : Int32)) hV dX9_readItem_14 rfl ?_
  refine r_iadd hV dX9_readItem_15 ?_
  refine r_puti hV fl_X9_77 obM_0 (fun _ _ => rfl) (Nat.le_of_ble_eq_true rfl) dX9_readItem_16 ?_
  refine r_bm h (fun M4 h => ?_)
  refine r_iload_n hV dX9_readItem_19 rfl ?_
  by_cases e5 : r1 = (102 : Int32)
  · have h := (if_pos e5).symm.trans h
    refine r_look hV 66 dX9_readItem_20 (by decide) (by first | (rw [e5]; done) | (rw [e5]; rfl)) rfl ?_
    refine r_aload_n hV dX9_readItem_66 rfl ?_
    obtain ⟨r6, M7, q8, h⟩ := bnd_some h
    refine r_cVi hV (m_X9_readFadesOf l D cI b M4 _ _ q8) ml_X9_104 obM_0 rfl rfl (by decide) (Nat.le_of_ble_eq_true rfl) rfl dX9_readItem_67 ?_
    obtain ⟨g9, h⟩ := grd_some h
    exact r_zret hV rfl (isB_or g9) dX9_readItem_70 (ret_r h) (ret_m h)
  have h := (if_neg e5).symm.trans h
  by_cases e10 : r1 = (112 : Int32)
  · have h := (if_pos e10).symm.trans h
    refine r_look hV 56 dX9_readItem_20 (by decide) (by first | (rw [e10]; done) | (rw [e10]; rfl)) rfl ?_
    refine r_aload_n hV dX9_readItem_56 rfl ?_
    obtain ⟨r11, M12, q13, h⟩ := bnd_some h
    refine r_cVi hV (m_X9_readPersonOf l D cI b M4 _ _ q13) ml_X9_97 obM_0 rfl rfl (by decide) (Nat.le_of_ble_eq_true rfl) rfl dX9_readItem_57 ?_
    obtain ⟨g14, h⟩ := grd_some h
    exact r_zret hV rfl (isB_or g14) dX9_readItem_60 (ret_r h) (ret_m h)
  have h := (if_neg e10).symm.trans h
  by_cases e15 : r1 = (116 : Int32)
  · have h := (if_pos e15).symm.trans h
    refine r_look hV 61 dX9_readItem_20 (by decide) (by first | (rw [e15]; done) | (rw [e15]; rfl)) rfl ?_
    refine r_aload_n hV dX9_readItem_61 rfl ?_
    obtain ⟨r16, M17, q18, h⟩ := bnd_some h
    refine r_cVi hV (m_X9_readThingOf l D cI b M4 _ _ q18) ml_X9_101 obM_0 rfl rfl (by decide) (Nat.le_of_ble_eq_true rfl) rfl dX9_readItem_62 ?_
    obtain ⟨g19, h⟩ := grd_some h
    exact r_zret hV rfl (isB_or g19) dX9_readItem_65 (ret_r h) (ret_m h)
  have h := (if_neg e15).symm.trans h
  refine r_look hV 71 dX9_readItem_20 (by decide) (by show Op.lookupswitch.offset [(102, 46), (112, 36), (116, 41)] 51 _ = _; rw [lv_osw (a := 102) e5 rfl, lv_osw (a := 112) e10 rfl, lv_osw (a := 116) e15 rfl]) rfl ?_
  refine r_iconst (v := (0 : Int32)) hV dX9_readItem_71 rfl ?_
  exact r_zret hV rfl (Or.inl rfl) dX9_readItem_72 (ret_r h) (ret_m h)
def X9_fault_b9s (k9 : FMem → Opt) (FM : FMem) : Opt :=
  if (FM 0 12) ≤ (FM 0 13) then (
    some ((-4 : Int32), FM)
  ) else (
    bindv (FM 0 13) fun v6 =>
    bnd (f_X9_readItem FM) fun r7 M8 =>
    if r7 = 0 then (
      some (v6, M8)
    ) else (
      k9 M8
    )
  )
def X9_fault_b9 : Nat → FMem → Opt
  | 0, _ => none
  | nf + 1, FM => X9_fault_b9s (X9_fault_b9 nf) FM
def f_X9_fault (FM : FMem) : Opt :=
  bindm (fset FM 0 13 (0 : Int32)) fun M1 =>
  bnd (f_X9_clearTold M1) fun r2 M3 =>
  X9_fault_b9 FU M3
set_option maxHeartbeats 4000000 in
set_option maxRecDepth 100000 in
theorem m_X9_fault (l : Launch) (D : va_G) (cI : ClassId) (b : Nat) (FM : FMem) (r0 : Int32) (FR : FMem) (h : f_X9_fault FM = some (r0, FR)) : Mt l (wdM D cI b) yX9_fault cX9_fault 2 (some .int) 5 106 [.ref (b + 0)] FM (some (.int r0)) FR := by
  refine Mt.of (by decide) (cat_cons rfl cat_nil) [some (.ref (b + 0)), none] rfl (Nat.le_of_ble_eq_true rfl) (fun V hV => ?_)
  have B9 : ∀ (k9 : FMem → Opt) (hk9 : ∀ (FM : FMem), k9 FM = some (r0, FR) → V FM 9 [some (.ref (b + 0)), none] []) (FM : FMem), X9_fault_b9s k9 FM = some (r0, FR) → V FM 9 [some (.ref (b + 0)), none] [] := by
    intro k9 hk9  FM h
    unfold X9_fault_b9s at h
    refine r_aload_n hV dX9_fault_9 rfl ?_
    refine r_geto hV fl_X9_77 obM_0 rfl dX9_fault_10 ?_
    refine r_aload_n hV dX9_fault_13 rfl ?_
    refine r_geto hV fl_X9_74 obM_0 rfl dX9_fault_14 ?_
    refine r_icmpge hV 37 dX9_fault_17 rfl (fun c5 => ?_) (fun c5 => ?_)
    · have h := (if_pos c5).symm.trans h
      refine r_bipush (v := (-4 : Int32)) hV dX9_fault_37 rfl ?_
      exact r_iret hV rfl dX9_fault_39 (ret_r h) (ret_m h)
    · have h := (if_neg c5).symm.trans h
      refine r_aload_n hV dX9_fault_20 rfl ?_
      refine r_geto hV fl_X9_77 obM_0 rfl dX9_fault_21 ?_
      refine r_bv h (fun v6 h => ?_)
      refine r_istore_n hV dX9_fault_24 (Nat.le_of_ble_eq_true rfl) rfl ?_
      refine r_aload_n hV dX9_fault_25 rfl ?_
      obtain ⟨r7, M8, q9, h⟩ := bnd_some h
      refine r_cVi hV (m_X9_readItem l D cI b FM _ _ q9) ml_X9_107 obM_0 rfl rfl (by decide) (Nat.le_of_ble_eq_true rfl) rfl dX9_fault_26 ?_
      refine r_ifne hV 34 dX9_fault_29 rfl (fun c10 => ?_) (fun c10 => ?_)
      · have h := (if_neg c10).symm.trans h
        refine r_goto hV 9 dX9_fault_34 rfl ?_
        refine r_mask hV [true, false] ?_
        exact hk9 M8 h
      · have h := (if_pos c10).symm.trans h
        refine r_iload_n hV dX9_fault_32 rfl ?_
        exact r_iret hV rfl dX9_fault_33 (ret_r h) (ret_m h)
  have L9 : ∀ (nf : Nat) (FM : FMem), X9_fault_b9 nf FM = some (r0, FR) → V FM 9 [some (.ref (b + 0)), none] [] := by
    intro  nf
    induction nf with
    | zero => intro  FM h; exact absurd (show (none : Opt) = some (r0, FR) from h) (fun h9 => by cases h9)
    | succ nf ih => intro  FM h; exact B9 (X9_fault_b9 nf) ih  FM h
  unfold f_X9_fault at h
  refine r_aload_n hV dX9_fault_0 rfl ?_
  refine r_iconst (v := (0 : Int32)) hV dX9_fault_1 rfl ?_
  refine r_puti hV fl_X9_77 obM_0 (fun _ _ => rfl) (Nat.le_of_ble_eq_true rfl) dX9_fault_2 ?_
  refine r_bm h (fun M1 h => ?_)
  refine r_aload_n hV dX9_fault_5 rfl ?_
  obtain ⟨r2, M3, q4, h⟩ := bnd_some h
  refine r_cVv hV (m_X9_clearTold l D cI b M1 _ _ q4) ml_X9_49 obM_0 rfl rfl (by decide) (Nat.le_of_ble_eq_true rfl) rfl dX9_fault_6 ?_
  exact L9 FU M3 h
def X9_settles_b32s (k32 : Int32 → FMem → Opt) (x1 : Int32) (FM : FMem) : Opt :=
  if (6 : Int32) ≤ x1 then (
    bnd (f_X9_put 2 46 10 46 (0 : Int32) (46 : Int32) FM) fun r7 M8 =>
    bnd (f_X9_put 3 46 10 46 (0 : Int32) (46 : Int32) M8) fun r10 M11 =>
    bindm (fset M11 0 5 (0 : Int32)) fun M13 =>
    bindm (fset M13 0 7 (0 : Int32)) fun M14 =>
    bindm (fset M14 0 9 (0 : Int32)) fun M15 =>
    some (0, M15)
  ) else (
    grd (inb ((4 : Int32) + x1) 46) <|
    bindm (fset FM 10 ((((4 : Int32) + x1)).toNatClampNeg) x1) fun M17 =>
    k32 (x1 + (1 : Int32)) M17
  )
def X9_settles_b32 : Nat → Int32 → FMem → Opt
  | 0, _, _ => none
  | nf + 1, x1, FM => X9_settles_b32s (X9_settles_b32 nf) x1 FM
def f_X9_settles (FM : FMem) : Opt :=
  bindm (fset FM 0 0 (FM 0 15)) fun M1 =>
  bindm (fset M1 0 2 (M1 0 17)) fun M2 =>
  bnd (f_X9_put 1 18 9 18 (0 : Int32) (18 : Int32) M2) fun r3 M4 =>
  X9_settles_b32 FU (0 : Int32) M4
set_option maxHeartbeats 4000000 in
set_option maxRecDepth 100000 in
theorem m_X9_settles (l : Launch) (D : va_G) (cI : ClassId) (b : Nat) (FM : FMem) (r0 : Int32) (FR : FMem) (h : f_X9_settles FM = some (r0, FR)) : Mt l (wdM D cI b) yX9_settles cX9_settles 2 none 1 24 [.ref (b + 0)] FM none FR := by
  refine Mt.of (by decide) (cat_cons rfl cat_nil) [some (.ref (b + 0)), none] rfl (Nat.le_of_ble_eq_true rfl) (fun V hV => ?_)
  have B32 : ∀ (k32 : Int32 → FMem → Opt) (hk32 : ∀ (x1 : Int32) (FM : FMem), k32 x1 FM = some (r0, FR) → V FM 32 [some (.ref (b + 0)), some (.int x1)] []) (x1 : Int32) (FM : FMem), X9_settles_b32s k32 x1 FM = some (r0, FR) → V FM 32 [some (.ref (b + 0)), some (.int x1)] [] := by
    intro k32 hk32 x1 FM h
    unfold X9_settles_b32s at h
    refine r_iload_n hV dX9_settles_32 rfl ?_
    refine r_bipush (v := (6 : Int32)) hV dX9_settles_33 rfl ?_
    refine r_icmpge hV 53 dX9_settles_35 rfl (fun c6 => ?_) (fun c6 => ?_)
    · have h := (if_pos c6).symm.trans h
      refine r_aload_n hV dX9_settles_53 rfl ?_
      refine r_geto hV fl_X9_13 obM_0 rfl dX9_settles_54 ?_
      refine r_iconst (v := (0 : Int32)) hV dX9_settles_57 rfl ?_
      refine r_aload_n hV dX9_settles_58 rfl ?_
      refine r_geto hV fl_X9_37 obM_0 rfl dX9_settles_59 ?_
      refine r_bipush (v := (46 : Int32)) hV dX9_settles_62 rfl ?_
      obtain ⟨r7, M8, q9, h⟩ := bnd_some h
      refine r_cSv hV (m_X9_put l D cI b 2 46 10 46 arM_2 arM_10 (0 : Int32) (46 : Int32) FM _ _ q9) ml_X9_117 rfl (by decide) (Nat.le_of_ble_eq_true rfl) rfl dX9_settles_64 ?_
      refine r_aload_n hV dX9_settles_67 rfl ?_
      refine r_geto hV fl_X9_16 obM_0 rfl dX9_settles_68 ?_
      refine r_iconst (v := (0 : Int32)) hV dX9_settles_71 rfl ?_
      refine r_aload_n hV dX9_settles_72 rfl ?_
      refine r_geto hV fl_X9_37 obM_0 rfl dX9_settles_73 ?_
      refine r_bipush (v := (46 : Int32)) hV dX9_settles_76 rfl ?_
      obtain ⟨r10, M11, q12, h⟩ := bnd_some h
      refine r_cSv hV (m_X9_put l D cI b 3 46 10 46 arM_3 arM_10 (0 : Int32) (46 : Int32) M8 _ _ q12) ml_X9_117 rfl (by decide) (Nat.le_of_ble_eq_true rfl) rfl dX9_settles_78 ?_
      refine r_aload_n hV dX9_settles_81 rfl ?_
      refine r_iconst (v := (0 : Int32)) hV dX9_settles_82 rfl ?_
      refine r_puti hV fl_X9_121 obM_0 (fun _ _ => rfl) (Nat.le_of_ble_eq_true rfl) dX9_settles_83 ?_
      refine r_bm h (fun M13 h => ?_)
      refine r_aload_n hV dX9_settles_86 rfl ?_
      refine r_iconst (v := (0 : Int32)) hV dX9_settles_87 rfl ?_
      refine r_puti hV fl_X9_124 obM_0 (fun _ _ => rfl) (Nat.le_of_ble_eq_true rfl) dX9_settles_88 ?_
      refine r_bm h (fun M14 h => ?_)
      refine r_aload_n hV dX9_settles_91 rfl ?_
      refine r_iconst (v := (0 : Int32)) hV dX9_settles_92 rfl ?_
      refine r_puti hV fl_X9_127 obM_0 (fun _ _ => rfl) (Nat.le_of_ble_eq_true rfl) dX9_settles_93 ?_
      refine r_bm h (fun M15 h => ?_)
      exact r_vret hV rfl dX9_settles_96 rfl (ret_m h)
    · have h := (if_neg c6).symm.trans h
      refine r_aload_n hV dX9_settles_38 rfl ?_
      refine r_geto hV fl_X9_37 obM_0 rfl dX9_settles_39 ?_
      refine r_iconst (v := (4 : Int32)) hV dX9_settles_42 rfl ?_
      refine r_iload_n hV dX9_settles_43 rfl ?_
      refine r_iadd hV dX9_settles_44 ?_
      refine r_iload_n hV dX9_settles_45 rfl ?_
      obtain ⟨g16, h⟩ := grd_some h
      refine r_ast hV arM_10 (inb_in g16) ((((4 : Int32) + x1)).toNatClampNeg) rfl dX9_settles_46 ?_
      refine r_bm h (fun M17 h => ?_)
      refine r_iinc (v := (1 : Int32)) hV dX9_settles_47 rfl rfl rfl ?_
      refine r_goto hV 32 dX9_settles_50 rfl ?_
      exact hk32 (x1 + (1 : Int32)) M17 h
  have L32 : ∀ (nf : Nat) (x1 : Int32) (FM : FMem), X9_settles_b32 nf x1 FM = some (r0, FR) → V FM 32 [some (.ref (b + 0)), some (.int x1)] [] := by
    intro  nf
    induction nf with
    | zero => intro x1 FM h; exact absurd (show (none : Opt) = some (r0, FR) from h) (fun h9 => by cases h9)
    | succ nf ih => intro x1 FM h; exact B32 (X9_settles_b32 nf) ih x1 FM h
  unfold f_X9_settles at h
  refine r_aload_n hV dX9_settles_0 rfl ?_
  refine r_aload_n hV dX9_settles_1 rfl ?_
  refine r_geto hV fl_X9_63 obM_0 rfl dX9_settles_2 ?_
  refine r_puti hV fl_X9_67 obM_0 (fun _ _ => rfl) (Nat.le_of_ble_eq_true rfl) dX9_settles_5 ?_
  refine r_bm h (fun M1 h => ?_)
  refine r_aload_n hV dX9_settles_8 rfl ?_
  refine r_aload_n hV dX9_settles_9 rfl ?_
  refine r_geto hV fl_X9_88 obM_0 rfl dX9_settles_10 ?_
  refine r_puti hV fl_X9_114 obM_0 (fun _ _ => rfl) (Nat.le_of_ble_eq_true rfl) dX9_settles_13 ?_
  refine r_bm h (fun M2 h => ?_)
  refine r_aload_n hV dX9_settles_16 rfl ?_
  refine r_geto hV fl_X9_7 obM_0 rfl dX9_settles_17 ?_
  refine r_iconst (v := (0 : Int32)) hV dX9_settles_20 rfl ?_
  refine r_aload_n hV dX9_settles_21 rfl ?_
  refine r_geto hV fl_X9_34 obM_0 rfl dX9_settles_22 ?_
  refine r_bipush (v := (18 : Int32)) hV dX9_settles_25 rfl ?_
  obtain ⟨r3, M4, q5, h⟩ := bnd_some h
  refine r_cSv hV (m_X9_put l D cI b 1 18 9 18 arM_1 arM_9 (0 : Int32) (18 : Int32) M2 _ _ q5) ml_X9_117 rfl (by decide) (Nat.le_of_ble_eq_true rfl) rfl dX9_settles_27 ?_
  refine r_iconst (v := (0 : Int32)) hV dX9_settles_30 rfl ?_
  refine r_istore_n hV dX9_settles_31 (Nat.le_of_ble_eq_true rfl) rfl ?_
  exact L32 FU (0 : Int32) M4 h
def f_X9_lay (FM : FMem) : Opt :=
  bnd (f_X9_fault FM) fun r1 M2 =>
  if r1 = (-4 : Int32) then (
    if (M2 0 15) = 0 then (
      some ((-2 : Int32), M2)
    ) else (
      bnd (f_X9_settles M2) fun r6 M7 =>
      some ((M7 0 0), M7)
    )
  ) else (
    some ((-2 : Int32), M2)
  )
set_option maxHeartbeats 4000000 in
set_option maxRecDepth 100000 in
theorem m_X9_lay (l : Launch) (D : va_G) (cI : ClassId) (b : Nat) (FM : FMem) (r0 : Int32) (FR : FMem) (h : f_X9_lay FM = some (r0, FR)) : Mt l (wdM D cI b) yX9_lay cX9_lay 1 (some .int) 6 127 [.ref (b + 0)] FM (some (.int r0)) FR := by
  refine Mt.of (by decide) (cat_cons rfl cat_nil) [some (.ref (b + 0))] rfl (Nat.le_of_ble_eq_true rfl) (fun V hV => ?_)
  unfold f_X9_lay at h
  refine r_aload_n hV dX9_lay_0 rfl ?_
  obtain ⟨r1, M2, q3, h⟩ := bnd_some h
  refine r_cVi hV (m_X9_fault l D cI b FM _ _ q3) ml_X9_110 obM_0 rfl rfl (by decide) (Nat.le_of_ble_eq_true rfl) rfl dX9_lay_1 ?_
  refine r_bipush (v := (-4 : Int32)) hV dX9_lay_4 rfl ?_
  refine r_icmpne hV 16 dX9_lay_6 rfl (fun c4 => ?_) (fun c4 => ?_)
  · have h := (if_neg c4).symm.trans h
    refine r_bipush (v := (-2 : Int32)) hV dX9_lay_16 rfl ?_
    exact r_iret hV rfl dX9_lay_18 (ret_r h) (ret_m h)
  · have h := (if_pos c4).symm.trans h
    refine r_aload_n hV dX9_lay_9 rfl ?_
    refine r_geto hV fl_X9_63 obM_0 rfl dX9_lay_10 ?_
    refine r_ifne hV 19 dX9_lay_13 rfl (fun c5 => ?_) (fun c5 => ?_)
    · have h := (if_neg c5).symm.trans h
      refine r_aload_n hV dX9_lay_19 rfl ?_
      obtain ⟨r6, M7, q8, h⟩ := bnd_some h
      refine r_cVv hV (m_X9_settles l D cI b M2 _ _ q8) ml_X9_60 obM_0 rfl rfl (by decide) (Nat.le_of_ble_eq_true rfl) rfl dX9_lay_20 ?_
      refine r_aload_n hV dX9_lay_23 rfl ?_
      refine r_geto hV fl_X9_67 obM_0 rfl dX9_lay_24 ?_
      exact r_iret hV rfl dX9_lay_27 (ret_r h) (ret_m h)
    · have h := (if_pos c5).symm.trans h
      refine r_bipush (v := (-2 : Int32)) hV dX9_lay_16 rfl ?_
      exact r_iret hV rfl dX9_lay_18 (ret_r h) (ret_m h)
