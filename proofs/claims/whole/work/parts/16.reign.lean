def f_X3_reigning (FM : FMem) : Opt :=
  if (FM 98 3) < 0 then (
    some ((0 : Int32), FM)
  ) else (
    if (6 : Int32) ≤ (FM 98 3) then (
      some ((0 : Int32), FM)
    ) else (
      grd (inb (FM 98 3) 6) <|
      some ((FM 99 (((FM 98 3)).toNatClampNeg)), FM)
    )
  )
set_option maxHeartbeats 4000000 in
set_option maxRecDepth 100000 in
theorem m_X3_reigning (l : Launch) (D : va_G) (cI cM : ClassId) (b : Nat) (FM : FMem) (r0 : Int32) (FR : FMem) (h : f_X3_reigning FM = some (r0, FR)) : Mt l (wdC D cI cM b) yX3_reigning cX3_reigning 1 (some .int) 0 0 [.ref (b + 98)] FM (some (.int r0)) FR := by
  refine Mt.of (by decide) (cat_cons rfl cat_nil) [some (.ref (b + 98))] rfl (Nat.le_of_ble_eq_true rfl) (fun V hV => ?_)
  unfold f_X3_reigning at h
  refine r_aload_n hV dX3_reigning_0 rfl ?_
  refine r_geto hV fl_X3_32 ob_98 rfl dX3_reigning_1 ?_
  refine r_iflt hV 28 dX3_reigning_4 rfl (fun c1 => ?_) (fun c1 => ?_)
  · have h := (if_pos c1).symm.trans h
    refine r_iconst (v := (0 : Int32)) hV dX3_reigning_28 rfl ?_
    exact r_iret hV rfl dX3_reigning_29 (ret_r h) (ret_m h)
  · have h := (if_neg c1).symm.trans h
    refine r_aload_n hV dX3_reigning_7 rfl ?_
    refine r_geto hV fl_X3_32 ob_98 rfl dX3_reigning_8 ?_
    refine r_bipush (v := (6 : Int32)) hV dX3_reigning_11 rfl ?_
    refine r_icmpge hV 28 dX3_reigning_13 rfl (fun c2 => ?_) (fun c2 => ?_)
    · have h := (if_pos c2).symm.trans h
      refine r_iconst (v := (0 : Int32)) hV dX3_reigning_28 rfl ?_
      exact r_iret hV rfl dX3_reigning_29 (ret_r h) (ret_m h)
    · have h := (if_neg c2).symm.trans h
      refine r_aload_n hV dX3_reigning_16 rfl ?_
      refine r_geto hV fl_X3_9 ob_98 rfl dX3_reigning_17 ?_
      refine r_aload_n hV dX3_reigning_20 rfl ?_
      refine r_geto hV fl_X3_32 ob_98 rfl dX3_reigning_21 ?_
      obtain ⟨g3, h⟩ := grd_some h
      refine r_ald hV ar_99 (inb_in g3) (((FM 98 3)).toNatClampNeg) rfl dX3_reigning_24 ?_
      refine r_goto hV 29 dX3_reigning_25 rfl ?_
      exact r_iret hV rfl dX3_reigning_29 (ret_r h) (ret_m h)
def X3_lineUp_b2s (k2 : Int32 → FMem → Opt) (x1 : Int32) (FM : FMem) : Opt :=
  if (6 : Int32) ≤ x1 then (
    some (0, FM)
  ) else (
    grd (inb x1 6) <|
    bindm (fset FM 99 ((x1).toNatClampNeg) x1) fun M3 =>
    k2 (x1 + (1 : Int32)) M3
  )
def X3_lineUp_b2 : Nat → Int32 → FMem → Opt
  | 0, _, _ => none
  | nf + 1, x1, FM => X3_lineUp_b2s (X3_lineUp_b2 nf) x1 FM
def f_X3_lineUp (FM : FMem) : Opt :=
  X3_lineUp_b2 FU (0 : Int32) FM
set_option maxHeartbeats 4000000 in
set_option maxRecDepth 100000 in
theorem m_X3_lineUp (l : Launch) (D : va_G) (cI cM : ClassId) (b : Nat) (FM : FMem) (r0 : Int32) (FR : FMem) (h : f_X3_lineUp FM = some (r0, FR)) : Mt l (wdC D cI cM b) yX3_lineUp cX3_lineUp 2 none 0 0 [.ref (b + 98)] FM none FR := by
  refine Mt.of (by decide) (cat_cons rfl cat_nil) [some (.ref (b + 98)), none] rfl (Nat.le_of_ble_eq_true rfl) (fun V hV => ?_)
  have B2 : ∀ (k2 : Int32 → FMem → Opt) (hk2 : ∀ (x1 : Int32) (FM : FMem), k2 x1 FM = some (r0, FR) → V FM 2 [some (.ref (b + 98)), some (.int x1)] []) (x1 : Int32) (FM : FMem), X3_lineUp_b2s k2 x1 FM = some (r0, FR) → V FM 2 [some (.ref (b + 98)), some (.int x1)] [] := by
    intro k2 hk2 x1 FM h
    unfold X3_lineUp_b2s at h
    refine r_iload_n hV dX3_lineUp_2 rfl ?_
    refine r_bipush (v := (6 : Int32)) hV dX3_lineUp_3 rfl ?_
    refine r_icmpge hV 21 dX3_lineUp_5 rfl (fun c1 => ?_) (fun c1 => ?_)
    · have h := (if_pos c1).symm.trans h
      exact r_vret hV rfl dX3_lineUp_21 rfl (ret_m h)
    · have h := (if_neg c1).symm.trans h
      refine r_aload_n hV dX3_lineUp_8 rfl ?_
      refine r_geto hV fl_X3_9 ob_98 rfl dX3_lineUp_9 ?_
      refine r_iload_n hV dX3_lineUp_12 rfl ?_
      refine r_iload_n hV dX3_lineUp_13 rfl ?_
      obtain ⟨g2, h⟩ := grd_some h
      refine r_ast hV ar_99 (inb_in g2) ((x1).toNatClampNeg) rfl dX3_lineUp_14 ?_
      refine r_bm h (fun M3 h => ?_)
      refine r_iinc (v := (1 : Int32)) hV dX3_lineUp_15 rfl rfl rfl ?_
      refine r_goto hV 2 dX3_lineUp_18 rfl ?_
      exact hk2 (x1 + (1 : Int32)) M3 h
  have L2 : ∀ (nf : Nat) (x1 : Int32) (FM : FMem), X3_lineUp_b2 nf x1 FM = some (r0, FR) → V FM 2 [some (.ref (b + 98)), some (.int x1)] [] := by
    intro  nf
    induction nf with
    | zero => intro x1 FM h; exact absurd (show (none : Opt) = some (r0, FR) from h) (fun h9 => by cases h9)
    | succ nf ih => intro x1 FM h; exact B2 (X3_lineUp_b2 nf) ih x1 FM h
  unfold f_X3_lineUp at h
  refine r_iconst (v := (0 : Int32)) hV dX3_lineUp_0 rfl ?_
  refine r_istore_n hV dX3_lineUp_1 (Nat.le_of_ble_eq_true rfl) rfl ?_
  exact L2 FU (0 : Int32) FM h
def f_X3_start (FM : FMem) : Opt :=
  bnd (f_X3_lineUp FM) fun r1 M2 =>
  bindm (fset M2 98 3 (M2 21 1)) fun M4 =>
  bindm (fset M4 98 4 (M4 21 2)) fun M5 =>
  some (0, M5)
set_option maxHeartbeats 4000000 in
set_option maxRecDepth 100000 in
theorem m_X3_start (l : Launch) (D : va_G) (cI cM : ClassId) (b : Nat) (FM : FMem) (r0 : Int32) (FR : FMem) (h : f_X3_start FM = some (r0, FR)) : Mt l (wdC D cI cM b) yX3_start cX3_start 2 none 1 21 [.ref (b + 98), .ref (b + 21)] FM none FR := by
  refine Mt.of (by decide) (cat_cons rfl (cat_cons rfl cat_nil)) [some (.ref (b + 98)), some (.ref (b + 21))] rfl (Nat.le_of_ble_eq_true rfl) (fun V hV => ?_)
  unfold f_X3_start at h
  refine r_aload_n hV dX3_start_0 rfl ?_
  obtain ⟨r1, M2, q3, h⟩ := bnd_some h
  refine r_cVv hV (m_X3_lineUp l D cI cM b FM _ _ q3) ml_X3_23 ob_98 rfl rfl (by decide) (Nat.le_of_ble_eq_true rfl) rfl dX3_start_1 ?_
  refine r_aload_n hV dX3_start_4 rfl ?_
  refine r_aload_n hV dX3_start_5 rfl ?_
  refine r_geto hV fl_X3_26 ob_21 rfl dX3_start_6 ?_
  refine r_puti hV fl_X3_32 ob_98 (fun _ _ => rfl) (Nat.le_of_ble_eq_true rfl) dX3_start_9 ?_
  refine r_bm h (fun M4 h => ?_)
  refine r_aload_n hV dX3_start_12 rfl ?_
  refine r_aload_n hV dX3_start_13 rfl ?_
  refine r_geto hV fl_X3_35 ob_21 rfl dX3_start_14 ?_
  refine r_puti hV fl_X3_38 ob_98 (fun _ _ => rfl) (Nat.le_of_ble_eq_true rfl) dX3_start_17 ?_
  refine r_bm h (fun M5 h => ?_)
  exact r_vret hV rfl dX3_start_20 rfl (ret_m h)
def f_X3_startFirst (FM : FMem) : Opt :=
  bnd (f_X3_lineUp FM) fun r1 M2 =>
  bindm (fset M2 98 3 (0 : Int32)) fun M4 =>
  bindm (fset M4 98 4 (0 : Int32)) fun M5 =>
  some (0, M5)
set_option maxHeartbeats 4000000 in
set_option maxRecDepth 100000 in
theorem m_X3_startFirst (l : Launch) (D : va_G) (cI cM : ClassId) (b : Nat) (FM : FMem) (r0 : Int32) (FR : FMem) (h : f_X3_startFirst FM = some (r0, FR)) : Mt l (wdC D cI cM b) yX3_startFirst cX3_startFirst 1 none 1 21 [.ref (b + 98)] FM none FR := by
  refine Mt.of (by decide) (cat_cons rfl cat_nil) [some (.ref (b + 98))] rfl (Nat.le_of_ble_eq_true rfl) (fun V hV => ?_)
  unfold f_X3_startFirst at h
  refine r_aload_n hV dX3_startFirst_0 rfl ?_
  obtain ⟨r1, M2, q3, h⟩ := bnd_some h
  refine r_cVv hV (m_X3_lineUp l D cI cM b FM _ _ q3) ml_X3_23 ob_98 rfl rfl (by decide) (Nat.le_of_ble_eq_true rfl) rfl dX3_startFirst_1 ?_
  refine r_aload_n hV dX3_startFirst_4 rfl ?_
  refine r_iconst (v := (0 : Int32)) hV dX3_startFirst_5 rfl ?_
  refine r_puti hV fl_X3_32 ob_98 (fun _ _ => rfl) (Nat.le_of_ble_eq_true rfl) dX3_startFirst_6 ?_
  refine r_bm h (fun M4 h => ?_)
  refine r_aload_n hV dX3_startFirst_9 rfl ?_
  refine r_iconst (v := (0 : Int32)) hV dX3_startFirst_10 rfl ?_
  refine r_puti hV fl_X3_38 ob_98 (fun _ _ => rfl) (Nat.le_of_ble_eq_true rfl) dX3_startFirst_11 ?_
  refine r_bm h (fun M5 h => ?_)
  exact r_vret hV rfl dX3_startFirst_14 rfl (ret_m h)
def f_X3_startLine (FM : FMem) : Opt :=
  bindm (fset FM 98 3 (0 : Int32)) fun M1 =>
  bnd (f_X3_reigning M1) fun r2 M3 =>
  if r2 = (M3 21 1) then (
    bindm (fset M3 98 4 (M3 21 2)) fun M7 =>
    some (0, M7)
  ) else (
    bindm (fset M3 98 4 (0 : Int32)) fun M6 =>
    some (0, M6)
  )
set_option maxHeartbeats 4000000 in
set_option maxRecDepth 100000 in
theorem m_X3_startLine (l : Launch) (D : va_G) (cI cM : ClassId) (b : Nat) (FM : FMem) (r0 : Int32) (FR : FMem) (h : f_X3_startLine FM = some (r0, FR)) : Mt l (wdC D cI cM b) yX3_startLine cX3_startLine 2 none 1 20 [.ref (b + 98), .ref (b + 21)] FM none FR := by
  refine Mt.of (by decide) (cat_cons rfl (cat_cons rfl cat_nil)) [some (.ref (b + 98)), some (.ref (b + 21))] rfl (Nat.le_of_ble_eq_true rfl) (fun V hV => ?_)
  unfold f_X3_startLine at h
  refine r_aload_n hV dX3_startLine_0 rfl ?_
  refine r_iconst (v := (0 : Int32)) hV dX3_startLine_1 rfl ?_
  refine r_puti hV fl_X3_32 ob_98 (fun _ _ => rfl) (Nat.le_of_ble_eq_true rfl) dX3_startLine_2 ?_
  refine r_bm h (fun M1 h => ?_)
  refine r_aload_n hV dX3_startLine_5 rfl ?_
  refine r_aload_n hV dX3_startLine_6 rfl ?_
  obtain ⟨r2, M3, q4, h⟩ := bnd_some h
  refine r_cVi hV (m_X3_reigning l D cI cM b M1 _ _ q4) ml_X3_39 ob_98 rfl rfl (by decide) (Nat.le_of_ble_eq_true rfl) rfl dX3_startLine_7 ?_
  refine r_aload_n hV dX3_startLine_10 rfl ?_
  refine r_geto hV fl_X3_26 ob_21 rfl dX3_startLine_11 ?_
  refine r_icmpne hV 24 dX3_startLine_14 rfl (fun c5 => ?_) (fun c5 => ?_)
  · have h := (if_neg c5).symm.trans h
    refine r_iconst (v := (0 : Int32)) hV dX3_startLine_24 rfl ?_
    refine r_puti hV fl_X3_38 ob_98 (fun _ _ => rfl) (Nat.le_of_ble_eq_true rfl) dX3_startLine_25 ?_
    refine r_bm h (fun M6 h => ?_)
    exact r_vret hV rfl dX3_startLine_28 rfl (ret_m h)
  · have h := (if_pos c5).symm.trans h
    refine r_aload_n hV dX3_startLine_17 rfl ?_
    refine r_geto hV fl_X3_35 ob_21 rfl dX3_startLine_18 ?_
    refine r_goto hV 25 dX3_startLine_21 rfl ?_
    refine r_puti hV fl_X3_38 ob_98 (fun _ _ => rfl) (Nat.le_of_ble_eq_true rfl) dX3_startLine_25 ?_
    refine r_bm h (fun M7 h => ?_)
    exact r_vret hV rfl dX3_startLine_28 rfl (ret_m h)
def f_X3_ringsOn (a1 : Int32) (FM : FMem) : Opt :=
  bnd (f_X3_reigning FM) fun r1 M2 =>
  bnd (f_X0_faded 12 (M2 98 4) M2) fun r4 M5 =>
  bnd (f_X2_gainOf a1 r1 M5) fun r7 M8 =>
  bindm (fset M8 98 4 (r4 + r7)) fun M10 =>
  bnd (f_X0_standsOf 12 r1 M10) fun r11 M12 =>
  if (M10 98 4) < r11 then (
    some ((0 : Int32), M12)
  ) else (
    some ((1 : Int32), M12)
  )
set_option maxHeartbeats 4000000 in
set_option maxRecDepth 100000 in
theorem m_X3_ringsOn (l : Launch) (D : va_G) (cI cM : ClassId) (b : Nat) (a1 : Int32) (FM : FMem) (r0 : Int32) (FR : FMem) (h : f_X3_ringsOn a1 FM = some (r0, FR)) : Mt l (wdC D cI cM b) yX3_ringsOn cX3_ringsOn 3 (some .boolean) 2 43 [.ref (b + 98), .int a1] FM (some (.int r0)) FR := by
  refine Mt.of (by decide) (cat_cons rfl (cat_cons rfl cat_nil)) [some (.ref (b + 98)), some (.int a1), none] rfl (Nat.le_of_ble_eq_true rfl) (fun V hV => ?_)
  unfold f_X3_ringsOn at h
  refine r_aload_n hV dX3_ringsOn_0 rfl ?_
  obtain ⟨r1, M2, q3, h⟩ := bnd_some h
  refine r_cVi hV (m_X3_reigning l D cI cM b FM _ _ q3) ml_X3_39 ob_98 rfl rfl (by decide) (Nat.le_of_ble_eq_true rfl) rfl dX3_ringsOn_1 ?_
  refine r_istore_n hV dX3_ringsOn_4 (Nat.le_of_ble_eq_true rfl) rfl ?_
  refine r_aload_n hV dX3_ringsOn_5 rfl ?_
  refine r_aload_n hV dX3_ringsOn_6 rfl ?_
  refine r_geto hV fl_X3_15 ob_98 rfl dX3_ringsOn_7 ?_
  refine r_aload_n hV dX3_ringsOn_10 rfl ?_
  refine r_geto hV fl_X3_38 ob_98 rfl dX3_ringsOn_11 ?_
  obtain ⟨r4, M5, q6, h⟩ := bnd_some h
  refine r_cVi hV (m_X0_faded l D cI cM b 12 isCo_12 (M2 98 4) M2 _ _ q6) ml_X3_43 ob_12 rfl rfl (by decide) (Nat.le_of_ble_eq_true rfl) rfl dX3_ringsOn_14 ?_
  refine r_aload_n hV dX3_ringsOn_17 rfl ?_
  refine r_geto hV fl_X3_19 ob_98 rfl dX3_ringsOn_18 ?_
  refine r_iload_n hV dX3_ringsOn_21 rfl ?_
  refine r_iload_n hV dX3_ringsOn_22 rfl ?_
  obtain ⟨r7, M8, q9, h⟩ := bnd_some h
  refine r_cVi hV (m_X2_gainOf l D cI cM b a1 r1 M5 _ _ q9) ml_X3_49 ob_94 rfl rfl (by decide) (Nat.le_of_ble_eq_true rfl) rfl dX3_ringsOn_23 ?_
  refine r_iadd hV dX3_ringsOn_26 ?_
  refine r_puti hV fl_X3_38 ob_98 (fun _ _ => rfl) (Nat.le_of_ble_eq_true rfl) dX3_ringsOn_27 ?_
  refine r_bm h (fun M10 h => ?_)
  refine r_aload_n hV dX3_ringsOn_30 rfl ?_
  refine r_geto hV fl_X3_38 ob_98 rfl dX3_ringsOn_31 ?_
  refine r_aload_n hV dX3_ringsOn_34 rfl ?_
  refine r_geto hV fl_X3_15 ob_98 rfl dX3_ringsOn_35 ?_
  refine r_iload_n hV dX3_ringsOn_38 rfl ?_
  obtain ⟨r11, M12, q13, h⟩ := bnd_some h
  refine r_cVi hV (m_X0_standsOf l D cI cM b 12 isCo_12 r1 M10 _ _ q13) ml_X3_55 ob_12 rfl rfl (by decide) (Nat.le_of_ble_eq_true rfl) rfl dX3_ringsOn_39 ?_
  refine r_icmplt hV 49 dX3_ringsOn_42 rfl (fun c14 => ?_) (fun c14 => ?_)
  · have h := (if_pos c14).symm.trans h
    refine r_iconst (v := (0 : Int32)) hV dX3_ringsOn_49 rfl ?_
    exact r_zret hV rfl (Or.inl rfl) dX3_ringsOn_50 (ret_r h) (ret_m h)
  · have h := (if_neg c14).symm.trans h
    refine r_iconst (v := (1 : Int32)) hV dX3_ringsOn_45 rfl ?_
    refine r_goto hV 50 dX3_ringsOn_46 rfl ?_
    exact r_zret hV rfl (Or.inr rfl) dX3_ringsOn_50 (ret_r h) (ret_m h)
def f_X3_change (FM : FMem) : Opt :=
  if (FM 12 3) ≤ ((FM 98 3) + (1 : Int32)) then (
    bindm (fset FM 98 3 (0 : Int32)) fun M2 =>
    bindm (fset M2 98 4 (0 : Int32)) fun M3 =>
    some (0, M3)
  ) else (
    bindm (fset FM 98 3 ((FM 98 3) + (1 : Int32))) fun M4 =>
    bindm (fset M4 98 4 (0 : Int32)) fun M5 =>
    some (0, M5)
  )
set_option maxHeartbeats 4000000 in
set_option maxRecDepth 100000 in
theorem m_X3_change (l : Launch) (D : va_G) (cI cM : ClassId) (b : Nat) (FM : FMem) (r0 : Int32) (FR : FMem) (h : f_X3_change FM = some (r0, FR)) : Mt l (wdC D cI cM b) yX3_change cX3_change 1 none 0 0 [.ref (b + 98)] FM none FR := by
  refine Mt.of (by decide) (cat_cons rfl cat_nil) [some (.ref (b + 98))] rfl (Nat.le_of_ble_eq_true rfl) (fun V hV => ?_)
  unfold f_X3_change at h
  refine r_aload_n hV dX3_change_0 rfl ?_
  refine r_aload_n hV dX3_change_1 rfl ?_
  refine r_geto hV fl_X3_32 ob_98 rfl dX3_change_2 ?_
  refine r_iconst (v := (1 : Int32)) hV dX3_change_5 rfl ?_
  refine r_iadd hV dX3_change_6 ?_
  refine r_aload_n hV dX3_change_7 rfl ?_
  refine r_geto hV fl_X3_15 ob_98 rfl dX3_change_8 ?_
  refine r_geto hV fl_X3_58 ob_12 rfl dX3_change_11 ?_
  refine r_icmpge hV 26 dX3_change_14 rfl (fun c1 => ?_) (fun c1 => ?_)
  · have h := (if_pos c1).symm.trans h
    refine r_iconst (v := (0 : Int32)) hV dX3_change_26 rfl ?_
    refine r_puti hV fl_X3_32 ob_98 (fun _ _ => rfl) (Nat.le_of_ble_eq_true rfl) dX3_change_27 ?_
    refine r_bm h (fun M2 h => ?_)
    refine r_aload_n hV dX3_change_30 rfl ?_
    refine r_iconst (v := (0 : Int32)) hV dX3_change_31 rfl ?_
    refine r_puti hV fl_X3_38 ob_98 (fun _ _ => rfl) (Nat.le_of_ble_eq_true rfl) dX3_change_32 ?_
    refine r_bm h (fun M3 h => ?_)
    exact r_vret hV rfl dX3_change_35 rfl (ret_m h)
  · have h := (if_neg c1).symm.trans h
    refine r_aload_n hV dX3_change_17 rfl ?_
    refine r_geto hV fl_X3_32 ob_98 rfl dX3_change_18 ?_
    refine r_iconst (v := (1 : Int32)) hV dX3_change_21 rfl ?_
    refine r_iadd hV dX3_change_22 ?_
    refine r_goto hV 27 dX3_change_23 rfl ?_
    refine r_puti hV fl_X3_32 ob_98 (fun _ _ => rfl) (Nat.le_of_ble_eq_true rfl) dX3_change_27 ?_
    refine r_bm h (fun M4 h => ?_)
    refine r_aload_n hV dX3_change_30 rfl ?_
    refine r_iconst (v := (0 : Int32)) hV dX3_change_31 rfl ?_
    refine r_puti hV fl_X3_38 ob_98 (fun _ _ => rfl) (Nat.le_of_ble_eq_true rfl) dX3_change_32 ?_
    refine r_bm h (fun M5 h => ?_)
    exact r_vret hV rfl dX3_change_35 rfl (ret_m h)
def f_X3_live (a1 : Int32) (FM : FMem) : Opt :=
  bnd (f_X3_ringsOn a1 FM) fun r1 M2 =>
  if r1 = 0 then (
    grd (isB r1) <|
    some (r1, M2)
  ) else (
    bnd (f_X3_change M2) fun r6 M7 =>
    grd (isB r1) <|
    some (r1, M7)
  )
set_option maxHeartbeats 4000000 in
set_option maxRecDepth 100000 in
theorem m_X3_live (l : Launch) (D : va_G) (cI cM : ClassId) (b : Nat) (a1 : Int32) (FM : FMem) (r0 : Int32) (FR : FMem) (h : f_X3_live a1 FM = some (r0, FR)) : Mt l (wdC D cI cM b) yX3_live cX3_live 3 (some .boolean) 3 65 [.ref (b + 98), .int a1] FM (some (.int r0)) FR := by
  refine Mt.of (by decide) (cat_cons rfl (cat_cons rfl cat_nil)) [some (.ref (b + 98)), some (.int a1), none] rfl (Nat.le_of_ble_eq_true rfl) (fun V hV => ?_)
  unfold f_X3_live at h
  refine r_aload_n hV dX3_live_0 rfl ?_
  refine r_iload_n hV dX3_live_1 rfl ?_
  obtain ⟨r1, M2, q3, h⟩ := bnd_some h
  refine r_cVi hV (m_X3_ringsOn l D cI cM b a1 FM _ _ q3) ml_X3_61 ob_98 rfl rfl (by decide) (Nat.le_of_ble_eq_true rfl) rfl dX3_live_2 ?_
  refine r_istore_n hV dX3_live_5 (Nat.le_of_ble_eq_true rfl) rfl ?_
  refine r_iload_n hV dX3_live_6 rfl ?_
  refine r_ifeq hV 14 dX3_live_7 rfl (fun c4 => ?_) (fun c4 => ?_)
  · have h := (if_pos c4).symm.trans h
    refine r_iload_n hV dX3_live_14 rfl ?_
    obtain ⟨g5, h⟩ := grd_some h
    exact r_zret hV rfl (isB_or g5) dX3_live_15 (ret_r h) (ret_m h)
  · have h := (if_neg c4).symm.trans h
    refine r_aload_n hV dX3_live_10 rfl ?_
    obtain ⟨r6, M7, q8, h⟩ := bnd_some h
    refine r_cVv hV (m_X3_change l D cI cM b M2 _ _ q8) ml_X3_65 ob_98 rfl rfl (by decide) (Nat.le_of_ble_eq_true rfl) rfl dX3_live_11 ?_
    refine r_iload_n hV dX3_live_14 rfl ?_
    obtain ⟨g9, h⟩ := grd_some h
    exact r_zret hV rfl (isB_or g9) dX3_live_15 (ret_r h) (ret_m h)
def X3_copyLine_b2s (k2 : Int32 → FMem → Opt) (x2 : Int32) (FM : FMem) : Opt :=
  if (6 : Int32) ≤ x2 then (
    some (0, FM)
  ) else (
    if (6 : Int32) ≤ x2 then (
      some (0, FM)
    ) else (
      grd (inb x2 6) <|
      grd (inb x2 6) <|
      bindm (fset FM 100 ((x2).toNatClampNeg) (FM 99 ((x2).toNatClampNeg))) fun M5 =>
      k2 (x2 + (1 : Int32)) M5
    )
  )
def X3_copyLine_b2 : Nat → Int32 → FMem → Opt
  | 0, _, _ => none
  | nf + 1, x2, FM => X3_copyLine_b2s (X3_copyLine_b2 nf) x2 FM
def f_X3_copyLine (FM : FMem) : Opt :=
  X3_copyLine_b2 FU (0 : Int32) FM
set_option maxHeartbeats 4000000 in
set_option maxRecDepth 100000 in
theorem m_X3_copyLine (l : Launch) (D : va_G) (cI cM : ClassId) (b : Nat) (FM : FMem) (r0 : Int32) (FR : FMem) (h : f_X3_copyLine FM = some (r0, FR)) : Mt l (wdC D cI cM b) yX3_copyLine cX3_copyLine 3 none 0 0 [.ref (b + 98), .ref (b + 100)] FM none FR := by
  refine Mt.of (by decide) (cat_cons rfl (cat_cons rfl cat_nil)) [some (.ref (b + 98)), some (.ref (b + 100)), none] rfl (Nat.le_of_ble_eq_true rfl) (fun V hV => ?_)
  have B2 : ∀ (k2 : Int32 → FMem → Opt) (hk2 : ∀ (x2 : Int32) (FM : FMem), k2 x2 FM = some (r0, FR) → V FM 2 [some (.ref (b + 98)), some (.ref (b + 100)), some (.int x2)] []) (x2 : Int32) (FM : FMem), X3_copyLine_b2s k2 x2 FM = some (r0, FR) → V FM 2 [some (.ref (b + 98)), some (.ref (b + 100)), some (.int x2)] [] := by
    intro k2 hk2 x2 FM h
    unfold X3_copyLine_b2s at h
    refine r_iload_n hV dX3_copyLine_2 rfl ?_
    refine r_bipush (v := (6 : Int32)) hV dX3_copyLine_3 rfl ?_
    refine r_icmpge hV 29 dX3_copyLine_5 rfl (fun c1 => ?_) (fun c1 => ?_)
    · have h := (if_pos c1).symm.trans h
      exact r_vret hV rfl dX3_copyLine_29 rfl (ret_m h)
    · have h := (if_neg c1).symm.trans h
      refine r_iload_n hV dX3_copyLine_8 rfl ?_
      refine r_aload_n hV dX3_copyLine_9 rfl ?_
      refine r_len hV ar_100 (v := (6 : Int32)) rfl dX3_copyLine_10 ?_
      refine r_icmpge hV 29 dX3_copyLine_11 rfl (fun c2 => ?_) (fun c2 => ?_)
      · have h := (if_pos c2).symm.trans h
        exact r_vret hV rfl dX3_copyLine_29 rfl (ret_m h)
      · have h := (if_neg c2).symm.trans h
        refine r_aload_n hV dX3_copyLine_14 rfl ?_
        refine r_iload_n hV dX3_copyLine_15 rfl ?_
        refine r_aload_n hV dX3_copyLine_16 rfl ?_
        refine r_geto hV fl_X3_9 ob_98 rfl dX3_copyLine_17 ?_
        refine r_iload_n hV dX3_copyLine_20 rfl ?_
        obtain ⟨g3, h⟩ := grd_some h
        refine r_ald hV ar_99 (inb_in g3) ((x2).toNatClampNeg) rfl dX3_copyLine_21 ?_
        obtain ⟨g4, h⟩ := grd_some h
        refine r_ast hV ar_100 (inb_in g4) ((x2).toNatClampNeg) rfl dX3_copyLine_22 ?_
        refine r_bm h (fun M5 h => ?_)
        refine r_iinc (v := (1 : Int32)) hV dX3_copyLine_23 rfl rfl rfl ?_
        refine r_goto hV 2 dX3_copyLine_26 rfl ?_
        exact hk2 (x2 + (1 : Int32)) M5 h
  have L2 : ∀ (nf : Nat) (x2 : Int32) (FM : FMem), X3_copyLine_b2 nf x2 FM = some (r0, FR) → V FM 2 [some (.ref (b + 98)), some (.ref (b + 100)), some (.int x2)] [] := by
    intro  nf
    induction nf with
    | zero => intro x2 FM h; exact absurd (show (none : Opt) = some (r0, FR) from h) (fun h9 => by cases h9)
    | succ nf ih => intro x2 FM h; exact B2 (X3_copyLine_b2 nf) ih x2 FM h
  unfold f_X3_copyLine at h
  refine r_iconst (v := (0 : Int32)) hV dX3_copyLine_0 rfl ?_
  refine r_istore_n hV dX3_copyLine_1 (Nat.le_of_ble_eq_true rfl) rfl ?_
  exact L2 FU (0 : Int32) FM h
def f_X3_swap (a1 a2 : Int32) (FM : FMem) : Opt :=
  grd (inb a1 6) <|
  bindv (FM 99 ((a1).toNatClampNeg)) fun v2 =>
  grd (inb a2 6) <|
  grd (inb a1 6) <|
  bindm (fset FM 99 ((a1).toNatClampNeg) (FM 99 ((a2).toNatClampNeg))) fun M5 =>
  grd (inb a2 6) <|
  bindm (fset M5 99 ((a2).toNatClampNeg) v2) fun M7 =>
  some (0, M7)
set_option maxHeartbeats 4000000 in
set_option maxRecDepth 100000 in
theorem m_X3_swap (l : Launch) (D : va_G) (cI cM : ClassId) (b : Nat) (a1 a2 : Int32) (FM : FMem) (r0 : Int32) (FR : FMem) (h : f_X3_swap a1 a2 FM = some (r0, FR)) : Mt l (wdC D cI cM b) yX3_swap cX3_swap 4 none 0 0 [.ref (b + 98), .int a1, .int a2] FM none FR := by
  refine Mt.of (by decide) (cat_cons rfl (cat_cons rfl (cat_cons rfl cat_nil))) [some (.ref (b + 98)), some (.int a1), some (.int a2), none] rfl (Nat.le_of_ble_eq_true rfl) (fun V hV => ?_)
  unfold f_X3_swap at h
  refine r_aload_n hV dX3_swap_0 rfl ?_
  refine r_geto hV fl_X3_9 ob_98 rfl dX3_swap_1 ?_
  refine r_iload_n hV dX3_swap_4 rfl ?_
  obtain ⟨g1, h⟩ := grd_some h
  refine r_ald hV ar_99 (inb_in g1) ((a1).toNatClampNeg) rfl dX3_swap_5 ?_
  refine r_bv h (fun v2 h => ?_)
  refine r_istore_n hV dX3_swap_6 (Nat.le_of_ble_eq_true rfl) rfl ?_
  refine r_aload_n hV dX3_swap_7 rfl ?_
  refine r_geto hV fl_X3_9 ob_98 rfl dX3_swap_8 ?_
  refine r_iload_n hV dX3_swap_11 rfl ?_
  refine r_aload_n hV dX3_swap_12 rfl ?_
  refine r_geto hV fl_X3_9 ob_98 rfl dX3_swap_13 ?_
  refine r_iload_n hV dX3_swap_16 rfl ?_
  obtain ⟨g3, h⟩ := grd_some h
  refine r_ald hV ar_99 (inb_in g3) ((a2).toNatClampNeg) rfl dX3_swap_17 ?_
  obtain ⟨g4, h⟩ := grd_some h
  refine r_ast hV ar_99 (inb_in g4) ((a1).toNatClampNeg) rfl dX3_swap_18 ?_
  refine r_bm h (fun M5 h => ?_)
  refine r_aload_n hV dX3_swap_19 rfl ?_
  refine r_geto hV fl_X3_9 ob_98 rfl dX3_swap_20 ?_
  refine r_iload_n hV dX3_swap_23 rfl ?_
  refine r_iload_n hV dX3_swap_24 rfl ?_
  obtain ⟨g6, h⟩ := grd_some h
  refine r_ast hV ar_99 (inb_in g6) ((a2).toNatClampNeg) rfl dX3_swap_25 ?_
  refine r_bm h (fun M7 h => ?_)
  exact r_vret hV rfl dX3_swap_26 rfl (ret_m h)
def X3_sortDown_b45 (k6 : Int32 → Int32 → FMem → Opt) (k16 : Int32 → Int32 → Int32 → FMem → Opt) (x2 : Int32) (x3 : Int32) (x4 : Int32) (FM : FMem) : Opt :=
  k16 x2 x3 (x4 + (1 : Int32)) FM
def X3_sortDown_b16s (k6 : Int32 → Int32 → FMem → Opt) (k16 : Int32 → Int32 → Int32 → FMem → Opt) (x2 : Int32) (x3 : Int32) (x4 : Int32) (FM : FMem) : Opt :=
  if x2 < x4 then (
    k6 x2 (x3 + (1 : Int32)) FM
  ) else (
    grd (inb x4 6) <|
    grd (inb x3 6) <|
    if (FM 99 ((x4).toNatClampNeg)) ≤ (FM 99 ((x3).toNatClampNeg)) then (
      X3_sortDown_b45 k6 k16 x2 x3 x4 FM
    ) else (
      bnd (f_X3_swap x3 x4 FM) fun r8 M9 =>
      X3_sortDown_b45 k6 k16 x2 x3 x4 M9
    )
  )
def X3_sortDown_b16 (k6 : Int32 → Int32 → FMem → Opt) : Nat → Int32 → Int32 → Int32 → FMem → Opt
  | 0, _, _, _, _ => none
  | nf + 1, x2, x3, x4, FM => X3_sortDown_b16s k6 (X3_sortDown_b16 k6 nf) x2 x3 x4 FM
def X3_sortDown_b6s (k6 : Int32 → Int32 → FMem → Opt) (x2 : Int32) (x3 : Int32) (FM : FMem) : Opt :=
  if x2 ≤ x3 then (
    some (0, FM)
  ) else (
    bindv (x3 + (1 : Int32)) fun v3 =>
    X3_sortDown_b16 k6 FU x2 x3 v3 FM
  )
def X3_sortDown_b6 : Nat → Int32 → Int32 → FMem → Opt
  | 0, _, _, _ => none
  | nf + 1, x2, x3, FM => X3_sortDown_b6s (X3_sortDown_b6 nf) x2 x3 FM
def f_X3_sortDown (a1 a2 : Int32) (FM : FMem) : Opt :=
  bindv (jmax a1 (0 : Int32)) fun v1 =>
  X3_sortDown_b6 FU a2 v1 FM
set_option maxHeartbeats 4000000 in
set_option maxRecDepth 100000 in
theorem m_X3_sortDown (l : Launch) (D : va_G) (cI cM : ClassId) (b : Nat) (a1 a2 : Int32) (FM : FMem) (r0 : Int32) (FR : FMem) (h : f_X3_sortDown a1 a2 FM = some (r0, FR)) : Mt l (wdC D cI cM b) yX3_sortDown cX3_sortDown 5 none 1 23 [.ref (b + 98), .int a1, .int a2] FM none FR := by
  refine Mt.of (by decide) (cat_cons rfl (cat_cons rfl (cat_cons rfl cat_nil))) [some (.ref (b + 98)), some (.int a1), some (.int a2), none, none] rfl (Nat.le_of_ble_eq_true rfl) (fun V hV => ?_)
  have B45 : ∀ (k6 : Int32 → Int32 → FMem → Opt) (hk6 : ∀ (x2 : Int32) (x3 : Int32) (FM : FMem), k6 x2 x3 FM = some (r0, FR) → V FM 6 [some (.ref (b + 98)), none, some (.int x2), some (.int x3), none] []) (k16 : Int32 → Int32 → Int32 → FMem → Opt) (hk16 : ∀ (x2 : Int32) (x3 : Int32) (x4 : Int32) (FM : FMem), k16 x2 x3 x4 FM = some (r0, FR) → V FM 16 [some (.ref (b + 98)), none, some (.int x2), some (.int x3), some (.int x4)] []) (x2 : Int32) (x3 : Int32) (x4 : Int32) (FM : FMem), X3_sortDown_b45 k6 k16 x2 x3 x4 FM = some (r0, FR) → V FM 45 [some (.ref (b + 98)), none, some (.int x2), some (.int x3), some (.int x4)] [] := by
    intro k6 hk6 k16 hk16 x2 x3 x4 FM h
    unfold X3_sortDown_b45 at h
    refine r_iinc (v := (1 : Int32)) hV dX3_sortDown_45 rfl rfl rfl ?_
    refine r_goto hV 16 dX3_sortDown_48 rfl ?_
    exact hk16 x2 x3 (x4 + (1 : Int32)) FM h
  have B16 : ∀ (k6 : Int32 → Int32 → FMem → Opt) (hk6 : ∀ (x2 : Int32) (x3 : Int32) (FM : FMem), k6 x2 x3 FM = some (r0, FR) → V FM 6 [some (.ref (b + 98)), none, some (.int x2), some (.int x3), none] []) (k16 : Int32 → Int32 → Int32 → FMem → Opt) (hk16 : ∀ (x2 : Int32) (x3 : Int32) (x4 : Int32) (FM : FMem), k16 x2 x3 x4 FM = some (r0, FR) → V FM 16 [some (.ref (b + 98)), none, some (.int x2), some (.int x3), some (.int x4)] []) (x2 : Int32) (x3 : Int32) (x4 : Int32) (FM : FMem), X3_sortDown_b16s k6 k16 x2 x3 x4 FM = some (r0, FR) → V FM 16 [some (.ref (b + 98)), none, some (.int x2), some (.int x3), some (.int x4)] [] := by
    intro k6 hk6 k16 hk16 x2 x3 x4 FM h
    unfold X3_sortDown_b16s at h
    refine r_iload hV dX3_sortDown_16 rfl ?_
    refine r_iload_n hV dX3_sortDown_18 rfl ?_
    refine r_icmpgt hV 51 dX3_sortDown_19 rfl (fun c4 => ?_) (fun c4 => ?_)
    · have h := (if_pos c4).symm.trans h
      refine r_iinc (v := (1 : Int32)) hV dX3_sortDown_51 rfl rfl rfl ?_
      refine r_goto hV 6 dX3_sortDown_54 rfl ?_
      refine r_mask hV [true, false, true, true, false] ?_
      exact hk6 x2 (x3 + (1 : Int32)) FM h
    · have h := (if_neg c4).symm.trans h
      refine r_aload_n hV dX3_sortDown_22 rfl ?_
      refine r_geto hV fl_X3_9 ob_98 rfl dX3_sortDown_23 ?_
      refine r_iload hV dX3_sortDown_26 rfl ?_
      obtain ⟨g5, h⟩ := grd_some h
      refine r_ald hV ar_99 (inb_in g5) ((x4).toNatClampNeg) rfl dX3_sortDown_28 ?_
      refine r_aload_n hV dX3_sortDown_29 rfl ?_
      refine r_geto hV fl_X3_9 ob_98 rfl dX3_sortDown_30 ?_
      refine r_iload_n hV dX3_sortDown_33 rfl ?_
      obtain ⟨g6, h⟩ := grd_some h
      refine r_ald hV ar_99 (inb_in g6) ((x3).toNatClampNeg) rfl dX3_sortDown_34 ?_
      refine r_icmple hV 45 dX3_sortDown_35 rfl (fun c7 => ?_) (fun c7 => ?_)
      · have h := (if_pos c7).symm.trans h
        exact B45 k6 hk6 k16 hk16 x2 x3 x4 FM h
      · have h := (if_neg c7).symm.trans h
        refine r_aload_n hV dX3_sortDown_38 rfl ?_
        refine r_iload_n hV dX3_sortDown_39 rfl ?_
        refine r_iload hV dX3_sortDown_40 rfl ?_
        obtain ⟨r8, M9, q10, h⟩ := bnd_some h
        refine r_cVv hV (m_X3_swap l D cI cM b x3 x4 FM _ _ q10) ml_X3_77 ob_98 rfl rfl (by decide) (Nat.le_of_ble_eq_true rfl) rfl dX3_sortDown_42 ?_
        exact B45 k6 hk6 k16 hk16 x2 x3 x4 M9 h
  have L16 : ∀ (k6 : Int32 → Int32 → FMem → Opt) (hk6 : ∀ (x2 : Int32) (x3 : Int32) (FM : FMem), k6 x2 x3 FM = some (r0, FR) → V FM 6 [some (.ref (b + 98)), none, some (.int x2), some (.int x3), none] []) (nf : Nat) (x2 : Int32) (x3 : Int32) (x4 : Int32) (FM : FMem), X3_sortDown_b16 k6 nf x2 x3 x4 FM = some (r0, FR) → V FM 16 [some (.ref (b + 98)), none, some (.int x2), some (.int x3), some (.int x4)] [] := by
    intro k6 hk6 nf
    induction nf with
    | zero => intro x2 x3 x4 FM h; exact absurd (show (none : Opt) = some (r0, FR) from h) (fun h9 => by cases h9)
    | succ nf ih => intro x2 x3 x4 FM h; exact B16 k6 hk6 (X3_sortDown_b16 k6 nf) ih x2 x3 x4 FM h
  have B6 : ∀ (k6 : Int32 → Int32 → FMem → Opt) (hk6 : ∀ (x2 : Int32) (x3 : Int32) (FM : FMem), k6 x2 x3 FM = some (r0, FR) → V FM 6 [some (.ref (b + 98)), none, some (.int x2), some (.int x3), none] []) (x2 : Int32) (x3 : Int32) (FM : FMem), X3_sortDown_b6s k6 x2 x3 FM = some (r0, FR) → V FM 6 [some (.ref (b + 98)), none, some (.int x2), some (.int x3), none] [] := by
    intro k6 hk6 x2 x3 FM h
    unfold X3_sortDown_b6s at h
    refine r_iload_n hV dX3_sortDown_6 rfl ?_
    refine r_iload_n hV dX3_sortDown_7 rfl ?_
    refine r_icmpge hV 57 dX3_sortDown_8 rfl (fun c2 => ?_) (fun c2 => ?_)
    · have h := (if_pos c2).symm.trans h
      exact r_vret hV rfl dX3_sortDown_57 rfl (ret_m h)
    · have h := (if_neg c2).symm.trans h
      refine r_iload_n hV dX3_sortDown_11 rfl ?_
      refine r_iconst (v := (1 : Int32)) hV dX3_sortDown_12 rfl ?_
      refine r_iadd hV dX3_sortDown_13 ?_
      refine r_bv h (fun v3 h => ?_)
      refine r_istore hV dX3_sortDown_14 (Nat.le_of_ble_eq_true rfl) rfl ?_
      exact L16 k6 hk6 FU x2 x3 v3 FM h
  have L6 : ∀ (nf : Nat) (x2 : Int32) (x3 : Int32) (FM : FMem), X3_sortDown_b6 nf x2 x3 FM = some (r0, FR) → V FM 6 [some (.ref (b + 98)), none, some (.int x2), some (.int x3), none] [] := by
    intro  nf
    induction nf with
    | zero => intro x2 x3 FM h; exact absurd (show (none : Opt) = some (r0, FR) from h) (fun h9 => by cases h9)
    | succ nf ih => intro x2 x3 FM h; exact B6 (X3_sortDown_b6 nf) ih x2 x3 FM h
  unfold f_X3_sortDown at h
  refine r_iload_n hV dX3_sortDown_0 rfl ?_
  refine r_iconst (v := (0 : Int32)) hV dX3_sortDown_1 rfl ?_
  refine r_mmax hV (inT_of 689 (by decide +kernel) (by decide +kernel)) (inT_of 195 (by decide +kernel) (by decide +kernel)) (inT_of 51 (by decide +kernel) (by decide +kernel)) (inT_of 196 (by decide +kernel) (by decide +kernel)) ⟨Nat.le_of_ble_eq_true rfl, Nat.le_of_ble_eq_true rfl⟩ dX3_sortDown_2 ?_
  refine r_bv h (fun v1 h => ?_)
  refine r_istore_n hV dX3_sortDown_5 (Nat.le_of_ble_eq_true rfl) rfl ?_
  refine r_mask hV [true, false, true, true, false] ?_
  exact L6 FU a2 v1 FM h
def X3_lineUpNext_b104s (k104 : Int32 → Int32 → FMem → Opt) (x5 : Int32) (x6 : Int32) (FM : FMem) : Opt :=
  if x6 ≤ x5 then (
    some ((1 : Int32), FM)
  ) else (
    bnd (f_X3_swap x5 x6 FM) fun r14 M15 =>
    k104 (x5 + (1 : Int32)) (x6 + (-1 : Int32)) M15
  )
def X3_lineUpNext_b104 : Nat → Int32 → Int32 → FMem → Opt
  | 0, _, _, _ => none
  | nf + 1, x5, x6, FM => X3_lineUpNext_b104s (X3_lineUpNext_b104 nf) x5 x6 FM
def X3_lineUpNext_b89 (x2 : Int32) (x3 : Int32) (x4 : Int32) (FM : FMem) : Opt :=
  bnd (f_X3_swap x3 x4 FM) fun r9 M10 =>
  bindv (x3 + (1 : Int32)) fun v12 =>
  X3_lineUpNext_b104 FU v12 x2 M10
def X3_lineUpNext_b61s (k61 : Int32 → Int32 → Int32 → FMem → Opt) (x2 : Int32) (x3 : Int32) (x4 : Int32) (FM : FMem) : Opt :=
  if x4 ≤ x3 then (
    X3_lineUpNext_b89 x2 x3 x4 FM
  ) else (
    grd (inb x4 6) <|
    grd (inb x3 6) <|
    if (FM 99 ((x3).toNatClampNeg)) ≤ (FM 99 ((x4).toNatClampNeg)) then (
      X3_lineUpNext_b89 x2 x3 x4 FM
    ) else (
      k61 x2 x3 (x4 + (-1 : Int32)) FM
    )
  )
def X3_lineUpNext_b61 : Nat → Int32 → Int32 → Int32 → FMem → Opt
  | 0, _, _, _, _ => none
  | nf + 1, x2, x3, x4, FM => X3_lineUpNext_b61s (X3_lineUpNext_b61 nf) x2 x3 x4 FM
def X3_lineUpNext_b52 (x2 : Int32) (x3 : Int32) (FM : FMem) : Opt :=
  if 0 ≤ x3 then (
    X3_lineUpNext_b61 FU x2 x3 x2 FM
  ) else (
    some ((0 : Int32), FM)
  )
def X3_lineUpNext_b25s (k25 : Int32 → Int32 → FMem → Opt) (x2 : Int32) (x3 : Int32) (FM : FMem) : Opt :=
  if x3 < 0 then (
    X3_lineUpNext_b52 x2 x3 FM
  ) else (
    grd (inb x3 6) <|
    grd (inb (x3 + (1 : Int32)) 6) <|
    if (FM 99 ((x3).toNatClampNeg)) ≤ (FM 99 (((x3 + (1 : Int32))).toNatClampNeg)) then (
      X3_lineUpNext_b52 x2 x3 FM
    ) else (
      k25 x2 (x3 + (-1 : Int32)) FM
    )
  )
def X3_lineUpNext_b25 : Nat → Int32 → Int32 → FMem → Opt
  | 0, _, _, _ => none
  | nf + 1, x2, x3, FM => X3_lineUpNext_b25s (X3_lineUpNext_b25 nf) x2 x3 FM
def f_X3_lineUpNext (a1 : Int32) (FM : FMem) : Opt :=
  bindv ((jmin (FM 12 3) (6 : Int32)) - (1 : Int32)) fun v1 =>
  bnd (f_X3_sortDown a1 v1 FM) fun r2 M3 =>
  bindv (v1 - (1 : Int32)) fun v5 =>
  X3_lineUpNext_b25 FU v1 v5 M3
set_option maxHeartbeats 4000000 in
set_option maxRecDepth 100000 in
theorem m_X3_lineUpNext (l : Launch) (D : va_G) (cI cM : ClassId) (b : Nat) (a1 : Int32) (FM : FMem) (r0 : Int32) (FR : FMem) (h : f_X3_lineUpNext a1 FM = some (r0, FR)) : Mt l (wdC D cI cM b) yX3_lineUpNext cX3_lineUpNext 7 (some .boolean) 2 47 [.ref (b + 98), .int a1] FM (some (.int r0)) FR := by
  refine Mt.of (by decide) (cat_cons rfl (cat_cons rfl cat_nil)) [some (.ref (b + 98)), some (.int a1), none, none, none, none, none] rfl (Nat.le_of_ble_eq_true rfl) (fun V hV => ?_)
  have B104 : ∀ (k104 : Int32 → Int32 → FMem → Opt) (hk104 : ∀ (x5 : Int32) (x6 : Int32) (FM : FMem), k104 x5 x6 FM = some (r0, FR) → V FM 104 [some (.ref (b + 98)), none, none, none, none, some (.int x5), some (.int x6)] []) (x5 : Int32) (x6 : Int32) (FM : FMem), X3_lineUpNext_b104s k104 x5 x6 FM = some (r0, FR) → V FM 104 [some (.ref (b + 98)), none, none, none, none, some (.int x5), some (.int x6)] [] := by
    intro k104 hk104 x5 x6 FM h
    unfold X3_lineUpNext_b104s at h
    refine r_iload hV dX3_lineUpNext_104 rfl ?_
    refine r_iload hV dX3_lineUpNext_106 rfl ?_
    refine r_icmpge hV 128 dX3_lineUpNext_108 rfl (fun c13 => ?_) (fun c13 => ?_)
    · have h := (if_pos c13).symm.trans h
      refine r_iconst (v := (1 : Int32)) hV dX3_lineUpNext_128 rfl ?_
      exact r_zret hV rfl (Or.inr rfl) dX3_lineUpNext_129 (ret_r h) (ret_m h)
    · have h := (if_neg c13).symm.trans h
      refine r_aload_n hV dX3_lineUpNext_111 rfl ?_
      refine r_iload hV dX3_lineUpNext_112 rfl ?_
      refine r_iload hV dX3_lineUpNext_114 rfl ?_
      obtain ⟨r14, M15, q16, h⟩ := bnd_some h
      refine r_cVv hV (m_X3_swap l D cI cM b x5 x6 FM _ _ q16) ml_X3_77 ob_98 rfl rfl (by decide) (Nat.le_of_ble_eq_true rfl) rfl dX3_lineUpNext_116 ?_
      refine r_iinc (v := (1 : Int32)) hV dX3_lineUpNext_119 rfl rfl rfl ?_
      refine r_iinc (v := (-1 : Int32)) hV dX3_lineUpNext_122 rfl rfl rfl ?_
      refine r_goto hV 104 dX3_lineUpNext_125 rfl ?_
      exact hk104 (x5 + (1 : Int32)) (x6 + (-1 : Int32)) M15 h
  have L104 : ∀ (nf : Nat) (x5 : Int32) (x6 : Int32) (FM : FMem), X3_lineUpNext_b104 nf x5 x6 FM = some (r0, FR) → V FM 104 [some (.ref (b + 98)), none, none, none, none, some (.int x5), some (.int x6)] [] := by
    intro  nf
    induction nf with
    | zero => intro x5 x6 FM h; exact absurd (show (none : Opt) = some (r0, FR) from h) (fun h9 => by cases h9)
    | succ nf ih => intro x5 x6 FM h; exact B104 (X3_lineUpNext_b104 nf) ih x5 x6 FM h
  have B89 : ∀ (x2 : Int32) (x3 : Int32) (x4 : Int32) (FM : FMem), X3_lineUpNext_b89 x2 x3 x4 FM = some (r0, FR) → V FM 89 [some (.ref (b + 98)), none, some (.int x2), some (.int x3), some (.int x4), none, none] [] := by
    intro  x2 x3 x4 FM h
    unfold X3_lineUpNext_b89 at h
    refine r_aload_n hV dX3_lineUpNext_89 rfl ?_
    refine r_iload_n hV dX3_lineUpNext_90 rfl ?_
    refine r_iload hV dX3_lineUpNext_91 rfl ?_
    obtain ⟨r9, M10, q11, h⟩ := bnd_some h
    refine r_cVv hV (m_X3_swap l D cI cM b x3 x4 FM _ _ q11) ml_X3_77 ob_98 rfl rfl (by decide) (Nat.le_of_ble_eq_true rfl) rfl dX3_lineUpNext_93 ?_
    refine r_iload_n hV dX3_lineUpNext_96 rfl ?_
    refine r_iconst (v := (1 : Int32)) hV dX3_lineUpNext_97 rfl ?_
    refine r_iadd hV dX3_lineUpNext_98 ?_
    refine r_bv h (fun v12 h => ?_)
    refine r_istore hV dX3_lineUpNext_99 (Nat.le_of_ble_eq_true rfl) rfl ?_
    refine r_iload_n hV dX3_lineUpNext_101 rfl ?_
    refine r_istore hV dX3_lineUpNext_102 (Nat.le_of_ble_eq_true rfl) rfl ?_
    refine r_mask hV [true, false, false, false, false, true, true] ?_
    exact L104 FU v12 x2 M10 h
  have B61 : ∀ (k61 : Int32 → Int32 → Int32 → FMem → Opt) (hk61 : ∀ (x2 : Int32) (x3 : Int32) (x4 : Int32) (FM : FMem), k61 x2 x3 x4 FM = some (r0, FR) → V FM 61 [some (.ref (b + 98)), none, some (.int x2), some (.int x3), some (.int x4), none, none] []) (x2 : Int32) (x3 : Int32) (x4 : Int32) (FM : FMem), X3_lineUpNext_b61s k61 x2 x3 x4 FM = some (r0, FR) → V FM 61 [some (.ref (b + 98)), none, some (.int x2), some (.int x3), some (.int x4), none, none] [] := by
    intro k61 hk61 x2 x3 x4 FM h
    unfold X3_lineUpNext_b61s at h
    refine r_iload hV dX3_lineUpNext_61 rfl ?_
    refine r_iload_n hV dX3_lineUpNext_63 rfl ?_
    refine r_icmple hV 89 dX3_lineUpNext_64 rfl (fun c8 => ?_) (fun c8 => ?_)
    · have h := (if_pos c8).symm.trans h
      exact B89 x2 x3 x4 FM h
    · have h := (if_neg c8).symm.trans h
      refine r_aload_n hV dX3_lineUpNext_67 rfl ?_
      refine r_geto hV fl_X3_9 ob_98 rfl dX3_lineUpNext_68 ?_
      refine r_iload hV dX3_lineUpNext_71 rfl ?_
      obtain ⟨g17, h⟩ := grd_some h
      refine r_ald hV ar_99 (inb_in g17) ((x4).toNatClampNeg) rfl dX3_lineUpNext_73 ?_
      refine r_aload_n hV dX3_lineUpNext_74 rfl ?_
      refine r_geto hV fl_X3_9 ob_98 rfl dX3_lineUpNext_75 ?_
      refine r_iload_n hV dX3_lineUpNext_78 rfl ?_
      obtain ⟨g18, h⟩ := grd_some h
      refine r_ald hV ar_99 (inb_in g18) ((x3).toNatClampNeg) rfl dX3_lineUpNext_79 ?_
      refine r_icmpge hV 89 dX3_lineUpNext_80 rfl (fun c19 => ?_) (fun c19 => ?_)
      · have h := (if_pos c19).symm.trans h
        exact B89 x2 x3 x4 FM h
      · have h := (if_neg c19).symm.trans h
        refine r_iinc (v := (-1 : Int32)) hV dX3_lineUpNext_83 rfl rfl rfl ?_
        refine r_goto hV 61 dX3_lineUpNext_86 rfl ?_
        exact hk61 x2 x3 (x4 + (-1 : Int32)) FM h
  have L61 : ∀ (nf : Nat) (x2 : Int32) (x3 : Int32) (x4 : Int32) (FM : FMem), X3_lineUpNext_b61 nf x2 x3 x4 FM = some (r0, FR) → V FM 61 [some (.ref (b + 98)), none, some (.int x2), some (.int x3), some (.int x4), none, none] [] := by
    intro  nf
    induction nf with
    | zero => intro x2 x3 x4 FM h; exact absurd (show (none : Opt) = some (r0, FR) from h) (fun h9 => by cases h9)
    | succ nf ih => intro x2 x3 x4 FM h; exact B61 (X3_lineUpNext_b61 nf) ih x2 x3 x4 FM h
  have B52 : ∀ (x2 : Int32) (x3 : Int32) (FM : FMem), X3_lineUpNext_b52 x2 x3 FM = some (r0, FR) → V FM 52 [some (.ref (b + 98)), none, some (.int x2), some (.int x3), none, none, none] [] := by
    intro  x2 x3 FM h
    unfold X3_lineUpNext_b52 at h
    refine r_iload_n hV dX3_lineUpNext_52 rfl ?_
    refine r_ifge hV 58 dX3_lineUpNext_53 rfl (fun c7 => ?_) (fun c7 => ?_)
    · have h := (if_pos c7).symm.trans h
      refine r_iload_n hV dX3_lineUpNext_58 rfl ?_
      refine r_istore hV dX3_lineUpNext_59 (Nat.le_of_ble_eq_true rfl) rfl ?_
      exact L61 FU x2 x3 x2 FM h
    · have h := (if_neg c7).symm.trans h
      refine r_iconst (v := (0 : Int32)) hV dX3_lineUpNext_56 rfl ?_
      exact r_zret hV rfl (Or.inl rfl) dX3_lineUpNext_57 (ret_r h) (ret_m h)
  have B25 : ∀ (k25 : Int32 → Int32 → FMem → Opt) (hk25 : ∀ (x2 : Int32) (x3 : Int32) (FM : FMem), k25 x2 x3 FM = some (r0, FR) → V FM 25 [some (.ref (b + 98)), none, some (.int x2), some (.int x3), none, none, none] []) (x2 : Int32) (x3 : Int32) (FM : FMem), X3_lineUpNext_b25s k25 x2 x3 FM = some (r0, FR) → V FM 25 [some (.ref (b + 98)), none, some (.int x2), some (.int x3), none, none, none] [] := by
    intro k25 hk25 x2 x3 FM h
    unfold X3_lineUpNext_b25s at h
    refine r_iload_n hV dX3_lineUpNext_25 rfl ?_
    refine r_iflt hV 52 dX3_lineUpNext_26 rfl (fun c6 => ?_) (fun c6 => ?_)
    · have h := (if_pos c6).symm.trans h
      exact B52 x2 x3 FM h
    · have h := (if_neg c6).symm.trans h
      refine r_aload_n hV dX3_lineUpNext_29 rfl ?_
      refine r_geto hV fl_X3_9 ob_98 rfl dX3_lineUpNext_30 ?_
      refine r_iload_n hV dX3_lineUpNext_33 rfl ?_
      obtain ⟨g20, h⟩ := grd_some h
      refine r_ald hV ar_99 (inb_in g20) ((x3).toNatClampNeg) rfl dX3_lineUpNext_34 ?_
      refine r_aload_n hV dX3_lineUpNext_35 rfl ?_
      refine r_geto hV fl_X3_9 ob_98 rfl dX3_lineUpNext_36 ?_
      refine r_iload_n hV dX3_lineUpNext_39 rfl ?_
      refine r_iconst (v := (1 : Int32)) hV dX3_lineUpNext_40 rfl ?_
      refine r_iadd hV dX3_lineUpNext_41 ?_
      obtain ⟨g21, h⟩ := grd_some h
      refine r_ald hV ar_99 (inb_in g21) (((x3 + (1 : Int32))).toNatClampNeg) rfl dX3_lineUpNext_42 ?_
      refine r_icmple hV 52 dX3_lineUpNext_43 rfl (fun c22 => ?_) (fun c22 => ?_)
      · have h := (if_pos c22).symm.trans h
        exact B52 x2 x3 FM h
      · have h := (if_neg c22).symm.trans h
        refine r_iinc (v := (-1 : Int32)) hV dX3_lineUpNext_46 rfl rfl rfl ?_
        refine r_goto hV 25 dX3_lineUpNext_49 rfl ?_
        exact hk25 x2 (x3 + (-1 : Int32)) FM h
  have L25 : ∀ (nf : Nat) (x2 : Int32) (x3 : Int32) (FM : FMem), X3_lineUpNext_b25 nf x2 x3 FM = some (r0, FR) → V FM 25 [some (.ref (b + 98)), none, some (.int x2), some (.int x3), none, none, none] [] := by
    intro  nf
    induction nf with
    | zero => intro x2 x3 FM h; exact absurd (show (none : Opt) = some (r0, FR) from h) (fun h9 => by cases h9)
    | succ nf ih => intro x2 x3 FM h; exact B25 (X3_lineUpNext_b25 nf) ih x2 x3 FM h
  unfold f_X3_lineUpNext at h
  refine r_aload_n hV dX3_lineUpNext_0 rfl ?_
  refine r_geto hV fl_X3_15 ob_98 rfl dX3_lineUpNext_1 ?_
  refine r_geto hV fl_X3_58 ob_12 rfl dX3_lineUpNext_4 ?_
  refine r_bipush (v := (6 : Int32)) hV dX3_lineUpNext_7 rfl ?_
  refine r_mmin hV (inT_of 684 (by decide +kernel) (by decide +kernel)) (inT_of 515 (by decide +kernel) (by decide +kernel)) (inT_of 51 (by decide +kernel) (by decide +kernel)) (inT_of 516 (by decide +kernel) (by decide +kernel)) ⟨Nat.le_of_ble_eq_true rfl, Nat.le_of_ble_eq_true rfl⟩ dX3_lineUpNext_9 ?_
  refine r_iconst (v := (1 : Int32)) hV dX3_lineUpNext_12 rfl ?_
  refine r_isub hV dX3_lineUpNext_13 ?_
  refine r_bv h (fun v1 h => ?_)
  refine r_istore_n hV dX3_lineUpNext_14 (Nat.le_of_ble_eq_true rfl) rfl ?_
  refine r_aload_n hV dX3_lineUpNext_15 rfl ?_
  refine r_iload_n hV dX3_lineUpNext_16 rfl ?_
  refine r_iload_n hV dX3_lineUpNext_17 rfl ?_
  obtain ⟨r2, M3, q4, h⟩ := bnd_some h
  refine r_cVv hV (m_X3_sortDown l D cI cM b a1 v1 FM _ _ q4) ml_X3_73 ob_98 rfl rfl (by decide) (Nat.le_of_ble_eq_true rfl) rfl dX3_lineUpNext_18 ?_
  refine r_iload_n hV dX3_lineUpNext_21 rfl ?_
  refine r_iconst (v := (1 : Int32)) hV dX3_lineUpNext_22 rfl ?_
  refine r_isub hV dX3_lineUpNext_23 ?_
  refine r_bv h (fun v5 h => ?_)
  refine r_istore_n hV dX3_lineUpNext_24 (Nat.le_of_ble_eq_true rfl) rfl ?_
  refine r_mask hV [true, false, true, true, false, false, false] ?_
  exact L25 FU v1 v5 M3 h
