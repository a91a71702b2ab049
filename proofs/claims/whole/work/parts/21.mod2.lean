def f_X9_from (u : Nat) (FM : FMem) : Opt :=
  bnd (f_X9_put 11 46 u 46 (0 : Int32) (46 : Int32) FM) fun r1 M2 =>
  bindm (fset M2 0 21 (0 : Int32)) fun M4 =>
  some (0, M4)
set_option maxHeartbeats 4000000 in
set_option maxRecDepth 100000 in
theorem m_X9_from (l : Launch) (D : va_G) (cI : ClassId) (b : Nat) (u : Nat) (hU : isAr (wdM D cI b) cI u 46) (FM : FMem) (r0 : Int32) (FR : FMem) (h : f_X9_from u FM = some (r0, FR)) : Mt l (wdM D cI b) yX9_from cX9_from 2 none 1 24 [.ref (b + 0), .ref (b + u)] FM none FR := by
  refine Mt.of (by decide) (cat_cons rfl (cat_cons rfl cat_nil)) [some (.ref (b + 0)), some (.ref (b + u))] rfl (Nat.le_of_ble_eq_true rfl) (fun V hV => ?_)
  unfold f_X9_from at h
  refine r_aload_n hV dX9_from_0 rfl ?_
  refine r_geto hV fl_X9_40 obM_0 rfl dX9_from_1 ?_
  refine r_iconst (v := (0 : Int32)) hV dX9_from_4 rfl ?_
  refine r_aload_n hV dX9_from_5 rfl ?_
  refine r_bipush (v := (46 : Int32)) hV dX9_from_6 rfl ?_
  obtain ⟨r1, M2, q3, h⟩ := bnd_some h
  refine r_cSv hV (m_X9_put l D cI b 11 46 u 46 arM_11 hU (0 : Int32) (46 : Int32) FM _ _ q3) ml_X9_117 rfl (by decide) (Nat.le_of_ble_eq_true rfl) rfl dX9_from_8 ?_
  refine r_aload_n hV dX9_from_11 rfl ?_
  refine r_iconst (v := (0 : Int32)) hV dX9_from_12 rfl ?_
  refine r_puti hV fl_X9_130 obM_0 (fun _ _ => rfl) (Nat.le_of_ble_eq_true rfl) dX9_from_13 ?_
  refine r_bm h (fun M4 h => ?_)
  exact r_vret hV rfl dX9_from_16 rfl (ret_m h)
def f_X9_comesBy (a1 a2 a3 a4 : Int32) (FM : FMem) : Opt :=
  grd (inb (((3 : Int32) * a1) + (1 : Int32)) 18) <|
  bnd (f_X9_bits (a2 &&& (FM 1 (((((3 : Int32) * a1) + (1 : Int32))).toNatClampNeg))) FM) fun r2 M3 =>
  bindv (a3 * r2) fun v5 =>
  grd (inb ((3 : Int32) * a1) 18) <|
  bindv (M3 1 ((((3 : Int32) * a1)).toNatClampNeg)) fun v7 =>
  if v7 = (1 : Int32) then (
    some ((v5 / (2 : Int32)), M3)
  ) else
  if v7 = (2 : Int32) then (
    if (a2 &&& (a4 ^^^ (-1 : Int32))) = 0 then (
      some ((v5 + (0 : Int32)), M3)
    ) else (
      some ((v5 + (2 : Int32)), M3)
    )
  ) else
  if v7 = (3 : Int32) then (
    if ((M3 11 0) - (M3 11 0) / (3 : Int32) * (3 : Int32)) = (2 : Int32) then (
      some ((0 : Int32), M3)
    ) else (
      some (v5, M3)
    )
  ) else
  some (v5, M3)
set_option maxHeartbeats 4000000 in
set_option maxRecDepth 100000 in
theorem m_X9_comesBy (l : Launch) (D : va_G) (cI : ClassId) (b : Nat) (a1 a2 a3 a4 : Int32) (FM : FMem) (r0 : Int32) (FR : FMem) (h : f_X9_comesBy a1 a2 a3 a4 FM = some (r0, FR)) : Mt l (wdM D cI b) yX9_comesBy cX9_comesBy 6 (some .int) 1 22 [.ref (b + 0), .int a1, .int a2, .int a3, .int a4] FM (some (.int r0)) FR := by
  refine Mt.of (by decide) (cat_cons rfl (cat_cons rfl (cat_cons rfl (cat_cons rfl (cat_cons rfl cat_nil))))) [some (.ref (b + 0)), some (.int a1), some (.int a2), some (.int a3), some (.int a4), none] rfl (Nat.le_of_ble_eq_true rfl) (fun V hV => ?_)
  unfold f_X9_comesBy at h
  refine r_iload_n hV dX9_comesBy_0 rfl ?_
  refine r_iload_n hV dX9_comesBy_1 rfl ?_
  refine r_aload_n hV dX9_comesBy_2 rfl ?_
  refine r_geto hV fl_X9_7 obM_0 rfl dX9_comesBy_3 ?_
  refine r_iconst (v := (3 : Int32)) hV dX9_comesBy_6 rfl ?_
  refine r_iload_n hV dX9_comesBy_7 rfl ?_
  refine r_imul hV dX9_comesBy_8 ?_
  refine r_iconst (v := (1 : Int32)) hV dX9_comesBy_9 rfl ?_
  refine r_iadd hV dX9_comesBy_10 ?_
  obtain ⟨g1, h⟩ := grd_some h
  refine r_ald hV arM_1 (inb_in g1) (((((3 : Int32) * a1) + (1 : Int32))).toNatClampNeg) rfl dX9_comesBy_11 ?_
  refine r_iand hV dX9_comesBy_12 ?_
  obtain ⟨r2, M3, q4, h⟩ := bnd_some h
  refine r_cSi hV (m_X9_bits l D cI b (a2 &&& (FM 1 (((((3 : Int32) * a1) + (1 : Int32))).toNatClampNeg))) FM _ _ q4) ml_X9_133 rfl (by decide) (Nat.le_of_ble_eq_true rfl) rfl dX9_comesBy_13 ?_
  refine r_imul hV dX9_comesBy_16 ?_
  refine r_bv h (fun v5 h => ?_)
  refine r_istore hV dX9_comesBy_17 (Nat.le_of_ble_eq_true rfl) rfl ?_
  refine r_aload_n hV dX9_comesBy_19 rfl ?_
  refine r_geto hV fl_X9_7 obM_0 rfl dX9_comesBy_20 ?_
  refine r_iconst (v := (3 : Int32)) hV dX9_comesBy_23 rfl ?_
  refine r_iload_n hV dX9_comesBy_24 rfl ?_
  refine r_imul hV dX9_comesBy_25 ?_
  obtain ⟨g6, h⟩ := grd_some h
  refine r_ald hV arM_1 (inb_in g6) ((((3 : Int32) * a1)).toNatClampNeg) rfl dX9_comesBy_26 ?_
  refine r_bv h (fun v7 h => ?_)
  by_cases e8 : v7 = (1 : Int32)
  · have h := (if_pos e8).symm.trans h
    refine r_tabIn hV 52 dX9_comesBy_27 (by rw [e8]; decide) (by rw [e8]; decide) (by first | (rw [e8]; done) | (rw [e8]; rfl)) rfl ?_
    refine r_iload hV dX9_comesBy_52 rfl ?_
    refine r_iconst (v := (2 : Int32)) hV dX9_comesBy_54 rfl ?_
    refine r_idiv hV dX9_comesBy_55 (by decide) ?_
    exact r_iret hV rfl dX9_comesBy_56 (ret_r h) (ret_m h)
  have h := (if_neg e8).symm.trans h
  by_cases e9 : v7 = (2 : Int32)
  · have h := (if_pos e9).symm.trans h
    refine r_tabIn hV 57 dX9_comesBy_27 (by rw [e9]; decide) (by rw [e9]; decide) (by first | (rw [e9]; done) | (rw [e9]; rfl)) rfl ?_
    refine r_iload hV dX9_comesBy_57 rfl ?_
    refine r_iload_n hV dX9_comesBy_59 rfl ?_
    refine r_iload hV dX9_comesBy_60 rfl ?_
    refine r_iconst (v := (-1 : Int32)) hV dX9_comesBy_62 rfl ?_
    refine r_ixor hV dX9_comesBy_63 ?_
    refine r_iand hV dX9_comesBy_64 ?_
    refine r_ifeq hV 72 dX9_comesBy_65 rfl (fun c10 => ?_) (fun c10 => ?_)
    · have h := (if_pos c10).symm.trans h
      refine r_iconst (v := (0 : Int32)) hV dX9_comesBy_72 rfl ?_
      refine r_iadd hV dX9_comesBy_73 ?_
      exact r_iret hV rfl dX9_comesBy_74 (ret_r h) (ret_m h)
    · have h := (if_neg c10).symm.trans h
      refine r_iconst (v := (2 : Int32)) hV dX9_comesBy_68 rfl ?_
      refine r_goto hV 73 dX9_comesBy_69 rfl ?_
      refine r_iadd hV dX9_comesBy_73 ?_
      exact r_iret hV rfl dX9_comesBy_74 (ret_r h) (ret_m h)
  have h := (if_neg e9).symm.trans h
  by_cases e11 : v7 = (3 : Int32)
  · have h := (if_pos e11).symm.trans h
    refine r_tabIn hV 75 dX9_comesBy_27 (by rw [e11]; decide) (by rw [e11]; decide) (by first | (rw [e11]; done) | (rw [e11]; rfl)) rfl ?_
    refine r_aload_n hV dX9_comesBy_75 rfl ?_
    refine r_geto hV fl_X9_40 obM_0 rfl dX9_comesBy_76 ?_
    refine r_iconst (v := (0 : Int32)) hV dX9_comesBy_79 rfl ?_
    refine r_ald hV arM_11 (inb_in rfl) (0) rfl dX9_comesBy_80 ?_
    refine r_iconst (v := (3 : Int32)) hV dX9_comesBy_81 rfl ?_
    refine r_irem hV dX9_comesBy_82 (by decide) ?_
    refine r_iconst (v := (2 : Int32)) hV dX9_comesBy_83 rfl ?_
    refine r_icmpne hV 91 dX9_comesBy_84 rfl (fun c12 => ?_) (fun c12 => ?_)
    · have h := (if_neg c12).symm.trans h
      refine r_iload hV dX9_comesBy_91 rfl ?_
      exact r_iret hV rfl dX9_comesBy_93 (ret_r h) (ret_m h)
    · have h := (if_pos c12).symm.trans h
      refine r_iconst (v := (0 : Int32)) hV dX9_comesBy_87 rfl ?_
      refine r_goto hV 93 dX9_comesBy_88 rfl ?_
      exact r_iret hV rfl dX9_comesBy_93 (ret_r h) (ret_m h)
  have h := (if_neg e11).symm.trans h
  have e8t := lv_neT (a := 1) e8 rfl
  have e9t := lv_neT (a := 2) e9 rfl
  have e11t := lv_neT (a := 3) e11 rfl
  refine r_tabOut hV 94 dX9_comesBy_27 (by omega) rfl ?_
  refine r_iload hV dX9_comesBy_94 rfl ?_
  exact r_iret hV rfl dX9_comesBy_96 (ret_r h) (ret_m h)
def X9_comes_b105 (k13 : Int32 → Int32 → Int32 → Int32 → FMem → Opt) (x1 : Int32) (x3 : Int32) (x4 : Int32) (x5 : Int32) (FM : FMem) : Opt :=
  k13 x1 x3 x4 (x5 + (1 : Int32)) FM
def X9_comes_b13s (k13 : Int32 → Int32 → Int32 → Int32 → FMem → Opt) (x1 : Int32) (x3 : Int32) (x4 : Int32) (x5 : Int32) (FM : FMem) : Opt :=
  if (FM 11 2) ≤ x5 then (
    if (FM 0 21) ≤ 0 then (
      some (x3, FM)
    ) else (
      bnd (f_X9_comesBy x1 (FM 0 20) (FM 0 21) x4 FM) fun r5 M6 =>
      some ((x3 + r5), M6)
    )
  ) else (
    bindv ((16 : Int32) + ((3 : Int32) * x5)) fun v8 =>
    grd (inb v8 46) <|
    if (FM 11 ((v8).toNatClampNeg)) = (FM 11 0) then (
      bnd (f_X9_has (FM 11 3) x5 FM) fun r11 M12 =>
      if r11 = 0 then (
        grd (inb (v8 + (1 : Int32)) 46) <|
        grd (inb (v8 + (2 : Int32)) 46) <|
        bnd (f_X9_comesBy x1 (M12 11 (((v8 + (1 : Int32))).toNatClampNeg)) (M12 11 (((v8 + (2 : Int32))).toNatClampNeg)) x4 M12) fun r17 M18 =>
        bindv (x3 + r17) fun v20 =>
        grd (inb (v8 + (1 : Int32)) 46) <|
        bindv (x4 ||| (M18 11 (((v8 + (1 : Int32))).toNatClampNeg))) fun v22 =>
        X9_comes_b105 k13 x1 v20 v22 x5 M18
      ) else (
        X9_comes_b105 k13 x1 x3 x4 x5 M12
      )
    ) else (
      X9_comes_b105 k13 x1 x3 x4 x5 FM
    )
  )
def X9_comes_b13 : Nat → Int32 → Int32 → Int32 → Int32 → FMem → Opt
  | 0, _, _, _, _, _ => none
  | nf + 1, x1, x3, x4, x5, FM => X9_comes_b13s (X9_comes_b13 nf) x1 x3 x4 x5 FM
def f_X9_comes (a1 a2 : Int32) (FM : FMem) : Opt :=
  grd (nz (FM 0 2)) <|
  bindv (a2 / (FM 0 2)) fun v2 =>
  X9_comes_b13 FU a1 v2 (0 : Int32) (0 : Int32) FM
set_option maxHeartbeats 4000000 in
set_option maxRecDepth 100000 in
theorem m_X9_comes (l : Launch) (D : va_G) (cI : ClassId) (b : Nat) (a1 a2 : Int32) (FM : FMem) (r0 : Int32) (FR : FMem) (h : f_X9_comes a1 a2 FM = some (r0, FR)) : Mt l (wdM D cI b) yX9_comes cX9_comes 7 (some .int) 2 47 [.ref (b + 0), .int a1, .int a2] FM (some (.int r0)) FR := by
  refine Mt.of (by decide) (cat_cons rfl (cat_cons rfl (cat_cons rfl cat_nil))) [some (.ref (b + 0)), some (.int a1), some (.int a2), none, none, none, none] rfl (Nat.le_of_ble_eq_true rfl) (fun V hV => ?_)
  have B105 : ∀ (k13 : Int32 → Int32 → Int32 → Int32 → FMem → Opt) (hk13 : ∀ (x1 : Int32) (x3 : Int32) (x4 : Int32) (x5 : Int32) (FM : FMem), k13 x1 x3 x4 x5 FM = some (r0, FR) → V FM 13 [some (.ref (b + 0)), some (.int x1), none, some (.int x3), some (.int x4), some (.int x5), none] []) (x1 : Int32) (x3 : Int32) (x4 : Int32) (x5 : Int32) (FM : FMem), X9_comes_b105 k13 x1 x3 x4 x5 FM = some (r0, FR) → V FM 105 [some (.ref (b + 0)), some (.int x1), none, some (.int x3), some (.int x4), some (.int x5), none] [] := by
    intro k13 hk13 x1 x3 x4 x5 FM h
    unfold X9_comes_b105 at h
    refine r_iinc (v := (1 : Int32)) hV dX9_comes_105 rfl rfl rfl ?_
    refine r_goto hV 13 dX9_comes_108 rfl ?_
    exact hk13 x1 x3 x4 (x5 + (1 : Int32)) FM h
  have B13 : ∀ (k13 : Int32 → Int32 → Int32 → Int32 → FMem → Opt) (hk13 : ∀ (x1 : Int32) (x3 : Int32) (x4 : Int32) (x5 : Int32) (FM : FMem), k13 x1 x3 x4 x5 FM = some (r0, FR) → V FM 13 [some (.ref (b + 0)), some (.int x1), none, some (.int x3), some (.int x4), some (.int x5), none] []) (x1 : Int32) (x3 : Int32) (x4 : Int32) (x5 : Int32) (FM : FMem), X9_comes_b13s k13 x1 x3 x4 x5 FM = some (r0, FR) → V FM 13 [some (.ref (b + 0)), some (.int x1), none, some (.int x3), some (.int x4), some (.int x5), none] [] := by
    intro k13 hk13 x1 x3 x4 x5 FM h
    unfold X9_comes_b13s at h
    refine r_iload hV dX9_comes_13 rfl ?_
    refine r_aload_n hV dX9_comes_15 rfl ?_
    refine r_geto hV fl_X9_40 obM_0 rfl dX9_comes_16 ?_
    refine r_iconst (v := (2 : Int32)) hV dX9_comes_19 rfl ?_
    refine r_ald hV arM_11 (inb_in rfl) (2) rfl dX9_comes_20 ?_
    refine r_icmpge hV 111 dX9_comes_21 rfl (fun c3 => ?_) (fun c3 => ?_)
    · have h := (if_pos c3).symm.trans h
      refine r_aload_n hV dX9_comes_111 rfl ?_
      refine r_geto hV fl_X9_130 obM_0 rfl dX9_comes_112 ?_
      refine r_ifle hV 138 dX9_comes_115 rfl (fun c4 => ?_) (fun c4 => ?_)
      · have h := (if_pos c4).symm.trans h
        refine r_iload_n hV dX9_comes_138 rfl ?_
        exact r_iret hV rfl dX9_comes_139 (ret_r h) (ret_m h)
      · have h := (if_neg c4).symm.trans h
        refine r_iload_n hV dX9_comes_118 rfl ?_
        refine r_aload_n hV dX9_comes_119 rfl ?_
        refine r_iload_n hV dX9_comes_120 rfl ?_
        refine r_aload_n hV dX9_comes_121 rfl ?_
        refine r_geto hV fl_X9_144 obM_0 rfl dX9_comes_122 ?_
        refine r_aload_n hV dX9_comes_125 rfl ?_
        refine r_geto hV fl_X9_130 obM_0 rfl dX9_comes_126 ?_
        refine r_iload hV dX9_comes_129 rfl ?_
        obtain ⟨r5, M6, q7, h⟩ := bnd_some h
        refine r_cVi hV (m_X9_comesBy l D cI b x1 (FM 0 20) (FM 0 21) x4 FM _ _ q7) ml_X9_140 obM_0 rfl rfl (by decide) (Nat.le_of_ble_eq_true rfl) rfl dX9_comes_131 ?_
        refine r_iadd hV dX9_comes_134 ?_
        refine r_goto hV 139 dX9_comes_135 rfl ?_
        exact r_iret hV rfl dX9_comes_139 (ret_r h) (ret_m h)
    · have h := (if_neg c3).symm.trans h
      refine r_bipush (v := (16 : Int32)) hV dX9_comes_24 rfl ?_
      refine r_iconst (v := (3 : Int32)) hV dX9_comes_26 rfl ?_
      refine r_iload hV dX9_comes_27 rfl ?_
      refine r_imul hV dX9_comes_29 ?_
      refine r_iadd hV dX9_comes_30 ?_
      refine r_bv h (fun v8 h => ?_)
      refine r_istore hV dX9_comes_31 (Nat.le_of_ble_eq_true rfl) rfl ?_
      refine r_aload_n hV dX9_comes_33 rfl ?_
      refine r_geto hV fl_X9_40 obM_0 rfl dX9_comes_34 ?_
      refine r_iload hV dX9_comes_37 rfl ?_
      obtain ⟨g9, h⟩ := grd_some h
      refine r_ald hV arM_11 (inb_in g9) ((v8).toNatClampNeg) rfl dX9_comes_39 ?_
      refine r_aload_n hV dX9_comes_40 rfl ?_
      refine r_geto hV fl_X9_40 obM_0 rfl dX9_comes_41 ?_
      refine r_iconst (v := (0 : Int32)) hV dX9_comes_44 rfl ?_
      refine r_ald hV arM_11 (inb_in rfl) (0) rfl dX9_comes_45 ?_
      refine r_icmpne hV 105 dX9_comes_46 rfl (fun c10 => ?_) (fun c10 => ?_)
      · have h := (if_neg c10).symm.trans h
        refine r_mask hV [true, true, false, true, true, true, false] ?_
        exact B105 k13 hk13 x1 x3 x4 x5 FM h
      · have h := (if_pos c10).symm.trans h
        refine r_aload_n hV dX9_comes_49 rfl ?_
        refine r_geto hV fl_X9_40 obM_0 rfl dX9_comes_50 ?_
        refine r_iconst (v := (3 : Int32)) hV dX9_comes_53 rfl ?_
        refine r_ald hV arM_11 (inb_in rfl) (3) rfl dX9_comes_54 ?_
        refine r_iload hV dX9_comes_55 rfl ?_
        obtain ⟨r11, M12, q13, h⟩ := bnd_some h
        refine r_cSi hV (m_X9_has l D cI b (FM 11 3) x5 FM _ _ q13) ml_X9_136 rfl (by decide) (Nat.le_of_ble_eq_true rfl) rfl dX9_comes_57 ?_
        refine r_ifne hV 105 dX9_comes_60 rfl (fun c14 => ?_) (fun c14 => ?_)
        · have h := (if_neg c14).symm.trans h
          refine r_mask hV [true, true, false, true, true, true, false] ?_
          exact B105 k13 hk13 x1 x3 x4 x5 M12 h
        · have h := (if_pos c14).symm.trans h
          refine r_iload_n hV dX9_comes_63 rfl ?_
          refine r_aload_n hV dX9_comes_64 rfl ?_
          refine r_iload_n hV dX9_comes_65 rfl ?_
          refine r_aload_n hV dX9_comes_66 rfl ?_
          refine r_geto hV fl_X9_40 obM_0 rfl dX9_comes_67 ?_
          refine r_iload hV dX9_comes_70 rfl ?_
          refine r_iconst (v := (1 : Int32)) hV dX9_comes_72 rfl ?_
          refine r_iadd hV dX9_comes_73 ?_
          obtain ⟨g15, h⟩ := grd_some h
          refine r_ald hV arM_11 (inb_in g15) (((v8 + (1 : Int32))).toNatClampNeg) rfl dX9_comes_74 ?_
          refine r_aload_n hV dX9_comes_75 rfl ?_
          refine r_geto hV fl_X9_40 obM_0 rfl dX9_comes_76 ?_
          refine r_iload hV dX9_comes_79 rfl ?_
          refine r_iconst (v := (2 : Int32)) hV dX9_comes_81 rfl ?_
          refine r_iadd hV dX9_comes_82 ?_
          obtain ⟨g16, h⟩ := grd_some h
          refine r_ald hV arM_11 (inb_in g16) (((v8 + (2 : Int32))).toNatClampNeg) rfl dX9_comes_83 ?_
          refine r_iload hV dX9_comes_84 rfl ?_
          obtain ⟨r17, M18, q19, h⟩ := bnd_some h
          refine r_cVi hV (m_X9_comesBy l D cI b x1 (M12 11 (((v8 + (1 : Int32))).toNatClampNeg)) (M12 11 (((v8 + (2 : Int32))).toNatClampNeg)) x4 M12 _ _ q19) ml_X9_140 obM_0 rfl rfl (by decide) (Nat.le_of_ble_eq_true rfl) rfl dX9_comes_86 ?_
          refine r_iadd hV dX9_comes_89 ?_
          refine r_bv h (fun v20 h => ?_)
          refine r_istore_n hV dX9_comes_90 (Nat.le_of_ble_eq_true rfl) rfl ?_
          refine r_iload hV dX9_comes_91 rfl ?_
          refine r_aload_n hV dX9_comes_93 rfl ?_
          refine r_geto hV fl_X9_40 obM_0 rfl dX9_comes_94 ?_
          refine r_iload hV dX9_comes_97 rfl ?_
          refine r_iconst (v := (1 : Int32)) hV dX9_comes_99 rfl ?_
          refine r_iadd hV dX9_comes_100 ?_
          obtain ⟨g21, h⟩ := grd_some h
          refine r_ald hV arM_11 (inb_in g21) (((v8 + (1 : Int32))).toNatClampNeg) rfl dX9_comes_101 ?_
          refine r_ior hV dX9_comes_102 ?_
          refine r_bv h (fun v22 h => ?_)
          refine r_istore hV dX9_comes_103 (Nat.le_of_ble_eq_true rfl) rfl ?_
          refine r_mask hV [true, true, false, true, true, true, false] ?_
          exact B105 k13 hk13 x1 v20 v22 x5 M18 h
  have L13 : ∀ (nf : Nat) (x1 : Int32) (x3 : Int32) (x4 : Int32) (x5 : Int32) (FM : FMem), X9_comes_b13 nf x1 x3 x4 x5 FM = some (r0, FR) → V FM 13 [some (.ref (b + 0)), some (.int x1), none, some (.int x3), some (.int x4), some (.int x5), none] [] := by
    intro  nf
    induction nf with
    | zero => intro x1 x3 x4 x5 FM h; exact absurd (show (none : Opt) = some (r0, FR) from h) (fun h9 => by cases h9)
    | succ nf ih => intro x1 x3 x4 x5 FM h; exact B13 (X9_comes_b13 nf) ih x1 x3 x4 x5 FM h
  unfold f_X9_comes at h
  refine r_iload_n hV dX9_comes_0 rfl ?_
  refine r_aload_n hV dX9_comes_1 rfl ?_
  refine r_geto hV fl_X9_114 obM_0 rfl dX9_comes_2 ?_
  obtain ⟨g1, h⟩ := grd_some h
  refine r_idiv hV dX9_comes_5 (nz_ne g1) ?_
  refine r_bv h (fun v2 h => ?_)
  refine r_istore_n hV dX9_comes_6 (Nat.le_of_ble_eq_true rfl) rfl ?_
  refine r_iconst (v := (0 : Int32)) hV dX9_comes_7 rfl ?_
  refine r_istore hV dX9_comes_8 (Nat.le_of_ble_eq_true rfl) rfl ?_
  refine r_iconst (v := (0 : Int32)) hV dX9_comes_10 rfl ?_
  refine r_istore hV dX9_comes_11 (Nat.le_of_ble_eq_true rfl) rfl ?_
  refine r_mask hV [true, true, false, true, true, true, false] ?_
  exact L13 FU a1 v2 (0 : Int32) (0 : Int32) FM h
def f_X9_isEnough (a1 a2 : Int32) (FM : FMem) : Opt :=
  grd (inb (((3 : Int32) * a1) + (2 : Int32)) 18) <|
  if a2 < (FM 1 (((((3 : Int32) * a1) + (2 : Int32))).toNatClampNeg)) then (
    some ((0 : Int32), FM)
  ) else (
    some ((1 : Int32), FM)
  )
set_option maxHeartbeats 4000000 in
set_option maxRecDepth 100000 in
theorem m_X9_isEnough (l : Launch) (D : va_G) (cI : ClassId) (b : Nat) (a1 a2 : Int32) (FM : FMem) (r0 : Int32) (FR : FMem) (h : f_X9_isEnough a1 a2 FM = some (r0, FR)) : Mt l (wdM D cI b) yX9_isEnough cX9_isEnough 3 (some .boolean) 0 0 [.ref (b + 0), .int a1, .int a2] FM (some (.int r0)) FR := by
  refine Mt.of (by decide) (cat_cons rfl (cat_cons rfl (cat_cons rfl cat_nil))) [some (.ref (b + 0)), some (.int a1), some (.int a2)] rfl (Nat.le_of_ble_eq_true rfl) (fun V hV => ?_)
  unfold f_X9_isEnough at h
  refine r_iload_n hV dX9_isEnough_0 rfl ?_
  refine r_aload_n hV dX9_isEnough_1 rfl ?_
  refine r_geto hV fl_X9_7 obM_0 rfl dX9_isEnough_2 ?_
  refine r_iconst (v := (3 : Int32)) hV dX9_isEnough_5 rfl ?_
  refine r_iload_n hV dX9_isEnough_6 rfl ?_
  refine r_imul hV dX9_isEnough_7 ?_
  refine r_iconst (v := (2 : Int32)) hV dX9_isEnough_8 rfl ?_
  refine r_iadd hV dX9_isEnough_9 ?_
  obtain ⟨g1, h⟩ := grd_some h
  refine r_ald hV arM_1 (inb_in g1) (((((3 : Int32) * a1) + (2 : Int32))).toNatClampNeg) rfl dX9_isEnough_10 ?_
  refine r_icmplt hV 18 dX9_isEnough_11 rfl (fun c2 => ?_) (fun c2 => ?_)
  · have h := (if_pos c2).symm.trans h
    refine r_iconst (v := (0 : Int32)) hV dX9_isEnough_18 rfl ?_
    exact r_zret hV rfl (Or.inl rfl) dX9_isEnough_19 (ret_r h) (ret_m h)
  · have h := (if_neg c2).symm.trans h
    refine r_iconst (v := (1 : Int32)) hV dX9_isEnough_14 rfl ?_
    refine r_goto hV 19 dX9_isEnough_15 rfl ?_
    exact r_zret hV rfl (Or.inr rfl) dX9_isEnough_19 (ret_r h) (ret_m h)
def X9_goes_b71s (k71 : Int32 → Int32 → Int32 → FMem → Opt) (x1 : Int32) (x3 : Int32) (x4 : Int32) (FM : FMem) : Opt :=
  if (FM 0 0) ≤ x4 then (
    grd (inb (((4 : Int32) + (FM 0 0)) - (1 : Int32)) 46) <|
    bindm (fset FM 11 (((((4 : Int32) + (FM 0 0)) - (1 : Int32))).toNatClampNeg) x1) fun M20 =>
    grd (isB x3) <|
    some (x3, M20)
  ) else (
    grd (inb ((4 : Int32) + x4) 46) <|
    grd (inb (((4 : Int32) + x4) - (1 : Int32)) 46) <|
    bindm (fset FM 11 (((((4 : Int32) + x4) - (1 : Int32))).toNatClampNeg) (FM 11 ((((4 : Int32) + x4)).toNatClampNeg))) fun M24 =>
    k71 x1 x3 (x4 + (1 : Int32)) M24
  )
def X9_goes_b71 : Nat → Int32 → Int32 → Int32 → FMem → Opt
  | 0, _, _, _, _ => none
  | nf + 1, x1, x3, x4, FM => X9_goes_b71s (X9_goes_b71 nf) x1 x3 x4 FM
def X9_goes_b53 (x1 : Int32) (x3 : Int32) (s1 : Int32) (s2 : Int32) (FM : FMem) : Opt :=
  grd (inb s1 46) <|
  bindm (fset FM 11 ((s1).toNatClampNeg) s2) fun M14 =>
  bindm (fset M14 11 (0) ((M14 11 0) + (1 : Int32))) fun M15 =>
  if x3 = 0 then (
    grd (isB x3) <|
    some (x3, M15)
  ) else (
    X9_goes_b71 FU x1 x3 (1 : Int32) M15
  )
def f_X9_goes (FM : FMem) : Opt :=
  bindv (FM 11 4) fun v1 =>
  bnd (f_X9_comes v1 (FM 11 1) FM) fun r2 M3 =>
  bnd (f_X9_isEnough v1 r2 M3) fun r5 M6 =>
  bindv ((10 : Int32) + v1) fun v8 =>
  grd (inb v8 46) <|
  grd (inb v8 46) <|
  bindm (fset M6 11 ((v8).toNatClampNeg) ((M6 11 ((v8).toNatClampNeg)) + (1 : Int32))) fun M11 =>
  if r5 = 0 then (
    X9_goes_b53 v1 r5 (1 : Int32) r2 M11
  ) else (
    X9_goes_b53 v1 r5 (1 : Int32) (0 : Int32) M11
  )
set_option maxHeartbeats 4000000 in
set_option maxRecDepth 100000 in
theorem m_X9_goes (l : Launch) (D : va_G) (cI : ClassId) (b : Nat) (FM : FMem) (r0 : Int32) (FR : FMem) (h : f_X9_goes FM = some (r0, FR)) : Mt l (wdM D cI b) yX9_goes cX9_goes 5 (some .boolean) 3 73 [.ref (b + 0)] FM (some (.int r0)) FR := by
  refine Mt.of (by decide) (cat_cons rfl cat_nil) [some (.ref (b + 0)), none, none, none, none] rfl (Nat.le_of_ble_eq_true rfl) (fun V hV => ?_)
  have B71 : ∀ (k71 : Int32 → Int32 → Int32 → FMem → Opt) (hk71 : ∀ (x1 : Int32) (x3 : Int32) (x4 : Int32) (FM : FMem), k71 x1 x3 x4 FM = some (r0, FR) → V FM 71 [some (.ref (b + 0)), some (.int x1), none, some (.int x3), some (.int x4)] []) (x1 : Int32) (x3 : Int32) (x4 : Int32) (FM : FMem), X9_goes_b71s k71 x1 x3 x4 FM = some (r0, FR) → V FM 71 [some (.ref (b + 0)), some (.int x1), none, some (.int x3), some (.int x4)] [] := by
    intro k71 hk71 x1 x3 x4 FM h
    unfold X9_goes_b71s at h
    refine r_iload hV dX9_goes_71 rfl ?_
    refine r_aload_n hV dX9_goes_73 rfl ?_
    refine r_geto hV fl_X9_67 obM_0 rfl dX9_goes_74 ?_
    refine r_icmpge hV 106 dX9_goes_77 rfl (fun c18 => ?_) (fun c18 => ?_)
    · have h := (if_pos c18).symm.trans h
      refine r_aload_n hV dX9_goes_106 rfl ?_
      refine r_geto hV fl_X9_40 obM_0 rfl dX9_goes_107 ?_
      refine r_iconst (v := (4 : Int32)) hV dX9_goes_110 rfl ?_
      refine r_aload_n hV dX9_goes_111 rfl ?_
      refine r_geto hV fl_X9_67 obM_0 rfl dX9_goes_112 ?_
      refine r_iadd hV dX9_goes_115 ?_
      refine r_iconst (v := (1 : Int32)) hV dX9_goes_116 rfl ?_
      refine r_isub hV dX9_goes_117 ?_
      refine r_iload_n hV dX9_goes_118 rfl ?_
      obtain ⟨g19, h⟩ := grd_some h
      refine r_ast hV arM_11 (inb_in g19) (((((4 : Int32) + (FM 0 0)) - (1 : Int32))).toNatClampNeg) rfl dX9_goes_119 ?_
      refine r_bm h (fun M20 h => ?_)
      refine r_iload_n hV dX9_goes_120 rfl ?_
      obtain ⟨g21, h⟩ := grd_some h
      exact r_zret hV rfl (isB_or g21) dX9_goes_121 (ret_r h) (ret_m h)
    · have h := (if_neg c18).symm.trans h
      refine r_aload_n hV dX9_goes_80 rfl ?_
      refine r_geto hV fl_X9_40 obM_0 rfl dX9_goes_81 ?_
      refine r_iconst (v := (4 : Int32)) hV dX9_goes_84 rfl ?_
      refine r_iload hV dX9_goes_85 rfl ?_
      refine r_iadd hV dX9_goes_87 ?_
      refine r_iconst (v := (1 : Int32)) hV dX9_goes_88 rfl ?_
      refine r_isub hV dX9_goes_89 ?_
      refine r_aload_n hV dX9_goes_90 rfl ?_
      refine r_geto hV fl_X9_40 obM_0 rfl dX9_goes_91 ?_
      refine r_iconst (v := (4 : Int32)) hV dX9_goes_94 rfl ?_
      refine r_iload hV dX9_goes_95 rfl ?_
      refine r_iadd hV dX9_goes_97 ?_
      obtain ⟨g22, h⟩ := grd_some h
      refine r_ald hV arM_11 (inb_in g22) ((((4 : Int32) + x4)).toNatClampNeg) rfl dX9_goes_98 ?_
      obtain ⟨g23, h⟩ := grd_some h
      refine r_ast hV arM_11 (inb_in g23) (((((4 : Int32) + x4) - (1 : Int32))).toNatClampNeg) rfl dX9_goes_99 ?_
      refine r_bm h (fun M24 h => ?_)
      refine r_iinc (v := (1 : Int32)) hV dX9_goes_100 rfl rfl rfl ?_
      refine r_goto hV 71 dX9_goes_103 rfl ?_
      exact hk71 x1 x3 (x4 + (1 : Int32)) M24 h
  have L71 : ∀ (nf : Nat) (x1 : Int32) (x3 : Int32) (x4 : Int32) (FM : FMem), X9_goes_b71 nf x1 x3 x4 FM = some (r0, FR) → V FM 71 [some (.ref (b + 0)), some (.int x1), none, some (.int x3), some (.int x4)] [] := by
    intro  nf
    induction nf with
    | zero => intro x1 x3 x4 FM h; exact absurd (show (none : Opt) = some (r0, FR) from h) (fun h9 => by cases h9)
    | succ nf ih => intro x1 x3 x4 FM h; exact B71 (X9_goes_b71 nf) ih x1 x3 x4 FM h
  have B53 : ∀ (x1 : Int32) (x3 : Int32) (s1 : Int32) (s2 : Int32) (FM : FMem), X9_goes_b53 x1 x3 s1 s2 FM = some (r0, FR) → V FM 53 [some (.ref (b + 0)), some (.int x1), none, some (.int x3), none] [.int s2, .int s1, .ref (b + 11)] := by
    intro  x1 x3 s1 s2 FM h
    unfold X9_goes_b53 at h
    obtain ⟨g13, h⟩ := grd_some h
    refine r_ast hV arM_11 (inb_in g13) ((s1).toNatClampNeg) rfl dX9_goes_53 ?_
    refine r_bm h (fun M14 h => ?_)
    refine r_aload_n hV dX9_goes_54 rfl ?_
    refine r_geto hV fl_X9_40 obM_0 rfl dX9_goes_55 ?_
    refine r_iconst (v := (0 : Int32)) hV dX9_goes_58 rfl ?_
    refine r_dup2 hV dX9_goes_59 rfl rfl ?_
    refine r_ald hV arM_11 (inb_in rfl) (0) rfl dX9_goes_60 ?_
    refine r_iconst (v := (1 : Int32)) hV dX9_goes_61 rfl ?_
    refine r_iadd hV dX9_goes_62 ?_
    refine r_ast hV arM_11 (inb_in rfl) (0) rfl dX9_goes_63 ?_
    refine r_bm h (fun M15 h => ?_)
    refine r_iload_n hV dX9_goes_64 rfl ?_
    refine r_ifeq hV 120 dX9_goes_65 rfl (fun c16 => ?_) (fun c16 => ?_)
    · have h := (if_pos c16).symm.trans h
      refine r_iload_n hV dX9_goes_120 rfl ?_
      obtain ⟨g17, h⟩ := grd_some h
      exact r_zret hV rfl (isB_or g17) dX9_goes_121 (ret_r h) (ret_m h)
    · have h := (if_neg c16).symm.trans h
      refine r_iconst (v := (1 : Int32)) hV dX9_goes_68 rfl ?_
      refine r_istore hV dX9_goes_69 (Nat.le_of_ble_eq_true rfl) rfl ?_
      exact L71 FU x1 x3 (1 : Int32) M15 h
  unfold f_X9_goes at h
  refine r_aload_n hV dX9_goes_0 rfl ?_
  refine r_geto hV fl_X9_40 obM_0 rfl dX9_goes_1 ?_
  refine r_iconst (v := (4 : Int32)) hV dX9_goes_4 rfl ?_
  refine r_ald hV arM_11 (inb_in rfl) (4) rfl dX9_goes_5 ?_
  refine r_bv h (fun v1 h => ?_)
  refine r_istore_n hV dX9_goes_6 (Nat.le_of_ble_eq_true rfl) rfl ?_
  refine r_aload_n hV dX9_goes_7 rfl ?_
  refine r_iload_n hV dX9_goes_8 rfl ?_
  refine r_aload_n hV dX9_goes_9 rfl ?_
  refine r_geto hV fl_X9_40 obM_0 rfl dX9_goes_10 ?_
  refine r_iconst (v := (1 : Int32)) hV dX9_goes_13 rfl ?_
  refine r_ald hV arM_11 (inb_in rfl) (1) rfl dX9_goes_14 ?_
  obtain ⟨r2, M3, q4, h⟩ := bnd_some h
  refine r_cVi hV (m_X9_comes l D cI b v1 (FM 11 1) FM _ _ q4) ml_X9_147 obM_0 rfl rfl (by decide) (Nat.le_of_ble_eq_true rfl) rfl dX9_goes_15 ?_
  refine r_istore_n hV dX9_goes_18 (Nat.le_of_ble_eq_true rfl) rfl ?_
  refine r_aload_n hV dX9_goes_19 rfl ?_
  refine r_iload_n hV dX9_goes_20 rfl ?_
  refine r_iload_n hV dX9_goes_21 rfl ?_
  obtain ⟨r5, M6, q7, h⟩ := bnd_some h
  refine r_cVi hV (m_X9_isEnough l D cI b v1 r2 M3 _ _ q7) ml_X9_151 obM_0 rfl rfl (by decide) (Nat.le_of_ble_eq_true rfl) rfl dX9_goes_22 ?_
  refine r_istore_n hV dX9_goes_25 (Nat.le_of_ble_eq_true rfl) rfl ?_
  refine r_aload_n hV dX9_goes_26 rfl ?_
  refine r_geto hV fl_X9_40 obM_0 rfl dX9_goes_27 ?_
  refine r_bipush (v := (10 : Int32)) hV dX9_goes_30 rfl ?_
  refine r_iload_n hV dX9_goes_32 rfl ?_
  refine r_iadd hV dX9_goes_33 ?_
  refine r_bv h (fun v8 h => ?_)
  refine r_dup2 hV dX9_goes_34 rfl rfl ?_
  obtain ⟨g9, h⟩ := grd_some h
  refine r_ald hV arM_11 (inb_in g9) ((v8).toNatClampNeg) rfl dX9_goes_35 ?_
  refine r_iconst (v := (1 : Int32)) hV dX9_goes_36 rfl ?_
  refine r_iadd hV dX9_goes_37 ?_
  obtain ⟨g10, h⟩ := grd_some h
  refine r_ast hV arM_11 (inb_in g10) ((v8).toNatClampNeg) rfl dX9_goes_38 ?_
  refine r_bm h (fun M11 h => ?_)
  refine r_aload_n hV dX9_goes_39 rfl ?_
  refine r_geto hV fl_X9_40 obM_0 rfl dX9_goes_40 ?_
  refine r_iconst (v := (1 : Int32)) hV dX9_goes_43 rfl ?_
  refine r_iload_n hV dX9_goes_44 rfl ?_
  refine r_ifeq hV 52 dX9_goes_45 rfl (fun c12 => ?_) (fun c12 => ?_)
  · have h := (if_pos c12).symm.trans h
    refine r_iload_n hV dX9_goes_52 rfl ?_
    refine r_mask hV [true, true, false, true, false] ?_
    exact B53 v1 r5 (1 : Int32) r2 M11 h
  · have h := (if_neg c12).symm.trans h
    refine r_iconst (v := (0 : Int32)) hV dX9_goes_48 rfl ?_
    refine r_goto hV 53 dX9_goes_49 rfl ?_
    refine r_mask hV [true, true, false, true, false] ?_
    exact B53 v1 r5 (1 : Int32) (0 : Int32) M11 h
def X9_goesOn_b22 (k4 : Int32 → Int32 → Int32 → FMem → Opt) (x1 : Int32) (x3 : Int32) (s0 : Int32) (s1 : Int32) (FM : FMem) : Opt :=
  bindv (s0 + s1) fun v6 =>
  k4 x1 v6 (x3 + (1 : Int32)) FM
def X9_goesOn_b4s (k4 : Int32 → Int32 → Int32 → FMem → Opt) (x1 : Int32) (x2 : Int32) (x3 : Int32) (FM : FMem) : Opt :=
  if x1 ≤ x3 then (
    some (x2, FM)
  ) else (
    bnd (f_X9_goes FM) fun r2 M3 =>
    if r2 = 0 then (
      X9_goesOn_b22 k4 x1 x3 x2 (0 : Int32) M3
    ) else (
      X9_goesOn_b22 k4 x1 x3 x2 (1 : Int32) M3
    )
  )
def X9_goesOn_b4 : Nat → Int32 → Int32 → Int32 → FMem → Opt
  | 0, _, _, _, _ => none
  | nf + 1, x1, x2, x3, FM => X9_goesOn_b4s (X9_goesOn_b4 nf) x1 x2 x3 FM
def f_X9_goesOn (a1 : Int32) (FM : FMem) : Opt :=
  X9_goesOn_b4 FU a1 (0 : Int32) (0 : Int32) FM
set_option maxHeartbeats 4000000 in
set_option maxRecDepth 100000 in
theorem m_X9_goesOn (l : Launch) (D : va_G) (cI : ClassId) (b : Nat) (a1 : Int32) (FM : FMem) (r0 : Int32) (FR : FMem) (h : f_X9_goesOn a1 FM = some (r0, FR)) : Mt l (wdM D cI b) yX9_goesOn cX9_goesOn 4 (some .int) 4 97 [.ref (b + 0), .int a1] FM (some (.int r0)) FR := by
  refine Mt.of (by decide) (cat_cons rfl (cat_cons rfl cat_nil)) [some (.ref (b + 0)), some (.int a1), none, none] rfl (Nat.le_of_ble_eq_true rfl) (fun V hV => ?_)
  have B22 : ∀ (k4 : Int32 → Int32 → Int32 → FMem → Opt) (hk4 : ∀ (x1 : Int32) (x2 : Int32) (x3 : Int32) (FM : FMem), k4 x1 x2 x3 FM = some (r0, FR) → V FM 4 [some (.ref (b + 0)), some (.int x1), some (.int x2), some (.int x3)] []) (x1 : Int32) (x3 : Int32) (s0 : Int32) (s1 : Int32) (FM : FMem), X9_goesOn_b22 k4 x1 x3 s0 s1 FM = some (r0, FR) → V FM 22 [some (.ref (b + 0)), some (.int x1), none, some (.int x3)] [.int s1, .int s0] := by
    intro k4 hk4 x1 x3 s0 s1 FM h
    unfold X9_goesOn_b22 at h
    refine r_iadd hV dX9_goesOn_22 ?_
    refine r_bv h (fun v6 h => ?_)
    refine r_istore_n hV dX9_goesOn_23 (Nat.le_of_ble_eq_true rfl) rfl ?_
    refine r_iinc (v := (1 : Int32)) hV dX9_goesOn_24 rfl rfl rfl ?_
    refine r_goto hV 4 dX9_goesOn_27 rfl ?_
    exact hk4 x1 v6 (x3 + (1 : Int32)) FM h
  have B4 : ∀ (k4 : Int32 → Int32 → Int32 → FMem → Opt) (hk4 : ∀ (x1 : Int32) (x2 : Int32) (x3 : Int32) (FM : FMem), k4 x1 x2 x3 FM = some (r0, FR) → V FM 4 [some (.ref (b + 0)), some (.int x1), some (.int x2), some (.int x3)] []) (x1 : Int32) (x2 : Int32) (x3 : Int32) (FM : FMem), X9_goesOn_b4s k4 x1 x2 x3 FM = some (r0, FR) → V FM 4 [some (.ref (b + 0)), some (.int x1), some (.int x2), some (.int x3)] [] := by
    intro k4 hk4 x1 x2 x3 FM h
    unfold X9_goesOn_b4s at h
    refine r_iload_n hV dX9_goesOn_4 rfl ?_
    refine r_iload_n hV dX9_goesOn_5 rfl ?_
    refine r_icmpge hV 30 dX9_goesOn_6 rfl (fun c1 => ?_) (fun c1 => ?_)
    · have h := (if_pos c1).symm.trans h
      refine r_iload_n hV dX9_goesOn_30 rfl ?_
      exact r_iret hV rfl dX9_goesOn_31 (ret_r h) (ret_m h)
    · have h := (if_neg c1).symm.trans h
      refine r_iload_n hV dX9_goesOn_9 rfl ?_
      refine r_aload_n hV dX9_goesOn_10 rfl ?_
      obtain ⟨r2, M3, q4, h⟩ := bnd_some h
      refine r_cVi hV (m_X9_goes l D cI b FM _ _ q4) ml_X9_154 obM_0 rfl rfl (by decide) (Nat.le_of_ble_eq_true rfl) rfl dX9_goesOn_11 ?_
      refine r_ifeq hV 21 dX9_goesOn_14 rfl (fun c5 => ?_) (fun c5 => ?_)
      · have h := (if_pos c5).symm.trans h
        refine r_iconst (v := (0 : Int32)) hV dX9_goesOn_21 rfl ?_
        refine r_mask hV [true, true, false, true] ?_
        exact B22 k4 hk4 x1 x3 x2 (0 : Int32) M3 h
      · have h := (if_neg c5).symm.trans h
        refine r_iconst (v := (1 : Int32)) hV dX9_goesOn_17 rfl ?_
        refine r_goto hV 22 dX9_goesOn_18 rfl ?_
        refine r_mask hV [true, true, false, true] ?_
        exact B22 k4 hk4 x1 x3 x2 (1 : Int32) M3 h
  have L4 : ∀ (nf : Nat) (x1 : Int32) (x2 : Int32) (x3 : Int32) (FM : FMem), X9_goesOn_b4 nf x1 x2 x3 FM = some (r0, FR) → V FM 4 [some (.ref (b + 0)), some (.int x1), some (.int x2), some (.int x3)] [] := by
    intro  nf
    induction nf with
    | zero => intro x1 x2 x3 FM h; exact absurd (show (none : Opt) = some (r0, FR) from h) (fun h9 => by cases h9)
    | succ nf ih => intro x1 x2 x3 FM h; exact B4 (X9_goesOn_b4 nf) ih x1 x2 x3 FM h
  unfold f_X9_goesOn at h
  refine r_iconst (v := (0 : Int32)) hV dX9_goesOn_0 rfl ?_
  refine r_istore_n hV dX9_goesOn_1 (Nat.le_of_ble_eq_true rfl) rfl ?_
  refine r_iconst (v := (0 : Int32)) hV dX9_goesOn_2 rfl ?_
  refine r_istore_n hV dX9_goesOn_3 (Nat.le_of_ble_eq_true rfl) rfl ?_
  exact L4 FU a1 (0 : Int32) (0 : Int32) FM h
def X9_person_b37s (k37 : Int32 → Int32 → Int32 → FMem → Opt) (x1 : Int32) (x2 : Int32) (x3 : Int32) (FM : FMem) : Opt :=
  grd (inb ((4 : Int32) + x3) 46) <|
  if (FM 2 ((((4 : Int32) + x3)).toNatClampNeg)) = x1 then (
    if x2 = (3 : Int32) then (
      some (x3, FM)
    ) else (
      grd (inb ((10 : Int32) + x1) 46) <|
      some ((FM 2 ((((10 : Int32) + x1)).toNatClampNeg)), FM)
    )
  ) else (
    k37 x1 x2 (x3 + (1 : Int32)) FM
  )
def X9_person_b37 : Nat → Int32 → Int32 → Int32 → FMem → Opt
  | 0, _, _, _, _ => none
  | nf + 1, x1, x2, x3, FM => X9_person_b37s (X9_person_b37 nf) x1 x2 x3 FM
def f_X9_person (a1 a2 : Int32) (FM : FMem) : Opt :=
  bnd (f_X9_isPerson a1 FM) fun r1 M2 =>
  if r1 = 0 then (
    some ((-1 : Int32), M2)
  ) else (
    bnd (f_X9_in a2 (0 : Int32) (4 : Int32) M2) fun r5 M6 =>
    if r5 = 0 then (
      some ((-1 : Int32), M6)
    ) else (
      if (3 : Int32) ≤ a2 then (
        X9_person_b37 FU a1 a2 (0 : Int32) M6
      ) else (
        grd (inb (((3 : Int32) * a1) + a2) 18) <|
        some ((M6 1 (((((3 : Int32) * a1) + a2)).toNatClampNeg)), M6)
      )
    )
  )
set_option maxHeartbeats 4000000 in
set_option maxRecDepth 100000 in
theorem m_X9_person (l : Launch) (D : va_G) (cI : ClassId) (b : Nat) (a1 a2 : Int32) (FM : FMem) (r0 : Int32) (FR : FMem) (h : f_X9_person a1 a2 FM = some (r0, FR)) : Mt l (wdM D cI b) yX9_person cX9_person 4 (some .int) 2 43 [.ref (b + 0), .int a1, .int a2] FM (some (.int r0)) FR := by
  refine Mt.of (by decide) (cat_cons rfl (cat_cons rfl (cat_cons rfl cat_nil))) [some (.ref (b + 0)), some (.int a1), some (.int a2), none] rfl (Nat.le_of_ble_eq_true rfl) (fun V hV => ?_)
  have B37 : ∀ (k37 : Int32 → Int32 → Int32 → FMem → Opt) (hk37 : ∀ (x1 : Int32) (x2 : Int32) (x3 : Int32) (FM : FMem), k37 x1 x2 x3 FM = some (r0, FR) → V FM 37 [some (.ref (b + 0)), some (.int x1), some (.int x2), some (.int x3)] []) (x1 : Int32) (x2 : Int32) (x3 : Int32) (FM : FMem), X9_person_b37s k37 x1 x2 x3 FM = some (r0, FR) → V FM 37 [some (.ref (b + 0)), some (.int x1), some (.int x2), some (.int x3)] [] := by
    intro k37 hk37 x1 x2 x3 FM h
    unfold X9_person_b37s at h
    refine r_aload_n hV dX9_person_37 rfl ?_
    refine r_geto hV fl_X9_13 obM_0 rfl dX9_person_38 ?_
    refine r_iconst (v := (4 : Int32)) hV dX9_person_41 rfl ?_
    refine r_iload_n hV dX9_person_42 rfl ?_
    refine r_iadd hV dX9_person_43 ?_
    obtain ⟨g10, h⟩ := grd_some h
    refine r_ald hV arM_2 (inb_in g10) ((((4 : Int32) + x3)).toNatClampNeg) rfl dX9_person_44 ?_
    refine r_iload_n hV dX9_person_45 rfl ?_
    refine r_icmpeq hV 55 dX9_person_46 rfl (fun c11 => ?_) (fun c11 => ?_)
    · have h := (if_pos c11).symm.trans h
      refine r_iload_n hV dX9_person_55 rfl ?_
      refine r_iconst (v := (3 : Int32)) hV dX9_person_56 rfl ?_
      refine r_icmpne hV 64 dX9_person_57 rfl (fun c12 => ?_) (fun c12 => ?_)
      · have h := (if_neg c12).symm.trans h
        refine r_aload_n hV dX9_person_64 rfl ?_
        refine r_geto hV fl_X9_13 obM_0 rfl dX9_person_65 ?_
        refine r_bipush (v := (10 : Int32)) hV dX9_person_68 rfl ?_
        refine r_iload_n hV dX9_person_70 rfl ?_
        refine r_iadd hV dX9_person_71 ?_
        obtain ⟨g13, h⟩ := grd_some h
        refine r_ald hV arM_2 (inb_in g13) ((((10 : Int32) + x1)).toNatClampNeg) rfl dX9_person_72 ?_
        exact r_iret hV rfl dX9_person_73 (ret_r h) (ret_m h)
      · have h := (if_pos c12).symm.trans h
        refine r_iload_n hV dX9_person_60 rfl ?_
        refine r_goto hV 73 dX9_person_61 rfl ?_
        exact r_iret hV rfl dX9_person_73 (ret_r h) (ret_m h)
    · have h := (if_neg c11).symm.trans h
      refine r_iinc (v := (1 : Int32)) hV dX9_person_49 rfl rfl rfl ?_
      refine r_goto hV 37 dX9_person_52 rfl ?_
      exact hk37 x1 x2 (x3 + (1 : Int32)) FM h
  have L37 : ∀ (nf : Nat) (x1 : Int32) (x2 : Int32) (x3 : Int32) (FM : FMem), X9_person_b37 nf x1 x2 x3 FM = some (r0, FR) → V FM 37 [some (.ref (b + 0)), some (.int x1), some (.int x2), some (.int x3)] [] := by
    intro  nf
    induction nf with
    | zero => intro x1 x2 x3 FM h; exact absurd (show (none : Opt) = some (r0, FR) from h) (fun h9 => by cases h9)
    | succ nf ih => intro x1 x2 x3 FM h; exact B37 (X9_person_b37 nf) ih x1 x2 x3 FM h
  unfold f_X9_person at h
  refine r_aload_n hV dX9_person_0 rfl ?_
  refine r_iload_n hV dX9_person_1 rfl ?_
  obtain ⟨r1, M2, q3, h⟩ := bnd_some h
  refine r_cVi hV (m_X9_isPerson l D cI b a1 FM _ _ q3) ml_X9_157 obM_0 rfl rfl (by decide) (Nat.le_of_ble_eq_true rfl) rfl dX9_person_2 ?_
  refine r_ifeq hV 17 dX9_person_5 rfl (fun c4 => ?_) (fun c4 => ?_)
  · have h := (if_pos c4).symm.trans h
    refine r_iconst (v := (-1 : Int32)) hV dX9_person_17 rfl ?_
    exact r_iret hV rfl dX9_person_18 (ret_r h) (ret_m h)
  · have h := (if_neg c4).symm.trans h
    refine r_iload_n hV dX9_person_8 rfl ?_
    refine r_iconst (v := (0 : Int32)) hV dX9_person_9 rfl ?_
    refine r_iconst (v := (4 : Int32)) hV dX9_person_10 rfl ?_
    obtain ⟨r5, M6, q7, h⟩ := bnd_some h
    refine r_cSi hV (m_X9_in l D cI b a2 (0 : Int32) (4 : Int32) M2 _ _ q7) ml_X9_70 rfl (by decide) (Nat.le_of_ble_eq_true rfl) rfl dX9_person_11 ?_
    refine r_ifne hV 19 dX9_person_14 rfl (fun c8 => ?_) (fun c8 => ?_)
    · have h := (if_neg c8).symm.trans h
      refine r_iload_n hV dX9_person_19 rfl ?_
      refine r_iconst (v := (3 : Int32)) hV dX9_person_20 rfl ?_
      refine r_icmpge hV 35 dX9_person_21 rfl (fun c9 => ?_) (fun c9 => ?_)
      · have h := (if_pos c9).symm.trans h
        refine r_iconst (v := (0 : Int32)) hV dX9_person_35 rfl ?_
        refine r_istore_n hV dX9_person_36 (Nat.le_of_ble_eq_true rfl) rfl ?_
        exact L37 FU a1 a2 (0 : Int32) M6 h
      · have h := (if_neg c9).symm.trans h
        refine r_aload_n hV dX9_person_24 rfl ?_
        refine r_geto hV fl_X9_7 obM_0 rfl dX9_person_25 ?_
        refine r_iconst (v := (3 : Int32)) hV dX9_person_28 rfl ?_
        refine r_iload_n hV dX9_person_29 rfl ?_
        refine r_imul hV dX9_person_30 ?_
        refine r_iload_n hV dX9_person_31 rfl ?_
        refine r_iadd hV dX9_person_32 ?_
        obtain ⟨g14, h⟩ := grd_some h
        refine r_ald hV arM_1 (inb_in g14) (((((3 : Int32) * a1) + a2)).toNatClampNeg) rfl dX9_person_33 ?_
        exact r_iret hV rfl dX9_person_34 (ret_r h) (ret_m h)
    · have h := (if_pos c8).symm.trans h
      refine r_iconst (v := (-1 : Int32)) hV dX9_person_17 rfl ?_
      exact r_iret hV rfl dX9_person_18 (ret_r h) (ret_m h)
def f_X9_thing (a1 a2 : Int32) (FM : FMem) : Opt :=
  bnd (f_X9_isThing a1 FM) fun r1 M2 =>
  if r1 = 0 then (
    some ((-1 : Int32), M2)
  ) else (
    bnd (f_X9_in a2 (0 : Int32) (3 : Int32) M2) fun r5 M6 =>
    if r5 = 0 then (
      some ((-1 : Int32), M6)
    ) else (
      if a2 = (3 : Int32) then (
        some ((((M6 2 3) >>> (a1 &&& 31)) &&& (1 : Int32)), M6)
      ) else (
        grd (inb (((16 : Int32) + ((3 : Int32) * a1)) + a2) 46) <|
        some ((M6 2 (((((16 : Int32) + ((3 : Int32) * a1)) + a2)).toNatClampNeg)), M6)
      )
    )
  )
set_option maxHeartbeats 4000000 in
set_option maxRecDepth 100000 in
theorem m_X9_thing (l : Launch) (D : va_G) (cI : ClassId) (b : Nat) (a1 a2 : Int32) (FM : FMem) (r0 : Int32) (FR : FMem) (h : f_X9_thing a1 a2 FM = some (r0, FR)) : Mt l (wdM D cI b) yX9_thing cX9_thing 3 (some .int) 2 43 [.ref (b + 0), .int a1, .int a2] FM (some (.int r0)) FR := by
  refine Mt.of (by decide) (cat_cons rfl (cat_cons rfl (cat_cons rfl cat_nil))) [some (.ref (b + 0)), some (.int a1), some (.int a2)] rfl (Nat.le_of_ble_eq_true rfl) (fun V hV => ?_)
  unfold f_X9_thing at h
  refine r_aload_n hV dX9_thing_0 rfl ?_
  refine r_iload_n hV dX9_thing_1 rfl ?_
  obtain ⟨r1, M2, q3, h⟩ := bnd_some h
  refine r_cVi hV (m_X9_isThing l D cI b a1 FM _ _ q3) ml_X9_160 obM_0 rfl rfl (by decide) (Nat.le_of_ble_eq_true rfl) rfl dX9_thing_2 ?_
  refine r_ifeq hV 17 dX9_thing_5 rfl (fun c4 => ?_) (fun c4 => ?_)
  · have h := (if_pos c4).symm.trans h
    refine r_iconst (v := (-1 : Int32)) hV dX9_thing_17 rfl ?_
    exact r_iret hV rfl dX9_thing_18 (ret_r h) (ret_m h)
  · have h := (if_neg c4).symm.trans h
    refine r_iload_n hV dX9_thing_8 rfl ?_
    refine r_iconst (v := (0 : Int32)) hV dX9_thing_9 rfl ?_
    refine r_iconst (v := (3 : Int32)) hV dX9_thing_10 rfl ?_
    obtain ⟨r5, M6, q7, h⟩ := bnd_some h
    refine r_cSi hV (m_X9_in l D cI b a2 (0 : Int32) (3 : Int32) M2 _ _ q7) ml_X9_70 rfl (by decide) (Nat.le_of_ble_eq_true rfl) rfl dX9_thing_11 ?_
    refine r_ifne hV 19 dX9_thing_14 rfl (fun c8 => ?_) (fun c8 => ?_)
    · have h := (if_neg c8).symm.trans h
      refine r_iload_n hV dX9_thing_19 rfl ?_
      refine r_iconst (v := (3 : Int32)) hV dX9_thing_20 rfl ?_
      refine r_icmpne hV 37 dX9_thing_21 rfl (fun c9 => ?_) (fun c9 => ?_)
      · have h := (if_neg c9).symm.trans h
        refine r_aload_n hV dX9_thing_37 rfl ?_
        refine r_geto hV fl_X9_13 obM_0 rfl dX9_thing_38 ?_
        refine r_bipush (v := (16 : Int32)) hV dX9_thing_41 rfl ?_
        refine r_iconst (v := (3 : Int32)) hV dX9_thing_43 rfl ?_
        refine r_iload_n hV dX9_thing_44 rfl ?_
        refine r_imul hV dX9_thing_45 ?_
        refine r_iadd hV dX9_thing_46 ?_
        refine r_iload_n hV dX9_thing_47 rfl ?_
        refine r_iadd hV dX9_thing_48 ?_
        obtain ⟨g10, h⟩ := grd_some h
        refine r_ald hV arM_2 (inb_in g10) (((((16 : Int32) + ((3 : Int32) * a1)) + a2)).toNatClampNeg) rfl dX9_thing_49 ?_
        exact r_iret hV rfl dX9_thing_50 (ret_r h) (ret_m h)
      · have h := (if_pos c9).symm.trans h
        refine r_aload_n hV dX9_thing_24 rfl ?_
        refine r_geto hV fl_X9_13 obM_0 rfl dX9_thing_25 ?_
        refine r_iconst (v := (3 : Int32)) hV dX9_thing_28 rfl ?_
        refine r_ald hV arM_2 (inb_in rfl) (3) rfl dX9_thing_29 ?_
        refine r_iload_n hV dX9_thing_30 rfl ?_
        refine r_ishr hV dX9_thing_31 ?_
        refine r_iconst (v := (1 : Int32)) hV dX9_thing_32 rfl ?_
        refine r_iand hV dX9_thing_33 ?_
        refine r_goto hV 50 dX9_thing_34 rfl ?_
        exact r_iret hV rfl dX9_thing_50 (ret_r h) (ret_m h)
    · have h := (if_pos c8).symm.trans h
      refine r_iconst (v := (-1 : Int32)) hV dX9_thing_17 rfl ?_
      exact r_iret hV rfl dX9_thing_18 (ret_r h) (ret_m h)
def X9_remembers_b49 (FM : FMem) : Opt :=
  bnd (f_X9_put 4 368 2 46 ((46 : Int32) * (FM 0 5)) (46 : Int32) FM) fun r2 M3 =>
  bindm (fset M3 0 5 ((M3 0 5) + (1 : Int32))) fun M5 =>
  some (0, M5)
def X9_remembers_b11s (k11 : Int32 → FMem → Opt) (x1 : Int32) (FM : FMem) : Opt :=
  if (322 : Int32) ≤ x1 then (
    bindm (fset FM 0 5 ((FM 0 5) - (1 : Int32))) fun M7 =>
    X9_remembers_b49 M7
  ) else (
    grd (inb (x1 + (46 : Int32)) 368) <|
    grd (inb x1 368) <|
    bindm (fset FM 4 ((x1).toNatClampNeg) (FM 4 (((x1 + (46 : Int32))).toNatClampNeg))) fun M10 =>
    k11 (x1 + (1 : Int32)) M10
  )
def X9_remembers_b11 : Nat → Int32 → FMem → Opt
  | 0, _, _ => none
  | nf + 1, x1, FM => X9_remembers_b11s (X9_remembers_b11 nf) x1 FM
def f_X9_remembers (FM : FMem) : Opt :=
  if (FM 0 5) = (8 : Int32) then (
    X9_remembers_b11 FU (0 : Int32) FM
  ) else (
    X9_remembers_b49 FM
  )
set_option maxHeartbeats 4000000 in
set_option maxRecDepth 100000 in
theorem m_X9_remembers (l : Launch) (D : va_G) (cI : ClassId) (b : Nat) (FM : FMem) (r0 : Int32) (FR : FMem) (h : f_X9_remembers FM = some (r0, FR)) : Mt l (wdM D cI b) yX9_remembers cX9_remembers 2 none 1 24 [.ref (b + 0)] FM none FR := by
  refine Mt.of (by decide) (cat_cons rfl cat_nil) [some (.ref (b + 0)), none] rfl (Nat.le_of_ble_eq_true rfl) (fun V hV => ?_)
  have B49 : ∀ (FM : FMem), X9_remembers_b49 FM = some (r0, FR) → V FM 49 [some (.ref (b + 0)), none] [] := by
    intro   FM h
    unfold X9_remembers_b49 at h
    refine r_aload_n hV dX9_remembers_49 rfl ?_
    refine r_geto hV fl_X9_19 obM_0 rfl dX9_remembers_50 ?_
    refine r_bipush (v := (46 : Int32)) hV dX9_remembers_53 rfl ?_
    refine r_aload_n hV dX9_remembers_55 rfl ?_
    refine r_geto hV fl_X9_121 obM_0 rfl dX9_remembers_56 ?_
    refine r_imul hV dX9_remembers_59 ?_
    refine r_aload_n hV dX9_remembers_60 rfl ?_
    refine r_geto hV fl_X9_13 obM_0 rfl dX9_remembers_61 ?_
    refine r_bipush (v := (46 : Int32)) hV dX9_remembers_64 rfl ?_
    obtain ⟨r2, M3, q4, h⟩ := bnd_some h
    refine r_cSv hV (m_X9_put l D cI b 4 368 2 46 arM_4 arM_2 ((46 : Int32) * (FM 0 5)) (46 : Int32) FM _ _ q4) ml_X9_117 rfl (by decide) (Nat.le_of_ble_eq_true rfl) rfl dX9_remembers_66 ?_
    refine r_aload_n hV dX9_remembers_69 rfl ?_
    refine r_dup hV dX9_remembers_70 rfl ?_
    refine r_geto hV fl_X9_121 obM_0 rfl dX9_remembers_71 ?_
    refine r_iconst (v := (1 : Int32)) hV dX9_remembers_74 rfl ?_
    refine r_iadd hV dX9_remembers_75 ?_
    refine r_puti hV fl_X9_121 obM_0 (fun _ _ => rfl) (Nat.le_of_ble_eq_true rfl) dX9_remembers_76 ?_
    refine r_bm h (fun M5 h => ?_)
    exact r_vret hV rfl dX9_remembers_79 rfl (ret_m h)
  have B11 : ∀ (k11 : Int32 → FMem → Opt) (hk11 : ∀ (x1 : Int32) (FM : FMem), k11 x1 FM = some (r0, FR) → V FM 11 [some (.ref (b + 0)), some (.int x1)] []) (x1 : Int32) (FM : FMem), X9_remembers_b11s k11 x1 FM = some (r0, FR) → V FM 11 [some (.ref (b + 0)), some (.int x1)] [] := by
    intro k11 hk11 x1 FM h
    unfold X9_remembers_b11s at h
    refine r_iload_n hV dX9_remembers_11 rfl ?_
    refine r_sipush (v := (322 : Int32)) hV dX9_remembers_12 rfl ?_
    refine r_icmpge hV 39 dX9_remembers_15 rfl (fun c6 => ?_) (fun c6 => ?_)
    · have h := (if_pos c6).symm.trans h
      refine r_aload_n hV dX9_remembers_39 rfl ?_
      refine r_dup hV dX9_remembers_40 rfl ?_
      refine r_geto hV fl_X9_121 obM_0 rfl dX9_remembers_41 ?_
      refine r_iconst (v := (1 : Int32)) hV dX9_remembers_44 rfl ?_
      refine r_isub hV dX9_remembers_45 ?_
      refine r_puti hV fl_X9_121 obM_0 (fun _ _ => rfl) (Nat.le_of_ble_eq_true rfl) dX9_remembers_46 ?_
      refine r_bm h (fun M7 h => ?_)
      refine r_mask hV [true, false] ?_
      exact B49 M7 h
    · have h := (if_neg c6).symm.trans h
      refine r_aload_n hV dX9_remembers_18 rfl ?_
      refine r_geto hV fl_X9_19 obM_0 rfl dX9_remembers_19 ?_
      refine r_iload_n hV dX9_remembers_22 rfl ?_
      refine r_aload_n hV dX9_remembers_23 rfl ?_
      refine r_geto hV fl_X9_19 obM_0 rfl dX9_remembers_24 ?_
      refine r_iload_n hV dX9_remembers_27 rfl ?_
      refine r_bipush (v := (46 : Int32)) hV dX9_remembers_28 rfl ?_
      refine r_iadd hV dX9_remembers_30 ?_
      obtain ⟨g8, h⟩ := grd_some h
      refine r_ald hV arM_4 (inb_in g8) (((x1 + (46 : Int32))).toNatClampNeg) rfl dX9_remembers_31 ?_
      obtain ⟨g9, h⟩ := grd_some h
      refine r_ast hV arM_4 (inb_in g9) ((x1).toNatClampNeg) rfl dX9_remembers_32 ?_
      refine r_bm h (fun M10 h => ?_)
      refine r_iinc (v := (1 : Int32)) hV dX9_remembers_33 rfl rfl rfl ?_
      refine r_goto hV 11 dX9_remembers_36 rfl ?_
      exact hk11 (x1 + (1 : Int32)) M10 h
  have L11 : ∀ (nf : Nat) (x1 : Int32) (FM : FMem), X9_remembers_b11 nf x1 FM = some (r0, FR) → V FM 11 [some (.ref (b + 0)), some (.int x1)] [] := by
    intro  nf
    induction nf with
    | zero => intro x1 FM h; exact absurd (show (none : Opt) = some (r0, FR) from h) (fun h9 => by cases h9)
    | succ nf ih => intro x1 FM h; exact B11 (X9_remembers_b11 nf) ih x1 FM h
  unfold f_X9_remembers at h
  refine r_aload_n hV dX9_remembers_0 rfl ?_
  refine r_geto hV fl_X9_121 obM_0 rfl dX9_remembers_1 ?_
  refine r_bipush (v := (8 : Int32)) hV dX9_remembers_4 rfl ?_
  refine r_icmpne hV 49 dX9_remembers_6 rfl (fun c1 => ?_) (fun c1 => ?_)
  · have h := (if_neg c1).symm.trans h
    exact B49 FM h
  · have h := (if_pos c1).symm.trans h
    refine r_iconst (v := (0 : Int32)) hV dX9_remembers_9 rfl ?_
    refine r_istore_n hV dX9_remembers_10 (Nat.le_of_ble_eq_true rfl) rfl ?_
    exact L11 FU (0 : Int32) FM h
def f_X9_pass (a1 : Int32) (FM : FMem) : Opt :=
  bnd (f_X9_in a1 (1 : Int32) (20 : Int32) FM) fun r1 M2 =>
  if r1 = 0 then (
    some ((-1 : Int32), M2)
  ) else (
    if ((M2 2 0) + a1) ≤ (999 : Int32) then (
      bnd (f_X9_remembers M2) fun r6 M7 =>
      bnd (f_X9_from 2 M7) fun r9 M10 =>
      bnd (f_X9_goesOn a1 M10) fun r12 M13 =>
      bnd (f_X9_put 2 46 11 46 (0 : Int32) (46 : Int32) M13) fun r15 M16 =>
      some (r12, M16)
    ) else (
      some ((-2 : Int32), M2)
    )
  )
set_option maxHeartbeats 4000000 in
set_option maxRecDepth 100000 in
theorem m_X9_pass (l : Launch) (D : va_G) (cI : ClassId) (b : Nat) (a1 : Int32) (FM : FMem) (r0 : Int32) (FR : FMem) (h : f_X9_pass a1 FM = some (r0, FR)) : Mt l (wdM D cI b) yX9_pass cX9_pass 3 (some .int) 5 120 [.ref (b + 0), .int a1] FM (some (.int r0)) FR := by
  refine Mt.of (by decide) (cat_cons rfl (cat_cons rfl cat_nil)) [some (.ref (b + 0)), some (.int a1), none] rfl (Nat.le_of_ble_eq_true rfl) (fun V hV => ?_)
  unfold f_X9_pass at h
  refine r_iload_n hV dX9_pass_0 rfl ?_
  refine r_iconst (v := (1 : Int32)) hV dX9_pass_1 rfl ?_
  refine r_bipush (v := (20 : Int32)) hV dX9_pass_2 rfl ?_
  obtain ⟨r1, M2, q3, h⟩ := bnd_some h
  refine r_cSi hV (m_X9_in l D cI b a1 (1 : Int32) (20 : Int32) FM _ _ q3) ml_X9_70 rfl (by decide) (Nat.le_of_ble_eq_true rfl) rfl dX9_pass_4 ?_
  refine r_ifne hV 12 dX9_pass_7 rfl (fun c4 => ?_) (fun c4 => ?_)
  · have h := (if_neg c4).symm.trans h
    refine r_aload_n hV dX9_pass_12 rfl ?_
    refine r_geto hV fl_X9_13 obM_0 rfl dX9_pass_13 ?_
    refine r_iconst (v := (0 : Int32)) hV dX9_pass_16 rfl ?_
    refine r_ald hV arM_2 (inb_in rfl) (0) rfl dX9_pass_17 ?_
    refine r_iload_n hV dX9_pass_18 rfl ?_
    refine r_iadd hV dX9_pass_19 ?_
    refine r_sipush (v := (999 : Int32)) hV dX9_pass_20 rfl ?_
    refine r_icmple hV 29 dX9_pass_23 rfl (fun c5 => ?_) (fun c5 => ?_)
    · have h := (if_pos c5).symm.trans h
      refine r_aload_n hV dX9_pass_29 rfl ?_
      obtain ⟨r6, M7, q8, h⟩ := bnd_some h
      refine r_cVv hV (m_X9_remembers l D cI b M2 _ _ q8) ml_X9_163 obM_0 rfl rfl (by decide) (Nat.le_of_ble_eq_true rfl) rfl dX9_pass_30 ?_
      refine r_aload_n hV dX9_pass_33 rfl ?_
      refine r_aload_n hV dX9_pass_34 rfl ?_
      refine r_geto hV fl_X9_13 obM_0 rfl dX9_pass_35 ?_
      obtain ⟨r9, M10, q11, h⟩ := bnd_some h
      refine r_cVv hV (m_X9_from l D cI b 2 arM_2 M7 _ _ q11) ml_X9_166 obM_0 rfl rfl (by decide) (Nat.le_of_ble_eq_true rfl) rfl dX9_pass_38 ?_
      refine r_aload_n hV dX9_pass_41 rfl ?_
      refine r_iload_n hV dX9_pass_42 rfl ?_
      obtain ⟨r12, M13, q14, h⟩ := bnd_some h
      refine r_cVi hV (m_X9_goesOn l D cI b a1 M10 _ _ q14) ml_X9_170 obM_0 rfl rfl (by decide) (Nat.le_of_ble_eq_true rfl) rfl dX9_pass_43 ?_
      refine r_istore_n hV dX9_pass_46 (Nat.le_of_ble_eq_true rfl) rfl ?_
      refine r_aload_n hV dX9_pass_47 rfl ?_
      refine r_geto hV fl_X9_13 obM_0 rfl dX9_pass_48 ?_
      refine r_iconst (v := (0 : Int32)) hV dX9_pass_51 rfl ?_
      refine r_aload_n hV dX9_pass_52 rfl ?_
      refine r_geto hV fl_X9_40 obM_0 rfl dX9_pass_53 ?_
      refine r_bipush (v := (46 : Int32)) hV dX9_pass_56 rfl ?_
      obtain ⟨r15, M16, q17, h⟩ := bnd_some h
      refine r_cSv hV (m_X9_put l D cI b 2 46 11 46 arM_2 arM_11 (0 : Int32) (46 : Int32) M13 _ _ q17) ml_X9_117 rfl (by decide) (Nat.le_of_ble_eq_true rfl) rfl dX9_pass_58 ?_
      refine r_iload_n hV dX9_pass_61 rfl ?_
      exact r_iret hV rfl dX9_pass_62 (ret_r h) (ret_m h)
    · have h := (if_neg c5).symm.trans h
      refine r_bipush (v := (-2 : Int32)) hV dX9_pass_26 rfl ?_
      exact r_iret hV rfl dX9_pass_28 (ret_r h) (ret_m h)
  · have h := (if_pos c4).symm.trans h
    refine r_iconst (v := (-1 : Int32)) hV dX9_pass_10 rfl ?_
    exact r_iret hV rfl dX9_pass_11 (ret_r h) (ret_m h)
def f_X9_hide (a1 : Int32) (FM : FMem) : Opt :=
  bnd (f_X9_isThing a1 FM) fun r1 M2 =>
  if r1 = 0 then (
    some ((-1 : Int32), M2)
  ) else (
    bnd (f_X9_remembers M2) fun r5 M6 =>
    bindm (fset M6 2 (3) ((M6 2 3) ^^^ ((1 : Int32) <<< (a1 &&& 31)))) fun M8 =>
    some ((((M8 2 3) >>> (a1 &&& 31)) &&& (1 : Int32)), M8)
  )
set_option maxHeartbeats 4000000 in
set_option maxRecDepth 100000 in
theorem m_X9_hide (l : Launch) (D : va_G) (cI : ClassId) (b : Nat) (a1 : Int32) (FM : FMem) (r0 : Int32) (FR : FMem) (h : f_X9_hide a1 FM = some (r0, FR)) : Mt l (wdM D cI b) yX9_hide cX9_hide 2 (some .int) 2 45 [.ref (b + 0), .int a1] FM (some (.int r0)) FR := by
  refine Mt.of (by decide) (cat_cons rfl (cat_cons rfl cat_nil)) [some (.ref (b + 0)), some (.int a1)] rfl (Nat.le_of_ble_eq_true rfl) (fun V hV => ?_)
  unfold f_X9_hide at h
  refine r_aload_n hV dX9_hide_0 rfl ?_
  refine r_iload_n hV dX9_hide_1 rfl ?_
  obtain ⟨r1, M2, q3, h⟩ := bnd_some h
  refine r_cVi hV (m_X9_isThing l D cI b a1 FM _ _ q3) ml_X9_160 obM_0 rfl rfl (by decide) (Nat.le_of_ble_eq_true rfl) rfl dX9_hide_2 ?_
  refine r_ifne hV 10 dX9_hide_5 rfl (fun c4 => ?_) (fun c4 => ?_)
  · have h := (if_neg c4).symm.trans h
    refine r_aload_n hV dX9_hide_10 rfl ?_
    obtain ⟨r5, M6, q7, h⟩ := bnd_some h
    refine r_cVv hV (m_X9_remembers l D cI b M2 _ _ q7) ml_X9_163 obM_0 rfl rfl (by decide) (Nat.le_of_ble_eq_true rfl) rfl dX9_hide_11 ?_
    refine r_aload_n hV dX9_hide_14 rfl ?_
    refine r_geto hV fl_X9_13 obM_0 rfl dX9_hide_15 ?_
    refine r_iconst (v := (3 : Int32)) hV dX9_hide_18 rfl ?_
    refine r_dup2 hV dX9_hide_19 rfl rfl ?_
    refine r_ald hV arM_2 (inb_in rfl) (3) rfl dX9_hide_20 ?_
    refine r_iconst (v := (1 : Int32)) hV dX9_hide_21 rfl ?_
    refine r_iload_n hV dX9_hide_22 rfl ?_
    refine r_ishl hV dX9_hide_23 ?_
    refine r_ixor hV dX9_hide_24 ?_
    refine r_ast hV arM_2 (inb_in rfl) (3) rfl dX9_hide_25 ?_
    refine r_bm h (fun M8 h => ?_)
    refine r_aload_n hV dX9_hide_26 rfl ?_
    refine r_geto hV fl_X9_13 obM_0 rfl dX9_hide_27 ?_
    refine r_iconst (v := (3 : Int32)) hV dX9_hide_30 rfl ?_
    refine r_ald hV arM_2 (inb_in rfl) (3) rfl dX9_hide_31 ?_
    refine r_iload_n hV dX9_hide_32 rfl ?_
    refine r_ishr hV dX9_hide_33 ?_
    refine r_iconst (v := (1 : Int32)) hV dX9_hide_34 rfl ?_
    refine r_iand hV dX9_hide_35 ?_
    exact r_iret hV rfl dX9_hide_36 (ret_r h) (ret_m h)
  · have h := (if_pos c4).symm.trans h
    refine r_iconst (v := (-1 : Int32)) hV dX9_hide_8 rfl ?_
    exact r_iret hV rfl dX9_hide_9 (ret_r h) (ret_m h)
def f_X9_arrange (a1 a2 a3 : Int32) (FM : FMem) : Opt :=
  bnd (f_X9_in a1 (0 : Int32) (999 : Int32) FM) fun r1 M2 =>
  if r1 = 0 then (
    some ((-1 : Int32), M2)
  ) else (
    bnd (f_X9_in a2 (1 : Int32) (31 : Int32) M2) fun r5 M6 =>
    if r5 = 0 then (
      some ((-1 : Int32), M6)
    ) else (
      bnd (f_X9_in a3 (1 : Int32) (9 : Int32) M6) fun r9 M10 =>
      if r9 = 0 then (
        some ((-1 : Int32), M10)
      ) else (
        if (M10 2 0) ≤ a1 then (
          if (M10 2 2) = (9 : Int32) then (
            some ((-3 : Int32), M10)
          ) else (
            bnd (f_X9_remembers M10) fun r15 M16 =>
            bnd (f_X9_addsThing 2 a1 a2 a3 M16) fun r18 M19 =>
            some (((M19 2 2) - (1 : Int32)), M19)
          )
        ) else (
          some ((-2 : Int32), M10)
        )
      )
    )
  )
set_option maxHeartbeats 4000000 in
set_option maxRecDepth 100000 in
theorem m_X9_arrange (l : Launch) (D : va_G) (cI : ClassId) (b : Nat) (a1 a2 a3 : Int32) (FM : FMem) (r0 : Int32) (FR : FMem) (h : f_X9_arrange a1 a2 a3 FM = some (r0, FR)) : Mt l (wdM D cI b) yX9_arrange cX9_arrange 4 (some .int) 2 45 [.ref (b + 0), .int a1, .int a2, .int a3] FM (some (.int r0)) FR := by
  refine Mt.of (by decide) (cat_cons rfl (cat_cons rfl (cat_cons rfl (cat_cons rfl cat_nil)))) [some (.ref (b + 0)), some (.int a1), some (.int a2), some (.int a3)] rfl (Nat.le_of_ble_eq_true rfl) (fun V hV => ?_)
  unfold f_X9_arrange at h
  refine r_iload_n hV dX9_arrange_0 rfl ?_
  refine r_iconst (v := (0 : Int32)) hV dX9_arrange_1 rfl ?_
  refine r_sipush (v := (999 : Int32)) hV dX9_arrange_2 rfl ?_
  obtain ⟨r1, M2, q3, h⟩ := bnd_some h
  refine r_cSi hV (m_X9_in l D cI b a1 (0 : Int32) (999 : Int32) FM _ _ q3) ml_X9_70 rfl (by decide) (Nat.le_of_ble_eq_true rfl) rfl dX9_arrange_5 ?_
  refine r_ifeq hV 31 dX9_arrange_8 rfl (fun c4 => ?_) (fun c4 => ?_)
  · have h := (if_pos c4).symm.trans h
    refine r_iconst (v := (-1 : Int32)) hV dX9_arrange_31 rfl ?_
    exact r_iret hV rfl dX9_arrange_32 (ret_r h) (ret_m h)
  · have h := (if_neg c4).symm.trans h
    refine r_iload_n hV dX9_arrange_11 rfl ?_
    refine r_iconst (v := (1 : Int32)) hV dX9_arrange_12 rfl ?_
    refine r_bipush (v := (31 : Int32)) hV dX9_arrange_13 rfl ?_
    obtain ⟨r5, M6, q7, h⟩ := bnd_some h
    refine r_cSi hV (m_X9_in l D cI b a2 (1 : Int32) (31 : Int32) M2 _ _ q7) ml_X9_70 rfl (by decide) (Nat.le_of_ble_eq_true rfl) rfl dX9_arrange_15 ?_
    refine r_ifeq hV 31 dX9_arrange_18 rfl (fun c8 => ?_) (fun c8 => ?_)
    · have h := (if_pos c8).symm.trans h
      refine r_iconst (v := (-1 : Int32)) hV dX9_arrange_31 rfl ?_
      exact r_iret hV rfl dX9_arrange_32 (ret_r h) (ret_m h)
    · have h := (if_neg c8).symm.trans h
      refine r_iload_n hV dX9_arrange_21 rfl ?_
      refine r_iconst (v := (1 : Int32)) hV dX9_arrange_22 rfl ?_
      refine r_bipush (v := (9 : Int32)) hV dX9_arrange_23 rfl ?_
      obtain ⟨r9, M10, q11, h⟩ := bnd_some h
      refine r_cSi hV (m_X9_in l D cI b a3 (1 : Int32) (9 : Int32) M6 _ _ q11) ml_X9_70 rfl (by decide) (Nat.le_of_ble_eq_true rfl) rfl dX9_arrange_25 ?_
      refine r_ifne hV 33 dX9_arrange_28 rfl (fun c12 => ?_) (fun c12 => ?_)
      · have h := (if_neg c12).symm.trans h
        refine r_iload_n hV dX9_arrange_33 rfl ?_
        refine r_aload_n hV dX9_arrange_34 rfl ?_
        refine r_geto hV fl_X9_13 obM_0 rfl dX9_arrange_35 ?_
        refine r_iconst (v := (0 : Int32)) hV dX9_arrange_38 rfl ?_
        refine r_ald hV arM_2 (inb_in rfl) (0) rfl dX9_arrange_39 ?_
        refine r_icmpge hV 46 dX9_arrange_40 rfl (fun c13 => ?_) (fun c13 => ?_)
        · have h := (if_pos c13).symm.trans h
          refine r_aload_n hV dX9_arrange_46 rfl ?_
          refine r_geto hV fl_X9_13 obM_0 rfl dX9_arrange_47 ?_
          refine r_iconst (v := (2 : Int32)) hV dX9_arrange_50 rfl ?_
          refine r_ald hV arM_2 (inb_in rfl) (2) rfl dX9_arrange_51 ?_
          refine r_bipush (v := (9 : Int32)) hV dX9_arrange_52 rfl ?_
          refine r_icmpne hV 60 dX9_arrange_54 rfl (fun c14 => ?_) (fun c14 => ?_)
          · have h := (if_neg c14).symm.trans h
            refine r_aload_n hV dX9_arrange_60 rfl ?_
            obtain ⟨r15, M16, q17, h⟩ := bnd_some h
            refine r_cVv hV (m_X9_remembers l D cI b M10 _ _ q17) ml_X9_163 obM_0 rfl rfl (by decide) (Nat.le_of_ble_eq_true rfl) rfl dX9_arrange_61 ?_
            refine r_aload_n hV dX9_arrange_64 rfl ?_
            refine r_geto hV fl_X9_13 obM_0 rfl dX9_arrange_65 ?_
            refine r_iload_n hV dX9_arrange_68 rfl ?_
            refine r_iload_n hV dX9_arrange_69 rfl ?_
            refine r_iload_n hV dX9_arrange_70 rfl ?_
            obtain ⟨r18, M19, q20, h⟩ := bnd_some h
            refine r_cSv hV (m_X9_addsThing l D cI b 2 arM_2 a1 a2 a3 M16 _ _ q20) ml_X9_56 rfl (by decide) (Nat.le_of_ble_eq_true rfl) rfl dX9_arrange_71 ?_
            refine r_aload_n hV dX9_arrange_74 rfl ?_
            refine r_geto hV fl_X9_13 obM_0 rfl dX9_arrange_75 ?_
            refine r_iconst (v := (2 : Int32)) hV dX9_arrange_78 rfl ?_
            refine r_ald hV arM_2 (inb_in rfl) (2) rfl dX9_arrange_79 ?_
            refine r_iconst (v := (1 : Int32)) hV dX9_arrange_80 rfl ?_
            refine r_isub hV dX9_arrange_81 ?_
            exact r_iret hV rfl dX9_arrange_82 (ret_r h) (ret_m h)
          · have h := (if_pos c14).symm.trans h
            refine r_bipush (v := (-3 : Int32)) hV dX9_arrange_57 rfl ?_
            exact r_iret hV rfl dX9_arrange_59 (ret_r h) (ret_m h)
        · have h := (if_neg c13).symm.trans h
          refine r_bipush (v := (-2 : Int32)) hV dX9_arrange_43 rfl ?_
          exact r_iret hV rfl dX9_arrange_45 (ret_r h) (ret_m h)
      · have h := (if_pos c12).symm.trans h
        refine r_iconst (v := (-1 : Int32)) hV dX9_arrange_31 rfl ?_
        exact r_iret hV rfl dX9_arrange_32 (ret_r h) (ret_m h)
def X9_undo_b22s (k22 : Int32 → FMem → Opt) (x1 : Int32) (FM : FMem) : Opt :=
  if (46 : Int32) ≤ x1 then (
    some ((FM 0 5), FM)
  ) else (
    grd (inb (((46 : Int32) * (FM 0 5)) + x1) 368) <|
    grd (inb x1 46) <|
    bindm (fset FM 2 ((x1).toNatClampNeg) (FM 4 (((((46 : Int32) * (FM 0 5)) + x1)).toNatClampNeg))) fun M6 =>
    k22 (x1 + (1 : Int32)) M6
  )
def X9_undo_b22 : Nat → Int32 → FMem → Opt
  | 0, _, _ => none
  | nf + 1, x1, FM => X9_undo_b22s (X9_undo_b22 nf) x1 FM
def f_X9_undo (FM : FMem) : Opt :=
  if (FM 0 5) = 0 then (
    some ((-2 : Int32), FM)
  ) else (
    bindm (fset FM 0 5 ((FM 0 5) - (1 : Int32))) fun M2 =>
    X9_undo_b22 FU (0 : Int32) M2
  )
set_option maxHeartbeats 4000000 in
set_option maxRecDepth 100000 in
theorem m_X9_undo (l : Launch) (D : va_G) (cI : ClassId) (b : Nat) (FM : FMem) (r0 : Int32) (FR : FMem) (h : f_X9_undo FM = some (r0, FR)) : Mt l (wdM D cI b) yX9_undo cX9_undo 2 (some .int) 0 0 [.ref (b + 0)] FM (some (.int r0)) FR := by
  refine Mt.of (by decide) (cat_cons rfl cat_nil) [some (.ref (b + 0)), none] rfl (Nat.le_of_ble_eq_true rfl) (fun V hV => ?_)
  have B22 : ∀ (k22 : Int32 → FMem → Opt) (hk22 : ∀ (x1 : Int32) (FM : FMem), k22 x1 FM = some (r0, FR) → V FM 22 [some (.ref (b + 0)), some (.int x1)] []) (x1 : Int32) (FM : FMem), X9_undo_b22s k22 x1 FM = some (r0, FR) → V FM 22 [some (.ref (b + 0)), some (.int x1)] [] := by
    intro k22 hk22 x1 FM h
    unfold X9_undo_b22s at h
    refine r_iload_n hV dX9_undo_22 rfl ?_
    refine r_bipush (v := (46 : Int32)) hV dX9_undo_23 rfl ?_
    refine r_icmpge hV 54 dX9_undo_25 rfl (fun c3 => ?_) (fun c3 => ?_)
    · have h := (if_pos c3).symm.trans h
      refine r_aload_n hV dX9_undo_54 rfl ?_
      refine r_geto hV fl_X9_121 obM_0 rfl dX9_undo_55 ?_
      exact r_iret hV rfl dX9_undo_58 (ret_r h) (ret_m h)
    · have h := (if_neg c3).symm.trans h
      refine r_aload_n hV dX9_undo_28 rfl ?_
      refine r_geto hV fl_X9_13 obM_0 rfl dX9_undo_29 ?_
      refine r_iload_n hV dX9_undo_32 rfl ?_
      refine r_aload_n hV dX9_undo_33 rfl ?_
      refine r_geto hV fl_X9_19 obM_0 rfl dX9_undo_34 ?_
      refine r_bipush (v := (46 : Int32)) hV dX9_undo_37 rfl ?_
      refine r_aload_n hV dX9_undo_39 rfl ?_
      refine r_geto hV fl_X9_121 obM_0 rfl dX9_undo_40 ?_
      refine r_imul hV dX9_undo_43 ?_
      refine r_iload_n hV dX9_undo_44 rfl ?_
      refine r_iadd hV dX9_undo_45 ?_
      obtain ⟨g4, h⟩ := grd_some h
      refine r_ald hV arM_4 (inb_in g4) (((((46 : Int32) * (FM 0 5)) + x1)).toNatClampNeg) rfl dX9_undo_46 ?_
      obtain ⟨g5, h⟩ := grd_some h
      refine r_ast hV arM_2 (inb_in g5) ((x1).toNatClampNeg) rfl dX9_undo_47 ?_
      refine r_bm h (fun M6 h => ?_)
      refine r_iinc (v := (1 : Int32)) hV dX9_undo_48 rfl rfl rfl ?_
      refine r_goto hV 22 dX9_undo_51 rfl ?_
      exact hk22 (x1 + (1 : Int32)) M6 h
  have L22 : ∀ (nf : Nat) (x1 : Int32) (FM : FMem), X9_undo_b22 nf x1 FM = some (r0, FR) → V FM 22 [some (.ref (b + 0)), some (.int x1)] [] := by
    intro  nf
    induction nf with
    | zero => intro x1 FM h; exact absurd (show (none : Opt) = some (r0, FR) from h) (fun h9 => by cases h9)
    | succ nf ih => intro x1 FM h; exact B22 (X9_undo_b22 nf) ih x1 FM h
  unfold f_X9_undo at h
  refine r_aload_n hV dX9_undo_0 rfl ?_
  refine r_geto hV fl_X9_121 obM_0 rfl dX9_undo_1 ?_
  refine r_ifne hV 10 dX9_undo_4 rfl (fun c1 => ?_) (fun c1 => ?_)
  · have h := (if_neg c1).symm.trans h
    refine r_aload_n hV dX9_undo_10 rfl ?_
    refine r_dup hV dX9_undo_11 rfl ?_
    refine r_geto hV fl_X9_121 obM_0 rfl dX9_undo_12 ?_
    refine r_iconst (v := (1 : Int32)) hV dX9_undo_15 rfl ?_
    refine r_isub hV dX9_undo_16 ?_
    refine r_puti hV fl_X9_121 obM_0 (fun _ _ => rfl) (Nat.le_of_ble_eq_true rfl) dX9_undo_17 ?_
    refine r_bm h (fun M2 h => ?_)
    refine r_iconst (v := (0 : Int32)) hV dX9_undo_20 rfl ?_
    refine r_istore_n hV dX9_undo_21 (Nat.le_of_ble_eq_true rfl) rfl ?_
    exact L22 FU (0 : Int32) M2 h
  · have h := (if_pos c1).symm.trans h
    refine r_bipush (v := (-2 : Int32)) hV dX9_undo_7 rfl ?_
    exact r_iret hV rfl dX9_undo_9 (ret_r h) (ret_m h)
def f_X9_king (a1 a2 : Int32) (FM : FMem) : Opt :=
  bnd (f_X9_in a1 (0 : Int32) (40 : Int32) FM) fun r1 M2 =>
  if r1 = 0 then (
    some ((-1 : Int32), M2)
  ) else (
    bnd (f_X9_in a2 (0 : Int32) (1 : Int32) M2) fun r5 M6 =>
    if r5 = 0 then (
      some ((-1 : Int32), M6)
    ) else (
      bnd (f_X9_from 2 M6) fun r9 M10 =>
      bnd (f_X9_goesOn a1 M10) fun r12 M13 =>
      if a2 = 0 then (
        some ((M13 11 4), M13)
      ) else (
        bnd (f_X9_comes (M13 11 4) (M13 11 1) M13) fun r16 M17 =>
        some (r16, M17)
      )
    )
  )
set_option maxHeartbeats 4000000 in
set_option maxRecDepth 100000 in
theorem m_X9_king (l : Launch) (D : va_G) (cI : ClassId) (b : Nat) (a1 a2 : Int32) (FM : FMem) (r0 : Int32) (FR : FMem) (h : f_X9_king a1 a2 FM = some (r0, FR)) : Mt l (wdM D cI b) yX9_king cX9_king 3 (some .int) 5 120 [.ref (b + 0), .int a1, .int a2] FM (some (.int r0)) FR := by
  refine Mt.of (by decide) (cat_cons rfl (cat_cons rfl (cat_cons rfl cat_nil))) [some (.ref (b + 0)), some (.int a1), some (.int a2)] rfl (Nat.le_of_ble_eq_true rfl) (fun V hV => ?_)
  unfold f_X9_king at h
  refine r_iload_n hV dX9_king_0 rfl ?_
  refine r_iconst (v := (0 : Int32)) hV dX9_king_1 rfl ?_
  refine r_bipush (v := (40 : Int32)) hV dX9_king_2 rfl ?_
  obtain ⟨r1, M2, q3, h⟩ := bnd_some h
  refine r_cSi hV (m_X9_in l D cI b a1 (0 : Int32) (40 : Int32) FM _ _ q3) ml_X9_70 rfl (by decide) (Nat.le_of_ble_eq_true rfl) rfl dX9_king_4 ?_
  refine r_ifeq hV 19 dX9_king_7 rfl (fun c4 => ?_) (fun c4 => ?_)
  · have h := (if_pos c4).symm.trans h
    refine r_iconst (v := (-1 : Int32)) hV dX9_king_19 rfl ?_
    exact r_iret hV rfl dX9_king_20 (ret_r h) (ret_m h)
  · have h := (if_neg c4).symm.trans h
    refine r_iload_n hV dX9_king_10 rfl ?_
    refine r_iconst (v := (0 : Int32)) hV dX9_king_11 rfl ?_
    refine r_iconst (v := (1 : Int32)) hV dX9_king_12 rfl ?_
    obtain ⟨r5, M6, q7, h⟩ := bnd_some h
    refine r_cSi hV (m_X9_in l D cI b a2 (0 : Int32) (1 : Int32) M2 _ _ q7) ml_X9_70 rfl (by decide) (Nat.le_of_ble_eq_true rfl) rfl dX9_king_13 ?_
    refine r_ifne hV 21 dX9_king_16 rfl (fun c8 => ?_) (fun c8 => ?_)
    · have h := (if_neg c8).symm.trans h
      refine r_aload_n hV dX9_king_21 rfl ?_
      refine r_aload_n hV dX9_king_22 rfl ?_
      refine r_geto hV fl_X9_13 obM_0 rfl dX9_king_23 ?_
      obtain ⟨r9, M10, q11, h⟩ := bnd_some h
      refine r_cVv hV (m_X9_from l D cI b 2 arM_2 M6 _ _ q11) ml_X9_166 obM_0 rfl rfl (by decide) (Nat.le_of_ble_eq_true rfl) rfl dX9_king_26 ?_
      refine r_aload_n hV dX9_king_29 rfl ?_
      refine r_iload_n hV dX9_king_30 rfl ?_
      obtain ⟨r12, M13, q14, h⟩ := bnd_some h
      refine r_cVi hV (m_X9_goesOn l D cI b a1 M10 _ _ q14) ml_X9_170 obM_0 rfl rfl (by decide) (Nat.le_of_ble_eq_true rfl) rfl dX9_king_31 ?_
      refine r_pop hV dX9_king_34 rfl ?_
      refine r_iload_n hV dX9_king_35 rfl ?_
      refine r_ifne hV 48 dX9_king_36 rfl (fun c15 => ?_) (fun c15 => ?_)
      · have h := (if_neg c15).symm.trans h
        refine r_aload_n hV dX9_king_48 rfl ?_
        refine r_aload_n hV dX9_king_49 rfl ?_
        refine r_geto hV fl_X9_40 obM_0 rfl dX9_king_50 ?_
        refine r_iconst (v := (4 : Int32)) hV dX9_king_53 rfl ?_
        refine r_ald hV arM_11 (inb_in rfl) (4) rfl dX9_king_54 ?_
        refine r_aload_n hV dX9_king_55 rfl ?_
        refine r_geto hV fl_X9_40 obM_0 rfl dX9_king_56 ?_
        refine r_iconst (v := (1 : Int32)) hV dX9_king_59 rfl ?_
        refine r_ald hV arM_11 (inb_in rfl) (1) rfl dX9_king_60 ?_
        obtain ⟨r16, M17, q18, h⟩ := bnd_some h
        refine r_cVi hV (m_X9_comes l D cI b (M13 11 4) (M13 11 1) M13 _ _ q18) ml_X9_147 obM_0 rfl rfl (by decide) (Nat.le_of_ble_eq_true rfl) rfl dX9_king_61 ?_
        exact r_iret hV rfl dX9_king_64 (ret_r h) (ret_m h)
      · have h := (if_pos c15).symm.trans h
        refine r_aload_n hV dX9_king_39 rfl ?_
        refine r_geto hV fl_X9_40 obM_0 rfl dX9_king_40 ?_
        refine r_iconst (v := (4 : Int32)) hV dX9_king_43 rfl ?_
        refine r_ald hV arM_11 (inb_in rfl) (4) rfl dX9_king_44 ?_
        refine r_goto hV 64 dX9_king_45 rfl ?_
        exact r_iret hV rfl dX9_king_64 (ret_r h) (ret_m h)
    · have h := (if_pos c8).symm.trans h
      refine r_iconst (v := (-1 : Int32)) hV dX9_king_19 rfl ?_
      exact r_iret hV rfl dX9_king_20 (ret_r h) (ret_m h)
def X9_firstBell_b2s (k2 : Int32 → FMem → Opt) (x1 : Int32) (FM : FMem) : Opt :=
  if (40 : Int32) < x1 then (
    some ((-4 : Int32), FM)
  ) else (
    bnd (f_X9_goes FM) fun r2 M3 =>
    if r2 = 0 then (
      k2 (x1 + (1 : Int32)) M3
    ) else (
      some (x1, M3)
    )
  )
def X9_firstBell_b2 : Nat → Int32 → FMem → Opt
  | 0, _, _ => none
  | nf + 1, x1, FM => X9_firstBell_b2s (X9_firstBell_b2 nf) x1 FM
def f_X9_firstBell (FM : FMem) : Opt :=
  X9_firstBell_b2 FU (0 : Int32) FM
set_option maxHeartbeats 4000000 in
set_option maxRecDepth 100000 in
theorem m_X9_firstBell (l : Launch) (D : va_G) (cI : ClassId) (b : Nat) (FM : FMem) (r0 : Int32) (FR : FMem) (h : f_X9_firstBell FM = some (r0, FR)) : Mt l (wdM D cI b) yX9_firstBell cX9_firstBell 2 (some .int) 4 97 [.ref (b + 0)] FM (some (.int r0)) FR := by
  refine Mt.of (by decide) (cat_cons rfl cat_nil) [some (.ref (b + 0)), none] rfl (Nat.le_of_ble_eq_true rfl) (fun V hV => ?_)
  have B2 : ∀ (k2 : Int32 → FMem → Opt) (hk2 : ∀ (x1 : Int32) (FM : FMem), k2 x1 FM = some (r0, FR) → V FM 2 [some (.ref (b + 0)), some (.int x1)] []) (x1 : Int32) (FM : FMem), X9_firstBell_b2s k2 x1 FM = some (r0, FR) → V FM 2 [some (.ref (b + 0)), some (.int x1)] [] := by
    intro k2 hk2 x1 FM h
    unfold X9_firstBell_b2s at h
    refine r_iload_n hV dX9_firstBell_2 rfl ?_
    refine r_bipush (v := (40 : Int32)) hV dX9_firstBell_3 rfl ?_
    refine r_icmpgt hV 23 dX9_firstBell_5 rfl (fun c1 => ?_) (fun c1 => ?_)
    · have h := (if_pos c1).symm.trans h
      refine r_bipush (v := (-4 : Int32)) hV dX9_firstBell_23 rfl ?_
      exact r_iret hV rfl dX9_firstBell_25 (ret_r h) (ret_m h)
    · have h := (if_neg c1).symm.trans h
      refine r_aload_n hV dX9_firstBell_8 rfl ?_
      obtain ⟨r2, M3, q4, h⟩ := bnd_some h
      refine r_cVi hV (m_X9_goes l D cI b FM _ _ q4) ml_X9_154 obM_0 rfl rfl (by decide) (Nat.le_of_ble_eq_true rfl) rfl dX9_firstBell_9 ?_
      refine r_ifeq hV 17 dX9_firstBell_12 rfl (fun c5 => ?_) (fun c5 => ?_)
      · have h := (if_pos c5).symm.trans h
        refine r_iinc (v := (1 : Int32)) hV dX9_firstBell_17 rfl rfl rfl ?_
        refine r_goto hV 2 dX9_firstBell_20 rfl ?_
        exact hk2 (x1 + (1 : Int32)) M3 h
      · have h := (if_neg c5).symm.trans h
        refine r_iload_n hV dX9_firstBell_15 rfl ?_
        exact r_iret hV rfl dX9_firstBell_16 (ret_r h) (ret_m h)
  have L2 : ∀ (nf : Nat) (x1 : Int32) (FM : FMem), X9_firstBell_b2 nf x1 FM = some (r0, FR) → V FM 2 [some (.ref (b + 0)), some (.int x1)] [] := by
    intro  nf
    induction nf with
    | zero => intro x1 FM h; exact absurd (show (none : Opt) = some (r0, FR) from h) (fun h9 => by cases h9)
    | succ nf ih => intro x1 FM h; exact B2 (X9_firstBell_b2 nf) ih x1 FM h
  unfold f_X9_firstBell at h
  refine r_iconst (v := (0 : Int32)) hV dX9_firstBell_0 rfl ?_
  refine r_istore_n hV dX9_firstBell_1 (Nat.le_of_ble_eq_true rfl) rfl ?_
  exact L2 FU (0 : Int32) FM h
def f_X9_bell (FM : FMem) : Opt :=
  bnd (f_X9_from 2 FM) fun r1 M2 =>
  bnd (f_X9_firstBell M2) fun r4 M5 =>
  some (r4, M5)
set_option maxHeartbeats 4000000 in
set_option maxRecDepth 100000 in
theorem m_X9_bell (l : Launch) (D : va_G) (cI : ClassId) (b : Nat) (FM : FMem) (r0 : Int32) (FR : FMem) (h : f_X9_bell FM = some (r0, FR)) : Mt l (wdM D cI b) yX9_bell cX9_bell 1 (some .int) 5 118 [.ref (b + 0)] FM (some (.int r0)) FR := by
  refine Mt.of (by decide) (cat_cons rfl cat_nil) [some (.ref (b + 0))] rfl (Nat.le_of_ble_eq_true rfl) (fun V hV => ?_)
  unfold f_X9_bell at h
  refine r_aload_n hV dX9_bell_0 rfl ?_
  refine r_aload_n hV dX9_bell_1 rfl ?_
  refine r_geto hV fl_X9_13 obM_0 rfl dX9_bell_2 ?_
  obtain ⟨r1, M2, q3, h⟩ := bnd_some h
  refine r_cVv hV (m_X9_from l D cI b 2 arM_2 FM _ _ q3) ml_X9_166 obM_0 rfl rfl (by decide) (Nat.le_of_ble_eq_true rfl) rfl dX9_bell_5 ?_
  refine r_aload_n hV dX9_bell_8 rfl ?_
  obtain ⟨r4, M5, q6, h⟩ := bnd_some h
  refine r_cVi hV (m_X9_firstBell l D cI b M2 _ _ q6) ml_X9_173 obM_0 rfl rfl (by decide) (Nat.le_of_ble_eq_true rfl) rfl dX9_bell_9 ?_
  exact r_iret hV rfl dX9_bell_12 (ret_r h) (ret_m h)
def X9_hides_b99 (k17 : Int32 → Int32 → Int32 → FMem → Opt) (x1 : Int32) (x2 : Int32) (x3 : Int32) (FM : FMem) : Opt :=
  k17 x1 x2 (x3 + (1 : Int32)) FM
def X9_hides_b98 (k17 : Int32 → Int32 → Int32 → FMem → Opt) (x1 : Int32) (x3 : Int32) (s0 : Int32) (FM : FMem) : Opt :=
  X9_hides_b99 k17 x1 s0 x3 FM
def X9_hides_b60 (k17 : Int32 → Int32 → Int32 → FMem → Opt) (x1 : Int32) (x2 : Int32) (x3 : Int32) (s0 : Int32) (FM : FMem) : Opt :=
  if s0 = 0 then (
    X9_hides_b99 k17 x1 x2 x3 FM
  ) else (
    bnd (f_X9_from 2 FM) fun r8 M9 =>
    bindm (fset M9 11 (3) ((M9 11 3) ||| x3)) fun M11 =>
    bnd (f_X9_goesOn x1 M11) fun r12 M13 =>
    if r12 = 0 then (
      X9_hides_b98 k17 x1 x3 x3 M13
    ) else (
      X9_hides_b98 k17 x1 x3 x2 M13
    )
  )
def X9_hides_b59 (k17 : Int32 → Int32 → Int32 → FMem → Opt) (x1 : Int32) (x2 : Int32) (x3 : Int32) (FM : FMem) : Opt :=
  X9_hides_b60 k17 x1 x2 x3 (0 : Int32) FM
def X9_hides_b55 (k17 : Int32 → Int32 → Int32 → FMem → Opt) (x1 : Int32) (x2 : Int32) (x3 : Int32) (FM : FMem) : Opt :=
  X9_hides_b60 k17 x1 x2 x3 (1 : Int32) FM
def X9_hides_b17s (k17 : Int32 → Int32 → Int32 → FMem → Opt) (x1 : Int32) (x2 : Int32) (x3 : Int32) (FM : FMem) : Opt :=
  if ((1 : Int32) <<< ((FM 2 2) &&& 31)) ≤ x3 then (
    some (x2, FM)
  ) else (
    if (x3 &&& (FM 2 3)) = 0 then (
      if x2 < 0 then (
        X9_hides_b55 k17 x1 x2 x3 FM
      ) else (
        bnd (f_X9_bits x3 FM) fun r17 M18 =>
        bnd (f_X9_bits x2 M18) fun r20 M21 =>
        if r20 ≤ r17 then (
          X9_hides_b59 k17 x1 x2 x3 M21
        ) else (
          X9_hides_b55 k17 x1 x2 x3 M21
        )
      )
    ) else (
      X9_hides_b59 k17 x1 x2 x3 FM
    )
  )
def X9_hides_b17 : Nat → Int32 → Int32 → Int32 → FMem → Opt
  | 0, _, _, _, _ => none
  | nf + 1, x1, x2, x3, FM => X9_hides_b17s (X9_hides_b17 nf) x1 x2 x3 FM
def f_X9_hides (a1 : Int32) (FM : FMem) : Opt :=
  bnd (f_X9_in a1 (1 : Int32) (40 : Int32) FM) fun r1 M2 =>
  if r1 = 0 then (
    some ((-1 : Int32), M2)
  ) else (
    X9_hides_b17 FU a1 (-4 : Int32) (0 : Int32) M2
  )
set_option maxHeartbeats 4000000 in
set_option maxRecDepth 100000 in
theorem m_X9_hides (l : Launch) (D : va_G) (cI : ClassId) (b : Nat) (a1 : Int32) (FM : FMem) (r0 : Int32) (FR : FMem) (h : f_X9_hides a1 FM = some (r0, FR)) : Mt l (wdM D cI b) yX9_hides cX9_hides 5 (some .int) 5 120 [.ref (b + 0), .int a1] FM (some (.int r0)) FR := by
  refine Mt.of (by decide) (cat_cons rfl (cat_cons rfl cat_nil)) [some (.ref (b + 0)), some (.int a1), none, none, none] rfl (Nat.le_of_ble_eq_true rfl) (fun V hV => ?_)
  have B99 : ∀ (k17 : Int32 → Int32 → Int32 → FMem → Opt) (hk17 : ∀ (x1 : Int32) (x2 : Int32) (x3 : Int32) (FM : FMem), k17 x1 x2 x3 FM = some (r0, FR) → V FM 17 [some (.ref (b + 0)), some (.int x1), some (.int x2), some (.int x3), none] []) (x1 : Int32) (x2 : Int32) (x3 : Int32) (FM : FMem), X9_hides_b99 k17 x1 x2 x3 FM = some (r0, FR) → V FM 99 [some (.ref (b + 0)), some (.int x1), some (.int x2), some (.int x3), none] [] := by
    intro k17 hk17 x1 x2 x3 FM h
    unfold X9_hides_b99 at h
    refine r_iinc (v := (1 : Int32)) hV dX9_hides_99 rfl rfl rfl ?_
    refine r_goto hV 17 dX9_hides_102 rfl ?_
    exact hk17 x1 x2 (x3 + (1 : Int32)) FM h
  have B98 : ∀ (k17 : Int32 → Int32 → Int32 → FMem → Opt) (hk17 : ∀ (x1 : Int32) (x2 : Int32) (x3 : Int32) (FM : FMem), k17 x1 x2 x3 FM = some (r0, FR) → V FM 17 [some (.ref (b + 0)), some (.int x1), some (.int x2), some (.int x3), none] []) (x1 : Int32) (x3 : Int32) (s0 : Int32) (FM : FMem), X9_hides_b98 k17 x1 x3 s0 FM = some (r0, FR) → V FM 98 [some (.ref (b + 0)), some (.int x1), none, some (.int x3), none] [.int s0] := by
    intro k17 hk17 x1 x3 s0 FM h
    unfold X9_hides_b98 at h
    refine r_istore_n hV dX9_hides_98 (Nat.le_of_ble_eq_true rfl) rfl ?_
    exact B99 k17 hk17 x1 s0 x3 FM h
  have B60 : ∀ (k17 : Int32 → Int32 → Int32 → FMem → Opt) (hk17 : ∀ (x1 : Int32) (x2 : Int32) (x3 : Int32) (FM : FMem), k17 x1 x2 x3 FM = some (r0, FR) → V FM 17 [some (.ref (b + 0)), some (.int x1), some (.int x2), some (.int x3), none] []) (x1 : Int32) (x2 : Int32) (x3 : Int32) (s0 : Int32) (FM : FMem), X9_hides_b60 k17 x1 x2 x3 s0 FM = some (r0, FR) → V FM 60 [some (.ref (b + 0)), some (.int x1), some (.int x2), some (.int x3), none] [.int s0] := by
    intro k17 hk17 x1 x2 x3 s0 FM h
    unfold X9_hides_b60 at h
    refine r_istore hV dX9_hides_60 (Nat.le_of_ble_eq_true rfl) rfl ?_
    refine r_iload hV dX9_hides_62 rfl ?_
    refine r_ifeq hV 99 dX9_hides_64 rfl (fun c7 => ?_) (fun c7 => ?_)
    · have h := (if_pos c7).symm.trans h
      refine r_mask hV [true, true, true, true, false] ?_
      exact B99 k17 hk17 x1 x2 x3 FM h
    · have h := (if_neg c7).symm.trans h
      refine r_aload_n hV dX9_hides_67 rfl ?_
      refine r_aload_n hV dX9_hides_68 rfl ?_
      refine r_geto hV fl_X9_13 obM_0 rfl dX9_hides_69 ?_
      obtain ⟨r8, M9, q10, h⟩ := bnd_some h
      refine r_cVv hV (m_X9_from l D cI b 2 arM_2 FM _ _ q10) ml_X9_166 obM_0 rfl rfl (by decide) (Nat.le_of_ble_eq_true rfl) rfl dX9_hides_72 ?_
      refine r_aload_n hV dX9_hides_75 rfl ?_
      refine r_geto hV fl_X9_40 obM_0 rfl dX9_hides_76 ?_
      refine r_iconst (v := (3 : Int32)) hV dX9_hides_79 rfl ?_
      refine r_dup2 hV dX9_hides_80 rfl rfl ?_
      refine r_ald hV arM_11 (inb_in rfl) (3) rfl dX9_hides_81 ?_
      refine r_iload_n hV dX9_hides_82 rfl ?_
      refine r_ior hV dX9_hides_83 ?_
      refine r_ast hV arM_11 (inb_in rfl) (3) rfl dX9_hides_84 ?_
      refine r_bm h (fun M11 h => ?_)
      refine r_aload_n hV dX9_hides_85 rfl ?_
      refine r_iload_n hV dX9_hides_86 rfl ?_
      obtain ⟨r12, M13, q14, h⟩ := bnd_some h
      refine r_cVi hV (m_X9_goesOn l D cI b x1 M11 _ _ q14) ml_X9_170 obM_0 rfl rfl (by decide) (Nat.le_of_ble_eq_true rfl) rfl dX9_hides_87 ?_
      refine r_ifne hV 97 dX9_hides_90 rfl (fun c15 => ?_) (fun c15 => ?_)
      · have h := (if_neg c15).symm.trans h
        refine r_iload_n hV dX9_hides_97 rfl ?_
        refine r_mask hV [true, true, false, true, false] ?_
        exact B98 k17 hk17 x1 x3 x2 M13 h
      · have h := (if_pos c15).symm.trans h
        refine r_iload_n hV dX9_hides_93 rfl ?_
        refine r_goto hV 98 dX9_hides_94 rfl ?_
        refine r_mask hV [true, true, false, true, false] ?_
        exact B98 k17 hk17 x1 x3 x3 M13 h
  have B59 : ∀ (k17 : Int32 → Int32 → Int32 → FMem → Opt) (hk17 : ∀ (x1 : Int32) (x2 : Int32) (x3 : Int32) (FM : FMem), k17 x1 x2 x3 FM = some (r0, FR) → V FM 17 [some (.ref (b + 0)), some (.int x1), some (.int x2), some (.int x3), none] []) (x1 : Int32) (x2 : Int32) (x3 : Int32) (FM : FMem), X9_hides_b59 k17 x1 x2 x3 FM = some (r0, FR) → V FM 59 [some (.ref (b + 0)), some (.int x1), some (.int x2), some (.int x3), none] [] := by
    intro k17 hk17 x1 x2 x3 FM h
    unfold X9_hides_b59 at h
    refine r_iconst (v := (0 : Int32)) hV dX9_hides_59 rfl ?_
    exact B60 k17 hk17 x1 x2 x3 (0 : Int32) FM h
  have B55 : ∀ (k17 : Int32 → Int32 → Int32 → FMem → Opt) (hk17 : ∀ (x1 : Int32) (x2 : Int32) (x3 : Int32) (FM : FMem), k17 x1 x2 x3 FM = some (r0, FR) → V FM 17 [some (.ref (b + 0)), some (.int x1), some (.int x2), some (.int x3), none] []) (x1 : Int32) (x2 : Int32) (x3 : Int32) (FM : FMem), X9_hides_b55 k17 x1 x2 x3 FM = some (r0, FR) → V FM 55 [some (.ref (b + 0)), some (.int x1), some (.int x2), some (.int x3), none] [] := by
    intro k17 hk17 x1 x2 x3 FM h
    unfold X9_hides_b55 at h
    refine r_iconst (v := (1 : Int32)) hV dX9_hides_55 rfl ?_
    refine r_goto hV 60 dX9_hides_56 rfl ?_
    exact B60 k17 hk17 x1 x2 x3 (1 : Int32) FM h
  have B17 : ∀ (k17 : Int32 → Int32 → Int32 → FMem → Opt) (hk17 : ∀ (x1 : Int32) (x2 : Int32) (x3 : Int32) (FM : FMem), k17 x1 x2 x3 FM = some (r0, FR) → V FM 17 [some (.ref (b + 0)), some (.int x1), some (.int x2), some (.int x3), none] []) (x1 : Int32) (x2 : Int32) (x3 : Int32) (FM : FMem), X9_hides_b17s k17 x1 x2 x3 FM = some (r0, FR) → V FM 17 [some (.ref (b + 0)), some (.int x1), some (.int x2), some (.int x3), none] [] := by
    intro k17 hk17 x1 x2 x3 FM h
    unfold X9_hides_b17s at h
    refine r_iload_n hV dX9_hides_17 rfl ?_
    refine r_iconst (v := (1 : Int32)) hV dX9_hides_18 rfl ?_
    refine r_aload_n hV dX9_hides_19 rfl ?_
    refine r_geto hV fl_X9_13 obM_0 rfl dX9_hides_20 ?_
    refine r_iconst (v := (2 : Int32)) hV dX9_hides_23 rfl ?_
    refine r_ald hV arM_2 (inb_in rfl) (2) rfl dX9_hides_24 ?_
    refine r_ishl hV dX9_hides_25 ?_
    refine r_icmpge hV 105 dX9_hides_26 rfl (fun c5 => ?_) (fun c5 => ?_)
    · have h := (if_pos c5).symm.trans h
      refine r_iload_n hV dX9_hides_105 rfl ?_
      exact r_iret hV rfl dX9_hides_106 (ret_r h) (ret_m h)
    · have h := (if_neg c5).symm.trans h
      refine r_iload_n hV dX9_hides_29 rfl ?_
      refine r_aload_n hV dX9_hides_30 rfl ?_
      refine r_geto hV fl_X9_13 obM_0 rfl dX9_hides_31 ?_
      refine r_iconst (v := (3 : Int32)) hV dX9_hides_34 rfl ?_
      refine r_ald hV arM_2 (inb_in rfl) (3) rfl dX9_hides_35 ?_
      refine r_iand hV dX9_hides_36 ?_
      refine r_ifne hV 59 dX9_hides_37 rfl (fun c6 => ?_) (fun c6 => ?_)
      · have h := (if_neg c6).symm.trans h
        exact B59 k17 hk17 x1 x2 x3 FM h
      · have h := (if_pos c6).symm.trans h
        refine r_iload_n hV dX9_hides_40 rfl ?_
        refine r_iflt hV 55 dX9_hides_41 rfl (fun c16 => ?_) (fun c16 => ?_)
        · have h := (if_pos c16).symm.trans h
          exact B55 k17 hk17 x1 x2 x3 FM h
        · have h := (if_neg c16).symm.trans h
          refine r_iload_n hV dX9_hides_44 rfl ?_
          obtain ⟨r17, M18, q19, h⟩ := bnd_some h
          refine r_cSi hV (m_X9_bits l D cI b x3 FM _ _ q19) ml_X9_133 rfl (by decide) (Nat.le_of_ble_eq_true rfl) rfl dX9_hides_45 ?_
          refine r_iload_n hV dX9_hides_48 rfl ?_
          obtain ⟨r20, M21, q22, h⟩ := bnd_some h
          refine r_cSi hV (m_X9_bits l D cI b x2 M18 _ _ q22) ml_X9_133 rfl (by decide) (Nat.le_of_ble_eq_true rfl) rfl dX9_hides_49 ?_
          refine r_icmpge hV 59 dX9_hides_52 rfl (fun c23 => ?_) (fun c23 => ?_)
          · have h := (if_pos c23).symm.trans h
            exact B59 k17 hk17 x1 x2 x3 M21 h
          · have h := (if_neg c23).symm.trans h
            exact B55 k17 hk17 x1 x2 x3 M21 h
  have L17 : ∀ (nf : Nat) (x1 : Int32) (x2 : Int32) (x3 : Int32) (FM : FMem), X9_hides_b17 nf x1 x2 x3 FM = some (r0, FR) → V FM 17 [some (.ref (b + 0)), some (.int x1), some (.int x2), some (.int x3), none] [] := by
    intro  nf
    induction nf with
    | zero => intro x1 x2 x3 FM h; exact absurd (show (none : Opt) = some (r0, FR) from h) (fun h9 => by cases h9)
    | succ nf ih => intro x1 x2 x3 FM h; exact B17 (X9_hides_b17 nf) ih x1 x2 x3 FM h
  unfold f_X9_hides at h
  refine r_iload_n hV dX9_hides_0 rfl ?_
  refine r_iconst (v := (1 : Int32)) hV dX9_hides_1 rfl ?_
  refine r_bipush (v := (40 : Int32)) hV dX9_hides_2 rfl ?_
  obtain ⟨r1, M2, q3, h⟩ := bnd_some h
  refine r_cSi hV (m_X9_in l D cI b a1 (1 : Int32) (40 : Int32) FM _ _ q3) ml_X9_70 rfl (by decide) (Nat.le_of_ble_eq_true rfl) rfl dX9_hides_4 ?_
  refine r_ifne hV 12 dX9_hides_7 rfl (fun c4 => ?_) (fun c4 => ?_)
  · have h := (if_neg c4).symm.trans h
    refine r_bipush (v := (-4 : Int32)) hV dX9_hides_12 rfl ?_
    refine r_istore_n hV dX9_hides_14 (Nat.le_of_ble_eq_true rfl) rfl ?_
    refine r_iconst (v := (0 : Int32)) hV dX9_hides_15 rfl ?_
    refine r_istore_n hV dX9_hides_16 (Nat.le_of_ble_eq_true rfl) rfl ?_
    exact L17 FU a1 (-4 : Int32) (0 : Int32) M2 h
  · have h := (if_pos c4).symm.trans h
    refine r_iconst (v := (-1 : Int32)) hV dX9_hides_10 rfl ?_
    exact r_iret hV rfl dX9_hides_11 (ret_r h) (ret_m h)
