def X9_reignsOn_b2s (k2 : Int32 → Int32 → FMem → Opt) (x1 : Int32) (x2 : Int32) (FM : FMem) : Opt :=
  if (40 : Int32) < x2 then (
    some ((41 : Int32), FM)
  ) else (
    if (FM 11 4) = x1 then (
      some (x2, FM)
    ) else (
      bnd (f_X9_goes FM) fun r3 M4 =>
      k2 x1 (x2 + (1 : Int32)) M4
    )
  )
def X9_reignsOn_b2 : Nat → Int32 → Int32 → FMem → Opt
  | 0, _, _, _ => none
  | nf + 1, x1, x2, FM => X9_reignsOn_b2s (X9_reignsOn_b2 nf) x1 x2 FM
def f_X9_reignsOn (a1 : Int32) (FM : FMem) : Opt :=
  X9_reignsOn_b2 FU a1 (0 : Int32) FM
set_option maxHeartbeats 4000000 in
set_option maxRecDepth 100000 in
theorem m_X9_reignsOn (l : Launch) (D : va_G) (cI : ClassId) (b : Nat) (a1 : Int32) (FM : FMem) (r0 : Int32) (FR : FMem) (h : f_X9_reignsOn a1 FM = some (r0, FR)) : Mt l (wdM D cI b) yX9_reignsOn cX9_reignsOn 3 (some .int) 4 97 [.ref (b + 0), .int a1] FM (some (.int r0)) FR := by
  refine Mt.of (by decide) (cat_cons rfl (cat_cons rfl cat_nil)) [some (.ref (b + 0)), some (.int a1), none] rfl (Nat.le_of_ble_eq_true rfl) (fun V hV => ?_)
  have B2 : ∀ (k2 : Int32 → Int32 → FMem → Opt) (hk2 : ∀ (x1 : Int32) (x2 : Int32) (FM : FMem), k2 x1 x2 FM = some (r0, FR) → V FM 2 [some (.ref (b + 0)), some (.int x1), some (.int x2)] []) (x1 : Int32) (x2 : Int32) (FM : FMem), X9_reignsOn_b2s k2 x1 x2 FM = some (r0, FR) → V FM 2 [some (.ref (b + 0)), some (.int x1), some (.int x2)] [] := by
    intro k2 hk2 x1 x2 FM h
    unfold X9_reignsOn_b2s at h
    refine r_iload_n hV dX9_reignsOn_2 rfl ?_
    refine r_bipush (v := (40 : Int32)) hV dX9_reignsOn_3 rfl ?_
    refine r_icmpgt hV 31 dX9_reignsOn_5 rfl (fun c1 => ?_) (fun c1 => ?_)
    · have h := (if_pos c1).symm.trans h
      refine r_bipush (v := (41 : Int32)) hV dX9_reignsOn_31 rfl ?_
      exact r_iret hV rfl dX9_reignsOn_33 (ret_r h) (ret_m h)
    · have h := (if_neg c1).symm.trans h
      refine r_aload_n hV dX9_reignsOn_8 rfl ?_
      refine r_geto hV fl_X9_40 obM_0 rfl dX9_reignsOn_9 ?_
      refine r_iconst (v := (4 : Int32)) hV dX9_reignsOn_12 rfl ?_
      refine r_ald hV arM_11 (inb_in rfl) (4) rfl dX9_reignsOn_13 ?_
      refine r_iload_n hV dX9_reignsOn_14 rfl ?_
      refine r_icmpne hV 20 dX9_reignsOn_15 rfl (fun c2 => ?_) (fun c2 => ?_)
      · have h := (if_neg c2).symm.trans h
        refine r_aload_n hV dX9_reignsOn_20 rfl ?_
        obtain ⟨r3, M4, q5, h⟩ := bnd_some h
        refine r_cVi hV (m_X9_goes l D cI b FM _ _ q5) ml_X9_154 obM_0 rfl rfl (by decide) (Nat.le_of_ble_eq_true rfl) rfl dX9_reignsOn_21 ?_
        refine r_pop hV dX9_reignsOn_24 rfl ?_
        refine r_iinc (v := (1 : Int32)) hV dX9_reignsOn_25 rfl rfl rfl ?_
        refine r_goto hV 2 dX9_reignsOn_28 rfl ?_
        exact hk2 x1 (x2 + (1 : Int32)) M4 h
      · have h := (if_pos c2).symm.trans h
        refine r_iload_n hV dX9_reignsOn_18 rfl ?_
        exact r_iret hV rfl dX9_reignsOn_19 (ret_r h) (ret_m h)
  have L2 : ∀ (nf : Nat) (x1 : Int32) (x2 : Int32) (FM : FMem), X9_reignsOn_b2 nf x1 x2 FM = some (r0, FR) → V FM 2 [some (.ref (b + 0)), some (.int x1), some (.int x2)] [] := by
    intro  nf
    induction nf with
    | zero => intro x1 x2 FM h; exact absurd (show (none : Opt) = some (r0, FR) from h) (fun h9 => by cases h9)
    | succ nf ih => intro x1 x2 FM h; exact B2 (X9_reignsOn_b2 nf) ih x1 x2 FM h
  unfold f_X9_reignsOn at h
  refine r_iconst (v := (0 : Int32)) hV dX9_reignsOn_0 rfl ?_
  refine r_istore_n hV dX9_reignsOn_1 (Nat.le_of_ble_eq_true rfl) rfl ?_
  exact L2 FU a1 (0 : Int32) FM h
def X9_raise_b127 (k41 : Int32 → Int32 → Int32 → Int32 → Int32 → FMem → Opt) (x1 : Int32) (x2 : Int32) (x3 : Int32) (x5 : Int32) (s0 : Int32) (FM : FMem) : Opt :=
  k41 x1 x2 x3 s0 (x5 + (1 : Int32)) FM
def X9_raise_b112 (k41 : Int32 → Int32 → Int32 → Int32 → Int32 → FMem → Opt) (x1 : Int32) (x2 : Int32) (x4 : Int32) (x5 : Int32) (x6 : Int32) (s0 : Int32) (FM : FMem) : Opt :=
  if x4 ≤ x6 then (
    X9_raise_b127 k41 x1 x2 s0 x5 x4 FM
  ) else (
    X9_raise_b127 k41 x1 x2 s0 x5 x6 FM
  )
def X9_raise_b41s (k41 : Int32 → Int32 → Int32 → Int32 → Int32 → FMem → Opt) (x1 : Int32) (x2 : Int32) (x3 : Int32) (x4 : Int32) (x5 : Int32) (FM : FMem) : Opt :=
  if (100 : Int32) ≤ x5 then (
    if x4 ≤ (40 : Int32) then (
      if x2 = 0 then (
        some (x3, FM)
      ) else (
        some (x4, FM)
      )
    ) else (
      some ((-4 : Int32), FM)
    )
  ) else (
    bnd (f_X9_from 2 FM) fun r18 M19 =>
    bnd (f_X9_addsThing 11 ((M19 2 0) + (x5 / (5 : Int32))) ((1 : Int32) <<< ((x5 - x5 / (5 : Int32) * (5 : Int32)) &&& 31)) (9 : Int32) M19) fun r21 M22 =>
    bnd (f_X9_reignsOn x1 M22) fun r24 M25 =>
    if x4 ≤ r24 then (
      X9_raise_b112 k41 x1 x2 x4 x5 r24 x3 M25
    ) else (
      X9_raise_b112 k41 x1 x2 x4 x5 r24 (((10 : Int32) * (x5 / (5 : Int32))) + (x5 - x5 / (5 : Int32) * (5 : Int32))) M25
    )
  )
def X9_raise_b41 : Nat → Int32 → Int32 → Int32 → Int32 → Int32 → FMem → Opt
  | 0, _, _, _, _, _, _ => none
  | nf + 1, x1, x2, x3, x4, x5, FM => X9_raise_b41s (X9_raise_b41 nf) x1 x2 x3 x4 x5 FM
def f_X9_raise (a1 a2 : Int32) (FM : FMem) : Opt :=
  bnd (f_X9_isPerson a1 FM) fun r1 M2 =>
  if r1 = 0 then (
    some ((-1 : Int32), M2)
  ) else (
    bnd (f_X9_in a2 (0 : Int32) (1 : Int32) M2) fun r5 M6 =>
    if r5 = 0 then (
      some ((-1 : Int32), M6)
    ) else (
      bnd (f_X9_from 2 M6) fun r9 M10 =>
      bnd (f_X9_reignsOn a1 M10) fun r12 M13 =>
      X9_raise_b41 FU a1 a2 (1000 : Int32) r12 (0 : Int32) M13
    )
  )
set_option maxHeartbeats 4000000 in
set_option maxRecDepth 100000 in
theorem m_X9_raise (l : Launch) (D : va_G) (cI : ClassId) (b : Nat) (a1 a2 : Int32) (FM : FMem) (r0 : Int32) (FR : FMem) (h : f_X9_raise a1 a2 FM = some (r0, FR)) : Mt l (wdM D cI b) yX9_raise cX9_raise 7 (some .int) 5 119 [.ref (b + 0), .int a1, .int a2] FM (some (.int r0)) FR := by
  refine Mt.of (by decide) (cat_cons rfl (cat_cons rfl (cat_cons rfl cat_nil))) [some (.ref (b + 0)), some (.int a1), some (.int a2), none, none, none, none] rfl (Nat.le_of_ble_eq_true rfl) (fun V hV => ?_)
  have B127 : ∀ (k41 : Int32 → Int32 → Int32 → Int32 → Int32 → FMem → Opt) (hk41 : ∀ (x1 : Int32) (x2 : Int32) (x3 : Int32) (x4 : Int32) (x5 : Int32) (FM : FMem), k41 x1 x2 x3 x4 x5 FM = some (r0, FR) → V FM 41 [some (.ref (b + 0)), some (.int x1), some (.int x2), some (.int x3), some (.int x4), some (.int x5), none] []) (x1 : Int32) (x2 : Int32) (x3 : Int32) (x5 : Int32) (s0 : Int32) (FM : FMem), X9_raise_b127 k41 x1 x2 x3 x5 s0 FM = some (r0, FR) → V FM 127 [some (.ref (b + 0)), some (.int x1), some (.int x2), some (.int x3), none, some (.int x5), none] [.int s0] := by
    intro k41 hk41 x1 x2 x3 x5 s0 FM h
    unfold X9_raise_b127 at h
    refine r_istore hV dX9_raise_127 (Nat.le_of_ble_eq_true rfl) rfl ?_
    refine r_iinc (v := (1 : Int32)) hV dX9_raise_129 rfl rfl rfl ?_
    refine r_goto hV 41 dX9_raise_132 rfl ?_
    exact hk41 x1 x2 x3 s0 (x5 + (1 : Int32)) FM h
  have B112 : ∀ (k41 : Int32 → Int32 → Int32 → Int32 → Int32 → FMem → Opt) (hk41 : ∀ (x1 : Int32) (x2 : Int32) (x3 : Int32) (x4 : Int32) (x5 : Int32) (FM : FMem), k41 x1 x2 x3 x4 x5 FM = some (r0, FR) → V FM 41 [some (.ref (b + 0)), some (.int x1), some (.int x2), some (.int x3), some (.int x4), some (.int x5), none] []) (x1 : Int32) (x2 : Int32) (x4 : Int32) (x5 : Int32) (x6 : Int32) (s0 : Int32) (FM : FMem), X9_raise_b112 k41 x1 x2 x4 x5 x6 s0 FM = some (r0, FR) → V FM 112 [some (.ref (b + 0)), some (.int x1), some (.int x2), none, some (.int x4), some (.int x5), some (.int x6)] [.int s0] := by
    intro k41 hk41 x1 x2 x4 x5 x6 s0 FM h
    unfold X9_raise_b112 at h
    refine r_istore_n hV dX9_raise_112 (Nat.le_of_ble_eq_true rfl) rfl ?_
    refine r_iload hV dX9_raise_113 rfl ?_
    refine r_iload hV dX9_raise_115 rfl ?_
    refine r_icmpge hV 125 dX9_raise_117 rfl (fun c28 => ?_) (fun c28 => ?_)
    · have h := (if_pos c28).symm.trans h
      refine r_iload hV dX9_raise_125 rfl ?_
      refine r_mask hV [true, true, true, true, false, true, false] ?_
      exact B127 k41 hk41 x1 x2 s0 x5 x4 FM h
    · have h := (if_neg c28).symm.trans h
      refine r_iload hV dX9_raise_120 rfl ?_
      refine r_goto hV 127 dX9_raise_122 rfl ?_
      refine r_mask hV [true, true, true, true, false, true, false] ?_
      exact B127 k41 hk41 x1 x2 s0 x5 x6 FM h
  have B41 : ∀ (k41 : Int32 → Int32 → Int32 → Int32 → Int32 → FMem → Opt) (hk41 : ∀ (x1 : Int32) (x2 : Int32) (x3 : Int32) (x4 : Int32) (x5 : Int32) (FM : FMem), k41 x1 x2 x3 x4 x5 FM = some (r0, FR) → V FM 41 [some (.ref (b + 0)), some (.int x1), some (.int x2), some (.int x3), some (.int x4), some (.int x5), none] []) (x1 : Int32) (x2 : Int32) (x3 : Int32) (x4 : Int32) (x5 : Int32) (FM : FMem), X9_raise_b41s k41 x1 x2 x3 x4 x5 FM = some (r0, FR) → V FM 41 [some (.ref (b + 0)), some (.int x1), some (.int x2), some (.int x3), some (.int x4), some (.int x5), none] [] := by
    intro k41 hk41 x1 x2 x3 x4 x5 FM h
    unfold X9_raise_b41s at h
    refine r_iload hV dX9_raise_41 rfl ?_
    refine r_bipush (v := (100 : Int32)) hV dX9_raise_43 rfl ?_
    refine r_icmpge hV 135 dX9_raise_45 rfl (fun c15 => ?_) (fun c15 => ?_)
    · have h := (if_pos c15).symm.trans h
      refine r_iload hV dX9_raise_135 rfl ?_
      refine r_bipush (v := (40 : Int32)) hV dX9_raise_137 rfl ?_
      refine r_icmple hV 147 dX9_raise_139 rfl (fun c16 => ?_) (fun c16 => ?_)
      · have h := (if_pos c16).symm.trans h
        refine r_iload_n hV dX9_raise_147 rfl ?_
        refine r_ifne hV 155 dX9_raise_148 rfl (fun c17 => ?_) (fun c17 => ?_)
        · have h := (if_neg c17).symm.trans h
          refine r_iload hV dX9_raise_155 rfl ?_
          exact r_iret hV rfl dX9_raise_157 (ret_r h) (ret_m h)
        · have h := (if_pos c17).symm.trans h
          refine r_iload_n hV dX9_raise_151 rfl ?_
          refine r_goto hV 157 dX9_raise_152 rfl ?_
          exact r_iret hV rfl dX9_raise_157 (ret_r h) (ret_m h)
      · have h := (if_neg c16).symm.trans h
        refine r_bipush (v := (-4 : Int32)) hV dX9_raise_142 rfl ?_
        refine r_goto hV 157 dX9_raise_144 rfl ?_
        exact r_iret hV rfl dX9_raise_157 (ret_r h) (ret_m h)
    · have h := (if_neg c15).symm.trans h
      refine r_aload_n hV dX9_raise_48 rfl ?_
      refine r_aload_n hV dX9_raise_49 rfl ?_
      refine r_geto hV fl_X9_13 obM_0 rfl dX9_raise_50 ?_
      obtain ⟨r18, M19, q20, h⟩ := bnd_some h
      refine r_cVv hV (m_X9_from l D cI b 2 arM_2 FM _ _ q20) ml_X9_166 obM_0 rfl rfl (by decide) (Nat.le_of_ble_eq_true rfl) rfl dX9_raise_53 ?_
      refine r_aload_n hV dX9_raise_56 rfl ?_
      refine r_geto hV fl_X9_40 obM_0 rfl dX9_raise_57 ?_
      refine r_aload_n hV dX9_raise_60 rfl ?_
      refine r_geto hV fl_X9_13 obM_0 rfl dX9_raise_61 ?_
      refine r_iconst (v := (0 : Int32)) hV dX9_raise_64 rfl ?_
      refine r_ald hV arM_2 (inb_in rfl) (0) rfl dX9_raise_65 ?_
      refine r_iload hV dX9_raise_66 rfl ?_
      refine r_iconst (v := (5 : Int32)) hV dX9_raise_68 rfl ?_
      refine r_idiv hV dX9_raise_69 (by decide) ?_
      refine r_iadd hV dX9_raise_70 ?_
      refine r_iconst (v := (1 : Int32)) hV dX9_raise_71 rfl ?_
      refine r_iload hV dX9_raise_72 rfl ?_
      refine r_iconst (v := (5 : Int32)) hV dX9_raise_74 rfl ?_
      refine r_irem hV dX9_raise_75 (by decide) ?_
      refine r_ishl hV dX9_raise_76 ?_
      refine r_bipush (v := (9 : Int32)) hV dX9_raise_77 rfl ?_
      obtain ⟨r21, M22, q23, h⟩ := bnd_some h
      refine r_cSv hV (m_X9_addsThing l D cI b 11 arM_11 ((M19 2 0) + (x5 / (5 : Int32))) ((1 : Int32) <<< ((x5 - x5 / (5 : Int32) * (5 : Int32)) &&& 31)) (9 : Int32) M19 _ _ q23) ml_X9_56 rfl (by decide) (Nat.le_of_ble_eq_true rfl) rfl dX9_raise_79 ?_
      refine r_aload_n hV dX9_raise_82 rfl ?_
      refine r_iload_n hV dX9_raise_83 rfl ?_
      obtain ⟨r24, M25, q26, h⟩ := bnd_some h
      refine r_cVi hV (m_X9_reignsOn l D cI b x1 M22 _ _ q26) ml_X9_176 obM_0 rfl rfl (by decide) (Nat.le_of_ble_eq_true rfl) rfl dX9_raise_84 ?_
      refine r_istore hV dX9_raise_87 (Nat.le_of_ble_eq_true rfl) rfl ?_
      refine r_iload hV dX9_raise_89 rfl ?_
      refine r_iload hV dX9_raise_91 rfl ?_
      refine r_icmpge hV 111 dX9_raise_93 rfl (fun c27 => ?_) (fun c27 => ?_)
      · have h := (if_pos c27).symm.trans h
        refine r_iload_n hV dX9_raise_111 rfl ?_
        refine r_mask hV [true, true, true, false, true, true, true] ?_
        exact B112 k41 hk41 x1 x2 x4 x5 r24 x3 M25 h
      · have h := (if_neg c27).symm.trans h
        refine r_bipush (v := (10 : Int32)) hV dX9_raise_96 rfl ?_
        refine r_iload hV dX9_raise_98 rfl ?_
        refine r_iconst (v := (5 : Int32)) hV dX9_raise_100 rfl ?_
        refine r_idiv hV dX9_raise_101 (by decide) ?_
        refine r_imul hV dX9_raise_102 ?_
        refine r_iload hV dX9_raise_103 rfl ?_
        refine r_iconst (v := (5 : Int32)) hV dX9_raise_105 rfl ?_
        refine r_irem hV dX9_raise_106 (by decide) ?_
        refine r_iadd hV dX9_raise_107 ?_
        refine r_goto hV 112 dX9_raise_108 rfl ?_
        refine r_mask hV [true, true, true, false, true, true, true] ?_
        exact B112 k41 hk41 x1 x2 x4 x5 r24 (((10 : Int32) * (x5 / (5 : Int32))) + (x5 - x5 / (5 : Int32) * (5 : Int32))) M25 h
  have L41 : ∀ (nf : Nat) (x1 : Int32) (x2 : Int32) (x3 : Int32) (x4 : Int32) (x5 : Int32) (FM : FMem), X9_raise_b41 nf x1 x2 x3 x4 x5 FM = some (r0, FR) → V FM 41 [some (.ref (b + 0)), some (.int x1), some (.int x2), some (.int x3), some (.int x4), some (.int x5), none] [] := by
    intro  nf
    induction nf with
    | zero => intro x1 x2 x3 x4 x5 FM h; exact absurd (show (none : Opt) = some (r0, FR) from h) (fun h9 => by cases h9)
    | succ nf ih => intro x1 x2 x3 x4 x5 FM h; exact B41 (X9_raise_b41 nf) ih x1 x2 x3 x4 x5 FM h
  unfold f_X9_raise at h
  refine r_aload_n hV dX9_raise_0 rfl ?_
  refine r_iload_n hV dX9_raise_1 rfl ?_
  obtain ⟨r1, M2, q3, h⟩ := bnd_some h
  refine r_cVi hV (m_X9_isPerson l D cI b a1 FM _ _ q3) ml_X9_157 obM_0 rfl rfl (by decide) (Nat.le_of_ble_eq_true rfl) rfl dX9_raise_2 ?_
  refine r_ifeq hV 17 dX9_raise_5 rfl (fun c4 => ?_) (fun c4 => ?_)
  · have h := (if_pos c4).symm.trans h
    refine r_iconst (v := (-1 : Int32)) hV dX9_raise_17 rfl ?_
    exact r_iret hV rfl dX9_raise_18 (ret_r h) (ret_m h)
  · have h := (if_neg c4).symm.trans h
    refine r_iload_n hV dX9_raise_8 rfl ?_
    refine r_iconst (v := (0 : Int32)) hV dX9_raise_9 rfl ?_
    refine r_iconst (v := (1 : Int32)) hV dX9_raise_10 rfl ?_
    obtain ⟨r5, M6, q7, h⟩ := bnd_some h
    refine r_cSi hV (m_X9_in l D cI b a2 (0 : Int32) (1 : Int32) M2 _ _ q7) ml_X9_70 rfl (by decide) (Nat.le_of_ble_eq_true rfl) rfl dX9_raise_11 ?_
    refine r_ifne hV 19 dX9_raise_14 rfl (fun c8 => ?_) (fun c8 => ?_)
    · have h := (if_neg c8).symm.trans h
      refine r_aload_n hV dX9_raise_19 rfl ?_
      refine r_aload_n hV dX9_raise_20 rfl ?_
      refine r_geto hV fl_X9_13 obM_0 rfl dX9_raise_21 ?_
      obtain ⟨r9, M10, q11, h⟩ := bnd_some h
      refine r_cVv hV (m_X9_from l D cI b 2 arM_2 M6 _ _ q11) ml_X9_166 obM_0 rfl rfl (by decide) (Nat.le_of_ble_eq_true rfl) rfl dX9_raise_24 ?_
      refine r_sipush (v := (1000 : Int32)) hV dX9_raise_27 rfl ?_
      refine r_istore_n hV dX9_raise_30 (Nat.le_of_ble_eq_true rfl) rfl ?_
      refine r_aload_n hV dX9_raise_31 rfl ?_
      refine r_iload_n hV dX9_raise_32 rfl ?_
      obtain ⟨r12, M13, q14, h⟩ := bnd_some h
      refine r_cVi hV (m_X9_reignsOn l D cI b a1 M10 _ _ q14) ml_X9_176 obM_0 rfl rfl (by decide) (Nat.le_of_ble_eq_true rfl) rfl dX9_raise_33 ?_
      refine r_istore hV dX9_raise_36 (Nat.le_of_ble_eq_true rfl) rfl ?_
      refine r_iconst (v := (0 : Int32)) hV dX9_raise_38 rfl ?_
      refine r_istore hV dX9_raise_39 (Nat.le_of_ble_eq_true rfl) rfl ?_
      exact L41 FU a1 a2 (1000 : Int32) r12 (0 : Int32) M13 h
    · have h := (if_pos c8).symm.trans h
      refine r_iconst (v := (-1 : Int32)) hV dX9_raise_17 rfl ?_
      exact r_iret hV rfl dX9_raise_18 (ret_r h) (ret_m h)
def X9_isOrder_b12s (k12 : Int32 → Int32 → Int32 → FMem → Opt) (x2 : Int32) (x3 : Int32) (x4 : Int32) (FM : FMem) : Opt :=
  if x4 < 0 then (
    if x3 = (((1 : Int32) <<< ((FM 0 0) &&& 31)) - (1 : Int32)) then (
      some ((1 : Int32), FM)
    ) else (
      some ((0 : Int32), FM)
    )
  ) else (
    grd (nz (FM 0 0)) <|
    grd (inb x4 6) <|
    bindm (fset FM 12 ((x4).toNatClampNeg) (x2 - x2 / (FM 0 0) * (FM 0 0))) fun M6 =>
    grd (nz (M6 0 0)) <|
    bindv (x2 / (M6 0 0)) fun v8 =>
    grd (inb x4 6) <|
    bindv (x3 ||| ((1 : Int32) <<< ((M6 12 ((x4).toNatClampNeg)) &&& 31))) fun v10 =>
    k12 v8 v10 (x4 + (-1 : Int32)) M6
  )
def X9_isOrder_b12 : Nat → Int32 → Int32 → Int32 → FMem → Opt
  | 0, _, _, _, _ => none
  | nf + 1, x2, x3, x4, FM => X9_isOrder_b12s (X9_isOrder_b12 nf) x2 x3 x4 FM
def f_X9_isOrder (a1 : Int32) (FM : FMem) : Opt :=
  bindv ((FM 0 0) - (1 : Int32)) fun v1 =>
  X9_isOrder_b12 FU a1 (0 : Int32) v1 FM
set_option maxHeartbeats 4000000 in
set_option maxRecDepth 100000 in
theorem m_X9_isOrder (l : Launch) (D : va_G) (cI : ClassId) (b : Nat) (a1 : Int32) (FM : FMem) (r0 : Int32) (FR : FMem) (h : f_X9_isOrder a1 FM = some (r0, FR)) : Mt l (wdM D cI b) yX9_isOrder cX9_isOrder 5 (some .boolean) 0 0 [.ref (b + 0), .int a1] FM (some (.int r0)) FR := by
  refine Mt.of (by decide) (cat_cons rfl (cat_cons rfl cat_nil)) [some (.ref (b + 0)), some (.int a1), none, none, none] rfl (Nat.le_of_ble_eq_true rfl) (fun V hV => ?_)
  have B12 : ∀ (k12 : Int32 → Int32 → Int32 → FMem → Opt) (hk12 : ∀ (x2 : Int32) (x3 : Int32) (x4 : Int32) (FM : FMem), k12 x2 x3 x4 FM = some (r0, FR) → V FM 12 [some (.ref (b + 0)), none, some (.int x2), some (.int x3), some (.int x4)] []) (x2 : Int32) (x3 : Int32) (x4 : Int32) (FM : FMem), X9_isOrder_b12s k12 x2 x3 x4 FM = some (r0, FR) → V FM 12 [some (.ref (b + 0)), none, some (.int x2), some (.int x3), some (.int x4)] [] := by
    intro k12 hk12 x2 x3 x4 FM h
    unfold X9_isOrder_b12s at h
    refine r_iload hV dX9_isOrder_12 rfl ?_
    refine r_iflt hV 55 dX9_isOrder_14 rfl (fun c2 => ?_) (fun c2 => ?_)
    · have h := (if_pos c2).symm.trans h
      refine r_iload_n hV dX9_isOrder_55 rfl ?_
      refine r_iconst (v := (1 : Int32)) hV dX9_isOrder_56 rfl ?_
      refine r_aload_n hV dX9_isOrder_57 rfl ?_
      refine r_geto hV fl_X9_67 obM_0 rfl dX9_isOrder_58 ?_
      refine r_ishl hV dX9_isOrder_61 ?_
      refine r_iconst (v := (1 : Int32)) hV dX9_isOrder_62 rfl ?_
      refine r_isub hV dX9_isOrder_63 ?_
      refine r_icmpne hV 71 dX9_isOrder_64 rfl (fun c3 => ?_) (fun c3 => ?_)
      · have h := (if_neg c3).symm.trans h
        refine r_iconst (v := (0 : Int32)) hV dX9_isOrder_71 rfl ?_
        exact r_zret hV rfl (Or.inl rfl) dX9_isOrder_72 (ret_r h) (ret_m h)
      · have h := (if_pos c3).symm.trans h
        refine r_iconst (v := (1 : Int32)) hV dX9_isOrder_67 rfl ?_
        refine r_goto hV 72 dX9_isOrder_68 rfl ?_
        exact r_zret hV rfl (Or.inr rfl) dX9_isOrder_72 (ret_r h) (ret_m h)
    · have h := (if_neg c2).symm.trans h
      refine r_aload_n hV dX9_isOrder_17 rfl ?_
      refine r_geto hV fl_X9_43 obM_0 rfl dX9_isOrder_18 ?_
      refine r_iload hV dX9_isOrder_21 rfl ?_
      refine r_iload_n hV dX9_isOrder_23 rfl ?_
      refine r_aload_n hV dX9_isOrder_24 rfl ?_
      refine r_geto hV fl_X9_67 obM_0 rfl dX9_isOrder_25 ?_
      obtain ⟨g4, h⟩ := grd_some h
      refine r_irem hV dX9_isOrder_28 (nz_ne g4) ?_
      obtain ⟨g5, h⟩ := grd_some h
      refine r_ast hV arM_12 (inb_in g5) ((x4).toNatClampNeg) rfl dX9_isOrder_29 ?_
      refine r_bm h (fun M6 h => ?_)
      refine r_iload_n hV dX9_isOrder_30 rfl ?_
      refine r_aload_n hV dX9_isOrder_31 rfl ?_
      refine r_geto hV fl_X9_67 obM_0 rfl dX9_isOrder_32 ?_
      obtain ⟨g7, h⟩ := grd_some h
      refine r_idiv hV dX9_isOrder_35 (nz_ne g7) ?_
      refine r_bv h (fun v8 h => ?_)
      refine r_istore_n hV dX9_isOrder_36 (Nat.le_of_ble_eq_true rfl) rfl ?_
      refine r_iload_n hV dX9_isOrder_37 rfl ?_
      refine r_iconst (v := (1 : Int32)) hV dX9_isOrder_38 rfl ?_
      refine r_aload_n hV dX9_isOrder_39 rfl ?_
      refine r_geto hV fl_X9_43 obM_0 rfl dX9_isOrder_40 ?_
      refine r_iload hV dX9_isOrder_43 rfl ?_
      obtain ⟨g9, h⟩ := grd_some h
      refine r_ald hV arM_12 (inb_in g9) ((x4).toNatClampNeg) rfl dX9_isOrder_45 ?_
      refine r_ishl hV dX9_isOrder_46 ?_
      refine r_ior hV dX9_isOrder_47 ?_
      refine r_bv h (fun v10 h => ?_)
      refine r_istore_n hV dX9_isOrder_48 (Nat.le_of_ble_eq_true rfl) rfl ?_
      refine r_iinc (v := (-1 : Int32)) hV dX9_isOrder_49 rfl rfl rfl ?_
      refine r_goto hV 12 dX9_isOrder_52 rfl ?_
      exact hk12 v8 v10 (x4 + (-1 : Int32)) M6 h
  have L12 : ∀ (nf : Nat) (x2 : Int32) (x3 : Int32) (x4 : Int32) (FM : FMem), X9_isOrder_b12 nf x2 x3 x4 FM = some (r0, FR) → V FM 12 [some (.ref (b + 0)), none, some (.int x2), some (.int x3), some (.int x4)] [] := by
    intro  nf
    induction nf with
    | zero => intro x2 x3 x4 FM h; exact absurd (show (none : Opt) = some (r0, FR) from h) (fun h9 => by cases h9)
    | succ nf ih => intro x2 x3 x4 FM h; exact B12 (X9_isOrder_b12 nf) ih x2 x3 x4 FM h
  unfold f_X9_isOrder at h
  refine r_iload_n hV dX9_isOrder_0 rfl ?_
  refine r_istore_n hV dX9_isOrder_1 (Nat.le_of_ble_eq_true rfl) rfl ?_
  refine r_iconst (v := (0 : Int32)) hV dX9_isOrder_2 rfl ?_
  refine r_istore_n hV dX9_isOrder_3 (Nat.le_of_ble_eq_true rfl) rfl ?_
  refine r_aload_n hV dX9_isOrder_4 rfl ?_
  refine r_geto hV fl_X9_67 obM_0 rfl dX9_isOrder_5 ?_
  refine r_iconst (v := (1 : Int32)) hV dX9_isOrder_8 rfl ?_
  refine r_isub hV dX9_isOrder_9 ?_
  refine r_bv h (fun v1 h => ?_)
  refine r_istore hV dX9_isOrder_10 (Nat.le_of_ble_eq_true rfl) rfl ?_
  refine r_mask hV [true, false, true, true, true] ?_
  exact L12 FU a1 (0 : Int32) v1 FM h
def X9_order_b168 (k59 : Int32 → Int32 → Int32 → Int32 → Int32 → FMem → Opt) (x1 : Int32) (x2 : Int32) (x3 : Int32) (x4 : Int32) (x5 : Int32) (FM : FMem) : Opt :=
  k59 x1 x2 x3 x4 (x5 + (1 : Int32)) FM
def X9_order_b148 (k59 : Int32 → Int32 → Int32 → Int32 → Int32 → FMem → Opt) (x1 : Int32) (x2 : Int32) (x3 : Int32) (x5 : Int32) (x6 : Int32) (FM : FMem) : Opt :=
  bnd (f_X9_put 13 6 12 6 (0 : Int32) (FM 0 0) FM) fun r30 M31 =>
  X9_order_b168 k59 x1 x2 x3 x6 x5 M31
def X9_order_b128 (k59 : Int32 → Int32 → Int32 → Int32 → Int32 → FMem → Opt) (x1 : Int32) (x2 : Int32) (x3 : Int32) (x4 : Int32) (x5 : Int32) (s1 : Int32) (s2 : Int32) (FM : FMem) : Opt :=
  grd (inb s1 46) <|
  bindm (fset FM 11 ((s1).toNatClampNeg) s2) fun M25 =>
  bnd (f_X9_goesOn x1 M25) fun r26 M27 =>
  if x4 < 0 then (
    X9_order_b148 k59 x1 x2 x3 x5 r26 M27
  ) else (
    if x4 ≤ r26 then (
      X9_order_b168 k59 x1 x2 x3 x4 x5 M27
    ) else (
      X9_order_b148 k59 x1 x2 x3 x5 r26 M27
    )
  )
def X9_order_b59s (k59 : Int32 → Int32 → Int32 → Int32 → Int32 → FMem → Opt) (x1 : Int32) (x2 : Int32) (x3 : Int32) (x4 : Int32) (x5 : Int32) (FM : FMem) : Opt :=
  if x3 ≤ x5 then (
    if 0 ≤ x2 then (
      grd (inb x2 6) <|
      some ((FM 13 ((x2).toNatClampNeg)), FM)
    ) else (
      some (x4, FM)
    )
  ) else (
    bnd (f_X9_isOrder x5 FM) fun r13 M14 =>
    if r13 = 0 then (
      X9_order_b168 k59 x1 x2 x3 x4 x5 M14
    ) else (
      bnd (f_X9_from 2 M14) fun r17 M18 =>
      bnd (f_X9_put 11 46 12 6 (4 : Int32) (M18 0 0) M18) fun r20 M21 =>
      if (M21 12 0) = (M21 2 4) then (
        X9_order_b128 k59 x1 x2 x3 x4 x5 (1 : Int32) (M21 2 1) M21
      ) else (
        X9_order_b128 k59 x1 x2 x3 x4 x5 (1 : Int32) (0 : Int32) M21
      )
    )
  )
def X9_order_b59 : Nat → Int32 → Int32 → Int32 → Int32 → Int32 → FMem → Opt
  | 0, _, _, _, _, _, _ => none
  | nf + 1, x1, x2, x3, x4, x5, FM => X9_order_b59s (X9_order_b59 nf) x1 x2 x3 x4 x5 FM
def X9_order_b31s (k31 : Int32 → Int32 → Int32 → Int32 → FMem → Opt) (x1 : Int32) (x2 : Int32) (x3 : Int32) (x4 : Int32) (FM : FMem) : Opt :=
  if (FM 0 0) ≤ x4 then (
    X9_order_b59 FU x1 x2 x3 (-1 : Int32) (0 : Int32) FM
  ) else (
    bindv (x3 * (FM 0 0)) fun v34 =>
    k31 x1 x2 v34 (x4 + (1 : Int32)) FM
  )
def X9_order_b31 : Nat → Int32 → Int32 → Int32 → Int32 → FMem → Opt
  | 0, _, _, _, _, _ => none
  | nf + 1, x1, x2, x3, x4, FM => X9_order_b31s (X9_order_b31 nf) x1 x2 x3 x4 FM
def f_X9_order (a1 a2 : Int32) (FM : FMem) : Opt :=
  bnd (f_X9_in a1 (1 : Int32) (40 : Int32) FM) fun r1 M2 =>
  if r1 = 0 then (
    some ((-1 : Int32), M2)
  ) else (
    bnd (f_X9_in a2 (-1 : Int32) ((M2 0 0) - (1 : Int32)) M2) fun r5 M6 =>
    if r5 = 0 then (
      some ((-1 : Int32), M6)
    ) else (
      X9_order_b31 FU a1 a2 (1 : Int32) (0 : Int32) M6
    )
  )
set_option maxHeartbeats 4000000 in
set_option maxRecDepth 100000 in
theorem m_X9_order (l : Launch) (D : va_G) (cI : ClassId) (b : Nat) (a1 a2 : Int32) (FM : FMem) (r0 : Int32) (FR : FMem) (h : f_X9_order a1 a2 FM = some (r0, FR)) : Mt l (wdM D cI b) yX9_order cX9_order 7 (some .int) 5 120 [.ref (b + 0), .int a1, .int a2] FM (some (.int r0)) FR := by
  refine Mt.of (by decide) (cat_cons rfl (cat_cons rfl (cat_cons rfl cat_nil))) [some (.ref (b + 0)), some (.int a1), some (.int a2), none, none, none, none] rfl (Nat.le_of_ble_eq_true rfl) (fun V hV => ?_)
  have B168 : ∀ (k59 : Int32 → Int32 → Int32 → Int32 → Int32 → FMem → Opt) (hk59 : ∀ (x1 : Int32) (x2 : Int32) (x3 : Int32) (x4 : Int32) (x5 : Int32) (FM : FMem), k59 x1 x2 x3 x4 x5 FM = some (r0, FR) → V FM 59 [some (.ref (b + 0)), some (.int x1), some (.int x2), some (.int x3), some (.int x4), some (.int x5), none] []) (x1 : Int32) (x2 : Int32) (x3 : Int32) (x4 : Int32) (x5 : Int32) (FM : FMem), X9_order_b168 k59 x1 x2 x3 x4 x5 FM = some (r0, FR) → V FM 168 [some (.ref (b + 0)), some (.int x1), some (.int x2), some (.int x3), some (.int x4), some (.int x5), none] [] := by
    intro k59 hk59 x1 x2 x3 x4 x5 FM h
    unfold X9_order_b168 at h
    refine r_iinc (v := (1 : Int32)) hV dX9_order_168 rfl rfl rfl ?_
    refine r_goto hV 59 dX9_order_171 rfl ?_
    exact hk59 x1 x2 x3 x4 (x5 + (1 : Int32)) FM h
  have B148 : ∀ (k59 : Int32 → Int32 → Int32 → Int32 → Int32 → FMem → Opt) (hk59 : ∀ (x1 : Int32) (x2 : Int32) (x3 : Int32) (x4 : Int32) (x5 : Int32) (FM : FMem), k59 x1 x2 x3 x4 x5 FM = some (r0, FR) → V FM 59 [some (.ref (b + 0)), some (.int x1), some (.int x2), some (.int x3), some (.int x4), some (.int x5), none] []) (x1 : Int32) (x2 : Int32) (x3 : Int32) (x5 : Int32) (x6 : Int32) (FM : FMem), X9_order_b148 k59 x1 x2 x3 x5 x6 FM = some (r0, FR) → V FM 148 [some (.ref (b + 0)), some (.int x1), some (.int x2), some (.int x3), none, some (.int x5), some (.int x6)] [] := by
    intro k59 hk59 x1 x2 x3 x5 x6 FM h
    unfold X9_order_b148 at h
    refine r_iload hV dX9_order_148 rfl ?_
    refine r_istore hV dX9_order_150 (Nat.le_of_ble_eq_true rfl) rfl ?_
    refine r_aload_n hV dX9_order_152 rfl ?_
    refine r_geto hV fl_X9_46 obM_0 rfl dX9_order_153 ?_
    refine r_iconst (v := (0 : Int32)) hV dX9_order_156 rfl ?_
    refine r_aload_n hV dX9_order_157 rfl ?_
    refine r_geto hV fl_X9_43 obM_0 rfl dX9_order_158 ?_
    refine r_aload_n hV dX9_order_161 rfl ?_
    refine r_geto hV fl_X9_67 obM_0 rfl dX9_order_162 ?_
    obtain ⟨r30, M31, q32, h⟩ := bnd_some h
    refine r_cSv hV (m_X9_put l D cI b 13 6 12 6 arM_13 arM_12 (0 : Int32) (FM 0 0) FM _ _ q32) ml_X9_117 rfl (by decide) (Nat.le_of_ble_eq_true rfl) rfl dX9_order_165 ?_
    refine r_mask hV [true, true, true, true, true, true, false] ?_
    exact B168 k59 hk59 x1 x2 x3 x6 x5 M31 h
  have B128 : ∀ (k59 : Int32 → Int32 → Int32 → Int32 → Int32 → FMem → Opt) (hk59 : ∀ (x1 : Int32) (x2 : Int32) (x3 : Int32) (x4 : Int32) (x5 : Int32) (FM : FMem), k59 x1 x2 x3 x4 x5 FM = some (r0, FR) → V FM 59 [some (.ref (b + 0)), some (.int x1), some (.int x2), some (.int x3), some (.int x4), some (.int x5), none] []) (x1 : Int32) (x2 : Int32) (x3 : Int32) (x4 : Int32) (x5 : Int32) (s1 : Int32) (s2 : Int32) (FM : FMem), X9_order_b128 k59 x1 x2 x3 x4 x5 s1 s2 FM = some (r0, FR) → V FM 128 [some (.ref (b + 0)), some (.int x1), some (.int x2), some (.int x3), some (.int x4), some (.int x5), none] [.int s2, .int s1, .ref (b + 11)] := by
    intro k59 hk59 x1 x2 x3 x4 x5 s1 s2 FM h
    unfold X9_order_b128 at h
    obtain ⟨g24, h⟩ := grd_some h
    refine r_ast hV arM_11 (inb_in g24) ((s1).toNatClampNeg) rfl dX9_order_128 ?_
    refine r_bm h (fun M25 h => ?_)
    refine r_aload_n hV dX9_order_129 rfl ?_
    refine r_iload_n hV dX9_order_130 rfl ?_
    obtain ⟨r26, M27, q28, h⟩ := bnd_some h
    refine r_cVi hV (m_X9_goesOn l D cI b x1 M25 _ _ q28) ml_X9_170 obM_0 rfl rfl (by decide) (Nat.le_of_ble_eq_true rfl) rfl dX9_order_131 ?_
    refine r_istore hV dX9_order_134 (Nat.le_of_ble_eq_true rfl) rfl ?_
    refine r_iload hV dX9_order_136 rfl ?_
    refine r_iflt hV 148 dX9_order_138 rfl (fun c29 => ?_) (fun c29 => ?_)
    · have h := (if_pos c29).symm.trans h
      refine r_mask hV [true, true, true, true, false, true, true] ?_
      exact B148 k59 hk59 x1 x2 x3 x5 r26 M27 h
    · have h := (if_neg c29).symm.trans h
      refine r_iload hV dX9_order_141 rfl ?_
      refine r_iload hV dX9_order_143 rfl ?_
      refine r_icmpge hV 168 dX9_order_145 rfl (fun c33 => ?_) (fun c33 => ?_)
      · have h := (if_pos c33).symm.trans h
        refine r_mask hV [true, true, true, true, true, true, false] ?_
        exact B168 k59 hk59 x1 x2 x3 x4 x5 M27 h
      · have h := (if_neg c33).symm.trans h
        refine r_mask hV [true, true, true, true, false, true, true] ?_
        exact B148 k59 hk59 x1 x2 x3 x5 r26 M27 h
  have B59 : ∀ (k59 : Int32 → Int32 → Int32 → Int32 → Int32 → FMem → Opt) (hk59 : ∀ (x1 : Int32) (x2 : Int32) (x3 : Int32) (x4 : Int32) (x5 : Int32) (FM : FMem), k59 x1 x2 x3 x4 x5 FM = some (r0, FR) → V FM 59 [some (.ref (b + 0)), some (.int x1), some (.int x2), some (.int x3), some (.int x4), some (.int x5), none] []) (x1 : Int32) (x2 : Int32) (x3 : Int32) (x4 : Int32) (x5 : Int32) (FM : FMem), X9_order_b59s k59 x1 x2 x3 x4 x5 FM = some (r0, FR) → V FM 59 [some (.ref (b + 0)), some (.int x1), some (.int x2), some (.int x3), some (.int x4), some (.int x5), none] [] := by
    intro k59 hk59 x1 x2 x3 x4 x5 FM h
    unfold X9_order_b59s at h
    refine r_iload hV dX9_order_59 rfl ?_
    refine r_iload_n hV dX9_order_61 rfl ?_
    refine r_icmpge hV 174 dX9_order_62 rfl (fun c10 => ?_) (fun c10 => ?_)
    · have h := (if_pos c10).symm.trans h
      refine r_iload_n hV dX9_order_174 rfl ?_
      refine r_ifge hV 183 dX9_order_175 rfl (fun c11 => ?_) (fun c11 => ?_)
      · have h := (if_pos c11).symm.trans h
        refine r_aload_n hV dX9_order_183 rfl ?_
        refine r_geto hV fl_X9_46 obM_0 rfl dX9_order_184 ?_
        refine r_iload_n hV dX9_order_187 rfl ?_
        obtain ⟨g12, h⟩ := grd_some h
        refine r_ald hV arM_13 (inb_in g12) ((x2).toNatClampNeg) rfl dX9_order_188 ?_
        exact r_iret hV rfl dX9_order_189 (ret_r h) (ret_m h)
      · have h := (if_neg c11).symm.trans h
        refine r_iload hV dX9_order_178 rfl ?_
        refine r_goto hV 189 dX9_order_180 rfl ?_
        exact r_iret hV rfl dX9_order_189 (ret_r h) (ret_m h)
    · have h := (if_neg c10).symm.trans h
      refine r_aload_n hV dX9_order_65 rfl ?_
      refine r_iload hV dX9_order_66 rfl ?_
      obtain ⟨r13, M14, q15, h⟩ := bnd_some h
      refine r_cVi hV (m_X9_isOrder l D cI b x5 FM _ _ q15) ml_X9_179 obM_0 rfl rfl (by decide) (Nat.le_of_ble_eq_true rfl) rfl dX9_order_68 ?_
      refine r_ifeq hV 168 dX9_order_71 rfl (fun c16 => ?_) (fun c16 => ?_)
      · have h := (if_pos c16).symm.trans h
        exact B168 k59 hk59 x1 x2 x3 x4 x5 M14 h
      · have h := (if_neg c16).symm.trans h
        refine r_aload_n hV dX9_order_74 rfl ?_
        refine r_aload_n hV dX9_order_75 rfl ?_
        refine r_geto hV fl_X9_13 obM_0 rfl dX9_order_76 ?_
        obtain ⟨r17, M18, q19, h⟩ := bnd_some h
        refine r_cVv hV (m_X9_from l D cI b 2 arM_2 M14 _ _ q19) ml_X9_166 obM_0 rfl rfl (by decide) (Nat.le_of_ble_eq_true rfl) rfl dX9_order_79 ?_
        refine r_aload_n hV dX9_order_82 rfl ?_
        refine r_geto hV fl_X9_40 obM_0 rfl dX9_order_83 ?_
        refine r_iconst (v := (4 : Int32)) hV dX9_order_86 rfl ?_
        refine r_aload_n hV dX9_order_87 rfl ?_
        refine r_geto hV fl_X9_43 obM_0 rfl dX9_order_88 ?_
        refine r_aload_n hV dX9_order_91 rfl ?_
        refine r_geto hV fl_X9_67 obM_0 rfl dX9_order_92 ?_
        obtain ⟨r20, M21, q22, h⟩ := bnd_some h
        refine r_cSv hV (m_X9_put l D cI b 11 46 12 6 arM_11 arM_12 (4 : Int32) (M18 0 0) M18 _ _ q22) ml_X9_117 rfl (by decide) (Nat.le_of_ble_eq_true rfl) rfl dX9_order_95 ?_
        refine r_aload_n hV dX9_order_98 rfl ?_
        refine r_geto hV fl_X9_40 obM_0 rfl dX9_order_99 ?_
        refine r_iconst (v := (1 : Int32)) hV dX9_order_102 rfl ?_
        refine r_aload_n hV dX9_order_103 rfl ?_
        refine r_geto hV fl_X9_43 obM_0 rfl dX9_order_104 ?_
        refine r_iconst (v := (0 : Int32)) hV dX9_order_107 rfl ?_
        refine r_ald hV arM_12 (inb_in rfl) (0) rfl dX9_order_108 ?_
        refine r_aload_n hV dX9_order_109 rfl ?_
        refine r_geto hV fl_X9_13 obM_0 rfl dX9_order_110 ?_
        refine r_iconst (v := (4 : Int32)) hV dX9_order_113 rfl ?_
        refine r_ald hV arM_2 (inb_in rfl) (4) rfl dX9_order_114 ?_
        refine r_icmpne hV 127 dX9_order_115 rfl (fun c23 => ?_) (fun c23 => ?_)
        · have h := (if_neg c23).symm.trans h
          refine r_iconst (v := (0 : Int32)) hV dX9_order_127 rfl ?_
          exact B128 k59 hk59 x1 x2 x3 x4 x5 (1 : Int32) (0 : Int32) M21 h
        · have h := (if_pos c23).symm.trans h
          refine r_aload_n hV dX9_order_118 rfl ?_
          refine r_geto hV fl_X9_13 obM_0 rfl dX9_order_119 ?_
          refine r_iconst (v := (1 : Int32)) hV dX9_order_122 rfl ?_
          refine r_ald hV arM_2 (inb_in rfl) (1) rfl dX9_order_123 ?_
          refine r_goto hV 128 dX9_order_124 rfl ?_
          exact B128 k59 hk59 x1 x2 x3 x4 x5 (1 : Int32) (M21 2 1) M21 h
  have L59 : ∀ (nf : Nat) (x1 : Int32) (x2 : Int32) (x3 : Int32) (x4 : Int32) (x5 : Int32) (FM : FMem), X9_order_b59 nf x1 x2 x3 x4 x5 FM = some (r0, FR) → V FM 59 [some (.ref (b + 0)), some (.int x1), some (.int x2), some (.int x3), some (.int x4), some (.int x5), none] [] := by
    intro  nf
    induction nf with
    | zero => intro x1 x2 x3 x4 x5 FM h; exact absurd (show (none : Opt) = some (r0, FR) from h) (fun h9 => by cases h9)
    | succ nf ih => intro x1 x2 x3 x4 x5 FM h; exact B59 (X9_order_b59 nf) ih x1 x2 x3 x4 x5 FM h
  have B31 : ∀ (k31 : Int32 → Int32 → Int32 → Int32 → FMem → Opt) (hk31 : ∀ (x1 : Int32) (x2 : Int32) (x3 : Int32) (x4 : Int32) (FM : FMem), k31 x1 x2 x3 x4 FM = some (r0, FR) → V FM 31 [some (.ref (b + 0)), some (.int x1), some (.int x2), some (.int x3), some (.int x4), none, none] []) (x1 : Int32) (x2 : Int32) (x3 : Int32) (x4 : Int32) (FM : FMem), X9_order_b31s k31 x1 x2 x3 x4 FM = some (r0, FR) → V FM 31 [some (.ref (b + 0)), some (.int x1), some (.int x2), some (.int x3), some (.int x4), none, none] [] := by
    intro k31 hk31 x1 x2 x3 x4 FM h
    unfold X9_order_b31s at h
    refine r_iload hV dX9_order_31 rfl ?_
    refine r_aload_n hV dX9_order_33 rfl ?_
    refine r_geto hV fl_X9_67 obM_0 rfl dX9_order_34 ?_
    refine r_icmpge hV 53 dX9_order_37 rfl (fun c9 => ?_) (fun c9 => ?_)
    · have h := (if_pos c9).symm.trans h
      refine r_iconst (v := (-1 : Int32)) hV dX9_order_53 rfl ?_
      refine r_istore hV dX9_order_54 (Nat.le_of_ble_eq_true rfl) rfl ?_
      refine r_iconst (v := (0 : Int32)) hV dX9_order_56 rfl ?_
      refine r_istore hV dX9_order_57 (Nat.le_of_ble_eq_true rfl) rfl ?_
      exact L59 FU x1 x2 x3 (-1 : Int32) (0 : Int32) FM h
    · have h := (if_neg c9).symm.trans h
      refine r_iload_n hV dX9_order_40 rfl ?_
      refine r_aload_n hV dX9_order_41 rfl ?_
      refine r_geto hV fl_X9_67 obM_0 rfl dX9_order_42 ?_
      refine r_imul hV dX9_order_45 ?_
      refine r_bv h (fun v34 h => ?_)
      refine r_istore_n hV dX9_order_46 (Nat.le_of_ble_eq_true rfl) rfl ?_
      refine r_iinc (v := (1 : Int32)) hV dX9_order_47 rfl rfl rfl ?_
      refine r_goto hV 31 dX9_order_50 rfl ?_
      exact hk31 x1 x2 v34 (x4 + (1 : Int32)) FM h
  have L31 : ∀ (nf : Nat) (x1 : Int32) (x2 : Int32) (x3 : Int32) (x4 : Int32) (FM : FMem), X9_order_b31 nf x1 x2 x3 x4 FM = some (r0, FR) → V FM 31 [some (.ref (b + 0)), some (.int x1), some (.int x2), some (.int x3), some (.int x4), none, none] [] := by
    intro  nf
    induction nf with
    | zero => intro x1 x2 x3 x4 FM h; exact absurd (show (none : Opt) = some (r0, FR) from h) (fun h9 => by cases h9)
    | succ nf ih => intro x1 x2 x3 x4 FM h; exact B31 (X9_order_b31 nf) ih x1 x2 x3 x4 FM h
  unfold f_X9_order at h
  refine r_iload_n hV dX9_order_0 rfl ?_
  refine r_iconst (v := (1 : Int32)) hV dX9_order_1 rfl ?_
  refine r_bipush (v := (40 : Int32)) hV dX9_order_2 rfl ?_
  obtain ⟨r1, M2, q3, h⟩ := bnd_some h
  refine r_cSi hV (m_X9_in l D cI b a1 (1 : Int32) (40 : Int32) FM _ _ q3) ml_X9_70 rfl (by decide) (Nat.le_of_ble_eq_true rfl) rfl dX9_order_4 ?_
  refine r_ifeq hV 24 dX9_order_7 rfl (fun c4 => ?_) (fun c4 => ?_)
  · have h := (if_pos c4).symm.trans h
    refine r_iconst (v := (-1 : Int32)) hV dX9_order_24 rfl ?_
    exact r_iret hV rfl dX9_order_25 (ret_r h) (ret_m h)
  · have h := (if_neg c4).symm.trans h
    refine r_iload_n hV dX9_order_10 rfl ?_
    refine r_iconst (v := (-1 : Int32)) hV dX9_order_11 rfl ?_
    refine r_aload_n hV dX9_order_12 rfl ?_
    refine r_geto hV fl_X9_67 obM_0 rfl dX9_order_13 ?_
    refine r_iconst (v := (1 : Int32)) hV dX9_order_16 rfl ?_
    refine r_isub hV dX9_order_17 ?_
    obtain ⟨r5, M6, q7, h⟩ := bnd_some h
    refine r_cSi hV (m_X9_in l D cI b a2 (-1 : Int32) ((M2 0 0) - (1 : Int32)) M2 _ _ q7) ml_X9_70 rfl (by decide) (Nat.le_of_ble_eq_true rfl) rfl dX9_order_18 ?_
    refine r_ifne hV 26 dX9_order_21 rfl (fun c8 => ?_) (fun c8 => ?_)
    · have h := (if_neg c8).symm.trans h
      refine r_iconst (v := (1 : Int32)) hV dX9_order_26 rfl ?_
      refine r_istore_n hV dX9_order_27 (Nat.le_of_ble_eq_true rfl) rfl ?_
      refine r_iconst (v := (0 : Int32)) hV dX9_order_28 rfl ?_
      refine r_istore hV dX9_order_29 (Nat.le_of_ble_eq_true rfl) rfl ?_
      exact L31 FU a1 a2 (1 : Int32) (0 : Int32) M6 h
    · have h := (if_pos c8).symm.trans h
      refine r_iconst (v := (-1 : Int32)) hV dX9_order_24 rfl ?_
      exact r_iret hV rfl dX9_order_25 (ret_r h) (ret_m h)
def X9_away_b112 (k20 : Int32 → Int32 → Int32 → Int32 → FMem → Opt) (x1 : Int32) (x2 : Int32) (x3 : Int32) (x4 : Int32) (FM : FMem) : Opt :=
  k20 x1 x2 x3 (x4 + (1 : Int32)) FM
def X9_away_b111 (k20 : Int32 → Int32 → Int32 → Int32 → FMem → Opt) (x1 : Int32) (x2 : Int32) (x4 : Int32) (s0 : Int32) (FM : FMem) : Opt :=
  X9_away_b112 k20 x1 x2 s0 x4 FM
def X9_away_b98 (k20 : Int32 → Int32 → Int32 → Int32 → FMem → Opt) (x1 : Int32) (x3 : Int32) (x4 : Int32) (x5 : Int32) (s0 : Int32) (FM : FMem) : Opt :=
  if x5 ≤ x3 then (
    X9_away_b111 k20 x1 s0 x4 x3 FM
  ) else (
    X9_away_b111 k20 x1 s0 x4 x5 FM
  )
def X9_away_b84 (k20 : Int32 → Int32 → Int32 → Int32 → FMem → Opt) (x1 : Int32) (x2 : Int32) (x3 : Int32) (x4 : Int32) (s0 : Int32) (FM : FMem) : Opt :=
  if s0 ≤ x3 then (
    X9_away_b98 k20 x1 x3 x4 s0 x2 FM
  ) else (
    X9_away_b98 k20 x1 x3 x4 s0 x4 FM
  )
def X9_away_b20s (k20 : Int32 → Int32 → Int32 → Int32 → FMem → Opt) (x1 : Int32) (x2 : Int32) (x3 : Int32) (x4 : Int32) (FM : FMem) : Opt :=
  if (FM 2 2) ≤ x4 then (
    if x1 = 0 then (
      some (x2, FM)
    ) else (
      some (x3, FM)
    )
  ) else (
    bnd (f_X9_has (FM 2 3) x4 FM) fun r7 M8 =>
    if r7 = 0 then (
      bnd (f_X9_from 2 M8) fun r11 M12 =>
      bindm (fset M12 11 (3) ((M12 11 3) ||| ((1 : Int32) <<< (x4 &&& 31)))) fun M14 =>
      bnd (f_X9_firstBell M14) fun r15 M16 =>
      if 0 ≤ r15 then (
        X9_away_b84 k20 x1 x2 x3 x4 r15 M16
      ) else (
        X9_away_b84 k20 x1 x2 x3 x4 (41 : Int32) M16
      )
    ) else (
      X9_away_b112 k20 x1 x2 x3 x4 M8
    )
  )
def X9_away_b20 : Nat → Int32 → Int32 → Int32 → Int32 → FMem → Opt
  | 0, _, _, _, _, _ => none
  | nf + 1, x1, x2, x3, x4, FM => X9_away_b20s (X9_away_b20 nf) x1 x2 x3 x4 FM
def f_X9_away (a1 : Int32) (FM : FMem) : Opt :=
  bnd (f_X9_in a1 (0 : Int32) (1 : Int32) FM) fun r1 M2 =>
  if r1 = 0 then (
    some ((-1 : Int32), M2)
  ) else (
    X9_away_b20 FU a1 (-4 : Int32) (-4 : Int32) (0 : Int32) M2
  )
set_option maxHeartbeats 4000000 in
set_option maxRecDepth 100000 in
theorem m_X9_away (l : Launch) (D : va_G) (cI : ClassId) (b : Nat) (a1 : Int32) (FM : FMem) (r0 : Int32) (FR : FMem) (h : f_X9_away a1 FM = some (r0, FR)) : Mt l (wdM D cI b) yX9_away cX9_away 6 (some .int) 5 118 [.ref (b + 0), .int a1] FM (some (.int r0)) FR := by
  refine Mt.of (by decide) (cat_cons rfl (cat_cons rfl cat_nil)) [some (.ref (b + 0)), some (.int a1), none, none, none, none] rfl (Nat.le_of_ble_eq_true rfl) (fun V hV => ?_)
  have B112 : ∀ (k20 : Int32 → Int32 → Int32 → Int32 → FMem → Opt) (hk20 : ∀ (x1 : Int32) (x2 : Int32) (x3 : Int32) (x4 : Int32) (FM : FMem), k20 x1 x2 x3 x4 FM = some (r0, FR) → V FM 20 [some (.ref (b + 0)), some (.int x1), some (.int x2), some (.int x3), some (.int x4), none] []) (x1 : Int32) (x2 : Int32) (x3 : Int32) (x4 : Int32) (FM : FMem), X9_away_b112 k20 x1 x2 x3 x4 FM = some (r0, FR) → V FM 112 [some (.ref (b + 0)), some (.int x1), some (.int x2), some (.int x3), some (.int x4), none] [] := by
    intro k20 hk20 x1 x2 x3 x4 FM h
    unfold X9_away_b112 at h
    refine r_iinc (v := (1 : Int32)) hV dX9_away_112 rfl rfl rfl ?_
    refine r_goto hV 20 dX9_away_115 rfl ?_
    exact hk20 x1 x2 x3 (x4 + (1 : Int32)) FM h
  have B111 : ∀ (k20 : Int32 → Int32 → Int32 → Int32 → FMem → Opt) (hk20 : ∀ (x1 : Int32) (x2 : Int32) (x3 : Int32) (x4 : Int32) (FM : FMem), k20 x1 x2 x3 x4 FM = some (r0, FR) → V FM 20 [some (.ref (b + 0)), some (.int x1), some (.int x2), some (.int x3), some (.int x4), none] []) (x1 : Int32) (x2 : Int32) (x4 : Int32) (s0 : Int32) (FM : FMem), X9_away_b111 k20 x1 x2 x4 s0 FM = some (r0, FR) → V FM 111 [some (.ref (b + 0)), some (.int x1), some (.int x2), none, some (.int x4), none] [.int s0] := by
    intro k20 hk20 x1 x2 x4 s0 FM h
    unfold X9_away_b111 at h
    refine r_istore_n hV dX9_away_111 (Nat.le_of_ble_eq_true rfl) rfl ?_
    exact B112 k20 hk20 x1 x2 s0 x4 FM h
  have B98 : ∀ (k20 : Int32 → Int32 → Int32 → Int32 → FMem → Opt) (hk20 : ∀ (x1 : Int32) (x2 : Int32) (x3 : Int32) (x4 : Int32) (FM : FMem), k20 x1 x2 x3 x4 FM = some (r0, FR) → V FM 20 [some (.ref (b + 0)), some (.int x1), some (.int x2), some (.int x3), some (.int x4), none] []) (x1 : Int32) (x3 : Int32) (x4 : Int32) (x5 : Int32) (s0 : Int32) (FM : FMem), X9_away_b98 k20 x1 x3 x4 x5 s0 FM = some (r0, FR) → V FM 98 [some (.ref (b + 0)), some (.int x1), none, some (.int x3), some (.int x4), some (.int x5)] [.int s0] := by
    intro k20 hk20 x1 x3 x4 x5 s0 FM h
    unfold X9_away_b98 at h
    refine r_istore_n hV dX9_away_98 (Nat.le_of_ble_eq_true rfl) rfl ?_
    refine r_iload hV dX9_away_99 rfl ?_
    refine r_iload_n hV dX9_away_101 rfl ?_
    refine r_icmple hV 110 dX9_away_102 rfl (fun c20 => ?_) (fun c20 => ?_)
    · have h := (if_pos c20).symm.trans h
      refine r_iload_n hV dX9_away_110 rfl ?_
      refine r_mask hV [true, true, true, false, true, false] ?_
      exact B111 k20 hk20 x1 s0 x4 x3 FM h
    · have h := (if_neg c20).symm.trans h
      refine r_iload hV dX9_away_105 rfl ?_
      refine r_goto hV 111 dX9_away_107 rfl ?_
      refine r_mask hV [true, true, true, false, true, false] ?_
      exact B111 k20 hk20 x1 s0 x4 x5 FM h
  have B84 : ∀ (k20 : Int32 → Int32 → Int32 → Int32 → FMem → Opt) (hk20 : ∀ (x1 : Int32) (x2 : Int32) (x3 : Int32) (x4 : Int32) (FM : FMem), k20 x1 x2 x3 x4 FM = some (r0, FR) → V FM 20 [some (.ref (b + 0)), some (.int x1), some (.int x2), some (.int x3), some (.int x4), none] []) (x1 : Int32) (x2 : Int32) (x3 : Int32) (x4 : Int32) (s0 : Int32) (FM : FMem), X9_away_b84 k20 x1 x2 x3 x4 s0 FM = some (r0, FR) → V FM 84 [some (.ref (b + 0)), some (.int x1), some (.int x2), some (.int x3), some (.int x4), none] [.int s0] := by
    intro k20 hk20 x1 x2 x3 x4 s0 FM h
    unfold X9_away_b84 at h
    refine r_istore hV dX9_away_84 (Nat.le_of_ble_eq_true rfl) rfl ?_
    refine r_iload hV dX9_away_86 rfl ?_
    refine r_iload_n hV dX9_away_88 rfl ?_
    refine r_icmple hV 97 dX9_away_89 rfl (fun c19 => ?_) (fun c19 => ?_)
    · have h := (if_pos c19).symm.trans h
      refine r_iload_n hV dX9_away_97 rfl ?_
      refine r_mask hV [true, true, false, true, true, true] ?_
      exact B98 k20 hk20 x1 x3 x4 s0 x2 FM h
    · have h := (if_neg c19).symm.trans h
      refine r_iload hV dX9_away_92 rfl ?_
      refine r_goto hV 98 dX9_away_94 rfl ?_
      refine r_mask hV [true, true, false, true, true, true] ?_
      exact B98 k20 hk20 x1 x3 x4 s0 x4 FM h
  have B20 : ∀ (k20 : Int32 → Int32 → Int32 → Int32 → FMem → Opt) (hk20 : ∀ (x1 : Int32) (x2 : Int32) (x3 : Int32) (x4 : Int32) (FM : FMem), k20 x1 x2 x3 x4 FM = some (r0, FR) → V FM 20 [some (.ref (b + 0)), some (.int x1), some (.int x2), some (.int x3), some (.int x4), none] []) (x1 : Int32) (x2 : Int32) (x3 : Int32) (x4 : Int32) (FM : FMem), X9_away_b20s k20 x1 x2 x3 x4 FM = some (r0, FR) → V FM 20 [some (.ref (b + 0)), some (.int x1), some (.int x2), some (.int x3), some (.int x4), none] [] := by
    intro k20 hk20 x1 x2 x3 x4 FM h
    unfold X9_away_b20s at h
    refine r_iload hV dX9_away_20 rfl ?_
    refine r_aload_n hV dX9_away_22 rfl ?_
    refine r_geto hV fl_X9_13 obM_0 rfl dX9_away_23 ?_
    refine r_iconst (v := (2 : Int32)) hV dX9_away_26 rfl ?_
    refine r_ald hV arM_2 (inb_in rfl) (2) rfl dX9_away_27 ?_
    refine r_icmpge hV 118 dX9_away_28 rfl (fun c5 => ?_) (fun c5 => ?_)
    · have h := (if_pos c5).symm.trans h
      refine r_iload_n hV dX9_away_118 rfl ?_
      refine r_ifne hV 126 dX9_away_119 rfl (fun c6 => ?_) (fun c6 => ?_)
      · have h := (if_neg c6).symm.trans h
        refine r_iload_n hV dX9_away_126 rfl ?_
        exact r_iret hV rfl dX9_away_127 (ret_r h) (ret_m h)
      · have h := (if_pos c6).symm.trans h
        refine r_iload_n hV dX9_away_122 rfl ?_
        refine r_goto hV 127 dX9_away_123 rfl ?_
        exact r_iret hV rfl dX9_away_127 (ret_r h) (ret_m h)
    · have h := (if_neg c5).symm.trans h
      refine r_aload_n hV dX9_away_31 rfl ?_
      refine r_geto hV fl_X9_13 obM_0 rfl dX9_away_32 ?_
      refine r_iconst (v := (3 : Int32)) hV dX9_away_35 rfl ?_
      refine r_ald hV arM_2 (inb_in rfl) (3) rfl dX9_away_36 ?_
      refine r_iload hV dX9_away_37 rfl ?_
      obtain ⟨r7, M8, q9, h⟩ := bnd_some h
      refine r_cSi hV (m_X9_has l D cI b (FM 2 3) x4 FM _ _ q9) ml_X9_136 rfl (by decide) (Nat.le_of_ble_eq_true rfl) rfl dX9_away_39 ?_
      refine r_ifne hV 112 dX9_away_42 rfl (fun c10 => ?_) (fun c10 => ?_)
      · have h := (if_neg c10).symm.trans h
        exact B112 k20 hk20 x1 x2 x3 x4 M8 h
      · have h := (if_pos c10).symm.trans h
        refine r_aload_n hV dX9_away_45 rfl ?_
        refine r_aload_n hV dX9_away_46 rfl ?_
        refine r_geto hV fl_X9_13 obM_0 rfl dX9_away_47 ?_
        obtain ⟨r11, M12, q13, h⟩ := bnd_some h
        refine r_cVv hV (m_X9_from l D cI b 2 arM_2 M8 _ _ q13) ml_X9_166 obM_0 rfl rfl (by decide) (Nat.le_of_ble_eq_true rfl) rfl dX9_away_50 ?_
        refine r_aload_n hV dX9_away_53 rfl ?_
        refine r_geto hV fl_X9_40 obM_0 rfl dX9_away_54 ?_
        refine r_iconst (v := (3 : Int32)) hV dX9_away_57 rfl ?_
        refine r_dup2 hV dX9_away_58 rfl rfl ?_
        refine r_ald hV arM_11 (inb_in rfl) (3) rfl dX9_away_59 ?_
        refine r_iconst (v := (1 : Int32)) hV dX9_away_60 rfl ?_
        refine r_iload hV dX9_away_61 rfl ?_
        refine r_ishl hV dX9_away_63 ?_
        refine r_ior hV dX9_away_64 ?_
        refine r_ast hV arM_11 (inb_in rfl) (3) rfl dX9_away_65 ?_
        refine r_bm h (fun M14 h => ?_)
        refine r_aload_n hV dX9_away_66 rfl ?_
        obtain ⟨r15, M16, q17, h⟩ := bnd_some h
        refine r_cVi hV (m_X9_firstBell l D cI b M14 _ _ q17) ml_X9_173 obM_0 rfl rfl (by decide) (Nat.le_of_ble_eq_true rfl) rfl dX9_away_67 ?_
        refine r_istore hV dX9_away_70 (Nat.le_of_ble_eq_true rfl) rfl ?_
        refine r_iload hV dX9_away_72 rfl ?_
        refine r_ifge hV 82 dX9_away_74 rfl (fun c18 => ?_) (fun c18 => ?_)
        · have h := (if_pos c18).symm.trans h
          refine r_iload hV dX9_away_82 rfl ?_
          refine r_mask hV [true, true, true, true, true, false] ?_
          exact B84 k20 hk20 x1 x2 x3 x4 r15 M16 h
        · have h := (if_neg c18).symm.trans h
          refine r_bipush (v := (41 : Int32)) hV dX9_away_77 rfl ?_
          refine r_goto hV 84 dX9_away_79 rfl ?_
          refine r_mask hV [true, true, true, true, true, false] ?_
          exact B84 k20 hk20 x1 x2 x3 x4 (41 : Int32) M16 h
  have L20 : ∀ (nf : Nat) (x1 : Int32) (x2 : Int32) (x3 : Int32) (x4 : Int32) (FM : FMem), X9_away_b20 nf x1 x2 x3 x4 FM = some (r0, FR) → V FM 20 [some (.ref (b + 0)), some (.int x1), some (.int x2), some (.int x3), some (.int x4), none] [] := by
    intro  nf
    induction nf with
    | zero => intro x1 x2 x3 x4 FM h; exact absurd (show (none : Opt) = some (r0, FR) from h) (fun h9 => by cases h9)
    | succ nf ih => intro x1 x2 x3 x4 FM h; exact B20 (X9_away_b20 nf) ih x1 x2 x3 x4 FM h
  unfold f_X9_away at h
  refine r_iload_n hV dX9_away_0 rfl ?_
  refine r_iconst (v := (0 : Int32)) hV dX9_away_1 rfl ?_
  refine r_iconst (v := (1 : Int32)) hV dX9_away_2 rfl ?_
  obtain ⟨r1, M2, q3, h⟩ := bnd_some h
  refine r_cSi hV (m_X9_in l D cI b a1 (0 : Int32) (1 : Int32) FM _ _ q3) ml_X9_70 rfl (by decide) (Nat.le_of_ble_eq_true rfl) rfl dX9_away_3 ?_
  refine r_ifne hV 11 dX9_away_6 rfl (fun c4 => ?_) (fun c4 => ?_)
  · have h := (if_neg c4).symm.trans h
    refine r_bipush (v := (-4 : Int32)) hV dX9_away_11 rfl ?_
    refine r_istore_n hV dX9_away_13 (Nat.le_of_ble_eq_true rfl) rfl ?_
    refine r_bipush (v := (-4 : Int32)) hV dX9_away_14 rfl ?_
    refine r_istore_n hV dX9_away_16 (Nat.le_of_ble_eq_true rfl) rfl ?_
    refine r_iconst (v := (0 : Int32)) hV dX9_away_17 rfl ?_
    refine r_istore hV dX9_away_18 (Nat.le_of_ble_eq_true rfl) rfl ?_
    exact L20 FU a1 (-4 : Int32) (-4 : Int32) (0 : Int32) M2 h
  · have h := (if_pos c4).symm.trans h
    refine r_iconst (v := (-1 : Int32)) hV dX9_away_9 rfl ?_
    exact r_iret hV rfl dX9_away_10 (ret_r h) (ret_m h)
def f_X9_seen (a1 a2 : Int32) (FM : FMem) : Opt :=
  bnd (f_X9_isPerson a1 FM) fun r1 M2 =>
  if r1 = 0 then (
    some ((-1 : Int32), M2)
  ) else (
    bnd (f_X9_in a2 (0 : Int32) (60 : Int32) M2) fun r5 M6 =>
    if r5 = 0 then (
      some ((-1 : Int32), M6)
    ) else (
      if (M6 0 9) = (8 : Int32) then (
        some ((-3 : Int32), M6)
      ) else (
        grd (inb ((2 : Int32) * (M6 0 9)) 16) <|
        bindm (fset M6 6 ((((2 : Int32) * (M6 0 9))).toNatClampNeg) a1) fun M11 =>
        grd (inb (((2 : Int32) * (M11 0 9)) + (1 : Int32)) 16) <|
        bindm (fset M11 6 (((((2 : Int32) * (M11 0 9)) + (1 : Int32))).toNatClampNeg) a2) fun M13 =>
        bindm (fset M13 0 9 ((M13 0 9) + (1 : Int32))) fun M14 =>
        some ((M14 0 9), M14)
      )
    )
  )
set_option maxHeartbeats 4000000 in
set_option maxRecDepth 100000 in
theorem m_X9_seen (l : Launch) (D : va_G) (cI : ClassId) (b : Nat) (a1 a2 : Int32) (FM : FMem) (r0 : Int32) (FR : FMem) (h : f_X9_seen a1 a2 FM = some (r0, FR)) : Mt l (wdM D cI b) yX9_seen cX9_seen 3 (some .int) 2 43 [.ref (b + 0), .int a1, .int a2] FM (some (.int r0)) FR := by
  refine Mt.of (by decide) (cat_cons rfl (cat_cons rfl (cat_cons rfl cat_nil))) [some (.ref (b + 0)), some (.int a1), some (.int a2)] rfl (Nat.le_of_ble_eq_true rfl) (fun V hV => ?_)
  unfold f_X9_seen at h
  refine r_aload_n hV dX9_seen_0 rfl ?_
  refine r_iload_n hV dX9_seen_1 rfl ?_
  obtain ⟨r1, M2, q3, h⟩ := bnd_some h
  refine r_cVi hV (m_X9_isPerson l D cI b a1 FM _ _ q3) ml_X9_157 obM_0 rfl rfl (by decide) (Nat.le_of_ble_eq_true rfl) rfl dX9_seen_2 ?_
  refine r_ifeq hV 18 dX9_seen_5 rfl (fun c4 => ?_) (fun c4 => ?_)
  · have h := (if_pos c4).symm.trans h
    refine r_iconst (v := (-1 : Int32)) hV dX9_seen_18 rfl ?_
    exact r_iret hV rfl dX9_seen_19 (ret_r h) (ret_m h)
  · have h := (if_neg c4).symm.trans h
    refine r_iload_n hV dX9_seen_8 rfl ?_
    refine r_iconst (v := (0 : Int32)) hV dX9_seen_9 rfl ?_
    refine r_bipush (v := (60 : Int32)) hV dX9_seen_10 rfl ?_
    obtain ⟨r5, M6, q7, h⟩ := bnd_some h
    refine r_cSi hV (m_X9_in l D cI b a2 (0 : Int32) (60 : Int32) M2 _ _ q7) ml_X9_70 rfl (by decide) (Nat.le_of_ble_eq_true rfl) rfl dX9_seen_12 ?_
    refine r_ifne hV 20 dX9_seen_15 rfl (fun c8 => ?_) (fun c8 => ?_)
    · have h := (if_neg c8).symm.trans h
      refine r_aload_n hV dX9_seen_20 rfl ?_
      refine r_geto hV fl_X9_127 obM_0 rfl dX9_seen_21 ?_
      refine r_bipush (v := (8 : Int32)) hV dX9_seen_24 rfl ?_
      refine r_icmpne hV 32 dX9_seen_26 rfl (fun c9 => ?_) (fun c9 => ?_)
      · have h := (if_neg c9).symm.trans h
        refine r_aload_n hV dX9_seen_32 rfl ?_
        refine r_geto hV fl_X9_25 obM_0 rfl dX9_seen_33 ?_
        refine r_iconst (v := (2 : Int32)) hV dX9_seen_36 rfl ?_
        refine r_aload_n hV dX9_seen_37 rfl ?_
        refine r_geto hV fl_X9_127 obM_0 rfl dX9_seen_38 ?_
        refine r_imul hV dX9_seen_41 ?_
        refine r_iload_n hV dX9_seen_42 rfl ?_
        obtain ⟨g10, h⟩ := grd_some h
        refine r_ast hV arM_6 (inb_in g10) ((((2 : Int32) * (M6 0 9))).toNatClampNeg) rfl dX9_seen_43 ?_
        refine r_bm h (fun M11 h => ?_)
        refine r_aload_n hV dX9_seen_44 rfl ?_
        refine r_geto hV fl_X9_25 obM_0 rfl dX9_seen_45 ?_
        refine r_iconst (v := (2 : Int32)) hV dX9_seen_48 rfl ?_
        refine r_aload_n hV dX9_seen_49 rfl ?_
        refine r_geto hV fl_X9_127 obM_0 rfl dX9_seen_50 ?_
        refine r_imul hV dX9_seen_53 ?_
        refine r_iconst (v := (1 : Int32)) hV dX9_seen_54 rfl ?_
        refine r_iadd hV dX9_seen_55 ?_
        refine r_iload_n hV dX9_seen_56 rfl ?_
        obtain ⟨g12, h⟩ := grd_some h
        refine r_ast hV arM_6 (inb_in g12) (((((2 : Int32) * (M11 0 9)) + (1 : Int32))).toNatClampNeg) rfl dX9_seen_57 ?_
        refine r_bm h (fun M13 h => ?_)
        refine r_aload_n hV dX9_seen_58 rfl ?_
        refine r_dup hV dX9_seen_59 rfl ?_
        refine r_geto hV fl_X9_127 obM_0 rfl dX9_seen_60 ?_
        refine r_iconst (v := (1 : Int32)) hV dX9_seen_63 rfl ?_
        refine r_iadd hV dX9_seen_64 ?_
        refine r_puti hV fl_X9_127 obM_0 (fun _ _ => rfl) (Nat.le_of_ble_eq_true rfl) dX9_seen_65 ?_
        refine r_bm h (fun M14 h => ?_)
        refine r_aload_n hV dX9_seen_68 rfl ?_
        refine r_geto hV fl_X9_127 obM_0 rfl dX9_seen_69 ?_
        exact r_iret hV rfl dX9_seen_72 (ret_r h) (ret_m h)
      · have h := (if_pos c9).symm.trans h
        refine r_bipush (v := (-3 : Int32)) hV dX9_seen_29 rfl ?_
        exact r_iret hV rfl dX9_seen_31 (ret_r h) (ret_m h)
    · have h := (if_pos c8).symm.trans h
      refine r_iconst (v := (-1 : Int32)) hV dX9_seen_18 rfl ?_
      exact r_iret hV rfl dX9_seen_19 (ret_r h) (ret_m h)
def f_X9_forget (FM : FMem) : Opt :=
  bindv (FM 0 9) fun v1 =>
  bindm (fset FM 0 9 (0 : Int32)) fun M2 =>
  some (v1, M2)
set_option maxHeartbeats 4000000 in
set_option maxRecDepth 100000 in
theorem m_X9_forget (l : Launch) (D : va_G) (cI : ClassId) (b : Nat) (FM : FMem) (r0 : Int32) (FR : FMem) (h : f_X9_forget FM = some (r0, FR)) : Mt l (wdM D cI b) yX9_forget cX9_forget 2 (some .int) 0 0 [.ref (b + 0)] FM (some (.int r0)) FR := by
  refine Mt.of (by decide) (cat_cons rfl cat_nil) [some (.ref (b + 0)), none] rfl (Nat.le_of_ble_eq_true rfl) (fun V hV => ?_)
  unfold f_X9_forget at h
  refine r_aload_n hV dX9_forget_0 rfl ?_
  refine r_geto hV fl_X9_127 obM_0 rfl dX9_forget_1 ?_
  refine r_bv h (fun v1 h => ?_)
  refine r_istore_n hV dX9_forget_4 (Nat.le_of_ble_eq_true rfl) rfl ?_
  refine r_aload_n hV dX9_forget_5 rfl ?_
  refine r_iconst (v := (0 : Int32)) hV dX9_forget_6 rfl ?_
  refine r_puti hV fl_X9_127 obM_0 (fun _ _ => rfl) (Nat.le_of_ble_eq_true rfl) dX9_forget_7 ?_
  refine r_bm h (fun M2 h => ?_)
  refine r_iload_n hV dX9_forget_10 rfl ?_
  exact r_iret hV rfl dX9_forget_11 (ret_r h) (ret_m h)
def X9_tastes_b181 (k41 : Int32 → Int32 → Int32 → Int32 → Int32 → Int32 → FMem → Opt) (x1 : Int32) (x2 : Int32) (x3 : Int32) (x4 : Int32) (x6 : Int32) (s0 : Int32) (FM : FMem) : Opt :=
  k41 x1 x2 x3 x4 s0 (x6 + (-1 : Int32)) FM
def X9_tastes_b166 (k41 : Int32 → Int32 → Int32 → Int32 → Int32 → Int32 → FMem → Opt) (x1 : Int32) (x2 : Int32) (x3 : Int32) (x5 : Int32) (x6 : Int32) (x7 : Int32) (s0 : Int32) (s1 : Int32) (FM : FMem) : Opt :=
  bindv (s0 + s1) fun v22 =>
  if x7 = 0 then (
    X9_tastes_b181 k41 x1 x2 x3 v22 x6 x5 FM
  ) else (
    X9_tastes_b181 k41 x1 x2 x3 v22 x6 x6 FM
  )
def X9_tastes_b135 (k41 : Int32 → Int32 → Int32 → Int32 → Int32 → Int32 → FMem → Opt) (k72 : Int32 → Int32 → Int32 → Int32 → Int32 → Int32 → Int32 → Int32 → FMem → Opt) (k82 : Int32 → Int32 → Int32 → Int32 → Int32 → Int32 → Int32 → Int32 → Int32 → FMem → Opt) (x1 : Int32) (x2 : Int32) (x3 : Int32) (x4 : Int32) (x5 : Int32) (x6 : Int32) (x8 : Int32) (x9 : Int32) (s0 : Int32) (FM : FMem) : Opt :=
  k82 x1 x2 x3 x4 x5 x6 s0 x8 (x9 + (1 : Int32)) FM
def X9_tastes_b134 (k41 : Int32 → Int32 → Int32 → Int32 → Int32 → Int32 → FMem → Opt) (k72 : Int32 → Int32 → Int32 → Int32 → Int32 → Int32 → Int32 → Int32 → FMem → Opt) (k82 : Int32 → Int32 → Int32 → Int32 → Int32 → Int32 → Int32 → Int32 → Int32 → FMem → Opt) (x1 : Int32) (x2 : Int32) (x3 : Int32) (x4 : Int32) (x5 : Int32) (x6 : Int32) (x8 : Int32) (x9 : Int32) (FM : FMem) : Opt :=
  X9_tastes_b135 k41 k72 k82 x1 x2 x3 x4 x5 x6 x8 x9 (0 : Int32) FM
def X9_tastes_b130 (k41 : Int32 → Int32 → Int32 → Int32 → Int32 → Int32 → FMem → Opt) (k72 : Int32 → Int32 → Int32 → Int32 → Int32 → Int32 → Int32 → Int32 → FMem → Opt) (k82 : Int32 → Int32 → Int32 → Int32 → Int32 → Int32 → Int32 → Int32 → Int32 → FMem → Opt) (x1 : Int32) (x2 : Int32) (x3 : Int32) (x4 : Int32) (x5 : Int32) (x6 : Int32) (x8 : Int32) (x9 : Int32) (FM : FMem) : Opt :=
  X9_tastes_b135 k41 k72 k82 x1 x2 x3 x4 x5 x6 x8 x9 (1 : Int32) FM
def X9_tastes_b82s (k41 : Int32 → Int32 → Int32 → Int32 → Int32 → Int32 → FMem → Opt) (k72 : Int32 → Int32 → Int32 → Int32 → Int32 → Int32 → Int32 → Int32 → FMem → Opt) (k82 : Int32 → Int32 → Int32 → Int32 → Int32 → Int32 → Int32 → Int32 → Int32 → FMem → Opt) (x1 : Int32) (x2 : Int32) (x3 : Int32) (x4 : Int32) (x5 : Int32) (x6 : Int32) (x7 : Int32) (x8 : Int32) (x9 : Int32) (FM : FMem) : Opt :=
  if (FM 0 9) ≤ x9 then (
    bnd (f_X9_goes FM) fun r25 M26 =>
    k72 x1 x2 x3 x4 x5 x6 x7 (x8 + (1 : Int32)) M26
  ) else (
    if x7 = 0 then (
      X9_tastes_b134 k41 k72 k82 x1 x2 x3 x4 x5 x6 x8 x9 FM
    ) else (
      grd (inb (((2 : Int32) * x9) + (1 : Int32)) 16) <|
      if (FM 6 (((((2 : Int32) * x9) + (1 : Int32))).toNatClampNeg)) = x8 then (
        grd (inb ((2 : Int32) * x9) 16) <|
        if (FM 6 ((((2 : Int32) * x9)).toNatClampNeg)) = (FM 11 4) then (
          X9_tastes_b130 k41 k72 k82 x1 x2 x3 x4 x5 x6 x8 x9 FM
        ) else (
          X9_tastes_b134 k41 k72 k82 x1 x2 x3 x4 x5 x6 x8 x9 FM
        )
      ) else (
        X9_tastes_b130 k41 k72 k82 x1 x2 x3 x4 x5 x6 x8 x9 FM
      )
    )
  )
def X9_tastes_b82 (k41 : Int32 → Int32 → Int32 → Int32 → Int32 → Int32 → FMem → Opt) (k72 : Int32 → Int32 → Int32 → Int32 → Int32 → Int32 → Int32 → Int32 → FMem → Opt) : Nat → Int32 → Int32 → Int32 → Int32 → Int32 → Int32 → Int32 → Int32 → Int32 → FMem → Opt
  | 0, _, _, _, _, _, _, _, _, _, _ => none
  | nf + 1, x1, x2, x3, x4, x5, x6, x7, x8, x9, FM => X9_tastes_b82s k41 k72 (X9_tastes_b82 k41 k72 nf) x1 x2 x3 x4 x5 x6 x7 x8 x9 FM
def X9_tastes_b72s (k41 : Int32 → Int32 → Int32 → Int32 → Int32 → Int32 → FMem → Opt) (k72 : Int32 → Int32 → Int32 → Int32 → Int32 → Int32 → Int32 → Int32 → FMem → Opt) (x1 : Int32) (x2 : Int32) (x3 : Int32) (x4 : Int32) (x5 : Int32) (x6 : Int32) (x7 : Int32) (x8 : Int32) (FM : FMem) : Opt :=
  if (60 : Int32) < x8 then (
    if x7 = 0 then (
      X9_tastes_b166 k41 x1 x2 x3 x5 x6 x7 x4 (0 : Int32) FM
    ) else (
      X9_tastes_b166 k41 x1 x2 x3 x5 x6 x7 x4 (1 : Int32) FM
    )
  ) else (
    X9_tastes_b82 k41 k72 FU x1 x2 x3 x4 x5 x6 x7 x8 (0 : Int32) FM
  )
def X9_tastes_b72 (k41 : Int32 → Int32 → Int32 → Int32 → Int32 → Int32 → FMem → Opt) : Nat → Int32 → Int32 → Int32 → Int32 → Int32 → Int32 → Int32 → Int32 → FMem → Opt
  | 0, _, _, _, _, _, _, _, _, _ => none
  | nf + 1, x1, x2, x3, x4, x5, x6, x7, x8, FM => X9_tastes_b72s k41 (X9_tastes_b72 k41 nf) x1 x2 x3 x4 x5 x6 x7 x8 FM
def X9_tastes_b41s (k41 : Int32 → Int32 → Int32 → Int32 → Int32 → Int32 → FMem → Opt) (x1 : Int32) (x2 : Int32) (x3 : Int32) (x4 : Int32) (x5 : Int32) (x6 : Int32) (FM : FMem) : Opt :=
  if x6 < 0 then (
    grd (inb (((3 : Int32) * x1) + (1 : Int32)) 18) <|
    bindm (fset FM 1 (((((3 : Int32) * x1) + (1 : Int32))).toNatClampNeg) x3) fun M13 =>
    if x2 = 0 then (
      some (x4, M13)
    ) else (
      some (x5, M13)
    )
  ) else (
    grd (inb (((3 : Int32) * x1) + (1 : Int32)) 18) <|
    bindm (fset FM 1 (((((3 : Int32) * x1) + (1 : Int32))).toNatClampNeg) x6) fun M16 =>
    bnd (f_X9_from 3 M16) fun r17 M18 =>
    X9_tastes_b72 k41 FU x1 x2 x3 x4 x5 x6 (1 : Int32) (0 : Int32) M18
  )
def X9_tastes_b41 : Nat → Int32 → Int32 → Int32 → Int32 → Int32 → Int32 → FMem → Opt
  | 0, _, _, _, _, _, _, _ => none
  | nf + 1, x1, x2, x3, x4, x5, x6, FM => X9_tastes_b41s (X9_tastes_b41 nf) x1 x2 x3 x4 x5 x6 FM
def f_X9_tastes (a1 a2 : Int32) (FM : FMem) : Opt :=
  bnd (f_X9_isPerson a1 FM) fun r1 M2 =>
  if r1 = 0 then (
    some ((-1 : Int32), M2)
  ) else (
    bnd (f_X9_in a2 (0 : Int32) (1 : Int32) M2) fun r5 M6 =>
    if r5 = 0 then (
      some ((-1 : Int32), M6)
    ) else (
      grd (inb (((3 : Int32) * a1) + (1 : Int32)) 18) <|
      bindv (M6 1 (((((3 : Int32) * a1) + (1 : Int32))).toNatClampNeg)) fun v10 =>
      X9_tastes_b41 FU a1 a2 v10 (0 : Int32) (-4 : Int32) (31 : Int32) M6
    )
  )
set_option maxHeartbeats 4000000 in
set_option maxRecDepth 100000 in
theorem m_X9_tastes (l : Launch) (D : va_G) (cI : ClassId) (b : Nat) (a1 a2 : Int32) (FM : FMem) (r0 : Int32) (FR : FMem) (h : f_X9_tastes a1 a2 FM = some (r0, FR)) : Mt l (wdM D cI b) yX9_tastes cX9_tastes 10 (some .int) 4 97 [.ref (b + 0), .int a1, .int a2] FM (some (.int r0)) FR := by
  refine Mt.of (by decide) (cat_cons rfl (cat_cons rfl (cat_cons rfl cat_nil))) [some (.ref (b + 0)), some (.int a1), some (.int a2), none, none, none, none, none, none, none] rfl (Nat.le_of_ble_eq_true rfl) (fun V hV => ?_)
  have B181 : ∀ (k41 : Int32 → Int32 → Int32 → Int32 → Int32 → Int32 → FMem → Opt) (hk41 : ∀ (x1 : Int32) (x2 : Int32) (x3 : Int32) (x4 : Int32) (x5 : Int32) (x6 : Int32) (FM : FMem), k41 x1 x2 x3 x4 x5 x6 FM = some (r0, FR) → V FM 41 [some (.ref (b + 0)), some (.int x1), some (.int x2), some (.int x3), some (.int x4), some (.int x5), some (.int x6), none, none, none] []) (x1 : Int32) (x2 : Int32) (x3 : Int32) (x4 : Int32) (x6 : Int32) (s0 : Int32) (FM : FMem), X9_tastes_b181 k41 x1 x2 x3 x4 x6 s0 FM = some (r0, FR) → V FM 181 [some (.ref (b + 0)), some (.int x1), some (.int x2), some (.int x3), some (.int x4), none, some (.int x6), none, none, none] [.int s0] := by
    intro k41 hk41 x1 x2 x3 x4 x6 s0 FM h
    unfold X9_tastes_b181 at h
    refine r_istore hV dX9_tastes_181 (Nat.le_of_ble_eq_true rfl) rfl ?_
    refine r_iinc (v := (-1 : Int32)) hV dX9_tastes_183 rfl rfl rfl ?_
    refine r_goto hV 41 dX9_tastes_186 rfl ?_
    exact hk41 x1 x2 x3 x4 s0 (x6 + (-1 : Int32)) FM h
  have B166 : ∀ (k41 : Int32 → Int32 → Int32 → Int32 → Int32 → Int32 → FMem → Opt) (hk41 : ∀ (x1 : Int32) (x2 : Int32) (x3 : Int32) (x4 : Int32) (x5 : Int32) (x6 : Int32) (FM : FMem), k41 x1 x2 x3 x4 x5 x6 FM = some (r0, FR) → V FM 41 [some (.ref (b + 0)), some (.int x1), some (.int x2), some (.int x3), some (.int x4), some (.int x5), some (.int x6), none, none, none] []) (x1 : Int32) (x2 : Int32) (x3 : Int32) (x5 : Int32) (x6 : Int32) (x7 : Int32) (s0 : Int32) (s1 : Int32) (FM : FMem), X9_tastes_b166 k41 x1 x2 x3 x5 x6 x7 s0 s1 FM = some (r0, FR) → V FM 166 [some (.ref (b + 0)), some (.int x1), some (.int x2), some (.int x3), none, some (.int x5), some (.int x6), some (.int x7), none, none] [.int s1, .int s0] := by
    intro k41 hk41 x1 x2 x3 x5 x6 x7 s0 s1 FM h
    unfold X9_tastes_b166 at h
    refine r_iadd hV dX9_tastes_166 ?_
    refine r_bv h (fun v22 h => ?_)
    refine r_istore hV dX9_tastes_167 (Nat.le_of_ble_eq_true rfl) rfl ?_
    refine r_iload hV dX9_tastes_169 rfl ?_
    refine r_ifeq hV 179 dX9_tastes_171 rfl (fun c23 => ?_) (fun c23 => ?_)
    · have h := (if_pos c23).symm.trans h
      refine r_iload hV dX9_tastes_179 rfl ?_
      refine r_mask hV [true, true, true, true, true, false, true, false, false, false] ?_
      exact B181 k41 hk41 x1 x2 x3 v22 x6 x5 FM h
    · have h := (if_neg c23).symm.trans h
      refine r_iload hV dX9_tastes_174 rfl ?_
      refine r_goto hV 181 dX9_tastes_176 rfl ?_
      refine r_mask hV [true, true, true, true, true, false, true, false, false, false] ?_
      exact B181 k41 hk41 x1 x2 x3 v22 x6 x6 FM h
  have B135 : ∀ (k41 : Int32 → Int32 → Int32 → Int32 → Int32 → Int32 → FMem → Opt) (hk41 : ∀ (x1 : Int32) (x2 : Int32) (x3 : Int32) (x4 : Int32) (x5 : Int32) (x6 : Int32) (FM : FMem), k41 x1 x2 x3 x4 x5 x6 FM = some (r0, FR) → V FM 41 [some (.ref (b + 0)), some (.int x1), some (.int x2), some (.int x3), some (.int x4), some (.int x5), some (.int x6), none, none, none] []) (k72 : Int32 → Int32 → Int32 → Int32 → Int32 → Int32 → Int32 → Int32 → FMem → Opt) (hk72 : ∀ (x1 : Int32) (x2 : Int32) (x3 : Int32) (x4 : Int32) (x5 : Int32) (x6 : Int32) (x7 : Int32) (x8 : Int32) (FM : FMem), k72 x1 x2 x3 x4 x5 x6 x7 x8 FM = some (r0, FR) → V FM 72 [some (.ref (b + 0)), some (.int x1), some (.int x2), some (.int x3), some (.int x4), some (.int x5), some (.int x6), some (.int x7), some (.int x8), none] []) (k82 : Int32 → Int32 → Int32 → Int32 → Int32 → Int32 → Int32 → Int32 → Int32 → FMem → Opt) (hk82 : ∀ (x1 : Int32) (x2 : Int32) (x3 : Int32) (x4 : Int32) (x5 : Int32) (x6 : Int32) (x7 : Int32) (x8 : Int32) (x9 : Int32) (FM : FMem), k82 x1 x2 x3 x4 x5 x6 x7 x8 x9 FM = some (r0, FR) → V FM 82 [some (.ref (b + 0)), some (.int x1), some (.int x2), some (.int x3), some (.int x4), some (.int x5), some (.int x6), some (.int x7), some (.int x8), some (.int x9)] []) (x1 : Int32) (x2 : Int32) (x3 : Int32) (x4 : Int32) (x5 : Int32) (x6 : Int32) (x8 : Int32) (x9 : Int32) (s0 : Int32) (FM : FMem), X9_tastes_b135 k41 k72 k82 x1 x2 x3 x4 x5 x6 x8 x9 s0 FM = some (r0, FR) → V FM 135 [some (.ref (b + 0)), some (.int x1), some (.int x2), some (.int x3), some (.int x4), some (.int x5), some (.int x6), none, some (.int x8), some (.int x9)] [.int s0] := by
    intro k41 hk41 k72 hk72 k82 hk82 x1 x2 x3 x4 x5 x6 x8 x9 s0 FM h
    unfold X9_tastes_b135 at h
    refine r_istore hV dX9_tastes_135 (Nat.le_of_ble_eq_true rfl) rfl ?_
    refine r_iinc (v := (1 : Int32)) hV dX9_tastes_137 rfl rfl rfl ?_
    refine r_goto hV 82 dX9_tastes_140 rfl ?_
    exact hk82 x1 x2 x3 x4 x5 x6 s0 x8 (x9 + (1 : Int32)) FM h
  have B134 : ∀ (k41 : Int32 → Int32 → Int32 → Int32 → Int32 → Int32 → FMem → Opt) (hk41 : ∀ (x1 : Int32) (x2 : Int32) (x3 : Int32) (x4 : Int32) (x5 : Int32) (x6 : Int32) (FM : FMem), k41 x1 x2 x3 x4 x5 x6 FM = some (r0, FR) → V FM 41 [some (.ref (b + 0)), some (.int x1), some (.int x2), some (.int x3), some (.int x4), some (.int x5), some (.int x6), none, none, none] []) (k72 : Int32 → Int32 → Int32 → Int32 → Int32 → Int32 → Int32 → Int32 → FMem → Opt) (hk72 : ∀ (x1 : Int32) (x2 : Int32) (x3 : Int32) (x4 : Int32) (x5 : Int32) (x6 : Int32) (x7 : Int32) (x8 : Int32) (FM : FMem), k72 x1 x2 x3 x4 x5 x6 x7 x8 FM = some (r0, FR) → V FM 72 [some (.ref (b + 0)), some (.int x1), some (.int x2), some (.int x3), some (.int x4), some (.int x5), some (.int x6), some (.int x7), some (.int x8), none] []) (k82 : Int32 → Int32 → Int32 → Int32 → Int32 → Int32 → Int32 → Int32 → Int32 → FMem → Opt) (hk82 : ∀ (x1 : Int32) (x2 : Int32) (x3 : Int32) (x4 : Int32) (x5 : Int32) (x6 : Int32) (x7 : Int32) (x8 : Int32) (x9 : Int32) (FM : FMem), k82 x1 x2 x3 x4 x5 x6 x7 x8 x9 FM = some (r0, FR) → V FM 82 [some (.ref (b + 0)), some (.int x1), some (.int x2), some (.int x3), some (.int x4), some (.int x5), some (.int x6), some (.int x7), some (.int x8), some (.int x9)] []) (x1 : Int32) (x2 : Int32) (x3 : Int32) (x4 : Int32) (x5 : Int32) (x6 : Int32) (x8 : Int32) (x9 : Int32) (FM : FMem), X9_tastes_b134 k41 k72 k82 x1 x2 x3 x4 x5 x6 x8 x9 FM = some (r0, FR) → V FM 134 [some (.ref (b + 0)), some (.int x1), some (.int x2), some (.int x3), some (.int x4), some (.int x5), some (.int x6), none, some (.int x8), some (.int x9)] [] := by
    intro k41 hk41 k72 hk72 k82 hk82 x1 x2 x3 x4 x5 x6 x8 x9 FM h
    unfold X9_tastes_b134 at h
    refine r_iconst (v := (0 : Int32)) hV dX9_tastes_134 rfl ?_
    exact B135 k41 hk41 k72 hk72 k82 hk82 x1 x2 x3 x4 x5 x6 x8 x9 (0 : Int32) FM h
  have B130 : ∀ (k41 : Int32 → Int32 → Int32 → Int32 → Int32 → Int32 → FMem → Opt) (hk41 : ∀ (x1 : Int32) (x2 : Int32) (x3 : Int32) (x4 : Int32) (x5 : Int32) (x6 : Int32) (FM : FMem), k41 x1 x2 x3 x4 x5 x6 FM = some (r0, FR) → V FM 41 [some (.ref (b + 0)), some (.int x1), some (.int x2), some (.int x3), some (.int x4), some (.int x5), some (.int x6), none, none, none] []) (k72 : Int32 → Int32 → Int32 → Int32 → Int32 → Int32 → Int32 → Int32 → FMem → Opt) (hk72 : ∀ (x1 : Int32) (x2 : Int32) (x3 : Int32) (x4 : Int32) (x5 : Int32) (x6 : Int32) (x7 : Int32) (x8 : Int32) (FM : FMem), k72 x1 x2 x3 x4 x5 x6 x7 x8 FM = some (r0, FR) → V FM 72 [some (.ref (b + 0)), some (.int x1), some (.int x2), some (.int x3), some (.int x4), some (.int x5), some (.int x6), some (.int x7), some (.int x8), none] []) (k82 : Int32 → Int32 → Int32 → Int32 → Int32 → Int32 → Int32 → Int32 → Int32 → FMem → Opt) (hk82 : ∀ (x1 : Int32) (x2 : Int32) (x3 : Int32) (x4 : Int32) (x5 : Int32) (x6 : Int32) (x7 : Int32) (x8 : Int32) (x9 : Int32) (FM : FMem), k82 x1 x2 x3 x4 x5 x6 x7 x8 x9 FM = some (r0, FR) → V FM 82 [some (.ref (b + 0)), some (.int x1), some (.int x2), some (.int x3), some (.int x4), some (.int x5), some (.int x6), some (.int x7), some (.int x8), some (.int x9)] []) (x1 : Int32) (x2 : Int32) (x3 : Int32) (x4 : Int32) (x5 : Int32) (x6 : Int32) (x8 : Int32) (x9 : Int32) (FM : FMem), X9_tastes_b130 k41 k72 k82 x1 x2 x3 x4 x5 x6 x8 x9 FM = some (r0, FR) → V FM 130 [some (.ref (b + 0)), some (.int x1), some (.int x2), some (.int x3), some (.int x4), some (.int x5), some (.int x6), none, some (.int x8), some (.int x9)] [] := by
    intro k41 hk41 k72 hk72 k82 hk82 x1 x2 x3 x4 x5 x6 x8 x9 FM h
    unfold X9_tastes_b130 at h
    refine r_iconst (v := (1 : Int32)) hV dX9_tastes_130 rfl ?_
    refine r_goto hV 135 dX9_tastes_131 rfl ?_
    exact B135 k41 hk41 k72 hk72 k82 hk82 x1 x2 x3 x4 x5 x6 x8 x9 (1 : Int32) FM h
  have B82 : ∀ (k41 : Int32 → Int32 → Int32 → Int32 → Int32 → Int32 → FMem → Opt) (hk41 : ∀ (x1 : Int32) (x2 : Int32) (x3 : Int32) (x4 : Int32) (x5 : Int32) (x6 : Int32) (FM : FMem), k41 x1 x2 x3 x4 x5 x6 FM = some (r0, FR) → V FM 41 [some (.ref (b + 0)), some (.int x1), some (.int x2), some (.int x3), some (.int x4), some (.int x5), some (.int x6), none, none, none] []) (k72 : Int32 → Int32 → Int32 → Int32 → Int32 → Int32 → Int32 → Int32 → FMem → Opt) (hk72 : ∀ (x1 : Int32) (x2 : Int32) (x3 : Int32) (x4 : Int32) (x5 : Int32) (x6 : Int32) (x7 : Int32) (x8 : Int32) (FM : FMem), k72 x1 x2 x3 x4 x5 x6 x7 x8 FM = some (r0, FR) → V FM 72 [some (.ref (b + 0)), some (.int x1), some (.int x2), some (.int x3), some (.int x4), some (.int x5), some (.int x6), some (.int x7), some (.int x8), none] []) (k82 : Int32 → Int32 → Int32 → Int32 → Int32 → Int32 → Int32 → Int32 → Int32 → FMem → Opt) (hk82 : ∀ (x1 : Int32) (x2 : Int32) (x3 : Int32) (x4 : Int32) (x5 : Int32) (x6 : Int32) (x7 : Int32) (x8 : Int32) (x9 : Int32) (FM : FMem), k82 x1 x2 x3 x4 x5 x6 x7 x8 x9 FM = some (r0, FR) → V FM 82 [some (.ref (b + 0)), some (.int x1), some (.int x2), some (.int x3), some (.int x4), some (.int x5), some (.int x6), some (.int x7), some (.int x8), some (.int x9)] []) (x1 : Int32) (x2 : Int32) (x3 : Int32) (x4 : Int32) (x5 : Int32) (x6 : Int32) (x7 : Int32) (x8 : Int32) (x9 : Int32) (FM : FMem), X9_tastes_b82s k41 k72 k82 x1 x2 x3 x4 x5 x6 x7 x8 x9 FM = some (r0, FR) → V FM 82 [some (.ref (b + 0)), some (.int x1), some (.int x2), some (.int x3), some (.int x4), some (.int x5), some (.int x6), some (.int x7), some (.int x8), some (.int x9)] [] := by
    intro k41 hk41 k72 hk72 k82 hk82 x1 x2 x3 x4 x5 x6 x7 x8 x9 FM h
    unfold X9_tastes_b82s at h
    refine r_iload hV dX9_tastes_82 rfl ?_
    refine r_aload_n hV dX9_tastes_84 rfl ?_
    refine r_geto hV fl_X9_127 obM_0 rfl dX9_tastes_85 ?_
    refine r_icmpge hV 143 dX9_tastes_88 rfl (fun c24 => ?_) (fun c24 => ?_)
    · have h := (if_pos c24).symm.trans h
      refine r_aload_n hV dX9_tastes_143 rfl ?_
      obtain ⟨r25, M26, q27, h⟩ := bnd_some h
      refine r_cVi hV (m_X9_goes l D cI b FM _ _ q27) ml_X9_154 obM_0 rfl rfl (by decide) (Nat.le_of_ble_eq_true rfl) rfl dX9_tastes_144 ?_
      refine r_pop hV dX9_tastes_147 rfl ?_
      refine r_iinc (v := (1 : Int32)) hV dX9_tastes_148 rfl rfl rfl ?_
      refine r_goto hV 72 dX9_tastes_151 rfl ?_
      refine r_mask hV [true, true, true, true, true, true, true, true, true, false] ?_
      exact hk72 x1 x2 x3 x4 x5 x6 x7 (x8 + (1 : Int32)) M26 h
    · have h := (if_neg c24).symm.trans h
      refine r_iload hV dX9_tastes_91 rfl ?_
      refine r_ifeq hV 134 dX9_tastes_93 rfl (fun c28 => ?_) (fun c28 => ?_)
      · have h := (if_pos c28).symm.trans h
        refine r_mask hV [true, true, true, true, true, true, true, false, true, true] ?_
        exact B134 k41 hk41 k72 hk72 k82 hk82 x1 x2 x3 x4 x5 x6 x8 x9 FM h
      · have h := (if_neg c28).symm.trans h
        refine r_aload_n hV dX9_tastes_96 rfl ?_
        refine r_geto hV fl_X9_25 obM_0 rfl dX9_tastes_97 ?_
        refine r_iconst (v := (2 : Int32)) hV dX9_tastes_100 rfl ?_
        refine r_iload hV dX9_tastes_101 rfl ?_
        refine r_imul hV dX9_tastes_103 ?_
        refine r_iconst (v := (1 : Int32)) hV dX9_tastes_104 rfl ?_
        refine r_iadd hV dX9_tastes_105 ?_
        obtain ⟨g29, h⟩ := grd_some h
        refine r_ald hV arM_6 (inb_in g29) (((((2 : Int32) * x9) + (1 : Int32))).toNatClampNeg) rfl dX9_tastes_106 ?_
        refine r_iload hV dX9_tastes_107 rfl ?_
        refine r_icmpne hV 130 dX9_tastes_109 rfl (fun c30 => ?_) (fun c30 => ?_)
        · have h := (if_neg c30).symm.trans h
          refine r_mask hV [true, true, true, true, true, true, true, false, true, true] ?_
          exact B130 k41 hk41 k72 hk72 k82 hk82 x1 x2 x3 x4 x5 x6 x8 x9 FM h
        · have h := (if_pos c30).symm.trans h
          refine r_aload_n hV dX9_tastes_112 rfl ?_
          refine r_geto hV fl_X9_25 obM_0 rfl dX9_tastes_113 ?_
          refine r_iconst (v := (2 : Int32)) hV dX9_tastes_116 rfl ?_
          refine r_iload hV dX9_tastes_117 rfl ?_
          refine r_imul hV dX9_tastes_119 ?_
          obtain ⟨g31, h⟩ := grd_some h
          refine r_ald hV arM_6 (inb_in g31) ((((2 : Int32) * x9)).toNatClampNeg) rfl dX9_tastes_120 ?_
          refine r_aload_n hV dX9_tastes_121 rfl ?_
          refine r_geto hV fl_X9_40 obM_0 rfl dX9_tastes_122 ?_
          refine r_iconst (v := (4 : Int32)) hV dX9_tastes_125 rfl ?_
          refine r_ald hV arM_11 (inb_in rfl) (4) rfl dX9_tastes_126 ?_
          refine r_icmpne hV 134 dX9_tastes_127 rfl (fun c32 => ?_) (fun c32 => ?_)
          · have h := (if_neg c32).symm.trans h
            refine r_mask hV [true, true, true, true, true, true, true, false, true, true] ?_
            exact B134 k41 hk41 k72 hk72 k82 hk82 x1 x2 x3 x4 x5 x6 x8 x9 FM h
          · have h := (if_pos c32).symm.trans h
            refine r_mask hV [true, true, true, true, true, true, true, false, true, true] ?_
            exact B130 k41 hk41 k72 hk72 k82 hk82 x1 x2 x3 x4 x5 x6 x8 x9 FM h
  have L82 : ∀ (k41 : Int32 → Int32 → Int32 → Int32 → Int32 → Int32 → FMem → Opt) (hk41 : ∀ (x1 : Int32) (x2 : Int32) (x3 : Int32) (x4 : Int32) (x5 : Int32) (x6 : Int32) (FM : FMem), k41 x1 x2 x3 x4 x5 x6 FM = some (r0, FR) → V FM 41 [some (.ref (b + 0)), some (.int x1), some (.int x2), some (.int x3), some (.int x4), some (.int x5), some (.int x6), none, none, none] []) (k72 : Int32 → Int32 → Int32 → Int32 → Int32 → Int32 → Int32 → Int32 → FMem → Opt) (hk72 : ∀ (x1 : Int32) (x2 : Int32) (x3 : Int32) (x4 : Int32) (x5 : Int32) (x6 : Int32) (x7 : Int32) (x8 : Int32) (FM : FMem), k72 x1 x2 x3 x4 x5 x6 x7 x8 FM = some (r0, FR) → V FM 72 [some (.ref (b + 0)), some (.int x1), some (.int x2), some (.int x3), some (.int x4), some (.int x5), some (.int x6), some (.int x7), some (.int x8), none] []) (nf : Nat) (x1 : Int32) (x2 : Int32) (x3 : Int32) (x4 : Int32) (x5 : Int32) (x6 : Int32) (x7 : Int32) (x8 : Int32) (x9 : Int32) (FM : FMem), X9_tastes_b82 k41 k72 nf x1 x2 x3 x4 x5 x6 x7 x8 x9 FM = some (r0, FR) → V FM 82 [some (.ref (b + 0)), some (.int x1), some (.int x2), some (.int x3), some (.int x4), some (.int x5), some (.int x6), some (.int x7), some (.int x8), some (.int x9)] [] := by
    intro k41 hk41 k72 hk72 nf
    induction nf with
    | zero => intro x1 x2 x3 x4 x5 x6 x7 x8 x9 FM h; exact absurd (show (none : Opt) = some (r0, FR) from h) (fun h9 => by cases h9)
    | succ nf ih => intro x1 x2 x3 x4 x5 x6 x7 x8 x9 FM h; exact B82 k41 hk41 k72 hk72 (X9_tastes_b82 k41 k72 nf) ih x1 x2 x3 x4 x5 x6 x7 x8 x9 FM h
  have B72 : ∀ (k41 : Int32 → Int32 → Int32 → Int32 → Int32 → Int32 → FMem → Opt) (hk41 : ∀ (x1 : Int32) (x2 : Int32) (x3 : Int32) (x4 : Int32) (x5 : Int32) (x6 : Int32) (FM : FMem), k41 x1 x2 x3 x4 x5 x6 FM = some (r0, FR) → V FM 41 [some (.ref (b + 0)), some (.int x1), some (.int x2), some (.int x3), some (.int x4), some (.int x5), some (.int x6), none, none, none] []) (k72 : Int32 → Int32 → Int32 → Int32 → Int32 → Int32 → Int32 → Int32 → FMem → Opt) (hk72 : ∀ (x1 : Int32) (x2 : Int32) (x3 : Int32) (x4 : Int32) (x5 : Int32) (x6 : Int32) (x7 : Int32) (x8 : Int32) (FM : FMem), k72 x1 x2 x3 x4 x5 x6 x7 x8 FM = some (r0, FR) → V FM 72 [some (.ref (b + 0)), some (.int x1), some (.int x2), some (.int x3), some (.int x4), some (.int x5), some (.int x6), some (.int x7), some (.int x8), none] []) (x1 : Int32) (x2 : Int32) (x3 : Int32) (x4 : Int32) (x5 : Int32) (x6 : Int32) (x7 : Int32) (x8 : Int32) (FM : FMem), X9_tastes_b72s k41 k72 x1 x2 x3 x4 x5 x6 x7 x8 FM = some (r0, FR) → V FM 72 [some (.ref (b + 0)), some (.int x1), some (.int x2), some (.int x3), some (.int x4), some (.int x5), some (.int x6), some (.int x7), some (.int x8), none] [] := by
    intro k41 hk41 k72 hk72 x1 x2 x3 x4 x5 x6 x7 x8 FM h
    unfold X9_tastes_b72s at h
    refine r_iload hV dX9_tastes_72 rfl ?_
    refine r_bipush (v := (60 : Int32)) hV dX9_tastes_74 rfl ?_
    refine r_icmpgt hV 154 dX9_tastes_76 rfl (fun c20 => ?_) (fun c20 => ?_)
    · have h := (if_pos c20).symm.trans h
      refine r_iload hV dX9_tastes_154 rfl ?_
      refine r_iload hV dX9_tastes_156 rfl ?_
      refine r_ifeq hV 165 dX9_tastes_158 rfl (fun c21 => ?_) (fun c21 => ?_)
      · have h := (if_pos c21).symm.trans h
        refine r_iconst (v := (0 : Int32)) hV dX9_tastes_165 rfl ?_
        refine r_mask hV [true, true, true, true, false, true, true, true, false, false] ?_
        exact B166 k41 hk41 x1 x2 x3 x5 x6 x7 x4 (0 : Int32) FM h
      · have h := (if_neg c21).symm.trans h
        refine r_iconst (v := (1 : Int32)) hV dX9_tastes_161 rfl ?_
        refine r_goto hV 166 dX9_tastes_162 rfl ?_
        refine r_mask hV [true, true, true, true, false, true, true, true, false, false] ?_
        exact B166 k41 hk41 x1 x2 x3 x5 x6 x7 x4 (1 : Int32) FM h
    · have h := (if_neg c20).symm.trans h
      refine r_iconst (v := (0 : Int32)) hV dX9_tastes_79 rfl ?_
      refine r_istore hV dX9_tastes_80 (Nat.le_of_ble_eq_true rfl) rfl ?_
      exact L82 k41 hk41 k72 hk72 FU x1 x2 x3 x4 x5 x6 x7 x8 (0 : Int32) FM h
  have L72 : ∀ (k41 : Int32 → Int32 → Int32 → Int32 → Int32 → Int32 → FMem → Opt) (hk41 : ∀ (x1 : Int32) (x2 : Int32) (x3 : Int32) (x4 : Int32) (x5 : Int32) (x6 : Int32) (FM : FMem), k41 x1 x2 x3 x4 x5 x6 FM = some (r0, FR) → V FM 41 [some (.ref (b + 0)), some (.int x1), some (.int x2), some (.int x3), some (.int x4), some (.int x5), some (.int x6), none, none, none] []) (nf : Nat) (x1 : Int32) (x2 : Int32) (x3 : Int32) (x4 : Int32) (x5 : Int32) (x6 : Int32) (x7 : Int32) (x8 : Int32) (FM : FMem), X9_tastes_b72 k41 nf x1 x2 x3 x4 x5 x6 x7 x8 FM = some (r0, FR) → V FM 72 [some (.ref (b + 0)), some (.int x1), some (.int x2), some (.int x3), some (.int x4), some (.int x5), some (.int x6), some (.int x7), some (.int x8), none] [] := by
    intro k41 hk41 nf
    induction nf with
    | zero => intro x1 x2 x3 x4 x5 x6 x7 x8 FM h; exact absurd (show (none : Opt) = some (r0, FR) from h) (fun h9 => by cases h9)
    | succ nf ih => intro x1 x2 x3 x4 x5 x6 x7 x8 FM h; exact B72 k41 hk41 (X9_tastes_b72 k41 nf) ih x1 x2 x3 x4 x5 x6 x7 x8 FM h
  have B41 : ∀ (k41 : Int32 → Int32 → Int32 → Int32 → Int32 → Int32 → FMem → Opt) (hk41 : ∀ (x1 : Int32) (x2 : Int32) (x3 : Int32) (x4 : Int32) (x5 : Int32) (x6 : Int32) (FM : FMem), k41 x1 x2 x3 x4 x5 x6 FM = some (r0, FR) → V FM 41 [some (.ref (b + 0)), some (.int x1), some (.int x2), some (.int x3), some (.int x4), some (.int x5), some (.int x6), none, none, none] []) (x1 : Int32) (x2 : Int32) (x3 : Int32) (x4 : Int32) (x5 : Int32) (x6 : Int32) (FM : FMem), X9_tastes_b41s k41 x1 x2 x3 x4 x5 x6 FM = some (r0, FR) → V FM 41 [some (.ref (b + 0)), some (.int x1), some (.int x2), some (.int x3), some (.int x4), some (.int x5), some (.int x6), none, none, none] [] := by
    intro k41 hk41 x1 x2 x3 x4 x5 x6 FM h
    unfold X9_tastes_b41s at h
    refine r_iload hV dX9_tastes_41 rfl ?_
    refine r_iflt hV 189 dX9_tastes_43 rfl (fun c11 => ?_) (fun c11 => ?_)
    · have h := (if_pos c11).symm.trans h
      refine r_aload_n hV dX9_tastes_189 rfl ?_
      refine r_geto hV fl_X9_7 obM_0 rfl dX9_tastes_190 ?_
      refine r_iconst (v := (3 : Int32)) hV dX9_tastes_193 rfl ?_
      refine r_iload_n hV dX9_tastes_194 rfl ?_
      refine r_imul hV dX9_tastes_195 ?_
      refine r_iconst (v := (1 : Int32)) hV dX9_tastes_196 rfl ?_
      refine r_iadd hV dX9_tastes_197 ?_
      refine r_iload_n hV dX9_tastes_198 rfl ?_
      obtain ⟨g12, h⟩ := grd_some h
      refine r_ast hV arM_1 (inb_in g12) (((((3 : Int32) * x1) + (1 : Int32))).toNatClampNeg) rfl dX9_tastes_199 ?_
      refine r_bm h (fun M13 h => ?_)
      refine r_iload_n hV dX9_tastes_200 rfl ?_
      refine r_ifne hV 209 dX9_tastes_201 rfl (fun c14 => ?_) (fun c14 => ?_)
      · have h := (if_neg c14).symm.trans h
        refine r_iload hV dX9_tastes_209 rfl ?_
        exact r_iret hV rfl dX9_tastes_211 (ret_r h) (ret_m h)
      · have h := (if_pos c14).symm.trans h
        refine r_iload hV dX9_tastes_204 rfl ?_
        refine r_goto hV 211 dX9_tastes_206 rfl ?_
        exact r_iret hV rfl dX9_tastes_211 (ret_r h) (ret_m h)
    · have h := (if_neg c11).symm.trans h
      refine r_aload_n hV dX9_tastes_46 rfl ?_
      refine r_geto hV fl_X9_7 obM_0 rfl dX9_tastes_47 ?_
      refine r_iconst (v := (3 : Int32)) hV dX9_tastes_50 rfl ?_
      refine r_iload_n hV dX9_tastes_51 rfl ?_
      refine r_imul hV dX9_tastes_52 ?_
      refine r_iconst (v := (1 : Int32)) hV dX9_tastes_53 rfl ?_
      refine r_iadd hV dX9_tastes_54 ?_
      refine r_iload hV dX9_tastes_55 rfl ?_
      obtain ⟨g15, h⟩ := grd_some h
      refine r_ast hV arM_1 (inb_in g15) (((((3 : Int32) * x1) + (1 : Int32))).toNatClampNeg) rfl dX9_tastes_57 ?_
      refine r_bm h (fun M16 h => ?_)
      refine r_aload_n hV dX9_tastes_58 rfl ?_
      refine r_aload_n hV dX9_tastes_59 rfl ?_
      refine r_geto hV fl_X9_16 obM_0 rfl dX9_tastes_60 ?_
      obtain ⟨r17, M18, q19, h⟩ := bnd_some h
      refine r_cVv hV (m_X9_from l D cI b 3 arM_3 M16 _ _ q19) ml_X9_166 obM_0 rfl rfl (by decide) (Nat.le_of_ble_eq_true rfl) rfl dX9_tastes_63 ?_
      refine r_iconst (v := (1 : Int32)) hV dX9_tastes_66 rfl ?_
      refine r_istore hV dX9_tastes_67 (Nat.le_of_ble_eq_true rfl) rfl ?_
      refine r_iconst (v := (0 : Int32)) hV dX9_tastes_69 rfl ?_
      refine r_istore hV dX9_tastes_70 (Nat.le_of_ble_eq_true rfl) rfl ?_
      exact L72 k41 hk41 FU x1 x2 x3 x4 x5 x6 (1 : Int32) (0 : Int32) M18 h
  have L41 : ∀ (nf : Nat) (x1 : Int32) (x2 : Int32) (x3 : Int32) (x4 : Int32) (x5 : Int32) (x6 : Int32) (FM : FMem), X9_tastes_b41 nf x1 x2 x3 x4 x5 x6 FM = some (r0, FR) → V FM 41 [some (.ref (b + 0)), some (.int x1), some (.int x2), some (.int x3), some (.int x4), some (.int x5), some (.int x6), none, none, none] [] := by
    intro  nf
    induction nf with
    | zero => intro x1 x2 x3 x4 x5 x6 FM h; exact absurd (show (none : Opt) = some (r0, FR) from h) (fun h9 => by cases h9)
    | succ nf ih => intro x1 x2 x3 x4 x5 x6 FM h; exact B41 (X9_tastes_b41 nf) ih x1 x2 x3 x4 x5 x6 FM h
  unfold f_X9_tastes at h
  refine r_aload_n hV dX9_tastes_0 rfl ?_
  refine r_iload_n hV dX9_tastes_1 rfl ?_
  obtain ⟨r1, M2, q3, h⟩ := bnd_some h
  refine r_cVi hV (m_X9_isPerson l D cI b a1 FM _ _ q3) ml_X9_157 obM_0 rfl rfl (by decide) (Nat.le_of_ble_eq_true rfl) rfl dX9_tastes_2 ?_
  refine r_ifeq hV 17 dX9_tastes_5 rfl (fun c4 => ?_) (fun c4 => ?_)
  · have h := (if_pos c4).symm.trans h
    refine r_iconst (v := (-1 : Int32)) hV dX9_tastes_17 rfl ?_
    exact r_iret hV rfl dX9_tastes_18 (ret_r h) (ret_m h)
  · have h := (if_neg c4).symm.trans h
    refine r_iload_n hV dX9_tastes_8 rfl ?_
    refine r_iconst (v := (0 : Int32)) hV dX9_tastes_9 rfl ?_
    refine r_iconst (v := (1 : Int32)) hV dX9_tastes_10 rfl ?_
    obtain ⟨r5, M6, q7, h⟩ := bnd_some h
    refine r_cSi hV (m_X9_in l D cI b a2 (0 : Int32) (1 : Int32) M2 _ _ q7) ml_X9_70 rfl (by decide) (Nat.le_of_ble_eq_true rfl) rfl dX9_tastes_11 ?_
    refine r_ifne hV 19 dX9_tastes_14 rfl (fun c8 => ?_) (fun c8 => ?_)
    · have h := (if_neg c8).symm.trans h
      refine r_aload_n hV dX9_tastes_19 rfl ?_
      refine r_geto hV fl_X9_7 obM_0 rfl dX9_tastes_20 ?_
      refine r_iconst (v := (3 : Int32)) hV dX9_tastes_23 rfl ?_
      refine r_iload_n hV dX9_tastes_24 rfl ?_
      refine r_imul hV dX9_tastes_25 ?_
      refine r_iconst (v := (1 : Int32)) hV dX9_tastes_26 rfl ?_
      refine r_iadd hV dX9_tastes_27 ?_
      obtain ⟨g9, h⟩ := grd_some h
      refine r_ald hV arM_1 (inb_in g9) (((((3 : Int32) * a1) + (1 : Int32))).toNatClampNeg) rfl dX9_tastes_28 ?_
      refine r_bv h (fun v10 h => ?_)
      refine r_istore_n hV dX9_tastes_29 (Nat.le_of_ble_eq_true rfl) rfl ?_
      refine r_iconst (v := (0 : Int32)) hV dX9_tastes_30 rfl ?_
      refine r_istore hV dX9_tastes_31 (Nat.le_of_ble_eq_true rfl) rfl ?_
      refine r_bipush (v := (-4 : Int32)) hV dX9_tastes_33 rfl ?_
      refine r_istore hV dX9_tastes_35 (Nat.le_of_ble_eq_true rfl) rfl ?_
      refine r_bipush (v := (31 : Int32)) hV dX9_tastes_37 rfl ?_
      refine r_istore hV dX9_tastes_39 (Nat.le_of_ble_eq_true rfl) rfl ?_
      exact L41 FU a1 a2 v10 (0 : Int32) (-4 : Int32) (31 : Int32) M6 h
    · have h := (if_pos c8).symm.trans h
      refine r_iconst (v := (-1 : Int32)) hV dX9_tastes_17 rfl ?_
      exact r_iret hV rfl dX9_tastes_18 (ret_r h) (ret_m h)
def X9_lasts_b219s (k219 : Int32 → Int32 → Int32 → Int32 → Int32 → FMem → Opt) (x5 : Int32) (x6 : Int32) (x7 : Int32) (x8 : Int32) (x9 : Int32) (FM : FMem) : Opt :=
  if x9 ≤ 0 then (
    if x5 = 0 then (
      grd (nz x8) <|
      some ((x6 / x8), FM)
    ) else (
      grd (nz x8) <|
      some ((x7 / x8), FM)
    )
  ) else (
    grd (nz x9) <|
    bindv (x8 - x8 / x9 * x9) fun v28 =>
    k219 x5 x6 x7 x9 v28 FM
  )
def X9_lasts_b219 : Nat → Int32 → Int32 → Int32 → Int32 → Int32 → FMem → Opt
  | 0, _, _, _, _, _, _ => none
  | nf + 1, x5, x6, x7, x8, x9, FM => X9_lasts_b219s (X9_lasts_b219 nf) x5 x6 x7 x8 x9 FM
def X9_lasts_b202 (k84 : Int32 → Int32 → Int32 → Int32 → Int32 → Int32 → Int32 → Int32 → FMem → Opt) (x1 : Int32) (x2 : Int32) (x3 : Int32) (x4 : Int32) (x5 : Int32) (x7 : Int32) (x8 : Int32) (s0 : Int32) (s1 : Int32) (FM : FMem) : Opt :=
  bindv (s0 + s1) fun v35 =>
  k84 x1 x2 x3 x4 x5 v35 x7 (x8 + (1 : Int32)) FM
def X9_lasts_b181 (k84 : Int32 → Int32 → Int32 → Int32 → Int32 → Int32 → Int32 → Int32 → FMem → Opt) (k114 : Int32 → Int32 → Int32 → Int32 → Int32 → Int32 → Int32 → Int32 → Int32 → Int32 → Int32 → FMem → Opt) (x1 : Int32) (x2 : Int32) (x3 : Int32) (x4 : Int32) (x5 : Int32) (x6 : Int32) (x7 : Int32) (x8 : Int32) (x9 : Int32) (x11 : Int32) (s0 : Int32) (FM : FMem) : Opt :=
  k114 x1 x2 x3 x4 x5 x6 x7 x8 x9 s0 (x11 + (1 : Int32)) FM
def X9_lasts_b176 (k84 : Int32 → Int32 → Int32 → Int32 → Int32 → Int32 → Int32 → Int32 → FMem → Opt) (k114 : Int32 → Int32 → Int32 → Int32 → Int32 → Int32 → Int32 → Int32 → Int32 → Int32 → Int32 → FMem → Opt) (x1 : Int32) (x2 : Int32) (x3 : Int32) (x4 : Int32) (x5 : Int32) (x6 : Int32) (x7 : Int32) (x8 : Int32) (x9 : Int32) (x11 : Int32) (FM : FMem) : Opt :=
  X9_lasts_b181 k84 k114 x1 x2 x3 x4 x5 x6 x7 x8 x9 x11 (1 : Int32) FM
def X9_lasts_b161 (k84 : Int32 → Int32 → Int32 → Int32 → Int32 → Int32 → Int32 → Int32 → FMem → Opt) (k114 : Int32 → Int32 → Int32 → Int32 → Int32 → Int32 → Int32 → Int32 → Int32 → Int32 → Int32 → FMem → Opt) (x1 : Int32) (x2 : Int32) (x3 : Int32) (x4 : Int32) (x5 : Int32) (x6 : Int32) (x7 : Int32) (x8 : Int32) (x10 : Int32) (x11 : Int32) (s0 : Int32) (s1 : Int32) (FM : FMem) : Opt :=
  bindv (s0 * s1) fun v45 =>
  bnd (f_X9_goes FM) fun r46 M47 =>
  if r46 = 0 then (
    if x10 = 0 then (
      X9_lasts_b181 k84 k114 x1 x2 x3 x4 x5 x6 x7 x8 v45 x11 (0 : Int32) M47
    ) else (
      X9_lasts_b176 k84 k114 x1 x2 x3 x4 x5 x6 x7 x8 v45 x11 M47
    )
  ) else (
    X9_lasts_b176 k84 k114 x1 x2 x3 x4 x5 x6 x7 x8 v45 x11 M47
  )
def X9_lasts_b136 (k84 : Int32 → Int32 → Int32 → Int32 → Int32 → Int32 → Int32 → Int32 → FMem → Opt) (k114 : Int32 → Int32 → Int32 → Int32 → Int32 → Int32 → Int32 → Int32 → Int32 → Int32 → Int32 → FMem → Opt) (x1 : Int32) (x2 : Int32) (x3 : Int32) (x4 : Int32) (x5 : Int32) (x6 : Int32) (x7 : Int32) (x8 : Int32) (x9 : Int32) (x10 : Int32) (x11 : Int32) (s1 : Int32) (FM : FMem) : Opt :=
  bindm (fset FM 0 21 s1) fun M40 =>
  bnd (f_X9_has x8 x11 M40) fun r41 M42 =>
  if r41 = 0 then (
    X9_lasts_b161 k84 k114 x1 x2 x3 x4 x5 x6 x7 x8 x10 x11 x9 ((10 : Int32) - x4) M42
  ) else (
    X9_lasts_b161 k84 k114 x1 x2 x3 x4 x5 x6 x7 x8 x10 x11 x9 x4 M42
  )
def X9_lasts_b114s (k84 : Int32 → Int32 → Int32 → Int32 → Int32 → Int32 → Int32 → Int32 → FMem → Opt) (k114 : Int32 → Int32 → Int32 → Int32 → Int32 → Int32 → Int32 → Int32 → Int32 → Int32 → Int32 → FMem → Opt) (x1 : Int32) (x2 : Int32) (x3 : Int32) (x4 : Int32) (x5 : Int32) (x6 : Int32) (x7 : Int32) (x8 : Int32) (x9 : Int32) (x10 : Int32) (x11 : Int32) (FM : FMem) : Opt :=
  if x1 ≤ x11 then (
    if x10 = 0 then (
      X9_lasts_b202 k84 x1 x2 x3 x4 x5 x7 x8 x6 x9 FM
    ) else (
      X9_lasts_b202 k84 x1 x2 x3 x4 x5 x7 x8 x6 (0 : Int32) FM
    )
  ) else (
    bnd (f_X9_has x8 x11 FM) fun r36 M37 =>
    if r36 = 0 then (
      X9_lasts_b136 k84 k114 x1 x2 x3 x4 x5 x6 x7 x8 x9 x10 x11 (0 : Int32) M37
    ) else (
      X9_lasts_b136 k84 k114 x1 x2 x3 x4 x5 x6 x7 x8 x9 x10 x11 x3 M37
    )
  )
def X9_lasts_b114 (k84 : Int32 → Int32 → Int32 → Int32 → Int32 → Int32 → Int32 → Int32 → FMem → Opt) : Nat → Int32 → Int32 → Int32 → Int32 → Int32 → Int32 → Int32 → Int32 → Int32 → Int32 → Int32 → FMem → Opt
  | 0, _, _, _, _, _, _, _, _, _, _, _, _ => none
  | nf + 1, x1, x2, x3, x4, x5, x6, x7, x8, x9, x10, x11, FM => X9_lasts_b114s k84 (X9_lasts_b114 k84 nf) x1 x2 x3 x4 x5 x6 x7 x8 x9 x10 x11 FM
def X9_lasts_b84s (k84 : Int32 → Int32 → Int32 → Int32 → Int32 → Int32 → Int32 → Int32 → FMem → Opt) (x1 : Int32) (x2 : Int32) (x3 : Int32) (x4 : Int32) (x5 : Int32) (x6 : Int32) (x7 : Int32) (x8 : Int32) (FM : FMem) : Opt :=
  if ((1 : Int32) <<< (x1 &&& 31)) ≤ x8 then (
    X9_lasts_b219 FU x5 x6 x7 x6 x7 FM
  ) else (
    bnd (f_X9_from 2 FM) fun r29 M30 =>
    bindm (fset M30 0 20 x2) fun M32 =>
    X9_lasts_b114 k84 FU x1 x2 x3 x4 x5 x6 x7 x8 (1 : Int32) (0 : Int32) (0 : Int32) M32
  )
def X9_lasts_b84 : Nat → Int32 → Int32 → Int32 → Int32 → Int32 → Int32 → Int32 → Int32 → FMem → Opt
  | 0, _, _, _, _, _, _, _, _, _ => none
  | nf + 1, x1, x2, x3, x4, x5, x6, x7, x8, FM => X9_lasts_b84s (X9_lasts_b84 nf) x1 x2 x3 x4 x5 x6 x7 x8 FM
def X9_lasts_b62s (k62 : Int32 → Int32 → Int32 → Int32 → Int32 → Int32 → Int32 → Int32 → FMem → Opt) (x1 : Int32) (x2 : Int32) (x3 : Int32) (x4 : Int32) (x5 : Int32) (x6 : Int32) (x7 : Int32) (x8 : Int32) (FM : FMem) : Opt :=
  if x1 ≤ x8 then (
    X9_lasts_b84 FU x1 x2 x3 x4 x5 x6 x7 (0 : Int32) FM
  ) else (
    bindv (x7 * (10 : Int32)) fun v51 =>
    k62 x1 x2 x3 x4 x5 x6 v51 (x8 + (1 : Int32)) FM
  )
def X9_lasts_b62 : Nat → Int32 → Int32 → Int32 → Int32 → Int32 → Int32 → Int32 → Int32 → FMem → Opt
  | 0, _, _, _, _, _, _, _, _, _ => none
  | nf + 1, x1, x2, x3, x4, x5, x6, x7, x8, FM => X9_lasts_b62s (X9_lasts_b62 nf) x1 x2 x3 x4 x5 x6 x7 x8 FM
def f_X9_lasts (a1 a2 a3 a4 a5 : Int32) (FM : FMem) : Opt :=
  bnd (f_X9_in a1 (0 : Int32) (6 : Int32) FM) fun r1 M2 =>
  if r1 = 0 then (
    some ((-1 : Int32), M2)
  ) else (
    bnd (f_X9_in a2 (1 : Int32) (31 : Int32) M2) fun r5 M6 =>
    if r5 = 0 then (
      some ((-1 : Int32), M6)
    ) else (
      bnd (f_X9_in a3 (1 : Int32) (9 : Int32) M6) fun r9 M10 =>
      if r9 = 0 then (
        some ((-1 : Int32), M10)
      ) else (
        bnd (f_X9_in a4 (0 : Int32) (10 : Int32) M10) fun r13 M14 =>
        if r13 = 0 then (
          some ((-1 : Int32), M14)
        ) else (
          bnd (f_X9_in a5 (0 : Int32) (1 : Int32) M14) fun r17 M18 =>
          if r17 = 0 then (
            some ((-1 : Int32), M18)
          ) else (
            X9_lasts_b62 FU a1 a2 a3 a4 a5 (0 : Int32) (1 : Int32) (0 : Int32) M18
          )
        )
      )
    )
  )
set_option maxHeartbeats 4000000 in
set_option maxRecDepth 100000 in
theorem m_X9_lasts (l : Launch) (D : va_G) (cI : ClassId) (b : Nat) (a1 a2 a3 a4 a5 : Int32) (FM : FMem) (r0 : Int32) (FR : FMem) (h : f_X9_lasts a1 a2 a3 a4 a5 FM = some (r0, FR)) : Mt l (wdM D cI b) yX9_lasts cX9_lasts 12 (some .int) 4 97 [.ref (b + 0), .int a1, .int a2, .int a3, .int a4, .int a5] FM (some (.int r0)) FR := by
  refine Mt.of (by decide) (cat_cons rfl (cat_cons rfl (cat_cons rfl (cat_cons rfl (cat_cons rfl (cat_cons rfl cat_nil)))))) [some (.ref (b + 0)), some (.int a1), some (.int a2), some (.int a3), some (.int a4), some (.int a5), none, none, none, none, none, none] rfl (Nat.le_of_ble_eq_true rfl) (fun V hV => ?_)
  have B219 : ∀ (k219 : Int32 → Int32 → Int32 → Int32 → Int32 → FMem → Opt) (hk219 : ∀ (x5 : Int32) (x6 : Int32) (x7 : Int32) (x8 : Int32) (x9 : Int32) (FM : FMem), k219 x5 x6 x7 x8 x9 FM = some (r0, FR) → V FM 219 [none, none, none, none, none, some (.int x5), some (.int x6), some (.int x7), some (.int x8), some (.int x9), none, none] []) (x5 : Int32) (x6 : Int32) (x7 : Int32) (x8 : Int32) (x9 : Int32) (FM : FMem), X9_lasts_b219s k219 x5 x6 x7 x8 x9 FM = some (r0, FR) → V FM 219 [none, none, none, none, none, some (.int x5), some (.int x6), some (.int x7), some (.int x8), some (.int x9), none, none] [] := by
    intro k219 hk219 x5 x6 x7 x8 x9 FM h
    unfold X9_lasts_b219s at h
    refine r_iload hV dX9_lasts_219 rfl ?_
    refine r_ifle hV 242 dX9_lasts_221 rfl (fun c23 => ?_) (fun c23 => ?_)
    · have h := (if_pos c23).symm.trans h
      refine r_iload hV dX9_lasts_242 rfl ?_
      refine r_ifne hV 252 dX9_lasts_244 rfl (fun c24 => ?_) (fun c24 => ?_)
      · have h := (if_neg c24).symm.trans h
        refine r_iload hV dX9_lasts_252 rfl ?_
        refine r_iload hV dX9_lasts_254 rfl ?_
        obtain ⟨g25, h⟩ := grd_some h
        refine r_idiv hV dX9_lasts_256 (nz_ne g25) ?_
        exact r_iret hV rfl dX9_lasts_257 (ret_r h) (ret_m h)
      · have h := (if_pos c24).symm.trans h
        refine r_iload hV dX9_lasts_247 rfl ?_
        refine r_goto hV 254 dX9_lasts_249 rfl ?_
        refine r_iload hV dX9_lasts_254 rfl ?_
        obtain ⟨g26, h⟩ := grd_some h
        refine r_idiv hV dX9_lasts_256 (nz_ne g26) ?_
        exact r_iret hV rfl dX9_lasts_257 (ret_r h) (ret_m h)
    · have h := (if_neg c23).symm.trans h
      refine r_iload hV dX9_lasts_224 rfl ?_
      refine r_iload hV dX9_lasts_226 rfl ?_
      obtain ⟨g27, h⟩ := grd_some h
      refine r_irem hV dX9_lasts_228 (nz_ne g27) ?_
      refine r_bv h (fun v28 h => ?_)
      refine r_istore hV dX9_lasts_229 (Nat.le_of_ble_eq_true rfl) rfl ?_
      refine r_iload hV dX9_lasts_231 rfl ?_
      refine r_istore hV dX9_lasts_233 (Nat.le_of_ble_eq_true rfl) rfl ?_
      refine r_iload hV dX9_lasts_235 rfl ?_
      refine r_istore hV dX9_lasts_237 (Nat.le_of_ble_eq_true rfl) rfl ?_
      refine r_goto hV 219 dX9_lasts_239 rfl ?_
      refine r_mask hV [false, false, false, false, false, true, true, true, true, true, false, false] ?_
      exact hk219 x5 x6 x7 x9 v28 FM h
  have L219 : ∀ (nf : Nat) (x5 : Int32) (x6 : Int32) (x7 : Int32) (x8 : Int32) (x9 : Int32) (FM : FMem), X9_lasts_b219 nf x5 x6 x7 x8 x9 FM = some (r0, FR) → V FM 219 [none, none, none, none, none, some (.int x5), some (.int x6), some (.int x7), some (.int x8), some (.int x9), none, none] [] := by
    intro  nf
    induction nf with
    | zero => intro x5 x6 x7 x8 x9 FM h; exact absurd (show (none : Opt) = some (r0, FR) from h) (fun h9 => by cases h9)
    | succ nf ih => intro x5 x6 x7 x8 x9 FM h; exact B219 (X9_lasts_b219 nf) ih x5 x6 x7 x8 x9 FM h
  have B202 : ∀ (k84 : Int32 → Int32 → Int32 → Int32 → Int32 → Int32 → Int32 → Int32 → FMem → Opt) (hk84 : ∀ (x1 : Int32) (x2 : Int32) (x3 : Int32) (x4 : Int32) (x5 : Int32) (x6 : Int32) (x7 : Int32) (x8 : Int32) (FM : FMem), k84 x1 x2 x3 x4 x5 x6 x7 x8 FM = some (r0, FR) → V FM 84 [some (.ref (b + 0)), some (.int x1), some (.int x2), some (.int x3), some (.int x4), some (.int x5), some (.int x6), some (.int x7), some (.int x8), none, none, none] []) (x1 : Int32) (x2 : Int32) (x3 : Int32) (x4 : Int32) (x5 : Int32) (x7 : Int32) (x8 : Int32) (s0 : Int32) (s1 : Int32) (FM : FMem), X9_lasts_b202 k84 x1 x2 x3 x4 x5 x7 x8 s0 s1 FM = some (r0, FR) → V FM 202 [some (.ref (b + 0)), some (.int x1), some (.int x2), some (.int x3), some (.int x4), some (.int x5), none, some (.int x7), some (.int x8), none, none, none] [.int s1, .int s0] := by
    intro k84 hk84 x1 x2 x3 x4 x5 x7 x8 s0 s1 FM h
    unfold X9_lasts_b202 at h
    refine r_iadd hV dX9_lasts_202 ?_
    refine r_bv h (fun v35 h => ?_)
    refine r_istore hV dX9_lasts_203 (Nat.le_of_ble_eq_true rfl) rfl ?_
    refine r_iinc (v := (1 : Int32)) hV dX9_lasts_205 rfl rfl rfl ?_
    refine r_goto hV 84 dX9_lasts_208 rfl ?_
    exact hk84 x1 x2 x3 x4 x5 v35 x7 (x8 + (1 : Int32)) FM h
  have B181 : ∀ (k84 : Int32 → Int32 → Int32 → Int32 → Int32 → Int32 → Int32 → Int32 → FMem → Opt) (hk84 : ∀ (x1 : Int32) (x2 : Int32) (x3 : Int32) (x4 : Int32) (x5 : Int32) (x6 : Int32) (x7 : Int32) (x8 : Int32) (FM : FMem), k84 x1 x2 x3 x4 x5 x6 x7 x8 FM = some (r0, FR) → V FM 84 [some (.ref (b + 0)), some (.int x1), some (.int x2), some (.int x3), some (.int x4), some (.int x5), some (.int x6), some (.int x7), some (.int x8), none, none, none] []) (k114 : Int32 → Int32 → Int32 → Int32 → Int32 → Int32 → Int32 → Int32 → Int32 → Int32 → Int32 → FMem → Opt) (hk114 : ∀ (x1 : Int32) (x2 : Int32) (x3 : Int32) (x4 : Int32) (x5 : Int32) (x6 : Int32) (x7 : Int32) (x8 : Int32) (x9 : Int32) (x10 : Int32) (x11 : Int32) (FM : FMem), k114 x1 x2 x3 x4 x5 x6 x7 x8 x9 x10 x11 FM = some (r0, FR) → V FM 114 [some (.ref (b + 0)), some (.int x1), some (.int x2), some (.int x3), some (.int x4), some (.int x5), some (.int x6), some (.int x7), some (.int x8), some (.int x9), some (.int x10), some (.int x11)] []) (x1 : Int32) (x2 : Int32) (x3 : Int32) (x4 : Int32) (x5 : Int32) (x6 : Int32) (x7 : Int32) (x8 : Int32) (x9 : Int32) (x11 : Int32) (s0 : Int32) (FM : FMem), X9_lasts_b181 k84 k114 x1 x2 x3 x4 x5 x6 x7 x8 x9 x11 s0 FM = some (r0, FR) → V FM 181 [some (.ref (b + 0)), some (.int x1), some (.int x2), some (.int x3), some (.int x4), some (.int x5), some (.int x6), some (.int x7), some (.int x8), some (.int x9), none, some (.int x11)] [.int s0] := by
    intro k84 hk84 k114 hk114 x1 x2 x3 x4 x5 x6 x7 x8 x9 x11 s0 FM h
    unfold X9_lasts_b181 at h
    refine r_istore hV dX9_lasts_181 (Nat.le_of_ble_eq_true rfl) rfl ?_
    refine r_iinc (v := (1 : Int32)) hV dX9_lasts_183 rfl rfl rfl ?_
    refine r_goto hV 114 dX9_lasts_186 rfl ?_
    exact hk114 x1 x2 x3 x4 x5 x6 x7 x8 x9 s0 (x11 + (1 : Int32)) FM h
  have B176 : ∀ (k84 : Int32 → Int32 → Int32 → Int32 → Int32 → Int32 → Int32 → Int32 → FMem → Opt) (hk84 : ∀ (x1 : Int32) (x2 : Int32) (x3 : Int32) (x4 : Int32) (x5 : Int32) (x6 : Int32) (x7 : Int32) (x8 : Int32) (FM : FMem), k84 x1 x2 x3 x4 x5 x6 x7 x8 FM = some (r0, FR) → V FM 84 [some (.ref (b + 0)), some (.int x1), some (.int x2), some (.int x3), some (.int x4), some (.int x5), some (.int x6), some (.int x7), some (.int x8), none, none, none] []) (k114 : Int32 → Int32 → Int32 → Int32 → Int32 → Int32 → Int32 → Int32 → Int32 → Int32 → Int32 → FMem → Opt) (hk114 : ∀ (x1 : Int32) (x2 : Int32) (x3 : Int32) (x4 : Int32) (x5 : Int32) (x6 : Int32) (x7 : Int32) (x8 : Int32) (x9 : Int32) (x10 : Int32) (x11 : Int32) (FM : FMem), k114 x1 x2 x3 x4 x5 x6 x7 x8 x9 x10 x11 FM = some (r0, FR) → V FM 114 [some (.ref (b + 0)), some (.int x1), some (.int x2), some (.int x3), some (.int x4), some (.int x5), some (.int x6), some (.int x7), some (.int x8), some (.int x9), some (.int x10), some (.int x11)] []) (x1 : Int32) (x2 : Int32) (x3 : Int32) (x4 : Int32) (x5 : Int32) (x6 : Int32) (x7 : Int32) (x8 : Int32) (x9 : Int32) (x11 : Int32) (FM : FMem), X9_lasts_b176 k84 k114 x1 x2 x3 x4 x5 x6 x7 x8 x9 x11 FM = some (r0, FR) → V FM 176 [some (.ref (b + 0)), some (.int x1), some (.int x2), some (.int x3), some (.int x4), some (.int x5), some (.int x6), some (.int x7), some (.int x8), some (.int x9), none, some (.int x11)] [] := by
    intro k84 hk84 k114 hk114 x1 x2 x3 x4 x5 x6 x7 x8 x9 x11 FM h
    unfold X9_lasts_b176 at h
    refine r_iconst (v := (1 : Int32)) hV dX9_lasts_176 rfl ?_
    refine r_goto hV 181 dX9_lasts_177 rfl ?_
    exact B181 k84 hk84 k114 hk114 x1 x2 x3 x4 x5 x6 x7 x8 x9 x11 (1 : Int32) FM h
  have B161 : ∀ (k84 : Int32 → Int32 → Int32 → Int32 → Int32 → Int32 → Int32 → Int32 → FMem → Opt) (hk84 : ∀ (x1 : Int32) (x2 : Int32) (x3 : Int32) (x4 : Int32) (x5 : Int32) (x6 : Int32) (x7 : Int32) (x8 : Int32) (FM : FMem), k84 x1 x2 x3 x4 x5 x6 x7 x8 FM = some (r0, FR) → V FM 84 [some (.ref (b + 0)), some (.int x1), some (.int x2), some (.int x3), some (.int x4), some (.int x5), some (.int x6), some (.int x7), some (.int x8), none, none, none] []) (k114 : Int32 → Int32 → Int32 → Int32 → Int32 → Int32 → Int32 → Int32 → Int32 → Int32 → Int32 → FMem → Opt) (hk114 : ∀ (x1 : Int32) (x2 : Int32) (x3 : Int32) (x4 : Int32) (x5 : Int32) (x6 : Int32) (x7 : Int32) (x8 : Int32) (x9 : Int32) (x10 : Int32) (x11 : Int32) (FM : FMem), k114 x1 x2 x3 x4 x5 x6 x7 x8 x9 x10 x11 FM = some (r0, FR) → V FM 114 [some (.ref (b + 0)), some (.int x1), some (.int x2), some (.int x3), some (.int x4), some (.int x5), some (.int x6), some (.int x7), some (.int x8), some (.int x9), some (.int x10), some (.int x11)] []) (x1 : Int32) (x2 : Int32) (x3 : Int32) (x4 : Int32) (x5 : Int32) (x6 : Int32) (x7 : Int32) (x8 : Int32) (x10 : Int32) (x11 : Int32) (s0 : Int32) (s1 : Int32) (FM : FMem), X9_lasts_b161 k84 k114 x1 x2 x3 x4 x5 x6 x7 x8 x10 x11 s0 s1 FM = some (r0, FR) → V FM 161 [some (.ref (b + 0)), some (.int x1), some (.int x2), some (.int x3), some (.int x4), some (.int x5), some (.int x6), some (.int x7), some (.int x8), none, some (.int x10), some (.int x11)] [.int s1, .int s0] := by
    intro k84 hk84 k114 hk114 x1 x2 x3 x4 x5 x6 x7 x8 x10 x11 s0 s1 FM h
    unfold X9_lasts_b161 at h
    refine r_imul hV dX9_lasts_161 ?_
    refine r_bv h (fun v45 h => ?_)
    refine r_istore hV dX9_lasts_162 (Nat.le_of_ble_eq_true rfl) rfl ?_
    refine r_aload_n hV dX9_lasts_164 rfl ?_
    obtain ⟨r46, M47, q48, h⟩ := bnd_some h
    refine r_cVi hV (m_X9_goes l D cI b FM _ _ q48) ml_X9_154 obM_0 rfl rfl (by decide) (Nat.le_of_ble_eq_true rfl) rfl dX9_lasts_165 ?_
    refine r_ifne hV 176 dX9_lasts_168 rfl (fun c49 => ?_) (fun c49 => ?_)
    · have h := (if_neg c49).symm.trans h
      refine r_mask hV [true, true, true, true, true, true, true, true, true, true, false, true] ?_
      exact B176 k84 hk84 k114 hk114 x1 x2 x3 x4 x5 x6 x7 x8 v45 x11 M47 h
    · have h := (if_pos c49).symm.trans h
      refine r_iload hV dX9_lasts_171 rfl ?_
      refine r_ifeq hV 180 dX9_lasts_173 rfl (fun c50 => ?_) (fun c50 => ?_)
      · have h := (if_pos c50).symm.trans h
        refine r_iconst (v := (0 : Int32)) hV dX9_lasts_180 rfl ?_
        refine r_mask hV [true, true, true, true, true, true, true, true, true, true, false, true] ?_
        exact B181 k84 hk84 k114 hk114 x1 x2 x3 x4 x5 x6 x7 x8 v45 x11 (0 : Int32) M47 h
      · have h := (if_neg c50).symm.trans h
        refine r_mask hV [true, true, true, true, true, true, true, true, true, true, false, true] ?_
        exact B176 k84 hk84 k114 hk114 x1 x2 x3 x4 x5 x6 x7 x8 v45 x11 M47 h
  have B136 : ∀ (k84 : Int32 → Int32 → Int32 → Int32 → Int32 → Int32 → Int32 → Int32 → FMem → Opt) (hk84 : ∀ (x1 : Int32) (x2 : Int32) (x3 : Int32) (x4 : Int32) (x5 : Int32) (x6 : Int32) (x7 : Int32) (x8 : Int32) (FM : FMem), k84 x1 x2 x3 x4 x5 x6 x7 x8 FM = some (r0, FR) → V FM 84 [some (.ref (b + 0)), some (.int x1), some (.int x2), some (.int x3), some (.int x4), some (.int x5), some (.int x6), some (.int x7), some (.int x8), none, none, none] []) (k114 : Int32 → Int32 → Int32 → Int32 → Int32 → Int32 → Int32 → Int32 → Int32 → Int32 → Int32 → FMem → Opt) (hk114 : ∀ (x1 : Int32) (x2 : Int32) (x3 : Int32) (x4 : Int32) (x5 : Int32) (x6 : Int32) (x7 : Int32) (x8 : Int32) (x9 : Int32) (x10 : Int32) (x11 : Int32) (FM : FMem), k114 x1 x2 x3 x4 x5 x6 x7 x8 x9 x10 x11 FM = some (r0, FR) → V FM 114 [some (.ref (b + 0)), some (.int x1), some (.int x2), some (.int x3), some (.int x4), some (.int x5), some (.int x6), some (.int x7), some (.int x8), some (.int x9), some (.int x10), some (.int x11)] []) (x1 : Int32) (x2 : Int32) (x3 : Int32) (x4 : Int32) (x5 : Int32) (x6 : Int32) (x7 : Int32) (x8 : Int32) (x9 : Int32) (x10 : Int32) (x11 : Int32) (s1 : Int32) (FM : FMem), X9_lasts_b136 k84 k114 x1 x2 x3 x4 x5 x6 x7 x8 x9 x10 x11 s1 FM = some (r0, FR) → V FM 136 [some (.ref (b + 0)), some (.int x1), some (.int x2), some (.int x3), some (.int x4), some (.int x5), some (.int x6), some (.int x7), some (.int x8), some (.int x9), some (.int x10), some (.int x11)] [.int s1, .ref (b + 0)] := by
    intro k84 hk84 k114 hk114 x1 x2 x3 x4 x5 x6 x7 x8 x9 x10 x11 s1 FM h
    unfold X9_lasts_b136 at h
    refine r_puti hV fl_X9_130 obM_0 (fun _ _ => rfl) (Nat.le_of_ble_eq_true rfl) dX9_lasts_136 ?_
    refine r_bm h (fun M40 h => ?_)
    refine r_iload hV dX9_lasts_139 rfl ?_
    refine r_iload hV dX9_lasts_141 rfl ?_
    refine r_iload hV dX9_lasts_143 rfl ?_
    obtain ⟨r41, M42, q43, h⟩ := bnd_some h
    refine r_cSi hV (m_X9_has l D cI b x8 x11 M40 _ _ q43) ml_X9_136 rfl (by decide) (Nat.le_of_ble_eq_true rfl) rfl dX9_lasts_145 ?_
    refine r_ifeq hV 156 dX9_lasts_148 rfl (fun c44 => ?_) (fun c44 => ?_)
    · have h := (if_pos c44).symm.trans h
      refine r_bipush (v := (10 : Int32)) hV dX9_lasts_156 rfl ?_
      refine r_iload hV dX9_lasts_158 rfl ?_
      refine r_isub hV dX9_lasts_160 ?_
      refine r_mask hV [true, true, true, true, true, true, true, true, true, false, true, true] ?_
      exact B161 k84 hk84 k114 hk114 x1 x2 x3 x4 x5 x6 x7 x8 x10 x11 x9 ((10 : Int32) - x4) M42 h
    · have h := (if_neg c44).symm.trans h
      refine r_iload hV dX9_lasts_151 rfl ?_
      refine r_goto hV 161 dX9_lasts_153 rfl ?_
      refine r_mask hV [true, true, true, true, true, true, true, true, true, false, true, true] ?_
      exact B161 k84 hk84 k114 hk114 x1 x2 x3 x4 x5 x6 x7 x8 x10 x11 x9 x4 M42 h
  have B114 : ∀ (k84 : Int32 → Int32 → Int32 → Int32 → Int32 → Int32 → Int32 → Int32 → FMem → Opt) (hk84 : ∀ (x1 : Int32) (x2 : Int32) (x3 : Int32) (x4 : Int32) (x5 : Int32) (x6 : Int32) (x7 : Int32) (x8 : Int32) (FM : FMem), k84 x1 x2 x3 x4 x5 x6 x7 x8 FM = some (r0, FR) → V FM 84 [some (.ref (b + 0)), some (.int x1), some (.int x2), some (.int x3), some (.int x4), some (.int x5), some (.int x6), some (.int x7), some (.int x8), none, none, none] []) (k114 : Int32 → Int32 → Int32 → Int32 → Int32 → Int32 → Int32 → Int32 → Int32 → Int32 → Int32 → FMem → Opt) (hk114 : ∀ (x1 : Int32) (x2 : Int32) (x3 : Int32) (x4 : Int32) (x5 : Int32) (x6 : Int32) (x7 : Int32) (x8 : Int32) (x9 : Int32) (x10 : Int32) (x11 : Int32) (FM : FMem), k114 x1 x2 x3 x4 x5 x6 x7 x8 x9 x10 x11 FM = some (r0, FR) → V FM 114 [some (.ref (b + 0)), some (.int x1), some (.int x2), some (.int x3), some (.int x4), some (.int x5), some (.int x6), some (.int x7), some (.int x8), some (.int x9), some (.int x10), some (.int x11)] []) (x1 : Int32) (x2 : Int32) (x3 : Int32) (x4 : Int32) (x5 : Int32) (x6 : Int32) (x7 : Int32) (x8 : Int32) (x9 : Int32) (x10 : Int32) (x11 : Int32) (FM : FMem), X9_lasts_b114s k84 k114 x1 x2 x3 x4 x5 x6 x7 x8 x9 x10 x11 FM = some (r0, FR) → V FM 114 [some (.ref (b + 0)), some (.int x1), some (.int x2), some (.int x3), some (.int x4), some (.int x5), some (.int x6), some (.int x7), some (.int x8), some (.int x9), some (.int x10), some (.int x11)] [] := by
    intro k84 hk84 k114 hk114 x1 x2 x3 x4 x5 x6 x7 x8 x9 x10 x11 FM h
    unfold X9_lasts_b114s at h
    refine r_iload hV dX9_lasts_114 rfl ?_
    refine r_iload_n hV dX9_lasts_116 rfl ?_
    refine r_icmpge hV 189 dX9_lasts_117 rfl (fun c33 => ?_) (fun c33 => ?_)
    · have h := (if_pos c33).symm.trans h
      refine r_iload hV dX9_lasts_189 rfl ?_
      refine r_iload hV dX9_lasts_191 rfl ?_
      refine r_ifeq hV 200 dX9_lasts_193 rfl (fun c34 => ?_) (fun c34 => ?_)
      · have h := (if_pos c34).symm.trans h
        refine r_iload hV dX9_lasts_200 rfl ?_
        refine r_mask hV [true, true, true, true, true, true, false, true, true, false, false, false] ?_
        exact B202 k84 hk84 x1 x2 x3 x4 x5 x7 x8 x6 x9 FM h
      · have h := (if_neg c34).symm.trans h
        refine r_iconst (v := (0 : Int32)) hV dX9_lasts_196 rfl ?_
        refine r_goto hV 202 dX9_lasts_197 rfl ?_
        refine r_mask hV [true, true, true, true, true, true, false, true, true, false, false, false] ?_
        exact B202 k84 hk84 x1 x2 x3 x4 x5 x7 x8 x6 (0 : Int32) FM h
    · have h := (if_neg c33).symm.trans h
      refine r_aload_n hV dX9_lasts_120 rfl ?_
      refine r_iload hV dX9_lasts_121 rfl ?_
      refine r_iload hV dX9_lasts_123 rfl ?_
      obtain ⟨r36, M37, q38, h⟩ := bnd_some h
      refine r_cSi hV (m_X9_has l D cI b x8 x11 FM _ _ q38) ml_X9_136 rfl (by decide) (Nat.le_of_ble_eq_true rfl) rfl dX9_lasts_125 ?_
      refine r_ifeq hV 135 dX9_lasts_128 rfl (fun c39 => ?_) (fun c39 => ?_)
      · have h := (if_pos c39).symm.trans h
        refine r_iconst (v := (0 : Int32)) hV dX9_lasts_135 rfl ?_
        exact B136 k84 hk84 k114 hk114 x1 x2 x3 x4 x5 x6 x7 x8 x9 x10 x11 (0 : Int32) M37 h
      · have h := (if_neg c39).symm.trans h
        refine r_iload_n hV dX9_lasts_131 rfl ?_
        refine r_goto hV 136 dX9_lasts_132 rfl ?_
        exact B136 k84 hk84 k114 hk114 x1 x2 x3 x4 x5 x6 x7 x8 x9 x10 x11 x3 M37 h
  have L114 : ∀ (k84 : Int32 → Int32 → Int32 → Int32 → Int32 → Int32 → Int32 → Int32 → FMem → Opt) (hk84 : ∀ (x1 : Int32) (x2 : Int32) (x3 : Int32) (x4 : Int32) (x5 : Int32) (x6 : Int32) (x7 : Int32) (x8 : Int32) (FM : FMem), k84 x1 x2 x3 x4 x5 x6 x7 x8 FM = some (r0, FR) → V FM 84 [some (.ref (b + 0)), some (.int x1), some (.int x2), some (.int x3), some (.int x4), some (.int x5), some (.int x6), some (.int x7), some (.int x8), none, none, none] []) (nf : Nat) (x1 : Int32) (x2 : Int32) (x3 : Int32) (x4 : Int32) (x5 : Int32) (x6 : Int32) (x7 : Int32) (x8 : Int32) (x9 : Int32) (x10 : Int32) (x11 : Int32) (FM : FMem), X9_lasts_b114 k84 nf x1 x2 x3 x4 x5 x6 x7 x8 x9 x10 x11 FM = some (r0, FR) → V FM 114 [some (.ref (b + 0)), some (.int x1), some (.int x2), some (.int x3), some (.int x4), some (.int x5), some (.int x6), some (.int x7), some (.int x8), some (.int x9), some (.int x10), some (.int x11)] [] := by
    intro k84 hk84 nf
    induction nf with
    | zero => intro x1 x2 x3 x4 x5 x6 x7 x8 x9 x10 x11 FM h; exact absurd (show (none : Opt) = some (r0, FR) from h) (fun h9 => by cases h9)
    | succ nf ih => intro x1 x2 x3 x4 x5 x6 x7 x8 x9 x10 x11 FM h; exact B114 k84 hk84 (X9_lasts_b114 k84 nf) ih x1 x2 x3 x4 x5 x6 x7 x8 x9 x10 x11 FM h
  have B84 : ∀ (k84 : Int32 → Int32 → Int32 → Int32 → Int32 → Int32 → Int32 → Int32 → FMem → Opt) (hk84 : ∀ (x1 : Int32) (x2 : Int32) (x3 : Int32) (x4 : Int32) (x5 : Int32) (x6 : Int32) (x7 : Int32) (x8 : Int32) (FM : FMem), k84 x1 x2 x3 x4 x5 x6 x7 x8 FM = some (r0, FR) → V FM 84 [some (.ref (b + 0)), some (.int x1), some (.int x2), some (.int x3), some (.int x4), some (.int x5), some (.int x6), some (.int x7), some (.int x8), none, none, none] []) (x1 : Int32) (x2 : Int32) (x3 : Int32) (x4 : Int32) (x5 : Int32) (x6 : Int32) (x7 : Int32) (x8 : Int32) (FM : FMem), X9_lasts_b84s k84 x1 x2 x3 x4 x5 x6 x7 x8 FM = some (r0, FR) → V FM 84 [some (.ref (b + 0)), some (.int x1), some (.int x2), some (.int x3), some (.int x4), some (.int x5), some (.int x6), some (.int x7), some (.int x8), none, none, none] [] := by
    intro k84 hk84 x1 x2 x3 x4 x5 x6 x7 x8 FM h
    unfold X9_lasts_b84s at h
    refine r_iload hV dX9_lasts_84 rfl ?_
    refine r_iconst (v := (1 : Int32)) hV dX9_lasts_86 rfl ?_
    refine r_iload_n hV dX9_lasts_87 rfl ?_
    refine r_ishl hV dX9_lasts_88 ?_
    refine r_icmpge hV 211 dX9_lasts_89 rfl (fun c22 => ?_) (fun c22 => ?_)
    · have h := (if_pos c22).symm.trans h
      refine r_iload hV dX9_lasts_211 rfl ?_
      refine r_istore hV dX9_lasts_213 (Nat.le_of_ble_eq_true rfl) rfl ?_
      refine r_iload hV dX9_lasts_215 rfl ?_
      refine r_istore hV dX9_lasts_217 (Nat.le_of_ble_eq_true rfl) rfl ?_
      refine r_mask hV [false, false, false, false, false, true, true, true, true, true, false, false] ?_
      exact L219 FU x5 x6 x7 x6 x7 FM h
    · have h := (if_neg c22).symm.trans h
      refine r_iconst (v := (1 : Int32)) hV dX9_lasts_92 rfl ?_
      refine r_istore hV dX9_lasts_93 (Nat.le_of_ble_eq_true rfl) rfl ?_
      refine r_iconst (v := (0 : Int32)) hV dX9_lasts_95 rfl ?_
      refine r_istore hV dX9_lasts_96 (Nat.le_of_ble_eq_true rfl) rfl ?_
      refine r_aload_n hV dX9_lasts_98 rfl ?_
      refine r_aload_n hV dX9_lasts_99 rfl ?_
      refine r_geto hV fl_X9_13 obM_0 rfl dX9_lasts_100 ?_
      obtain ⟨r29, M30, q31, h⟩ := bnd_some h
      refine r_cVv hV (m_X9_from l D cI b 2 arM_2 FM _ _ q31) ml_X9_166 obM_0 rfl rfl (by decide) (Nat.le_of_ble_eq_true rfl) rfl dX9_lasts_103 ?_
      refine r_aload_n hV dX9_lasts_106 rfl ?_
      refine r_iload_n hV dX9_lasts_107 rfl ?_
      refine r_puti hV fl_X9_144 obM_0 (fun _ _ => rfl) (Nat.le_of_ble_eq_true rfl) dX9_lasts_108 ?_
      refine r_bm h (fun M32 h => ?_)
      refine r_iconst (v := (0 : Int32)) hV dX9_lasts_111 rfl ?_
      refine r_istore hV dX9_lasts_112 (Nat.le_of_ble_eq_true rfl) rfl ?_
      exact L114 k84 hk84 FU x1 x2 x3 x4 x5 x6 x7 x8 (1 : Int32) (0 : Int32) (0 : Int32) M32 h
  have L84 : ∀ (nf : Nat) (x1 : Int32) (x2 : Int32) (x3 : Int32) (x4 : Int32) (x5 : Int32) (x6 : Int32) (x7 : Int32) (x8 : Int32) (FM : FMem), X9_lasts_b84 nf x1 x2 x3 x4 x5 x6 x7 x8 FM = some (r0, FR) → V FM 84 [some (.ref (b + 0)), some (.int x1), some (.int x2), some (.int x3), some (.int x4), some (.int x5), some (.int x6), some (.int x7), some (.int x8), none, none, none] [] := by
    intro  nf
    induction nf with
    | zero => intro x1 x2 x3 x4 x5 x6 x7 x8 FM h; exact absurd (show (none : Opt) = some (r0, FR) from h) (fun h9 => by cases h9)
    | succ nf ih => intro x1 x2 x3 x4 x5 x6 x7 x8 FM h; exact B84 (X9_lasts_b84 nf) ih x1 x2 x3 x4 x5 x6 x7 x8 FM h
  have B62 : ∀ (k62 : Int32 → Int32 → Int32 → Int32 → Int32 → Int32 → Int32 → Int32 → FMem → Opt) (hk62 : ∀ (x1 : Int32) (x2 : Int32) (x3 : Int32) (x4 : Int32) (x5 : Int32) (x6 : Int32) (x7 : Int32) (x8 : Int32) (FM : FMem), k62 x1 x2 x3 x4 x5 x6 x7 x8 FM = some (r0, FR) → V FM 62 [some (.ref (b + 0)), some (.int x1), some (.int x2), some (.int x3), some (.int x4), some (.int x5), some (.int x6), some (.int x7), some (.int x8), none, none, none] []) (x1 : Int32) (x2 : Int32) (x3 : Int32) (x4 : Int32) (x5 : Int32) (x6 : Int32) (x7 : Int32) (x8 : Int32) (FM : FMem), X9_lasts_b62s k62 x1 x2 x3 x4 x5 x6 x7 x8 FM = some (r0, FR) → V FM 62 [some (.ref (b + 0)), some (.int x1), some (.int x2), some (.int x3), some (.int x4), some (.int x5), some (.int x6), some (.int x7), some (.int x8), none, none, none] [] := by
    intro k62 hk62 x1 x2 x3 x4 x5 x6 x7 x8 FM h
    unfold X9_lasts_b62s at h
    refine r_iload hV dX9_lasts_62 rfl ?_
    refine r_iload_n hV dX9_lasts_64 rfl ?_
    refine r_icmpge hV 81 dX9_lasts_65 rfl (fun c21 => ?_) (fun c21 => ?_)
    · have h := (if_pos c21).symm.trans h
      refine r_iconst (v := (0 : Int32)) hV dX9_lasts_81 rfl ?_
      refine r_istore hV dX9_lasts_82 (Nat.le_of_ble_eq_true rfl) rfl ?_
      exact L84 FU x1 x2 x3 x4 x5 x6 x7 (0 : Int32) FM h
    · have h := (if_neg c21).symm.trans h
      refine r_iload hV dX9_lasts_68 rfl ?_
      refine r_bipush (v := (10 : Int32)) hV dX9_lasts_70 rfl ?_
      refine r_imul hV dX9_lasts_72 ?_
      refine r_bv h (fun v51 h => ?_)
      refine r_istore hV dX9_lasts_73 (Nat.le_of_ble_eq_true rfl) rfl ?_
      refine r_iinc (v := (1 : Int32)) hV dX9_lasts_75 rfl rfl rfl ?_
      refine r_goto hV 62 dX9_lasts_78 rfl ?_
      exact hk62 x1 x2 x3 x4 x5 x6 v51 (x8 + (1 : Int32)) FM h
  have L62 : ∀ (nf : Nat) (x1 : Int32) (x2 : Int32) (x3 : Int32) (x4 : Int32) (x5 : Int32) (x6 : Int32) (x7 : Int32) (x8 : Int32) (FM : FMem), X9_lasts_b62 nf x1 x2 x3 x4 x5 x6 x7 x8 FM = some (r0, FR) → V FM 62 [some (.ref (b + 0)), some (.int x1), some (.int x2), some (.int x3), some (.int x4), some (.int x5), some (.int x6), some (.int x7), some (.int x8), none, none, none] [] := by
    intro  nf
    induction nf with
    | zero => intro x1 x2 x3 x4 x5 x6 x7 x8 FM h; exact absurd (show (none : Opt) = some (r0, FR) from h) (fun h9 => by cases h9)
    | succ nf ih => intro x1 x2 x3 x4 x5 x6 x7 x8 FM h; exact B62 (X9_lasts_b62 nf) ih x1 x2 x3 x4 x5 x6 x7 x8 FM h
  unfold f_X9_lasts at h
  refine r_iload_n hV dX9_lasts_0 rfl ?_
  refine r_iconst (v := (0 : Int32)) hV dX9_lasts_1 rfl ?_
  refine r_bipush (v := (6 : Int32)) hV dX9_lasts_2 rfl ?_
  obtain ⟨r1, M2, q3, h⟩ := bnd_some h
  refine r_cSi hV (m_X9_in l D cI b a1 (0 : Int32) (6 : Int32) FM _ _ q3) ml_X9_70 rfl (by decide) (Nat.le_of_ble_eq_true rfl) rfl dX9_lasts_4 ?_
  refine r_ifeq hV 51 dX9_lasts_7 rfl (fun c4 => ?_) (fun c4 => ?_)
  · have h := (if_pos c4).symm.trans h
    refine r_iconst (v := (-1 : Int32)) hV dX9_lasts_51 rfl ?_
    exact r_iret hV rfl dX9_lasts_52 (ret_r h) (ret_m h)
  · have h := (if_neg c4).symm.trans h
    refine r_iload_n hV dX9_lasts_10 rfl ?_
    refine r_iconst (v := (1 : Int32)) hV dX9_lasts_11 rfl ?_
    refine r_bipush (v := (31 : Int32)) hV dX9_lasts_12 rfl ?_
    obtain ⟨r5, M6, q7, h⟩ := bnd_some h
    refine r_cSi hV (m_X9_in l D cI b a2 (1 : Int32) (31 : Int32) M2 _ _ q7) ml_X9_70 rfl (by decide) (Nat.le_of_ble_eq_true rfl) rfl dX9_lasts_14 ?_
    refine r_ifeq hV 51 dX9_lasts_17 rfl (fun c8 => ?_) (fun c8 => ?_)
    · have h := (if_pos c8).symm.trans h
      refine r_iconst (v := (-1 : Int32)) hV dX9_lasts_51 rfl ?_
      exact r_iret hV rfl dX9_lasts_52 (ret_r h) (ret_m h)
    · have h := (if_neg c8).symm.trans h
      refine r_iload_n hV dX9_lasts_20 rfl ?_
      refine r_iconst (v := (1 : Int32)) hV dX9_lasts_21 rfl ?_
      refine r_bipush (v := (9 : Int32)) hV dX9_lasts_22 rfl ?_
      obtain ⟨r9, M10, q11, h⟩ := bnd_some h
      refine r_cSi hV (m_X9_in l D cI b a3 (1 : Int32) (9 : Int32) M6 _ _ q11) ml_X9_70 rfl (by decide) (Nat.le_of_ble_eq_true rfl) rfl dX9_lasts_24 ?_
      refine r_ifeq hV 51 dX9_lasts_27 rfl (fun c12 => ?_) (fun c12 => ?_)
      · have h := (if_pos c12).symm.trans h
        refine r_iconst (v := (-1 : Int32)) hV dX9_lasts_51 rfl ?_
        exact r_iret hV rfl dX9_lasts_52 (ret_r h) (ret_m h)
      · have h := (if_neg c12).symm.trans h
        refine r_iload hV dX9_lasts_30 rfl ?_
        refine r_iconst (v := (0 : Int32)) hV dX9_lasts_32 rfl ?_
        refine r_bipush (v := (10 : Int32)) hV dX9_lasts_33 rfl ?_
        obtain ⟨r13, M14, q15, h⟩ := bnd_some h
        refine r_cSi hV (m_X9_in l D cI b a4 (0 : Int32) (10 : Int32) M10 _ _ q15) ml_X9_70 rfl (by decide) (Nat.le_of_ble_eq_true rfl) rfl dX9_lasts_35 ?_
        refine r_ifeq hV 51 dX9_lasts_38 rfl (fun c16 => ?_) (fun c16 => ?_)
        · have h := (if_pos c16).symm.trans h
          refine r_iconst (v := (-1 : Int32)) hV dX9_lasts_51 rfl ?_
          exact r_iret hV rfl dX9_lasts_52 (ret_r h) (ret_m h)
        · have h := (if_neg c16).symm.trans h
          refine r_iload hV dX9_lasts_41 rfl ?_
          refine r_iconst (v := (0 : Int32)) hV dX9_lasts_43 rfl ?_
          refine r_iconst (v := (1 : Int32)) hV dX9_lasts_44 rfl ?_
          obtain ⟨r17, M18, q19, h⟩ := bnd_some h
          refine r_cSi hV (m_X9_in l D cI b a5 (0 : Int32) (1 : Int32) M14 _ _ q19) ml_X9_70 rfl (by decide) (Nat.le_of_ble_eq_true rfl) rfl dX9_lasts_45 ?_
          refine r_ifne hV 53 dX9_lasts_48 rfl (fun c20 => ?_) (fun c20 => ?_)
          · have h := (if_neg c20).symm.trans h
            refine r_iconst (v := (0 : Int32)) hV dX9_lasts_53 rfl ?_
            refine r_istore hV dX9_lasts_54 (Nat.le_of_ble_eq_true rfl) rfl ?_
            refine r_iconst (v := (1 : Int32)) hV dX9_lasts_56 rfl ?_
            refine r_istore hV dX9_lasts_57 (Nat.le_of_ble_eq_true rfl) rfl ?_
            refine r_iconst (v := (0 : Int32)) hV dX9_lasts_59 rfl ?_
            refine r_istore hV dX9_lasts_60 (Nat.le_of_ble_eq_true rfl) rfl ?_
            exact L62 FU a1 a2 a3 a4 a5 (0 : Int32) (1 : Int32) (0 : Int32) M18 h
          · have h := (if_pos c20).symm.trans h
            refine r_iconst (v := (-1 : Int32)) hV dX9_lasts_51 rfl ?_
            exact r_iret hV rfl dX9_lasts_52 (ret_r h) (ret_m h)
def X9_content_b64 (k34 : Int32 → Int32 → FMem → Opt) (x3 : Int32) (s0 : Int32) (s1 : Int32) (FM : FMem) : Opt :=
  bindv (s0 ||| s1) fun v17 =>
  k34 v17 (x3 + (1 : Int32)) FM
def X9_content_b34s (k34 : Int32 → Int32 → FMem → Opt) (x2 : Int32) (x3 : Int32) (FM : FMem) : Opt :=
  if (FM 0 0) ≤ x3 then (
    some (x2, FM)
  ) else (
    bnd (f_X9_comes x3 (0 : Int32) FM) fun r10 M11 =>
    bnd (f_X9_isEnough x3 r10 M11) fun r13 M14 =>
    if r13 = 0 then (
      X9_content_b64 k34 x3 x2 (0 : Int32) M14
    ) else (
      X9_content_b64 k34 x3 x2 ((1 : Int32) <<< (x3 &&& 31)) M14
    )
  )
def X9_content_b34 : Nat → Int32 → Int32 → FMem → Opt
  | 0, _, _, _ => none
  | nf + 1, x2, x3, FM => X9_content_b34s (X9_content_b34 nf) x2 x3 FM
def f_X9_content (a1 : Int32) (FM : FMem) : Opt :=
  bnd (f_X9_in a1 (0 : Int32) (40 : Int32) FM) fun r1 M2 =>
  if r1 = 0 then (
    some ((-1 : Int32), M2)
  ) else (
    bnd (f_X9_from 2 M2) fun r5 M6 =>
    bindm (fset M6 11 (0) ((M6 11 0) + a1)) fun M8 =>
    X9_content_b34 FU (0 : Int32) (0 : Int32) M8
  )
set_option maxHeartbeats 4000000 in
set_option maxRecDepth 100000 in
theorem m_X9_content (l : Launch) (D : va_G) (cI : ClassId) (b : Nat) (a1 : Int32) (FM : FMem) (r0 : Int32) (FR : FMem) (h : f_X9_content a1 FM = some (r0, FR)) : Mt l (wdM D cI b) yX9_content cX9_content 4 (some .int) 3 73 [.ref (b + 0), .int a1] FM (some (.int r0)) FR := by
  refine Mt.of (by decide) (cat_cons rfl (cat_cons rfl cat_nil)) [some (.ref (b + 0)), some (.int a1), none, none] rfl (Nat.le_of_ble_eq_true rfl) (fun V hV => ?_)
  have B64 : ∀ (k34 : Int32 → Int32 → FMem → Opt) (hk34 : ∀ (x2 : Int32) (x3 : Int32) (FM : FMem), k34 x2 x3 FM = some (r0, FR) → V FM 34 [some (.ref (b + 0)), none, some (.int x2), some (.int x3)] []) (x3 : Int32) (s0 : Int32) (s1 : Int32) (FM : FMem), X9_content_b64 k34 x3 s0 s1 FM = some (r0, FR) → V FM 64 [some (.ref (b + 0)), none, none, some (.int x3)] [.int s1, .int s0] := by
    intro k34 hk34 x3 s0 s1 FM h
    unfold X9_content_b64 at h
    refine r_ior hV dX9_content_64 ?_
    refine r_bv h (fun v17 h => ?_)
    refine r_istore_n hV dX9_content_65 (Nat.le_of_ble_eq_true rfl) rfl ?_
    refine r_iinc (v := (1 : Int32)) hV dX9_content_66 rfl rfl rfl ?_
    refine r_goto hV 34 dX9_content_69 rfl ?_
    exact hk34 v17 (x3 + (1 : Int32)) FM h
  have B34 : ∀ (k34 : Int32 → Int32 → FMem → Opt) (hk34 : ∀ (x2 : Int32) (x3 : Int32) (FM : FMem), k34 x2 x3 FM = some (r0, FR) → V FM 34 [some (.ref (b + 0)), none, some (.int x2), some (.int x3)] []) (x2 : Int32) (x3 : Int32) (FM : FMem), X9_content_b34s k34 x2 x3 FM = some (r0, FR) → V FM 34 [some (.ref (b + 0)), none, some (.int x2), some (.int x3)] [] := by
    intro k34 hk34 x2 x3 FM h
    unfold X9_content_b34s at h
    refine r_iload_n hV dX9_content_34 rfl ?_
    refine r_aload_n hV dX9_content_35 rfl ?_
    refine r_geto hV fl_X9_67 obM_0 rfl dX9_content_36 ?_
    refine r_icmpge hV 72 dX9_content_39 rfl (fun c9 => ?_) (fun c9 => ?_)
    · have h := (if_pos c9).symm.trans h
      refine r_iload_n hV dX9_content_72 rfl ?_
      exact r_iret hV rfl dX9_content_73 (ret_r h) (ret_m h)
    · have h := (if_neg c9).symm.trans h
      refine r_iload_n hV dX9_content_42 rfl ?_
      refine r_aload_n hV dX9_content_43 rfl ?_
      refine r_iload_n hV dX9_content_44 rfl ?_
      refine r_aload_n hV dX9_content_45 rfl ?_
      refine r_iload_n hV dX9_content_46 rfl ?_
      refine r_iconst (v := (0 : Int32)) hV dX9_content_47 rfl ?_
      obtain ⟨r10, M11, q12, h⟩ := bnd_some h
      refine r_cVi hV (m_X9_comes l D cI b x3 (0 : Int32) FM _ _ q12) ml_X9_147 obM_0 rfl rfl (by decide) (Nat.le_of_ble_eq_true rfl) rfl dX9_content_48 ?_
      obtain ⟨r13, M14, q15, h⟩ := bnd_some h
      refine r_cVi hV (m_X9_isEnough l D cI b x3 r10 M11 _ _ q15) ml_X9_151 obM_0 rfl rfl (by decide) (Nat.le_of_ble_eq_true rfl) rfl dX9_content_51 ?_
      refine r_ifeq hV 63 dX9_content_54 rfl (fun c16 => ?_) (fun c16 => ?_)
      · have h := (if_pos c16).symm.trans h
        refine r_iconst (v := (0 : Int32)) hV dX9_content_63 rfl ?_
        refine r_mask hV [true, false, false, true] ?_
        exact B64 k34 hk34 x3 x2 (0 : Int32) M14 h
      · have h := (if_neg c16).symm.trans h
        refine r_iconst (v := (1 : Int32)) hV dX9_content_57 rfl ?_
        refine r_iload_n hV dX9_content_58 rfl ?_
        refine r_ishl hV dX9_content_59 ?_
        refine r_goto hV 64 dX9_content_60 rfl ?_
        refine r_mask hV [true, false, false, true] ?_
        exact B64 k34 hk34 x3 x2 ((1 : Int32) <<< (x3 &&& 31)) M14 h
  have L34 : ∀ (nf : Nat) (x2 : Int32) (x3 : Int32) (FM : FMem), X9_content_b34 nf x2 x3 FM = some (r0, FR) → V FM 34 [some (.ref (b + 0)), none, some (.int x2), some (.int x3)] [] := by
    intro  nf
    induction nf with
    | zero => intro x2 x3 FM h; exact absurd (show (none : Opt) = some (r0, FR) from h) (fun h9 => by cases h9)
    | succ nf ih => intro x2 x3 FM h; exact B34 (X9_content_b34 nf) ih x2 x3 FM h
  unfold f_X9_content at h
  refine r_iload_n hV dX9_content_0 rfl ?_
  refine r_iconst (v := (0 : Int32)) hV dX9_content_1 rfl ?_
  refine r_bipush (v := (40 : Int32)) hV dX9_content_2 rfl ?_
  obtain ⟨r1, M2, q3, h⟩ := bnd_some h
  refine r_cSi hV (m_X9_in l D cI b a1 (0 : Int32) (40 : Int32) FM _ _ q3) ml_X9_70 rfl (by decide) (Nat.le_of_ble_eq_true rfl) rfl dX9_content_4 ?_
  refine r_ifne hV 12 dX9_content_7 rfl (fun c4 => ?_) (fun c4 => ?_)
  · have h := (if_neg c4).symm.trans h
    refine r_aload_n hV dX9_content_12 rfl ?_
    refine r_aload_n hV dX9_content_13 rfl ?_
    refine r_geto hV fl_X9_13 obM_0 rfl dX9_content_14 ?_
    obtain ⟨r5, M6, q7, h⟩ := bnd_some h
    refine r_cVv hV (m_X9_from l D cI b 2 arM_2 M2 _ _ q7) ml_X9_166 obM_0 rfl rfl (by decide) (Nat.le_of_ble_eq_true rfl) rfl dX9_content_17 ?_
    refine r_aload_n hV dX9_content_20 rfl ?_
    refine r_geto hV fl_X9_40 obM_0 rfl dX9_content_21 ?_
    refine r_iconst (v := (0 : Int32)) hV dX9_content_24 rfl ?_
    refine r_dup2 hV dX9_content_25 rfl rfl ?_
    refine r_ald hV arM_11 (inb_in rfl) (0) rfl dX9_content_26 ?_
    refine r_iload_n hV dX9_content_27 rfl ?_
    refine r_iadd hV dX9_content_28 ?_
    refine r_ast hV arM_11 (inb_in rfl) (0) rfl dX9_content_29 ?_
    refine r_bm h (fun M8 h => ?_)
    refine r_iconst (v := (0 : Int32)) hV dX9_content_30 rfl ?_
    refine r_istore_n hV dX9_content_31 (Nat.le_of_ble_eq_true rfl) rfl ?_
    refine r_iconst (v := (0 : Int32)) hV dX9_content_32 rfl ?_
    refine r_istore_n hV dX9_content_33 (Nat.le_of_ble_eq_true rfl) rfl ?_
    refine r_mask hV [true, false, true, true] ?_
    exact L34 FU (0 : Int32) (0 : Int32) M8 h
  · have h := (if_pos c4).symm.trans h
    refine r_iconst (v := (-1 : Int32)) hV dX9_content_10 rfl ?_
    exact r_iret hV rfl dX9_content_11 (ret_r h) (ret_m h)
def X9_dull_b84 (k30 : Int32 → Int32 → Int32 → Int32 → Int32 → FMem → Opt) (x1 : Int32) (x3 : Int32) (x4 : Int32) (x5 : Int32) (s0 : Int32) (FM : FMem) : Opt :=
  k30 x1 s0 x3 x4 (x5 + (1 : Int32)) FM
def X9_dull_b71 (k30 : Int32 → Int32 → Int32 → Int32 → Int32 → FMem → Opt) (x1 : Int32) (x2 : Int32) (x4 : Int32) (x5 : Int32) (s0 : Int32) (FM : FMem) : Opt :=
  if x4 ≤ x2 then (
    X9_dull_b84 k30 x1 s0 x4 x5 x2 FM
  ) else (
    X9_dull_b84 k30 x1 s0 x4 x5 x4 FM
  )
def X9_dull_b52 (k30 : Int32 → Int32 → Int32 → Int32 → Int32 → FMem → Opt) (x1 : Int32) (x2 : Int32) (x3 : Int32) (x5 : Int32) (s0 : Int32) (FM : FMem) : Opt :=
  if s0 ≤ x2 then (
    X9_dull_b71 k30 x1 x2 s0 x5 x3 FM
  ) else (
    X9_dull_b71 k30 x1 x2 s0 x5 ((x5 - s0) + (1 : Int32)) FM
  )
def X9_dull_b30s (k30 : Int32 → Int32 → Int32 → Int32 → Int32 → FMem → Opt) (x1 : Int32) (x2 : Int32) (x3 : Int32) (x4 : Int32) (x5 : Int32) (FM : FMem) : Opt :=
  if (40 : Int32) ≤ x5 then (
    if x1 = 0 then (
      some (x2, FM)
    ) else (
      some (x3, FM)
    )
  ) else (
    bnd (f_X9_goes FM) fun r10 M11 =>
    if r10 = 0 then (
      X9_dull_b52 k30 x1 x2 x3 x5 (x4 + (1 : Int32)) M11
    ) else (
      X9_dull_b52 k30 x1 x2 x3 x5 (0 : Int32) M11
    )
  )
def X9_dull_b30 : Nat → Int32 → Int32 → Int32 → Int32 → Int32 → FMem → Opt
  | 0, _, _, _, _, _, _ => none
  | nf + 1, x1, x2, x3, x4, x5, FM => X9_dull_b30s (X9_dull_b30 nf) x1 x2 x3 x4 x5 FM
def f_X9_dull (a1 : Int32) (FM : FMem) : Opt :=
  bnd (f_X9_in a1 (0 : Int32) (1 : Int32) FM) fun r1 M2 =>
  if r1 = 0 then (
    some ((-1 : Int32), M2)
  ) else (
    bnd (f_X9_from 2 M2) fun r5 M6 =>
    X9_dull_b30 FU a1 (0 : Int32) (-4 : Int32) (0 : Int32) (0 : Int32) M6
  )
set_option maxHeartbeats 4000000 in
set_option maxRecDepth 100000 in
theorem m_X9_dull (l : Launch) (D : va_G) (cI : ClassId) (b : Nat) (a1 : Int32) (FM : FMem) (r0 : Int32) (FR : FMem) (h : f_X9_dull a1 FM = some (r0, FR)) : Mt l (wdM D cI b) yX9_dull cX9_dull 6 (some .int) 4 97 [.ref (b + 0), .int a1] FM (some (.int r0)) FR := by
  refine Mt.of (by decide) (cat_cons rfl (cat_cons rfl cat_nil)) [some (.ref (b + 0)), some (.int a1), none, none, none, none] rfl (Nat.le_of_ble_eq_true rfl) (fun V hV => ?_)
  have B84 : ∀ (k30 : Int32 → Int32 → Int32 → Int32 → Int32 → FMem → Opt) (hk30 : ∀ (x1 : Int32) (x2 : Int32) (x3 : Int32) (x4 : Int32) (x5 : Int32) (FM : FMem), k30 x1 x2 x3 x4 x5 FM = some (r0, FR) → V FM 30 [some (.ref (b + 0)), some (.int x1), some (.int x2), some (.int x3), some (.int x4), some (.int x5)] []) (x1 : Int32) (x3 : Int32) (x4 : Int32) (x5 : Int32) (s0 : Int32) (FM : FMem), X9_dull_b84 k30 x1 x3 x4 x5 s0 FM = some (r0, FR) → V FM 84 [some (.ref (b + 0)), some (.int x1), none, some (.int x3), some (.int x4), some (.int x5)] [.int s0] := by
    intro k30 hk30 x1 x3 x4 x5 s0 FM h
    unfold X9_dull_b84 at h
    refine r_istore_n hV dX9_dull_84 (Nat.le_of_ble_eq_true rfl) rfl ?_
    refine r_iinc (v := (1 : Int32)) hV dX9_dull_85 rfl rfl rfl ?_
    refine r_goto hV 30 dX9_dull_88 rfl ?_
    exact hk30 x1 s0 x3 x4 (x5 + (1 : Int32)) FM h
  have B71 : ∀ (k30 : Int32 → Int32 → Int32 → Int32 → Int32 → FMem → Opt) (hk30 : ∀ (x1 : Int32) (x2 : Int32) (x3 : Int32) (x4 : Int32) (x5 : Int32) (FM : FMem), k30 x1 x2 x3 x4 x5 FM = some (r0, FR) → V FM 30 [some (.ref (b + 0)), some (.int x1), some (.int x2), some (.int x3), some (.int x4), some (.int x5)] []) (x1 : Int32) (x2 : Int32) (x4 : Int32) (x5 : Int32) (s0 : Int32) (FM : FMem), X9_dull_b71 k30 x1 x2 x4 x5 s0 FM = some (r0, FR) → V FM 71 [some (.ref (b + 0)), some (.int x1), some (.int x2), none, some (.int x4), some (.int x5)] [.int s0] := by
    intro k30 hk30 x1 x2 x4 x5 s0 FM h
    unfold X9_dull_b71 at h
    refine r_istore_n hV dX9_dull_71 (Nat.le_of_ble_eq_true rfl) rfl ?_
    refine r_iload hV dX9_dull_72 rfl ?_
    refine r_iload_n hV dX9_dull_74 rfl ?_
    refine r_icmple hV 83 dX9_dull_75 rfl (fun c15 => ?_) (fun c15 => ?_)
    · have h := (if_pos c15).symm.trans h
      refine r_iload_n hV dX9_dull_83 rfl ?_
      refine r_mask hV [true, true, false, true, true, true] ?_
      exact B84 k30 hk30 x1 s0 x4 x5 x2 FM h
    · have h := (if_neg c15).symm.trans h
      refine r_iload hV dX9_dull_78 rfl ?_
      refine r_goto hV 84 dX9_dull_80 rfl ?_
      refine r_mask hV [true, true, false, true, true, true] ?_
      exact B84 k30 hk30 x1 s0 x4 x5 x4 FM h
  have B52 : ∀ (k30 : Int32 → Int32 → Int32 → Int32 → Int32 → FMem → Opt) (hk30 : ∀ (x1 : Int32) (x2 : Int32) (x3 : Int32) (x4 : Int32) (x5 : Int32) (FM : FMem), k30 x1 x2 x3 x4 x5 FM = some (r0, FR) → V FM 30 [some (.ref (b + 0)), some (.int x1), some (.int x2), some (.int x3), some (.int x4), some (.int x5)] []) (x1 : Int32) (x2 : Int32) (x3 : Int32) (x5 : Int32) (s0 : Int32) (FM : FMem), X9_dull_b52 k30 x1 x2 x3 x5 s0 FM = some (r0, FR) → V FM 52 [some (.ref (b + 0)), some (.int x1), some (.int x2), some (.int x3), none, some (.int x5)] [.int s0] := by
    intro k30 hk30 x1 x2 x3 x5 s0 FM h
    unfold X9_dull_b52 at h
    refine r_istore hV dX9_dull_52 (Nat.le_of_ble_eq_true rfl) rfl ?_
    refine r_iload hV dX9_dull_54 rfl ?_
    refine r_iload_n hV dX9_dull_56 rfl ?_
    refine r_icmple hV 70 dX9_dull_57 rfl (fun c14 => ?_) (fun c14 => ?_)
    · have h := (if_pos c14).symm.trans h
      refine r_iload_n hV dX9_dull_70 rfl ?_
      refine r_mask hV [true, true, true, false, true, true] ?_
      exact B71 k30 hk30 x1 x2 s0 x5 x3 FM h
    · have h := (if_neg c14).symm.trans h
      refine r_iload hV dX9_dull_60 rfl ?_
      refine r_iload hV dX9_dull_62 rfl ?_
      refine r_isub hV dX9_dull_64 ?_
      refine r_iconst (v := (1 : Int32)) hV dX9_dull_65 rfl ?_
      refine r_iadd hV dX9_dull_66 ?_
      refine r_goto hV 71 dX9_dull_67 rfl ?_
      refine r_mask hV [true, true, true, false, true, true] ?_
      exact B71 k30 hk30 x1 x2 s0 x5 ((x5 - s0) + (1 : Int32)) FM h
  have B30 : ∀ (k30 : Int32 → Int32 → Int32 → Int32 → Int32 → FMem → Opt) (hk30 : ∀ (x1 : Int32) (x2 : Int32) (x3 : Int32) (x4 : Int32) (x5 : Int32) (FM : FMem), k30 x1 x2 x3 x4 x5 FM = some (r0, FR) → V FM 30 [some (.ref (b + 0)), some (.int x1), some (.int x2), some (.int x3), some (.int x4), some (.int x5)] []) (x1 : Int32) (x2 : Int32) (x3 : Int32) (x4 : Int32) (x5 : Int32) (FM : FMem), X9_dull_b30s k30 x1 x2 x3 x4 x5 FM = some (r0, FR) → V FM 30 [some (.ref (b + 0)), some (.int x1), some (.int x2), some (.int x3), some (.int x4), some (.int x5)] [] := by
    intro k30 hk30 x1 x2 x3 x4 x5 FM h
    unfold X9_dull_b30s at h
    refine r_iload hV dX9_dull_30 rfl ?_
    refine r_bipush (v := (40 : Int32)) hV dX9_dull_32 rfl ?_
    refine r_icmpge hV 91 dX9_dull_34 rfl (fun c8 => ?_) (fun c8 => ?_)
    · have h := (if_pos c8).symm.trans h
      refine r_iload_n hV dX9_dull_91 rfl ?_
      refine r_ifne hV 99 dX9_dull_92 rfl (fun c9 => ?_) (fun c9 => ?_)
      · have h := (if_neg c9).symm.trans h
        refine r_iload_n hV dX9_dull_99 rfl ?_
        exact r_iret hV rfl dX9_dull_100 (ret_r h) (ret_m h)
      · have h := (if_pos c9).symm.trans h
        refine r_iload_n hV dX9_dull_95 rfl ?_
        refine r_goto hV 100 dX9_dull_96 rfl ?_
        exact r_iret hV rfl dX9_dull_100 (ret_r h) (ret_m h)
    · have h := (if_neg c8).symm.trans h
      refine r_aload_n hV dX9_dull_37 rfl ?_
      obtain ⟨r10, M11, q12, h⟩ := bnd_some h
      refine r_cVi hV (m_X9_goes l D cI b FM _ _ q12) ml_X9_154 obM_0 rfl rfl (by decide) (Nat.le_of_ble_eq_true rfl) rfl dX9_dull_38 ?_
      refine r_ifeq hV 48 dX9_dull_41 rfl (fun c13 => ?_) (fun c13 => ?_)
      · have h := (if_pos c13).symm.trans h
        refine r_iload hV dX9_dull_48 rfl ?_
        refine r_iconst (v := (1 : Int32)) hV dX9_dull_50 rfl ?_
        refine r_iadd hV dX9_dull_51 ?_
        refine r_mask hV [true, true, true, true, false, true] ?_
        exact B52 k30 hk30 x1 x2 x3 x5 (x4 + (1 : Int32)) M11 h
      · have h := (if_neg c13).symm.trans h
        refine r_iconst (v := (0 : Int32)) hV dX9_dull_44 rfl ?_
        refine r_goto hV 52 dX9_dull_45 rfl ?_
        refine r_mask hV [true, true, true, true, false, true] ?_
        exact B52 k30 hk30 x1 x2 x3 x5 (0 : Int32) M11 h
  have L30 : ∀ (nf : Nat) (x1 : Int32) (x2 : Int32) (x3 : Int32) (x4 : Int32) (x5 : Int32) (FM : FMem), X9_dull_b30 nf x1 x2 x3 x4 x5 FM = some (r0, FR) → V FM 30 [some (.ref (b + 0)), some (.int x1), some (.int x2), some (.int x3), some (.int x4), some (.int x5)] [] := by
    intro  nf
    induction nf with
    | zero => intro x1 x2 x3 x4 x5 FM h; exact absurd (show (none : Opt) = some (r0, FR) from h) (fun h9 => by cases h9)
    | succ nf ih => intro x1 x2 x3 x4 x5 FM h; exact B30 (X9_dull_b30 nf) ih x1 x2 x3 x4 x5 FM h
  unfold f_X9_dull at h
  refine r_iload_n hV dX9_dull_0 rfl ?_
  refine r_iconst (v := (0 : Int32)) hV dX9_dull_1 rfl ?_
  refine r_iconst (v := (1 : Int32)) hV dX9_dull_2 rfl ?_
  obtain ⟨r1, M2, q3, h⟩ := bnd_some h
  refine r_cSi hV (m_X9_in l D cI b a1 (0 : Int32) (1 : Int32) FM _ _ q3) ml_X9_70 rfl (by decide) (Nat.le_of_ble_eq_true rfl) rfl dX9_dull_3 ?_
  refine r_ifne hV 11 dX9_dull_6 rfl (fun c4 => ?_) (fun c4 => ?_)
  · have h := (if_neg c4).symm.trans h
    refine r_aload_n hV dX9_dull_11 rfl ?_
    refine r_aload_n hV dX9_dull_12 rfl ?_
    refine r_geto hV fl_X9_13 obM_0 rfl dX9_dull_13 ?_
    obtain ⟨r5, M6, q7, h⟩ := bnd_some h
    refine r_cVv hV (m_X9_from l D cI b 2 arM_2 M2 _ _ q7) ml_X9_166 obM_0 rfl rfl (by decide) (Nat.le_of_ble_eq_true rfl) rfl dX9_dull_16 ?_
    refine r_iconst (v := (0 : Int32)) hV dX9_dull_19 rfl ?_
    refine r_istore_n hV dX9_dull_20 (Nat.le_of_ble_eq_true rfl) rfl ?_
    refine r_bipush (v := (-4 : Int32)) hV dX9_dull_21 rfl ?_
    refine r_istore_n hV dX9_dull_23 (Nat.le_of_ble_eq_true rfl) rfl ?_
    refine r_iconst (v := (0 : Int32)) hV dX9_dull_24 rfl ?_
    refine r_istore hV dX9_dull_25 (Nat.le_of_ble_eq_true rfl) rfl ?_
    refine r_iconst (v := (0 : Int32)) hV dX9_dull_27 rfl ?_
    refine r_istore hV dX9_dull_28 (Nat.le_of_ble_eq_true rfl) rfl ?_
    exact L30 FU a1 (0 : Int32) (-4 : Int32) (0 : Int32) (0 : Int32) M6 h
  · have h := (if_pos c4).symm.trans h
    refine r_iconst (v := (-1 : Int32)) hV dX9_dull_9 rfl ?_
    exact r_iret hV rfl dX9_dull_10 (ret_r h) (ret_m h)
def X9_year_b137 (k46 : Int32 → Int32 → Int32 → Int32 → Int32 → FMem → Opt) (x1 : Int32) (x2 : Int32) (x3 : Int32) (x5 : Int32) (s0 : Int32) (s1 : Int32) (FM : FMem) : Opt :=
  bindv (s0 + s1) fun v27 =>
  k46 x1 x2 x3 v27 (x5 + (1 : Int32)) FM
def X9_year_b120 (k46 : Int32 → Int32 → Int32 → Int32 → Int32 → FMem → Opt) (x1 : Int32) (x2 : Int32) (x3 : Int32) (x4 : Int32) (x5 : Int32) (s1 : Int32) (FM : FMem) : Opt :=
  bindm (fset FM 0 21 s1) fun M22 =>
  bnd (f_X9_goes M22) fun r23 M24 =>
  if r23 = 0 then (
    X9_year_b137 k46 x1 x2 x3 x5 x4 (0 : Int32) M24
  ) else (
    X9_year_b137 k46 x1 x2 x3 x5 x4 (1 : Int32) M24
  )
def X9_year_b46s (k46 : Int32 → Int32 → Int32 → Int32 → Int32 → FMem → Opt) (x1 : Int32) (x2 : Int32) (x3 : Int32) (x4 : Int32) (x5 : Int32) (FM : FMem) : Opt :=
  if x2 ≤ x5 then (
    if x3 = 0 then (
      some (x4, FM)
    ) else (
      some ((FM 11 4), FM)
    )
  ) else (
    bindl ((((7919 : Int64) * ((x1).toInt64)) + ((6151 : Int64) * ((x5).toInt64))) + (1 : Int64)) fun v18 =>
    bindv (((((v18 * v18) - (v18 * v18) / (65521 : Int64) * (65521 : Int64)) / (2 : Int64))).toInt32) fun v19 =>
    bindm (fset FM 0 20 ((1 : Int32) <<< (((v19 / (4 : Int32)) - (v19 / (4 : Int32)) / (5 : Int32) * (5 : Int32)) &&& 31))) fun M20 =>
    if (v19 - v19 / (3 : Int32) * (3 : Int32)) = 0 then (
      X9_year_b120 k46 x1 x2 x3 x4 x5 (((v19 / (32 : Int32)) - (v19 / (32 : Int32)) / (9 : Int32) * (9 : Int32)) + (1 : Int32)) M20
    ) else (
      X9_year_b120 k46 x1 x2 x3 x4 x5 (0 : Int32) M20
    )
  )
def X9_year_b46 : Nat → Int32 → Int32 → Int32 → Int32 → Int32 → FMem → Opt
  | 0, _, _, _, _, _, _ => none
  | nf + 1, x1, x2, x3, x4, x5, FM => X9_year_b46s (X9_year_b46 nf) x1 x2 x3 x4 x5 FM
def f_X9_year (a1 a2 a3 : Int32) (FM : FMem) : Opt :=
  bnd (f_X9_in a1 (0 : Int32) (9999 : Int32) FM) fun r1 M2 =>
  if r1 = 0 then (
    some ((-1 : Int32), M2)
  ) else (
    bnd (f_X9_in a2 (1 : Int32) (60 : Int32) M2) fun r5 M6 =>
    if r5 = 0 then (
      some ((-1 : Int32), M6)
    ) else (
      bnd (f_X9_in a3 (0 : Int32) (1 : Int32) M6) fun r9 M10 =>
      if r9 = 0 then (
        some ((-1 : Int32), M10)
      ) else (
        bnd (f_X9_from 2 M10) fun r13 M14 =>
        X9_year_b46 FU a1 a2 a3 (0 : Int32) (0 : Int32) M14
      )
    )
  )
set_option maxHeartbeats 4000000 in
set_option maxRecDepth 100000 in
theorem m_X9_year (l : Launch) (D : va_G) (cI : ClassId) (b : Nat) (a1 a2 a3 : Int32) (FM : FMem) (r0 : Int32) (FR : FMem) (h : f_X9_year a1 a2 a3 FM = some (r0, FR)) : Mt l (wdM D cI b) yX9_year cX9_year 9 (some .int) 4 97 [.ref (b + 0), .int a1, .int a2, .int a3] FM (some (.int r0)) FR := by
  refine Mt.of (by decide) (cat_cons rfl (cat_cons rfl (cat_cons rfl (cat_cons rfl cat_nil)))) [some (.ref (b + 0)), some (.int a1), some (.int a2), some (.int a3), none, none, none, none, none] rfl (Nat.le_of_ble_eq_true rfl) (fun V hV => ?_)
  have B137 : ∀ (k46 : Int32 → Int32 → Int32 → Int32 → Int32 → FMem → Opt) (hk46 : ∀ (x1 : Int32) (x2 : Int32) (x3 : Int32) (x4 : Int32) (x5 : Int32) (FM : FMem), k46 x1 x2 x3 x4 x5 FM = some (r0, FR) → V FM 46 [some (.ref (b + 0)), some (.int x1), some (.int x2), some (.int x3), some (.int x4), some (.int x5), none, none, none] []) (x1 : Int32) (x2 : Int32) (x3 : Int32) (x5 : Int32) (s0 : Int32) (s1 : Int32) (FM : FMem), X9_year_b137 k46 x1 x2 x3 x5 s0 s1 FM = some (r0, FR) → V FM 137 [some (.ref (b + 0)), some (.int x1), some (.int x2), some (.int x3), none, some (.int x5), none, none, none] [.int s1, .int s0] := by
    intro k46 hk46 x1 x2 x3 x5 s0 s1 FM h
    unfold X9_year_b137 at h
    refine r_iadd hV dX9_year_137 ?_
    refine r_bv h (fun v27 h => ?_)
    refine r_istore hV dX9_year_138 (Nat.le_of_ble_eq_true rfl) rfl ?_
    refine r_iinc (v := (1 : Int32)) hV dX9_year_140 rfl rfl rfl ?_
    refine r_goto hV 46 dX9_year_143 rfl ?_
    exact hk46 x1 x2 x3 v27 (x5 + (1 : Int32)) FM h
  have B120 : ∀ (k46 : Int32 → Int32 → Int32 → Int32 → Int32 → FMem → Opt) (hk46 : ∀ (x1 : Int32) (x2 : Int32) (x3 : Int32) (x4 : Int32) (x5 : Int32) (FM : FMem), k46 x1 x2 x3 x4 x5 FM = some (r0, FR) → V FM 46 [some (.ref (b + 0)), some (.int x1), some (.int x2), some (.int x3), some (.int x4), some (.int x5), none, none, none] []) (x1 : Int32) (x2 : Int32) (x3 : Int32) (x4 : Int32) (x5 : Int32) (s1 : Int32) (FM : FMem), X9_year_b120 k46 x1 x2 x3 x4 x5 s1 FM = some (r0, FR) → V FM 120 [some (.ref (b + 0)), some (.int x1), some (.int x2), some (.int x3), some (.int x4), some (.int x5), none, none, none] [.int s1, .ref (b + 0)] := by
    intro k46 hk46 x1 x2 x3 x4 x5 s1 FM h
    unfold X9_year_b120 at h
    refine r_puti hV fl_X9_130 obM_0 (fun _ _ => rfl) (Nat.le_of_ble_eq_true rfl) dX9_year_120 ?_
    refine r_bm h (fun M22 h => ?_)
    refine r_iload hV dX9_year_123 rfl ?_
    refine r_aload_n hV dX9_year_125 rfl ?_
    obtain ⟨r23, M24, q25, h⟩ := bnd_some h
    refine r_cVi hV (m_X9_goes l D cI b M22 _ _ q25) ml_X9_154 obM_0 rfl rfl (by decide) (Nat.le_of_ble_eq_true rfl) rfl dX9_year_126 ?_
    refine r_ifeq hV 136 dX9_year_129 rfl (fun c26 => ?_) (fun c26 => ?_)
    · have h := (if_pos c26).symm.trans h
      refine r_iconst (v := (0 : Int32)) hV dX9_year_136 rfl ?_
      refine r_mask hV [true, true, true, true, false, true, false, false, false] ?_
      exact B137 k46 hk46 x1 x2 x3 x5 x4 (0 : Int32) M24 h
    · have h := (if_neg c26).symm.trans h
      refine r_iconst (v := (1 : Int32)) hV dX9_year_132 rfl ?_
      refine r_goto hV 137 dX9_year_133 rfl ?_
      refine r_mask hV [true, true, true, true, false, true, false, false, false] ?_
      exact B137 k46 hk46 x1 x2 x3 x5 x4 (1 : Int32) M24 h
  have B46 : ∀ (k46 : Int32 → Int32 → Int32 → Int32 → Int32 → FMem → Opt) (hk46 : ∀ (x1 : Int32) (x2 : Int32) (x3 : Int32) (x4 : Int32) (x5 : Int32) (FM : FMem), k46 x1 x2 x3 x4 x5 FM = some (r0, FR) → V FM 46 [some (.ref (b + 0)), some (.int x1), some (.int x2), some (.int x3), some (.int x4), some (.int x5), none, none, none] []) (x1 : Int32) (x2 : Int32) (x3 : Int32) (x4 : Int32) (x5 : Int32) (FM : FMem), X9_year_b46s k46 x1 x2 x3 x4 x5 FM = some (r0, FR) → V FM 46 [some (.ref (b + 0)), some (.int x1), some (.int x2), some (.int x3), some (.int x4), some (.int x5), none, none, none] [] := by
    intro k46 hk46 x1 x2 x3 x4 x5 FM h
    unfold X9_year_b46s at h
    refine r_iload hV dX9_year_46 rfl ?_
    refine r_iload_n hV dX9_year_48 rfl ?_
    refine r_icmpge hV 146 dX9_year_49 rfl (fun c16 => ?_) (fun c16 => ?_)
    · have h := (if_pos c16).symm.trans h
      refine r_iload_n hV dX9_year_146 rfl ?_
      refine r_ifne hV 155 dX9_year_147 rfl (fun c17 => ?_) (fun c17 => ?_)
      · have h := (if_neg c17).symm.trans h
        refine r_aload_n hV dX9_year_155 rfl ?_
        refine r_geto hV fl_X9_40 obM_0 rfl dX9_year_156 ?_
        refine r_iconst (v := (4 : Int32)) hV dX9_year_159 rfl ?_
        refine r_ald hV arM_11 (inb_in rfl) (4) rfl dX9_year_160 ?_
        exact r_iret hV rfl dX9_year_161 (ret_r h) (ret_m h)
      · have h := (if_pos c17).symm.trans h
        refine r_iload hV dX9_year_150 rfl ?_
        refine r_goto hV 161 dX9_year_152 rfl ?_
        exact r_iret hV rfl dX9_year_161 (ret_r h) (ret_m h)
    · have h := (if_neg c16).symm.trans h
      refine r_ldc2 (v := 7919) hV (inT_of 1058 (by decide +kernel) (by decide +kernel)) dX9_year_52 ?_
      refine r_iload_n hV dX9_year_55 rfl ?_
      refine r_i2l hV dX9_year_56 ?_
      refine r_lmul hV dX9_year_57 ?_
      refine r_ldc2 (v := 6151) hV (inT_of 1059 (by decide +kernel) (by decide +kernel)) dX9_year_58 ?_
      refine r_iload hV dX9_year_61 rfl ?_
      refine r_i2l hV dX9_year_63 ?_
      refine r_lmul hV dX9_year_64 ?_
      refine r_ladd hV dX9_year_65 ?_
      refine r_lconst (v := 1) hV dX9_year_66 rfl ?_
      refine r_ladd hV dX9_year_67 ?_
      refine r_bl h (fun v18 h => ?_)
      refine r_lstore hV dX9_year_68 (Nat.le_of_ble_eq_true rfl) rfl ?_
      refine r_lload hV dX9_year_70 rfl ?_
      refine r_lload hV dX9_year_72 rfl ?_
      refine r_lmul hV dX9_year_74 ?_
      refine r_ldc2 (v := 65521) hV (inT_of 1060 (by decide +kernel) (by decide +kernel)) dX9_year_75 ?_
      refine r_lrem hV dX9_year_78 (by decide) ?_
      refine r_ldc2 (v := 2) hV (inT_of 1061 (by decide +kernel) (by decide +kernel)) dX9_year_79 ?_
      refine r_ldiv hV dX9_year_82 (by decide) ?_
      refine r_l2i hV dX9_year_83 ?_
      refine r_bv h (fun v19 h => ?_)
      refine r_istore hV dX9_year_84 (Nat.le_of_ble_eq_true rfl) rfl ?_
      refine r_aload_n hV dX9_year_86 rfl ?_
      refine r_iconst (v := (1 : Int32)) hV dX9_year_87 rfl ?_
      refine r_iload hV dX9_year_88 rfl ?_
      refine r_iconst (v := (4 : Int32)) hV dX9_year_90 rfl ?_
      refine r_idiv hV dX9_year_91 (by decide) ?_
      refine r_iconst (v := (5 : Int32)) hV dX9_year_92 rfl ?_
      refine r_irem hV dX9_year_93 (by decide) ?_
      refine r_ishl hV dX9_year_94 ?_
      refine r_puti hV fl_X9_144 obM_0 (fun _ _ => rfl) (Nat.le_of_ble_eq_true rfl) dX9_year_95 ?_
      refine r_bm h (fun M20 h => ?_)
      refine r_aload_n hV dX9_year_98 rfl ?_
      refine r_iload hV dX9_year_99 rfl ?_
      refine r_iconst (v := (3 : Int32)) hV dX9_year_101 rfl ?_
      refine r_irem hV dX9_year_102 (by decide) ?_
      refine r_ifne hV 119 dX9_year_103 rfl (fun c21 => ?_) (fun c21 => ?_)
      · have h := (if_neg c21).symm.trans h
        refine r_iconst (v := (0 : Int32)) hV dX9_year_119 rfl ?_
        refine r_mask hV [true, true, true, true, true, true, false, false, false] ?_
        exact B120 k46 hk46 x1 x2 x3 x4 x5 (0 : Int32) M20 h
      · have h := (if_pos c21).symm.trans h
        refine r_iload hV dX9_year_106 rfl ?_
        refine r_bipush (v := (32 : Int32)) hV dX9_year_108 rfl ?_
        refine r_idiv hV dX9_year_110 (by decide) ?_
        refine r_bipush (v := (9 : Int32)) hV dX9_year_111 rfl ?_
        refine r_irem hV dX9_year_113 (by decide) ?_
        refine r_iconst (v := (1 : Int32)) hV dX9_year_114 rfl ?_
        refine r_iadd hV dX9_year_115 ?_
        refine r_goto hV 120 dX9_year_116 rfl ?_
        refine r_mask hV [true, true, true, true, true, true, false, false, false] ?_
        exact B120 k46 hk46 x1 x2 x3 x4 x5 (((v19 / (32 : Int32)) - (v19 / (32 : Int32)) / (9 : Int32) * (9 : Int32)) + (1 : Int32)) M20 h
  have L46 : ∀ (nf : Nat) (x1 : Int32) (x2 : Int32) (x3 : Int32) (x4 : Int32) (x5 : Int32) (FM : FMem), X9_year_b46 nf x1 x2 x3 x4 x5 FM = some (r0, FR) → V FM 46 [some (.ref (b + 0)), some (.int x1), some (.int x2), some (.int x3), some (.int x4), some (.int x5), none, none, none] [] := by
    intro  nf
    induction nf with
    | zero => intro x1 x2 x3 x4 x5 FM h; exact absurd (show (none : Opt) = some (r0, FR) from h) (fun h9 => by cases h9)
    | succ nf ih => intro x1 x2 x3 x4 x5 FM h; exact B46 (X9_year_b46 nf) ih x1 x2 x3 x4 x5 FM h
  unfold f_X9_year at h
  refine r_iload_n hV dX9_year_0 rfl ?_
  refine r_iconst (v := (0 : Int32)) hV dX9_year_1 rfl ?_
  refine r_sipush (v := (9999 : Int32)) hV dX9_year_2 rfl ?_
  obtain ⟨r1, M2, q3, h⟩ := bnd_some h
  refine r_cSi hV (m_X9_in l D cI b a1 (0 : Int32) (9999 : Int32) FM _ _ q3) ml_X9_70 rfl (by decide) (Nat.le_of_ble_eq_true rfl) rfl dX9_year_5 ?_
  refine r_ifeq hV 30 dX9_year_8 rfl (fun c4 => ?_) (fun c4 => ?_)
  · have h := (if_pos c4).symm.trans h
    refine r_iconst (v := (-1 : Int32)) hV dX9_year_30 rfl ?_
    exact r_iret hV rfl dX9_year_31 (ret_r h) (ret_m h)
  · have h := (if_neg c4).symm.trans h
    refine r_iload_n hV dX9_year_11 rfl ?_
    refine r_iconst (v := (1 : Int32)) hV dX9_year_12 rfl ?_
    refine r_bipush (v := (60 : Int32)) hV dX9_year_13 rfl ?_
    obtain ⟨r5, M6, q7, h⟩ := bnd_some h
    refine r_cSi hV (m_X9_in l D cI b a2 (1 : Int32) (60 : Int32) M2 _ _ q7) ml_X9_70 rfl (by decide) (Nat.le_of_ble_eq_true rfl) rfl dX9_year_15 ?_
    refine r_ifeq hV 30 dX9_year_18 rfl (fun c8 => ?_) (fun c8 => ?_)
    · have h := (if_pos c8).symm.trans h
      refine r_iconst (v := (-1 : Int32)) hV dX9_year_30 rfl ?_
      exact r_iret hV rfl dX9_year_31 (ret_r h) (ret_m h)
    · have h := (if_neg c8).symm.trans h
      refine r_iload_n hV dX9_year_21 rfl ?_
      refine r_iconst (v := (0 : Int32)) hV dX9_year_22 rfl ?_
      refine r_iconst (v := (1 : Int32)) hV dX9_year_23 rfl ?_
      obtain ⟨r9, M10, q11, h⟩ := bnd_some h
      refine r_cSi hV (m_X9_in l D cI b a3 (0 : Int32) (1 : Int32) M6 _ _ q11) ml_X9_70 rfl (by decide) (Nat.le_of_ble_eq_true rfl) rfl dX9_year_24 ?_
      refine r_ifne hV 32 dX9_year_27 rfl (fun c12 => ?_) (fun c12 => ?_)
      · have h := (if_neg c12).symm.trans h
        refine r_aload_n hV dX9_year_32 rfl ?_
        refine r_aload_n hV dX9_year_33 rfl ?_
        refine r_geto hV fl_X9_13 obM_0 rfl dX9_year_34 ?_
        obtain ⟨r13, M14, q15, h⟩ := bnd_some h
        refine r_cVv hV (m_X9_from l D cI b 2 arM_2 M10 _ _ q15) ml_X9_166 obM_0 rfl rfl (by decide) (Nat.le_of_ble_eq_true rfl) rfl dX9_year_37 ?_
        refine r_iconst (v := (0 : Int32)) hV dX9_year_40 rfl ?_
        refine r_istore hV dX9_year_41 (Nat.le_of_ble_eq_true rfl) rfl ?_
        refine r_iconst (v := (0 : Int32)) hV dX9_year_43 rfl ?_
        refine r_istore hV dX9_year_44 (Nat.le_of_ble_eq_true rfl) rfl ?_
        exact L46 FU a1 a2 a3 (0 : Int32) (0 : Int32) M14 h
      · have h := (if_pos c12).symm.trans h
        refine r_iconst (v := (-1 : Int32)) hV dX9_year_30 rfl ?_
        exact r_iret hV rfl dX9_year_31 (ret_r h) (ret_m h)
def f_X9_keep (FM : FMem) : Opt :=
  if (FM 0 7) = (2 : Int32) then (
    some ((-3 : Int32), FM)
  ) else (
    bnd (f_X9_put 5 92 2 46 ((46 : Int32) * (FM 0 7)) (46 : Int32) FM) fun r2 M3 =>
    bindm (fset M3 0 7 ((M3 0 7) + (1 : Int32))) fun M5 =>
    some ((M5 0 7), M5)
  )
set_option maxHeartbeats 4000000 in
set_option maxRecDepth 100000 in
theorem m_X9_keep (l : Launch) (D : va_G) (cI : ClassId) (b : Nat) (FM : FMem) (r0 : Int32) (FR : FMem) (h : f_X9_keep FM = some (r0, FR)) : Mt l (wdM D cI b) yX9_keep cX9_keep 1 (some .int) 1 24 [.ref (b + 0)] FM (some (.int r0)) FR := by
  refine Mt.of (by decide) (cat_cons rfl cat_nil) [some (.ref (b + 0))] rfl (Nat.le_of_ble_eq_true rfl) (fun V hV => ?_)
  unfold f_X9_keep at h
  refine r_aload_n hV dX9_keep_0 rfl ?_
  refine r_geto hV fl_X9_124 obM_0 rfl dX9_keep_1 ?_
  refine r_iconst (v := (2 : Int32)) hV dX9_keep_4 rfl ?_
  refine r_icmpne hV 11 dX9_keep_5 rfl (fun c1 => ?_) (fun c1 => ?_)
  · have h := (if_neg c1).symm.trans h
    refine r_aload_n hV dX9_keep_11 rfl ?_
    refine r_geto hV fl_X9_22 obM_0 rfl dX9_keep_12 ?_
    refine r_bipush (v := (46 : Int32)) hV dX9_keep_15 rfl ?_
    refine r_aload_n hV dX9_keep_17 rfl ?_
    refine r_geto hV fl_X9_124 obM_0 rfl dX9_keep_18 ?_
    refine r_imul hV dX9_keep_21 ?_
    refine r_aload_n hV dX9_keep_22 rfl ?_
    refine r_geto hV fl_X9_13 obM_0 rfl dX9_keep_23 ?_
    refine r_bipush (v := (46 : Int32)) hV dX9_keep_26 rfl ?_
    obtain ⟨r2, M3, q4, h⟩ := bnd_some h
    refine r_cSv hV (m_X9_put l D cI b 5 92 2 46 arM_5 arM_2 ((46 : Int32) * (FM 0 7)) (46 : Int32) FM _ _ q4) ml_X9_117 rfl (by decide) (Nat.le_of_ble_eq_true rfl) rfl dX9_keep_28 ?_
    refine r_aload_n hV dX9_keep_31 rfl ?_
    refine r_dup hV dX9_keep_32 rfl ?_
    refine r_geto hV fl_X9_124 obM_0 rfl dX9_keep_33 ?_
    refine r_iconst (v := (1 : Int32)) hV dX9_keep_36 rfl ?_
    refine r_iadd hV dX9_keep_37 ?_
    refine r_puti hV fl_X9_124 obM_0 (fun _ _ => rfl) (Nat.le_of_ble_eq_true rfl) dX9_keep_38 ?_
    refine r_bm h (fun M5 h => ?_)
    refine r_aload_n hV dX9_keep_41 rfl ?_
    refine r_geto hV fl_X9_124 obM_0 rfl dX9_keep_42 ?_
    exact r_iret hV rfl dX9_keep_45 (ret_r h) (ret_m h)
  · have h := (if_pos c1).symm.trans h
    refine r_bipush (v := (-3 : Int32)) hV dX9_keep_8 rfl ?_
    exact r_iret hV rfl dX9_keep_10 (ret_r h) (ret_m h)
def X9_back_b22s (k22 : Int32 → FMem → Opt) (x1 : Int32) (FM : FMem) : Opt :=
  if (46 : Int32) ≤ x1 then (
    bindm (fset FM 0 5 (0 : Int32)) fun M4 =>
    some ((M4 0 7), M4)
  ) else (
    grd (inb (((46 : Int32) * (FM 0 7)) + x1) 92) <|
    grd (inb x1 46) <|
    bindm (fset FM 2 ((x1).toNatClampNeg) (FM 5 (((((46 : Int32) * (FM 0 7)) + x1)).toNatClampNeg))) fun M7 =>
    k22 (x1 + (1 : Int32)) M7
  )
def X9_back_b22 : Nat → Int32 → FMem → Opt
  | 0, _, _ => none
  | nf + 1, x1, FM => X9_back_b22s (X9_back_b22 nf) x1 FM
def f_X9_back (FM : FMem) : Opt :=
  if (FM 0 7) = 0 then (
    some ((-2 : Int32), FM)
  ) else (
    bindm (fset FM 0 7 ((FM 0 7) - (1 : Int32))) fun M2 =>
    X9_back_b22 FU (0 : Int32) M2
  )
set_option maxHeartbeats 4000000 in
set_option maxRecDepth 100000 in
theorem m_X9_back (l : Launch) (D : va_G) (cI : ClassId) (b : Nat) (FM : FMem) (r0 : Int32) (FR : FMem) (h : f_X9_back FM = some (r0, FR)) : Mt l (wdM D cI b) yX9_back cX9_back 2 (some .int) 0 0 [.ref (b + 0)] FM (some (.int r0)) FR := by
  refine Mt.of (by decide) (cat_cons rfl cat_nil) [some (.ref (b + 0)), none] rfl (Nat.le_of_ble_eq_true rfl) (fun V hV => ?_)
  have B22 : ∀ (k22 : Int32 → FMem → Opt) (hk22 : ∀ (x1 : Int32) (FM : FMem), k22 x1 FM = some (r0, FR) → V FM 22 [some (.ref (b + 0)), some (.int x1)] []) (x1 : Int32) (FM : FMem), X9_back_b22s k22 x1 FM = some (r0, FR) → V FM 22 [some (.ref (b + 0)), some (.int x1)] [] := by
    intro k22 hk22 x1 FM h
    unfold X9_back_b22s at h
    refine r_iload_n hV dX9_back_22 rfl ?_
    refine r_bipush (v := (46 : Int32)) hV dX9_back_23 rfl ?_
    refine r_icmpge hV 54 dX9_back_25 rfl (fun c3 => ?_) (fun c3 => ?_)
    · have h := (if_pos c3).symm.trans h
      refine r_aload_n hV dX9_back_54 rfl ?_
      refine r_iconst (v := (0 : Int32)) hV dX9_back_55 rfl ?_
      refine r_puti hV fl_X9_121 obM_0 (fun _ _ => rfl) (Nat.le_of_ble_eq_true rfl) dX9_back_56 ?_
      refine r_bm h (fun M4 h => ?_)
      refine r_aload_n hV dX9_back_59 rfl ?_
      refine r_geto hV fl_X9_124 obM_0 rfl dX9_back_60 ?_
      exact r_iret hV rfl dX9_back_63 (ret_r h) (ret_m h)
    · have h := (if_neg c3).symm.trans h
      refine r_aload_n hV dX9_back_28 rfl ?_
      refine r_geto hV fl_X9_13 obM_0 rfl dX9_back_29 ?_
      refine r_iload_n hV dX9_back_32 rfl ?_
      refine r_aload_n hV dX9_back_33 rfl ?_
      refine r_geto hV fl_X9_22 obM_0 rfl dX9_back_34 ?_
      refine r_bipush (v := (46 : Int32)) hV dX9_back_37 rfl ?_
      refine r_aload_n hV dX9_back_39 rfl ?_
      refine r_geto hV fl_X9_124 obM_0 rfl dX9_back_40 ?_
      refine r_imul hV dX9_back_43 ?_
      refine r_iload_n hV dX9_back_44 rfl ?_
      refine r_iadd hV dX9_back_45 ?_
      obtain ⟨g5, h⟩ := grd_some h
      refine r_ald hV arM_5 (inb_in g5) (((((46 : Int32) * (FM 0 7)) + x1)).toNatClampNeg) rfl dX9_back_46 ?_
      obtain ⟨g6, h⟩ := grd_some h
      refine r_ast hV arM_2 (inb_in g6) ((x1).toNatClampNeg) rfl dX9_back_47 ?_
      refine r_bm h (fun M7 h => ?_)
      refine r_iinc (v := (1 : Int32)) hV dX9_back_48 rfl rfl rfl ?_
      refine r_goto hV 22 dX9_back_51 rfl ?_
      exact hk22 (x1 + (1 : Int32)) M7 h
  have L22 : ∀ (nf : Nat) (x1 : Int32) (FM : FMem), X9_back_b22 nf x1 FM = some (r0, FR) → V FM 22 [some (.ref (b + 0)), some (.int x1)] [] := by
    intro  nf
    induction nf with
    | zero => intro x1 FM h; exact absurd (show (none : Opt) = some (r0, FR) from h) (fun h9 => by cases h9)
    | succ nf ih => intro x1 FM h; exact B22 (X9_back_b22 nf) ih x1 FM h
  unfold f_X9_back at h
  refine r_aload_n hV dX9_back_0 rfl ?_
  refine r_geto hV fl_X9_124 obM_0 rfl dX9_back_1 ?_
  refine r_ifne hV 10 dX9_back_4 rfl (fun c1 => ?_) (fun c1 => ?_)
  · have h := (if_neg c1).symm.trans h
    refine r_aload_n hV dX9_back_10 rfl ?_
    refine r_dup hV dX9_back_11 rfl ?_
    refine r_geto hV fl_X9_124 obM_0 rfl dX9_back_12 ?_
    refine r_iconst (v := (1 : Int32)) hV dX9_back_15 rfl ?_
    refine r_isub hV dX9_back_16 ?_
    refine r_puti hV fl_X9_124 obM_0 (fun _ _ => rfl) (Nat.le_of_ble_eq_true rfl) dX9_back_17 ?_
    refine r_bm h (fun M2 h => ?_)
    refine r_iconst (v := (0 : Int32)) hV dX9_back_20 rfl ?_
    refine r_istore_n hV dX9_back_21 (Nat.le_of_ble_eq_true rfl) rfl ?_
    exact L22 FU (0 : Int32) M2 h
  · have h := (if_pos c1).symm.trans h
    refine r_bipush (v := (-2 : Int32)) hV dX9_back_7 rfl ?_
    exact r_iret hV rfl dX9_back_9 (ret_r h) (ret_m h)
def f_X9_count (a1 : Int32) (FM : FMem) : Opt :=
  if a1 = (0 : Int32) then (
    some ((FM 0 0), FM)
  ) else
  if a1 = (1 : Int32) then (
    some ((FM 2 2), FM)
  ) else
  if a1 = (2 : Int32) then (
    some ((FM 2 0), FM)
  ) else
  if a1 = (3 : Int32) then (
    bnd (f_X9_bits (FM 2 3) FM) fun r5 M6 =>
    some (r5, M6)
  ) else
  if a1 = (4 : Int32) then (
    some ((FM 0 9), FM)
  ) else
  if a1 = (5 : Int32) then (
    some ((FM 0 5), FM)
  ) else
  if a1 = (6 : Int32) then (
    some ((FM 0 7), FM)
  ) else
  if a1 = (7 : Int32) then (
    some ((FM 0 12), FM)
  ) else
  if a1 = (8 : Int32) then (
    some ((FM 0 2), FM)
  ) else
  some ((-1 : Int32), FM)
set_option maxHeartbeats 4000000 in
set_option maxRecDepth 100000 in
theorem m_X9_count (l : Launch) (D : va_G) (cI : ClassId) (b : Nat) (a1 : Int32) (FM : FMem) (r0 : Int32) (FR : FMem) (h : f_X9_count a1 FM = some (r0, FR)) : Mt l (wdM D cI b) yX9_count cX9_count 2 (some .int) 1 22 [.ref (b + 0), .int a1] FM (some (.int r0)) FR := by
  refine Mt.of (by decide) (cat_cons rfl (cat_cons rfl cat_nil)) [some (.ref (b + 0)), some (.int a1)] rfl (Nat.le_of_ble_eq_true rfl) (fun V hV => ?_)
  unfold f_X9_count at h
  refine r_iload_n hV dX9_count_0 rfl ?_
  by_cases e1 : a1 = (0 : Int32)
  · have h := (if_pos e1).symm.trans h
    refine r_tabIn hV 52 dX9_count_1 (by rw [e1]; decide) (by rw [e1]; decide) (by first | (rw [e1]; done) | (rw [e1]; rfl)) rfl ?_
    refine r_aload_n hV dX9_count_52 rfl ?_
    refine r_geto hV fl_X9_67 obM_0 rfl dX9_count_53 ?_
    exact r_iret hV rfl dX9_count_56 (ret_r h) (ret_m h)
  have h := (if_neg e1).symm.trans h
  by_cases e2 : a1 = (1 : Int32)
  · have h := (if_pos e2).symm.trans h
    refine r_tabIn hV 57 dX9_count_1 (by rw [e2]; decide) (by rw [e2]; decide) (by first | (rw [e2]; done) | (rw [e2]; rfl)) rfl ?_
    refine r_aload_n hV dX9_count_57 rfl ?_
    refine r_geto hV fl_X9_13 obM_0 rfl dX9_count_58 ?_
    refine r_iconst (v := (2 : Int32)) hV dX9_count_61 rfl ?_
    refine r_ald hV arM_2 (inb_in rfl) (2) rfl dX9_count_62 ?_
    exact r_iret hV rfl dX9_count_63 (ret_r h) (ret_m h)
  have h := (if_neg e2).symm.trans h
  by_cases e3 : a1 = (2 : Int32)
  · have h := (if_pos e3).symm.trans h
    refine r_tabIn hV 64 dX9_count_1 (by rw [e3]; decide) (by rw [e3]; decide) (by first | (rw [e3]; done) | (rw [e3]; rfl)) rfl ?_
    refine r_aload_n hV dX9_count_64 rfl ?_
    refine r_geto hV fl_X9_13 obM_0 rfl dX9_count_65 ?_
    refine r_iconst (v := (0 : Int32)) hV dX9_count_68 rfl ?_
    refine r_ald hV arM_2 (inb_in rfl) (0) rfl dX9_count_69 ?_
    exact r_iret hV rfl dX9_count_70 (ret_r h) (ret_m h)
  have h := (if_neg e3).symm.trans h
  by_cases e4 : a1 = (3 : Int32)
  · have h := (if_pos e4).symm.trans h
    refine r_tabIn hV 71 dX9_count_1 (by rw [e4]; decide) (by rw [e4]; decide) (by first | (rw [e4]; done) | (rw [e4]; rfl)) rfl ?_
    refine r_aload_n hV dX9_count_71 rfl ?_
    refine r_geto hV fl_X9_13 obM_0 rfl dX9_count_72 ?_
    refine r_iconst (v := (3 : Int32)) hV dX9_count_75 rfl ?_
    refine r_ald hV arM_2 (inb_in rfl) (3) rfl dX9_count_76 ?_
    obtain ⟨r5, M6, q7, h⟩ := bnd_some h
    refine r_cSi hV (m_X9_bits l D cI b (FM 2 3) FM _ _ q7) ml_X9_133 rfl (by decide) (Nat.le_of_ble_eq_true rfl) rfl dX9_count_77 ?_
    exact r_iret hV rfl dX9_count_80 (ret_r h) (ret_m h)
  have h := (if_neg e4).symm.trans h
  by_cases e8 : a1 = (4 : Int32)
  · have h := (if_pos e8).symm.trans h
    refine r_tabIn hV 81 dX9_count_1 (by rw [e8]; decide) (by rw [e8]; decide) (by first | (rw [e8]; done) | (rw [e8]; rfl)) rfl ?_
    refine r_aload_n hV dX9_count_81 rfl ?_
    refine r_geto hV fl_X9_127 obM_0 rfl dX9_count_82 ?_
    exact r_iret hV rfl dX9_count_85 (ret_r h) (ret_m h)
  have h := (if_neg e8).symm.trans h
  by_cases e9 : a1 = (5 : Int32)
  · have h := (if_pos e9).symm.trans h
    refine r_tabIn hV 86 dX9_count_1 (by rw [e9]; decide) (by rw [e9]; decide) (by first | (rw [e9]; done) | (rw [e9]; rfl)) rfl ?_
    refine r_aload_n hV dX9_count_86 rfl ?_
    refine r_geto hV fl_X9_121 obM_0 rfl dX9_count_87 ?_
    exact r_iret hV rfl dX9_count_90 (ret_r h) (ret_m h)
  have h := (if_neg e9).symm.trans h
  by_cases e10 : a1 = (6 : Int32)
  · have h := (if_pos e10).symm.trans h
    refine r_tabIn hV 91 dX9_count_1 (by rw [e10]; decide) (by rw [e10]; decide) (by first | (rw [e10]; done) | (rw [e10]; rfl)) rfl ?_
    refine r_aload_n hV dX9_count_91 rfl ?_
    refine r_geto hV fl_X9_124 obM_0 rfl dX9_count_92 ?_
    exact r_iret hV rfl dX9_count_95 (ret_r h) (ret_m h)
  have h := (if_neg e10).symm.trans h
  by_cases e11 : a1 = (7 : Int32)
  · have h := (if_pos e11).symm.trans h
    refine r_tabIn hV 96 dX9_count_1 (by rw [e11]; decide) (by rw [e11]; decide) (by first | (rw [e11]; done) | (rw [e11]; rfl)) rfl ?_
    refine r_aload_n hV dX9_count_96 rfl ?_
    refine r_geto hV fl_X9_74 obM_0 rfl dX9_count_97 ?_
    exact r_iret hV rfl dX9_count_100 (ret_r h) (ret_m h)
  have h := (if_neg e11).symm.trans h
  by_cases e12 : a1 = (8 : Int32)
  · have h := (if_pos e12).symm.trans h
    refine r_tabIn hV 101 dX9_count_1 (by rw [e12]; decide) (by rw [e12]; decide) (by first | (rw [e12]; done) | (rw [e12]; rfl)) rfl ?_
    refine r_aload_n hV dX9_count_101 rfl ?_
    refine r_geto hV fl_X9_114 obM_0 rfl dX9_count_102 ?_
    exact r_iret hV rfl dX9_count_105 (ret_r h) (ret_m h)
  have h := (if_neg e12).symm.trans h
  have e1t := lv_neT (a := 0) e1 rfl
  have e2t := lv_neT (a := 1) e2 rfl
  have e3t := lv_neT (a := 2) e3 rfl
  have e4t := lv_neT (a := 3) e4 rfl
  have e8t := lv_neT (a := 4) e8 rfl
  have e9t := lv_neT (a := 5) e9 rfl
  have e10t := lv_neT (a := 6) e10 rfl
  have e11t := lv_neT (a := 7) e11 rfl
  have e12t := lv_neT (a := 8) e12 rfl
  refine r_tabOut hV 106 dX9_count_1 (by omega) rfl ?_
  refine r_iconst (v := (-1 : Int32)) hV dX9_count_106 rfl ?_
  exact r_iret hV rfl dX9_count_107 (ret_r h) (ret_m h)
