def f_X8_isTopics (a0 : Int32) (FM : FMem) : Opt :=
  if a0 < (1 : Int32) then (
    some ((0 : Int32), FM)
  ) else (
    if (31 : Int32) < a0 then (
      some ((0 : Int32), FM)
    ) else (
      some ((1 : Int32), FM)
    )
  )
set_option maxHeartbeats 4000000 in
set_option maxRecDepth 100000 in
theorem m_X8_isTopics (l : Launch) (D : va_G) (cI cM : ClassId) (b : Nat) (a0 : Int32) (FM : FMem) (r0 : Int32) (FR : FMem) (h : f_X8_isTopics a0 FM = some (r0, FR)) : Mt l (wdC D cI cM b) yX8_isTopics cX8_isTopics 1 (some .boolean) 0 0 [.int a0] FM (some (.int r0)) FR := by
  refine Mt.of (by decide) (cat_cons rfl cat_nil) [some (.int a0)] rfl (Nat.le_of_ble_eq_true rfl) (fun V hV => ?_)
  unfold f_X8_isTopics at h
  refine r_iload_n hV dX8_isTopics_0 rfl ?_
  refine r_iconst (v := (1 : Int32)) hV dX8_isTopics_1 rfl ?_
  refine r_icmplt hV 15 dX8_isTopics_2 rfl (fun c1 => ?_) (fun c1 => ?_)
  · have h := (if_pos c1).symm.trans h
    refine r_iconst (v := (0 : Int32)) hV dX8_isTopics_15 rfl ?_
    exact r_zret hV rfl (Or.inl rfl) dX8_isTopics_16 (ret_r h) (ret_m h)
  · have h := (if_neg c1).symm.trans h
    refine r_iload_n hV dX8_isTopics_5 rfl ?_
    refine r_bipush (v := (31 : Int32)) hV dX8_isTopics_6 rfl ?_
    refine r_icmpgt hV 15 dX8_isTopics_8 rfl (fun c2 => ?_) (fun c2 => ?_)
    · have h := (if_pos c2).symm.trans h
      refine r_iconst (v := (0 : Int32)) hV dX8_isTopics_15 rfl ?_
      exact r_zret hV rfl (Or.inl rfl) dX8_isTopics_16 (ret_r h) (ret_m h)
    · have h := (if_neg c2).symm.trans h
      refine r_iconst (v := (1 : Int32)) hV dX8_isTopics_11 rfl ?_
      refine r_goto hV 16 dX8_isTopics_12 rfl ?_
      exact r_zret hV rfl (Or.inr rfl) dX8_isTopics_16 (ret_r h) (ret_m h)
def f_X8_isStrength (a0 : Int32) (FM : FMem) : Opt :=
  if a0 < (1 : Int32) then (
    some ((0 : Int32), FM)
  ) else (
    if (9 : Int32) < a0 then (
      some ((0 : Int32), FM)
    ) else (
      some ((1 : Int32), FM)
    )
  )
set_option maxHeartbeats 4000000 in
set_option maxRecDepth 100000 in
theorem m_X8_isStrength (l : Launch) (D : va_G) (cI cM : ClassId) (b : Nat) (a0 : Int32) (FM : FMem) (r0 : Int32) (FR : FMem) (h : f_X8_isStrength a0 FM = some (r0, FR)) : Mt l (wdC D cI cM b) yX8_isStrength cX8_isStrength 1 (some .boolean) 0 0 [.int a0] FM (some (.int r0)) FR := by
  refine Mt.of (by decide) (cat_cons rfl cat_nil) [some (.int a0)] rfl (Nat.le_of_ble_eq_true rfl) (fun V hV => ?_)
  unfold f_X8_isStrength at h
  refine r_iload_n hV dX8_isStrength_0 rfl ?_
  refine r_iconst (v := (1 : Int32)) hV dX8_isStrength_1 rfl ?_
  refine r_icmplt hV 15 dX8_isStrength_2 rfl (fun c1 => ?_) (fun c1 => ?_)
  · have h := (if_pos c1).symm.trans h
    refine r_iconst (v := (0 : Int32)) hV dX8_isStrength_15 rfl ?_
    exact r_zret hV rfl (Or.inl rfl) dX8_isStrength_16 (ret_r h) (ret_m h)
  · have h := (if_neg c1).symm.trans h
    refine r_iload_n hV dX8_isStrength_5 rfl ?_
    refine r_bipush (v := (9 : Int32)) hV dX8_isStrength_6 rfl ?_
    refine r_icmpgt hV 15 dX8_isStrength_8 rfl (fun c2 => ?_) (fun c2 => ?_)
    · have h := (if_pos c2).symm.trans h
      refine r_iconst (v := (0 : Int32)) hV dX8_isStrength_15 rfl ?_
      exact r_zret hV rfl (Or.inl rfl) dX8_isStrength_16 (ret_r h) (ret_m h)
    · have h := (if_neg c2).symm.trans h
      refine r_iconst (v := (1 : Int32)) hV dX8_isStrength_11 rfl ?_
      refine r_goto hV 16 dX8_isStrength_12 rfl ?_
      exact r_zret hV rfl (Or.inr rfl) dX8_isStrength_16 (ret_r h) (ret_m h)
def f_X0_numbersOf (a0 : Int32) (FM : FMem) : Opt :=
  if a0 = (112 : Int32) then (
    some ((3 : Int32), FM)
  ) else (
    if a0 = (116 : Int32) then (
      some ((3 : Int32), FM)
    ) else (
      if a0 = (102 : Int32) then (
        some ((1 : Int32), FM)
      ) else (
        some ((0 : Int32), FM)
      )
    )
  )
set_option maxHeartbeats 4000000 in
set_option maxRecDepth 100000 in
theorem m_X0_numbersOf (l : Launch) (D : va_G) (cI cM : ClassId) (b : Nat) (a0 : Int32) (FM : FMem) (r0 : Int32) (FR : FMem) (h : f_X0_numbersOf a0 FM = some (r0, FR)) : Mt l (wdC D cI cM b) yX0_numbersOf cX0_numbersOf 1 (some .int) 0 0 [.int a0] FM (some (.int r0)) FR := by
  refine Mt.of (by decide) (cat_cons rfl cat_nil) [some (.int a0)] rfl (Nat.le_of_ble_eq_true rfl) (fun V hV => ?_)
  unfold f_X0_numbersOf at h
  refine r_iload_n hV dX0_numbersOf_0 rfl ?_
  refine r_bipush (v := (112 : Int32)) hV dX0_numbersOf_1 rfl ?_
  refine r_icmpeq hV 12 dX0_numbersOf_3 rfl (fun c1 => ?_) (fun c1 => ?_)
  · have h := (if_pos c1).symm.trans h
    refine r_iconst (v := (3 : Int32)) hV dX0_numbersOf_12 rfl ?_
    exact r_iret hV rfl dX0_numbersOf_13 (ret_r h) (ret_m h)
  · have h := (if_neg c1).symm.trans h
    refine r_iload_n hV dX0_numbersOf_6 rfl ?_
    refine r_bipush (v := (116 : Int32)) hV dX0_numbersOf_7 rfl ?_
    refine r_icmpne hV 14 dX0_numbersOf_9 rfl (fun c2 => ?_) (fun c2 => ?_)
    · have h := (if_neg c2).symm.trans h
      refine r_iload_n hV dX0_numbersOf_14 rfl ?_
      refine r_bipush (v := (102 : Int32)) hV dX0_numbersOf_15 rfl ?_
      refine r_icmpne hV 24 dX0_numbersOf_17 rfl (fun c3 => ?_) (fun c3 => ?_)
      · have h := (if_neg c3).symm.trans h
        refine r_iconst (v := (0 : Int32)) hV dX0_numbersOf_24 rfl ?_
        exact r_iret hV rfl dX0_numbersOf_25 (ret_r h) (ret_m h)
      · have h := (if_pos c3).symm.trans h
        refine r_iconst (v := (1 : Int32)) hV dX0_numbersOf_20 rfl ?_
        refine r_goto hV 25 dX0_numbersOf_21 rfl ?_
        exact r_iret hV rfl dX0_numbersOf_25 (ret_r h) (ret_m h)
    · have h := (if_pos c2).symm.trans h
      refine r_iconst (v := (3 : Int32)) hV dX0_numbersOf_12 rfl ?_
      exact r_iret hV rfl dX0_numbersOf_13 (ret_r h) (ret_m h)
def X0_readNumbers_b83 (t : Nat) (k14 : Int32 → Int32 → Int32 → FMem → Opt) (x3 : Int32) (x4 : Int32) (x5 : Int32) (x6 : Int32) (s0 : Int32) (s1 : Int32) (FM : FMem) : Opt :=
  if s0 = s1 then (
    bnd (f_X4_numberAt x4 x6 FM) fun r15 M16 =>
    grd (inb x5 3) <|
    bindm (fset M16 (t + 8) ((x5).toNatClampNeg) r15) fun M19 =>
    bindv (x4 + (x6 + (1 : Int32))) fun v20 =>
    k14 x3 v20 (x5 + (1 : Int32)) M19
  ) else (
    some ((-1 : Int32), FM)
  )
def X0_readNumbers_b14s (t : Nat) (k14 : Int32 → Int32 → Int32 → FMem → Opt) (x3 : Int32) (x4 : Int32) (x5 : Int32) (FM : FMem) : Opt :=
  if x3 ≤ x5 then (
    some (x4, FM)
  ) else (
    if (3 : Int32) ≤ x5 then (
      some (x4, FM)
    ) else (
      if x4 < 0 then (
        some (x4, FM)
      ) else (
        bnd (f_X4_figuresAt x4 FM) fun r5 M6 =>
        bnd (f_X4_letterAt (x4 + r5) M6) fun r8 M9 =>
        if r5 < (1 : Int32) then (
          some ((-1 : Int32), M9)
        ) else (
          if (2 : Int32) < r5 then (
            some ((-1 : Int32), M9)
          ) else (
            if x5 = (x3 - (1 : Int32)) then (
              X0_readNumbers_b83 t k14 x3 x4 x5 r5 r8 (59 : Int32) M9
            ) else (
              X0_readNumbers_b83 t k14 x3 x4 x5 r5 r8 (44 : Int32) M9
            )
          )
        )
      )
    )
  )
def X0_readNumbers_b14 (t : Nat) : Nat → Int32 → Int32 → Int32 → FMem → Opt
  | 0, _, _, _, _ => none
  | nf + 1, x3, x4, x5, FM => X0_readNumbers_b14s t (X0_readNumbers_b14 t nf) x3 x4 x5 FM
def X0_readNumbers_b9 (t : Nat) (x3 : Int32) (s0 : Int32) (FM : FMem) : Opt :=
  X0_readNumbers_b14 t FU x3 s0 (0 : Int32) FM
def f_X0_readNumbers (t : Nat) (a2 a3 : Int32) (FM : FMem) : Opt :=
  if a3 ≤ 0 then (
    X0_readNumbers_b9 t a3 (-1 : Int32) FM
  ) else (
    X0_readNumbers_b9 t a3 a2 FM
  )
set_option maxHeartbeats 4000000 in
set_option maxRecDepth 100000 in
theorem m_X0_readNumbers (l : Launch) (D : va_G) (cI cM : ClassId) (b : Nat) (t : Nat) (hT : isCo D cI cM b t) (a2 a3 : Int32) (FM : FMem) (r0 : Int32) (FR : FMem) (h : f_X0_readNumbers t a2 a3 FM = some (r0, FR)) : Mt l (wdC D cI cM b) yX0_readNumbers cX0_readNumbers 8 (some .int) 3 65 [.ref (b + t), .ref (b + 1), .int a2, .int a3] FM (some (.int r0)) FR := by
  refine Mt.of (by decide) (cat_cons rfl (cat_cons rfl (cat_cons rfl (cat_cons rfl cat_nil)))) [some (.ref (b + t)), some (.ref (b + 1)), some (.int a2), some (.int a3), none, none, none, none] rfl (Nat.le_of_ble_eq_true rfl) (fun V hV => ?_)
  have B83 : ∀ (k14 : Int32 → Int32 → Int32 → FMem → Opt) (hk14 : ∀ (x3 : Int32) (x4 : Int32) (x5 : Int32) (FM : FMem), k14 x3 x4 x5 FM = some (r0, FR) → V FM 14 [some (.ref (b + t)), some (.ref (b + 1)), none, some (.int x3), some (.int x4), some (.int x5), none, none] []) (x3 : Int32) (x4 : Int32) (x5 : Int32) (x6 : Int32) (s0 : Int32) (s1 : Int32) (FM : FMem), X0_readNumbers_b83 t k14 x3 x4 x5 x6 s0 s1 FM = some (r0, FR) → V FM 83 [some (.ref (b + t)), some (.ref (b + 1)), none, some (.int x3), some (.int x4), some (.int x5), some (.int x6), none] [.int s1, .int s0] := by
    intro k14 hk14 x3 x4 x5 x6 s0 s1 FM h
    unfold X0_readNumbers_b83 at h
    refine r_icmpeq hV 88 dX0_readNumbers_83 rfl (fun c14 => ?_) (fun c14 => ?_)
    · have h := (if_pos c14).symm.trans h
      refine r_aload_n hV dX0_readNumbers_88 rfl ?_
      refine r_geto hV fl_X0_32 hT.1 rfl dX0_readNumbers_89 ?_
      refine r_iload hV dX0_readNumbers_92 rfl ?_
      refine r_aload_n hV dX0_readNumbers_94 rfl ?_
      refine r_iload hV dX0_readNumbers_95 rfl ?_
      refine r_iload hV dX0_readNumbers_97 rfl ?_
      obtain ⟨r15, M16, q17, h⟩ := bnd_some h
      refine r_cVi hV (m_X4_numberAt l D cI cM b x4 x6 FM _ _ q17) ml_X0_64 ob_1 rfl rfl (by decide) (Nat.le_of_ble_eq_true rfl) rfl dX0_readNumbers_99 ?_
      obtain ⟨g18, h⟩ := grd_some h
      refine r_ast hV hT.2.2.2.2.2 (inb_in g18) ((x5).toNatClampNeg) rfl dX0_readNumbers_102 ?_
      refine r_bm h (fun M19 h => ?_)
      refine r_iload hV dX0_readNumbers_103 rfl ?_
      refine r_iload hV dX0_readNumbers_105 rfl ?_
      refine r_iconst (v := (1 : Int32)) hV dX0_readNumbers_107 rfl ?_
      refine r_iadd hV dX0_readNumbers_108 ?_
      refine r_iadd hV dX0_readNumbers_109 ?_
      refine r_bv h (fun v20 h => ?_)
      refine r_istore hV dX0_readNumbers_110 (Nat.le_of_ble_eq_true rfl) rfl ?_
      refine r_iinc (v := (1 : Int32)) hV dX0_readNumbers_112 rfl rfl rfl ?_
      refine r_goto hV 14 dX0_readNumbers_115 rfl ?_
      refine r_mask hV [true, true, false, true, true, true, false, false] ?_
      exact hk14 x3 v20 (x5 + (1 : Int32)) M19 h
    · have h := (if_neg c14).symm.trans h
      refine r_iconst (v := (-1 : Int32)) hV dX0_readNumbers_86 rfl ?_
      exact r_iret hV rfl dX0_readNumbers_87 (ret_r h) (ret_m h)
  have B14 : ∀ (k14 : Int32 → Int32 → Int32 → FMem → Opt) (hk14 : ∀ (x3 : Int32) (x4 : Int32) (x5 : Int32) (FM : FMem), k14 x3 x4 x5 FM = some (r0, FR) → V FM 14 [some (.ref (b + t)), some (.ref (b + 1)), none, some (.int x3), some (.int x4), some (.int x5), none, none] []) (x3 : Int32) (x4 : Int32) (x5 : Int32) (FM : FMem), X0_readNumbers_b14s t k14 x3 x4 x5 FM = some (r0, FR) → V FM 14 [some (.ref (b + t)), some (.ref (b + 1)), none, some (.int x3), some (.int x4), some (.int x5), none, none] [] := by
    intro k14 hk14 x3 x4 x5 FM h
    unfold X0_readNumbers_b14s at h
    refine r_iload hV dX0_readNumbers_14 rfl ?_
    refine r_iload_n hV dX0_readNumbers_16 rfl ?_
    refine r_icmpge hV 118 dX0_readNumbers_17 rfl (fun c2 => ?_) (fun c2 => ?_)
    · have h := (if_pos c2).symm.trans h
      refine r_iload hV dX0_readNumbers_118 rfl ?_
      exact r_iret hV rfl dX0_readNumbers_120 (ret_r h) (ret_m h)
    · have h := (if_neg c2).symm.trans h
      refine r_iload hV dX0_readNumbers_20 rfl ?_
      refine r_aload_n hV dX0_readNumbers_22 rfl ?_
      refine r_geto hV fl_X0_32 hT.1 rfl dX0_readNumbers_23 ?_
      refine r_len hV hT.2.2.2.2.2 (v := (3 : Int32)) rfl dX0_readNumbers_26 ?_
      refine r_icmpge hV 118 dX0_readNumbers_27 rfl (fun c3 => ?_) (fun c3 => ?_)
      · have h := (if_pos c3).symm.trans h
        refine r_iload hV dX0_readNumbers_118 rfl ?_
        exact r_iret hV rfl dX0_readNumbers_120 (ret_r h) (ret_m h)
      · have h := (if_neg c3).symm.trans h
        refine r_iload hV dX0_readNumbers_30 rfl ?_
        refine r_iflt hV 118 dX0_readNumbers_32 rfl (fun c4 => ?_) (fun c4 => ?_)
        · have h := (if_pos c4).symm.trans h
          refine r_iload hV dX0_readNumbers_118 rfl ?_
          exact r_iret hV rfl dX0_readNumbers_120 (ret_r h) (ret_m h)
        · have h := (if_neg c4).symm.trans h
          refine r_aload_n hV dX0_readNumbers_35 rfl ?_
          refine r_iload hV dX0_readNumbers_36 rfl ?_
          obtain ⟨r5, M6, q7, h⟩ := bnd_some h
          refine r_cVi hV (m_X4_figuresAt l D cI cM b x4 FM _ _ q7) ml_X0_61 ob_1 rfl rfl (by decide) (Nat.le_of_ble_eq_true rfl) rfl dX0_readNumbers_38 ?_
          refine r_istore hV dX0_readNumbers_41 (Nat.le_of_ble_eq_true rfl) rfl ?_
          refine r_aload_n hV dX0_readNumbers_43 rfl ?_
          refine r_iload hV dX0_readNumbers_44 rfl ?_
          refine r_iload hV dX0_readNumbers_46 rfl ?_
          refine r_iadd hV dX0_readNumbers_48 ?_
          obtain ⟨r8, M9, q10, h⟩ := bnd_some h
          refine r_cVi hV (m_X4_letterAt l D cI cM b (x4 + r5) M6 _ _ q10) ml_X0_46 ob_1 rfl rfl (by decide) (Nat.le_of_ble_eq_true rfl) rfl dX0_readNumbers_49 ?_
          refine r_istore hV dX0_readNumbers_52 (Nat.le_of_ble_eq_true rfl) rfl ?_
          refine r_iload hV dX0_readNumbers_54 rfl ?_
          refine r_iconst (v := (1 : Int32)) hV dX0_readNumbers_56 rfl ?_
          refine r_icmplt hV 86 dX0_readNumbers_57 rfl (fun c11 => ?_) (fun c11 => ?_)
          · have h := (if_pos c11).symm.trans h
            refine r_iconst (v := (-1 : Int32)) hV dX0_readNumbers_86 rfl ?_
            exact r_iret hV rfl dX0_readNumbers_87 (ret_r h) (ret_m h)
          · have h := (if_neg c11).symm.trans h
            refine r_iload hV dX0_readNumbers_60 rfl ?_
            refine r_iconst (v := (2 : Int32)) hV dX0_readNumbers_62 rfl ?_
            refine r_icmpgt hV 86 dX0_readNumbers_63 rfl (fun c12 => ?_) (fun c12 => ?_)
            · have h := (if_pos c12).symm.trans h
              refine r_iconst (v := (-1 : Int32)) hV dX0_readNumbers_86 rfl ?_
              exact r_iret hV rfl dX0_readNumbers_87 (ret_r h) (ret_m h)
            · have h := (if_neg c12).symm.trans h
              refine r_iload hV dX0_readNumbers_66 rfl ?_
              refine r_iload hV dX0_readNumbers_68 rfl ?_
              refine r_iload_n hV dX0_readNumbers_70 rfl ?_
              refine r_iconst (v := (1 : Int32)) hV dX0_readNumbers_71 rfl ?_
              refine r_isub hV dX0_readNumbers_72 ?_
              refine r_icmpne hV 81 dX0_readNumbers_73 rfl (fun c13 => ?_) (fun c13 => ?_)
              · have h := (if_neg c13).symm.trans h
                refine r_bipush (v := (44 : Int32)) hV dX0_readNumbers_81 rfl ?_
                refine r_mask hV [true, true, false, true, true, true, true, false] ?_
                exact B83 k14 hk14 x3 x4 x5 r5 r8 (44 : Int32) M9 h
              · have h := (if_pos c13).symm.trans h
                refine r_bipush (v := (59 : Int32)) hV dX0_readNumbers_76 rfl ?_
                refine r_goto hV 83 dX0_readNumbers_78 rfl ?_
                refine r_mask hV [true, true, false, true, true, true, true, false] ?_
                exact B83 k14 hk14 x3 x4 x5 r5 r8 (59 : Int32) M9 h
  have L14 : ∀ (nf : Nat) (x3 : Int32) (x4 : Int32) (x5 : Int32) (FM : FMem), X0_readNumbers_b14 t nf x3 x4 x5 FM = some (r0, FR) → V FM 14 [some (.ref (b + t)), some (.ref (b + 1)), none, some (.int x3), some (.int x4), some (.int x5), none, none] [] := by
    intro  nf
    induction nf with
    | zero => intro x3 x4 x5 FM h; exact absurd (show (none : Opt) = some (r0, FR) from h) (fun h9 => by cases h9)
    | succ nf ih => intro x3 x4 x5 FM h; exact B14 (X0_readNumbers_b14 t nf) ih x3 x4 x5 FM h
  have B9 : ∀ (x3 : Int32) (s0 : Int32) (FM : FMem), X0_readNumbers_b9 t x3 s0 FM = some (r0, FR) → V FM 9 [some (.ref (b + t)), some (.ref (b + 1)), none, some (.int x3), none, none, none, none] [.int s0] := by
    intro  x3 s0 FM h
    unfold X0_readNumbers_b9 at h
    refine r_istore hV dX0_readNumbers_9 (Nat.le_of_ble_eq_true rfl) rfl ?_
    refine r_iconst (v := (0 : Int32)) hV dX0_readNumbers_11 rfl ?_
    refine r_istore hV dX0_readNumbers_12 (Nat.le_of_ble_eq_true rfl) rfl ?_
    exact L14 FU x3 s0 (0 : Int32) FM h
  unfold f_X0_readNumbers at h
  refine r_iload_n hV dX0_readNumbers_0 rfl ?_
  refine r_ifle hV 8 dX0_readNumbers_1 rfl (fun c1 => ?_) (fun c1 => ?_)
  · have h := (if_pos c1).symm.trans h
    refine r_iconst (v := (-1 : Int32)) hV dX0_readNumbers_8 rfl ?_
    refine r_mask hV [true, true, false, true, false, false, false, false] ?_
    exact B9 a3 (-1 : Int32) FM h
  · have h := (if_neg c1).symm.trans h
    refine r_iload_n hV dX0_readNumbers_4 rfl ?_
    refine r_goto hV 9 dX0_readNumbers_5 rfl ?_
    refine r_mask hV [true, true, false, true, false, false, false, false] ?_
    exact B9 a3 a2 FM h
def f_X0_takesPerson (t : Nat) (a1 a2 a3 : Int32) (FM : FMem) : Opt :=
  if (6 : Int32) ≤ (FM t 3) then (
    some ((0 : Int32), FM)
  ) else (
    if a1 < 0 then (
      some ((0 : Int32), FM)
    ) else (
      if (3 : Int32) < a1 then (
        some ((0 : Int32), FM)
      ) else (
        if (31 : Int32) < a2 then (
          some ((0 : Int32), FM)
        ) else (
          if a3 < (1 : Int32) then (
            some ((0 : Int32), FM)
          ) else (
            if a3 ≤ (60 : Int32) then (
              grd (inb (FM t 3) 6) <|
              bindm (fset FM (t + 1) (((FM t 3)).toNatClampNeg) a1) fun M8 =>
              grd (inb (M8 t 3) 6) <|
              bindm (fset M8 (t + 2) (((M8 t 3)).toNatClampNeg) a2) fun M10 =>
              grd (inb (M10 t 3) 6) <|
              bindm (fset M10 (t + 3) (((M10 t 3)).toNatClampNeg) a3) fun M12 =>
              bindm (fset M12 t 3 ((M12 t 3) + (1 : Int32))) fun M13 =>
              some ((1 : Int32), M13)
            ) else (
              some ((0 : Int32), FM)
            )
          )
        )
      )
    )
  )
set_option maxHeartbeats 4000000 in
set_option maxRecDepth 100000 in
theorem m_X0_takesPerson (l : Launch) (D : va_G) (cI cM : ClassId) (b : Nat) (t : Nat) (hT : isCo D cI cM b t) (a1 a2 a3 : Int32) (FM : FMem) (r0 : Int32) (FR : FMem) (h : f_X0_takesPerson t a1 a2 a3 FM = some (r0, FR)) : Mt l (wdC D cI cM b) yX0_takesPerson cX0_takesPerson 4 (some .boolean) 0 0 [.ref (b + t), .int a1, .int a2, .int a3] FM (some (.int r0)) FR := by
  refine Mt.of (by decide) (cat_cons rfl (cat_cons rfl (cat_cons rfl (cat_cons rfl cat_nil)))) [some (.ref (b + t)), some (.int a1), some (.int a2), some (.int a3)] rfl (Nat.le_of_ble_eq_true rfl) (fun V hV => ?_)
  unfold f_X0_takesPerson at h
  refine r_aload_n hV dX0_takesPerson_0 rfl ?_
  refine r_geto hV fl_X0_35 hT.1 rfl dX0_takesPerson_1 ?_
  refine r_bipush (v := (6 : Int32)) hV dX0_takesPerson_4 rfl ?_
  refine r_icmpge hV 35 dX0_takesPerson_6 rfl (fun c1 => ?_) (fun c1 => ?_)
  · have h := (if_pos c1).symm.trans h
    refine r_iconst (v := (0 : Int32)) hV dX0_takesPerson_35 rfl ?_
    exact r_zret hV rfl (Or.inl rfl) dX0_takesPerson_36 (ret_r h) (ret_m h)
  · have h := (if_neg c1).symm.trans h
    refine r_iload_n hV dX0_takesPerson_9 rfl ?_
    refine r_iflt hV 35 dX0_takesPerson_10 rfl (fun c2 => ?_) (fun c2 => ?_)
    · have h := (if_pos c2).symm.trans h
      refine r_iconst (v := (0 : Int32)) hV dX0_takesPerson_35 rfl ?_
      exact r_zret hV rfl (Or.inl rfl) dX0_takesPerson_36 (ret_r h) (ret_m h)
    · have h := (if_neg c2).symm.trans h
      refine r_iload_n hV dX0_takesPerson_13 rfl ?_
      refine r_iconst (v := (3 : Int32)) hV dX0_takesPerson_14 rfl ?_
      refine r_icmpgt hV 35 dX0_takesPerson_15 rfl (fun c3 => ?_) (fun c3 => ?_)
      · have h := (if_pos c3).symm.trans h
        refine r_iconst (v := (0 : Int32)) hV dX0_takesPerson_35 rfl ?_
        exact r_zret hV rfl (Or.inl rfl) dX0_takesPerson_36 (ret_r h) (ret_m h)
      · have h := (if_neg c3).symm.trans h
        refine r_iload_n hV dX0_takesPerson_18 rfl ?_
        refine r_bipush (v := (31 : Int32)) hV dX0_takesPerson_19 rfl ?_
        refine r_icmpgt hV 35 dX0_takesPerson_21 rfl (fun c4 => ?_) (fun c4 => ?_)
        · have h := (if_pos c4).symm.trans h
          refine r_iconst (v := (0 : Int32)) hV dX0_takesPerson_35 rfl ?_
          exact r_zret hV rfl (Or.inl rfl) dX0_takesPerson_36 (ret_r h) (ret_m h)
        · have h := (if_neg c4).symm.trans h
          refine r_iload_n hV dX0_takesPerson_24 rfl ?_
          refine r_iconst (v := (1 : Int32)) hV dX0_takesPerson_25 rfl ?_
          refine r_icmplt hV 35 dX0_takesPerson_26 rfl (fun c5 => ?_) (fun c5 => ?_)
          · have h := (if_pos c5).symm.trans h
            refine r_iconst (v := (0 : Int32)) hV dX0_takesPerson_35 rfl ?_
            exact r_zret hV rfl (Or.inl rfl) dX0_takesPerson_36 (ret_r h) (ret_m h)
          · have h := (if_neg c5).symm.trans h
            refine r_iload_n hV dX0_takesPerson_29 rfl ?_
            refine r_bipush (v := (60 : Int32)) hV dX0_takesPerson_30 rfl ?_
            refine r_icmple hV 37 dX0_takesPerson_32 rfl (fun c6 => ?_) (fun c6 => ?_)
            · have h := (if_pos c6).symm.trans h
              refine r_aload_n hV dX0_takesPerson_37 rfl ?_
              refine r_geto hV fl_X0_9 hT.1 rfl dX0_takesPerson_38 ?_
              refine r_aload_n hV dX0_takesPerson_41 rfl ?_
              refine r_geto hV fl_X0_35 hT.1 rfl dX0_takesPerson_42 ?_
              refine r_iload_n hV dX0_takesPerson_45 rfl ?_
              obtain ⟨g7, h⟩ := grd_some h
              refine r_ast hV hT.2.1 (inb_in g7) (((FM t 3)).toNatClampNeg) rfl dX0_takesPerson_46 ?_
              refine r_bm h (fun M8 h => ?_)
              refine r_aload_n hV dX0_takesPerson_47 rfl ?_
              refine r_geto hV fl_X0_15 hT.1 rfl dX0_takesPerson_48 ?_
              refine r_aload_n hV dX0_takesPerson_51 rfl ?_
              refine r_geto hV fl_X0_35 hT.1 rfl dX0_takesPerson_52 ?_
              refine r_iload_n hV dX0_takesPerson_55 rfl ?_
              obtain ⟨g9, h⟩ := grd_some h
              refine r_ast hV hT.2.2.1 (inb_in g9) (((M8 t 3)).toNatClampNeg) rfl dX0_takesPerson_56 ?_
              refine r_bm h (fun M10 h => ?_)
              refine r_aload_n hV dX0_takesPerson_57 rfl ?_
              refine r_geto hV fl_X0_18 hT.1 rfl dX0_takesPerson_58 ?_
              refine r_aload_n hV dX0_takesPerson_61 rfl ?_
              refine r_geto hV fl_X0_35 hT.1 rfl dX0_takesPerson_62 ?_
              refine r_iload_n hV dX0_takesPerson_65 rfl ?_
              obtain ⟨g11, h⟩ := grd_some h
              refine r_ast hV hT.2.2.2.1 (inb_in g11) (((M10 t 3)).toNatClampNeg) rfl dX0_takesPerson_66 ?_
              refine r_bm h (fun M12 h => ?_)
              refine r_aload_n hV dX0_takesPerson_67 rfl ?_
              refine r_dup hV dX0_takesPerson_68 rfl ?_
              refine r_geto hV fl_X0_35 hT.1 rfl dX0_takesPerson_69 ?_
              refine r_iconst (v := (1 : Int32)) hV dX0_takesPerson_72 rfl ?_
              refine r_iadd hV dX0_takesPerson_73 ?_
              refine r_puti hV fl_X0_35 hT.1 (fun _ _ => rfl) (Nat.le_of_ble_eq_true rfl) dX0_takesPerson_74 ?_
              refine r_bm h (fun M13 h => ?_)
              refine r_iconst (v := (1 : Int32)) hV dX0_takesPerson_77 rfl ?_
              exact r_zret hV rfl (Or.inr rfl) dX0_takesPerson_78 (ret_r h) (ret_m h)
            · have h := (if_neg c6).symm.trans h
              refine r_iconst (v := (0 : Int32)) hV dX0_takesPerson_35 rfl ?_
              exact r_zret hV rfl (Or.inl rfl) dX0_takesPerson_36 (ret_r h) (ret_m h)
def f_X0_takesThing (t : Nat) (a1 a2 a3 : Int32) (FM : FMem) : Opt :=
  if (60 : Int32) < a1 then (
    some ((0 : Int32), FM)
  ) else (
    bnd (f_X8_isTopics a2 FM) fun r2 M3 =>
    if r2 = 0 then (
      some ((0 : Int32), M3)
    ) else (
      bnd (f_X8_isStrength a3 M3) fun r6 M7 =>
      if r6 = 0 then (
        some ((0 : Int32), M7)
      ) else (
        bnd (f_X7_add (t + 4) a1 a2 a3 M7) fun r10 M11 =>
        if r10 = 0 then (
          some ((0 : Int32), M11)
        ) else (
          some ((1 : Int32), M11)
        )
      )
    )
  )
set_option maxHeartbeats 4000000 in
set_option maxRecDepth 100000 in
theorem m_X0_takesThing (l : Launch) (D : va_G) (cI cM : ClassId) (b : Nat) (t : Nat) (hT : isCo D cI cM b t) (a1 a2 a3 : Int32) (FM : FMem) (r0 : Int32) (FR : FMem) (h : f_X0_takesThing t a1 a2 a3 FM = some (r0, FR)) : Mt l (wdC D cI cM b) yX0_takesThing cX0_takesThing 4 (some .boolean) 1 23 [.ref (b + t), .int a1, .int a2, .int a3] FM (some (.int r0)) FR := by
  refine Mt.of (by decide) (cat_cons rfl (cat_cons rfl (cat_cons rfl (cat_cons rfl cat_nil)))) [some (.ref (b + t)), some (.int a1), some (.int a2), some (.int a3)] rfl (Nat.le_of_ble_eq_true rfl) (fun V hV => ?_)
  unfold f_X0_takesThing at h
  refine r_iload_n hV dX0_takesThing_0 rfl ?_
  refine r_bipush (v := (60 : Int32)) hV dX0_takesThing_1 rfl ?_
  refine r_icmpgt hV 37 dX0_takesThing_3 rfl (fun c1 => ?_) (fun c1 => ?_)
  · have h := (if_pos c1).symm.trans h
    refine r_iconst (v := (0 : Int32)) hV dX0_takesThing_37 rfl ?_
    exact r_zret hV rfl (Or.inl rfl) dX0_takesThing_38 (ret_r h) (ret_m h)
  · have h := (if_neg c1).symm.trans h
    refine r_iload_n hV dX0_takesThing_6 rfl ?_
    obtain ⟨r2, M3, q4, h⟩ := bnd_some h
    refine r_cSi hV (m_X8_isTopics l D cI cM b a2 FM _ _ q4) ml_X0_78 rfl (by decide) (Nat.le_of_ble_eq_true rfl) rfl dX0_takesThing_7 ?_
    refine r_ifeq hV 37 dX0_takesThing_10 rfl (fun c5 => ?_) (fun c5 => ?_)
    · have h := (if_pos c5).symm.trans h
      refine r_iconst (v := (0 : Int32)) hV dX0_takesThing_37 rfl ?_
      exact r_zret hV rfl (Or.inl rfl) dX0_takesThing_38 (ret_r h) (ret_m h)
    · have h := (if_neg c5).symm.trans h
      refine r_iload_n hV dX0_takesThing_13 rfl ?_
      obtain ⟨r6, M7, q8, h⟩ := bnd_some h
      refine r_cSi hV (m_X8_isStrength l D cI cM b a3 M3 _ _ q8) ml_X0_81 rfl (by decide) (Nat.le_of_ble_eq_true rfl) rfl dX0_takesThing_14 ?_
      refine r_ifeq hV 37 dX0_takesThing_17 rfl (fun c9 => ?_) (fun c9 => ?_)
      · have h := (if_pos c9).symm.trans h
        refine r_iconst (v := (0 : Int32)) hV dX0_takesThing_37 rfl ?_
        exact r_zret hV rfl (Or.inl rfl) dX0_takesThing_38 (ret_r h) (ret_m h)
      · have h := (if_neg c9).symm.trans h
        refine r_aload_n hV dX0_takesThing_20 rfl ?_
        refine r_geto hV fl_X0_24 hT.1 rfl dX0_takesThing_21 ?_
        refine r_iload_n hV dX0_takesThing_24 rfl ?_
        refine r_iload_n hV dX0_takesThing_25 rfl ?_
        refine r_iload_n hV dX0_takesThing_26 rfl ?_
        obtain ⟨r10, M11, q12, h⟩ := bnd_some h
        refine r_cVi hV (m_X7_add l D cI cM b (t + 4) hT.2.2.2.2.1 a1 a2 a3 M7 _ _ q12) ml_X0_84 hT.2.2.2.2.1.2.2.1 rfl rfl (by decide) (Nat.le_of_ble_eq_true rfl) rfl dX0_takesThing_27 ?_
        refine r_ifeq hV 37 dX0_takesThing_30 rfl (fun c13 => ?_) (fun c13 => ?_)
        · have h := (if_pos c13).symm.trans h
          refine r_iconst (v := (0 : Int32)) hV dX0_takesThing_37 rfl ?_
          exact r_zret hV rfl (Or.inl rfl) dX0_takesThing_38 (ret_r h) (ret_m h)
        · have h := (if_neg c13).symm.trans h
          refine r_iconst (v := (1 : Int32)) hV dX0_takesThing_33 rfl ?_
          refine r_goto hV 38 dX0_takesThing_34 rfl ?_
          exact r_zret hV rfl (Or.inr rfl) dX0_takesThing_38 (ret_r h) (ret_m h)
def f_X0_takesFade (t : Nat) (a1 : Int32) (FM : FMem) : Opt :=
  if a1 < (1 : Int32) then (
    some ((0 : Int32), FM)
  ) else (
    if a1 ≤ (9 : Int32) then (
      bindm (fset FM t 5 a1) fun M3 =>
      some ((1 : Int32), M3)
    ) else (
      some ((0 : Int32), FM)
    )
  )
set_option maxHeartbeats 4000000 in
set_option maxRecDepth 100000 in
theorem m_X0_takesFade (l : Launch) (D : va_G) (cI cM : ClassId) (b : Nat) (t : Nat) (hT : isCo D cI cM b t) (a1 : Int32) (FM : FMem) (r0 : Int32) (FR : FMem) (h : f_X0_takesFade t a1 FM = some (r0, FR)) : Mt l (wdC D cI cM b) yX0_takesFade cX0_takesFade 2 (some .boolean) 0 0 [.ref (b + t), .int a1] FM (some (.int r0)) FR := by
  refine Mt.of (by decide) (cat_cons rfl (cat_cons rfl cat_nil)) [some (.ref (b + t)), some (.int a1)] rfl (Nat.le_of_ble_eq_true rfl) (fun V hV => ?_)
  unfold f_X0_takesFade at h
  refine r_iload_n hV dX0_takesFade_0 rfl ?_
  refine r_iconst (v := (1 : Int32)) hV dX0_takesFade_1 rfl ?_
  refine r_icmplt hV 11 dX0_takesFade_2 rfl (fun c1 => ?_) (fun c1 => ?_)
  · have h := (if_pos c1).symm.trans h
    refine r_iconst (v := (0 : Int32)) hV dX0_takesFade_11 rfl ?_
    exact r_zret hV rfl (Or.inl rfl) dX0_takesFade_12 (ret_r h) (ret_m h)
  · have h := (if_neg c1).symm.trans h
    refine r_iload_n hV dX0_takesFade_5 rfl ?_
    refine r_bipush (v := (9 : Int32)) hV dX0_takesFade_6 rfl ?_
    refine r_icmple hV 13 dX0_takesFade_8 rfl (fun c2 => ?_) (fun c2 => ?_)
    · have h := (if_pos c2).symm.trans h
      refine r_aload_n hV dX0_takesFade_13 rfl ?_
      refine r_iload_n hV dX0_takesFade_14 rfl ?_
      refine r_puti hV fl_X0_28 hT.1 (fun _ _ => rfl) (Nat.le_of_ble_eq_true rfl) dX0_takesFade_15 ?_
      refine r_bm h (fun M3 h => ?_)
      refine r_iconst (v := (1 : Int32)) hV dX0_takesFade_18 rfl ?_
      exact r_zret hV rfl (Or.inr rfl) dX0_takesFade_19 (ret_r h) (ret_m h)
    · have h := (if_neg c2).symm.trans h
      refine r_iconst (v := (0 : Int32)) hV dX0_takesFade_11 rfl ?_
      exact r_zret hV rfl (Or.inl rfl) dX0_takesFade_12 (ret_r h) (ret_m h)
def f_X0_takes (t : Nat) (a1 : Int32) (FM : FMem) : Opt :=
  if a1 = (102 : Int32) then (
    bnd (f_X0_takesFade t (FM (t + 8) 0) FM) fun r2 M3 =>
    grd (isB r2) <|
    some (r2, M3)
  ) else
  if a1 = (112 : Int32) then (
    bnd (f_X0_takesPerson t (FM (t + 8) 0) (FM (t + 8) 1) (FM (t + 8) 2) FM) fun r7 M8 =>
    grd (isB r7) <|
    some (r7, M8)
  ) else
  if a1 = (116 : Int32) then (
    bnd (f_X0_takesThing t (FM (t + 8) 0) (FM (t + 8) 1) (FM (t + 8) 2) FM) fun r12 M13 =>
    grd (isB r12) <|
    some (r12, M13)
  ) else
  some ((0 : Int32), FM)
set_option maxHeartbeats 4000000 in
set_option maxRecDepth 100000 in
theorem m_X0_takes (l : Launch) (D : va_G) (cI cM : ClassId) (b : Nat) (t : Nat) (hT : isCo D cI cM b t) (a1 : Int32) (FM : FMem) (r0 : Int32) (FR : FMem) (h : f_X0_takes t a1 FM = some (r0, FR)) : Mt l (wdC D cI cM b) yX0_takes cX0_takes 2 (some .boolean) 2 46 [.ref (b + t), .int a1] FM (some (.int r0)) FR := by
  refine Mt.of (by decide) (cat_cons rfl (cat_cons rfl cat_nil)) [some (.ref (b + t)), some (.int a1)] rfl (Nat.le_of_ble_eq_true rfl) (fun V hV => ?_)
  unfold f_X0_takes at h
  refine r_iload_n hV dX0_takes_0 rfl ?_
  by_cases e1 : a1 = (102 : Int32)
  · have h := (if_pos e1).symm.trans h
    refine r_look hV 82 dX0_takes_1 (by decide) (by first | (rw [e1]; done) | (rw [e1]; rfl)) rfl ?_
    refine r_aload_n hV dX0_takes_82 rfl ?_
    refine r_aload_n hV dX0_takes_83 rfl ?_
    refine r_geto hV fl_X0_32 hT.1 rfl dX0_takes_84 ?_
    refine r_iconst (v := (0 : Int32)) hV dX0_takes_87 rfl ?_
    refine r_ald hV hT.2.2.2.2.2 (inb_in rfl) (0) rfl dX0_takes_88 ?_
    obtain ⟨r2, M3, q4, h⟩ := bnd_some h
    refine r_cVi hV (m_X0_takesFade l D cI cM b t hT (FM (t + 8) 0) FM _ _ q4) ml_X0_75 hT.1 rfl rfl (by decide) (Nat.le_of_ble_eq_true rfl) rfl dX0_takes_89 ?_
    obtain ⟨g5, h⟩ := grd_some h
    exact r_zret hV rfl (isB_or g5) dX0_takes_92 (ret_r h) (ret_m h)
  have h := (if_neg e1).symm.trans h
  by_cases e6 : a1 = (112 : Int32)
  · have h := (if_pos e6).symm.trans h
    refine r_look hV 36 dX0_takes_1 (by decide) (by first | (rw [e6]; done) | (rw [e6]; rfl)) rfl ?_
    refine r_aload_n hV dX0_takes_36 rfl ?_
    refine r_aload_n hV dX0_takes_37 rfl ?_
    refine r_geto hV fl_X0_32 hT.1 rfl dX0_takes_38 ?_
    refine r_iconst (v := (0 : Int32)) hV dX0_takes_41 rfl ?_
    refine r_ald hV hT.2.2.2.2.2 (inb_in rfl) (0) rfl dX0_takes_42 ?_
    refine r_aload_n hV dX0_takes_43 rfl ?_
    refine r_geto hV fl_X0_32 hT.1 rfl dX0_takes_44 ?_
    refine r_iconst (v := (1 : Int32)) hV dX0_takes_47 rfl ?_
    refine r_ald hV hT.2.2.2.2.2 (inb_in rfl) (1) rfl dX0_takes_48 ?_
    refine r_aload_n hV dX0_takes_49 rfl ?_
    refine r_geto hV fl_X0_32 hT.1 rfl dX0_takes_50 ?_
    refine r_iconst (v := (2 : Int32)) hV dX0_takes_53 rfl ?_
    refine r_ald hV hT.2.2.2.2.2 (inb_in rfl) (2) rfl dX0_takes_54 ?_
    obtain ⟨r7, M8, q9, h⟩ := bnd_some h
    refine r_cVi hV (m_X0_takesPerson l D cI cM b t hT (FM (t + 8) 0) (FM (t + 8) 1) (FM (t + 8) 2) FM _ _ q9) ml_X0_68 hT.1 rfl rfl (by decide) (Nat.le_of_ble_eq_true rfl) rfl dX0_takes_55 ?_
    obtain ⟨g10, h⟩ := grd_some h
    exact r_zret hV rfl (isB_or g10) dX0_takes_58 (ret_r h) (ret_m h)
  have h := (if_neg e6).symm.trans h
  by_cases e11 : a1 = (116 : Int32)
  · have h := (if_pos e11).symm.trans h
    refine r_look hV 59 dX0_takes_1 (by decide) (by first | (rw [e11]; done) | (rw [e11]; rfl)) rfl ?_
    refine r_aload_n hV dX0_takes_59 rfl ?_
    refine r_aload_n hV dX0_takes_60 rfl ?_
    refine r_geto hV fl_X0_32 hT.1 rfl dX0_takes_61 ?_
    refine r_iconst (v := (0 : Int32)) hV dX0_takes_64 rfl ?_
    refine r_ald hV hT.2.2.2.2.2 (inb_in rfl) (0) rfl dX0_takes_65 ?_
    refine r_aload_n hV dX0_takes_66 rfl ?_
    refine r_geto hV fl_X0_32 hT.1 rfl dX0_takes_67 ?_
    refine r_iconst (v := (1 : Int32)) hV dX0_takes_70 rfl ?_
    refine r_ald hV hT.2.2.2.2.2 (inb_in rfl) (1) rfl dX0_takes_71 ?_
    refine r_aload_n hV dX0_takes_72 rfl ?_
    refine r_geto hV fl_X0_32 hT.1 rfl dX0_takes_73 ?_
    refine r_iconst (v := (2 : Int32)) hV dX0_takes_76 rfl ?_
    refine r_ald hV hT.2.2.2.2.2 (inb_in rfl) (2) rfl dX0_takes_77 ?_
    obtain ⟨r12, M13, q14, h⟩ := bnd_some h
    refine r_cVi hV (m_X0_takesThing l D cI cM b t hT (FM (t + 8) 0) (FM (t + 8) 1) (FM (t + 8) 2) FM _ _ q14) ml_X0_72 hT.1 rfl rfl (by decide) (Nat.le_of_ble_eq_true rfl) rfl dX0_takes_78 ?_
    obtain ⟨g15, h⟩ := grd_some h
    exact r_zret hV rfl (isB_or g15) dX0_takes_81 (ret_r h) (ret_m h)
  have h := (if_neg e11).symm.trans h
  refine r_look hV 93 dX0_takes_1 (by decide) (by show Op.lookupswitch.offset [(102, 81), (112, 35), (116, 58)] 92 _ = _; rw [lv_osw (a := 102) e1 rfl, lv_osw (a := 112) e6 rfl, lv_osw (a := 116) e11 rfl]) rfl ?_
  refine r_iconst (v := (0 : Int32)) hV dX0_takes_93 rfl ?_
  exact r_zret hV rfl (Or.inl rfl) dX0_takes_94 (ret_r h) (ret_m h)
def X0_read_b21s (t : Nat) (k21 : Int32 → Int32 → FMem → Opt) (x2 : Int32) (x3 : Int32) (FM : FMem) : Opt :=
  if (200 : Int32) ≤ x3 then (
    some ((-4 : Int32), FM)
  ) else (
    if (FM 1 1) ≤ x2 then (
      some ((-4 : Int32), FM)
    ) else (
      bnd (f_X4_letterAt x2 FM) fun r8 M9 =>
      bnd (f_X0_numbersOf r8 M9) fun r11 M12 =>
      bnd (f_X0_readNumbers t (x2 + (1 : Int32)) r11 M12) fun r14 M15 =>
      if r14 < 0 then (
        some (x2, M15)
      ) else (
        bnd (f_X0_takes t r8 M15) fun r18 M19 =>
        if r18 = 0 then (
          some (x2, M19)
        ) else (
          k21 r14 (x3 + (1 : Int32)) M19
        )
      )
    )
  )
def X0_read_b21 (t : Nat) : Nat → Int32 → Int32 → FMem → Opt
  | 0, _, _, _ => none
  | nf + 1, x2, x3, FM => X0_read_b21s t (X0_read_b21 t nf) x2 x3 FM
def f_X0_read (t : Nat) (FM : FMem) : Opt :=
  bindm (fset FM t 3 (0 : Int32)) fun M1 =>
  bnd (f_X7_clear (t + 4) M1) fun r2 M3 =>
  bindm (fset M3 t 5 (2 : Int32)) fun M5 =>
  X0_read_b21 t FU (0 : Int32) (0 : Int32) M5
set_option maxHeartbeats 4000000 in
set_option maxRecDepth 100000 in
theorem m_X0_read (l : Launch) (D : va_G) (cI cM : ClassId) (b : Nat) (t : Nat) (hT : isCo D cI cM b t) (FM : FMem) (r0 : Int32) (FR : FMem) (h : f_X0_read t FM = some (r0, FR)) : Mt l (wdC D cI cM b) yX0_read cX0_read 6 (some .int) 4 92 [.ref (b + t), .ref (b + 1)] FM (some (.int r0)) FR := by
  refine Mt.of (by decide) (cat_cons rfl (cat_cons rfl cat_nil)) [some (.ref (b + t)), some (.ref (b + 1)), none, none, none, none] rfl (Nat.le_of_ble_eq_true rfl) (fun V hV => ?_)
  have B21 : ∀ (k21 : Int32 → Int32 → FMem → Opt) (hk21 : ∀ (x2 : Int32) (x3 : Int32) (FM : FMem), k21 x2 x3 FM = some (r0, FR) → V FM 21 [some (.ref (b + t)), some (.ref (b + 1)), some (.int x2), some (.int x3), none, none] []) (x2 : Int32) (x3 : Int32) (FM : FMem), X0_read_b21s t k21 x2 x3 FM = some (r0, FR) → V FM 21 [some (.ref (b + t)), some (.ref (b + 1)), some (.int x2), some (.int x3), none, none] [] := by
    intro k21 hk21 x2 x3 FM h
    unfold X0_read_b21s at h
    refine r_iload_n hV dX0_read_21 rfl ?_
    refine r_sipush (v := (200 : Int32)) hV dX0_read_22 rfl ?_
    refine r_icmpge hV 83 dX0_read_25 rfl (fun c6 => ?_) (fun c6 => ?_)
    · have h := (if_pos c6).symm.trans h
      refine r_bipush (v := (-4 : Int32)) hV dX0_read_83 rfl ?_
      exact r_iret hV rfl dX0_read_85 (ret_r h) (ret_m h)
    · have h := (if_neg c6).symm.trans h
      refine r_iload_n hV dX0_read_28 rfl ?_
      refine r_aload_n hV dX0_read_29 rfl ?_
      refine r_geto hV fl_X0_41 ob_1 rfl dX0_read_30 ?_
      refine r_icmpge hV 83 dX0_read_33 rfl (fun c7 => ?_) (fun c7 => ?_)
      · have h := (if_pos c7).symm.trans h
        refine r_bipush (v := (-4 : Int32)) hV dX0_read_83 rfl ?_
        exact r_iret hV rfl dX0_read_85 (ret_r h) (ret_m h)
      · have h := (if_neg c7).symm.trans h
        refine r_aload_n hV dX0_read_36 rfl ?_
        refine r_iload_n hV dX0_read_37 rfl ?_
        obtain ⟨r8, M9, q10, h⟩ := bnd_some h
        refine r_cVi hV (m_X4_letterAt l D cI cM b x2 FM _ _ q10) ml_X0_46 ob_1 rfl rfl (by decide) (Nat.le_of_ble_eq_true rfl) rfl dX0_read_38 ?_
        refine r_istore hV dX0_read_41 (Nat.le_of_ble_eq_true rfl) rfl ?_
        refine r_aload_n hV dX0_read_43 rfl ?_
        refine r_aload_n hV dX0_read_44 rfl ?_
        refine r_iload_n hV dX0_read_45 rfl ?_
        refine r_iconst (v := (1 : Int32)) hV dX0_read_46 rfl ?_
        refine r_iadd hV dX0_read_47 ?_
        refine r_iload hV dX0_read_48 rfl ?_
        obtain ⟨r11, M12, q13, h⟩ := bnd_some h
        refine r_cSi hV (m_X0_numbersOf l D cI cM b r8 M9 _ _ q13) ml_X0_50 rfl (by decide) (Nat.le_of_ble_eq_true rfl) rfl dX0_read_50 ?_
        obtain ⟨r14, M15, q16, h⟩ := bnd_some h
        refine r_cVi hV (m_X0_readNumbers l D cI cM b t hT (x2 + (1 : Int32)) r11 M12 _ _ q16) ml_X0_53 hT.1 rfl rfl (by decide) (Nat.le_of_ble_eq_true rfl) rfl dX0_read_53 ?_
        refine r_istore hV dX0_read_56 (Nat.le_of_ble_eq_true rfl) rfl ?_
        refine r_iload hV dX0_read_58 rfl ?_
        refine r_iflt hV 72 dX0_read_60 rfl (fun c17 => ?_) (fun c17 => ?_)
        · have h := (if_pos c17).symm.trans h
          refine r_iload_n hV dX0_read_72 rfl ?_
          exact r_iret hV rfl dX0_read_73 (ret_r h) (ret_m h)
        · have h := (if_neg c17).symm.trans h
          refine r_aload_n hV dX0_read_63 rfl ?_
          refine r_iload hV dX0_read_64 rfl ?_
          obtain ⟨r18, M19, q20, h⟩ := bnd_some h
          refine r_cVi hV (m_X0_takes l D cI cM b t hT r8 M15 _ _ q20) ml_X0_57 hT.1 rfl rfl (by decide) (Nat.le_of_ble_eq_true rfl) rfl dX0_read_66 ?_
          refine r_ifne hV 74 dX0_read_69 rfl (fun c21 => ?_) (fun c21 => ?_)
          · have h := (if_neg c21).symm.trans h
            refine r_iload hV dX0_read_74 rfl ?_
            refine r_istore_n hV dX0_read_76 (Nat.le_of_ble_eq_true rfl) rfl ?_
            refine r_iinc (v := (1 : Int32)) hV dX0_read_77 rfl rfl rfl ?_
            refine r_goto hV 21 dX0_read_80 rfl ?_
            refine r_mask hV [true, true, true, true, false, false] ?_
            exact hk21 r14 (x3 + (1 : Int32)) M19 h
          · have h := (if_pos c21).symm.trans h
            refine r_iload_n hV dX0_read_72 rfl ?_
            exact r_iret hV rfl dX0_read_73 (ret_r h) (ret_m h)
  have L21 : ∀ (nf : Nat) (x2 : Int32) (x3 : Int32) (FM : FMem), X0_read_b21 t nf x2 x3 FM = some (r0, FR) → V FM 21 [some (.ref (b + t)), some (.ref (b + 1)), some (.int x2), some (.int x3), none, none] [] := by
    intro  nf
    induction nf with
    | zero => intro x2 x3 FM h; exact absurd (show (none : Opt) = some (r0, FR) from h) (fun h9 => by cases h9)
    | succ nf ih => intro x2 x3 FM h; exact B21 (X0_read_b21 t nf) ih x2 x3 FM h
  unfold f_X0_read at h
  refine r_aload_n hV dX0_read_0 rfl ?_
  refine r_iconst (v := (0 : Int32)) hV dX0_read_1 rfl ?_
  refine r_puti hV fl_X0_35 hT.1 (fun _ _ => rfl) (Nat.le_of_ble_eq_true rfl) dX0_read_2 ?_
  refine r_bm h (fun M1 h => ?_)
  refine r_aload_n hV dX0_read_5 rfl ?_
  refine r_geto hV fl_X0_24 hT.1 rfl dX0_read_6 ?_
  obtain ⟨r2, M3, q4, h⟩ := bnd_some h
  refine r_cVv hV (m_X7_clear l D cI cM b (t + 4) hT.2.2.2.2.1 M1 _ _ q4) ml_X0_38 hT.2.2.2.2.1.2.2.1 rfl rfl (by decide) (Nat.le_of_ble_eq_true rfl) rfl dX0_read_9 ?_
  refine r_aload_n hV dX0_read_12 rfl ?_
  refine r_iconst (v := (2 : Int32)) hV dX0_read_13 rfl ?_
  refine r_puti hV fl_X0_28 hT.1 (fun _ _ => rfl) (Nat.le_of_ble_eq_true rfl) dX0_read_14 ?_
  refine r_bm h (fun M5 h => ?_)
  refine r_iconst (v := (0 : Int32)) hV dX0_read_17 rfl ?_
  refine r_istore_n hV dX0_read_18 (Nat.le_of_ble_eq_true rfl) rfl ?_
  refine r_iconst (v := (0 : Int32)) hV dX0_read_19 rfl ?_
  refine r_istore_n hV dX0_read_20 (Nat.le_of_ble_eq_true rfl) rfl ?_
  exact L21 FU (0 : Int32) (0 : Int32) M5 h
def f_X0_faded (t : Nat) (a1 : Int32) (FM : FMem) : Opt :=
  if (FM t 5) ≤ 0 then (
    some (a1, FM)
  ) else (
    grd (nz (FM t 5)) <|
    some ((a1 / (FM t 5)), FM)
  )
set_option maxHeartbeats 4000000 in
set_option maxRecDepth 100000 in
theorem m_X0_faded (l : Launch) (D : va_G) (cI cM : ClassId) (b : Nat) (t : Nat) (hT : isCo D cI cM b t) (a1 : Int32) (FM : FMem) (r0 : Int32) (FR : FMem) (h : f_X0_faded t a1 FM = some (r0, FR)) : Mt l (wdC D cI cM b) yX0_faded cX0_faded 2 (some .int) 0 0 [.ref (b + t), .int a1] FM (some (.int r0)) FR := by
  refine Mt.of (by decide) (cat_cons rfl (cat_cons rfl cat_nil)) [some (.ref (b + t)), some (.int a1)] rfl (Nat.le_of_ble_eq_true rfl) (fun V hV => ?_)
  unfold f_X0_faded at h
  refine r_aload_n hV dX0_faded_0 rfl ?_
  refine r_geto hV fl_X0_28 hT.1 rfl dX0_faded_1 ?_
  refine r_ifle hV 16 dX0_faded_4 rfl (fun c1 => ?_) (fun c1 => ?_)
  · have h := (if_pos c1).symm.trans h
    refine r_iload_n hV dX0_faded_16 rfl ?_
    exact r_iret hV rfl dX0_faded_17 (ret_r h) (ret_m h)
  · have h := (if_neg c1).symm.trans h
    refine r_iload_n hV dX0_faded_7 rfl ?_
    refine r_aload_n hV dX0_faded_8 rfl ?_
    refine r_geto hV fl_X0_28 hT.1 rfl dX0_faded_9 ?_
    obtain ⟨g2, h⟩ := grd_some h
    refine r_idiv hV dX0_faded_12 (nz_ne g2) ?_
    refine r_goto hV 17 dX0_faded_13 rfl ?_
    exact r_iret hV rfl dX0_faded_17 (ret_r h) (ret_m h)
def f_X0_standsOf (t : Nat) (a1 : Int32) (FM : FMem) : Opt :=
  if a1 < 0 then (
    some ((60 : Int32), FM)
  ) else (
    if (6 : Int32) ≤ a1 then (
      some ((60 : Int32), FM)
    ) else (
      grd (inb a1 6) <|
      some ((FM (t + 3) ((a1).toNatClampNeg)), FM)
    )
  )
set_option maxHeartbeats 4000000 in
set_option maxRecDepth 100000 in
theorem m_X0_standsOf (l : Launch) (D : va_G) (cI cM : ClassId) (b : Nat) (t : Nat) (hT : isCo D cI cM b t) (a1 : Int32) (FM : FMem) (r0 : Int32) (FR : FMem) (h : f_X0_standsOf t a1 FM = some (r0, FR)) : Mt l (wdC D cI cM b) yX0_standsOf cX0_standsOf 2 (some .int) 0 0 [.ref (b + t), .int a1] FM (some (.int r0)) FR := by
  refine Mt.of (by decide) (cat_cons rfl (cat_cons rfl cat_nil)) [some (.ref (b + t)), some (.int a1)] rfl (Nat.le_of_ble_eq_true rfl) (fun V hV => ?_)
  unfold f_X0_standsOf at h
  refine r_iload_n hV dX0_standsOf_0 rfl ?_
  refine r_iflt hV 19 dX0_standsOf_1 rfl (fun c1 => ?_) (fun c1 => ?_)
  · have h := (if_pos c1).symm.trans h
    refine r_bipush (v := (60 : Int32)) hV dX0_standsOf_19 rfl ?_
    exact r_iret hV rfl dX0_standsOf_21 (ret_r h) (ret_m h)
  · have h := (if_neg c1).symm.trans h
    refine r_iload_n hV dX0_standsOf_4 rfl ?_
    refine r_bipush (v := (6 : Int32)) hV dX0_standsOf_5 rfl ?_
    refine r_icmpge hV 19 dX0_standsOf_7 rfl (fun c2 => ?_) (fun c2 => ?_)
    · have h := (if_pos c2).symm.trans h
      refine r_bipush (v := (60 : Int32)) hV dX0_standsOf_19 rfl ?_
      exact r_iret hV rfl dX0_standsOf_21 (ret_r h) (ret_m h)
    · have h := (if_neg c2).symm.trans h
      refine r_aload_n hV dX0_standsOf_10 rfl ?_
      refine r_geto hV fl_X0_18 hT.1 rfl dX0_standsOf_11 ?_
      refine r_iload_n hV dX0_standsOf_14 rfl ?_
      obtain ⟨g3, h⟩ := grd_some h
      refine r_ald hV hT.2.2.2.1 (inb_in g3) ((a1).toNatClampNeg) rfl dX0_standsOf_15 ?_
      refine r_goto hV 21 dX0_standsOf_16 rfl ?_
      exact r_iret hV rfl dX0_standsOf_21 (ret_r h) (ret_m h)
