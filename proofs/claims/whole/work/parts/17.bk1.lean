def f_X8_isPerson (a1 : Int32) (FM : FMem) : Opt :=
  if a1 < 0 then (
    some ((0 : Int32), FM)
  ) else (
    if (FM 12 3) ≤ a1 then (
      some ((0 : Int32), FM)
    ) else (
      if (6 : Int32) ≤ a1 then (
        some ((0 : Int32), FM)
      ) else (
        some ((1 : Int32), FM)
      )
    )
  )
set_option maxHeartbeats 4000000 in
set_option maxRecDepth 100000 in
theorem m_X8_isPerson (l : Launch) (D : va_G) (cI cM : ClassId) (b : Nat) (a1 : Int32) (FM : FMem) (r0 : Int32) (FR : FMem) (h : f_X8_isPerson a1 FM = some (r0, FR)) : Mt l (wdC D cI cM b) yX8_isPerson cX8_isPerson 2 (some .boolean) 0 0 [.ref (b + 0), .int a1] FM (some (.int r0)) FR := by
  refine Mt.of (by decide) (cat_cons rfl (cat_cons rfl cat_nil)) [some (.ref (b + 0)), some (.int a1)] rfl (Nat.le_of_ble_eq_true rfl) (fun V hV => ?_)
  unfold f_X8_isPerson at h
  refine r_iload_n hV dX8_isPerson_0 rfl ?_
  refine r_iflt hV 25 dX8_isPerson_1 rfl (fun c1 => ?_) (fun c1 => ?_)
  · have h := (if_pos c1).symm.trans h
    refine r_iconst (v := (0 : Int32)) hV dX8_isPerson_25 rfl ?_
    exact r_zret hV rfl (Or.inl rfl) dX8_isPerson_26 (ret_r h) (ret_m h)
  · have h := (if_neg c1).symm.trans h
    refine r_iload_n hV dX8_isPerson_4 rfl ?_
    refine r_aload_n hV dX8_isPerson_5 rfl ?_
    refine r_geto hV fl_X8_23 ob_0 rfl dX8_isPerson_6 ?_
    refine r_geto hV fl_X8_103 ob_12 rfl dX8_isPerson_9 ?_
    refine r_icmpge hV 25 dX8_isPerson_12 rfl (fun c2 => ?_) (fun c2 => ?_)
    · have h := (if_pos c2).symm.trans h
      refine r_iconst (v := (0 : Int32)) hV dX8_isPerson_25 rfl ?_
      exact r_zret hV rfl (Or.inl rfl) dX8_isPerson_26 (ret_r h) (ret_m h)
    · have h := (if_neg c2).symm.trans h
      refine r_iload_n hV dX8_isPerson_15 rfl ?_
      refine r_bipush (v := (6 : Int32)) hV dX8_isPerson_16 rfl ?_
      refine r_icmpge hV 25 dX8_isPerson_18 rfl (fun c3 => ?_) (fun c3 => ?_)
      · have h := (if_pos c3).symm.trans h
        refine r_iconst (v := (0 : Int32)) hV dX8_isPerson_25 rfl ?_
        exact r_zret hV rfl (Or.inl rfl) dX8_isPerson_26 (ret_r h) (ret_m h)
      · have h := (if_neg c3).symm.trans h
        refine r_iconst (v := (1 : Int32)) hV dX8_isPerson_21 rfl ?_
        refine r_goto hV 26 dX8_isPerson_22 rfl ?_
        exact r_zret hV rfl (Or.inr rfl) dX8_isPerson_26 (ret_r h) (ret_m h)
def f_X8_isThing (a1 : Int32) (FM : FMem) : Opt :=
  if a1 < 0 then (
    some ((0 : Int32), FM)
  ) else (
    if (FM 23 3) ≤ a1 then (
      some ((0 : Int32), FM)
    ) else (
      if (9 : Int32) ≤ a1 then (
        some ((0 : Int32), FM)
      ) else (
        some ((1 : Int32), FM)
      )
    )
  )
set_option maxHeartbeats 4000000 in
set_option maxRecDepth 100000 in
theorem m_X8_isThing (l : Launch) (D : va_G) (cI cM : ClassId) (b : Nat) (a1 : Int32) (FM : FMem) (r0 : Int32) (FR : FMem) (h : f_X8_isThing a1 FM = some (r0, FR)) : Mt l (wdC D cI cM b) yX8_isThing cX8_isThing 2 (some .boolean) 0 0 [.ref (b + 0), .int a1] FM (some (.int r0)) FR := by
  refine Mt.of (by decide) (cat_cons rfl (cat_cons rfl cat_nil)) [some (.ref (b + 0)), some (.int a1)] rfl (Nat.le_of_ble_eq_true rfl) (fun V hV => ?_)
  unfold f_X8_isThing at h
  refine r_iload_n hV dX8_isThing_0 rfl ?_
  refine r_iflt hV 28 dX8_isThing_1 rfl (fun c1 => ?_) (fun c1 => ?_)
  · have h := (if_pos c1).symm.trans h
    refine r_iconst (v := (0 : Int32)) hV dX8_isThing_28 rfl ?_
    exact r_zret hV rfl (Or.inl rfl) dX8_isThing_29 (ret_r h) (ret_m h)
  · have h := (if_neg c1).symm.trans h
    refine r_iload_n hV dX8_isThing_4 rfl ?_
    refine r_aload_n hV dX8_isThing_5 rfl ?_
    refine r_geto hV fl_X8_29 ob_0 rfl dX8_isThing_6 ?_
    refine r_geto hV fl_X8_130 ob_21 rfl dX8_isThing_9 ?_
    refine r_geto hV fl_X8_185 ob_23 rfl dX8_isThing_12 ?_
    refine r_icmpge hV 28 dX8_isThing_15 rfl (fun c2 => ?_) (fun c2 => ?_)
    · have h := (if_pos c2).symm.trans h
      refine r_iconst (v := (0 : Int32)) hV dX8_isThing_28 rfl ?_
      exact r_zret hV rfl (Or.inl rfl) dX8_isThing_29 (ret_r h) (ret_m h)
    · have h := (if_neg c2).symm.trans h
      refine r_iload_n hV dX8_isThing_18 rfl ?_
      refine r_bipush (v := (9 : Int32)) hV dX8_isThing_19 rfl ?_
      refine r_icmpge hV 28 dX8_isThing_21 rfl (fun c3 => ?_) (fun c3 => ?_)
      · have h := (if_pos c3).symm.trans h
        refine r_iconst (v := (0 : Int32)) hV dX8_isThing_28 rfl ?_
        exact r_zret hV rfl (Or.inl rfl) dX8_isThing_29 (ret_r h) (ret_m h)
      · have h := (if_neg c3).symm.trans h
        refine r_iconst (v := (1 : Int32)) hV dX8_isThing_24 rfl ?_
        refine r_goto hV 29 dX8_isThing_25 rfl ?_
        exact r_zret hV rfl (Or.inr rfl) dX8_isThing_29 (ret_r h) (ret_m h)
def f_X8_isDayFromNow (a0 : Int32) (FM : FMem) : Opt :=
  if a0 < 0 then (
    some ((0 : Int32), FM)
  ) else (
    if (40 : Int32) < a0 then (
      some ((0 : Int32), FM)
    ) else (
      some ((1 : Int32), FM)
    )
  )
set_option maxHeartbeats 4000000 in
set_option maxRecDepth 100000 in
theorem m_X8_isDayFromNow (l : Launch) (D : va_G) (cI cM : ClassId) (b : Nat) (a0 : Int32) (FM : FMem) (r0 : Int32) (FR : FMem) (h : f_X8_isDayFromNow a0 FM = some (r0, FR)) : Mt l (wdC D cI cM b) yX8_isDayFromNow cX8_isDayFromNow 1 (some .boolean) 0 0 [.int a0] FM (some (.int r0)) FR := by
  refine Mt.of (by decide) (cat_cons rfl cat_nil) [some (.int a0)] rfl (Nat.le_of_ble_eq_true rfl) (fun V hV => ?_)
  unfold f_X8_isDayFromNow at h
  refine r_iload_n hV dX8_isDayFromNow_0 rfl ?_
  refine r_iflt hV 14 dX8_isDayFromNow_1 rfl (fun c1 => ?_) (fun c1 => ?_)
  · have h := (if_pos c1).symm.trans h
    refine r_iconst (v := (0 : Int32)) hV dX8_isDayFromNow_14 rfl ?_
    exact r_zret hV rfl (Or.inl rfl) dX8_isDayFromNow_15 (ret_r h) (ret_m h)
  · have h := (if_neg c1).symm.trans h
    refine r_iload_n hV dX8_isDayFromNow_4 rfl ?_
    refine r_bipush (v := (40 : Int32)) hV dX8_isDayFromNow_5 rfl ?_
    refine r_icmpgt hV 14 dX8_isDayFromNow_7 rfl (fun c2 => ?_) (fun c2 => ?_)
    · have h := (if_pos c2).symm.trans h
      refine r_iconst (v := (0 : Int32)) hV dX8_isDayFromNow_14 rfl ?_
      exact r_zret hV rfl (Or.inl rfl) dX8_isDayFromNow_15 (ret_r h) (ret_m h)
    · have h := (if_neg c2).symm.trans h
      refine r_iconst (v := (1 : Int32)) hV dX8_isDayFromNow_10 rfl ?_
      refine r_goto hV 15 dX8_isDayFromNow_11 rfl ?_
      exact r_zret hV rfl (Or.inr rfl) dX8_isDayFromNow_15 (ret_r h) (ret_m h)
def f_X8_isHalf (a0 : Int32) (FM : FMem) : Opt :=
  if a0 = 0 then (
    some ((1 : Int32), FM)
  ) else (
    if a0 = (1 : Int32) then (
      some ((1 : Int32), FM)
    ) else (
      some ((0 : Int32), FM)
    )
  )
set_option maxHeartbeats 4000000 in
set_option maxRecDepth 100000 in
theorem m_X8_isHalf (l : Launch) (D : va_G) (cI cM : ClassId) (b : Nat) (a0 : Int32) (FM : FMem) (r0 : Int32) (FR : FMem) (h : f_X8_isHalf a0 FM = some (r0, FR)) : Mt l (wdC D cI cM b) yX8_isHalf cX8_isHalf 1 (some .boolean) 0 0 [.int a0] FM (some (.int r0)) FR := by
  refine Mt.of (by decide) (cat_cons rfl cat_nil) [some (.int a0)] rfl (Nat.le_of_ble_eq_true rfl) (fun V hV => ?_)
  unfold f_X8_isHalf at h
  refine r_iload_n hV dX8_isHalf_0 rfl ?_
  refine r_ifeq hV 9 dX8_isHalf_1 rfl (fun c1 => ?_) (fun c1 => ?_)
  · have h := (if_pos c1).symm.trans h
    refine r_iconst (v := (1 : Int32)) hV dX8_isHalf_9 rfl ?_
    refine r_goto hV 14 dX8_isHalf_10 rfl ?_
    exact r_zret hV rfl (Or.inr rfl) dX8_isHalf_14 (ret_r h) (ret_m h)
  · have h := (if_neg c1).symm.trans h
    refine r_iload_n hV dX8_isHalf_4 rfl ?_
    refine r_iconst (v := (1 : Int32)) hV dX8_isHalf_5 rfl ?_
    refine r_icmpne hV 13 dX8_isHalf_6 rfl (fun c2 => ?_) (fun c2 => ?_)
    · have h := (if_neg c2).symm.trans h
      refine r_iconst (v := (0 : Int32)) hV dX8_isHalf_13 rfl ?_
      exact r_zret hV rfl (Or.inl rfl) dX8_isHalf_14 (ret_r h) (ret_m h)
    · have h := (if_pos c2).symm.trans h
      refine r_iconst (v := (1 : Int32)) hV dX8_isHalf_9 rfl ?_
      refine r_goto hV 14 dX8_isHalf_10 rfl ?_
      exact r_zret hV rfl (Or.inr rfl) dX8_isHalf_14 (ret_r h) (ret_m h)
def f_X8_lookAhead (a1 : Int32) (FM : FMem) : Opt :=
  bnd (f_X2_look 23 (FM 21 3) (FM 21 0) a1 FM) fun r1 M2 =>
  some (0, M2)
set_option maxHeartbeats 4000000 in
set_option maxRecDepth 100000 in
theorem m_X8_lookAhead (l : Launch) (D : va_G) (cI cM : ClassId) (b : Nat) (a1 : Int32) (FM : FMem) (r0 : Int32) (FR : FMem) (h : f_X8_lookAhead a1 FM = some (r0, FR)) : Mt l (wdC D cI cM b) yX8_lookAhead cX8_lookAhead 2 none 5 122 [.ref (b + 0), .int a1] FM none FR := by
  refine Mt.of (by decide) (cat_cons rfl (cat_cons rfl cat_nil)) [some (.ref (b + 0)), some (.int a1)] rfl (Nat.le_of_ble_eq_true rfl) (fun V hV => ?_)
  unfold f_X8_lookAhead at h
  refine r_aload_n hV dX8_lookAhead_0 rfl ?_
  refine r_geto hV fl_X8_57 ob_0 rfl dX8_lookAhead_1 ?_
  refine r_aload_n hV dX8_lookAhead_4 rfl ?_
  refine r_geto hV fl_X8_29 ob_0 rfl dX8_lookAhead_5 ?_
  refine r_geto hV fl_X8_130 ob_21 rfl dX8_lookAhead_8 ?_
  refine r_aload_n hV dX8_lookAhead_11 rfl ?_
  refine r_geto hV fl_X8_29 ob_0 rfl dX8_lookAhead_12 ?_
  refine r_geto hV fl_X8_176 ob_21 rfl dX8_lookAhead_15 ?_
  refine r_aload_n hV dX8_lookAhead_18 rfl ?_
  refine r_geto hV fl_X8_29 ob_0 rfl dX8_lookAhead_19 ?_
  refine r_geto hV fl_X8_148 ob_21 rfl dX8_lookAhead_22 ?_
  refine r_iload_n hV dX8_lookAhead_25 rfl ?_
  obtain ⟨r1, M2, q3, h⟩ := bnd_some h
  refine r_cVv hV (m_X2_look l D cI cM b 23 isTh_23 (FM 21 3) (FM 21 0) a1 FM _ _ q3) ml_X8_244 ob_94 rfl rfl (by decide) (Nat.le_of_ble_eq_true rfl) rfl dX8_lookAhead_26 ?_
  exact r_vret hV rfl dX8_lookAhead_29 rfl (ret_m h)
def f_X8_placeOf (a1 : Int32) (FM : FMem) : Opt :=
  bindv (a1 - (FM 21 1)) fun v1 =>
  if 0 ≤ v1 then (
    some (v1, FM)
  ) else (
    some ((v1 + (FM 12 3)), FM)
  )
set_option maxHeartbeats 4000000 in
set_option maxRecDepth 100000 in
theorem m_X8_placeOf (l : Launch) (D : va_G) (cI cM : ClassId) (b : Nat) (a1 : Int32) (FM : FMem) (r0 : Int32) (FR : FMem) (h : f_X8_placeOf a1 FM = some (r0, FR)) : Mt l (wdC D cI cM b) yX8_placeOf cX8_placeOf 3 (some .int) 0 0 [.ref (b + 0), .int a1] FM (some (.int r0)) FR := by
  refine Mt.of (by decide) (cat_cons rfl (cat_cons rfl cat_nil)) [some (.ref (b + 0)), some (.int a1), none] rfl (Nat.le_of_ble_eq_true rfl) (fun V hV => ?_)
  unfold f_X8_placeOf at h
  refine r_iload_n hV dX8_placeOf_0 rfl ?_
  refine r_aload_n hV dX8_placeOf_1 rfl ?_
  refine r_geto hV fl_X8_29 ob_0 rfl dX8_placeOf_2 ?_
  refine r_geto hV fl_X8_169 ob_21 rfl dX8_placeOf_5 ?_
  refine r_isub hV dX8_placeOf_8 ?_
  refine r_bv h (fun v1 h => ?_)
  refine r_istore_n hV dX8_placeOf_9 (Nat.le_of_ble_eq_true rfl) rfl ?_
  refine r_iload_n hV dX8_placeOf_10 rfl ?_
  refine r_ifge hV 26 dX8_placeOf_11 rfl (fun c2 => ?_) (fun c2 => ?_)
  · have h := (if_pos c2).symm.trans h
    refine r_iload_n hV dX8_placeOf_26 rfl ?_
    exact r_iret hV rfl dX8_placeOf_27 (ret_r h) (ret_m h)
  · have h := (if_neg c2).symm.trans h
    refine r_iload_n hV dX8_placeOf_14 rfl ?_
    refine r_aload_n hV dX8_placeOf_15 rfl ?_
    refine r_geto hV fl_X8_23 ob_0 rfl dX8_placeOf_16 ?_
    refine r_geto hV fl_X8_103 ob_12 rfl dX8_placeOf_19 ?_
    refine r_iadd hV dX8_placeOf_22 ?_
    refine r_goto hV 27 dX8_placeOf_23 rfl ?_
    exact r_iret hV rfl dX8_placeOf_27 (ret_r h) (ret_m h)
def X8_firstBell_b13s (k13 : Int32 → FMem → Opt) (x1 : Int32) (FM : FMem) : Opt :=
  if (40 : Int32) < x1 then (
    some ((41 : Int32), FM)
  ) else (
    bnd (f_X3_ringsOn x1 FM) fun r5 M6 =>
    if r5 = 0 then (
      k13 (x1 + (1 : Int32)) M6
    ) else (
      some (x1, M6)
    )
  )
def X8_firstBell_b13 : Nat → Int32 → FMem → Opt
  | 0, _, _ => none
  | nf + 1, x1, FM => X8_firstBell_b13s (X8_firstBell_b13 nf) x1 FM
def f_X8_firstBell (FM : FMem) : Opt :=
  bnd (f_X3_start FM) fun r1 M2 =>
  X8_firstBell_b13 FU (0 : Int32) M2
set_option maxHeartbeats 4000000 in
set_option maxRecDepth 100000 in
theorem m_X8_firstBell (l : Launch) (D : va_G) (cI cM : ClassId) (b : Nat) (FM : FMem) (r0 : Int32) (FR : FMem) (h : f_X8_firstBell FM = some (r0, FR)) : Mt l (wdC D cI cM b) yX8_firstBell cX8_firstBell 2 (some .int) 3 65 [.ref (b + 0)] FM (some (.int r0)) FR := by
  refine Mt.of (by decide) (cat_cons rfl cat_nil) [some (.ref (b + 0)), none] rfl (Nat.le_of_ble_eq_true rfl) (fun V hV => ?_)
  have B13 : ∀ (k13 : Int32 → FMem → Opt) (hk13 : ∀ (x1 : Int32) (FM : FMem), k13 x1 FM = some (r0, FR) → V FM 13 [some (.ref (b + 0)), some (.int x1)] []) (x1 : Int32) (FM : FMem), X8_firstBell_b13s k13 x1 FM = some (r0, FR) → V FM 13 [some (.ref (b + 0)), some (.int x1)] [] := by
    intro k13 hk13 x1 FM h
    unfold X8_firstBell_b13s at h
    refine r_iload_n hV dX8_firstBell_13 rfl ?_
    refine r_bipush (v := (40 : Int32)) hV dX8_firstBell_14 rfl ?_
    refine r_icmpgt hV 38 dX8_firstBell_16 rfl (fun c4 => ?_) (fun c4 => ?_)
    · have h := (if_pos c4).symm.trans h
      refine r_bipush (v := (41 : Int32)) hV dX8_firstBell_38 rfl ?_
      exact r_iret hV rfl dX8_firstBell_40 (ret_r h) (ret_m h)
    · have h := (if_neg c4).symm.trans h
      refine r_aload_n hV dX8_firstBell_19 rfl ?_
      refine r_geto hV fl_X8_66 ob_0 rfl dX8_firstBell_20 ?_
      refine r_iload_n hV dX8_firstBell_23 rfl ?_
      obtain ⟨r5, M6, q7, h⟩ := bnd_some h
      refine r_cVi hV (m_X3_ringsOn l D cI cM b x1 FM _ _ q7) ml_X8_203 ob_98 rfl rfl (by decide) (Nat.le_of_ble_eq_true rfl) rfl dX8_firstBell_24 ?_
      refine r_ifeq hV 32 dX8_firstBell_27 rfl (fun c8 => ?_) (fun c8 => ?_)
      · have h := (if_pos c8).symm.trans h
        refine r_iinc (v := (1 : Int32)) hV dX8_firstBell_32 rfl rfl rfl ?_
        refine r_goto hV 13 dX8_firstBell_35 rfl ?_
        exact hk13 (x1 + (1 : Int32)) M6 h
      · have h := (if_neg c8).symm.trans h
        refine r_iload_n hV dX8_firstBell_30 rfl ?_
        exact r_iret hV rfl dX8_firstBell_31 (ret_r h) (ret_m h)
  have L13 : ∀ (nf : Nat) (x1 : Int32) (FM : FMem), X8_firstBell_b13 nf x1 FM = some (r0, FR) → V FM 13 [some (.ref (b + 0)), some (.int x1)] [] := by
    intro  nf
    induction nf with
    | zero => intro x1 FM h; exact absurd (show (none : Opt) = some (r0, FR) from h) (fun h9 => by cases h9)
    | succ nf ih => intro x1 FM h; exact B13 (X8_firstBell_b13 nf) ih x1 FM h
  unfold f_X8_firstBell at h
  refine r_aload_n hV dX8_firstBell_0 rfl ?_
  refine r_geto hV fl_X8_66 ob_0 rfl dX8_firstBell_1 ?_
  refine r_aload_n hV dX8_firstBell_4 rfl ?_
  refine r_geto hV fl_X8_29 ob_0 rfl dX8_firstBell_5 ?_
  obtain ⟨r1, M2, q3, h⟩ := bnd_some h
  refine r_cVv hV (m_X3_start l D cI cM b FM _ _ q3) ml_X8_157 ob_98 rfl rfl (by decide) (Nat.le_of_ble_eq_true rfl) rfl dX8_firstBell_8 ?_
  refine r_iconst (v := (0 : Int32)) hV dX8_firstBell_11 rfl ?_
  refine r_istore_n hV dX8_firstBell_12 (Nat.le_of_ble_eq_true rfl) rfl ?_
  exact L13 FU (0 : Int32) M2 h
def X8_firstReignOf_b13s (k13 : Int32 → Int32 → FMem → Opt) (x1 : Int32) (x2 : Int32) (FM : FMem) : Opt :=
  if (40 : Int32) < x2 then (
    some ((41 : Int32), FM)
  ) else (
    bnd (f_X3_reigning FM) fun r5 M6 =>
    if r5 = x1 then (
      some (x2, M6)
    ) else (
      bnd (f_X3_live x2 M6) fun r9 M10 =>
      k13 x1 (x2 + (1 : Int32)) M10
    )
  )
def X8_firstReignOf_b13 : Nat → Int32 → Int32 → FMem → Opt
  | 0, _, _, _ => none
  | nf + 1, x1, x2, FM => X8_firstReignOf_b13s (X8_firstReignOf_b13 nf) x1 x2 FM
def f_X8_firstReignOf (a1 : Int32) (FM : FMem) : Opt :=
  bnd (f_X3_start FM) fun r1 M2 =>
  X8_firstReignOf_b13 FU a1 (0 : Int32) M2
set_option maxHeartbeats 4000000 in
set_option maxRecDepth 100000 in
theorem m_X8_firstReignOf (l : Launch) (D : va_G) (cI cM : ClassId) (b : Nat) (a1 : Int32) (FM : FMem) (r0 : Int32) (FR : FMem) (h : f_X8_firstReignOf a1 FM = some (r0, FR)) : Mt l (wdC D cI cM b) yX8_firstReignOf cX8_firstReignOf 3 (some .int) 4 87 [.ref (b + 0), .int a1] FM (some (.int r0)) FR := by
  refine Mt.of (by decide) (cat_cons rfl (cat_cons rfl cat_nil)) [some (.ref (b + 0)), some (.int a1), none] rfl (Nat.le_of_ble_eq_true rfl) (fun V hV => ?_)
  have B13 : ∀ (k13 : Int32 → Int32 → FMem → Opt) (hk13 : ∀ (x1 : Int32) (x2 : Int32) (FM : FMem), k13 x1 x2 FM = some (r0, FR) → V FM 13 [some (.ref (b + 0)), some (.int x1), some (.int x2)] []) (x1 : Int32) (x2 : Int32) (FM : FMem), X8_firstReignOf_b13s k13 x1 x2 FM = some (r0, FR) → V FM 13 [some (.ref (b + 0)), some (.int x1), some (.int x2)] [] := by
    intro k13 hk13 x1 x2 FM h
    unfold X8_firstReignOf_b13s at h
    refine r_iload_n hV dX8_firstReignOf_13 rfl ?_
    refine r_bipush (v := (40 : Int32)) hV dX8_firstReignOf_14 rfl ?_
    refine r_icmpgt hV 47 dX8_firstReignOf_16 rfl (fun c4 => ?_) (fun c4 => ?_)
    · have h := (if_pos c4).symm.trans h
      refine r_bipush (v := (41 : Int32)) hV dX8_firstReignOf_47 rfl ?_
      exact r_iret hV rfl dX8_firstReignOf_49 (ret_r h) (ret_m h)
    · have h := (if_neg c4).symm.trans h
      refine r_aload_n hV dX8_firstReignOf_19 rfl ?_
      refine r_geto hV fl_X8_66 ob_0 rfl dX8_firstReignOf_20 ?_
      obtain ⟨r5, M6, q7, h⟩ := bnd_some h
      refine r_cVi hV (m_X3_reigning l D cI cM b FM _ _ q7) ml_X8_160 ob_98 rfl rfl (by decide) (Nat.le_of_ble_eq_true rfl) rfl dX8_firstReignOf_23 ?_
      refine r_iload_n hV dX8_firstReignOf_26 rfl ?_
      refine r_icmpne hV 32 dX8_firstReignOf_27 rfl (fun c8 => ?_) (fun c8 => ?_)
      · have h := (if_neg c8).symm.trans h
        refine r_aload_n hV dX8_firstReignOf_32 rfl ?_
        refine r_geto hV fl_X8_66 ob_0 rfl dX8_firstReignOf_33 ?_
        refine r_iload_n hV dX8_firstReignOf_36 rfl ?_
        obtain ⟨r9, M10, q11, h⟩ := bnd_some h
        refine r_cVi hV (m_X3_live l D cI cM b x2 M6 _ _ q11) ml_X8_166 ob_98 rfl rfl (by decide) (Nat.le_of_ble_eq_true rfl) rfl dX8_firstReignOf_37 ?_
        refine r_pop hV dX8_firstReignOf_40 rfl ?_
        refine r_iinc (v := (1 : Int32)) hV dX8_firstReignOf_41 rfl rfl rfl ?_
        refine r_goto hV 13 dX8_firstReignOf_44 rfl ?_
        exact hk13 x1 (x2 + (1 : Int32)) M10 h
      · have h := (if_pos c8).symm.trans h
        refine r_iload_n hV dX8_firstReignOf_30 rfl ?_
        exact r_iret hV rfl dX8_firstReignOf_31 (ret_r h) (ret_m h)
  have L13 : ∀ (nf : Nat) (x1 : Int32) (x2 : Int32) (FM : FMem), X8_firstReignOf_b13 nf x1 x2 FM = some (r0, FR) → V FM 13 [some (.ref (b + 0)), some (.int x1), some (.int x2)] [] := by
    intro  nf
    induction nf with
    | zero => intro x1 x2 FM h; exact absurd (show (none : Opt) = some (r0, FR) from h) (fun h9 => by cases h9)
    | succ nf ih => intro x1 x2 FM h; exact B13 (X8_firstReignOf_b13 nf) ih x1 x2 FM h
  unfold f_X8_firstReignOf at h
  refine r_aload_n hV dX8_firstReignOf_0 rfl ?_
  refine r_geto hV fl_X8_66 ob_0 rfl dX8_firstReignOf_1 ?_
  refine r_aload_n hV dX8_firstReignOf_4 rfl ?_
  refine r_geto hV fl_X8_29 ob_0 rfl dX8_firstReignOf_5 ?_
  obtain ⟨r1, M2, q3, h⟩ := bnd_some h
  refine r_cVv hV (m_X3_start l D cI cM b FM _ _ q3) ml_X8_157 ob_98 rfl rfl (by decide) (Nat.le_of_ble_eq_true rfl) rfl dX8_firstReignOf_8 ?_
  refine r_iconst (v := (0 : Int32)) hV dX8_firstReignOf_11 rfl ?_
  refine r_istore_n hV dX8_firstReignOf_12 (Nat.le_of_ble_eq_true rfl) rfl ?_
  exact L13 FU a1 (0 : Int32) M2 h
def X8_staysWithout_b20s (k20 : Int32 → Int32 → Int32 → Int32 → Int32 → FMem → Opt) (x1 : Int32) (x2 : Int32) (x3 : Int32) (x4 : Int32) (x5 : Int32) (FM : FMem) : Opt :=
  if x2 ≤ x5 then (
    some ((1 : Int32), FM)
  ) else (
    bnd (f_X0_faded 12 x4 FM) fun r4 M5 =>
    bnd (f_X2_gainWithout x5 x3 x1 M5) fun r7 M8 =>
    bindv (r4 + r7) fun v10 =>
    bnd (f_X0_standsOf 12 x3 M8) fun r11 M12 =>
    if v10 < r11 then (
      k20 x1 x2 x3 v10 (x5 + (1 : Int32)) M12
    ) else (
      some ((0 : Int32), M12)
    )
  )
def X8_staysWithout_b20 : Nat → Int32 → Int32 → Int32 → Int32 → Int32 → FMem → Opt
  | 0, _, _, _, _, _, _ => none
  | nf + 1, x1, x2, x3, x4, x5, FM => X8_staysWithout_b20s (X8_staysWithout_b20 nf) x1 x2 x3 x4 x5 FM
def f_X8_staysWithout (a1 a2 : Int32) (FM : FMem) : Opt :=
  bindv (FM 21 1) fun v1 =>
  bindv (FM 21 2) fun v2 =>
  X8_staysWithout_b20 FU a1 a2 v1 v2 (0 : Int32) FM
set_option maxHeartbeats 4000000 in
set_option maxRecDepth 100000 in
theorem m_X8_staysWithout (l : Launch) (D : va_G) (cI cM : ClassId) (b : Nat) (a1 a2 : Int32) (FM : FMem) (r0 : Int32) (FR : FMem) (h : f_X8_staysWithout a1 a2 FM = some (r0, FR)) : Mt l (wdC D cI cM b) yX8_staysWithout cX8_staysWithout 6 (some .boolean) 4 96 [.ref (b + 0), .int a1, .int a2] FM (some (.int r0)) FR := by
  refine Mt.of (by decide) (cat_cons rfl (cat_cons rfl (cat_cons rfl cat_nil))) [some (.ref (b + 0)), some (.int a1), some (.int a2), none, none, none] rfl (Nat.le_of_ble_eq_true rfl) (fun V hV => ?_)
  have B20 : ∀ (k20 : Int32 → Int32 → Int32 → Int32 → Int32 → FMem → Opt) (hk20 : ∀ (x1 : Int32) (x2 : Int32) (x3 : Int32) (x4 : Int32) (x5 : Int32) (FM : FMem), k20 x1 x2 x3 x4 x5 FM = some (r0, FR) → V FM 20 [some (.ref (b + 0)), some (.int x1), some (.int x2), some (.int x3), some (.int x4), some (.int x5)] []) (x1 : Int32) (x2 : Int32) (x3 : Int32) (x4 : Int32) (x5 : Int32) (FM : FMem), X8_staysWithout_b20s k20 x1 x2 x3 x4 x5 FM = some (r0, FR) → V FM 20 [some (.ref (b + 0)), some (.int x1), some (.int x2), some (.int x3), some (.int x4), some (.int x5)] [] := by
    intro k20 hk20 x1 x2 x3 x4 x5 FM h
    unfold X8_staysWithout_b20s at h
    refine r_iload hV dX8_staysWithout_20 rfl ?_
    refine r_iload_n hV dX8_staysWithout_22 rfl ?_
    refine r_icmpge hV 70 dX8_staysWithout_23 rfl (fun c3 => ?_) (fun c3 => ?_)
    · have h := (if_pos c3).symm.trans h
      refine r_iconst (v := (1 : Int32)) hV dX8_staysWithout_70 rfl ?_
      exact r_zret hV rfl (Or.inr rfl) dX8_staysWithout_71 (ret_r h) (ret_m h)
    · have h := (if_neg c3).symm.trans h
      refine r_aload_n hV dX8_staysWithout_26 rfl ?_
      refine r_geto hV fl_X8_23 ob_0 rfl dX8_staysWithout_27 ?_
      refine r_iload hV dX8_staysWithout_30 rfl ?_
      obtain ⟨r4, M5, q6, h⟩ := bnd_some h
      refine r_cVi hV (m_X0_faded l D cI cM b 12 isCo_12 x4 FM _ _ q6) ml_X8_287 ob_12 rfl rfl (by decide) (Nat.le_of_ble_eq_true rfl) rfl dX8_staysWithout_32 ?_
      refine r_aload_n hV dX8_staysWithout_35 rfl ?_
      refine r_geto hV fl_X8_57 ob_0 rfl dX8_staysWithout_36 ?_
      refine r_iload hV dX8_staysWithout_39 rfl ?_
      refine r_iload_n hV dX8_staysWithout_41 rfl ?_
      refine r_iload_n hV dX8_staysWithout_42 rfl ?_
      obtain ⟨r7, M8, q9, h⟩ := bnd_some h
      refine r_cVi hV (m_X2_gainWithout l D cI cM b x5 x3 x1 M5 _ _ q9) ml_X8_290 ob_94 rfl rfl (by decide) (Nat.le_of_ble_eq_true rfl) rfl dX8_staysWithout_43 ?_
      refine r_iadd hV dX8_staysWithout_46 ?_
      refine r_bv h (fun v10 h => ?_)
      refine r_istore hV dX8_staysWithout_47 (Nat.le_of_ble_eq_true rfl) rfl ?_
      refine r_iload hV dX8_staysWithout_49 rfl ?_
      refine r_aload_n hV dX8_staysWithout_51 rfl ?_
      refine r_geto hV fl_X8_23 ob_0 rfl dX8_staysWithout_52 ?_
      refine r_iload_n hV dX8_staysWithout_55 rfl ?_
      obtain ⟨r11, M12, q13, h⟩ := bnd_some h
      refine r_cVi hV (m_X0_standsOf l D cI cM b 12 isCo_12 x3 M8 _ _ q13) ml_X8_278 ob_12 rfl rfl (by decide) (Nat.le_of_ble_eq_true rfl) rfl dX8_staysWithout_56 ?_
      refine r_icmplt hV 64 dX8_staysWithout_59 rfl (fun c14 => ?_) (fun c14 => ?_)
      · have h := (if_pos c14).symm.trans h
        refine r_iinc (v := (1 : Int32)) hV dX8_staysWithout_64 rfl rfl rfl ?_
        refine r_goto hV 20 dX8_staysWithout_67 rfl ?_
        exact hk20 x1 x2 x3 v10 (x5 + (1 : Int32)) M12 h
      · have h := (if_neg c14).symm.trans h
        refine r_iconst (v := (0 : Int32)) hV dX8_staysWithout_62 rfl ?_
        exact r_zret hV rfl (Or.inl rfl) dX8_staysWithout_63 (ret_r h) (ret_m h)
  have L20 : ∀ (nf : Nat) (x1 : Int32) (x2 : Int32) (x3 : Int32) (x4 : Int32) (x5 : Int32) (FM : FMem), X8_staysWithout_b20 nf x1 x2 x3 x4 x5 FM = some (r0, FR) → V FM 20 [some (.ref (b + 0)), some (.int x1), some (.int x2), some (.int x3), some (.int x4), some (.int x5)] [] := by
    intro  nf
    induction nf with
    | zero => intro x1 x2 x3 x4 x5 FM h; exact absurd (show (none : Opt) = some (r0, FR) from h) (fun h9 => by cases h9)
    | succ nf ih => intro x1 x2 x3 x4 x5 FM h; exact B20 (X8_staysWithout_b20 nf) ih x1 x2 x3 x4 x5 FM h
  unfold f_X8_staysWithout at h
  refine r_aload_n hV dX8_staysWithout_0 rfl ?_
  refine r_geto hV fl_X8_29 ob_0 rfl dX8_staysWithout_1 ?_
  refine r_geto hV fl_X8_169 ob_21 rfl dX8_staysWithout_4 ?_
  refine r_bv h (fun v1 h => ?_)
  refine r_istore_n hV dX8_staysWithout_7 (Nat.le_of_ble_eq_true rfl) rfl ?_
  refine r_aload_n hV dX8_staysWithout_8 rfl ?_
  refine r_geto hV fl_X8_29 ob_0 rfl dX8_staysWithout_9 ?_
  refine r_geto hV fl_X8_175 ob_21 rfl dX8_staysWithout_12 ?_
  refine r_bv h (fun v2 h => ?_)
  refine r_istore hV dX8_staysWithout_15 (Nat.le_of_ble_eq_true rfl) rfl ?_
  refine r_iconst (v := (0 : Int32)) hV dX8_staysWithout_17 rfl ?_
  refine r_istore hV dX8_staysWithout_18 (Nat.le_of_ble_eq_true rfl) rfl ?_
  exact L20 FU a1 a2 v1 v2 (0 : Int32) FM h
def X8_staysWith_b79 (k21 : Int32 → Int32 → Int32 → Int32 → Int32 → Int32 → Int32 → FMem → Opt) (x1 : Int32) (x2 : Int32) (x3 : Int32) (x4 : Int32) (x5 : Int32) (x6 : Int32) (x7 : Int32) (FM : FMem) : Opt :=
  bnd (f_X0_standsOf 12 x5 FM) fun r12 M13 =>
  if x6 < r12 then (
    k21 x1 x2 x3 x4 x5 x6 (x7 + (1 : Int32)) M13
  ) else (
    some ((0 : Int32), M13)
  )
def X8_staysWith_b21s (k21 : Int32 → Int32 → Int32 → Int32 → Int32 → Int32 → Int32 → FMem → Opt) (x1 : Int32) (x2 : Int32) (x3 : Int32) (x4 : Int32) (x5 : Int32) (x6 : Int32) (x7 : Int32) (FM : FMem) : Opt :=
  if x4 ≤ x7 then (
    some ((1 : Int32), FM)
  ) else (
    bnd (f_X0_faded 12 x6 FM) fun r4 M5 =>
    bnd (f_X2_gainOf x7 x5 M5) fun r7 M8 =>
    bindv (r4 + r7) fun v10 =>
    if ((x3 >>> (x7 &&& 31)) &&& (1 : Int32)) = (1 : Int32) then (
      bnd (f_X2_gainOfOneMore x7 x5 x1 x2 M8) fun r16 M17 =>
      bindv (v10 + r16) fun v19 =>
      X8_staysWith_b79 k21 x1 x2 x3 x4 x5 v19 x7 M17
    ) else (
      X8_staysWith_b79 k21 x1 x2 x3 x4 x5 v10 x7 M8
    )
  )
def X8_staysWith_b21 : Nat → Int32 → Int32 → Int32 → Int32 → Int32 → Int32 → Int32 → FMem → Opt
  | 0, _, _, _, _, _, _, _, _ => none
  | nf + 1, x1, x2, x3, x4, x5, x6, x7, FM => X8_staysWith_b21s (X8_staysWith_b21 nf) x1 x2 x3 x4 x5 x6 x7 FM
def f_X8_staysWith (a1 a2 a3 a4 : Int32) (FM : FMem) : Opt :=
  bindv (FM 21 1) fun v1 =>
  bindv (FM 21 2) fun v2 =>
  X8_staysWith_b21 FU a1 a2 a3 a4 v1 v2 (0 : Int32) FM
set_option maxHeartbeats 4000000 in
set_option maxRecDepth 100000 in
theorem m_X8_staysWith (l : Launch) (D : va_G) (cI cM : ClassId) (b : Nat) (a1 a2 a3 a4 : Int32) (FM : FMem) (r0 : Int32) (FR : FMem) (h : f_X8_staysWith a1 a2 a3 a4 FM = some (r0, FR)) : Mt l (wdC D cI cM b) yX8_staysWith cX8_staysWith 8 (some .boolean) 3 70 [.ref (b + 0), .int a1, .int a2, .int a3, .int a4] FM (some (.int r0)) FR := by
  refine Mt.of (by decide) (cat_cons rfl (cat_cons rfl (cat_cons rfl (cat_cons rfl (cat_cons rfl cat_nil))))) [some (.ref (b + 0)), some (.int a1), some (.int a2), some (.int a3), some (.int a4), none, none, none] rfl (Nat.le_of_ble_eq_true rfl) (fun V hV => ?_)
  have B79 : ∀ (k21 : Int32 → Int32 → Int32 → Int32 → Int32 → Int32 → Int32 → FMem → Opt) (hk21 : ∀ (x1 : Int32) (x2 : Int32) (x3 : Int32) (x4 : Int32) (x5 : Int32) (x6 : Int32) (x7 : Int32) (FM : FMem), k21 x1 x2 x3 x4 x5 x6 x7 FM = some (r0, FR) → V FM 21 [some (.ref (b + 0)), some (.int x1), some (.int x2), some (.int x3), some (.int x4), some (.int x5), some (.int x6), some (.int x7)] []) (x1 : Int32) (x2 : Int32) (x3 : Int32) (x4 : Int32) (x5 : Int32) (x6 : Int32) (x7 : Int32) (FM : FMem), X8_staysWith_b79 k21 x1 x2 x3 x4 x5 x6 x7 FM = some (r0, FR) → V FM 79 [some (.ref (b + 0)), some (.int x1), some (.int x2), some (.int x3), some (.int x4), some (.int x5), some (.int x6), some (.int x7)] [] := by
    intro k21 hk21 x1 x2 x3 x4 x5 x6 x7 FM h
    unfold X8_staysWith_b79 at h
    refine r_iload hV dX8_staysWith_79 rfl ?_
    refine r_aload_n hV dX8_staysWith_81 rfl ?_
    refine r_geto hV fl_X8_23 ob_0 rfl dX8_staysWith_82 ?_
    refine r_iload hV dX8_staysWith_85 rfl ?_
    obtain ⟨r12, M13, q14, h⟩ := bnd_some h
    refine r_cVi hV (m_X0_standsOf l D cI cM b 12 isCo_12 x5 FM _ _ q14) ml_X8_278 ob_12 rfl rfl (by decide) (Nat.le_of_ble_eq_true rfl) rfl dX8_staysWith_87 ?_
    refine r_icmplt hV 95 dX8_staysWith_90 rfl (fun c15 => ?_) (fun c15 => ?_)
    · have h := (if_pos c15).symm.trans h
      refine r_iinc (v := (1 : Int32)) hV dX8_staysWith_95 rfl rfl rfl ?_
      refine r_goto hV 21 dX8_staysWith_98 rfl ?_
      exact hk21 x1 x2 x3 x4 x5 x6 (x7 + (1 : Int32)) M13 h
    · have h := (if_neg c15).symm.trans h
      refine r_iconst (v := (0 : Int32)) hV dX8_staysWith_93 rfl ?_
      exact r_zret hV rfl (Or.inl rfl) dX8_staysWith_94 (ret_r h) (ret_m h)
  have B21 : ∀ (k21 : Int32 → Int32 → Int32 → Int32 → Int32 → Int32 → Int32 → FMem → Opt) (hk21 : ∀ (x1 : Int32) (x2 : Int32) (x3 : Int32) (x4 : Int32) (x5 : Int32) (x6 : Int32) (x7 : Int32) (FM : FMem), k21 x1 x2 x3 x4 x5 x6 x7 FM = some (r0, FR) → V FM 21 [some (.ref (b + 0)), some (.int x1), some (.int x2), some (.int x3), some (.int x4), some (.int x5), some (.int x6), some (.int x7)] []) (x1 : Int32) (x2 : Int32) (x3 : Int32) (x4 : Int32) (x5 : Int32) (x6 : Int32) (x7 : Int32) (FM : FMem), X8_staysWith_b21s k21 x1 x2 x3 x4 x5 x6 x7 FM = some (r0, FR) → V FM 21 [some (.ref (b + 0)), some (.int x1), some (.int x2), some (.int x3), some (.int x4), some (.int x5), some (.int x6), some (.int x7)] [] := by
    intro k21 hk21 x1 x2 x3 x4 x5 x6 x7 FM h
    unfold X8_staysWith_b21s at h
    refine r_iload hV dX8_staysWith_21 rfl ?_
    refine r_iload hV dX8_staysWith_23 rfl ?_
    refine r_icmpge hV 101 dX8_staysWith_25 rfl (fun c3 => ?_) (fun c3 => ?_)
    · have h := (if_pos c3).symm.trans h
      refine r_iconst (v := (1 : Int32)) hV dX8_staysWith_101 rfl ?_
      exact r_zret hV rfl (Or.inr rfl) dX8_staysWith_102 (ret_r h) (ret_m h)
    · have h := (if_neg c3).symm.trans h
      refine r_aload_n hV dX8_staysWith_28 rfl ?_
      refine r_geto hV fl_X8_23 ob_0 rfl dX8_staysWith_29 ?_
      refine r_iload hV dX8_staysWith_32 rfl ?_
      obtain ⟨r4, M5, q6, h⟩ := bnd_some h
      refine r_cVi hV (m_X0_faded l D cI cM b 12 isCo_12 x6 FM _ _ q6) ml_X8_287 ob_12 rfl rfl (by decide) (Nat.le_of_ble_eq_true rfl) rfl dX8_staysWith_34 ?_
      refine r_aload_n hV dX8_staysWith_37 rfl ?_
      refine r_geto hV fl_X8_57 ob_0 rfl dX8_staysWith_38 ?_
      refine r_iload hV dX8_staysWith_41 rfl ?_
      refine r_iload hV dX8_staysWith_43 rfl ?_
      obtain ⟨r7, M8, q9, h⟩ := bnd_some h
      refine r_cVi hV (m_X2_gainOf l D cI cM b x7 x5 M5 _ _ q9) ml_X8_275 ob_94 rfl rfl (by decide) (Nat.le_of_ble_eq_true rfl) rfl dX8_staysWith_45 ?_
      refine r_iadd hV dX8_staysWith_48 ?_
      refine r_bv h (fun v10 h => ?_)
      refine r_istore hV dX8_staysWith_49 (Nat.le_of_ble_eq_true rfl) rfl ?_
      refine r_iload_n hV dX8_staysWith_51 rfl ?_
      refine r_iload hV dX8_staysWith_52 rfl ?_
      refine r_ishr hV dX8_staysWith_54 ?_
      refine r_iconst (v := (1 : Int32)) hV dX8_staysWith_55 rfl ?_
      refine r_iand hV dX8_staysWith_56 ?_
      refine r_iconst (v := (1 : Int32)) hV dX8_staysWith_57 rfl ?_
      refine r_icmpne hV 79 dX8_staysWith_58 rfl (fun c11 => ?_) (fun c11 => ?_)
      · have h := (if_neg c11).symm.trans h
        exact B79 k21 hk21 x1 x2 x3 x4 x5 v10 x7 M8 h
      · have h := (if_pos c11).symm.trans h
        refine r_iload hV dX8_staysWith_61 rfl ?_
        refine r_aload_n hV dX8_staysWith_63 rfl ?_
        refine r_geto hV fl_X8_57 ob_0 rfl dX8_staysWith_64 ?_
        refine r_iload hV dX8_staysWith_67 rfl ?_
        refine r_iload hV dX8_staysWith_69 rfl ?_
        refine r_iload_n hV dX8_staysWith_71 rfl ?_
        refine r_iload_n hV dX8_staysWith_72 rfl ?_
        obtain ⟨r16, M17, q18, h⟩ := bnd_some h
        refine r_cVi hV (m_X2_gainOfOneMore l D cI cM b x7 x5 x1 x2 M8 _ _ q18) ml_X8_294 ob_94 rfl rfl (by decide) (Nat.le_of_ble_eq_true rfl) rfl dX8_staysWith_73 ?_
        refine r_iadd hV dX8_staysWith_76 ?_
        refine r_bv h (fun v19 h => ?_)
        refine r_istore hV dX8_staysWith_77 (Nat.le_of_ble_eq_true rfl) rfl ?_
        exact B79 k21 hk21 x1 x2 x3 x4 x5 v19 x7 M17 h
  have L21 : ∀ (nf : Nat) (x1 : Int32) (x2 : Int32) (x3 : Int32) (x4 : Int32) (x5 : Int32) (x6 : Int32) (x7 : Int32) (FM : FMem), X8_staysWith_b21 nf x1 x2 x3 x4 x5 x6 x7 FM = some (r0, FR) → V FM 21 [some (.ref (b + 0)), some (.int x1), some (.int x2), some (.int x3), some (.int x4), some (.int x5), some (.int x6), some (.int x7)] [] := by
    intro  nf
    induction nf with
    | zero => intro x1 x2 x3 x4 x5 x6 x7 FM h; exact absurd (show (none : Opt) = some (r0, FR) from h) (fun h9 => by cases h9)
    | succ nf ih => intro x1 x2 x3 x4 x5 x6 x7 FM h; exact B21 (X8_staysWith_b21 nf) ih x1 x2 x3 x4 x5 x6 x7 FM h
  unfold f_X8_staysWith at h
  refine r_aload_n hV dX8_staysWith_0 rfl ?_
  refine r_geto hV fl_X8_29 ob_0 rfl dX8_staysWith_1 ?_
  refine r_geto hV fl_X8_169 ob_21 rfl dX8_staysWith_4 ?_
  refine r_bv h (fun v1 h => ?_)
  refine r_istore hV dX8_staysWith_7 (Nat.le_of_ble_eq_true rfl) rfl ?_
  refine r_aload_n hV dX8_staysWith_9 rfl ?_
  refine r_geto hV fl_X8_29 ob_0 rfl dX8_staysWith_10 ?_
  refine r_geto hV fl_X8_175 ob_21 rfl dX8_staysWith_13 ?_
  refine r_bv h (fun v2 h => ?_)
  refine r_istore hV dX8_staysWith_16 (Nat.le_of_ble_eq_true rfl) rfl ?_
  refine r_iconst (v := (0 : Int32)) hV dX8_staysWith_18 rfl ?_
  refine r_istore hV dX8_staysWith_19 (Nat.le_of_ble_eq_true rfl) rfl ?_
  exact L21 FU a1 a2 a3 a4 v1 v2 (0 : Int32) FM h
def X8_bellsInOrder_b42 (k16 : Int32 → Int32 → Int32 → Int32 → FMem → Opt) (x1 : Int32) (x2 : Int32) (x3 : Int32) (x4 : Int32) (FM : FMem) : Opt :=
  k16 x1 x2 x3 (x4 + (1 : Int32)) FM
def X8_bellsInOrder_b16s (k16 : Int32 → Int32 → Int32 → Int32 → FMem → Opt) (x1 : Int32) (x2 : Int32) (x3 : Int32) (x4 : Int32) (FM : FMem) : Opt :=
  if x1 ≤ x4 then (
    some (x3, FM)
  ) else (
    if x2 ≤ x3 then (
      some (x3, FM)
    ) else (
      bnd (f_X3_live x4 FM) fun r6 M7 =>
      if r6 = 0 then (
        X8_bellsInOrder_b42 k16 x1 x2 x3 x4 M7
      ) else (
        X8_bellsInOrder_b42 k16 x1 x2 (x3 + (1 : Int32)) x4 M7
      )
    )
  )
def X8_bellsInOrder_b16 : Nat → Int32 → Int32 → Int32 → Int32 → FMem → Opt
  | 0, _, _, _, _, _ => none
  | nf + 1, x1, x2, x3, x4, FM => X8_bellsInOrder_b16s (X8_bellsInOrder_b16 nf) x1 x2 x3 x4 FM
def f_X8_bellsInOrder (a1 a2 : Int32) (FM : FMem) : Opt :=
  bnd (f_X3_startLine FM) fun r1 M2 =>
  X8_bellsInOrder_b16 FU a1 a2 (0 : Int32) (0 : Int32) M2
set_option maxHeartbeats 4000000 in
set_option maxRecDepth 100000 in
theorem m_X8_bellsInOrder (l : Launch) (D : va_G) (cI cM : ClassId) (b : Nat) (a1 a2 : Int32) (FM : FMem) (r0 : Int32) (FR : FMem) (h : f_X8_bellsInOrder a1 a2 FM = some (r0, FR)) : Mt l (wdC D cI cM b) yX8_bellsInOrder cX8_bellsInOrder 5 (some .int) 4 87 [.ref (b + 0), .int a1, .int a2] FM (some (.int r0)) FR := by
  refine Mt.of (by decide) (cat_cons rfl (cat_cons rfl (cat_cons rfl cat_nil))) [some (.ref (b + 0)), some (.int a1), some (.int a2), none, none] rfl (Nat.le_of_ble_eq_true rfl) (fun V hV => ?_)
  have B42 : ∀ (k16 : Int32 → Int32 → Int32 → Int32 → FMem → Opt) (hk16 : ∀ (x1 : Int32) (x2 : Int32) (x3 : Int32) (x4 : Int32) (FM : FMem), k16 x1 x2 x3 x4 FM = some (r0, FR) → V FM 16 [some (.ref (b + 0)), some (.int x1), some (.int x2), some (.int x3), some (.int x4)] []) (x1 : Int32) (x2 : Int32) (x3 : Int32) (x4 : Int32) (FM : FMem), X8_bellsInOrder_b42 k16 x1 x2 x3 x4 FM = some (r0, FR) → V FM 42 [some (.ref (b + 0)), some (.int x1), some (.int x2), some (.int x3), some (.int x4)] [] := by
    intro k16 hk16 x1 x2 x3 x4 FM h
    unfold X8_bellsInOrder_b42 at h
    refine r_iinc (v := (1 : Int32)) hV dX8_bellsInOrder_42 rfl rfl rfl ?_
    refine r_goto hV 16 dX8_bellsInOrder_45 rfl ?_
    exact hk16 x1 x2 x3 (x4 + (1 : Int32)) FM h
  have B16 : ∀ (k16 : Int32 → Int32 → Int32 → Int32 → FMem → Opt) (hk16 : ∀ (x1 : Int32) (x2 : Int32) (x3 : Int32) (x4 : Int32) (FM : FMem), k16 x1 x2 x3 x4 FM = some (r0, FR) → V FM 16 [some (.ref (b + 0)), some (.int x1), some (.int x2), some (.int x3), some (.int x4)] []) (x1 : Int32) (x2 : Int32) (x3 : Int32) (x4 : Int32) (FM : FMem), X8_bellsInOrder_b16s k16 x1 x2 x3 x4 FM = some (r0, FR) → V FM 16 [some (.ref (b + 0)), some (.int x1), some (.int x2), some (.int x3), some (.int x4)] [] := by
    intro k16 hk16 x1 x2 x3 x4 FM h
    unfold X8_bellsInOrder_b16s at h
    refine r_iload hV dX8_bellsInOrder_16 rfl ?_
    refine r_iload_n hV dX8_bellsInOrder_18 rfl ?_
    refine r_icmpge hV 48 dX8_bellsInOrder_19 rfl (fun c4 => ?_) (fun c4 => ?_)
    · have h := (if_pos c4).symm.trans h
      refine r_iload_n hV dX8_bellsInOrder_48 rfl ?_
      exact r_iret hV rfl dX8_bellsInOrder_49 (ret_r h) (ret_m h)
    · have h := (if_neg c4).symm.trans h
      refine r_iload_n hV dX8_bellsInOrder_22 rfl ?_
      refine r_iload_n hV dX8_bellsInOrder_23 rfl ?_
      refine r_icmpge hV 48 dX8_bellsInOrder_24 rfl (fun c5 => ?_) (fun c5 => ?_)
      · have h := (if_pos c5).symm.trans h
        refine r_iload_n hV dX8_bellsInOrder_48 rfl ?_
        exact r_iret hV rfl dX8_bellsInOrder_49 (ret_r h) (ret_m h)
      · have h := (if_neg c5).symm.trans h
        refine r_aload_n hV dX8_bellsInOrder_27 rfl ?_
        refine r_geto hV fl_X8_66 ob_0 rfl dX8_bellsInOrder_28 ?_
        refine r_iload hV dX8_bellsInOrder_31 rfl ?_
        obtain ⟨r6, M7, q8, h⟩ := bnd_some h
        refine r_cVi hV (m_X3_live l D cI cM b x4 FM _ _ q8) ml_X8_166 ob_98 rfl rfl (by decide) (Nat.le_of_ble_eq_true rfl) rfl dX8_bellsInOrder_33 ?_
        refine r_ifeq hV 42 dX8_bellsInOrder_36 rfl (fun c9 => ?_) (fun c9 => ?_)
        · have h := (if_pos c9).symm.trans h
          exact B42 k16 hk16 x1 x2 x3 x4 M7 h
        · have h := (if_neg c9).symm.trans h
          refine r_iinc (v := (1 : Int32)) hV dX8_bellsInOrder_39 rfl rfl rfl ?_
          exact B42 k16 hk16 x1 x2 (x3 + (1 : Int32)) x4 M7 h
  have L16 : ∀ (nf : Nat) (x1 : Int32) (x2 : Int32) (x3 : Int32) (x4 : Int32) (FM : FMem), X8_bellsInOrder_b16 nf x1 x2 x3 x4 FM = some (r0, FR) → V FM 16 [some (.ref (b + 0)), some (.int x1), some (.int x2), some (.int x3), some (.int x4)] [] := by
    intro  nf
    induction nf with
    | zero => intro x1 x2 x3 x4 FM h; exact absurd (show (none : Opt) = some (r0, FR) from h) (fun h9 => by cases h9)
    | succ nf ih => intro x1 x2 x3 x4 FM h; exact B16 (X8_bellsInOrder_b16 nf) ih x1 x2 x3 x4 FM h
  unfold f_X8_bellsInOrder at h
  refine r_aload_n hV dX8_bellsInOrder_0 rfl ?_
  refine r_geto hV fl_X8_66 ob_0 rfl dX8_bellsInOrder_1 ?_
  refine r_aload_n hV dX8_bellsInOrder_4 rfl ?_
  refine r_geto hV fl_X8_29 ob_0 rfl dX8_bellsInOrder_5 ?_
  obtain ⟨r1, M2, q3, h⟩ := bnd_some h
  refine r_cVv hV (m_X3_startLine l D cI cM b FM _ _ q3) ml_X8_298 ob_98 rfl rfl (by decide) (Nat.le_of_ble_eq_true rfl) rfl dX8_bellsInOrder_8 ?_
  refine r_iconst (v := (0 : Int32)) hV dX8_bellsInOrder_11 rfl ?_
  refine r_istore_n hV dX8_bellsInOrder_12 (Nat.le_of_ble_eq_true rfl) rfl ?_
  refine r_iconst (v := (0 : Int32)) hV dX8_bellsInOrder_13 rfl ?_
  refine r_istore hV dX8_bellsInOrder_14 (Nat.le_of_ble_eq_true rfl) rfl ?_
  exact L16 FU a1 a2 (0 : Int32) (0 : Int32) M2 h
def X8_wasSo_b17s (k17 : Int32 → Int32 → FMem → Opt) (x1 : Int32) (x2 : Int32) (FM : FMem) : Opt :=
  if x1 < x2 then (
    some ((1 : Int32), FM)
  ) else (
    bnd (f_X3_reigning FM) fun r8 M9 =>
    bnd (f_X6_agrees x2 r8 M9) fun r11 M12 =>
    if r11 = 0 then (
      some ((0 : Int32), M12)
    ) else (
      bnd (f_X3_live x2 M12) fun r15 M16 =>
      k17 x1 (x2 + (1 : Int32)) M16
    )
  )
def X8_wasSo_b17 : Nat → Int32 → Int32 → FMem → Opt
  | 0, _, _, _ => none
  | nf + 1, x1, x2, FM => X8_wasSo_b17s (X8_wasSo_b17 nf) x1 x2 FM
def f_X8_wasSo (FM : FMem) : Opt :=
  bnd (f_X3_startFirst FM) fun r1 M2 =>
  bnd (f_X6_lastDay M2) fun r4 M5 =>
  X8_wasSo_b17 FU r4 (0 : Int32) M5
set_option maxHeartbeats 4000000 in
set_option maxRecDepth 100000 in
theorem m_X8_wasSo (l : Launch) (D : va_G) (cI cM : ClassId) (b : Nat) (FM : FMem) (r0 : Int32) (FR : FMem) (h : f_X8_wasSo FM = some (r0, FR)) : Mt l (wdC D cI cM b) yX8_wasSo cX8_wasSo 3 (some .boolean) 4 87 [.ref (b + 0)] FM (some (.int r0)) FR := by
  refine Mt.of (by decide) (cat_cons rfl cat_nil) [some (.ref (b + 0)), none, none] rfl (Nat.le_of_ble_eq_true rfl) (fun V hV => ?_)
  have B17 : ∀ (k17 : Int32 → Int32 → FMem → Opt) (hk17 : ∀ (x1 : Int32) (x2 : Int32) (FM : FMem), k17 x1 x2 FM = some (r0, FR) → V FM 17 [some (.ref (b + 0)), some (.int x1), some (.int x2)] []) (x1 : Int32) (x2 : Int32) (FM : FMem), X8_wasSo_b17s k17 x1 x2 FM = some (r0, FR) → V FM 17 [some (.ref (b + 0)), some (.int x1), some (.int x2)] [] := by
    intro k17 hk17 x1 x2 FM h
    unfold X8_wasSo_b17s at h
    refine r_iload_n hV dX8_wasSo_17 rfl ?_
    refine r_iload_n hV dX8_wasSo_18 rfl ?_
    refine r_icmpgt hV 57 dX8_wasSo_19 rfl (fun c7 => ?_) (fun c7 => ?_)
    · have h := (if_pos c7).symm.trans h
      refine r_iconst (v := (1 : Int32)) hV dX8_wasSo_57 rfl ?_
      exact r_zret hV rfl (Or.inr rfl) dX8_wasSo_58 (ret_r h) (ret_m h)
    · have h := (if_neg c7).symm.trans h
      refine r_aload_n hV dX8_wasSo_22 rfl ?_
      refine r_geto hV fl_X8_48 ob_0 rfl dX8_wasSo_23 ?_
      refine r_iload_n hV dX8_wasSo_26 rfl ?_
      refine r_aload_n hV dX8_wasSo_27 rfl ?_
      refine r_geto hV fl_X8_66 ob_0 rfl dX8_wasSo_28 ?_
      obtain ⟨r8, M9, q10, h⟩ := bnd_some h
      refine r_cVi hV (m_X3_reigning l D cI cM b FM _ _ q10) ml_X8_160 ob_98 rfl rfl (by decide) (Nat.le_of_ble_eq_true rfl) rfl dX8_wasSo_31 ?_
      obtain ⟨r11, M12, q13, h⟩ := bnd_some h
      refine r_cVi hV (m_X6_agrees l D cI cM b x2 r8 M9 _ _ q13) ml_X8_307 ob_91 rfl rfl (by decide) (Nat.le_of_ble_eq_true rfl) rfl dX8_wasSo_34 ?_
      refine r_ifne hV 42 dX8_wasSo_37 rfl (fun c14 => ?_) (fun c14 => ?_)
      · have h := (if_neg c14).symm.trans h
        refine r_aload_n hV dX8_wasSo_42 rfl ?_
        refine r_geto hV fl_X8_66 ob_0 rfl dX8_wasSo_43 ?_
        refine r_iload_n hV dX8_wasSo_46 rfl ?_
        obtain ⟨r15, M16, q17, h⟩ := bnd_some h
        refine r_cVi hV (m_X3_live l D cI cM b x2 M12 _ _ q17) ml_X8_166 ob_98 rfl rfl (by decide) (Nat.le_of_ble_eq_true rfl) rfl dX8_wasSo_47 ?_
        refine r_pop hV dX8_wasSo_50 rfl ?_
        refine r_iinc (v := (1 : Int32)) hV dX8_wasSo_51 rfl rfl rfl ?_
        refine r_goto hV 17 dX8_wasSo_54 rfl ?_
        exact hk17 x1 (x2 + (1 : Int32)) M16 h
      · have h := (if_pos c14).symm.trans h
        refine r_iconst (v := (0 : Int32)) hV dX8_wasSo_40 rfl ?_
        exact r_zret hV rfl (Or.inl rfl) dX8_wasSo_41 (ret_r h) (ret_m h)
  have L17 : ∀ (nf : Nat) (x1 : Int32) (x2 : Int32) (FM : FMem), X8_wasSo_b17 nf x1 x2 FM = some (r0, FR) → V FM 17 [some (.ref (b + 0)), some (.int x1), some (.int x2)] [] := by
    intro  nf
    induction nf with
    | zero => intro x1 x2 FM h; exact absurd (show (none : Opt) = some (r0, FR) from h) (fun h9 => by cases h9)
    | succ nf ih => intro x1 x2 FM h; exact B17 (X8_wasSo_b17 nf) ih x1 x2 FM h
  unfold f_X8_wasSo at h
  refine r_aload_n hV dX8_wasSo_0 rfl ?_
  refine r_geto hV fl_X8_66 ob_0 rfl dX8_wasSo_1 ?_
  obtain ⟨r1, M2, q3, h⟩ := bnd_some h
  refine r_cVv hV (m_X3_startFirst l D cI cM b FM _ _ q3) ml_X8_301 ob_98 rfl rfl (by decide) (Nat.le_of_ble_eq_true rfl) rfl dX8_wasSo_4 ?_
  refine r_aload_n hV dX8_wasSo_7 rfl ?_
  refine r_geto hV fl_X8_48 ob_0 rfl dX8_wasSo_8 ?_
  obtain ⟨r4, M5, q6, h⟩ := bnd_some h
  refine r_cVi hV (m_X6_lastDay l D cI cM b M2 _ _ q6) ml_X8_304 ob_91 rfl rfl (by decide) (Nat.le_of_ble_eq_true rfl) rfl dX8_wasSo_11 ?_
  refine r_istore_n hV dX8_wasSo_14 (Nat.le_of_ble_eq_true rfl) rfl ?_
  refine r_iconst (v := (0 : Int32)) hV dX8_wasSo_15 rfl ?_
  refine r_istore_n hV dX8_wasSo_16 (Nat.le_of_ble_eq_true rfl) rfl ?_
  exact L17 FU r4 (0 : Int32) M5 h
def f_X8_draw (a0 a1 : Int32) (FM : FMem) : Opt :=
  bindl ((((7919 : Int64) * ((a0).toInt64)) + ((6151 : Int64) * ((a1).toInt64))) + (1 : Int64)) fun v1 =>
  some ((((((v1 * v1) - (v1 * v1) / (65521 : Int64) * (65521 : Int64)) / (2 : Int64))).toInt32), FM)
set_option maxHeartbeats 4000000 in
set_option maxRecDepth 100000 in
theorem m_X8_draw (l : Launch) (D : va_G) (cI cM : ClassId) (b : Nat) (a0 a1 : Int32) (FM : FMem) (r0 : Int32) (FR : FMem) (h : f_X8_draw a0 a1 FM = some (r0, FR)) : Mt l (wdC D cI cM b) yX8_draw cX8_draw 4 (some .int) 0 0 [.int a0, .int a1] FM (some (.int r0)) FR := by
  refine Mt.of (by decide) (cat_cons rfl (cat_cons rfl cat_nil)) [some (.int a0), some (.int a1), none, none] rfl (Nat.le_of_ble_eq_true rfl) (fun V hV => ?_)
  unfold f_X8_draw at h
  refine r_ldc2 (v := 7919) hV (inT_of 764 (by decide +kernel) (by decide +kernel)) dX8_draw_0 ?_
  refine r_iload_n hV dX8_draw_3 rfl ?_
  refine r_i2l hV dX8_draw_4 ?_
  refine r_lmul hV dX8_draw_5 ?_
  refine r_ldc2 (v := 6151) hV (inT_of 765 (by decide +kernel) (by decide +kernel)) dX8_draw_6 ?_
  refine r_iload_n hV dX8_draw_9 rfl ?_
  refine r_i2l hV dX8_draw_10 ?_
  refine r_lmul hV dX8_draw_11 ?_
  refine r_ladd hV dX8_draw_12 ?_
  refine r_lconst (v := 1) hV dX8_draw_13 rfl ?_
  refine r_ladd hV dX8_draw_14 ?_
  refine r_bl h (fun v1 h => ?_)
  refine r_lstore_n hV dX8_draw_15 (Nat.le_of_ble_eq_true rfl) rfl ?_
  refine r_lload_n hV dX8_draw_16 rfl ?_
  refine r_lload_n hV dX8_draw_17 rfl ?_
  refine r_lmul hV dX8_draw_18 ?_
  refine r_ldc2 (v := 65521) hV (inT_of 766 (by decide +kernel) (by decide +kernel)) dX8_draw_19 ?_
  refine r_lrem hV dX8_draw_22 (by decide) ?_
  refine r_ldc2 (v := 2) hV (inT_of 767 (by decide +kernel) (by decide +kernel)) dX8_draw_23 ?_
  refine r_ldiv hV dX8_draw_26 (by decide) ?_
  refine r_l2i hV dX8_draw_27 ?_
  exact r_iret hV rfl dX8_draw_28 (ret_r h) (ret_m h)
def X8_power_b4s (k4 : Int32 → Int32 → Int32 → Int32 → FMem → Opt) (x0 : Int32) (x1 : Int32) (x2 : Int32) (x3 : Int32) (FM : FMem) : Opt :=
  if x1 ≤ x3 then (
    some (x2, FM)
  ) else (
    bindv (x2 * x0) fun v2 =>
    k4 x0 x1 v2 (x3 + (1 : Int32)) FM
  )
def X8_power_b4 : Nat → Int32 → Int32 → Int32 → Int32 → FMem → Opt
  | 0, _, _, _, _, _ => none
  | nf + 1, x0, x1, x2, x3, FM => X8_power_b4s (X8_power_b4 nf) x0 x1 x2 x3 FM
def f_X8_power (a0 a1 : Int32) (FM : FMem) : Opt :=
  X8_power_b4 FU a0 a1 (1 : Int32) (0 : Int32) FM
set_option maxHeartbeats 4000000 in
set_option maxRecDepth 100000 in
theorem m_X8_power (l : Launch) (D : va_G) (cI cM : ClassId) (b : Nat) (a0 a1 : Int32) (FM : FMem) (r0 : Int32) (FR : FMem) (h : f_X8_power a0 a1 FM = some (r0, FR)) : Mt l (wdC D cI cM b) yX8_power cX8_power 4 (some .int) 0 0 [.int a0, .int a1] FM (some (.int r0)) FR := by
  refine Mt.of (by decide) (cat_cons rfl (cat_cons rfl cat_nil)) [some (.int a0), some (.int a1), none, none] rfl (Nat.le_of_ble_eq_true rfl) (fun V hV => ?_)
  have B4 : ∀ (k4 : Int32 → Int32 → Int32 → Int32 → FMem → Opt) (hk4 : ∀ (x0 : Int32) (x1 : Int32) (x2 : Int32) (x3 : Int32) (FM : FMem), k4 x0 x1 x2 x3 FM = some (r0, FR) → V FM 4 [some (.int x0), some (.int x1), some (.int x2), some (.int x3)] []) (x0 : Int32) (x1 : Int32) (x2 : Int32) (x3 : Int32) (FM : FMem), X8_power_b4s k4 x0 x1 x2 x3 FM = some (r0, FR) → V FM 4 [some (.int x0), some (.int x1), some (.int x2), some (.int x3)] [] := by
    intro k4 hk4 x0 x1 x2 x3 FM h
    unfold X8_power_b4s at h
    refine r_iload_n hV dX8_power_4 rfl ?_
    refine r_iload_n hV dX8_power_5 rfl ?_
    refine r_icmpge hV 19 dX8_power_6 rfl (fun c1 => ?_) (fun c1 => ?_)
    · have h := (if_pos c1).symm.trans h
      refine r_iload_n hV dX8_power_19 rfl ?_
      exact r_iret hV rfl dX8_power_20 (ret_r h) (ret_m h)
    · have h := (if_neg c1).symm.trans h
      refine r_iload_n hV dX8_power_9 rfl ?_
      refine r_iload_n hV dX8_power_10 rfl ?_
      refine r_imul hV dX8_power_11 ?_
      refine r_bv h (fun v2 h => ?_)
      refine r_istore_n hV dX8_power_12 (Nat.le_of_ble_eq_true rfl) rfl ?_
      refine r_iinc (v := (1 : Int32)) hV dX8_power_13 rfl rfl rfl ?_
      refine r_goto hV 4 dX8_power_16 rfl ?_
      exact hk4 x0 x1 v2 (x3 + (1 : Int32)) FM h
  have L4 : ∀ (nf : Nat) (x0 : Int32) (x1 : Int32) (x2 : Int32) (x3 : Int32) (FM : FMem), X8_power_b4 nf x0 x1 x2 x3 FM = some (r0, FR) → V FM 4 [some (.int x0), some (.int x1), some (.int x2), some (.int x3)] [] := by
    intro  nf
    induction nf with
    | zero => intro x0 x1 x2 x3 FM h; exact absurd (show (none : Opt) = some (r0, FR) from h) (fun h9 => by cases h9)
    | succ nf ih => intro x0 x1 x2 x3 FM h; exact B4 (X8_power_b4 nf) ih x0 x1 x2 x3 FM h
  unfold f_X8_power at h
  refine r_iconst (v := (1 : Int32)) hV dX8_power_0 rfl ?_
  refine r_istore_n hV dX8_power_1 (Nat.le_of_ble_eq_true rfl) rfl ?_
  refine r_iconst (v := (0 : Int32)) hV dX8_power_2 rfl ?_
  refine r_istore_n hV dX8_power_3 (Nat.le_of_ble_eq_true rfl) rfl ?_
  exact L4 FU a0 a1 (1 : Int32) (0 : Int32) FM h
def X8_greatestDivisor_b2s (k2 : Int32 → Int32 → Int32 → FMem → Opt) (x0 : Int32) (x1 : Int32) (x2 : Int32) (FM : FMem) : Opt :=
  if (64 : Int32) ≤ x2 then (
    some (x0, FM)
  ) else (
    if x1 = 0 then (
      some (x0, FM)
    ) else (
      grd (nz x1) <|
      bindv (x0 - x0 / x1 * x1) fun v4 =>
      k2 x1 v4 (x2 + (1 : Int32)) FM
    )
  )
def X8_greatestDivisor_b2 : Nat → Int32 → Int32 → Int32 → FMem → Opt
  | 0, _, _, _, _ => none
  | nf + 1, x0, x1, x2, FM => X8_greatestDivisor_b2s (X8_greatestDivisor_b2 nf) x0 x1 x2 FM
def f_X8_greatestDivisor (a0 a1 : Int32) (FM : FMem) : Opt :=
  X8_greatestDivisor_b2 FU a0 a1 (0 : Int32) FM
set_option maxHeartbeats 4000000 in
set_option maxRecDepth 100000 in
theorem m_X8_greatestDivisor (l : Launch) (D : va_G) (cI cM : ClassId) (b : Nat) (a0 a1 : Int32) (FM : FMem) (r0 : Int32) (FR : FMem) (h : f_X8_greatestDivisor a0 a1 FM = some (r0, FR)) : Mt l (wdC D cI cM b) yX8_greatestDivisor cX8_greatestDivisor 4 (some .int) 0 0 [.int a0, .int a1] FM (some (.int r0)) FR := by
  refine Mt.of (by decide) (cat_cons rfl (cat_cons rfl cat_nil)) [some (.int a0), some (.int a1), none, none] rfl (Nat.le_of_ble_eq_true rfl) (fun V hV => ?_)
  have B2 : ∀ (k2 : Int32 → Int32 → Int32 → FMem → Opt) (hk2 : ∀ (x0 : Int32) (x1 : Int32) (x2 : Int32) (FM : FMem), k2 x0 x1 x2 FM = some (r0, FR) → V FM 2 [some (.int x0), some (.int x1), some (.int x2), none] []) (x0 : Int32) (x1 : Int32) (x2 : Int32) (FM : FMem), X8_greatestDivisor_b2s k2 x0 x1 x2 FM = some (r0, FR) → V FM 2 [some (.int x0), some (.int x1), some (.int x2), none] [] := by
    intro k2 hk2 x0 x1 x2 FM h
    unfold X8_greatestDivisor_b2s at h
    refine r_iload_n hV dX8_greatestDivisor_2 rfl ?_
    refine r_bipush (v := (64 : Int32)) hV dX8_greatestDivisor_3 rfl ?_
    refine r_icmpge hV 26 dX8_greatestDivisor_5 rfl (fun c1 => ?_) (fun c1 => ?_)
    · have h := (if_pos c1).symm.trans h
      refine r_iload_n hV dX8_greatestDivisor_26 rfl ?_
      exact r_iret hV rfl dX8_greatestDivisor_27 (ret_r h) (ret_m h)
    · have h := (if_neg c1).symm.trans h
      refine r_iload_n hV dX8_greatestDivisor_8 rfl ?_
      refine r_ifeq hV 26 dX8_greatestDivisor_9 rfl (fun c2 => ?_) (fun c2 => ?_)
      · have h := (if_pos c2).symm.trans h
        refine r_iload_n hV dX8_greatestDivisor_26 rfl ?_
        exact r_iret hV rfl dX8_greatestDivisor_27 (ret_r h) (ret_m h)
      · have h := (if_neg c2).symm.trans h
        refine r_iload_n hV dX8_greatestDivisor_12 rfl ?_
        refine r_iload_n hV dX8_greatestDivisor_13 rfl ?_
        obtain ⟨g3, h⟩ := grd_some h
        refine r_irem hV dX8_greatestDivisor_14 (nz_ne g3) ?_
        refine r_bv h (fun v4 h => ?_)
        refine r_istore_n hV dX8_greatestDivisor_15 (Nat.le_of_ble_eq_true rfl) rfl ?_
        refine r_iload_n hV dX8_greatestDivisor_16 rfl ?_
        refine r_istore_n hV dX8_greatestDivisor_17 (Nat.le_of_ble_eq_true rfl) rfl ?_
        refine r_iload_n hV dX8_greatestDivisor_18 rfl ?_
        refine r_istore_n hV dX8_greatestDivisor_19 (Nat.le_of_ble_eq_true rfl) rfl ?_
        refine r_iinc (v := (1 : Int32)) hV dX8_greatestDivisor_20 rfl rfl rfl ?_
        refine r_goto hV 2 dX8_greatestDivisor_23 rfl ?_
        refine r_mask hV [true, true, true, false] ?_
        exact hk2 x1 v4 (x2 + (1 : Int32)) FM h
  have L2 : ∀ (nf : Nat) (x0 : Int32) (x1 : Int32) (x2 : Int32) (FM : FMem), X8_greatestDivisor_b2 nf x0 x1 x2 FM = some (r0, FR) → V FM 2 [some (.int x0), some (.int x1), some (.int x2), none] [] := by
    intro  nf
    induction nf with
    | zero => intro x0 x1 x2 FM h; exact absurd (show (none : Opt) = some (r0, FR) from h) (fun h9 => by cases h9)
    | succ nf ih => intro x0 x1 x2 FM h; exact B2 (X8_greatestDivisor_b2 nf) ih x0 x1 x2 FM h
  unfold f_X8_greatestDivisor at h
  refine r_iconst (v := (0 : Int32)) hV dX8_greatestDivisor_0 rfl ?_
  refine r_istore_n hV dX8_greatestDivisor_1 (Nat.le_of_ble_eq_true rfl) rfl ?_
  exact L2 FU a0 a1 (0 : Int32) FM h
