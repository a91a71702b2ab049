theorem put_things {D : va_G} {cI cM : ClassId} {b u : Nat} (hU : isTh D cI cM b u) (r : Nat → Int32) : wM (wdC D cI cM b) 94 (upd r 1 (Int32.ofNat u)) = .inr (2, [.ref (b + 12), .ref (b + u), .int (r 2), .int (r 3), .ref (b + 95), .ref (b + 96), .ref (b + 97)]) := by
  rw [ob_94.2]
  show Sum.inr (2, [Value.ref (b + 12), nrv b (Int32.ofNat u), .int (r 2), .int (r 3), .ref (b + 95), .ref (b + 96), .ref (b + 97)]) = _
  rw [nrv_id hU.1 (Nat.lt_trans hU.2.1 (by decide))]
def f_X8_comesBy (a0 a1 a2 a3 a4 a5 : Int32) (FM : FMem) : Opt :=
  bnd (f_J6_bitCount_0f7a4 (a2 &&& a1) FM) fun r1 M2 =>
  bindv (a3 * r1) fun v4 =>
  if a0 = (1 : Int32) then (
    some ((v4 / (2 : Int32)), M2)
  ) else
  if a0 = (2 : Int32) then (
    if (a2 &&& (a4 ^^^ (-1 : Int32))) = 0 then (
      some (v4, M2)
    ) else (
      some ((v4 + (2 : Int32)), M2)
    )
  ) else
  if a0 = (3 : Int32) then (
    if (a5 - a5 / (3 : Int32) * (3 : Int32)) = (2 : Int32) then (
      some ((0 : Int32), M2)
    ) else (
      some (v4, M2)
    )
  ) else
  some (v4, M2)
set_option maxHeartbeats 4000000 in
set_option maxRecDepth 100000 in
theorem m_X8_comesBy (l : Launch) (D : va_G) (cI cM : ClassId) (b : Nat) (a0 a1 a2 a3 a4 a5 : Int32) (FM : FMem) (r0 : Int32) (FR : FMem) (h : f_X8_comesBy a0 a1 a2 a3 a4 a5 FM = some (r0, FR)) : Mt l (wdC D cI cM b) yX8_comesBy cX8_comesBy 7 (some .int) 1 20 [.int a0, .int a1, .int a2, .int a3, .int a4, .int a5] FM (some (.int r0)) FR := by
  refine Mt.of (by decide) (cat_cons rfl (cat_cons rfl (cat_cons rfl (cat_cons rfl (cat_cons rfl (cat_cons rfl cat_nil)))))) [some (.int a0), some (.int a1), some (.int a2), some (.int a3), some (.int a4), some (.int a5), none] rfl (Nat.le_of_ble_eq_true rfl) (fun V hV => ?_)
  unfold f_X8_comesBy at h
  refine r_iload_n hV dX8_comesBy_0 rfl ?_
  refine r_iload_n hV dX8_comesBy_1 rfl ?_
  refine r_iload_n hV dX8_comesBy_2 rfl ?_
  refine r_iand hV dX8_comesBy_3 ?_
  obtain ⟨r1, M2, q3, h⟩ := bnd_some h
  refine r_cSi hV (m_J6_bitCount_0f7a4 l D cI cM b (a2 &&& a1) FM _ _ q3) ml_X8_212 rfl (by decide) (Nat.le_of_ble_eq_true rfl) rfl dX8_comesBy_4 ?_
  refine r_imul hV dX8_comesBy_7 ?_
  refine r_bv h (fun v4 h => ?_)
  refine r_istore hV dX8_comesBy_8 (Nat.le_of_ble_eq_true rfl) rfl ?_
  refine r_iload_n hV dX8_comesBy_10 rfl ?_
  by_cases e5 : a0 = (1 : Int32)
  · have h := (if_pos e5).symm.trans h
    refine r_tabIn hV 36 dX8_comesBy_11 (by rw [e5]; decide) (by rw [e5]; decide) (by first | (rw [e5]; done) | (rw [e5]; rfl)) rfl ?_
    refine r_iload hV dX8_comesBy_36 rfl ?_
    refine r_iconst (v := (2 : Int32)) hV dX8_comesBy_38 rfl ?_
    refine r_idiv hV dX8_comesBy_39 (by decide) ?_
    exact r_iret hV rfl dX8_comesBy_40 (ret_r h) (ret_m h)
  have h := (if_neg e5).symm.trans h
  by_cases e6 : a0 = (2 : Int32)
  · have h := (if_pos e6).symm.trans h
    refine r_tabIn hV 41 dX8_comesBy_11 (by rw [e6]; decide) (by rw [e6]; decide) (by first | (rw [e6]; done) | (rw [e6]; rfl)) rfl ?_
    refine r_iload_n hV dX8_comesBy_41 rfl ?_
    refine r_iload hV dX8_comesBy_42 rfl ?_
    refine r_iconst (v := (-1 : Int32)) hV dX8_comesBy_44 rfl ?_
    refine r_ixor hV dX8_comesBy_45 ?_
    refine r_iand hV dX8_comesBy_46 ?_
    refine r_ifeq hV 57 dX8_comesBy_47 rfl (fun c7 => ?_) (fun c7 => ?_)
    · have h := (if_pos c7).symm.trans h
      refine r_iload hV dX8_comesBy_57 rfl ?_
      exact r_iret hV rfl dX8_comesBy_59 (ret_r h) (ret_m h)
    · have h := (if_neg c7).symm.trans h
      refine r_iload hV dX8_comesBy_50 rfl ?_
      refine r_iconst (v := (2 : Int32)) hV dX8_comesBy_52 rfl ?_
      refine r_iadd hV dX8_comesBy_53 ?_
      refine r_goto hV 59 dX8_comesBy_54 rfl ?_
      exact r_iret hV rfl dX8_comesBy_59 (ret_r h) (ret_m h)
  have h := (if_neg e6).symm.trans h
  by_cases e8 : a0 = (3 : Int32)
  · have h := (if_pos e8).symm.trans h
    refine r_tabIn hV 60 dX8_comesBy_11 (by rw [e8]; decide) (by rw [e8]; decide) (by first | (rw [e8]; done) | (rw [e8]; rfl)) rfl ?_
    refine r_iload hV dX8_comesBy_60 rfl ?_
    refine r_iconst (v := (3 : Int32)) hV dX8_comesBy_62 rfl ?_
    refine r_irem hV dX8_comesBy_63 (by decide) ?_
    refine r_iconst (v := (2 : Int32)) hV dX8_comesBy_64 rfl ?_
    refine r_icmpne hV 72 dX8_comesBy_65 rfl (fun c9 => ?_) (fun c9 => ?_)
    · have h := (if_neg c9).symm.trans h
      refine r_iload hV dX8_comesBy_72 rfl ?_
      exact r_iret hV rfl dX8_comesBy_74 (ret_r h) (ret_m h)
    · have h := (if_pos c9).symm.trans h
      refine r_iconst (v := (0 : Int32)) hV dX8_comesBy_68 rfl ?_
      refine r_goto hV 74 dX8_comesBy_69 rfl ?_
      exact r_iret hV rfl dX8_comesBy_74 (ret_r h) (ret_m h)
  have h := (if_neg e8).symm.trans h
  have e5t := lv_neT (a := 1) e5 rfl
  have e6t := lv_neT (a := 2) e6 rfl
  have e8t := lv_neT (a := 3) e8 rfl
  refine r_tabOut hV 75 dX8_comesBy_11 (by omega) rfl ?_
  refine r_iload hV dX8_comesBy_75 rfl ?_
  exact r_iret hV rfl dX8_comesBy_77 (ret_r h) (ret_m h)
def f_X2_isLookedAt (a1 : Int32) (FM : FMem) : Opt :=
  if a1 < 0 then (
    some ((0 : Int32), FM)
  ) else (
    if (FM 94 3) ≤ a1 then (
      some ((0 : Int32), FM)
    ) else (
      if (61 : Int32) ≤ a1 then (
        some ((0 : Int32), FM)
      ) else (
        some ((1 : Int32), FM)
      )
    )
  )
set_option maxHeartbeats 4000000 in
set_option maxRecDepth 100000 in
theorem m_X2_isLookedAt (l : Launch) (D : va_G) (cI cM : ClassId) (b : Nat) (a1 : Int32) (FM : FMem) (r0 : Int32) (FR : FMem) (h : f_X2_isLookedAt a1 FM = some (r0, FR)) : Mt l (wdC D cI cM b) yX2_isLookedAt cX2_isLookedAt 2 (some .boolean) 0 0 [.ref (b + 94), .int a1] FM (some (.int r0)) FR := by
  refine Mt.of (by decide) (cat_cons rfl (cat_cons rfl cat_nil)) [some (.ref (b + 94)), some (.int a1)] rfl (Nat.le_of_ble_eq_true rfl) (fun V hV => ?_)
  unfold f_X2_isLookedAt at h
  refine r_iload_n hV dX2_isLookedAt_0 rfl ?_
  refine r_iflt hV 22 dX2_isLookedAt_1 rfl (fun c1 => ?_) (fun c1 => ?_)
  · have h := (if_pos c1).symm.trans h
    refine r_iconst (v := (0 : Int32)) hV dX2_isLookedAt_22 rfl ?_
    exact r_zret hV rfl (Or.inl rfl) dX2_isLookedAt_23 (ret_r h) (ret_m h)
  · have h := (if_neg c1).symm.trans h
    refine r_iload_n hV dX2_isLookedAt_4 rfl ?_
    refine r_aload_n hV dX2_isLookedAt_5 rfl ?_
    refine r_geto hV fl_X2_39 ob_94 rfl dX2_isLookedAt_6 ?_
    refine r_icmpge hV 22 dX2_isLookedAt_9 rfl (fun c2 => ?_) (fun c2 => ?_)
    · have h := (if_pos c2).symm.trans h
      refine r_iconst (v := (0 : Int32)) hV dX2_isLookedAt_22 rfl ?_
      exact r_zret hV rfl (Or.inl rfl) dX2_isLookedAt_23 (ret_r h) (ret_m h)
    · have h := (if_neg c2).symm.trans h
      refine r_iload_n hV dX2_isLookedAt_12 rfl ?_
      refine r_bipush (v := (61 : Int32)) hV dX2_isLookedAt_13 rfl ?_
      refine r_icmpge hV 22 dX2_isLookedAt_15 rfl (fun c3 => ?_) (fun c3 => ?_)
      · have h := (if_pos c3).symm.trans h
        refine r_iconst (v := (0 : Int32)) hV dX2_isLookedAt_22 rfl ?_
        exact r_zret hV rfl (Or.inl rfl) dX2_isLookedAt_23 (ret_r h) (ret_m h)
      · have h := (if_neg c3).symm.trans h
        refine r_iconst (v := (1 : Int32)) hV dX2_isLookedAt_18 rfl ?_
        refine r_goto hV 23 dX2_isLookedAt_19 rfl ?_
        exact r_zret hV rfl (Or.inr rfl) dX2_isLookedAt_23 (ret_r h) (ret_m h)
def f_X2_isPlace (a0 : Int32) (FM : FMem) : Opt :=
  if a0 < 0 then (
    some ((0 : Int32), FM)
  ) else (
    if (6 : Int32) ≤ a0 then (
      some ((0 : Int32), FM)
    ) else (
      some ((1 : Int32), FM)
    )
  )
set_option maxHeartbeats 4000000 in
set_option maxRecDepth 100000 in
theorem m_X2_isPlace (l : Launch) (D : va_G) (cI cM : ClassId) (b : Nat) (a0 : Int32) (FM : FMem) (r0 : Int32) (FR : FMem) (h : f_X2_isPlace a0 FM = some (r0, FR)) : Mt l (wdC D cI cM b) yX2_isPlace cX2_isPlace 1 (some .boolean) 0 0 [.int a0] FM (some (.int r0)) FR := by
  refine Mt.of (by decide) (cat_cons rfl cat_nil) [some (.int a0)] rfl (Nat.le_of_ble_eq_true rfl) (fun V hV => ?_)
  unfold f_X2_isPlace at h
  refine r_iload_n hV dX2_isPlace_0 rfl ?_
  refine r_iflt hV 14 dX2_isPlace_1 rfl (fun c1 => ?_) (fun c1 => ?_)
  · have h := (if_pos c1).symm.trans h
    refine r_iconst (v := (0 : Int32)) hV dX2_isPlace_14 rfl ?_
    exact r_zret hV rfl (Or.inl rfl) dX2_isPlace_15 (ret_r h) (ret_m h)
  · have h := (if_neg c1).symm.trans h
    refine r_iload_n hV dX2_isPlace_4 rfl ?_
    refine r_bipush (v := (6 : Int32)) hV dX2_isPlace_5 rfl ?_
    refine r_icmpge hV 14 dX2_isPlace_7 rfl (fun c2 => ?_) (fun c2 => ?_)
    · have h := (if_pos c2).symm.trans h
      refine r_iconst (v := (0 : Int32)) hV dX2_isPlace_14 rfl ?_
      exact r_zret hV rfl (Or.inl rfl) dX2_isPlace_15 (ret_r h) (ret_m h)
    · have h := (if_neg c2).symm.trans h
      refine r_iconst (v := (1 : Int32)) hV dX2_isPlace_10 rfl ?_
      refine r_goto hV 15 dX2_isPlace_11 rfl ?_
      exact r_zret hV rfl (Or.inr rfl) dX2_isPlace_15 (ret_r h) (ret_m h)
def X2_gainBy_b101 (k23 : Int32 → Int32 → Int32 → Int32 → Int32 → Int32 → Int32 → FMem → Opt) (x1 : Int32) (x2 : Int32) (x3 : Int32) (x4 : Int32) (x5 : Int32) (x6 : Int32) (x7 : Int32) (FM : FMem) : Opt :=
  k23 x1 x2 x3 x4 x5 x6 (x7 + (1 : Int32)) FM
def X2_gainBy_b23s (k23 : Int32 → Int32 → Int32 → Int32 → Int32 → Int32 → Int32 → FMem → Opt) (x1 : Int32) (x2 : Int32) (x3 : Int32) (x4 : Int32) (x5 : Int32) (x6 : Int32) (x7 : Int32) (FM : FMem) : Opt :=
  grd (tOK (FM 94 1)) <|
  if (FM (FM 94 1).toNatClampNeg 3) ≤ x7 then (
    some (x5, FM)
  ) else (
    if (9 : Int32) ≤ x7 then (
      some (x5, FM)
    ) else (
      if ((x1 >>> (x7 &&& 31)) &&& (1 : Int32)) = (1 : Int32) then (
        grd (tOK (FM 94 1)) <|
        grd (inb x7 9) <|
        grd (tOK (FM 94 1)) <|
        grd (inb x7 9) <|
        bnd (f_X8_comesBy x2 x3 (FM ((FM 94 1).toNatClampNeg + 2) ((x7).toNatClampNeg)) (FM ((FM 94 1).toNatClampNeg + 3) ((x7).toNatClampNeg)) x6 x4 FM) fun r15 M16 =>
        bindv (x5 + r15) fun v18 =>
        grd (tOK (M16 94 1)) <|
        grd (inb x7 9) <|
        bindv (x6 ||| (M16 ((M16 94 1).toNatClampNeg + 2) ((x7).toNatClampNeg))) fun v22 =>
        X2_gainBy_b101 k23 x1 x2 x3 x4 v18 v22 x7 M16
      ) else (
        X2_gainBy_b101 k23 x1 x2 x3 x4 x5 x6 x7 FM
      )
    )
  )
def X2_gainBy_b23 : Nat → Int32 → Int32 → Int32 → Int32 → Int32 → Int32 → Int32 → FMem → Opt
  | 0, _, _, _, _, _, _, _, _ => none
  | nf + 1, x1, x2, x3, x4, x5, x6, x7, FM => X2_gainBy_b23s (X2_gainBy_b23 nf) x1 x2 x3 x4 x5 x6 x7 FM
def f_X2_gainBy (a1 a2 a3 a4 : Int32) (FM : FMem) : Opt :=
  if a1 = 0 then (
    some ((0 : Int32), FM)
  ) else (
    grd (tOK (FM 94 1)) <|
    X2_gainBy_b23 FU a1 a2 a3 a4 (0 : Int32) (0 : Int32) (0 : Int32) FM
  )
set_option maxHeartbeats 4000000 in
set_option maxRecDepth 100000 in
theorem m_X2_gainBy (l : Launch) (D : va_G) (cI cM : ClassId) (b : Nat) (a1 a2 a3 a4 : Int32) (FM : FMem) (r0 : Int32) (FR : FMem) (h : f_X2_gainBy a1 a2 a3 a4 FM = some (r0, FR)) : Mt l (wdC D cI cM b) yX2_gainBy cX2_gainBy 8 (some .int) 2 46 [.ref (b + 94), .int a1, .int a2, .int a3, .int a4] FM (some (.int r0)) FR := by
  refine Mt.of (by decide) (cat_cons rfl (cat_cons rfl (cat_cons rfl (cat_cons rfl (cat_cons rfl cat_nil))))) [some (.ref (b + 94)), some (.int a1), some (.int a2), some (.int a3), some (.int a4), none, none, none] rfl (Nat.le_of_ble_eq_true rfl) (fun V hV => ?_)
  have B101 : ∀ (k23 : Int32 → Int32 → Int32 → Int32 → Int32 → Int32 → Int32 → FMem → Opt) (hk23 : ∀ (x1 : Int32) (x2 : Int32) (x3 : Int32) (x4 : Int32) (x5 : Int32) (x6 : Int32) (x7 : Int32) (FM : FMem), k23 x1 x2 x3 x4 x5 x6 x7 FM = some (r0, FR) → V FM 23 [some (.ref (b + 94)), some (.int x1), some (.int x2), some (.int x3), some (.int x4), some (.int x5), some (.int x6), some (.int x7)] []) (x1 : Int32) (x2 : Int32) (x3 : Int32) (x4 : Int32) (x5 : Int32) (x6 : Int32) (x7 : Int32) (FM : FMem), X2_gainBy_b101 k23 x1 x2 x3 x4 x5 x6 x7 FM = some (r0, FR) → V FM 101 [some (.ref (b + 94)), some (.int x1), some (.int x2), some (.int x3), some (.int x4), some (.int x5), some (.int x6), some (.int x7)] [] := by
    intro k23 hk23 x1 x2 x3 x4 x5 x6 x7 FM h
    unfold X2_gainBy_b101 at h
    refine r_iinc (v := (1 : Int32)) hV dX2_gainBy_101 rfl rfl rfl ?_
    refine r_goto hV 23 dX2_gainBy_104 rfl ?_
    exact hk23 x1 x2 x3 x4 x5 x6 (x7 + (1 : Int32)) FM h
  have B23 : ∀ (k23 : Int32 → Int32 → Int32 → Int32 → Int32 → Int32 → Int32 → FMem → Opt) (hk23 : ∀ (x1 : Int32) (x2 : Int32) (x3 : Int32) (x4 : Int32) (x5 : Int32) (x6 : Int32) (x7 : Int32) (FM : FMem), k23 x1 x2 x3 x4 x5 x6 x7 FM = some (r0, FR) → V FM 23 [some (.ref (b + 94)), some (.int x1), some (.int x2), some (.int x3), some (.int x4), some (.int x5), some (.int x6), some (.int x7)] []) (x1 : Int32) (x2 : Int32) (x3 : Int32) (x4 : Int32) (x5 : Int32) (x6 : Int32) (x7 : Int32) (FM : FMem), X2_gainBy_b23s k23 x1 x2 x3 x4 x5 x6 x7 FM = some (r0, FR) → V FM 23 [some (.ref (b + 94)), some (.int x1), some (.int x2), some (.int x3), some (.int x4), some (.int x5), some (.int x6), some (.int x7)] [] := by
    intro k23 hk23 x1 x2 x3 x4 x5 x6 x7 FM h
    unfold X2_gainBy_b23s at h
    refine r_iload hV dX2_gainBy_23 rfl ?_
    refine r_aload_n hV dX2_gainBy_25 rfl ?_
    obtain ⟨g4, h⟩ := grd_some h
    refine r_geto hV fl_X2_25 ob_94 rfl dX2_gainBy_26 ?_
    rw [nrv_n (tOK_ne g4)]
    have hQ5 := tOK_is (D := D) (cI := cI) (cM := cM) (b := b) g4
    refine r_geto hV fl_X2_48 hQ5.2.2.1 rfl dX2_gainBy_29 ?_
    refine r_icmpge hV 107 dX2_gainBy_32 rfl (fun c6 => ?_) (fun c6 => ?_)
    · have h := (if_pos c6).symm.trans h
      refine r_iload hV dX2_gainBy_107 rfl ?_
      exact r_iret hV rfl dX2_gainBy_109 (ret_r h) (ret_m h)
    · have h := (if_neg c6).symm.trans h
      refine r_iload hV dX2_gainBy_35 rfl ?_
      refine r_bipush (v := (9 : Int32)) hV dX2_gainBy_37 rfl ?_
      refine r_icmpge hV 107 dX2_gainBy_39 rfl (fun c7 => ?_) (fun c7 => ?_)
      · have h := (if_pos c7).symm.trans h
        refine r_iload hV dX2_gainBy_107 rfl ?_
        exact r_iret hV rfl dX2_gainBy_109 (ret_r h) (ret_m h)
      · have h := (if_neg c7).symm.trans h
        refine r_iload_n hV dX2_gainBy_42 rfl ?_
        refine r_iload hV dX2_gainBy_43 rfl ?_
        refine r_ishr hV dX2_gainBy_45 ?_
        refine r_iconst (v := (1 : Int32)) hV dX2_gainBy_46 rfl ?_
        refine r_iand hV dX2_gainBy_47 ?_
        refine r_iconst (v := (1 : Int32)) hV dX2_gainBy_48 rfl ?_
        refine r_icmpne hV 101 dX2_gainBy_49 rfl (fun c8 => ?_) (fun c8 => ?_)
        · have h := (if_neg c8).symm.trans h
          exact B101 k23 hk23 x1 x2 x3 x4 x5 x6 x7 FM h
        · have h := (if_pos c8).symm.trans h
          refine r_iload hV dX2_gainBy_52 rfl ?_
          refine r_iload_n hV dX2_gainBy_54 rfl ?_
          refine r_iload_n hV dX2_gainBy_55 rfl ?_
          refine r_aload_n hV dX2_gainBy_56 rfl ?_
          obtain ⟨g9, h⟩ := grd_some h
          refine r_geto hV fl_X2_25 ob_94 rfl dX2_gainBy_57 ?_
          rw [nrv_n (tOK_ne g9)]
          have hQ10 := tOK_is (D := D) (cI := cI) (cM := cM) (b := b) g9
          refine r_geto hV fl_X2_60 hQ10.2.2.1 rfl dX2_gainBy_60 ?_
          refine r_iload hV dX2_gainBy_63 rfl ?_
          obtain ⟨g11, h⟩ := grd_some h
          refine r_ald hV hQ10.2.2.2.2.1 (inb_in g11) ((x7).toNatClampNeg) rfl dX2_gainBy_65 ?_
          refine r_aload_n hV dX2_gainBy_66 rfl ?_
          obtain ⟨g12, h⟩ := grd_some h
          refine r_geto hV fl_X2_25 ob_94 rfl dX2_gainBy_67 ?_
          rw [nrv_n (tOK_ne g12)]
          have hQ13 := tOK_is (D := D) (cI := cI) (cM := cM) (b := b) g12
          refine r_geto hV fl_X2_85 hQ13.2.2.1 rfl dX2_gainBy_70 ?_
          refine r_iload hV dX2_gainBy_73 rfl ?_
          obtain ⟨g14, h⟩ := grd_some h
          refine r_ald hV hQ13.2.2.2.2.2 (inb_in g14) ((x7).toNatClampNeg) rfl dX2_gainBy_75 ?_
          refine r_iload hV dX2_gainBy_76 rfl ?_
          refine r_iload hV dX2_gainBy_78 rfl ?_
          obtain ⟨r15, M16, q17, h⟩ := bnd_some h
          refine r_cSi hV (m_X8_comesBy l D cI cM b x2 x3 (FM ((FM 94 1).toNatClampNeg + 2) ((x7).toNatClampNeg)) (FM ((FM 94 1).toNatClampNeg + 3) ((x7).toNatClampNeg)) x6 x4 FM _ _ q17) ml_X2_88 rfl (by decide) (Nat.le_of_ble_eq_true rfl) rfl dX2_gainBy_80 ?_
          refine r_iadd hV dX2_gainBy_83 ?_
          refine r_bv h (fun v18 h => ?_)
          refine r_istore hV dX2_gainBy_84 (Nat.le_of_ble_eq_true rfl) rfl ?_
          refine r_iload hV dX2_gainBy_86 rfl ?_
          refine r_aload_n hV dX2_gainBy_88 rfl ?_
          obtain ⟨g19, h⟩ := grd_some h
          refine r_geto hV fl_X2_25 ob_94 rfl dX2_gainBy_89 ?_
          rw [nrv_n (tOK_ne g19)]
          have hQ20 := tOK_is (D := D) (cI := cI) (cM := cM) (b := b) g19
          refine r_geto hV fl_X2_60 hQ20.2.2.1 rfl dX2_gainBy_92 ?_
          refine r_iload hV dX2_gainBy_95 rfl ?_
          obtain ⟨g21, h⟩ := grd_some h
          refine r_ald hV hQ20.2.2.2.2.1 (inb_in g21) ((x7).toNatClampNeg) rfl dX2_gainBy_97 ?_
          refine r_ior hV dX2_gainBy_98 ?_
          refine r_bv h (fun v22 h => ?_)
          refine r_istore hV dX2_gainBy_99 (Nat.le_of_ble_eq_true rfl) rfl ?_
          exact B101 k23 hk23 x1 x2 x3 x4 v18 v22 x7 M16 h
  have L23 : ∀ (nf : Nat) (x1 : Int32) (x2 : Int32) (x3 : Int32) (x4 : Int32) (x5 : Int32) (x6 : Int32) (x7 : Int32) (FM : FMem), X2_gainBy_b23 nf x1 x2 x3 x4 x5 x6 x7 FM = some (r0, FR) → V FM 23 [some (.ref (b + 94)), some (.int x1), some (.int x2), some (.int x3), some (.int x4), some (.int x5), some (.int x6), some (.int x7)] [] := by
    intro  nf
    induction nf with
    | zero => intro x1 x2 x3 x4 x5 x6 x7 FM h; exact absurd (show (none : Opt) = some (r0, FR) from h) (fun h9 => by cases h9)
    | succ nf ih => intro x1 x2 x3 x4 x5 x6 x7 FM h; exact B23 (X2_gainBy_b23 nf) ih x1 x2 x3 x4 x5 x6 x7 FM h
  unfold f_X2_gainBy at h
  refine r_iconst (v := (0 : Int32)) hV dX2_gainBy_0 rfl ?_
  refine r_istore hV dX2_gainBy_1 (Nat.le_of_ble_eq_true rfl) rfl ?_
  refine r_iconst (v := (0 : Int32)) hV dX2_gainBy_3 rfl ?_
  refine r_istore hV dX2_gainBy_4 (Nat.le_of_ble_eq_true rfl) rfl ?_
  refine r_iload_n hV dX2_gainBy_6 rfl ?_
  refine r_ifeq hV 17 dX2_gainBy_7 rfl (fun c1 => ?_) (fun c1 => ?_)
  · have h := (if_pos c1).symm.trans h
    refine r_iload hV dX2_gainBy_17 rfl ?_
    exact r_iret hV rfl dX2_gainBy_19 (ret_r h) (ret_m h)
  · have h := (if_neg c1).symm.trans h
    refine r_aload_n hV dX2_gainBy_10 rfl ?_
    obtain ⟨g2, h⟩ := grd_some h
    refine r_geto hV fl_X2_25 ob_94 rfl dX2_gainBy_11 ?_
    rw [nrv_n (tOK_ne g2)]
    have hQ3 := tOK_is (D := D) (cI := cI) (cM := cM) (b := b) g2
    refine r_ifnonnull hV 20 dX2_gainBy_14 rfl ?_
    refine r_iconst (v := (0 : Int32)) hV dX2_gainBy_20 rfl ?_
    refine r_istore hV dX2_gainBy_21 (Nat.le_of_ble_eq_true rfl) rfl ?_
    exact L23 FU a1 a2 a3 a4 (0 : Int32) (0 : Int32) (0 : Int32) FM h
def X2_weigh_b10s (k10 : Int32 → Int32 → Int32 → FMem → Opt) (x1 : Int32) (x2 : Int32) (x3 : Int32) (FM : FMem) : Opt :=
  if (FM 94 3) ≤ x3 then (
    some (0, FM)
  ) else (
    if (61 : Int32) ≤ x3 then (
      some (0, FM)
    ) else (
      grd (inb x3 61) <|
      grd (inb x1 6) <|
      bnd (f_X2_gainBy (FM 95 ((x3).toNatClampNeg)) (FM 13 ((x1).toNatClampNeg)) x2 ((FM 94 2) + x3) FM) fun r9 M10 =>
      grd (inb ((x3 * (6 : Int32)) + x1) 366) <|
      bindm (fset M10 97 ((((x3 * (6 : Int32)) + x1)).toNatClampNeg) r9) fun M13 =>
      k10 x1 x2 (x3 + (1 : Int32)) M13
    )
  )
def X2_weigh_b10 : Nat → Int32 → Int32 → Int32 → FMem → Opt
  | 0, _, _, _, _ => none
  | nf + 1, x1, x2, x3, FM => X2_weigh_b10s (X2_weigh_b10 nf) x1 x2 x3 FM
def f_X2_weigh (a1 a2 : Int32) (FM : FMem) : Opt :=
  bnd (f_X2_isPlace a1 FM) fun r1 M2 =>
  if r1 = 0 then (
    some (0, M2)
  ) else (
    X2_weigh_b10 FU a1 a2 (0 : Int32) M2
  )
set_option maxHeartbeats 4000000 in
set_option maxRecDepth 100000 in
theorem m_X2_weigh (l : Launch) (D : va_G) (cI cM : ClassId) (b : Nat) (a1 a2 : Int32) (FM : FMem) (r0 : Int32) (FR : FMem) (h : f_X2_weigh a1 a2 FM = some (r0, FR)) : Mt l (wdC D cI cM b) yX2_weigh cX2_weigh 4 none 3 73 [.ref (b + 94), .int a1, .int a2] FM none FR := by
  refine Mt.of (by decide) (cat_cons rfl (cat_cons rfl (cat_cons rfl cat_nil))) [some (.ref (b + 94)), some (.int a1), some (.int a2), none] rfl (Nat.le_of_ble_eq_true rfl) (fun V hV => ?_)
  have B10 : ∀ (k10 : Int32 → Int32 → Int32 → FMem → Opt) (hk10 : ∀ (x1 : Int32) (x2 : Int32) (x3 : Int32) (FM : FMem), k10 x1 x2 x3 FM = some (r0, FR) → V FM 10 [some (.ref (b + 94)), some (.int x1), some (.int x2), some (.int x3)] []) (x1 : Int32) (x2 : Int32) (x3 : Int32) (FM : FMem), X2_weigh_b10s k10 x1 x2 x3 FM = some (r0, FR) → V FM 10 [some (.ref (b + 94)), some (.int x1), some (.int x2), some (.int x3)] [] := by
    intro k10 hk10 x1 x2 x3 FM h
    unfold X2_weigh_b10s at h
    refine r_iload_n hV dX2_weigh_10 rfl ?_
    refine r_aload_n hV dX2_weigh_11 rfl ?_
    refine r_geto hV fl_X2_39 ob_94 rfl dX2_weigh_12 ?_
    refine r_icmpge hV 67 dX2_weigh_15 rfl (fun c5 => ?_) (fun c5 => ?_)
    · have h := (if_pos c5).symm.trans h
      exact r_vret hV rfl dX2_weigh_67 rfl (ret_m h)
    · have h := (if_neg c5).symm.trans h
      refine r_iload_n hV dX2_weigh_18 rfl ?_
      refine r_bipush (v := (61 : Int32)) hV dX2_weigh_19 rfl ?_
      refine r_icmpge hV 67 dX2_weigh_21 rfl (fun c6 => ?_) (fun c6 => ?_)
      · have h := (if_pos c6).symm.trans h
        exact r_vret hV rfl dX2_weigh_67 rfl (ret_m h)
      · have h := (if_neg c6).symm.trans h
        refine r_aload_n hV dX2_weigh_24 rfl ?_
        refine r_geto hV fl_X2_18 ob_94 rfl dX2_weigh_25 ?_
        refine r_iload_n hV dX2_weigh_28 rfl ?_
        refine r_bipush (v := (6 : Int32)) hV dX2_weigh_29 rfl ?_
        refine r_imul hV dX2_weigh_31 ?_
        refine r_iload_n hV dX2_weigh_32 rfl ?_
        refine r_iadd hV dX2_weigh_33 ?_
        refine r_aload_n hV dX2_weigh_34 rfl ?_
        refine r_aload_n hV dX2_weigh_35 rfl ?_
        refine r_geto hV fl_X2_9 ob_94 rfl dX2_weigh_36 ?_
        refine r_iload_n hV dX2_weigh_39 rfl ?_
        obtain ⟨g7, h⟩ := grd_some h
        refine r_ald hV ar_95 (inb_in g7) ((x3).toNatClampNeg) rfl dX2_weigh_40 ?_
        refine r_aload_n hV dX2_weigh_41 rfl ?_
        refine r_geto hV fl_X2_21 ob_94 rfl dX2_weigh_42 ?_
        refine r_geto hV fl_X2_78 ob_12 rfl dX2_weigh_45 ?_
        refine r_iload_n hV dX2_weigh_48 rfl ?_
        obtain ⟨g8, h⟩ := grd_some h
        refine r_ald hV ar_13 (inb_in g8) ((x1).toNatClampNeg) rfl dX2_weigh_49 ?_
        refine r_iload_n hV dX2_weigh_50 rfl ?_
        refine r_aload_n hV dX2_weigh_51 rfl ?_
        refine r_geto hV fl_X2_29 ob_94 rfl dX2_weigh_52 ?_
        refine r_iload_n hV dX2_weigh_55 rfl ?_
        refine r_iadd hV dX2_weigh_56 ?_
        obtain ⟨r9, M10, q11, h⟩ := bnd_some h
        refine r_cVi hV (m_X2_gainBy l D cI cM b (FM 95 ((x3).toNatClampNeg)) (FM 13 ((x1).toNatClampNeg)) x2 ((FM 94 2) + x3) FM _ _ q11) ml_X2_81 ob_94 rfl rfl (by decide) (Nat.le_of_ble_eq_true rfl) rfl dX2_weigh_57 ?_
        obtain ⟨g12, h⟩ := grd_some h
        refine r_ast hV ar_97 (inb_in g12) ((((x3 * (6 : Int32)) + x1)).toNatClampNeg) rfl dX2_weigh_60 ?_
        refine r_bm h (fun M13 h => ?_)
        refine r_iinc (v := (1 : Int32)) hV dX2_weigh_61 rfl rfl rfl ?_
        refine r_goto hV 10 dX2_weigh_64 rfl ?_
        exact hk10 x1 x2 (x3 + (1 : Int32)) M13 h
  have L10 : ∀ (nf : Nat) (x1 : Int32) (x2 : Int32) (x3 : Int32) (FM : FMem), X2_weigh_b10 nf x1 x2 x3 FM = some (r0, FR) → V FM 10 [some (.ref (b + 94)), some (.int x1), some (.int x2), some (.int x3)] [] := by
    intro  nf
    induction nf with
    | zero => intro x1 x2 x3 FM h; exact absurd (show (none : Opt) = some (r0, FR) from h) (fun h9 => by cases h9)
    | succ nf ih => intro x1 x2 x3 FM h; exact B10 (X2_weigh_b10 nf) ih x1 x2 x3 FM h
  unfold f_X2_weigh at h
  refine r_iload_n hV dX2_weigh_0 rfl ?_
  obtain ⟨r1, M2, q3, h⟩ := bnd_some h
  refine r_cSi hV (m_X2_isPlace l D cI cM b a1 FM _ _ q3) ml_X2_75 rfl (by decide) (Nat.le_of_ble_eq_true rfl) rfl dX2_weigh_1 ?_
  refine r_ifne hV 8 dX2_weigh_4 rfl (fun c4 => ?_) (fun c4 => ?_)
  · have h := (if_neg c4).symm.trans h
    refine r_iconst (v := (0 : Int32)) hV dX2_weigh_8 rfl ?_
    refine r_istore_n hV dX2_weigh_9 (Nat.le_of_ble_eq_true rfl) rfl ?_
    exact L10 FU a1 a2 (0 : Int32) M2 h
  · have h := (if_pos c4).symm.trans h
    exact r_vret hV rfl dX2_weigh_7 rfl (ret_m h)
def X2_look_b125s (u : Nat) (k125 : Int32 → FMem → Opt) (x5 : Int32) (FM : FMem) : Opt :=
  if (FM 12 3) ≤ x5 then (
    some (0, FM)
  ) else (
    if (6 : Int32) ≤ x5 then (
      some (0, FM)
    ) else (
      grd (inb x5 6) <|
      bnd (f_X2_weigh x5 (FM 14 ((x5).toNatClampNeg)) FM) fun r14 M15 =>
      k125 (x5 + (1 : Int32)) M15
    )
  )
def X2_look_b125 (u : Nat) : Nat → Int32 → FMem → Opt
  | 0, _, _ => none
  | nf + 1, x5, FM => X2_look_b125s u (X2_look_b125 u nf) x5 FM
def X2_look_b122 (u : Nat) (FM : FMem) : Opt :=
  X2_look_b125 u FU (0 : Int32) FM
def X2_look_b116 (u : Nat) (k40 : Int32 → Int32 → Int32 → FMem → Opt) (x2 : Int32) (x3 : Int32) (x5 : Int32) (FM : FMem) : Opt :=
  k40 x2 x3 (x5 + (1 : Int32)) FM
def X2_look_b40s (u : Nat) (k40 : Int32 → Int32 → Int32 → FMem → Opt) (x2 : Int32) (x3 : Int32) (x5 : Int32) (FM : FMem) : Opt :=
  if (FM u 3) ≤ x5 then (
    X2_look_b122 u FM
  ) else (
    if (9 : Int32) ≤ x5 then (
      X2_look_b122 u FM
    ) else (
      grd (inb x5 9) <|
      bindv ((FM (u + 1) ((x5).toNatClampNeg)) - x3) fun v19 =>
      bnd (f_X2_isLookedAt v19 FM) fun r20 M21 =>
      if r20 = 0 then (
        X2_look_b116 u k40 x2 x3 x5 M21
      ) else (
        if ((x2 >>> (x5 &&& 31)) &&& (1 : Int32)) = 0 then (
          grd (inb v19 61) <|
          grd (inb v19 61) <|
          bindm (fset M21 95 ((v19).toNatClampNeg) ((M21 95 ((v19).toNatClampNeg)) ||| ((1 : Int32) <<< (x5 &&& 31)))) fun M27 =>
          grd (inb v19 61) <|
          grd (inb x5 9) <|
          grd (inb v19 61) <|
          bindm (fset M27 96 ((v19).toNatClampNeg) ((M27 96 ((v19).toNatClampNeg)) ||| (M27 (u + 2) ((x5).toNatClampNeg)))) fun M31 =>
          X2_look_b116 u k40 x2 x3 x5 M31
        ) else (
          X2_look_b116 u k40 x2 x3 x5 M21
        )
      )
    )
  )
def X2_look_b40 (u : Nat) : Nat → Int32 → Int32 → Int32 → FMem → Opt
  | 0, _, _, _, _ => none
  | nf + 1, x2, x3, x5, FM => X2_look_b40s u (X2_look_b40 u nf) x2 x3 x5 FM
def f_X2_look (u : Nat) (a2 a3 a4 : Int32) (FM : FMem) : Opt :=
  bindm (fset FM 94 1 (Int32.ofNat u)) fun M1 =>
  bindm (fset M1 94 2 a3) fun M2 =>
  bindm (fset M2 94 3 (jmin a4 (61 : Int32))) fun M3 =>
  bnd (f_J7_fill_53178 95 61 (0 : Int32) M3) fun r4 M5 =>
  bnd (f_J7_fill_53178 96 61 (0 : Int32) M5) fun r7 M8 =>
  X2_look_b40 u FU a2 a3 (0 : Int32) M8
set_option maxHeartbeats 4000000 in
set_option maxRecDepth 100000 in
theorem m_X2_look (l : Launch) (D : va_G) (cI cM : ClassId) (b : Nat) (u : Nat) (hU : isTh D cI cM b u) (a2 a3 a4 : Int32) (FM : FMem) (r0 : Int32) (FR : FMem) (h : f_X2_look u a2 a3 a4 FM = some (r0, FR)) : Mt l (wdC D cI cM b) yX2_look cX2_look 7 none 4 96 [.ref (b + 94), .ref (b + u), .int a2, .int a3, .int a4] FM none FR := by
  refine Mt.of (by decide) (cat_cons rfl (cat_cons rfl (cat_cons rfl (cat_cons rfl (cat_cons rfl cat_nil))))) [some (.ref (b + 94)), some (.ref (b + u)), some (.int a2), some (.int a3), some (.int a4), none, none] rfl (Nat.le_of_ble_eq_true rfl) (fun V hV => ?_)
  have B125 : ∀ (k125 : Int32 → FMem → Opt) (hk125 : ∀ (x5 : Int32) (FM : FMem), k125 x5 FM = some (r0, FR) → V FM 125 [some (.ref (b + 94)), none, none, none, none, some (.int x5), none] []) (x5 : Int32) (FM : FMem), X2_look_b125s u k125 x5 FM = some (r0, FR) → V FM 125 [some (.ref (b + 94)), none, none, none, none, some (.int x5), none] [] := by
    intro k125 hk125 x5 FM h
    unfold X2_look_b125s at h
    refine r_iload hV dX2_look_125 rfl ?_
    refine r_aload_n hV dX2_look_127 rfl ?_
    refine r_geto hV fl_X2_21 ob_94 rfl dX2_look_128 ?_
    refine r_geto hV fl_X2_63 ob_12 rfl dX2_look_131 ?_
    refine r_icmpge hV 166 dX2_look_134 rfl (fun c11 => ?_) (fun c11 => ?_)
    · have h := (if_pos c11).symm.trans h
      exact r_vret hV rfl dX2_look_166 rfl (ret_m h)
    · have h := (if_neg c11).symm.trans h
      refine r_iload hV dX2_look_137 rfl ?_
      refine r_bipush (v := (6 : Int32)) hV dX2_look_139 rfl ?_
      refine r_icmpge hV 166 dX2_look_141 rfl (fun c12 => ?_) (fun c12 => ?_)
      · have h := (if_pos c12).symm.trans h
        exact r_vret hV rfl dX2_look_166 rfl (ret_m h)
      · have h := (if_neg c12).symm.trans h
        refine r_aload_n hV dX2_look_144 rfl ?_
        refine r_iload hV dX2_look_145 rfl ?_
        refine r_aload_n hV dX2_look_147 rfl ?_
        refine r_geto hV fl_X2_21 ob_94 rfl dX2_look_148 ?_
        refine r_geto hV fl_X2_68 ob_12 rfl dX2_look_151 ?_
        refine r_iload hV dX2_look_154 rfl ?_
        obtain ⟨g13, h⟩ := grd_some h
        refine r_ald hV ar_14 (inb_in g13) ((x5).toNatClampNeg) rfl dX2_look_156 ?_
        obtain ⟨r14, M15, q16, h⟩ := bnd_some h
        refine r_cVv hV (m_X2_weigh l D cI cM b x5 (FM 14 ((x5).toNatClampNeg)) FM _ _ q16) ml_X2_71 ob_94 rfl rfl (by decide) (Nat.le_of_ble_eq_true rfl) rfl dX2_look_157 ?_
        refine r_iinc (v := (1 : Int32)) hV dX2_look_160 rfl rfl rfl ?_
        refine r_goto hV 125 dX2_look_163 rfl ?_
        exact hk125 (x5 + (1 : Int32)) M15 h
  have L125 : ∀ (nf : Nat) (x5 : Int32) (FM : FMem), X2_look_b125 u nf x5 FM = some (r0, FR) → V FM 125 [some (.ref (b + 94)), none, none, none, none, some (.int x5), none] [] := by
    intro  nf
    induction nf with
    | zero => intro x5 FM h; exact absurd (show (none : Opt) = some (r0, FR) from h) (fun h9 => by cases h9)
    | succ nf ih => intro x5 FM h; exact B125 (X2_look_b125 u nf) ih x5 FM h
  have B122 : ∀ (FM : FMem), X2_look_b122 u FM = some (r0, FR) → V FM 122 [some (.ref (b + 94)), none, none, none, none, none, none] [] := by
    intro   FM h
    unfold X2_look_b122 at h
    refine r_iconst (v := (0 : Int32)) hV dX2_look_122 rfl ?_
    refine r_istore hV dX2_look_123 (Nat.le_of_ble_eq_true rfl) rfl ?_
    exact L125 FU (0 : Int32) FM h
  have B116 : ∀ (k40 : Int32 → Int32 → Int32 → FMem → Opt) (hk40 : ∀ (x2 : Int32) (x3 : Int32) (x5 : Int32) (FM : FMem), k40 x2 x3 x5 FM = some (r0, FR) → V FM 40 [some (.ref (b + 94)), some (.ref (b + u)), some (.int x2), some (.int x3), none, some (.int x5), none] []) (x2 : Int32) (x3 : Int32) (x5 : Int32) (FM : FMem), X2_look_b116 u k40 x2 x3 x5 FM = some (r0, FR) → V FM 116 [some (.ref (b + 94)), some (.ref (b + u)), some (.int x2), some (.int x3), none, some (.int x5), none] [] := by
    intro k40 hk40 x2 x3 x5 FM h
    unfold X2_look_b116 at h
    refine r_iinc (v := (1 : Int32)) hV dX2_look_116 rfl rfl rfl ?_
    refine r_goto hV 40 dX2_look_119 rfl ?_
    exact hk40 x2 x3 (x5 + (1 : Int32)) FM h
  have B40 : ∀ (k40 : Int32 → Int32 → Int32 → FMem → Opt) (hk40 : ∀ (x2 : Int32) (x3 : Int32) (x5 : Int32) (FM : FMem), k40 x2 x3 x5 FM = some (r0, FR) → V FM 40 [some (.ref (b + 94)), some (.ref (b + u)), some (.int x2), some (.int x3), none, some (.int x5), none] []) (x2 : Int32) (x3 : Int32) (x5 : Int32) (FM : FMem), X2_look_b40s u k40 x2 x3 x5 FM = some (r0, FR) → V FM 40 [some (.ref (b + 94)), some (.ref (b + u)), some (.int x2), some (.int x3), none, some (.int x5), none] [] := by
    intro k40 hk40 x2 x3 x5 FM h
    unfold X2_look_b40s at h
    refine r_iload hV dX2_look_40 rfl ?_
    refine r_aload_n hV dX2_look_42 rfl ?_
    refine r_geto hV fl_X2_48 hU.2.2.1 rfl dX2_look_43 ?_
    refine r_icmpge hV 122 dX2_look_46 rfl (fun c10 => ?_) (fun c10 => ?_)
    · have h := (if_pos c10).symm.trans h
      refine r_mask hV [true, false, false, false, false, false, false] ?_
      exact B122 FM h
    · have h := (if_neg c10).symm.trans h
      refine r_iload hV dX2_look_49 rfl ?_
      refine r_bipush (v := (9 : Int32)) hV dX2_look_51 rfl ?_
      refine r_icmpge hV 122 dX2_look_53 rfl (fun c17 => ?_) (fun c17 => ?_)
      · have h := (if_pos c17).symm.trans h
        refine r_mask hV [true, false, false, false, false, false, false] ?_
        exact B122 FM h
      · have h := (if_neg c17).symm.trans h
        refine r_aload_n hV dX2_look_56 rfl ?_
        refine r_geto hV fl_X2_53 hU.2.2.1 rfl dX2_look_57 ?_
        refine r_iload hV dX2_look_60 rfl ?_
        obtain ⟨g18, h⟩ := grd_some h
        refine r_ald hV hU.2.2.2.1 (inb_in g18) ((x5).toNatClampNeg) rfl dX2_look_62 ?_
        refine r_iload_n hV dX2_look_63 rfl ?_
        refine r_isub hV dX2_look_64 ?_
        refine r_bv h (fun v19 h => ?_)
        refine r_istore hV dX2_look_65 (Nat.le_of_ble_eq_true rfl) rfl ?_
        refine r_aload_n hV dX2_look_67 rfl ?_
        refine r_iload hV dX2_look_68 rfl ?_
        obtain ⟨r20, M21, q22, h⟩ := bnd_some h
        refine r_cVi hV (m_X2_isLookedAt l D cI cM b v19 FM _ _ q22) ml_X2_56 ob_94 rfl rfl (by decide) (Nat.le_of_ble_eq_true rfl) rfl dX2_look_70 ?_
        refine r_ifeq hV 116 dX2_look_73 rfl (fun c23 => ?_) (fun c23 => ?_)
        · have h := (if_pos c23).symm.trans h
          refine r_mask hV [true, true, true, true, false, true, false] ?_
          exact B116 k40 hk40 x2 x3 x5 M21 h
        · have h := (if_neg c23).symm.trans h
          refine r_iload_n hV dX2_look_76 rfl ?_
          refine r_iload hV dX2_look_77 rfl ?_
          refine r_ishr hV dX2_look_79 ?_
          refine r_iconst (v := (1 : Int32)) hV dX2_look_80 rfl ?_
          refine r_iand hV dX2_look_81 ?_
          refine r_ifne hV 116 dX2_look_82 rfl (fun c24 => ?_) (fun c24 => ?_)
          · have h := (if_neg c24).symm.trans h
            refine r_mask hV [true, true, true, true, false, true, false] ?_
            exact B116 k40 hk40 x2 x3 x5 M21 h
          · have h := (if_pos c24).symm.trans h
            refine r_aload_n hV dX2_look_85 rfl ?_
            refine r_geto hV fl_X2_9 ob_94 rfl dX2_look_86 ?_
            refine r_iload hV dX2_look_89 rfl ?_
            refine r_dup2 hV dX2_look_91 rfl rfl ?_
            obtain ⟨g25, h⟩ := grd_some h
            refine r_ald hV ar_95 (inb_in g25) ((v19).toNatClampNeg) rfl dX2_look_92 ?_
            refine r_iconst (v := (1 : Int32)) hV dX2_look_93 rfl ?_
            refine r_iload hV dX2_look_94 rfl ?_
            refine r_ishl hV dX2_look_96 ?_
            refine r_ior hV dX2_look_97 ?_
            obtain ⟨g26, h⟩ := grd_some h
            refine r_ast hV ar_95 (inb_in g26) ((v19).toNatClampNeg) rfl dX2_look_98 ?_
            refine r_bm h (fun M27 h => ?_)
            refine r_aload_n hV dX2_look_99 rfl ?_
            refine r_geto hV fl_X2_15 ob_94 rfl dX2_look_100 ?_
            refine r_iload hV dX2_look_103 rfl ?_
            refine r_dup2 hV dX2_look_105 rfl rfl ?_
            obtain ⟨g28, h⟩ := grd_some h
            refine r_ald hV ar_96 (inb_in g28) ((v19).toNatClampNeg) rfl dX2_look_106 ?_
            refine r_aload_n hV dX2_look_107 rfl ?_
            refine r_geto hV fl_X2_60 hU.2.2.1 rfl dX2_look_108 ?_
            refine r_iload hV dX2_look_111 rfl ?_
            obtain ⟨g29, h⟩ := grd_some h
            refine r_ald hV hU.2.2.2.2.1 (inb_in g29) ((x5).toNatClampNeg) rfl dX2_look_113 ?_
            refine r_ior hV dX2_look_114 ?_
            obtain ⟨g30, h⟩ := grd_some h
            refine r_ast hV ar_96 (inb_in g30) ((v19).toNatClampNeg) rfl dX2_look_115 ?_
            refine r_bm h (fun M31 h => ?_)
            refine r_mask hV [true, true, true, true, false, true, false] ?_
            exact B116 k40 hk40 x2 x3 x5 M31 h
  have L40 : ∀ (nf : Nat) (x2 : Int32) (x3 : Int32) (x5 : Int32) (FM : FMem), X2_look_b40 u nf x2 x3 x5 FM = some (r0, FR) → V FM 40 [some (.ref (b + 94)), some (.ref (b + u)), some (.int x2), some (.int x3), none, some (.int x5), none] [] := by
    intro  nf
    induction nf with
    | zero => intro x2 x3 x5 FM h; exact absurd (show (none : Opt) = some (r0, FR) from h) (fun h9 => by cases h9)
    | succ nf ih => intro x2 x3 x5 FM h; exact B40 (X2_look_b40 u nf) ih x2 x3 x5 FM h
  unfold f_X2_look at h
  refine r_aload_n hV dX2_look_0 rfl ?_
  refine r_aload_n hV dX2_look_1 rfl ?_
  refine r_put hV (upd (FM 94) 1 (Int32.ofNat u)) fl_X2_25 ob_94.1 (ob_94.2 _) (put_things hU _) rfl rfl (Nat.le_of_ble_eq_true rfl) dX2_look_2 ?_
  refine r_bm h (fun M1 h => ?_)
  refine r_aload_n hV dX2_look_5 rfl ?_
  refine r_iload_n hV dX2_look_6 rfl ?_
  refine r_puti hV fl_X2_29 ob_94 (fun _ _ => rfl) (Nat.le_of_ble_eq_true rfl) dX2_look_7 ?_
  refine r_bm h (fun M2 h => ?_)
  refine r_aload_n hV dX2_look_10 rfl ?_
  refine r_iload hV dX2_look_11 rfl ?_
  refine r_bipush (v := (61 : Int32)) hV dX2_look_13 rfl ?_
  refine r_mmin hV (inT_of 514 (by decide +kernel) (by decide +kernel)) (inT_of 515 (by decide +kernel) (by decide +kernel)) (inT_of 51 (by decide +kernel) (by decide +kernel)) (inT_of 516 (by decide +kernel) (by decide +kernel)) ⟨Nat.le_of_ble_eq_true rfl, Nat.le_of_ble_eq_true rfl⟩ dX2_look_15 ?_
  refine r_puti hV fl_X2_39 ob_94 (fun _ _ => rfl) (Nat.le_of_ble_eq_true rfl) dX2_look_18 ?_
  refine r_bm h (fun M3 h => ?_)
  refine r_aload_n hV dX2_look_21 rfl ?_
  refine r_geto hV fl_X2_9 ob_94 rfl dX2_look_22 ?_
  refine r_iconst (v := (0 : Int32)) hV dX2_look_25 rfl ?_
  obtain ⟨r4, M5, q6, h⟩ := bnd_some h
  refine r_cSv hV (m_J7_fill_53178 l D cI cM b 95 61 ar_95 (0 : Int32) M3 _ _ q6) ml_X2_42 rfl (by decide) (Nat.le_of_ble_eq_true rfl) rfl dX2_look_26 ?_
  refine r_aload_n hV dX2_look_29 rfl ?_
  refine r_geto hV fl_X2_15 ob_94 rfl dX2_look_30 ?_
  refine r_iconst (v := (0 : Int32)) hV dX2_look_33 rfl ?_
  obtain ⟨r7, M8, q9, h⟩ := bnd_some h
  refine r_cSv hV (m_J7_fill_53178 l D cI cM b 96 61 ar_96 (0 : Int32) M5 _ _ q9) ml_X2_42 rfl (by decide) (Nat.le_of_ble_eq_true rfl) rfl dX2_look_34 ?_
  refine r_iconst (v := (0 : Int32)) hV dX2_look_37 rfl ?_
  refine r_istore hV dX2_look_38 (Nat.le_of_ble_eq_true rfl) rfl ?_
  refine r_mask hV [true, true, true, true, false, true, false] ?_
  exact L40 FU a2 a3 (0 : Int32) M8 h
def f_X2_gainOf (a1 a2 : Int32) (FM : FMem) : Opt :=
  bnd (f_X2_isLookedAt a1 FM) fun r1 M2 =>
  if r1 = 0 then (
    some ((0 : Int32), M2)
  ) else (
    bnd (f_X2_isPlace a2 M2) fun r5 M6 =>
    if r5 = 0 then (
      some ((0 : Int32), M6)
    ) else (
      grd (inb ((a1 * (6 : Int32)) + a2) 366) <|
      some ((M6 97 ((((a1 * (6 : Int32)) + a2)).toNatClampNeg)), M6)
    )
  )
set_option maxHeartbeats 4000000 in
set_option maxRecDepth 100000 in
theorem m_X2_gainOf (l : Launch) (D : va_G) (cI cM : ClassId) (b : Nat) (a1 a2 : Int32) (FM : FMem) (r0 : Int32) (FR : FMem) (h : f_X2_gainOf a1 a2 FM = some (r0, FR)) : Mt l (wdC D cI cM b) yX2_gainOf cX2_gainOf 3 (some .int) 1 21 [.ref (b + 94), .int a1, .int a2] FM (some (.int r0)) FR := by
  refine Mt.of (by decide) (cat_cons rfl (cat_cons rfl (cat_cons rfl cat_nil))) [some (.ref (b + 94)), some (.int a1), some (.int a2)] rfl (Nat.le_of_ble_eq_true rfl) (fun V hV => ?_)
  unfold f_X2_gainOf at h
  refine r_aload_n hV dX2_gainOf_0 rfl ?_
  refine r_iload_n hV dX2_gainOf_1 rfl ?_
  obtain ⟨r1, M2, q3, h⟩ := bnd_some h
  refine r_cVi hV (m_X2_isLookedAt l D cI cM b a1 FM _ _ q3) ml_X2_56 ob_94 rfl rfl (by decide) (Nat.le_of_ble_eq_true rfl) rfl dX2_gainOf_2 ?_
  refine r_ifeq hV 29 dX2_gainOf_5 rfl (fun c4 => ?_) (fun c4 => ?_)
  · have h := (if_pos c4).symm.trans h
    refine r_iconst (v := (0 : Int32)) hV dX2_gainOf_29 rfl ?_
    exact r_iret hV rfl dX2_gainOf_30 (ret_r h) (ret_m h)
  · have h := (if_neg c4).symm.trans h
    refine r_iload_n hV dX2_gainOf_8 rfl ?_
    obtain ⟨r5, M6, q7, h⟩ := bnd_some h
    refine r_cSi hV (m_X2_isPlace l D cI cM b a2 M2 _ _ q7) ml_X2_75 rfl (by decide) (Nat.le_of_ble_eq_true rfl) rfl dX2_gainOf_9 ?_
    refine r_ifeq hV 29 dX2_gainOf_12 rfl (fun c8 => ?_) (fun c8 => ?_)
    · have h := (if_pos c8).symm.trans h
      refine r_iconst (v := (0 : Int32)) hV dX2_gainOf_29 rfl ?_
      exact r_iret hV rfl dX2_gainOf_30 (ret_r h) (ret_m h)
    · have h := (if_neg c8).symm.trans h
      refine r_aload_n hV dX2_gainOf_15 rfl ?_
      refine r_geto hV fl_X2_18 ob_94 rfl dX2_gainOf_16 ?_
      refine r_iload_n hV dX2_gainOf_19 rfl ?_
      refine r_bipush (v := (6 : Int32)) hV dX2_gainOf_20 rfl ?_
      refine r_imul hV dX2_gainOf_22 ?_
      refine r_iload_n hV dX2_gainOf_23 rfl ?_
      refine r_iadd hV dX2_gainOf_24 ?_
      obtain ⟨g9, h⟩ := grd_some h
      refine r_ald hV ar_97 (inb_in g9) ((((a1 * (6 : Int32)) + a2)).toNatClampNeg) rfl dX2_gainOf_25 ?_
      refine r_goto hV 30 dX2_gainOf_26 rfl ?_
      exact r_iret hV rfl dX2_gainOf_30 (ret_r h) (ret_m h)
def f_X2_gainWithout (a1 a2 a3 : Int32) (FM : FMem) : Opt :=
  bnd (f_X2_isLookedAt a1 FM) fun r1 M2 =>
  if r1 = 0 then (
    some ((0 : Int32), M2)
  ) else (
    bnd (f_X2_isPlace a2 M2) fun r5 M6 =>
    if r5 = 0 then (
      some ((0 : Int32), M6)
    ) else (
      grd (inb a1 61) <|
      grd (inb a2 6) <|
      grd (inb a2 6) <|
      bnd (f_X2_gainBy ((M6 95 ((a1).toNatClampNeg)) &&& (a3 ^^^ (-1 : Int32))) (M6 13 ((a2).toNatClampNeg)) (M6 14 ((a2).toNatClampNeg)) ((M6 94 2) + a1) M6) fun r12 M13 =>
      some (r12, M13)
    )
  )
set_option maxHeartbeats 4000000 in
set_option maxRecDepth 100000 in
theorem m_X2_gainWithout (l : Launch) (D : va_G) (cI cM : ClassId) (b : Nat) (a1 a2 a3 : Int32) (FM : FMem) (r0 : Int32) (FR : FMem) (h : f_X2_gainWithout a1 a2 a3 FM = some (r0, FR)) : Mt l (wdC D cI cM b) yX2_gainWithout cX2_gainWithout 4 (some .int) 3 73 [.ref (b + 94), .int a1, .int a2, .int a3] FM (some (.int r0)) FR := by
  refine Mt.of (by decide) (cat_cons rfl (cat_cons rfl (cat_cons rfl (cat_cons rfl cat_nil)))) [some (.ref (b + 94)), some (.int a1), some (.int a2), some (.int a3)] rfl (Nat.le_of_ble_eq_true rfl) (fun V hV => ?_)
  unfold f_X2_gainWithout at h
  refine r_aload_n hV dX2_gainWithout_0 rfl ?_
  refine r_iload_n hV dX2_gainWithout_1 rfl ?_
  obtain ⟨r1, M2, q3, h⟩ := bnd_some h
  refine r_cVi hV (m_X2_isLookedAt l D cI cM b a1 FM _ _ q3) ml_X2_56 ob_94 rfl rfl (by decide) (Nat.le_of_ble_eq_true rfl) rfl dX2_gainWithout_2 ?_
  refine r_ifeq hV 15 dX2_gainWithout_5 rfl (fun c4 => ?_) (fun c4 => ?_)
  · have h := (if_pos c4).symm.trans h
    refine r_iconst (v := (0 : Int32)) hV dX2_gainWithout_15 rfl ?_
    exact r_iret hV rfl dX2_gainWithout_16 (ret_r h) (ret_m h)
  · have h := (if_neg c4).symm.trans h
    refine r_iload_n hV dX2_gainWithout_8 rfl ?_
    obtain ⟨r5, M6, q7, h⟩ := bnd_some h
    refine r_cSi hV (m_X2_isPlace l D cI cM b a2 M2 _ _ q7) ml_X2_75 rfl (by decide) (Nat.le_of_ble_eq_true rfl) rfl dX2_gainWithout_9 ?_
    refine r_ifne hV 17 dX2_gainWithout_12 rfl (fun c8 => ?_) (fun c8 => ?_)
    · have h := (if_neg c8).symm.trans h
      refine r_aload_n hV dX2_gainWithout_17 rfl ?_
      refine r_aload_n hV dX2_gainWithout_18 rfl ?_
      refine r_geto hV fl_X2_9 ob_94 rfl dX2_gainWithout_19 ?_
      refine r_iload_n hV dX2_gainWithout_22 rfl ?_
      obtain ⟨g9, h⟩ := grd_some h
      refine r_ald hV ar_95 (inb_in g9) ((a1).toNatClampNeg) rfl dX2_gainWithout_23 ?_
      refine r_iload_n hV dX2_gainWithout_24 rfl ?_
      refine r_iconst (v := (-1 : Int32)) hV dX2_gainWithout_25 rfl ?_
      refine r_ixor hV dX2_gainWithout_26 ?_
      refine r_iand hV dX2_gainWithout_27 ?_
      refine r_aload_n hV dX2_gainWithout_28 rfl ?_
      refine r_geto hV fl_X2_21 ob_94 rfl dX2_gainWithout_29 ?_
      refine r_geto hV fl_X2_78 ob_12 rfl dX2_gainWithout_32 ?_
      refine r_iload_n hV dX2_gainWithout_35 rfl ?_
      obtain ⟨g10, h⟩ := grd_some h
      refine r_ald hV ar_13 (inb_in g10) ((a2).toNatClampNeg) rfl dX2_gainWithout_36 ?_
      refine r_aload_n hV dX2_gainWithout_37 rfl ?_
      refine r_geto hV fl_X2_21 ob_94 rfl dX2_gainWithout_38 ?_
      refine r_geto hV fl_X2_68 ob_12 rfl dX2_gainWithout_41 ?_
      refine r_iload_n hV dX2_gainWithout_44 rfl ?_
      obtain ⟨g11, h⟩ := grd_some h
      refine r_ald hV ar_14 (inb_in g11) ((a2).toNatClampNeg) rfl dX2_gainWithout_45 ?_
      refine r_aload_n hV dX2_gainWithout_46 rfl ?_
      refine r_geto hV fl_X2_29 ob_94 rfl dX2_gainWithout_47 ?_
      refine r_iload_n hV dX2_gainWithout_50 rfl ?_
      refine r_iadd hV dX2_gainWithout_51 ?_
      obtain ⟨r12, M13, q14, h⟩ := bnd_some h
      refine r_cVi hV (m_X2_gainBy l D cI cM b ((M6 95 ((a1).toNatClampNeg)) &&& (a3 ^^^ (-1 : Int32))) (M6 13 ((a2).toNatClampNeg)) (M6 14 ((a2).toNatClampNeg)) ((M6 94 2) + a1) M6 _ _ q14) ml_X2_81 ob_94 rfl rfl (by decide) (Nat.le_of_ble_eq_true rfl) rfl dX2_gainWithout_52 ?_
      exact r_iret hV rfl dX2_gainWithout_55 (ret_r h) (ret_m h)
    · have h := (if_pos c8).symm.trans h
      refine r_iconst (v := (0 : Int32)) hV dX2_gainWithout_15 rfl ?_
      exact r_iret hV rfl dX2_gainWithout_16 (ret_r h) (ret_m h)
def f_X2_gainOfOneMore (a1 a2 a3 a4 : Int32) (FM : FMem) : Opt :=
  bnd (f_X2_isLookedAt a1 FM) fun r1 M2 =>
  if r1 = 0 then (
    some ((0 : Int32), M2)
  ) else (
    bnd (f_X2_isPlace a2 M2) fun r5 M6 =>
    if r5 = 0 then (
      some ((0 : Int32), M6)
    ) else (
      grd (inb a2 6) <|
      grd (inb a2 6) <|
      grd (inb a1 61) <|
      bnd (f_X8_comesBy (M6 13 ((a2).toNatClampNeg)) (M6 14 ((a2).toNatClampNeg)) a3 a4 (M6 96 ((a1).toNatClampNeg)) ((M6 94 2) + a1) M6) fun r12 M13 =>
      some (r12, M13)
    )
  )
set_option maxHeartbeats 4000000 in
set_option maxRecDepth 100000 in
theorem m_X2_gainOfOneMore (l : Launch) (D : va_G) (cI cM : ClassId) (b : Nat) (a1 a2 a3 a4 : Int32) (FM : FMem) (r0 : Int32) (FR : FMem) (h : f_X2_gainOfOneMore a1 a2 a3 a4 FM = some (r0, FR)) : Mt l (wdC D cI cM b) yX2_gainOfOneMore cX2_gainOfOneMore 5 (some .int) 2 46 [.ref (b + 94), .int a1, .int a2, .int a3, .int a4] FM (some (.int r0)) FR := by
  refine Mt.of (by decide) (cat_cons rfl (cat_cons rfl (cat_cons rfl (cat_cons rfl (cat_cons rfl cat_nil))))) [some (.ref (b + 94)), some (.int a1), some (.int a2), some (.int a3), some (.int a4)] rfl (Nat.le_of_ble_eq_true rfl) (fun V hV => ?_)
  unfold f_X2_gainOfOneMore at h
  refine r_aload_n hV dX2_gainOfOneMore_0 rfl ?_
  refine r_iload_n hV dX2_gainOfOneMore_1 rfl ?_
  obtain ⟨r1, M2, q3, h⟩ := bnd_some h
  refine r_cVi hV (m_X2_isLookedAt l D cI cM b a1 FM _ _ q3) ml_X2_56 ob_94 rfl rfl (by decide) (Nat.le_of_ble_eq_true rfl) rfl dX2_gainOfOneMore_2 ?_
  refine r_ifeq hV 15 dX2_gainOfOneMore_5 rfl (fun c4 => ?_) (fun c4 => ?_)
  · have h := (if_pos c4).symm.trans h
    refine r_iconst (v := (0 : Int32)) hV dX2_gainOfOneMore_15 rfl ?_
    exact r_iret hV rfl dX2_gainOfOneMore_16 (ret_r h) (ret_m h)
  · have h := (if_neg c4).symm.trans h
    refine r_iload_n hV dX2_gainOfOneMore_8 rfl ?_
    obtain ⟨r5, M6, q7, h⟩ := bnd_some h
    refine r_cSi hV (m_X2_isPlace l D cI cM b a2 M2 _ _ q7) ml_X2_75 rfl (by decide) (Nat.le_of_ble_eq_true rfl) rfl dX2_gainOfOneMore_9 ?_
    refine r_ifne hV 17 dX2_gainOfOneMore_12 rfl (fun c8 => ?_) (fun c8 => ?_)
    · have h := (if_neg c8).symm.trans h
      refine r_aload_n hV dX2_gainOfOneMore_17 rfl ?_
      refine r_geto hV fl_X2_21 ob_94 rfl dX2_gainOfOneMore_18 ?_
      refine r_geto hV fl_X2_78 ob_12 rfl dX2_gainOfOneMore_21 ?_
      refine r_iload_n hV dX2_gainOfOneMore_24 rfl ?_
      obtain ⟨g9, h⟩ := grd_some h
      refine r_ald hV ar_13 (inb_in g9) ((a2).toNatClampNeg) rfl dX2_gainOfOneMore_25 ?_
      refine r_aload_n hV dX2_gainOfOneMore_26 rfl ?_
      refine r_geto hV fl_X2_21 ob_94 rfl dX2_gainOfOneMore_27 ?_
      refine r_geto hV fl_X2_68 ob_12 rfl dX2_gainOfOneMore_30 ?_
      refine r_iload_n hV dX2_gainOfOneMore_33 rfl ?_
      obtain ⟨g10, h⟩ := grd_some h
      refine r_ald hV ar_14 (inb_in g10) ((a2).toNatClampNeg) rfl dX2_gainOfOneMore_34 ?_
      refine r_iload_n hV dX2_gainOfOneMore_35 rfl ?_
      refine r_iload hV dX2_gainOfOneMore_36 rfl ?_
      refine r_aload_n hV dX2_gainOfOneMore_38 rfl ?_
      refine r_geto hV fl_X2_15 ob_94 rfl dX2_gainOfOneMore_39 ?_
      refine r_iload_n hV dX2_gainOfOneMore_42 rfl ?_
      obtain ⟨g11, h⟩ := grd_some h
      refine r_ald hV ar_96 (inb_in g11) ((a1).toNatClampNeg) rfl dX2_gainOfOneMore_43 ?_
      refine r_aload_n hV dX2_gainOfOneMore_44 rfl ?_
      refine r_geto hV fl_X2_29 ob_94 rfl dX2_gainOfOneMore_45 ?_
      refine r_iload_n hV dX2_gainOfOneMore_48 rfl ?_
      refine r_iadd hV dX2_gainOfOneMore_49 ?_
      obtain ⟨r12, M13, q14, h⟩ := bnd_some h
      refine r_cSi hV (m_X8_comesBy l D cI cM b (M6 13 ((a2).toNatClampNeg)) (M6 14 ((a2).toNatClampNeg)) a3 a4 (M6 96 ((a1).toNatClampNeg)) ((M6 94 2) + a1) M6 _ _ q14) ml_X2_88 rfl (by decide) (Nat.le_of_ble_eq_true rfl) rfl dX2_gainOfOneMore_50 ?_
      exact r_iret hV rfl dX2_gainOfOneMore_53 (ret_r h) (ret_m h)
    · have h := (if_pos c8).symm.trans h
      refine r_iconst (v := (0 : Int32)) hV dX2_gainOfOneMore_15 rfl ?_
      exact r_iret hV rfl dX2_gainOfOneMore_16 (ret_r h) (ret_m h)
def X2_addTimes_b12s (k12 : Int32 → Int32 → Int32 → Int32 → Int32 → FMem → Opt) (x1 : Int32) (x2 : Int32) (x3 : Int32) (x4 : Int32) (x5 : Int32) (FM : FMem) : Opt :=
  if (FM 12 3) ≤ x5 then (
    some (0, FM)
  ) else (
    if (6 : Int32) ≤ x5 then (
      some (0, FM)
    ) else (
      bindv ((x2 * (6 : Int32)) + x5) fun v7 =>
      grd (inb v7 366) <|
      bnd (f_X2_gainOfOneMore x2 x5 x3 x4 FM) fun r9 M10 =>
      grd (inb v7 366) <|
      bindm (fset M10 97 ((v7).toNatClampNeg) ((FM 97 ((v7).toNatClampNeg)) + (x1 * r9))) fun M13 =>
      k12 x1 x2 x3 x4 (x5 + (1 : Int32)) M13
    )
  )
def X2_addTimes_b12 : Nat → Int32 → Int32 → Int32 → Int32 → Int32 → FMem → Opt
  | 0, _, _, _, _, _, _ => none
  | nf + 1, x1, x2, x3, x4, x5, FM => X2_addTimes_b12s (X2_addTimes_b12 nf) x1 x2 x3 x4 x5 FM
def f_X2_addTimes (a1 a2 a3 a4 : Int32) (FM : FMem) : Opt :=
  bnd (f_X2_isLookedAt a2 FM) fun r1 M2 =>
  if r1 = 0 then (
    some (0, M2)
  ) else (
    X2_addTimes_b12 FU a1 a2 a3 a4 (0 : Int32) M2
  )
set_option maxHeartbeats 4000000 in
set_option maxRecDepth 100000 in
theorem m_X2_addTimes (l : Launch) (D : va_G) (cI cM : ClassId) (b : Nat) (a1 a2 a3 a4 : Int32) (FM : FMem) (r0 : Int32) (FR : FMem) (h : f_X2_addTimes a1 a2 a3 a4 FM = some (r0, FR)) : Mt l (wdC D cI cM b) yX2_addTimes cX2_addTimes 6 none 3 70 [.ref (b + 94), .int a1, .int a2, .int a3, .int a4] FM none FR := by
  refine Mt.of (by decide) (cat_cons rfl (cat_cons rfl (cat_cons rfl (cat_cons rfl (cat_cons rfl cat_nil))))) [some (.ref (b + 94)), some (.int a1), some (.int a2), some (.int a3), some (.int a4), none] rfl (Nat.le_of_ble_eq_true rfl) (fun V hV => ?_)
  have B12 : ∀ (k12 : Int32 → Int32 → Int32 → Int32 → Int32 → FMem → Opt) (hk12 : ∀ (x1 : Int32) (x2 : Int32) (x3 : Int32) (x4 : Int32) (x5 : Int32) (FM : FMem), k12 x1 x2 x3 x4 x5 FM = some (r0, FR) → V FM 12 [some (.ref (b + 94)), some (.int x1), some (.int x2), some (.int x3), some (.int x4), some (.int x5)] []) (x1 : Int32) (x2 : Int32) (x3 : Int32) (x4 : Int32) (x5 : Int32) (FM : FMem), X2_addTimes_b12s k12 x1 x2 x3 x4 x5 FM = some (r0, FR) → V FM 12 [some (.ref (b + 94)), some (.int x1), some (.int x2), some (.int x3), some (.int x4), some (.int x5)] [] := by
    intro k12 hk12 x1 x2 x3 x4 x5 FM h
    unfold X2_addTimes_b12s at h
    refine r_iload hV dX2_addTimes_12 rfl ?_
    refine r_aload_n hV dX2_addTimes_14 rfl ?_
    refine r_geto hV fl_X2_21 ob_94 rfl dX2_addTimes_15 ?_
    refine r_geto hV fl_X2_63 ob_12 rfl dX2_addTimes_18 ?_
    refine r_icmpge hV 64 dX2_addTimes_21 rfl (fun c5 => ?_) (fun c5 => ?_)
    · have h := (if_pos c5).symm.trans h
      exact r_vret hV rfl dX2_addTimes_64 rfl (ret_m h)
    · have h := (if_neg c5).symm.trans h
      refine r_iload hV dX2_addTimes_24 rfl ?_
      refine r_bipush (v := (6 : Int32)) hV dX2_addTimes_26 rfl ?_
      refine r_icmpge hV 64 dX2_addTimes_28 rfl (fun c6 => ?_) (fun c6 => ?_)
      · have h := (if_pos c6).symm.trans h
        exact r_vret hV rfl dX2_addTimes_64 rfl (ret_m h)
      · have h := (if_neg c6).symm.trans h
        refine r_aload_n hV dX2_addTimes_31 rfl ?_
        refine r_geto hV fl_X2_18 ob_94 rfl dX2_addTimes_32 ?_
        refine r_iload_n hV dX2_addTimes_35 rfl ?_
        refine r_bipush (v := (6 : Int32)) hV dX2_addTimes_36 rfl ?_
        refine r_imul hV dX2_addTimes_38 ?_
        refine r_iload hV dX2_addTimes_39 rfl ?_
        refine r_iadd hV dX2_addTimes_41 ?_
        refine r_bv h (fun v7 h => ?_)
        refine r_dup2 hV dX2_addTimes_42 rfl rfl ?_
        obtain ⟨g8, h⟩ := grd_some h
        refine r_ald hV ar_97 (inb_in g8) ((v7).toNatClampNeg) rfl dX2_addTimes_43 ?_
        refine r_iload_n hV dX2_addTimes_44 rfl ?_
        refine r_aload_n hV dX2_addTimes_45 rfl ?_
        refine r_iload_n hV dX2_addTimes_46 rfl ?_
        refine r_iload hV dX2_addTimes_47 rfl ?_
        refine r_iload_n hV dX2_addTimes_49 rfl ?_
        refine r_iload hV dX2_addTimes_50 rfl ?_
        obtain ⟨r9, M10, q11, h⟩ := bnd_some h
        refine r_cVi hV (m_X2_gainOfOneMore l D cI cM b x2 x5 x3 x4 FM _ _ q11) ml_X2_96 ob_94 rfl rfl (by decide) (Nat.le_of_ble_eq_true rfl) rfl dX2_addTimes_52 ?_
        refine r_imul hV dX2_addTimes_55 ?_
        refine r_iadd hV dX2_addTimes_56 ?_
        obtain ⟨g12, h⟩ := grd_some h
        refine r_ast hV ar_97 (inb_in g12) ((v7).toNatClampNeg) rfl dX2_addTimes_57 ?_
        refine r_bm h (fun M13 h => ?_)
        refine r_iinc (v := (1 : Int32)) hV dX2_addTimes_58 rfl rfl rfl ?_
        refine r_goto hV 12 dX2_addTimes_61 rfl ?_
        exact hk12 x1 x2 x3 x4 (x5 + (1 : Int32)) M13 h
  have L12 : ∀ (nf : Nat) (x1 : Int32) (x2 : Int32) (x3 : Int32) (x4 : Int32) (x5 : Int32) (FM : FMem), X2_addTimes_b12 nf x1 x2 x3 x4 x5 FM = some (r0, FR) → V FM 12 [some (.ref (b + 94)), some (.int x1), some (.int x2), some (.int x3), some (.int x4), some (.int x5)] [] := by
    intro  nf
    induction nf with
    | zero => intro x1 x2 x3 x4 x5 FM h; exact absurd (show (none : Opt) = some (r0, FR) from h) (fun h9 => by cases h9)
    | succ nf ih => intro x1 x2 x3 x4 x5 FM h; exact B12 (X2_addTimes_b12 nf) ih x1 x2 x3 x4 x5 FM h
  unfold f_X2_addTimes at h
  refine r_aload_n hV dX2_addTimes_0 rfl ?_
  refine r_iload_n hV dX2_addTimes_1 rfl ?_
  obtain ⟨r1, M2, q3, h⟩ := bnd_some h
  refine r_cVi hV (m_X2_isLookedAt l D cI cM b a2 FM _ _ q3) ml_X2_56 ob_94 rfl rfl (by decide) (Nat.le_of_ble_eq_true rfl) rfl dX2_addTimes_2 ?_
  refine r_ifne hV 9 dX2_addTimes_5 rfl (fun c4 => ?_) (fun c4 => ?_)
  · have h := (if_neg c4).symm.trans h
    refine r_iconst (v := (0 : Int32)) hV dX2_addTimes_9 rfl ?_
    refine r_istore hV dX2_addTimes_10 (Nat.le_of_ble_eq_true rfl) rfl ?_
    exact L12 FU a1 a2 a3 a4 (0 : Int32) M2 h
  · have h := (if_pos c4).symm.trans h
    exact r_vret hV rfl dX2_addTimes_8 rfl (ret_m h)
def f_X2_add (a1 a2 a3 : Int32) (FM : FMem) : Opt :=
  bnd (f_X2_addTimes (1 : Int32) a1 a2 a3 FM) fun r1 M2 =>
  some (0, M2)
set_option maxHeartbeats 4000000 in
set_option maxRecDepth 100000 in
theorem m_X2_add (l : Launch) (D : va_G) (cI cM : ClassId) (b : Nat) (a1 a2 a3 : Int32) (FM : FMem) (r0 : Int32) (FR : FMem) (h : f_X2_add a1 a2 a3 FM = some (r0, FR)) : Mt l (wdC D cI cM b) yX2_add cX2_add 4 none 4 95 [.ref (b + 94), .int a1, .int a2, .int a3] FM none FR := by
  refine Mt.of (by decide) (cat_cons rfl (cat_cons rfl (cat_cons rfl (cat_cons rfl cat_nil)))) [some (.ref (b + 94)), some (.int a1), some (.int a2), some (.int a3)] rfl (Nat.le_of_ble_eq_true rfl) (fun V hV => ?_)
  unfold f_X2_add at h
  refine r_aload_n hV dX2_add_0 rfl ?_
  refine r_iconst (v := (1 : Int32)) hV dX2_add_1 rfl ?_
  refine r_iload_n hV dX2_add_2 rfl ?_
  refine r_iload_n hV dX2_add_3 rfl ?_
  refine r_iload_n hV dX2_add_4 rfl ?_
  obtain ⟨r1, M2, q3, h⟩ := bnd_some h
  refine r_cVv hV (m_X2_addTimes l D cI cM b (1 : Int32) a1 a2 a3 FM _ _ q3) ml_X2_92 ob_94 rfl rfl (by decide) (Nat.le_of_ble_eq_true rfl) rfl dX2_add_5 ?_
  exact r_vret hV rfl dX2_add_8 rfl (ret_m h)
def f_X2_takeAway (a1 a2 a3 : Int32) (FM : FMem) : Opt :=
  bnd (f_X2_addTimes (-1 : Int32) a1 a2 a3 FM) fun r1 M2 =>
  some (0, M2)
set_option maxHeartbeats 4000000 in
set_option maxRecDepth 100000 in
theorem m_X2_takeAway (l : Launch) (D : va_G) (cI cM : ClassId) (b : Nat) (a1 a2 a3 : Int32) (FM : FMem) (r0 : Int32) (FR : FMem) (h : f_X2_takeAway a1 a2 a3 FM = some (r0, FR)) : Mt l (wdC D cI cM b) yX2_takeAway cX2_takeAway 4 none 4 95 [.ref (b + 94), .int a1, .int a2, .int a3] FM none FR := by
  refine Mt.of (by decide) (cat_cons rfl (cat_cons rfl (cat_cons rfl (cat_cons rfl cat_nil)))) [some (.ref (b + 94)), some (.int a1), some (.int a2), some (.int a3)] rfl (Nat.le_of_ble_eq_true rfl) (fun V hV => ?_)
  unfold f_X2_takeAway at h
  refine r_aload_n hV dX2_takeAway_0 rfl ?_
  refine r_iconst (v := (-1 : Int32)) hV dX2_takeAway_1 rfl ?_
  refine r_iload_n hV dX2_takeAway_2 rfl ?_
  refine r_iload_n hV dX2_takeAway_3 rfl ?_
  refine r_iload_n hV dX2_takeAway_4 rfl ?_
  obtain ⟨r1, M2, q3, h⟩ := bnd_some h
  refine r_cVv hV (m_X2_addTimes l D cI cM b (-1 : Int32) a1 a2 a3 FM _ _ q3) ml_X2_92 ob_94 rfl rfl (by decide) (Nat.le_of_ble_eq_true rfl) rfl dX2_takeAway_5 ?_
  exact r_vret hV rfl dX2_takeAway_8 rfl (ret_m h)
def X2_shownAtAll_b4s (k4 : Int32 → Int32 → FMem → Opt) (x1 : Int32) (x2 : Int32) (FM : FMem) : Opt :=
  if (FM 94 3) ≤ x2 then (
    some (x1, FM)
  ) else (
    if (61 : Int32) ≤ x2 then (
      some (x1, FM)
    ) else (
      grd (inb x2 61) <|
      bindv (x1 ||| (FM 95 ((x2).toNatClampNeg))) fun v4 =>
      k4 v4 (x2 + (1 : Int32)) FM
    )
  )
def X2_shownAtAll_b4 : Nat → Int32 → Int32 → FMem → Opt
  | 0, _, _, _ => none
  | nf + 1, x1, x2, FM => X2_shownAtAll_b4s (X2_shownAtAll_b4 nf) x1 x2 FM
def f_X2_shownAtAll (FM : FMem) : Opt :=
  X2_shownAtAll_b4 FU (0 : Int32) (0 : Int32) FM
set_option maxHeartbeats 4000000 in
set_option maxRecDepth 100000 in
theorem m_X2_shownAtAll (l : Launch) (D : va_G) (cI cM : ClassId) (b : Nat) (FM : FMem) (r0 : Int32) (FR : FMem) (h : f_X2_shownAtAll FM = some (r0, FR)) : Mt l (wdC D cI cM b) yX2_shownAtAll cX2_shownAtAll 3 (some .int) 0 0 [.ref (b + 94)] FM (some (.int r0)) FR := by
  refine Mt.of (by decide) (cat_cons rfl cat_nil) [some (.ref (b + 94)), none, none] rfl (Nat.le_of_ble_eq_true rfl) (fun V hV => ?_)
  have B4 : ∀ (k4 : Int32 → Int32 → FMem → Opt) (hk4 : ∀ (x1 : Int32) (x2 : Int32) (FM : FMem), k4 x1 x2 FM = some (r0, FR) → V FM 4 [some (.ref (b + 94)), some (.int x1), some (.int x2)] []) (x1 : Int32) (x2 : Int32) (FM : FMem), X2_shownAtAll_b4s k4 x1 x2 FM = some (r0, FR) → V FM 4 [some (.ref (b + 94)), some (.int x1), some (.int x2)] [] := by
    intro k4 hk4 x1 x2 FM h
    unfold X2_shownAtAll_b4s at h
    refine r_iload_n hV dX2_shownAtAll_4 rfl ?_
    refine r_aload_n hV dX2_shownAtAll_5 rfl ?_
    refine r_geto hV fl_X2_39 ob_94 rfl dX2_shownAtAll_6 ?_
    refine r_icmpge hV 33 dX2_shownAtAll_9 rfl (fun c1 => ?_) (fun c1 => ?_)
    · have h := (if_pos c1).symm.trans h
      refine r_iload_n hV dX2_shownAtAll_33 rfl ?_
      exact r_iret hV rfl dX2_shownAtAll_34 (ret_r h) (ret_m h)
    · have h := (if_neg c1).symm.trans h
      refine r_iload_n hV dX2_shownAtAll_12 rfl ?_
      refine r_bipush (v := (61 : Int32)) hV dX2_shownAtAll_13 rfl ?_
      refine r_icmpge hV 33 dX2_shownAtAll_15 rfl (fun c2 => ?_) (fun c2 => ?_)
      · have h := (if_pos c2).symm.trans h
        refine r_iload_n hV dX2_shownAtAll_33 rfl ?_
        exact r_iret hV rfl dX2_shownAtAll_34 (ret_r h) (ret_m h)
      · have h := (if_neg c2).symm.trans h
        refine r_iload_n hV dX2_shownAtAll_18 rfl ?_
        refine r_aload_n hV dX2_shownAtAll_19 rfl ?_
        refine r_geto hV fl_X2_9 ob_94 rfl dX2_shownAtAll_20 ?_
        refine r_iload_n hV dX2_shownAtAll_23 rfl ?_
        obtain ⟨g3, h⟩ := grd_some h
        refine r_ald hV ar_95 (inb_in g3) ((x2).toNatClampNeg) rfl dX2_shownAtAll_24 ?_
        refine r_ior hV dX2_shownAtAll_25 ?_
        refine r_bv h (fun v4 h => ?_)
        refine r_istore_n hV dX2_shownAtAll_26 (Nat.le_of_ble_eq_true rfl) rfl ?_
        refine r_iinc (v := (1 : Int32)) hV dX2_shownAtAll_27 rfl rfl rfl ?_
        refine r_goto hV 4 dX2_shownAtAll_30 rfl ?_
        exact hk4 v4 (x2 + (1 : Int32)) FM h
  have L4 : ∀ (nf : Nat) (x1 : Int32) (x2 : Int32) (FM : FMem), X2_shownAtAll_b4 nf x1 x2 FM = some (r0, FR) → V FM 4 [some (.ref (b + 94)), some (.int x1), some (.int x2)] [] := by
    intro  nf
    induction nf with
    | zero => intro x1 x2 FM h; exact absurd (show (none : Opt) = some (r0, FR) from h) (fun h9 => by cases h9)
    | succ nf ih => intro x1 x2 FM h; exact B4 (X2_shownAtAll_b4 nf) ih x1 x2 FM h
  unfold f_X2_shownAtAll at h
  refine r_iconst (v := (0 : Int32)) hV dX2_shownAtAll_0 rfl ?_
  refine r_istore_n hV dX2_shownAtAll_1 (Nat.le_of_ble_eq_true rfl) rfl ?_
  refine r_iconst (v := (0 : Int32)) hV dX2_shownAtAll_2 rfl ?_
  refine r_istore_n hV dX2_shownAtAll_3 (Nat.le_of_ble_eq_true rfl) rfl ?_
  exact L4 FU (0 : Int32) (0 : Int32) FM h
