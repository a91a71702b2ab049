theorem cTakeT (t : Nat) {C : FMem} {n a b c : Nat} (hn : n ≤ 9) (h : C (t + 4) 3 = nI n) (ha : a ≤ 99) (hb : b ≤ 99) (hc : c ≤ 99) : f_X0_takesThing t (nI a) (nI b) (nI c) C = if a ≤ 60 then (if 1 ≤ b ∧ b ≤ 31 then (if 1 ≤ c ∧ c ≤ 9 then (if n < 9 then some (1, fset (fset (fset (fset C (t + 4 + 1) n (nI a)) (t + 4 + 2) n (nI b)) (t + 4 + 3) n (nI c)) (t + 4) 3 (nI (n + 1))) else some (0, C)) else some (0, C)) else some (0, C)) else some (0, C) := by
  unfold f_X0_takesThing f_X8_isTopics f_X8_isStrength
  by_cases h1 : a ≤ 60
  · rw [if_pos h1, if_neg (show ¬ 60 < nI a by rw [c_gt (by omega) (by omega)]; omega)]
    by_cases h2 : 1 ≤ b ∧ b ≤ 31
    · rw [if_pos h2, if_neg (show ¬ nI b < 1 by rw [c_lt (by omega) (by omega)]; omega), if_neg (show ¬ 31 < nI b by rw [c_gt (by omega) (by omega)]; omega), bnd_ok, if_neg n10]
      by_cases h3 : 1 ≤ c ∧ c ≤ 9
      · rw [if_pos h3, if_neg (show ¬ nI c < 1 by rw [c_lt (by omega) (by omega)]; omega), if_neg (show ¬ 9 < nI c by rw [c_gt (by omega) (by omega)]; omega), bnd_ok, if_neg n10]
        by_cases h4 : n < 9
        · rw [if_pos h4, X7_add_ok (t + 4) _ _ _ C h4 h, bnd_ok, if_neg n10]
        · have : f_X7_add (t + 4) (nI a) (nI b) (nI c) C = some (0, C) := by
            unfold f_X7_add
            rw [h, if_neg (by rw [c_lt (by omega) (by omega)]; exact h4)]
          rw [if_neg h4, this, bnd_ok, if_pos rfl]
      · rw [if_neg h3]
        by_cases h4 : c < 1
        · rw [if_pos (show nI c < 1 by rw [c_lt (by omega) (by omega)]; exact h4), bnd_ok, if_pos rfl]
        · rw [if_neg (show ¬ nI c < 1 by rw [c_lt (by omega) (by omega)]; exact h4), if_pos (show 9 < nI c by rw [c_gt (by omega) (by omega)]; omega), bnd_ok, if_pos rfl]
    · rw [if_neg h2]
      by_cases h4 : b < 1
      · rw [if_pos (show nI b < 1 by rw [c_lt (by omega) (by omega)]; exact h4), bnd_ok, if_pos rfl]
      · rw [if_neg (show ¬ nI b < 1 by rw [c_lt (by omega) (by omega)]; exact h4), if_pos (show 31 < nI b by rw [c_gt (by omega) (by omega)]; omega), bnd_ok, if_pos rfl]
  · rw [if_neg h1, if_pos (show 60 < nI a by rw [c_gt (by omega) (by omega)]; omega)]
theorem nI_9 {P : Nat} (h : P ≤ 9) : nI P = 9 ↔ P = 9 := c_eq (by omega) (by decide)
theorem itemT (t : Nat) (ht : 3 ≤ t) {tx : Nat → Int32} {nt q : Nat} {C M : FMem} (hq : q < 300) (hc : TXc C tx nt) (hm : TXm M tx nt) (h13 : M 0 13 = nI (q + 1)) (hds : DS t C M) (k : Int32 → FMem → Opt) : IT t C M q nt (clsE t 116 q 3 k C) k (f_X9_readThingOf M) := by
  obtain ⟨C1, e1, a1, b1⟩ := cRN t ht (c := 3) (q := q + 1) (by decide) (by decide) (by omega) hc
  obtain ⟨M1, e2, a2, b2, c2⟩ := mRN (c := 3) (q := q + 1) (by decide) (by omega) hm h13
  have e1' : f_X0_readNumbers t (nI (q + 1)) 3 C = _ := e1
  have e2' : f_X9_readNumbers 3 M = _ := e2
  obtain ⟨P, n, hP, hn, d1, d2, d3, d4, d5, d6, d7, d8, d9⟩ := hds
  unfold IT clsE f_X9_readThingOf
  rw [e1', bnd_ok, e2', bnd_ok, d7]
  cases hpn : pn tx nt 3 (q + 1) with
  | none =>
    rw [if_pos (show pnv none < 0 by decide)]
    by_cases h6 : n = 9
    · rw [if_pos ((nI_9 hn).mpr h6)]
      exact ⟨C1, M, FrC.nums a1, ⟨fun _ _ _ _ _ => rfl, fun _ _ _ _ => rfl⟩, Or.inl ⟨rfl, rfl⟩⟩
    · rw [if_neg (fun hh => h6 ((nI_9 hn).mp hh)), if_pos (show b2i (none : Option (Nat × List Nat)).isSome = 0 by decide)]
      exact ⟨C1, M1, FrC.nums a1, FrM.nums a2 b2, Or.inl ⟨rfl, rfl⟩⟩
  | some r =>
    obtain ⟨p1, p2, p3⟩ := pn_ok tx nt 3 (q + 1) r hpn
    have hr1 := p2 (by decide)
    have hnt := hc.1
    have v := b1 r hpn
    obtain ⟨w13, w⟩ := c2 r hpn
    have e116 : ∀ X : FMem, f_X0_takes t 116 X = bnd (f_X0_takesThing t (X (t + 8) 0) (X (t + 8) 1) (X (t + 8) 2) X) fun r7 M8 => grd (isB r7) <| some (r7, M8) := fun X => by
      unfold f_X0_takes
      rw [if_neg (by decide), if_neg (by decide), if_pos rfl]
    rw [if_neg (show ¬ pnv (some r) < 0 from nI_pos (by omega)), e116, v 0 (by decide), v 1 (by decide), v 2 (by decide)]
    generalize ha : r.2.getD 0 0 = a at *
    generalize hb : r.2.getD 1 0 = b at *
    generalize hcc : r.2.getD 2 0 = c at *
    have la : a ≤ 99 := by rw [← ha]; exact p3 0 (by decide)
    have lb : b ≤ 99 := by rw [← hb]; exact p3 1 (by decide)
    have lc : c ≤ 99 := by rw [← hcc]; exact p3 2 (by decide)
    have w0 : M1 8 0 = nI a := by rw [w 0 (by decide), ha]
    have w1 : M1 8 1 = nI b := by rw [w 1 (by decide), hb]
    have w2 : M1 8 2 = nI c := by rw [w 2 (by decide), hcc]
    have d6' : C1 (t + 4) 3 = nI n := by rw [a1 _ (by omega)]; exact d6
    rw [cTakeT t hn d6' la lb lc]
    by_cases h6 : n = 9
    · rw [if_pos ((nI_9 hn).mpr h6), if_neg (show ¬ n < 9 by omega)]
      have : (if a ≤ 60 then (if 1 ≤ b ∧ b ≤ 31 then (if 1 ≤ c ∧ c ≤ 9 then (some (0, C1) : Opt) else some (0, C1)) else some (0, C1)) else some (0, C1)) = some (0, C1) := by
        split
        · split
          · split <;> rfl
          · rfl
        · rfl
      rw [this, bnd_ok, grd_ok (by decide), bnd_ok, if_pos rfl]
      exact ⟨C1, M, FrC.nums a1, ⟨fun _ _ _ _ _ => rfl, fun _ _ _ _ => rfl⟩, Or.inl ⟨rfl, rfl⟩⟩
    · have t0 : f_X9_isTold 0 0 60 M1 = _ := told_ok (i := 0) (by decide) la w0 0 60 (by decide) (by decide)
      have t1 : f_X9_isTold 1 1 31 M1 = _ := told_ok (i := 1) (by decide) lb w1 1 31 (by decide) (by decide)
      have t2 : f_X9_isTold 2 1 9 M1 = _ := told_ok (i := 2) (by decide) lc w2 1 9 (by decide) (by decide)
      rw [if_neg (fun hh => h6 ((nI_9 hn).mp hh)), if_neg (show ¬ b2i (some r).isSome = 0 by show ¬ b2i true = 0; decide), t0, bnd_ok, if_pos (show n < 9 by omega)]
      have hfail : ∃ C' M', FrC t C C' ∧ FrM M M' ∧ (((some (nI q, C1) : Opt) = some (nI q, C') ∧ (some (0, M1) : Opt) = some (0, M')) ∨ ∃ q', (some (nI q, C1) : Opt) = k (nI q') C' ∧ (some (0, M1) : Opt) = some (1, M') ∧ M' 0 13 = nI q' ∧ DS t C' M' ∧ q + 2 ≤ q' ∧ q' ≤ nt) := ⟨C1, M1, FrC.nums a1, FrM.nums a2 b2, Or.inl ⟨rfl, rfl⟩⟩
      by_cases g1 : a ≤ 60
      · rw [if_pos g1, decide_eq_true (show 0 ≤ a ∧ a ≤ 60 by omega), if_neg (show ¬ b2i true = 0 by decide), t1, bnd_ok]
        by_cases g2 : 1 ≤ b ∧ b ≤ 31
        · rw [if_pos g2, decide_eq_true g2, if_neg (show ¬ b2i true = 0 by decide), t2, bnd_ok]
          by_cases g3 : 1 ≤ c ∧ c ≤ 9
          · rw [if_pos g3, decide_eq_true g3, if_neg (show ¬ b2i true = 0 by decide), w0, w1, w2]
            obtain ⟨M2, e3, a3, c3, x3, y3, z3, o3⟩ := adds_ok 10 (nI a) (nI b) (nI c) M1 (n := n) hn (by rw [a2 10 (by decide) (by decide)]; exact d7)
            rw [e3, bnd_ok, bnd_ok, grd_ok (by decide), bnd_ok, if_neg n10]
            generalize hC2 : fset (fset (fset (fset C1 (t + 4 + 1) n (nI a)) (t + 4 + 2) n (nI b)) (t + 4 + 3) n (nI c)) (t + 4) 3 (nI (n + 1)) = C2
            have k3 : C2 (t + 4) 3 = nI (n + 1) := by rw [← hC2, fset_at]
            have k5 : C2 (t + 5) = upd (C (t + 5)) n (nI a) := by rw [← hC2, fset_ne _ _ _ (by omega), fset_ne _ _ _ (by omega), fset_ne _ _ _ (by omega), fset_same, a1 _ (by omega)]
            have k6 : C2 (t + 6) = upd (C (t + 6)) n (nI b) := by rw [← hC2, fset_ne _ _ _ (by omega), fset_ne _ _ _ (by omega), fset_same, fset_ne _ _ _ (by omega), a1 _ (by omega)]
            have k7 : C2 (t + 7) = upd (C (t + 7)) n (nI c) := by rw [← hC2, fset_ne _ _ _ (by omega), fset_same, fset_ne _ _ _ (by omega), fset_ne _ _ _ (by omega), a1 _ (by omega)]
            have kj : ∀ j, j ≠ t + 4 → j ≠ t + 5 → j ≠ t + 6 → j ≠ t + 7 → j ≠ t + 8 → C2 j = C j := fun j j0 j1 j2 j3 j8 => by rw [← hC2, fset_ne _ _ _ j0, fset_ne _ _ _ (show j ≠ t + 4 + 3 by omega), fset_ne _ _ _ (show j ≠ t + 4 + 2 by omega), fset_ne _ _ _ (show j ≠ t + 4 + 1 by omega), a1 j j8]
            have m10 : ∀ j, j ≠ 10 → M2 j = M1 j := a3
            refine ⟨C2, M2, fun j hj => kj j (by omega) (by omega) (by omega) (by omega) (by omega), ⟨fun j j1 j2 j3 j4 => by rw [a3 j j4, a2 j j1 j2], fun s s1 s2 s3 => by rw [a3 0 (by decide), b2 s s1]⟩, Or.inr ⟨r.1, rfl, rfl, by rw [a3 0 (by decide)]; exact w13, ?_, by omega, hr1⟩⟩
            refine ⟨P, n + 1, hP, by omega, by rw [kj t (by omega) (by omega) (by omega) (by omega) (by omega)]; exact d1, by rw [a3 0 (by decide), b2 15 (by decide)]; exact d2, by rw [kj t (by omega) (by omega) (by omega) (by omega) (by omega)]; exact d3, by rw [a3 0 (by decide), b2 17 (by decide), kj t (by omega) (by omega) (by omega) (by omega) (by omega)]; exact d4, ?_, k3, c3, fun j j1 j2 => by rw [o3 j j2 (by omega), a2 10 (by decide) (by decide)]; exact d8 j j1 j2, fun i hi => ?_⟩
            · rw [kj (t + 1) (by omega) (by omega) (by omega) (by omega) (by omega), kj (t + 2) (by omega) (by omega) (by omega) (by omega) (by omega), kj (t + 3) (by omega) (by omega) (by omega) (by omega) (by omega), a3 9 (by decide), a2 9 (by decide) (by decide)]
              exact d5
            · rw [k5, k6, k7]
              by_cases hiP : i = n
              · subst hiP
                rw [upd_same, upd_same, upd_same]
                exact ⟨x3, y3, z3⟩
              · rw [upd_ne _ _ hiP, upd_ne _ _ hiP, upd_ne _ _ hiP, o3 _ (by omega) (by omega), o3 _ (by omega) (by omega), o3 _ (by omega) (by omega), a2 10 (by decide) (by decide)]
                exact d9 i (by omega)
          · rw [if_neg g3, decide_eq_false g3, if_pos (show b2i false = 0 by decide)]
            exact hfail
        · rw [if_neg g2, decide_eq_false g2, if_pos (show b2i false = 0 by decide)]
          exact hfail
      · rw [if_neg g1, decide_eq_false (show ¬ (0 ≤ a ∧ a ≤ 60) by omega), if_pos (show b2i false = 0 by decide)]
        exact hfail
theorem FrC.tr {t : Nat} {C C1 C2 : FMem} (h1 : FrC t C C1) (h2 : FrC t C1 C2) : FrC t C C2 := fun j hj => by rw [h2 j hj, h1 j hj]
theorem FrM.tr {M M1 M2 : FMem} (h1 : FrM M M1) (h2 : FrM M1 M2) : FrM M M2 := ⟨fun j a b c d => by rw [h2.1 j a b c d, h1.1 j a b c d], fun k a b c => by rw [h2.2 k a b c, h1.2 k a b c]⟩
theorem readLoop (t : Nat) (ht : 3 ≤ t) {tx : Nat → Int32} {nt : Nat} : ∀ (m q f f2 x3 : Nat) (C M : FMem), nt ≤ q + m → q ≤ nt → m < f → m < f2 → x3 ≤ q → TXc C tx nt → TXm M tx nt → M 0 13 = nI q → DS t C M →
    ∃ v C' M', X0_read_b21 t f (nI q) (nI x3) C = some (v, C') ∧ X9_fault_b9 f2 M = some (v, M') ∧ FrC t C C' ∧ FrM M M' ∧ (v = -4 → DS t C' M') := by
  intro m
  induction m with
  | zero =>
    intro q f f2 x3 C M hm hq hf hf2 hx hc hmx h13 hds
    obtain ⟨g, rfl, -⟩ := fu_s hf
    obtain ⟨g2, rfl, -⟩ := fu_s hf2
    have hnt := hc.1
    refine ⟨-4, C, M, ?_, ?_, fun _ _ => rfl, ⟨fun _ _ _ _ _ => rfl, fun _ _ _ _ => rfl⟩, fun _ => hds⟩
    · show X0_read_b21s t (X0_read_b21 t g) _ _ C = _
      unfold X0_read_b21s
      rw [hc.2.1]
      by_cases h2 : 200 ≤ nI x3
      · rw [if_pos h2]
      · rw [if_neg h2, if_pos (by rw [nI_leI (by omega) (by omega)]; omega)]
    · show X9_fault_b9s (X9_fault_b9 g2) M = _
      unfold X9_fault_b9s
      rw [hmx.2.1, h13, if_pos (by rw [nI_leI (by omega) (by omega)]; omega)]
  | succ m ih =>
    intro q f f2 x3 C M hm hq hf hf2 hx hc hmx h13 hds
    by_cases hend : nt ≤ q
    · exact ih q f f2 x3 C M (by omega) hq (by omega) (by omega) hx hc hmx h13 hds
    · obtain ⟨g, rfl, hg⟩ := fu_s hf
      obtain ⟨g2, rfl, hg2⟩ := fu_s hf2
      have hnt := hc.1
      generalize hL : LT tx nt q = L
      -- the reference behind the letter
      have h0 : ∀ k, k ≠ 13 → fset M 0 13 (nI (q + 1)) 0 k = M 0 k := fun k hk => fset_slot _ _ _ _ hk
      have hj : ∀ j, j ≠ 0 → fset M 0 13 (nI (q + 1)) j = M j := fun j hj => fset_ne _ _ _ hj
      have hmx1 : TXm (fset M 0 13 (nI (q + 1))) tx nt := hmx.mv (h0 12 (by decide)) (hj 7 (by decide))
      have hds1 : DS t C (fset M 0 13 (nI (q + 1))) := hds.mv (fun _ _ _ => rfl) (h0 15 (by decide)) (h0 17 (by decide)) (hj 9 (by decide)) (hj 10 (by decide))
      have hf1 : FrM M (fset M 0 13 (nI (q + 1))) := ⟨fun j j1 _ _ _ => hj j j1, fun k k1 _ _ => h0 k k1⟩
      have eC : X0_read_b21 t (g + 1) (nI q) (nI x3) C = bnd (f_X0_numbersOf L C) fun r11 M12 => clsE t L q r11 (fun r M' => X0_read_b21 t g r (nI (x3 + 1)) M') M12 := by
        show X0_read_b21s t (X0_read_b21 t g) _ _ C = _
        unfold X0_read_b21s
        rw [hc.2.1, if_neg (by rw [c_le (by omega) (by omega)]; omega), if_neg (by rw [nI_leI (by omega) (by omega)]; omega), cLetter hc (by omega), bnd_ok, hL, nI_1, nI_1]
        rfl
      have eM : X9_fault_b9 (g2 + 1) M = bnd (f_X9_readItem M) fun r7 M8 => if r7 = 0 then (some (nI q, M8)) else (X9_fault_b9 g2 M8) := by
        show X9_fault_b9s (X9_fault_b9 g2) M = _
        unfold X9_fault_b9s
        rw [hmx.2.1, h13, if_neg (by rw [nI_leI (by omega) (by omega)]; omega), bindv_ok]
      have eI : f_X9_readItem M = if L = 102 then (bnd (f_X9_readFadesOf (fset M 0 13 (nI (q + 1)))) fun r6 M7 => grd (isB r6) <| some (r6, M7)) else if L = 112 then (bnd (f_X9_readPersonOf (fset M 0 13 (nI (q + 1)))) fun r11 M12 => grd (isB r11) <| some (r11, M12)) else if L = 116 then (bnd (f_X9_readThingOf (fset M 0 13 (nI (q + 1)))) fun r16 M17 => grd (isB r16) <| some (r16, M17)) else some (0, fset M 0 13 (nI (q + 1))) := by
        unfold f_X9_readItem
        rw [h13, mLetter hmx (by omega), bnd_ok, bindm_ok, h13, nI_1, hL]
      have fin : ∀ (c : Int32) (rf : Opt), IT t C (fset M 0 13 (nI (q + 1))) q nt (clsE t L q c (fun r M' => X0_read_b21 t g r (nI (x3 + 1)) M') C) (fun r M' => X0_read_b21 t g r (nI (x3 + 1)) M') rf →
          ∃ v C' M', clsE t L q c (fun r M' => X0_read_b21 t g r (nI (x3 + 1)) M') C = some (v, C') ∧ (bnd (bnd rf fun r6 M7 => grd (isB r6) <| some (r6, M7)) fun r7 M8 => if r7 = 0 then (some (nI q, M8)) else (X9_fault_b9 g2 M8)) = some (v, M') ∧ FrC t C C' ∧ FrM M M' ∧ (v = -4 → DS t C' M') := by
        rintro c rf ⟨C', M', f1, f2', ⟨e1, e2⟩ | ⟨q', e1, e2, e3, e4, e5, e6⟩⟩
        · rw [e1, e2, bnd_ok, grd_ok (by decide), bnd_ok, if_pos rfl]
          refine ⟨nI q, C', M', rfl, rfl, f1, hf1.tr f2', fun hv => ?_⟩
          exfalso
          have : nI q < 0 := by rw [hv]; decide
          exact nI_pos (by omega) this
        · rw [e1, e2, bnd_ok, grd_ok (by decide), bnd_ok, if_neg n10]
          obtain ⟨v, C2, M2, i1, i2, i3, i4, i5⟩ := ih q' g g2 (x3 + 1) C' M' (by omega) (by omega) (by omega) (by omega) (by omega) (hc.mv (f1 1 (by omega)) (f1 2 (by omega))) (hmx1.mv (f2'.2 12 (by decide) (by decide) (by decide)) (f2'.1 7 (by decide) (by decide) (by decide) (by decide))) e3 e4
          exact ⟨v, C2, M2, i1, i2, f1.tr i3, (hf1.tr f2').tr i4, i5⟩
      rw [eC, eM, eI]
      by_cases l1 : L = 102
      · subst l1
        have : f_X0_numbersOf 102 C = some (1, C) := rfl
        rw [this, bnd_ok, if_pos rfl]
        exact fin 1 _ (itemF t ht (by omega) hc hmx1 (fset_at _ _ _ _) hds1 _)
      · rw [if_neg l1]
        by_cases l2 : L = 112
        · subst l2
          have : f_X0_numbersOf 112 C = some (3, C) := rfl
          rw [this, bnd_ok, if_pos rfl]
          exact fin 3 _ (itemP t ht (by omega) hc hmx1 (fset_at _ _ _ _) hds1 _)
        · rw [if_neg l2]
          by_cases l3 : L = 116
          · subst l3
            have : f_X0_numbersOf 116 C = some (3, C) := rfl
            rw [this, bnd_ok, if_pos rfl]
            exact fin 3 _ (itemT t ht (by omega) hc hmx1 (fset_at _ _ _ _) hds1 _)
          · have : f_X0_numbersOf L C = some (0, C) := by
              unfold f_X0_numbersOf
              rw [if_neg l2, if_neg l3, if_neg l1]
            rw [if_neg l3, this, bnd_ok, bnd_ok, if_pos rfl]
            refine ⟨nI q, C, _, ?_, rfl, fun _ _ => rfl, hf1, fun hv => ?_⟩
            · unfold clsE f_X0_readNumbers X0_readNumbers_b9
              rw [if_pos (by decide)]
              have : X0_readNumbers_b14 t FU 0 (-1) 0 C = some (-1, C) := by
                obtain ⟨g', hg'⟩ : ∃ g', FU = g' + 1 := ⟨99999, rfl⟩
                rw [hg']
                show X0_readNumbers_b14s t (X0_readNumbers_b14 t g') _ _ _ C = _
                unfold X0_readNumbers_b14s
                rw [if_pos (by decide)]
              rw [this, bnd_ok, if_pos (by decide)]
            · exfalso
              have : nI q < 0 := by rw [hv]; decide
              exact nI_pos (by omega) this
theorem clear_loop (M : FMem) : ∀ (m k f : Nat) (Mk : FMem), k + m = 46 → m < f → (∀ j, j ≠ 10 → Mk j = M j) → (∀ q, q < k → Mk 10 q = 0) → ∃ M', X9_clearTold_b12 f (nI k) Mk = some (0, M') ∧ (∀ j, j ≠ 10 → M' j = M j) ∧ ∀ q, q < 46 → M' 10 q = 0 := by
  intro m
  induction m with
  | zero =>
    intro k f Mk hk hf h1 h2
    obtain ⟨g, rfl, -⟩ := fu_s hf
    have hk : k = 46 := by omega
    subst hk
    refine ⟨Mk, ?_, h1, h2⟩
    show X9_clearTold_b12s (X9_clearTold_b12 g) _ Mk = _
    unfold X9_clearTold_b12s
    rw [if_pos (by decide)]
  | succ m ih =>
    intro k f Mk hk hf h1 h2
    obtain ⟨g, rfl, hg⟩ := fu_s hf
    show ∃ M', X9_clearTold_b12s (X9_clearTold_b12 g) _ Mk = _ ∧ _
    unfold X9_clearTold_b12s
    rw [if_neg (by rw [c_le (by omega) (by omega)]; omega), grd_ok (inb_t (by omega) (by omega)), nI_clamp (by omega), bindm_ok, nI_1]
    refine ih (k + 1) g _ (by omega) (by omega) (fun j hj => by rw [fset_ne _ _ _ hj, h1 j hj]) (fun q hq => ?_)
    by_cases hqk : q = k
    · subst hqk
      rw [fset_at]
    · rw [fset_slot _ _ _ _ hqk]
      exact h2 q (by omega)
theorem read_ok (t : Nat) (ht : 3 ≤ t) {tx : Nat → Int32} {nt : Nat} {C M : FMem} (hc : TXc C tx nt) (hm : TXm M tx nt) : ∃ v C' M', f_X0_read t C = some (v, C') ∧ f_X9_fault M = some (v, M') ∧ FrC t C C' ∧ FrM M M' ∧ (v = -4 → DS t C' M') := by
  have hnt := hc.1
  unfold f_X0_read f_X7_clear f_X9_fault f_X9_clearTold
  rw [bindm_ok, bindm_ok, bnd_ok, bindm_ok, bindm_ok, bindm_ok, bindm_ok]
  obtain ⟨M1, e1, a1, b1⟩ := clear_loop (fset (fset (fset M 0 13 0) 0 15 0) 0 17 2) 46 0 FU _ (by omega) (FU_gt (by decide)) (fun _ _ => rfl) (fun _ h => by omega)
  have e1' : X9_clearTold_b12 FU 0 (fset (fset (fset M 0 13 0) 0 15 0) 0 17 2) = some (0, M1) := e1
  rw [e1', bnd_ok]
  have m0 : ∀ k, k ≠ 13 → k ≠ 15 → k ≠ 17 → M1 0 k = M 0 k := fun k k1 k2 k3 => by rw [a1 0 (by decide), fset_slot _ _ _ _ k3, fset_slot _ _ _ _ k2, fset_slot _ _ _ _ k1]
  have mj : ∀ j, j ≠ 0 → j ≠ 10 → M1 j = M j := fun j j1 j2 => by rw [a1 j j2, fset_ne _ _ _ j1, fset_ne _ _ _ j1, fset_ne _ _ _ j1]
  have m13 : M1 0 13 = nI 0 := by rw [a1 0 (by decide), fset_slot _ _ _ _ (by decide), fset_slot _ _ _ _ (by decide), fset_at]; rfl
  have m15 : M1 0 15 = nI 0 := by rw [a1 0 (by decide), fset_slot _ _ _ _ (by decide), fset_at]; rfl
  have m17 : M1 0 17 = 2 := by rw [a1 0 (by decide), fset_at]
  generalize hC1 : fset (fset (fset C t 3 0) (t + 4) 3 0) t 5 2 = C1
  have cj : ∀ j, j ≠ t → j ≠ t + 4 → C1 j = C j := fun j j1 j2 => by rw [← hC1, fset_ne _ _ _ j1, fset_ne _ _ _ j2, fset_ne _ _ _ j1]
  have c3 : C1 t 3 = nI 0 := by rw [← hC1, fset_slot _ _ _ _ (by decide), fset_ne _ _ _ (by omega), fset_at]; rfl
  have c5 : C1 t 5 = 2 := by rw [← hC1, fset_at]
  have c4 : C1 (t + 4) 3 = nI 0 := by rw [← hC1, fset_ne _ _ _ (by omega), fset_at]; rfl
  obtain ⟨v, C', M', i1, i2, i3, i4, i5⟩ := readLoop t ht (tx := tx) (nt := nt) nt 0 FU FU 0 C1 M1 (by omega) (by omega) (FU_gt (by omega)) (FU_gt (by omega)) (by omega) (hc.mv (cj 1 (by omega) (by omega)) (cj 2 (by omega) (by omega))) (hm.mv (m0 12 (by decide) (by decide) (by decide)) (mj 7 (by decide) (by decide))) m13 ⟨0, 0, by omega, by omega, c3, m15, by rw [c5]; exact ⟨2, by decide, by decide, rfl⟩, by rw [m17, c5], fun i hi => by omega, c4, b1 2 (by decide), fun j j1 _ => b1 j (by omega), fun k hk => by omega⟩
  have i1' : X0_read_b21 t FU 0 0 C1 = _ := i1
  exact ⟨v, C', M', i1', i2, fun j hj => by rw [i3 j hj, cj j (by omega) (by omega)], ⟨fun j j1 j2 j3 j4 => by rw [i4.1 j j1 j2 j3 j4, mj j j1 j4], fun k k1 k2 k3 => by rw [i4.2 k k1 k2 k3, m0 k k1 k2 k3]⟩, i5⟩
theorem RX.tx {C M : FMem} (h : RX C M) : ∃ tx nt, TXc C tx nt ∧ TXm M tx nt := by
  obtain ⟨nt, h1, h2, h3, h4⟩ := h
  exact ⟨C 2, nt, ⟨h1, h2, fun _ _ => rfl⟩, ⟨h1, h3, h4⟩⟩
theorem Rel.read {C M C' M' : FMem} (h : Rel C M) (hC : FrC 3 C C') (hM : FrM M M') : Rel C' M' :=
  h.same (fun j hj => hC j (by omega)) (fun j j1 j2 => hM.1 j (by omega) (by omega) (by omega) (by omega)) (fun k hk => hM.2 k (by omega) (by omega) (by omega))
theorem op_fault : OpOK f_X8_fault f_X9_fault := by
  intro C M h
  have hrx : RX C M := by
    obtain ⟨np, -, -, -, -, -, hrx, -⟩ := h
    exact hrx
  obtain ⟨tx, nt, hc, hm⟩ := hrx.tx
  obtain ⟨v, C', M', e1, e2, f1, f2, -⟩ := read_ok 3 (by decide) hc hm
  refine ⟨v, C', M', ?_, e2, h.read f1 f2⟩
  unfold f_X8_fault
  rw [e1, bnd_ok]
