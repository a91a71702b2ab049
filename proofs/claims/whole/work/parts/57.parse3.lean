theorem cRN (t : Nat) (ht : 3 ≤ t) {tx : Nat → Int32} {nt c q : Nat} (hc1 : 1 ≤ c) (hc : c ≤ 3) {C : FMem} (hq : q < 1000) (h : TXc C tx nt) : ∃ C', f_X0_readNumbers t (nI q) (nI c) C = some (pnv (pn tx nt c q), C') ∧ (∀ j, j ≠ t + 8 → C' j = C j) ∧ ∀ r, pn tx nt c q = some r → ∀ j, j < c → C' (t + 8) j = nI (r.2.getD j 0) := by
  obtain ⟨C', e, a, -, b⟩ := cNums t ht hc c 0 q FU C (by omega) (FU_gt (by omega)) (by omega) h
  refine ⟨C', ?_, a, fun r hr j hj => ?_⟩
  · unfold f_X0_readNumbers X0_readNumbers_b9
    rw [if_neg (nI_nle (by omega) (by omega))]
    exact e
  · have := b r hr j hj
    rwa [Nat.zero_add] at this
theorem mRN {tx : Nat → Int32} {nt c q : Nat} (hc : c ≤ 3) {M : FMem} (hq : q < 1000) (h : TXm M tx nt) (h13 : M 0 13 = nI q) : ∃ M', f_X9_readNumbers (nI c) M = some (b2i (pn tx nt c q).isSome, M') ∧ (∀ j, j ≠ 0 → j ≠ 8 → M' j = M j) ∧ (∀ k, k ≠ 13 → M' 0 k = M 0 k) ∧ ∀ r, pn tx nt c q = some r → M' 0 13 = nI r.1 ∧ ∀ j, j < c → M' 8 j = nI (r.2.getD j 0) := by
  obtain ⟨M', e, a, b, -, d⟩ := mNums hc c 0 q FU M (by omega) (FU_gt (by omega)) (by omega) h h13
  refine ⟨M', e, a, b, fun r hr => ⟨(d r hr).1, fun j hj => ?_⟩⟩
  have := (d r hr).2 j hj
  rwa [Nat.zero_add] at this
def FrC (t : Nat) (C C' : FMem) : Prop := ∀ j, (j < t ∨ t + 9 ≤ j) → C' j = C j
def FrM (M M' : FMem) : Prop := (∀ j, j ≠ 0 → j ≠ 8 → j ≠ 9 → j ≠ 10 → M' j = M j) ∧ ∀ k, k ≠ 13 → k ≠ 15 → k ≠ 17 → M' 0 k = M 0 k
def clsE (t : Nat) (L : Int32) (q : Nat) (c : Int32) (k : Int32 → FMem → Opt) (C : FMem) : Opt :=
  bnd (f_X0_readNumbers t (nI (q + 1)) c C) fun r14 M15 => if r14 < 0 then (some (nI q, M15)) else (bnd (f_X0_takes t L M15) fun r18 M19 => if r18 = 0 then (some (nI q, M19)) else (k r14 M19))
def IT (t : Nat) (C M : FMem) (q nt : Nat) (E : Opt) (k : Int32 → FMem → Opt) (rf : Opt) : Prop := ∃ C' M', FrC t C C' ∧ FrM M M' ∧ ((E = some (nI q, C') ∧ rf = some (0, M')) ∨ ∃ q', E = k (nI q') C' ∧ rf = some (1, M') ∧ M' 0 13 = nI q' ∧ DS t C' M' ∧ q + 2 ≤ q' ∧ q' ≤ nt)
theorem cTakeP (t : Nat) {C : FMem} {P a b c : Nat} (hP : P < 6) (h : C t 3 = nI P) (ha : a ≤ 99) (hb : b ≤ 99) (hc : c ≤ 99) : f_X0_takesPerson t (nI a) (nI b) (nI c) C = if a ≤ 3 then (if b ≤ 31 then (if 1 ≤ c ∧ c ≤ 60 then some (1, fset (fset (fset (fset C (t + 1) P (nI a)) (t + 2) P (nI b)) (t + 3) P (nI c)) t 3 (nI (P + 1))) else some (0, C)) else some (0, C)) else some (0, C) := by
  unfold f_X0_takesPerson
  rw [h, if_neg (by rw [c_le (by omega) (by omega)]; omega), if_neg (nI_pos (by omega))]
  by_cases h1 : a ≤ 3
  · rw [if_pos h1, if_neg (by rw [c_gt (by omega) (by omega)]; omega)]
    by_cases h2 : b ≤ 31
    · rw [if_pos h2, if_neg (by rw [c_gt (by omega) (by omega)]; omega)]
      by_cases h3 : 1 ≤ c ∧ c ≤ 60
      · have q1 : ∀ v, fset C (t + 1) P v t 3 = nI P := fun v => by rw [fset_ne _ _ _ (by omega)]; exact h
        have q2 : ∀ v v', fset (fset C (t + 1) P v) (t + 2) P v' t 3 = nI P := fun v v' => by rw [fset_ne _ _ _ (by omega)]; exact q1 v
        have q3 : ∀ v v' v'', fset (fset (fset C (t + 1) P v) (t + 2) P v') (t + 3) P v'' t 3 = nI P := fun v v' v'' => by rw [fset_ne _ _ _ (by omega)]; exact q2 v v'
        rw [if_pos h3, if_neg (by rw [c_lt (by omega) (by omega)]; omega), if_pos (by rw [c_ge (by omega) (by omega)]; omega), grd_ok (inb_t hP (by omega)), bindm_ok, nI_clamp (by omega), q1, grd_ok (inb_t hP (by omega)), bindm_ok, nI_clamp (by omega), q2, grd_ok (inb_t hP (by omega)), bindm_ok, nI_clamp (by omega), bindm_ok, q3, nI_1]
      · rw [if_neg h3]
        by_cases h4 : c < 1
        · rw [if_pos (by rw [c_lt (by omega) (by omega)]; exact h4)]
        · rw [if_neg (by rw [c_lt (by omega) (by omega)]; exact h4), if_neg (by rw [c_ge (by omega) (by omega)]; omega)]
    · rw [if_neg h2, if_pos (by rw [c_gt (by omega) (by omega)]; omega)]
  · rw [if_neg h1, if_pos (by rw [c_gt (by omega) (by omega)]; omega)]
theorem mTells {M : FMem} {P : Nat} (hP : P < 6) (h : M 0 15 = nI P) (x y z : Int32) : ∃ M', f_X9_tellsPerson x y z M = some (0, M') ∧ (∀ j, j ≠ 0 → j ≠ 9 → M' j = M j) ∧ (∀ k, k ≠ 15 → M' 0 k = M 0 k) ∧ M' 0 15 = nI (P + 1) ∧ M' 9 (3 * P) = x ∧ M' 9 (3 * P + 1) = y ∧ M' 9 (3 * P + 2) = z ∧ ∀ j, j < 3 * P → M' 9 j = M 9 j := by
  unfold f_X9_tellsPerson
  have e2 : nI (3 * P) + 2 = nI (3 * P + 2) := nI_add _ 2
  have q1 : ∀ k v, fset M 9 k v 0 15 = nI P := fun k v => by rw [fset_ne _ _ _ (by decide)]; exact h
  have q2 : ∀ k v k' v', fset (fset M 9 k v) 9 k' v' 0 15 = nI P := fun k v k' v' => by rw [fset_ne _ _ _ (by decide)]; exact q1 k v
  have q3 : ∀ k v k' v' k'' v'', fset (fset (fset M 9 k v) 9 k' v') 9 k'' v'' 0 15 = nI P := fun k v k' v' k'' v'' => by rw [fset_ne _ _ _ (by decide)]; exact q2 k v k' v'
  rw [h, i3, grd_ok (inb_t (by omega) (by omega)), bindm_ok, nI_clamp (by omega), q1, i3, nI_1, grd_ok (inb_t (by omega) (by omega)), bindm_ok, nI_clamp (by omega), q2, i3, e2, grd_ok (inb_t (by omega) (by omega)), bindm_ok, nI_clamp (by omega), bindm_ok, q3, nI_1]
  refine ⟨_, rfl, fun j j1 j2 => by rw [fset_ne _ _ _ j1, fset_ne _ _ _ j2, fset_ne _ _ _ j2, fset_ne _ _ _ j2], fun k hk => by rw [fset_slot _ _ _ _ hk, fset_ne _ _ _ (by decide), fset_ne _ _ _ (by decide), fset_ne _ _ _ (by decide)], fset_at _ _ _ _, ?_, ?_, ?_, fun j hj => ?_⟩
  · rw [fset_ne _ _ _ (by decide), fset_slot _ _ _ _ (by omega), fset_slot _ _ _ _ (by omega), fset_at]
  · rw [fset_ne _ _ _ (by decide), fset_slot _ _ _ _ (by omega), fset_at]
  · rw [fset_ne _ _ _ (by decide), fset_at]
  · rw [fset_ne _ _ _ (by decide), fset_slot _ _ _ _ (by omega), fset_slot _ _ _ _ (by omega), fset_slot _ _ _ _ (by omega)]
theorem FrC.nums {t : Nat} {C C1 : FMem} (h : ∀ j, j ≠ t + 8 → C1 j = C j) : FrC t C C1 := fun j hj => h j (by omega)
theorem FrM.nums {M M1 : FMem} (h : ∀ j, j ≠ 0 → j ≠ 8 → M1 j = M j) (h0 : ∀ k, k ≠ 13 → M1 0 k = M 0 k) : FrM M M1 := ⟨fun j j1 j2 _ _ => h j j1 j2, fun k k1 _ _ => h0 k k1⟩
theorem nI_6 {P : Nat} (h : P ≤ 6) : nI P = 6 ↔ P = 6 := c_eq (by omega) (by decide)
theorem itemP (t : Nat) (ht : 3 ≤ t) {tx : Nat → Int32} {nt q : Nat} {C M : FMem} (hq : q < 300) (hc : TXc C tx nt) (hm : TXm M tx nt) (h13 : M 0 13 = nI (q + 1)) (hds : DS t C M) (k : Int32 → FMem → Opt) : IT t C M q nt (clsE t 112 q 3 k C) k (f_X9_readPersonOf M) := by
  obtain ⟨C1, e1, a1, b1⟩ := cRN t ht (c := 3) (q := q + 1) (by decide) (by decide) (by omega) hc
  obtain ⟨M1, e2, a2, b2, c2⟩ := mRN (c := 3) (q := q + 1) (by decide) (by omega) hm h13
  have e1' : f_X0_readNumbers t (nI (q + 1)) 3 C = _ := e1
  have e2' : f_X9_readNumbers 3 M = _ := e2
  obtain ⟨P, n, hP, hn, d1, d2, d3, d4, d5, d6, d7, d8, d9⟩ := hds
  unfold IT clsE f_X9_readPersonOf
  rw [e1', bnd_ok, e2', bnd_ok, d2]
  cases hpn : pn tx nt 3 (q + 1) with
  | none =>
    rw [if_pos (show pnv none < 0 by decide)]
    by_cases h6 : P = 6
    · rw [if_pos ((nI_6 hP).mpr h6)]
      exact ⟨C1, M, FrC.nums a1, ⟨fun _ _ _ _ _ => rfl, fun _ _ _ _ => rfl⟩, Or.inl ⟨rfl, rfl⟩⟩
    · rw [if_neg (fun hh => h6 ((nI_6 hP).mp hh)), if_pos (show b2i (none : Option (Nat × List Nat)).isSome = 0 by decide)]
      exact ⟨C1, M1, FrC.nums a1, FrM.nums a2 b2, Or.inl ⟨rfl, rfl⟩⟩
  | some r =>
    obtain ⟨p1, p2, p3⟩ := pn_ok tx nt 3 (q + 1) r hpn
    have hr1 := p2 (by decide)
    have hnt := hc.1
    have v := b1 r hpn
    obtain ⟨w13, w⟩ := c2 r hpn
    have e112 : ∀ X : FMem, f_X0_takes t 112 X = bnd (f_X0_takesPerson t (X (t + 8) 0) (X (t + 8) 1) (X (t + 8) 2) X) fun r7 M8 => grd (isB r7) <| some (r7, M8) := fun X => by
      unfold f_X0_takes
      rw [if_neg (by decide), if_pos rfl]
    rw [if_neg (show ¬ pnv (some r) < 0 from nI_pos (by omega)), e112, v 0 (by decide), v 1 (by decide), v 2 (by decide)]
    generalize ha : r.2.getD 0 0 = a at *
    generalize hb : r.2.getD 1 0 = b at *
    generalize hcc : r.2.getD 2 0 = c at *
    have la : a ≤ 99 := by rw [← ha]; exact p3 0 (by decide)
    have lb : b ≤ 99 := by rw [← hb]; exact p3 1 (by decide)
    have lc : c ≤ 99 := by rw [← hcc]; exact p3 2 (by decide)
    have w0 : M1 8 0 = nI a := by rw [w 0 (by decide), ha]
    have w1 : M1 8 1 = nI b := by rw [w 1 (by decide), hb]
    have w2 : M1 8 2 = nI c := by rw [w 2 (by decide), hcc]
    have d1' : C1 t 3 = nI P := by rw [a1 t (by omega)]; exact d1
    by_cases h6 : P = 6
    · rw [if_pos ((nI_6 hP).mpr h6)]
      have : f_X0_takesPerson t (nI a) (nI b) (nI c) C1 = some (0, C1) := by
        unfold f_X0_takesPerson
        rw [d1', if_pos (by rw [c_le (by omega) (by omega)]; omega)]
      rw [this, bnd_ok, grd_ok (by decide), bnd_ok, if_pos rfl]
      exact ⟨C1, M, FrC.nums a1, ⟨fun _ _ _ _ _ => rfl, fun _ _ _ _ => rfl⟩, Or.inl ⟨rfl, rfl⟩⟩
    · have t0 : f_X9_isTold 0 0 3 M1 = _ := told_ok (i := 0) (by decide) la w0 0 3 (by decide) (by decide)
      have t1 : f_X9_isTold 1 0 31 M1 = _ := told_ok (i := 1) (by decide) lb w1 0 31 (by decide) (by decide)
      have t2 : f_X9_isTold 2 1 60 M1 = _ := told_ok (i := 2) (by decide) lc w2 1 60 (by decide) (by decide)
      rw [if_neg (fun hh => h6 ((nI_6 hP).mp hh)), if_neg (show ¬ b2i (some r).isSome = 0 by show ¬ b2i true = 0; decide), cTakeP t (show P < 6 by omega) d1' la lb lc, t0, bnd_ok]
      have hfail : ∃ C' M', FrC t C C' ∧ FrM M M' ∧ (((some (nI q, C1) : Opt) = some (nI q, C') ∧ (some (0, M1) : Opt) = some (0, M')) ∨ ∃ q', (some (nI q, C1) : Opt) = k (nI q') C' ∧ (some (0, M1) : Opt) = some (1, M') ∧ M' 0 13 = nI q' ∧ DS t C' M' ∧ q + 2 ≤ q' ∧ q' ≤ nt) := ⟨C1, M1, FrC.nums a1, FrM.nums a2 b2, Or.inl ⟨rfl, rfl⟩⟩
      by_cases g1 : a ≤ 3
      · rw [if_pos g1, decide_eq_true (show 0 ≤ a ∧ a ≤ 3 by omega), if_neg (show ¬ b2i true = 0 by decide), t1, bnd_ok]
        by_cases g2 : b ≤ 31
        · rw [if_pos g2, decide_eq_true (show 0 ≤ b ∧ b ≤ 31 by omega), if_neg (show ¬ b2i true = 0 by decide), t2, bnd_ok]
          by_cases g3 : 1 ≤ c ∧ c ≤ 60
          · rw [if_pos g3, decide_eq_true g3, if_neg (show ¬ b2i true = 0 by decide), w0, w1, w2]
            obtain ⟨M2, e3, a3, b3, c3, x3, y3, z3, o3⟩ := mTells (M := M1) (P := P) (by omega) (by rw [b2 15 (by decide)]; exact d2) (nI a) (nI b) (nI c)
            rw [e3, bnd_ok, bnd_ok, grd_ok (by decide), bnd_ok, if_neg n10]
            generalize hC2 : fset (fset (fset (fset C1 (t + 1) P (nI a)) (t + 2) P (nI b)) (t + 3) P (nI c)) t 3 (nI (P + 1)) = C2
            have k0 : ∀ s, s ≠ 3 → C2 t s = C t s := fun s hs => by rw [← hC2, fset_slot _ _ _ _ hs, fset_ne _ _ _ (by omega), fset_ne _ _ _ (by omega), fset_ne _ _ _ (by omega), a1 t (by omega)]
            have k3 : C2 t 3 = nI (P + 1) := by rw [← hC2, fset_at]
            have k1 : C2 (t + 1) = upd (C (t + 1)) P (nI a) := by rw [← hC2, fset_ne _ _ _ (by omega), fset_ne _ _ _ (by omega), fset_ne _ _ _ (by omega), fset_same, a1 _ (by omega)]
            have k2 : C2 (t + 2) = upd (C (t + 2)) P (nI b) := by rw [← hC2, fset_ne _ _ _ (by omega), fset_ne _ _ _ (by omega), fset_same, fset_ne _ _ _ (by omega), a1 _ (by omega)]
            have k33 : C2 (t + 3) = upd (C (t + 3)) P (nI c) := by rw [← hC2, fset_ne _ _ _ (by omega), fset_same, fset_ne _ _ _ (by omega), fset_ne _ _ _ (by omega), a1 _ (by omega)]
            have kj : ∀ j, j ≠ t → j ≠ t + 1 → j ≠ t + 2 → j ≠ t + 3 → j ≠ t + 8 → C2 j = C j := fun j j0 j1 j2 j3 j8 => by rw [← hC2, fset_ne _ _ _ j0, fset_ne _ _ _ j3, fset_ne _ _ _ j2, fset_ne _ _ _ j1, a1 j j8]
            refine ⟨C2, M2, fun j hj => kj j (by omega) (by omega) (by omega) (by omega) (by omega), ⟨fun j j1 j2 j3 j4 => by rw [a3 j j1 j3, a2 j j1 j2], fun s s1 s2 s3 => by rw [b3 s s2, b2 s s1]⟩, Or.inr ⟨r.1, rfl, rfl, by rw [b3 13 (by decide)]; exact w13, ?_, by omega, hr1⟩⟩
            refine ⟨P + 1, n, by omega, hn, k3, c3, by rw [k0 5 (by decide)]; exact d3, by rw [b3 17 (by decide), b2 17 (by decide), k0 5 (by decide)]; exact d4, fun i hi => ?_, by rw [kj _ (by omega) (by omega) (by omega) (by omega) (by omega)]; exact d6, by rw [a3 10 (by decide) (by decide), a2 10 (by decide) (by decide)]; exact d7, by rw [a3 10 (by decide) (by decide), a2 10 (by decide) (by decide)]; exact d8, ?_⟩
            · rw [k1, k2, k33]
              by_cases hiP : i = P
              · subst hiP
                rw [upd_same, upd_same, upd_same]
                exact ⟨⟨b, by omega, rfl⟩, x3, y3, z3⟩
              · rw [upd_ne _ _ hiP, upd_ne _ _ hiP, upd_ne _ _ hiP, o3 _ (by omega), o3 _ (by omega), o3 _ (by omega), a2 9 (by decide) (by decide)]
                exact d5 i (by omega)
            · rw [a3 10 (by decide) (by decide), a2 10 (by decide) (by decide), kj (t + 5) (by omega) (by omega) (by omega) (by omega) (by omega), kj (t + 6) (by omega) (by omega) (by omega) (by omega) (by omega), kj (t + 7) (by omega) (by omega) (by omega) (by omega) (by omega)]
              exact d9
          · rw [if_neg g3, decide_eq_false g3, if_pos (show b2i false = 0 by decide)]
            exact hfail
        · rw [if_neg g2, decide_eq_false (show ¬ (0 ≤ b ∧ b ≤ 31) by omega), if_pos (show b2i false = 0 by decide)]
          exact hfail
      · rw [if_neg g1, decide_eq_false (show ¬ (0 ≤ a ∧ a ≤ 3) by omega), if_pos (show b2i false = 0 by decide)]
        exact hfail
theorem itemF (t : Nat) (ht : 3 ≤ t) {tx : Nat → Int32} {nt q : Nat} {C M : FMem} (hq : q < 300) (hc : TXc C tx nt) (hm : TXm M tx nt) (h13 : M 0 13 = nI (q + 1)) (hds : DS t C M) (k : Int32 → FMem → Opt) : IT t C M q nt (clsE t 102 q 1 k C) k (f_X9_readFadesOf M) := by
  obtain ⟨C1, e1, a1, b1⟩ := cRN t ht (c := 1) (q := q + 1) (by decide) (by decide) (by omega) hc
  obtain ⟨M1, e2, a2, b2, c2⟩ := mRN (c := 1) (q := q + 1) (by decide) (by omega) hm h13
  have e1' : f_X0_readNumbers t (nI (q + 1)) 1 C = _ := e1
  have e2' : f_X9_readNumbers 1 M = _ := e2
  unfold IT clsE f_X9_readFadesOf X9_readFadesOf_b23 X9_readFadesOf_b24
  rw [e1', bnd_ok, e2', bnd_ok]
  have frs : ∀ v, FrM M (fset M1 0 17 v) := fun v => ⟨fun j j1 j2 _ _ => by rw [fset_ne _ _ _ j1, a2 j j1 j2], fun s s1 _ s3 => by rw [fset_slot _ _ _ _ s3, b2 s s1]⟩
  have hfail : ∃ C' M', FrC t C C' ∧ FrM M M' ∧ (((some (nI q, C1) : Opt) = some (nI q, C') ∧ (if (0 : Int32) = 0 then (bindm (fset M1 0 17 (M1 0 17)) fun M6 => grd (isB 0) <| some (0, M6)) else (bindm (fset M1 0 17 (M1 8 0)) fun M8 => grd (isB 0) <| some (0, M8))) = some (0, M')) ∨ ∃ q', (some (nI q, C1) : Opt) = k (nI q') C' ∧ (if (0 : Int32) = 0 then (bindm (fset M1 0 17 (M1 0 17)) fun M6 => grd (isB 0) <| some (0, M6)) else (bindm (fset M1 0 17 (M1 8 0)) fun M8 => grd (isB 0) <| some (0, M8))) = some (1, M') ∧ M' 0 13 = nI q' ∧ DS t C' M' ∧ q + 2 ≤ q' ∧ q' ≤ nt) := ⟨C1, fset M1 0 17 (M1 0 17), FrC.nums a1, frs _, Or.inl ⟨rfl, rfl⟩⟩
  cases hpn : pn tx nt 1 (q + 1) with
  | none =>
    rw [if_pos (show pnv none < 0 by decide), if_pos (show b2i (none : Option (Nat × List Nat)).isSome = 0 by decide)]
    exact hfail
  | some r =>
    obtain ⟨p1, p2, p3⟩ := pn_ok tx nt 1 (q + 1) r hpn
    have hr1 := p2 (by decide)
    have hnt := hc.1
    have v := b1 r hpn
    obtain ⟨w13, w⟩ := c2 r hpn
    have e102 : ∀ X : FMem, f_X0_takes t 102 X = bnd (f_X0_takesFade t (X (t + 8) 0) X) fun r2 M3 => grd (isB r2) <| some (r2, M3) := fun X => by
      unfold f_X0_takes
      rw [if_pos rfl]
    rw [if_neg (show ¬ pnv (some r) < 0 from nI_pos (by omega)), e102, v 0 (by decide), if_neg (show ¬ b2i (some r).isSome = 0 by show ¬ b2i true = 0; decide)]
    generalize ha : r.2.getD 0 0 = a at *
    have la : a ≤ 99 := by rw [← ha]; exact p3 0 (by decide)
    have w0 : M1 8 0 = nI a := by rw [w 0 (by decide), ha]
    have t0 : f_X9_isTold 0 1 9 M1 = _ := told_ok (i := 0) (by decide) la w0 1 9 (by decide) (by decide)
    rw [t0, bnd_ok]
    unfold f_X0_takesFade
    by_cases g : 1 ≤ a ∧ a ≤ 9
    · rw [decide_eq_true g, if_neg (show ¬ b2i true = 0 by decide), if_neg (show ¬ nI a < 1 by rw [c_lt (by omega) (by omega)]; omega), if_pos (show nI a ≤ 9 by rw [c_ge (by omega) (by omega)]; omega), bindm_ok, bnd_ok, grd_ok (by decide), bnd_ok, if_neg n10, if_neg n10, bindm_ok, grd_ok (by decide), w0]
      refine ⟨fset C1 t 5 (nI a), fset M1 0 17 (nI a), fun j hj => by rw [fset_ne _ _ _ (by omega), a1 j (by omega)], frs _, Or.inr ⟨r.1, rfl, rfl, by rw [fset_slot _ _ _ _ (by decide)]; exact w13, ?_, by omega, hr1⟩⟩
      obtain ⟨P, n, hP, hn, d1, d2, d3, d4, d5, d6, d7, d8, d9⟩ := hds
      have kj : ∀ j, j ≠ t → j ≠ t + 8 → fset C1 t 5 (nI a) j = C j := fun j j0 j8 => by rw [fset_ne _ _ _ j0, a1 j j8]
      refine ⟨P, n, hP, hn, by rw [fset_slot _ _ _ _ (by decide), a1 t (by omega)]; exact d1, by rw [fset_slot _ _ _ _ (by decide), b2 15 (by decide)]; exact d2, by rw [fset_at]; exact ⟨a, g.1, g.2, rfl⟩, by rw [fset_at, fset_at], ?_, by rw [kj _ (by omega) (by omega)]; exact d6, by rw [fset_ne _ _ _ (by decide), a2 10 (by decide) (by decide)]; exact d7, by rw [fset_ne _ _ _ (by decide), a2 10 (by decide) (by decide)]; exact d8, ?_⟩
      · rw [kj (t + 1) (by omega) (by omega), kj (t + 2) (by omega) (by omega), kj (t + 3) (by omega) (by omega), fset_ne _ _ _ (show 9 ≠ 0 by decide), a2 9 (by decide) (by decide)]
        exact d5
      · rw [kj (t + 5) (by omega) (by omega), kj (t + 6) (by omega) (by omega), kj (t + 7) (by omega) (by omega), fset_ne _ _ _ (show 10 ≠ 0 by decide), a2 10 (by decide) (by decide)]
        exact d9
    · rw [decide_eq_false g, if_pos (show b2i false = 0 by decide)]
      by_cases g1 : a < 1
      · rw [if_pos (show nI a < 1 by rw [c_lt (by omega) (by omega)]; exact g1), bnd_ok, grd_ok (by decide), bnd_ok, if_pos rfl]
        exact hfail
      · rw [if_neg (show ¬ nI a < 1 by rw [c_lt (by omega) (by omega)]; exact g1), if_neg (show ¬ nI a ≤ 9 by rw [c_ge (by omega) (by omega)]; omega), bnd_ok, grd_ok (by decide), bnd_ok, if_pos rfl]
        exact hfail
