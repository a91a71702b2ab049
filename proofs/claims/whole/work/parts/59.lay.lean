theorem settles_loop (M : FMem) : ∀ (m k f : Nat) (Mk : FMem), k + m = 6 → m < f → (∀ j, j ≠ 10 → Mk j = M j) → (∀ q, q < k → Mk 10 (4 + q) = nI q) → (∀ q, (q < 4 ∨ 10 ≤ q) → Mk 10 q = M 10 q) →
    ∃ M', X9_settles_b32 f (nI k) Mk = some (0, M') ∧ (∀ j, j ≠ 0 → j ≠ 2 → j ≠ 3 → j ≠ 10 → M' j = M j) ∧ (∀ s, s ≠ 5 → s ≠ 7 → s ≠ 9 → M' 0 s = M 0 s) ∧ M' 0 5 = 0 ∧ M' 0 7 = 0 ∧ M' 0 9 = 0 ∧ (∀ u, (u = 2 ∨ u = 3) → (∀ q, q < 6 → M' u (4 + q) = nI q) ∧ ∀ q, q < 46 → (q < 4 ∨ 10 ≤ q) → M' u q = M 10 q) := by
  intro m
  induction m with
  | zero =>
    intro k f Mk hk hf h1 h2 h3
    obtain ⟨g, rfl, -⟩ := fu_s hf
    have hk : k = 6 := by omega
    subst hk
    obtain ⟨M1, e1, a1, b1, -⟩ := X9_put_ok 2 46 10 46 (by decide) Mk (a := 0) (c := 46) (by decide) (by decide) (by decide)
    obtain ⟨M2, e2, a2, b2, -⟩ := X9_put_ok 3 46 10 46 (by decide) M1 (a := 0) (c := 46) (by decide) (by decide) (by decide)
    have e1' : f_X9_put 2 46 10 46 0 46 Mk = some (0, M1) := e1
    have e2' : f_X9_put 3 46 10 46 0 46 M1 = some (0, M2) := e2
    have r2 : ∀ q, q < 46 → M2 2 q = Mk 10 q := fun q hq => by
      have := b1 q hq
      rw [Nat.zero_add] at this
      rw [a2 2 (by decide), this]
    have r3 : ∀ q, q < 46 → M2 3 q = Mk 10 q := fun q hq => by
      have := b2 q hq
      rw [Nat.zero_add] at this
      rw [this, a1 10 (by decide)]
    show ∃ M', X9_settles_b32s (X9_settles_b32 g) _ Mk = _ ∧ _
    unfold X9_settles_b32s
    rw [if_pos (by decide), e1', bnd_ok, e2', bnd_ok, bindm_ok, bindm_ok, bindm_ok]
    have kj : ∀ j, j ≠ 0 → fset (fset (fset M2 0 5 0) 0 7 0) 0 9 0 j = M2 j := fun j hj => by rw [fset_ne _ _ _ hj, fset_ne _ _ _ hj, fset_ne _ _ _ hj]
    refine ⟨_, rfl, fun j j1 j2 j3 j4 => by rw [kj j j1, a2 j j3, a1 j j2, h1 j j4], fun s s1 s2 s3 => by rw [fset_slot _ _ _ _ s3, fset_slot _ _ _ _ s2, fset_slot _ _ _ _ s1, a2 0 (by decide), a1 0 (by decide), h1 0 (by decide)], by rw [fset_slot _ _ _ _ (by decide), fset_slot _ _ _ _ (by decide), fset_at], by rw [fset_slot _ _ _ _ (by decide), fset_at], fset_at _ _ _ _, fun u hu => ?_⟩
    rw [kj u (by omega)]
    rcases hu with rfl | rfl
    · exact ⟨fun q hq => by rw [r2 _ (by omega), h2 q hq], fun q hq hq2 => by rw [r2 q hq, h3 q hq2]⟩
    · exact ⟨fun q hq => by rw [r3 _ (by omega), h2 q hq], fun q hq hq2 => by rw [r3 q hq, h3 q hq2]⟩
  | succ m ih =>
    intro k f Mk hk hf h1 h2 h3
    obtain ⟨g, rfl, hg⟩ := fu_s hf
    show ∃ M', X9_settles_b32s (X9_settles_b32 g) _ Mk = _ ∧ _
    unfold X9_settles_b32s
    rw [if_neg (by rw [c_le (by omega) (by omega)]; omega), show (4 : Int32) + nI k = nI (4 + k) from nI_add 4 k, grd_ok (inb_t (by omega) (by omega)), nI_clamp (by omega), bindm_ok, nI_1]
    refine ih (k + 1) g _ (by omega) (by omega) (fun j hj => by rw [fset_ne _ _ _ hj, h1 j hj]) (fun q hq => ?_) (fun q hq => by rw [fset_slot _ _ _ _ (by omega), h3 q hq])
    by_cases hqk : q = k
    · subst hqk
      rw [fset_at]
    · rw [fset_slot _ _ _ _ (by omega)]
      exact h2 q (by omega)
theorem begun {C M : FMem} (h : DS 12 C M) (hP : ¬ C 12 3 = 0) : ∃ C' M', f_X1_begin 21 C = some (0, C') ∧ f_X9_settles M = some (0, M') ∧ (∀ j, (j < 21 ∨ 27 ≤ j) → C' j = C j) ∧ (∀ j, 4 ≤ j → j ≠ 10 → M' j = M j) ∧ (∀ s, s ≠ 0 → s ≠ 2 → s ≠ 5 → s ≠ 7 → s ≠ 9 → M' 0 s = M 0 s) ∧ M' 0 0 = C 12 3 ∧
    ∀ C2 : FMem, (∀ j, 12 ≤ j → j < 27 → C2 j = C' j) → C2 27 1 = 0 → C2 27 2 = 0 → C2 77 1 = 0 → C2 77 2 = 0 → C2 91 2 = 0 → RX C2 M' → Rel C2 M' := by
  obtain ⟨P, n, hP6, hn, d1, d2, d3, d4, d5, d6, d7, d8, d9⟩ := h
  have hP1 : 1 ≤ P := by
    rcases Nat.eq_zero_or_pos P with h0 | h0
    · exact absurd (by rw [d1, h0]; rfl) hP
    · exact h0
  -- the class
  generalize hC1 : fset (fset (fset (fset C 21 0 0) 21 1 0) 21 2 0) 21 3 0 = C1
  have c1 : ∀ j, j ≠ 21 → C1 j = C j := fun j hj => by rw [← hC1, fset_ne _ _ _ hj, fset_ne _ _ _ hj, fset_ne _ _ _ hj, fset_ne _ _ _ hj]
  have c10 : C1 21 0 = 0 := by rw [← hC1, fset_slot _ _ _ _ (by decide), fset_slot _ _ _ _ (by decide), fset_slot _ _ _ _ (by decide), fset_at]
  have c11 : C1 21 1 = 0 := by rw [← hC1, fset_slot _ _ _ _ (by decide), fset_slot _ _ _ _ (by decide), fset_at]
  have c12 : C1 21 2 = 0 := by rw [← hC1, fset_slot _ _ _ _ (by decide), fset_at]
  have c13 : C1 21 3 = 0 := by rw [← hC1, fset_at]
  obtain ⟨C2, e2, a2, b2⟩ := J7_fill_ok 22 6 (by decide) C1 0
  obtain ⟨C3, e3, a3, b3, f3⟩ := X7_copy_ok 23 16 (by decide) C2 (n := n) hn (by rw [a2 16 (by decide), c1 16 (by decide)]; exact d6)
  have e2' : f_J7_fill_53178 (21 + 1) 6 0 C1 = some (0, C2) := e2
  have e3' : f_X7_copyFrom (21 + 2) 16 C2 = some (0, C3) := e3
  -- the reference
  have m1 : ∀ j, j ≠ 0 → fset (fset M 0 0 (M 0 15)) 0 2 (fset M 0 0 (M 0 15) 0 17) j = M j := fun j hj => by rw [fset_ne _ _ _ hj, fset_ne _ _ _ hj]
  obtain ⟨M2, g2, p2, q2, -⟩ := X9_put_ok 1 18 9 18 (by decide) (fset (fset M 0 0 (M 0 15)) 0 2 (fset M 0 0 (M 0 15) 0 17)) (a := 0) (c := 18) (by decide) (by decide) (by decide)
  have g2' : f_X9_put 1 18 9 18 0 18 (fset (fset M 0 0 (M 0 15)) 0 2 (fset M 0 0 (M 0 15) 0 17)) = some (0, M2) := g2
  obtain ⟨M3, g3, p3, s3, s5, s7, s9, r3⟩ := settles_loop M2 6 0 FU M2 (by omega) (FU_gt (by decide)) (fun _ _ => rfl) (fun _ h => by omega) (fun _ _ => rfl)
  have g3' : X9_settles_b32 FU 0 M2 = some (0, M3) := g3
  have z00 : M3 0 0 = nI P := by rw [s3 0 (by decide) (by decide) (by decide), p2 0 (by decide), fset_slot _ _ _ _ (by decide), fset_at]; exact d2
  have z02 : M3 0 2 = C 12 5 := by rw [s3 2 (by decide) (by decide) (by decide), p2 0 (by decide), fset_at, fset_slot _ _ _ _ (by decide)]; exact d4
  have z1 : ∀ q, q < 18 → M3 1 q = M 9 q := fun q hq => by
    have := q2 q hq
    rw [Nat.zero_add] at this
    rw [p3 1 (by decide) (by decide) (by decide) (by decide), this, m1 9 (by decide)]
  have z10 : M2 10 = M 10 := by rw [p2 10 (by decide), m1 10 (by decide)]
  rw [z10] at r3
  refine ⟨C3, M3, ?_, ?_, fun j hj => by rw [a3 j (by omega), a2 j (by omega), c1 j (by omega)], fun j j1 j2 => by rw [p3 j (by omega) (by omega) (by omega) j2, p2 j (by omega), m1 j (by omega)], fun s s0 s2 s5' s7' s9' => by rw [s3 s s5' s7' s9', p2 0 (by decide), fset_slot _ _ _ _ s2, fset_slot _ _ _ _ s0], by rw [z00, d1], ?_⟩
  · unfold f_X1_begin
    rw [bindm_ok, bindm_ok, bindm_ok, bindm_ok, hC1, e2', bnd_ok, e3', bnd_ok]
  · unfold f_X9_settles
    rw [bindm_ok, bindm_ok, g2', bnd_ok]
    exact g3'
  · intro D hD h1 h2 h3 h4 h5 hrx
    have k21 : ∀ s, D 21 s = C1 21 s := fun s => by rw [hD 21 (by decide) (by decide), a3 21 (by decide), a2 21 (by decide)]
    have klow : ∀ j, 12 ≤ j → j < 21 → D j = C j := fun j j1 j2 => by rw [hD j j1 (by omega), a3 j (by omega), a2 j (by omega), c1 j (by omega)]
    have k22 : ∀ q, q < 6 → D 22 q = 0 := fun q hq => by rw [hD 22 (by decide) (by decide), a3 22 (by decide)]; exact b2 q hq
    have k23 : D 23 3 = nI n := by rw [hD 23 (by decide) (by decide)]; exact b3
    have kk : ∀ q, q < n → D 24 q = C 17 q ∧ D 25 q = C 18 q ∧ D 26 q = C 19 q := fun q hq => by
      have := f3 q hq
      rw [hD 24 (by decide) (by decide), hD 25 (by decide) (by decide), hD 26 (by decide) (by decide)]
      rw [a2 17 (by decide), a2 18 (by decide), a2 19 (by decide), c1 17 (by decide), c1 18 (by decide), c1 19 (by decide)] at this
      exact this
    obtain ⟨w1, w2⟩ := r3 2 (Or.inl rfl)
    obtain ⟨w3, w4⟩ := r3 3 (Or.inr rfl)
    have w2' : ∀ k, k < n → M3 2 (16 + 3 * k) = C 17 k ∧ M3 2 (16 + 3 * k + 1) = C 18 k ∧ M3 2 (16 + 3 * k + 2) = C 19 k := fun k hk => by
      rw [w2 _ (by omega) (by omega), w2 _ (by omega) (by omega), w2 _ (by omega) (by omega)]
      exact d9 k hk
    have w4' : ∀ k, k < n → M3 3 (16 + 3 * k) = C 17 k ∧ M3 3 (16 + 3 * k + 1) = C 18 k ∧ M3 3 (16 + 3 * k + 2) = C 19 k := fun k hk => by
      rw [w4 _ (by omega) (by omega), w4 _ (by omega) (by omega), w4 _ (by omega) (by omega)]
      exact d9 k hk
    refine ⟨P, ⟨hP1, hP6, by rw [klow 12 (by decide) (by decide)]; exact d1, z00, by rw [klow 12 (by decide) (by decide)]; exact d3, by rw [klow 12 (by decide) (by decide)]; exact z02, fun i hi => ?_⟩, ⟨?_, ?_, ?_, ⟨0, by omega, ?_, fun j hj => ?_⟩, fun i hi => ?_, n, hn, k23, ?_, fun k _ _ => ?_, fun k hk => ?_⟩, ⟨0, 0, by omega, by omega, h1, h2, s5, fun k hk => by omega⟩, ⟨0, by omega, h3, h4, s7, fun k hk => by omega⟩, ⟨0, by omega, h5, s9, fun k hk => by omega⟩, hrx, ⟨n, hn, by rw [klow 16 (by decide) (by decide)]; exact d6, ?_, ?_, ?_, ?_, fun j hj => w3 j (by omega), fun k hk => ?_⟩⟩
    · rw [klow 13 (by decide) (by decide), klow 14 (by decide) (by decide), klow 15 (by decide) (by decide), z1 _ (by omega), z1 _ (by omega), z1 _ (by omega)]
      exact d5 i hi
    · rw [k21, c10, w2 0 (by decide) (by decide)]
      exact d8 0 (by decide) (by decide)
    · rw [k21, c12, w2 1 (by decide) (by decide)]
      exact d8 1 (by decide) (by decide)
    · rw [k21, c13, w2 3 (by decide) (by decide)]
      exact d8 3 (by decide) (by decide)
    · rw [k21, c11]
      rfl
    · rw [w1 j (by omega), Nat.zero_add, Nat.mod_eq_of_lt hj]
    · rw [w2 (10 + i) (by omega) (by omega), d8 (10 + i) (by omega) (by omega)]
      exact (k22 i (by omega)).symm
    · rw [w2 2 (by decide) (by decide)]
      exact d7
    · rw [k21, c13, b_0]
    · obtain ⟨x1, x2, x3⟩ := w2' k hk
      obtain ⟨y1, y2, y3⟩ := kk k hk
      exact ⟨x1.trans y1.symm, x2.trans y2.symm, x3.trans y3.symm⟩
    · rw [w4 2 (by decide) (by decide)]
      exact d7
    · rw [w4 0 (by decide) (by decide)]
      exact d8 0 (by decide) (by decide)
    · rw [w4 1 (by decide) (by decide)]
      exact d8 1 (by decide) (by decide)
    · rw [w4 3 (by decide) (by decide)]
      exact d8 3 (by decide) (by decide)
    · rw [klow 17 (by decide) (by decide), klow 18 (by decide) (by decide), klow 19 (by decide) (by decide)]
      exact w4' k hk
theorem op_lay : OpOK f_X8_lay f_X9_lay := by
  intro C M h
  have hrx : RX C M := by
    obtain ⟨np, -, -, -, -, -, hrx, -⟩ := h
    exact hrx
  obtain ⟨tx, nt, hc, hm⟩ := hrx.tx
  obtain ⟨v, C1, M1, e1, e2, f1, f2, f3⟩ := read_ok 3 (by decide) hc hm
  unfold f_X8_lay f_X9_lay
  rw [e1, bnd_ok, e2, bnd_ok]
  by_cases hv : v = -4
  · subst hv
    have hds := f3 rfl
    obtain ⟨P, n, hP6, hn, d1, d2, -⟩ := hds
    rw [if_pos rfl, if_pos rfl, d1, d2]
    by_cases hP : nI P = 0
    · rw [if_pos hP, if_pos hP]
      exact ⟨-2, C1, M1, rfl, rfl, h.read f1 f2⟩
    · have hc1 : TXc C1 tx nt := hc.mv (f1 1 (by omega)) (f1 2 (by omega))
      obtain ⟨v2, C2, M2, e3, e4, f4, f5, f6⟩ := read_ok 12 (by decide) hc1 hm
      rw [e2] at e4
      cases e4
      have hds2 := f6 rfl
      have hne : ¬ C2 12 3 = 0 := by
        obtain ⟨P', n', hP6', -, d1', d2', -⟩ := hds2
        rw [d1', ← d2', d2]
        exact hP
      obtain ⟨C3, M3, e5, e6, f7, f8, f9, f10, f11⟩ := begun hds2 hne
      rw [if_neg hP, if_neg hP, e3, bnd_ok, e5, bnd_ok, e6, bnd_ok]
      unfold f_X5_clear f_X6_clear
      rw [bindm_ok, bindm_ok, bnd_ok, bindm_ok, bindm_ok, bnd_ok, bindm_ok, bnd_ok]
      generalize hD : fset (fset (fset (fset (fset C3 27 1 0) 27 2 0) 77 1 0) 77 2 0) 91 2 0 = D
      have dj : ∀ j, j ≠ 27 → j ≠ 77 → j ≠ 91 → D j = C3 j := fun j j1 j2 j3 => by rw [← hD, fset_ne _ _ _ j3, fset_ne _ _ _ j2, fset_ne _ _ _ j2, fset_ne _ _ _ j1, fset_ne _ _ _ j1]
      refine ⟨C2 12 3, D, M3, ?_, by rw [f10], f11 D (fun j j1 j2 => dj j (by omega) (by omega) (by omega)) ?_ ?_ ?_ ?_ ?_ ⟨nt, hc.1, ?_, ?_, fun k hk => ?_⟩⟩
      · rw [dj 12 (by decide) (by decide) (by decide), f7 12 (by decide)]
      · rw [← hD, fset_ne _ _ _ (by decide), fset_ne _ _ _ (by decide), fset_ne _ _ _ (by decide), fset_slot _ _ _ _ (by decide), fset_at]
      · rw [← hD, fset_ne _ _ _ (by decide), fset_ne _ _ _ (by decide), fset_ne _ _ _ (by decide), fset_at]
      · rw [← hD, fset_ne _ _ _ (by decide), fset_slot _ _ _ _ (by decide), fset_at]
      · rw [← hD, fset_ne _ _ _ (by decide), fset_at]
      · rw [← hD, fset_at]
      · rw [dj 1 (by decide) (by decide) (by decide), f7 1 (by decide), f4 1 (by decide)]
        exact hc1.2.1
      · rw [f9 12 (by decide) (by decide) (by decide) (by decide) (by decide), f2.2 12 (by decide) (by decide) (by decide)]
        exact hm.2.1
      · rw [f8 7 (by decide) (by decide), f2.1 7 (by decide) (by decide) (by decide) (by decide), dj 2 (by decide) (by decide) (by decide), f7 2 (by decide), f4 2 (by decide), hm.2.2 k hk, hc1.2.2 k hk]
  · rw [if_neg hv, if_neg hv]
    exact ⟨-2, C1, M1, rfl, rfl, h.read f1 f2⟩
