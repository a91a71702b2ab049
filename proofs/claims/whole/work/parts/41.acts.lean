/-! ===== acts ===== -/
theorem Rel.acts {C M C' M' : FMem} {np : Nat} (hrc : RC C M np) (hrk : RK C M np) (hrs : RS C M) (hrx : RX C M) (hrf : RF C M np) (hC : ∀ j, (j < 21 ∨ (77 ≤ j ∧ j < 94)) → C' j = C j) (hM : ∀ j, (j = 1 ∨ j = 3 ∨ j = 5 ∨ j = 6 ∨ j = 7) → M' j = M j) (h0 : ∀ k, (k = 0 ∨ k = 2 ∨ k = 7 ∨ k = 9 ∨ k = 12) → M' 0 k = M 0 k) (hmr : MR np C' 21 (M' 2)) (hra : RA C' M' np) : Rel C' M' :=
  ⟨np, hrc.mv (hC _ (by omega)) (hC _ (by omega)) (hC _ (by omega)) (hC _ (by omega)) (h0 _ (by omega)) (h0 _ (by omega)) (hM _ (by omega)), hmr, hra, hrk.mv hrc.2.1 (fun j j1 j2 => hC j (by omega)) (h0 _ (by omega)) (hM _ (by omega)), hrs.mv (hC _ (by omega)) (hC _ (by omega)) (hC _ (by omega)) (h0 _ (by omega)) (hM _ (by omega)), hrx.mv (hC _ (by omega)) (hC _ (by omega)) (h0 _ (by omega)) (hM _ (by omega)), hrf.mv (hC _ (by omega)) (hC _ (by omega)) (hC _ (by omega)) (hC _ (by omega)) (hM _ (by omega))⟩
theorem op_hide (a : Int32) : OpOK (f_X8_hide a) (f_X9_hide a) := by
  intro C M h
  have h' := h
  obtain ⟨np, hrc, hmr, hra, hrk, hrs, hrx, hrf⟩ := h
  have hp := hrc.2.1
  have hmr' := hmr
  obtain ⟨d1, d2, d3, d4, d5, n, n1, n2, n3, n4, n5⟩ := hmr
  unfold f_X8_hide f_X9_hide
  rcases isThg n1 n2 n3 a with ⟨k, hk, rfl, e1, e2⟩ | ⟨e1, e2⟩
  · obtain ⟨C1, M1, r1, r2, r3, r4, r5, r6⟩ := remember_ok hp hmr' hra
    have x1 : C1 21 3 = C 21 3 := by rw [r3 21 (by omega)]
    have x2 : M1 2 3 = C 21 3 := by rw [r4 2 (by decide) (by decide)]; exact d3
    have hbx : ∀ j, n ≤ j → j < 32 → bt (C 21 3 ^^^ (1 : Int32) <<< (nI k &&& 31)) j = false := fun j j1 j2 => by
      rw [b_xor, n4 j j1 j2, one_bt (by omega) j2]
      simp
      omega
    rw [e1, bnd_ok, if_neg n10, r1, bnd_ok, bindm_ok, isHidden_ok _ 21 (show k < 32 by omega), bnd_ok, fset_at, x1, e2, bnd_ok, if_neg n10, r2, bnd_ok, bindm_ok, fset_at, x2, has_v (show k < 32 by omega)]
    generalize C 21 3 ^^^ (1 : Int32) <<< (nI k &&& 31) = hx at *
    refine ⟨b2i (bt hx k), fset C1 21 3 hx, fset M1 2 3 hx, ?_, rfl, Rel.acts hrc hrk hrs hrx hrf (fun j hj => by rw [fset_ne _ _ _ (by omega), r3 j (by omega)]) (fun j hj => by rw [fset_ne _ _ _ (by omega), r4 j (by omega) (by omega)]) (fun k hk => by rw [fset_ne _ _ _ (by decide), r5 k (by omega)]) ?_ (r6.mv hp (fun j j1 j2 => fset_ne _ _ _ (by omega)) (by rw [fset_ne _ _ _ (by decide)]) (fset_ne _ _ _ (by decide)))⟩
    · cases bt hx k <;> rfl
    · have em : M1 2 = M 2 := r4 2 (by decide) (by decide)
      have ec : ∀ j, 22 ≤ j → j < 27 → fset C1 21 3 hx j = C j := fun j j1 j2 => by rw [fset_ne _ _ _ (by omega), r3 j (by omega)]
      have e21 : ∀ q, q ≠ 3 → fset C1 21 3 hx 21 q = C 21 q := fun q hq => by rw [fset_slot _ _ _ _ hq, r3 21 (by omega)]
      have e2q : ∀ q, q ≠ 3 → fset M1 2 3 hx 2 q = M 2 q := fun q hq => by rw [fset_slot _ _ _ _ hq, em]
      obtain ⟨K, b1, b2, b3⟩ := d4
      refine ⟨by rw [e2q 0 (by decide), e21 0 (by decide)]; exact d1, by rw [e2q 1 (by decide), e21 2 (by decide)]; exact d2, by rw [fset_at, fset_at], ⟨K, b1, by rw [e21 1 (by decide)]; exact b2, fun j hj => by rw [e2q _ (by omega)]; exact b3 j hj⟩, fun i hi => by rw [e2q _ (by omega), ec 22 (by omega) (by omega)]; exact d5 i hi, n, n1, by rw [ec 23 (by omega) (by omega)]; exact n2, by rw [e2q 2 (by decide)]; exact n3, fun j j1 j2 => by rw [fset_at]; exact hbx j j1 j2, fun q hq => ?_⟩
      rw [e2q _ (by omega), e2q _ (by omega), e2q _ (by omega), ec 24 (by omega) (by omega), ec 25 (by omega) (by omega), ec 26 (by omega) (by omega)]
      exact n5 q hq
  · rw [e1, bnd_ok, if_pos rfl, e2, bnd_ok, if_pos rfl]
    exact ⟨_, _, _, rfl, rfl, h'⟩
theorem adds_ok (u : Nat) (a1 a2 a3 : Int32) (M : FMem) {n : Nat} (hn : n ≤ 9) (h : M u 2 = nI n) : ∃ M', f_X9_addsThing u a1 a2 a3 M = some (0, M') ∧ (∀ j, j ≠ u → M' j = M j) ∧ M' u 2 = nI (n + 1) ∧ M' u (16 + 3 * n) = a1 ∧ M' u (16 + 3 * n + 1) = a2 ∧ M' u (16 + 3 * n + 2) = a3 ∧ ∀ q, q ≠ 2 → (q < 16 + 3 * n ∨ 16 + 3 * n + 3 ≤ q) → M' u q = M u q := by
  unfold f_X9_addsThing
  have e16 : (16 : Int32) + 3 * nI n = nI (16 + 3 * n) := by rw [i3]; exact nI_add 16 (3 * n)
  have e17 : nI (16 + 3 * n) + 1 = nI (16 + 3 * n + 1) := nI_1 _
  have e18 : nI (16 + 3 * n) + 2 = nI (16 + 3 * n + 2) := nI_add _ 2
  have q3 : fset (fset (fset M u (16 + 3 * n) a1) u (16 + 3 * n + 1) a2) u (16 + 3 * n + 2) a3 u 2 = nI n := by rw [fset_slot _ _ _ _ (by omega), fset_slot _ _ _ _ (by omega), fset_slot _ _ _ _ (by omega)]; exact h
  rw [h, bindv_ok, e16, grd_ok (inb_t (by omega) (by omega)), bindm_ok, e17, grd_ok (inb_t (by omega) (by omega)), bindm_ok, e18, grd_ok (inb_t (by omega) (by omega)), bindm_ok, bindm_ok, nI_clamp (by omega), nI_clamp (by omega), nI_clamp (by omega), q3, nI_1]
  refine ⟨_, rfl, fun j hj => by rw [fset_ne _ _ _ hj, fset_ne _ _ _ hj, fset_ne _ _ _ hj, fset_ne _ _ _ hj], fset_at _ _ _ _, ?_, ?_, ?_, fun q q1 q2 => ?_⟩
  · rw [fset_slot _ _ _ _ (by omega), fset_slot _ _ _ _ (by omega), fset_slot _ _ _ _ (by omega), fset_at]
  · rw [fset_slot _ _ _ _ (by omega), fset_slot _ _ _ _ (by omega), fset_at]
  · rw [fset_slot _ _ _ _ (by omega), fset_at]
  · rw [fset_slot _ _ _ _ (by omega), fset_slot _ _ _ _ (by omega), fset_slot _ _ _ _ (by omega), fset_slot _ _ _ _ (by omega)]
theorem isTopics_ok (a : Int32) (C : FMem) : (∀ j, 1 ≤ j → j ≤ 31 → a = nI j → f_X8_isTopics a C = some (1, C)) ∧ ((∀ j, 1 ≤ j → j ≤ 31 → a ≠ nI j) → f_X8_isTopics a C = some (0, C)) := by
  unfold f_X8_isTopics
  constructor
  · rintro j j1 j2 rfl
    rw [if_neg (by rw [c_lt (by omega) (by omega)]; omega), if_neg (by rw [c_gt (by omega) (by omega)]; omega)]
  · intro h
    by_cases h0 : a < 1
    · rw [if_pos h0]
    · obtain ⟨j, hj, rfl⟩ := nI_of (fun q : a < 0 => h0 (Int32.lt_trans q (by decide)))
      rw [c_lt hj (by omega)] at h0
      have : ¬ j ≤ 31 := fun q => h j (by omega) q rfl
      rw [if_neg (by rw [c_lt hj (by omega)]; omega), if_pos (by rw [c_gt hj (by omega)]; omega)]
theorem isStrength_ok (a : Int32) (C : FMem) : (∀ j, 1 ≤ j → j ≤ 9 → a = nI j → f_X8_isStrength a C = some (1, C)) ∧ ((∀ j, 1 ≤ j → j ≤ 9 → a ≠ nI j) → f_X8_isStrength a C = some (0, C)) := by
  unfold f_X8_isStrength
  constructor
  · rintro j j1 j2 rfl
    rw [if_neg (by rw [c_lt (by omega) (by omega)]; omega), if_neg (by rw [c_gt (by omega) (by omega)]; omega)]
  · intro h
    by_cases h0 : a < 1
    · rw [if_pos h0]
    · obtain ⟨j, hj, rfl⟩ := nI_of (fun q : a < 0 => h0 (Int32.lt_trans q (by decide)))
      rw [c_lt hj (by omega)] at h0
      have : ¬ j ≤ 9 := fun q => h j (by omega) q rfl
      rw [if_neg (by rw [c_lt hj (by omega)]; omega), if_pos (by rw [c_gt hj (by omega)]; omega)]
theorem op_arrange (a1 a2 a3 : Int32) : OpOK (f_X8_arrange a1 a2 a3) (f_X9_arrange a1 a2 a3) := by
  intro C M h
  have h' := h
  obtain ⟨np, hrc, hmr, hra, hrk, hrs, hrx, hrf⟩ := h
  have hp := hrc.2.1
  have hmr' := hmr
  obtain ⟨d1, d2, d3, d4, d5, n, n1, n2, n3, n4, n5⟩ := hmr
  unfold f_X8_arrange f_X9_arrange
  rcases in_ok a1 (lo := 0) (hi := 999) (by decide) (by decide) M with ⟨dd, -, hdd, rfl, hi1⟩ | ⟨hno, hi1⟩
  · have hi1' : f_X9_in (nI dd) 0 999 M = some (1, M) := hi1
    rw [hi1', bnd_ok, if_neg n10, if_neg (show ¬ nI dd < 0 from nI_pos (by omega)), if_neg (show ¬ (999 : Int32) < nI dd by rw [c_gt (by omega) (by omega)]; omega)]
    rcases in_ok a2 (lo := 1) (hi := 31) (by decide) (by decide) M with ⟨x2, x21, x22, rfl, hi2⟩ | ⟨hno2, hi2⟩
    · have hi2' : f_X9_in (nI x2) 1 31 M = some (1, M) := hi2
      rw [hi2', bnd_ok, if_neg n10, (isTopics_ok (nI x2) C).1 x2 x21 x22 rfl, bnd_ok, if_neg n10]
      rcases in_ok a3 (lo := 1) (hi := 9) (by decide) (by decide) M with ⟨x3, x31, x32, rfl, hi3⟩ | ⟨hno3, hi3⟩
      · have hi3' : f_X9_in (nI x3) 1 9 M = some (1, M) := hi3
        rw [hi3', bnd_ok, if_neg n10, (isStrength_ok (nI x3) C).1 x3 x31 x32 rfl, bnd_ok, if_neg n10, d1]
        by_cases hday : C 21 0 ≤ nI dd
        · rw [if_pos hday, if_pos hday, n2, n3]
          by_cases hf : n = 9
          · rw [if_neg (show ¬ nI n < 9 by rw [c_lt (by omega) (by omega)]; omega), if_pos (show nI n = 9 by rw [hf]; rfl)]
            exact ⟨_, _, _, rfl, rfl, h'⟩
          · rw [if_pos (show nI n < 9 by rw [c_lt (by omega) (by omega)]; omega), if_neg (show ¬ nI n = 9 by rw [c_eq (by omega) (by omega)]; omega)]
            obtain ⟨C1, M1, r1, r2, r3, r4, r5, r6⟩ := remember_ok hp hmr' hra
            have y1 : C1 23 3 = nI n := by rw [r3 23 (by omega)]; exact n2
            have em : M1 2 = M 2 := r4 2 (by decide) (by decide)
            obtain ⟨M2, s1, s2, s3, s4, s5, s6, s7⟩ := adds_ok 2 (nI dd) (nI x2) (nI x3) M1 n1 (by rw [em]; exact n3)
            rw [r1, bnd_ok, X7_add_ok 23 _ _ _ C1 (by omega) y1, bnd_ok, fset_at, nI_pred, r2, bnd_ok, s1, bnd_ok, s3, nI_pred]
            have eo : ∀ j, j ≠ 23 → j ≠ 24 → j ≠ 25 → j ≠ 26 → fset (fset (fset (fset C1 (23 + 1) n (nI dd)) (23 + 2) n (nI x2)) (23 + 3) n (nI x3)) 23 3 (nI (n + 1)) j = C1 j := fun j j1 j2 j3 j4 => by
              rw [fset_ne _ _ _ (by omega), fset_ne _ _ _ (by omega), fset_ne _ _ _ (by omega), fset_ne _ _ _ (by omega)]
            refine ⟨_, _, _, rfl, rfl, Rel.acts hrc hrk hrs hrx hrf (fun j hj => by rw [eo j (by omega) (by omega) (by omega) (by omega), r3 j (by omega)]) (fun j hj => by rw [s2 j (by omega), r4 j (by omega) (by omega)]) (fun k hk => by rw [s2 0 (by decide), r5 k (by omega)]) ?_ (r6.mv hp (fun j j1 j2 => eo j (by omega) (by omega) (by omega) (by omega)) (by rw [s2 0 (by decide)]) (s2 4 (by decide)))⟩
            have e2q : ∀ q, q < 16 → q ≠ 2 → M2 2 q = M 2 q := fun q q1 q2 => by rw [s7 q q2 (by omega), em]
            have e21 : ∀ q, fset (fset (fset (fset C1 (23 + 1) n (nI dd)) (23 + 2) n (nI x2)) (23 + 3) n (nI x3)) 23 3 (nI (n + 1)) 21 q = C 21 q := fun q => by rw [eo 21 (by decide) (by decide) (by decide) (by decide), r3 21 (by omega)]
            obtain ⟨K, b1, b2, b3⟩ := d4
            refine ⟨by rw [e2q 0 (by decide) (by decide), e21]; exact d1, by rw [e2q 1 (by decide) (by decide), e21]; exact d2, by rw [e2q 3 (by decide) (by decide), e21]; exact d3, ⟨K, b1, by rw [e21]; exact b2, fun j hj => by rw [e2q _ (by omega) (by omega)]; exact b3 j hj⟩, fun i hi => by rw [e2q _ (by omega) (by omega), eo 22 (by decide) (by decide) (by decide) (by decide), r3 22 (by omega)]; exact d5 i hi, n + 1, by omega, fset_at _ _ _ _, s3, fun j j1 j2 => by rw [e21]; exact n4 j (by omega) j2, fun q hq => ?_⟩
            have c24 : fset (fset (fset (fset C1 (23 + 1) n (nI dd)) (23 + 2) n (nI x2)) (23 + 3) n (nI x3)) 23 3 (nI (n + 1)) (21 + 3) = upd (C1 24) n (nI dd) := by
              rw [fset_ne _ _ _ (show 21 + 3 ≠ 23 by decide), fset_ne _ _ _ (show 21 + 3 ≠ 23 + 3 by decide), fset_ne _ _ _ (show 21 + 3 ≠ 23 + 2 by decide)]
              exact fset_same C1 24 n _
            have c25 : fset (fset (fset (fset C1 (23 + 1) n (nI dd)) (23 + 2) n (nI x2)) (23 + 3) n (nI x3)) 23 3 (nI (n + 1)) (21 + 4) = upd (C1 25) n (nI x2) := by
              rw [fset_ne _ _ _ (show 21 + 4 ≠ 23 by decide), fset_ne _ _ _ (show 21 + 4 ≠ 23 + 3 by decide)]
              refine (fset_same _ 25 n _).trans ?_
              rw [fset_ne _ _ _ (show 25 ≠ 23 + 1 by decide)]
            have c26 : fset (fset (fset (fset C1 (23 + 1) n (nI dd)) (23 + 2) n (nI x2)) (23 + 3) n (nI x3)) 23 3 (nI (n + 1)) (21 + 5) = upd (C1 26) n (nI x3) := by
              rw [fset_ne _ _ _ (show 21 + 5 ≠ 23 by decide)]
              refine (fset_same _ 26 n _).trans ?_
              rw [fset_ne _ _ _ (show 26 ≠ 23 + 2 by decide), fset_ne _ _ _ (show 26 ≠ 23 + 1 by decide)]
            rw [c24, c25, c26]
            by_cases eq : q = n
            · subst eq
              rw [upd_same, upd_same, upd_same]
              exact ⟨s4, s5, s6⟩
            · rw [upd_ne _ _ eq, upd_ne _ _ eq, upd_ne _ _ eq, s7 _ (by omega) (by omega), s7 _ (by omega) (by omega), s7 _ (by omega) (by omega), em, r3 24 (by omega), r3 25 (by omega), r3 26 (by omega)]
              exact n5 q (by omega)
        · rw [if_neg hday, if_neg hday]
          exact ⟨_, _, _, rfl, rfl, h'⟩
      · have hi3' : f_X9_in a3 1 9 M = some (0, M) := hi3
        rw [hi3', bnd_ok, if_pos rfl, (isStrength_ok a3 C).2 hno3, bnd_ok, if_pos rfl]
        exact ⟨_, _, _, rfl, rfl, h'⟩
    · have hi2' : f_X9_in a2 1 31 M = some (0, M) := hi2
      rw [hi2', bnd_ok, if_pos rfl, (isTopics_ok a2 C).2 hno2, bnd_ok, if_pos rfl]
      exact ⟨_, _, _, rfl, rfl, h'⟩
  · have hi1' : f_X9_in a1 0 999 M = some (0, M) := hi1
    rw [hi1', bnd_ok, if_pos rfl]
    refine ⟨-1, C, M, ?_, rfl, h'⟩
    by_cases h0 : a1 < 0
    · rw [if_pos h0]
    · obtain ⟨j, hj, rfl⟩ := nI_of h0
      have : ¬ j ≤ 999 := fun q => hno j (by omega) q rfl
      rw [if_neg h0, if_pos (show (999 : Int32) < nI j by rw [c_gt hj (by omega)]; omega)]
/-! undo, keep, back -/
theorem undo_loop (M : FMem) {s : Nat} (hs : s < 8) (h5 : M 0 5 = nI s) : ∀ (m k f : Nat) (Mk : FMem), k + m = 46 → m < f → (∀ j, j ≠ 2 → Mk j = M j) → (∀ q, q < k → Mk 2 q = M 4 (46 * s + q)) → ∃ M', X9_undo_b22 f (nI k) Mk = some (nI s, M') ∧ (∀ j, j ≠ 2 → M' j = M j) ∧ ∀ q, q < 46 → M' 2 q = M 4 (46 * s + q) := by
  intro m
  induction m with
  | zero =>
    intro k f Mk hk hf h1 h2
    obtain ⟨g, rfl, -⟩ := fu_s hf
    have hk : k = 46 := by omega
    subst hk
    refine ⟨Mk, ?_, h1, h2⟩
    show X9_undo_b22s (X9_undo_b22 g) _ Mk = _
    unfold X9_undo_b22s
    rw [if_pos (by decide), h1 0 (by decide), h5]
  | succ m ih =>
    intro k f Mk hk hf h1 h2
    obtain ⟨g, rfl, hg⟩ := fu_s hf
    obtain ⟨M', e, r⟩ := ih (k + 1) g (fset Mk 2 k (M 4 (46 * s + k))) (by omega) (by omega) (fun j hj => by rw [fset_ne _ _ _ hj, h1 j hj]) (fun q hq => by
      rw [fset_same]
      by_cases h : q = k
      · rw [h, upd_same]
      · rw [upd_ne _ _ h]; exact h2 q (by omega))
    refine ⟨M', ?_, r⟩
    show X9_undo_b22s (X9_undo_b22 g) _ Mk = _
    unfold X9_undo_b22s
    have e46 : (46 : Int32) * nI s + nI k = nI (46 * s + k) := by rw [show (46 : Int32) * nI s = nI (46 * s) from pk_mul 46 s]; exact nI_add _ _
    rw [if_neg (by rw [c_le (by omega) (by omega)]; omega), h1 0 (by decide), h5, e46, grd_ok (inb_t (by omega) (by omega)), grd_ok (inb_t (by omega) (by omega)), bindm_ok, nI_clamp (by omega), nI_clamp (by omega), h1 4 (by decide), nI_1]
    exact e
theorem back_loop (M : FMem) {s : Nat} (hs : s < 2) (h7 : M 0 7 = nI s) : ∀ (m k f : Nat) (Mk : FMem), k + m = 46 → m < f → (∀ j, j ≠ 2 → Mk j = M j) → (∀ q, q < k → Mk 2 q = M 5 (46 * s + q)) → ∃ M', X9_back_b22 f (nI k) Mk = some (nI s, fset M' 0 5 0) ∧ (∀ j, j ≠ 2 → M' j = M j) ∧ ∀ q, q < 46 → M' 2 q = M 5 (46 * s + q) := by
  intro m
  induction m with
  | zero =>
    intro k f Mk hk hf h1 h2
    obtain ⟨g, rfl, -⟩ := fu_s hf
    have hk : k = 46 := by omega
    subst hk
    refine ⟨Mk, ?_, h1, h2⟩
    show X9_back_b22s (X9_back_b22 g) _ Mk = _
    unfold X9_back_b22s
    rw [if_pos (by decide), bindm_ok, fset_slot _ _ _ _ (by decide), h1 0 (by decide), h7]
  | succ m ih =>
    intro k f Mk hk hf h1 h2
    obtain ⟨g, rfl, hg⟩ := fu_s hf
    obtain ⟨M', e, r⟩ := ih (k + 1) g (fset Mk 2 k (M 5 (46 * s + k))) (by omega) (by omega) (fun j hj => by rw [fset_ne _ _ _ hj, h1 j hj]) (fun q hq => by
      rw [fset_same]
      by_cases h : q = k
      · rw [h, upd_same]
      · rw [upd_ne _ _ h]; exact h2 q (by omega))
    refine ⟨M', ?_, r⟩
    show X9_back_b22s (X9_back_b22 g) _ Mk = _
    unfold X9_back_b22s
    have e46 : (46 : Int32) * nI s + nI k = nI (46 * s + k) := by rw [show (46 : Int32) * nI s = nI (46 * s) from pk_mul 46 s]; exact nI_add _ _
    rw [if_neg (by rw [c_le (by omega) (by omega)]; omega), h1 0 (by decide), h7, e46, grd_ok (inb_t (by omega) (by omega)), grd_ok (inb_t (by omega) (by omega)), bindm_ok, nI_clamp (by omega), nI_clamp (by omega), h1 5 (by decide), nI_1]
    exact e
theorem op_undo : OpOK f_X8_undo f_X9_undo := by
  intro C M h
  have h' := h
  obtain ⟨np, hrc, hmr, ⟨na, o, a1, a2, a3, a4, a5, a6⟩, hrk, hrs, hrx, hrf⟩ := h
  have hp := hrc.2.1
  unfold f_X8_undo f_X9_undo
  by_cases h0 : na = 0
  · subst h0
    unfold f_X5_takeInto
    rw [a4, if_pos (by decide), bnd_ok, if_pos rfl, a5, if_pos (by decide)]
    exact ⟨_, _, _, rfl, rfl, h'⟩
  · obtain ⟨s, rfl⟩ : ∃ s, na = s + 1 := ⟨na - 1, by omega⟩
    have hlast := a6 s (by omega)
    have hpl : (o + s) % 8 < 8 := Nat.mod_lt _ (by omega)
    have hlast' := hlast
    obtain ⟨-, -, -, -, -, m, m1, m2, -, -, -⟩ := hlast
    obtain ⟨C1, e1, b1, b2, b3, b4⟩ := take_ok (Or.inl ⟨rfl, rfl⟩) C a2 (show s < 8 by omega) a3 a4 m1 m2
    obtain ⟨M1, e2, c1, c2⟩ := undo_loop (fset M 0 5 (nI s)) (s := s) (by omega) (fset_at _ _ _ _) 46 0 FU _ rfl (FU_gt (by decide)) (fun _ _ => rfl) (fun _ h => by omega)
    have e2' : X9_undo_b22 FU 0 (fset M 0 5 (nI s)) = some (nI s, M1) := e2
    rw [e1, bnd_ok, if_neg n10, b3, a5, if_neg (show ¬ nI (s + 1) = 0 from nI_ne0 (by omega) (by omega)), nI_pred, bindm_ok, e2']
    have c4 : ∀ q, q < 46 → M1 2 q = M 4 (46 * s + q) := fun q hq => by rw [c2 q hq, fset_ne _ _ _ (by decide)]
    refine ⟨_, _, _, rfl, rfl, Rel.acts hrc hrk hrs hrx hrf (fun j hj => b1 j (by omega) (by omega)) (fun j hj => by rw [c1 j (by omega), fset_ne _ _ _ (by omega)]) (fun k hk => by rw [c1 0 (by decide), fset_slot _ _ _ _ (by omega)]) ?_ ⟨s, o, by omega, a2, b2, b3, by rw [c1 0 (by decide), fset_at], fun k hk => ?_⟩⟩
    · exact (b4 np _ hp hlast').rows rfl rfl rfl rfl rfl rfl hp (fun j hj => c4 j hj)
    · have hpk : (o + k) % 8 < 8 := Nat.mod_lt _ (by omega)
      exact (a6 k (by omega)).rows (b1 _ (by omega) (by omega)) (b1 _ (by omega) (by omega)) (b1 _ (by omega) (by omega)) (b1 _ (by omega) (by omega)) (b1 _ (by omega) (by omega)) (b1 _ (by omega) (by omega)) hp (fun j hj => by rw [c1 4 (by decide), fset_ne _ _ _ (by decide)])
