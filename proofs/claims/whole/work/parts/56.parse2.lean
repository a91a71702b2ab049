theorem mNums {tx : Nat → Int32} {nt c : Nat} (hc : c ≤ 3) : ∀ (m i q f : Nat) (M : FMem), i + m = c → m < f → q + 4 * m < 2 ^ 19 → TXm M tx nt → M 0 13 = nI q →
    ∃ M', X9_readNumbers_b2 f (nI c) (nI i) M = some (b2i (pn tx nt m q).isSome, M') ∧ (∀ j, j ≠ 0 → j ≠ 8 → M' j = M j) ∧ (∀ k, k ≠ 13 → M' 0 k = M 0 k) ∧ (∀ j, j < i → M' 8 j = M 8 j) ∧ ∀ r, pn tx nt m q = some r → M' 0 13 = nI r.1 ∧ ∀ j, j < m → M' 8 (i + j) = nI (r.2.getD j 0) := by
  intro m
  induction m with
  | zero =>
    intro i q f M hi hf hq h h13
    obtain ⟨g, rfl, -⟩ := fu_s hf
    refine ⟨M, ?_, fun _ _ _ => rfl, fun _ _ => rfl, fun _ _ => rfl, fun r hr => by cases hr; exact ⟨h13, fun j hj => by omega⟩⟩
    show X9_readNumbers_b2s (X9_readNumbers_b2 g) _ _ M = _
    unfold X9_readNumbers_b2s
    rw [if_pos (by rw [nI_leI (by omega) (by omega)]; omega)]
    rfl
  | succ m ih =>
    intro i q f M hi hf hq h h13
    obtain ⟨g, rfl, hg⟩ := fu_s hf
    show ∃ M', X9_readNumbers_b2s (X9_readNumbers_b2 g) _ _ M = _ ∧ _
    unfold X9_readNumbers_b2s
    rw [if_neg (by rw [nI_leI (by omega) (by omega)]; omega), h13, mLetter h (by omega), bnd_ok, mFig, bnd_ok]
    cases h1 : isF (LT tx nt q) with
    | false =>
      rw [if_pos (show b2i false = 0 by decide)]
      have e : pn tx nt (m + 1) q = none := by
        show (if isF (LT tx nt q) = true then _ else _) = _
        rw [if_neg (by rw [h1]; decide)]
      rw [e]
      exact ⟨M, rfl, fun _ _ _ => rfl, fun _ _ => rfl, fun _ _ => rfl, fun r hr => by cases hr⟩
    | true =>
      have hsep : (nI c - 1 ≤ nI i) ↔ m = 0 := by
        have : nI c - 1 = nI (c - 1) := pk_sub (show 1 ≤ c by omega)
        rw [this, nI_leI (by omega) (by omega)]
        omega
      -- behind the figures
      have go : ∀ (Mk : FMem) (len : Nat), len = pl1 tx nt q → (∀ j, j ≠ 0 → j ≠ 8 → Mk j = M j) → (∀ k, k ≠ 13 → Mk 0 k = M 0 k) → Mk 0 13 = nI (q + len) → (∀ j, j < i → Mk 8 j = M 8 j) → Mk 8 i = nI (pv1 tx nt q) →
          ∃ M', X9_readNumbers_b101 (X9_readNumbers_b2 g) (nI c) (nI i) Mk = some (b2i (pn tx nt (m + 1) q).isSome, M') ∧ (∀ j, j ≠ 0 → j ≠ 8 → M' j = M j) ∧ (∀ k, k ≠ 13 → M' 0 k = M 0 k) ∧ (∀ j, j < i → M' 8 j = M 8 j) ∧ ∀ r, pn tx nt (m + 1) q = some r → M' 0 13 = nI r.1 ∧ ∀ j, j < m + 1 → M' 8 (i + j) = nI (r.2.getD j 0) := by
        intro Mk len hlen k1 k2 k3 k4 k5
        have hl2 : len ≤ 2 := by rw [hlen]; unfold pl1; split <;> omega
        have hk : TXm Mk tx nt := h.mv (k2 12 (by decide)) (k1 7 (by decide) (by decide))
        unfold X9_readNumbers_b101
        rw [k3, mLetter hk (by omega), bnd_ok]
        have e1 : (if nI c - 1 ≤ nI i then X9_readNumbers_b123 (X9_readNumbers_b2 g) (nI c) (nI i) (LT tx nt (q + len)) 59 Mk else X9_readNumbers_b123 (X9_readNumbers_b2 g) (nI c) (nI i) (LT tx nt (q + len)) 44 Mk) = X9_readNumbers_b123 (X9_readNumbers_b2 g) (nI c) (nI i) (LT tx nt (q + len)) (if m = 0 then 59 else 44) Mk := by
          by_cases hm : m = 0
          · rw [if_pos (hsep.mpr hm), if_pos hm]
          · rw [if_neg (fun hh => hm (hsep.mp hh)), if_neg hm]
        rw [e1]
        unfold X9_readNumbers_b123
        by_cases h2 : LT tx nt (q + len) = (if m = 0 then 59 else 44)
        · have ep : pn tx nt (m + 1) q = pnc (pv1 tx nt q) (pn tx nt m (q + len + 1)) := by
            rw [hlen] at h2 ⊢
            show (if isF (LT tx nt q) = true then _ else _) = _
            rw [if_pos h1, if_pos h2]
          rw [if_pos h2, bindm_ok, k3, nI_1, nI_1]
          obtain ⟨M', e2, a1, a2, a3, a4⟩ := ih (i + 1) (q + len + 1) g (fset Mk 0 13 (nI (q + len + 1))) (by omega) (by omega) (by omega) (hk.mv (by rw [fset_slot _ _ _ _ (by decide)]) (by rw [fset_ne _ _ _ (by decide)])) (fset_at _ _ _ _)
          rw [e2, ep]
          refine ⟨M', ?_, fun j j1 j2 => by rw [a1 j j1 j2, fset_ne _ _ _ j1, k1 j j1 j2], fun k hk1 => by rw [a2 k hk1, fset_slot _ _ _ _ hk1, k2 k hk1], fun j hj => by rw [a3 j (by omega), fset_ne _ _ _ (by decide), k4 j hj], fun r hr => ?_⟩
          · cases pn tx nt m (q + len + 1) <;> rfl
          · cases h3 : pn tx nt m (q + len + 1) with
            | none => rw [h3] at hr; cases hr
            | some s =>
              rw [h3] at hr
              cases hr
              obtain ⟨b1, b2⟩ := a4 s h3
              refine ⟨b1, fun j hj => ?_⟩
              cases j with
              | zero =>
                show M' 8 i = nI (pv1 tx nt q)
                rw [a3 i (by omega), fset_ne _ _ _ (by decide), k5]
              | succ j =>
                have := b2 j (by omega)
                rw [show i + (j + 1) = i + 1 + j by omega, this]
                rfl
        · have ep : pn tx nt (m + 1) q = none := by
            rw [hlen] at h2
            show (if isF (LT tx nt q) = true then _ else _) = _
            rw [if_pos h1, if_neg h2]
          rw [if_neg h2, ep]
          exact ⟨Mk, rfl, k1, k2, k4, fun r hr => by cases hr⟩
      have d1 := dig 0 (fgv (LT tx nt q))
      rw [← (isF_v h1).1, show 10 * 0 + fgv (LT tx nt q) = fgv (LT tx nt q) by omega, show (10 : Int32) * nI 0 = 0 by decide, Int32.zero_add] at d1
      rw [if_neg (show ¬ b2i true = 0 by decide), h13, mLetter h (by omega), bnd_ok, grd_ok (inb_t (by omega) (by omega)), nI_clamp (by omega), bindm_ok, bindm_ok, d1]
      generalize hM1 : fset (fset M 8 i (nI (fgv (LT tx nt q)))) 0 13 (fset M 8 i (nI (fgv (LT tx nt q))) 0 13 + 1) = M1
      have m13 : M1 0 13 = nI (q + 1) := by rw [← hM1, fset_at, fset_ne _ _ _ (by decide), h13, nI_1]
      have m0 : ∀ k, k ≠ 13 → M1 0 k = M 0 k := fun k hk => by rw [← hM1, fset_slot _ _ _ _ hk, fset_ne _ _ _ (by decide)]
      have m8 : M1 8 = upd (M 8) i (nI (fgv (LT tx nt q))) := by rw [← hM1, fset_ne _ _ _ (by decide), fset_same]
      have mj : ∀ j, j ≠ 0 → j ≠ 8 → M1 j = M j := fun j j1 j2 => by rw [← hM1, fset_ne _ _ _ j1, fset_ne _ _ _ j2]
      have h1x : TXm M1 tx nt := h.mv (m0 12 (by decide)) (mj 7 (by decide) (by decide))
      rw [m13, mLetter h1x (by omega), bnd_ok, mFig, bnd_ok]
      cases h2 : isF (LT tx nt (q + 1)) with
      | false =>
        rw [if_pos (show b2i false = 0 by decide)]
        refine go M1 1 (by unfold pl1; rw [if_neg (by rw [h2]; decide)]) mj m0 m13 (fun j hj => by rw [m8, upd_ne _ _ (by omega)]) ?_
        rw [m8, upd_same]
        unfold pv1
        rw [if_neg (by rw [h2]; decide)]
      | true =>
        have d2 := dig (fgv (LT tx nt q)) (fgv (LT tx nt (q + 1)))
        rw [← (isF_v h2).1] at d2
        rw [if_neg (show ¬ b2i true = 0 by decide), grd_ok (inb_t (by omega) (by omega)), m13, mLetter h1x (by omega), bnd_ok, grd_ok (inb_t (by omega) (by omega)), bindm_ok, bindm_ok, m8, upd_same, d2]
        refine go _ 2 (by unfold pl1; rw [if_pos h2]) (fun j j1 j2 => by rw [fset_ne _ _ _ j1, fset_ne _ _ _ j2, mj j j1 j2]) (fun k hk => by rw [fset_slot _ _ _ _ hk, fset_ne _ _ _ (by decide), m0 k hk]) (by rw [fset_at, fset_ne _ _ _ (by decide), m13, nI_1]) (fun j hj => by rw [fset_ne _ _ _ (by decide), fset_slot _ _ _ _ (by omega), m8, upd_ne _ _ (by omega)]) ?_
        rw [fset_ne _ _ _ (by decide), fset_at]
        unfold pv1
        rw [if_pos h2]
/-- what has been told so far, in both -/
def DS (t : Nat) (C M : FMem) : Prop := ∃ P n, P ≤ 6 ∧ n ≤ 9 ∧ C t 3 = nI P ∧ M 0 15 = nI P ∧ fdOK (C t 5) ∧ M 0 17 = C t 5 ∧ (∀ i, i < P → (∃ ta, ta < 32 ∧ C (t + 2) i = nI ta) ∧ M 9 (3 * i) = C (t + 1) i ∧ M 9 (3 * i + 1) = C (t + 2) i ∧ M 9 (3 * i + 2) = C (t + 3) i) ∧
  C (t + 4) 3 = nI n ∧ M 10 2 = nI n ∧ (∀ j, j < 16 → j ≠ 2 → M 10 j = 0) ∧ ∀ k, k < n → M 10 (16 + 3 * k) = C (t + 5) k ∧ M 10 (16 + 3 * k + 1) = C (t + 6) k ∧ M 10 (16 + 3 * k + 2) = C (t + 7) k
theorem DS.mv {t : Nat} {C C' M M' : FMem} (h : DS t C M) (hC : ∀ j, t ≤ j → j < t + 8 → C' j = C j) (h15 : M' 0 15 = M 0 15) (h17 : M' 0 17 = M 0 17) (h9 : M' 9 = M 9) (h10 : M' 10 = M 10) : DS t C' M' := by
  unfold DS
  rw [hC t (by omega) (by omega), hC (t + 1) (by omega) (by omega), hC (t + 2) (by omega) (by omega), hC (t + 3) (by omega) (by omega), hC (t + 4) (by omega) (by omega), hC (t + 5) (by omega) (by omega), hC (t + 6) (by omega) (by omega), hC (t + 7) (by omega) (by omega), h15, h17, h9, h10]
  exact h
theorem told_ok {M : FMem} {i a : Nat} (hi : i < 3) (ha : a ≤ 99) (h : M 8 i = nI a) (lo hi' : Nat) (hl : lo < 2 ^ 31) (hh : hi' < 2 ^ 31) : f_X9_isTold (nI i) (nI lo) (nI hi') M = some (b2i (decide (lo ≤ a ∧ a ≤ hi')), M) := by
  unfold f_X9_isTold f_X9_in
  rw [grd_ok (inb_t hi (by omega)), nI_clamp (by omega), h]
  by_cases h1 : a < lo
  · rw [if_pos (by rw [nI_ltI (by omega) hl]; exact h1), decide_eq_false (by omega)]
    rfl
  · rw [if_neg (by rw [nI_ltI (by omega) hl]; exact h1)]
    by_cases h2 : hi' < a
    · rw [if_pos (by rw [nI_ltI hh (by omega)]; exact h2), decide_eq_false (by omega)]
      rfl
    · rw [if_neg (by rw [nI_ltI hh (by omega)]; exact h2), decide_eq_true (by omega)]
      rfl
