theorem op_keep : OpOK f_X8_keep f_X9_keep := by
  intro C M h
  have h' := h
  obtain ⟨np, hrc, hmr, hra, ⟨nk, k1, k2, k3, k4, k5⟩, hrs, hrx, hrf⟩ := h
  have hp := hrc.2.1
  unfold f_X8_keep f_X9_keep
  by_cases hf : nk = 2
  · subst hf
    rw [k3, k4, if_neg (by decide), if_pos (by decide)]
    exact ⟨_, _, _, rfl, rfl, h'⟩
  · have hmr' := hmr
    obtain ⟨-, -, -, -, -, m, m1, m2, -, -, -⟩ := hmr
    obtain ⟨C', o', s', q1, -, q3, q4, q5, q6, q7, q8, q9⟩ := put_ok (o := 0) (Or.inr ⟨rfl, rfl⟩) C (by decide) k1 k2 k3 m1 m2
    obtain ⟨e1, e2⟩ := q1 (by omega)
    subst e1; subst e2
    have hmod : (0 + s') % 2 = s' := by rw [Nat.zero_add, Nat.mod_eq_of_lt (by omega)]
    rw [hmod] at q6 q9
    obtain ⟨M1, f1, a1, b1, c1⟩ := X9_put_ok 5 92 2 46 (by decide) M (a := 46 * s') (c := 46) (by decide) (by omega) (by decide)
    have e46 : (46 : Int32) * nI s' = nI (46 * s') := pk_mul 46 s'
    have f1' : f_X9_put 5 92 2 46 (nI (46 * s')) 46 M = some (0, M1) := f1
    rw [k3, k4, if_pos (show nI s' < 2 by rw [c_lt (by omega) (by omega)]; omega), q5, bnd_ok, q8, if_neg (show ¬ nI s' = 2 by rw [c_eq (by omega) (by omega)]; omega), e46, f1', bnd_ok, bindm_ok, a1 0 (by decide), k4, nI_1, fset_at]
    have hc : ∀ j, (j < 77 ∨ 91 ≤ j) → C' j = C j := fun j hj => q6 j (by omega) (by omega)
    refine ⟨_, _, _, rfl, rfl, np, hrc.mv (hc _ (by omega)) (hc _ (by omega)) (hc _ (by omega)) (hc _ (by omega)) (by rw [fset_slot _ _ _ _ (by decide), a1 0 (by decide)]) (by rw [fset_slot _ _ _ _ (by decide), a1 0 (by decide)]) (by rw [fset_ne _ _ _ (by decide), a1 1 (by decide)]), hmr'.mv hp (fun j j1 j2 => hc j (by omega)) (by rw [fset_ne _ _ _ (by decide), a1 2 (by decide)]), hra.mv hp (fun j j1 j2 => hc j (by omega)) (by rw [fset_slot _ _ _ _ (by decide), a1 0 (by decide)]) (by rw [fset_ne _ _ _ (by decide), a1 4 (by decide)]), ⟨s' + 1, by omega, q7, q8, fset_at _ _ _ _, fun k hk => ?_⟩, hrs.mv (hc _ (by omega)) (hc _ (by omega)) (hc _ (by omega)) (by rw [fset_slot _ _ _ _ (by decide), a1 0 (by decide)]) (by rw [fset_ne _ _ _ (by decide), a1 6 (by decide)]), hrx.mv (hc _ (by omega)) (hc _ (by omega)) (by rw [fset_slot _ _ _ _ (by decide), a1 0 (by decide)]) (by rw [fset_ne _ _ _ (by decide), a1 7 (by decide)]), hrf.mv (hc _ (by omega)) (hc _ (by omega)) (hc _ (by omega)) (hc _ (by omega)) (by rw [fset_ne _ _ _ (by decide), a1 3 (by decide)])⟩
    by_cases hks : k = s'
    · subst hks
      refine (q9 np (M 2) hp hmr').rows rfl rfl rfl rfl rfl rfl hp (fun j hj => ?_)
      rw [fset_ne _ _ _ (by decide)]
      exact b1 j hj
    · refine (k5 k (by omega)).rows (q6 _ (by omega) (by omega)) (q6 _ (by omega) (by omega)) (q6 _ (by omega) (by omega)) (q6 _ (by omega) (by omega)) (q6 _ (by omega) (by omega)) (q6 _ (by omega) (by omega)) hp (fun j hj => ?_)
      rw [fset_ne _ _ _ (by decide)]
      exact c1 _ (Or.inl (by omega))
theorem op_back : OpOK f_X8_back f_X9_back := by
  intro C M h
  have h' := h
  obtain ⟨np, hrc, hmr, hra, ⟨nk, k1, k2, k3, k4, k5⟩, hrs, hrx, hrf⟩ := h
  have hp := hrc.2.1
  unfold f_X8_back f_X9_back
  by_cases h0 : nk = 0
  · subst h0
    unfold f_X5_takeInto
    rw [k3, if_pos (by decide), bnd_ok, if_pos rfl, k4, if_pos (by decide)]
    exact ⟨_, _, _, rfl, rfl, h'⟩
  · obtain ⟨s, rfl⟩ : ∃ s, nk = s + 1 := ⟨nk - 1, by omega⟩
    have hlast := k5 s (by omega)
    have hlast' := hlast
    obtain ⟨-, -, -, -, -, m, m1, m2, -, -, -⟩ := hlast
    have hmod : (0 + s) % 2 = s := by rw [Nat.zero_add, Nat.mod_eq_of_lt (by omega)]
    obtain ⟨C1, e1, b1, b2, b3, b4⟩ := take_ok (o := 0) (Or.inr ⟨rfl, rfl⟩) C (by decide) (show s < 2 by omega) k2 k3 m1 (by rw [hmod]; exact m2)
    rw [hmod] at b4
    obtain ⟨M1, e2, c1, c2⟩ := back_loop (fset M 0 7 (nI s)) (s := s) (by omega) (fset_at _ _ _ _) 46 0 FU _ rfl (FU_gt (by decide)) (fun _ _ => rfl) (fun _ h => by omega)
    have e2' : X9_back_b22 FU 0 (fset M 0 7 (nI s)) = some (nI s, fset M1 0 5 0) := e2
    unfold f_X5_clear
    have ec : ∀ j, j ≠ 27 → fset (fset C1 27 1 0) 27 2 0 j = C1 j := fun j hj => by rw [fset_ne _ _ _ hj, fset_ne _ _ _ hj]
    rw [e1, bnd_ok, if_neg n10, bindm_ok, bindm_ok, bnd_ok, ec 77 (by decide), b3, k4, if_neg (show ¬ nI (s + 1) = 0 from nI_ne0 (by omega) (by omega)), nI_pred, bindm_ok, e2']
    have c4 : ∀ q, q < 46 → M1 2 q = M 5 (46 * s + q) := fun q hq => by rw [c2 q hq, fset_ne _ _ _ (by decide)]
    have hc : ∀ j, j ≠ 27 → j ≠ 77 → (j < 21 ∨ 27 ≤ j) → fset (fset C1 27 1 0) 27 2 0 j = C j := fun j j1 j2 j3 => by rw [ec j j1, b1 j j2 j3]
    have hm : ∀ j, j ≠ 0 → j ≠ 2 → fset M1 0 5 0 j = M j := fun j j1 j2 => by rw [fset_ne _ _ _ j1, c1 j j2, fset_ne _ _ _ j1]
    have hm0 : ∀ k, k ≠ 5 → k ≠ 7 → fset M1 0 5 0 0 k = M 0 k := fun k j1 j2 => by rw [fset_slot _ _ _ _ j1, c1 0 (by decide), fset_slot _ _ _ _ j2]
    refine ⟨_, _, _, rfl, rfl, np, hrc.mv (hc _ (by omega) (by omega) (by omega)) (hc _ (by omega) (by omega) (by omega)) (hc _ (by omega) (by omega) (by omega)) (hc _ (by omega) (by omega) (by omega)) (hm0 _ (by decide) (by decide)) (hm0 _ (by decide) (by decide)) (hm _ (by decide) (by decide)), ?_, ⟨0, 0, by omega, by omega, ?_, fset_at _ _ _ _, fset_at _ _ _ _, fun k hk => by omega⟩, ⟨s, by omega, ?_, ?_, ?_, fun k hk => ?_⟩, hrs.mv (hc _ (by omega) (by omega) (by omega)) (hc _ (by omega) (by omega) (by omega)) (hc _ (by omega) (by omega) (by omega)) (hm0 _ (by decide) (by decide)) (hm _ (by decide) (by decide)), hrx.mv (hc _ (by omega) (by omega) (by omega)) (hc _ (by omega) (by omega) (by omega)) (hm0 _ (by decide) (by decide)) (hm _ (by decide) (by decide)), hrf.mv (hc _ (by omega) (by omega) (by omega)) (hc _ (by omega) (by omega) (by omega)) (hc _ (by omega) (by omega) (by omega)) (hc _ (by omega) (by omega) (by omega)) (hm _ (by decide) (by decide))⟩
    · exact (b4 np _ hp hlast').rows (ec _ (by decide)) (ec _ (by decide)) (ec _ (by decide)) (ec _ (by decide)) (ec _ (by decide)) (ec _ (by decide)) hp (fun j hj => by rw [fset_ne _ _ _ (by decide)]; exact c4 j hj)
    · rw [fset_slot _ _ _ _ (by decide), fset_at]; rfl
    · rw [ec 77 (by decide), b2]; rfl
    · rw [ec 77 (by decide), b3]
    · rw [fset_slot _ _ _ _ (by decide), c1 0 (by decide), fset_at]
    · refine (k5 k (by omega)).rows (hc _ (by omega) (by omega) (by omega)) (hc _ (by omega) (by omega) (by omega)) (hc _ (by omega) (by omega) (by omega)) (hc _ (by omega) (by omega) (by omega)) (hc _ (by omega) (by omega) (by omega)) (hc _ (by omega) (by omega) (by omega)) hp (fun j hj => by rw [hm 5 (by decide) (by decide)])
/-! pass -/
theorem addReigned_ok (C : FMem) {p : Nat} (hp : p < 6) : f_X1_addReigned 21 (nI p) C = some (0, fset C 22 p (C 22 p + 1)) := by
  unfold f_X1_addReigned
  rw [if_neg (nI_pos (by omega)), if_neg (by rw [c_le (by omega) (by omega)]; omega), grd_ok (inb_t (by omega) (by omega)), grd_ok (inb_t (by omega) (by omega)), bindm_ok, nI_clamp (by omega)]
theorem pass_loop {C C1 : FMem} {np hm D : Nat} {G : Nat → Nat → Int32} {q : Nat × Int32} (hcl : ClOK C1 np hm G) (h94 : ∀ j, j < 94 → C1 j = C j) (hq : q.1 < np) (hD : D ≤ hm) : ∀ (m d f : Nat) (Ck : FMem), d + m = D → m < f → (∀ j, j ≠ 98 → j ≠ 22 → Ck j = C1 j) → (∀ i, i < 6 → Ck 22 i = C 22 i + nI (bc (fun e => decide (i = (rn np id (C 15) (C 12 5) G q e).1)) d)) → RG Ck np id (rn np id (C 15) (C 12 5) G q d) →
    ∃ C', X8_pass_b62 f (nI D) (nI (bc (bl np id (C 15) (C 12 5) G q) d)) (nI d) Ck = some (nI (bc (bl np id (C 15) (C 12 5) G q) D), C') ∧ (∀ j, j ≠ 98 → j ≠ 22 → j ≠ 21 → C' j = C1 j) ∧ (∀ i, i < 6 → C' 22 i = C 22 i + nI (bc (fun e => decide (i = (rn np id (C 15) (C 12 5) G q e).1)) D)) ∧ C' 21 0 = C 21 0 + nI D ∧ C' 21 1 = nI (rn np id (C 15) (C 12 5) G q D).1 ∧ C' 21 2 = (rn np id (C 15) (C 12 5) G q D).2 ∧ C' 21 3 = C 21 3 := by
  have hp6 := hcl.1
  intro m
  induction m with
  | zero =>
    intro d f Ck hd hf h1 h2 h3
    obtain ⟨g, rfl, -⟩ := fu_s hf
    have hd : d = D := by omega
    subst hd
    have e21 : Ck 21 = C 21 := by rw [h1 21 (by decide) (by decide), h94 21 (by decide)]
    have hr : f_X3_reigning (fset Ck 21 0 (Ck 21 0 + nI d)) = some (nI (rn np id (C 15) (C 12 5) G q d).1, fset Ck 21 0 (Ck 21 0 + nI d)) := by
      refine reigning_ok (ln := id) (q := rn np id (C 15) (C 12 5) G q d) hp6 ?_
      obtain ⟨r1, r2, r3, r4⟩ := h3
      exact ⟨by rw [fset_ne _ _ _ (by decide)]; exact r1, r2, by rw [fset_ne _ _ _ (by decide)]; exact r3, fun j hj => by rw [fset_ne _ _ _ (by decide)]; exact r4 j hj⟩
    show ∃ C', X8_pass_b62s (X8_pass_b62 g) (nI d) _ (nI d) Ck = _ ∧ _
    unfold X8_pass_b62s
    rw [if_pos (Int32.le_refl _), bindm_ok, hr, bnd_ok, bindm_ok, bindm_ok, e21]
    have e98 : fset (fset Ck 21 0 (C 21 0 + nI d)) 21 1 (nI (rn np id (C 15) (C 12 5) G q d).1) 98 4 = (rn np id (C 15) (C 12 5) G q d).2 := by rw [fset_ne _ _ _ (by decide), fset_ne _ _ _ (by decide)]; exact h3.2.2.1
    rw [e98]
    refine ⟨_, rfl, fun j j1 j2 j3 => by rw [fset_ne _ _ _ j3, fset_ne _ _ _ j3, fset_ne _ _ _ j3, h1 j j1 j2], fun i hi => by rw [fset_ne _ _ _ (by decide), fset_ne _ _ _ (by decide), fset_ne _ _ _ (by decide)]; exact h2 i hi, ?_, ?_, fset_at _ _ _ _, ?_⟩
    · rw [fset_slot _ _ _ _ (by decide), fset_slot _ _ _ _ (by decide), fset_at]
    · rw [fset_slot _ _ _ _ (by decide), fset_at]
    · rw [fset_slot _ _ _ _ (by decide), fset_slot _ _ _ _ (by decide), fset_slot _ _ _ _ (by decide), e21]
  | succ m ih =>
    intro d f Ck hd hf h1 h2 h3
    obtain ⟨g, rfl, hg⟩ := fu_s hf
    have hh61 := hcl.2.2.2.1
    have hlt : (rn np id (C 15) (C 12 5) G q d).1 < np := rn_lt hq d
    generalize hCa : fset Ck 22 (rn np id (C 15) (C 12 5) G q d).1 (Ck 22 (rn np id (C 15) (C 12 5) G q d).1 + 1) = Ca
    have ka : ∀ j, j ≠ 22 → Ca j = Ck j := fun j hj => by rw [← hCa, fset_ne _ _ _ hj]
    have hcl2 : ClOK (rset C1 22 (Ca 22)) np hm G := hcl.mv (rset_ne _ _ (by decide)) (rset_ne _ _ (by decide)) (rset_ne _ _ (by decide))
    have h3a : RG Ca np id (rn np id (C 15) (C 12 5) G q d) := by
      obtain ⟨r1, r2, r3, r4⟩ := h3
      exact ⟨by rw [ka 98 (by decide)]; exact r1, r2, by rw [ka 98 (by decide)]; exact r3, fun j hj => by rw [ka 99 (by decide)]; exact r4 j hj⟩
    obtain ⟨C2, e2, a2, b2⟩ := stepC (C := rset C 22 (Ca 22)) (C1 := rset C1 22 (Ca 22)) (Ck := Ca) (d := d) (q := q) hcl2 (fun j hj => by
        by_cases e : j = 22
        · rw [e, rset_same, rset_same]
        · rw [rset_ne _ _ e, rset_ne _ _ e, h94 j hj]) hq (by omega) (fun j hj => by
        by_cases e : j = 22
        · rw [e, rset_same]
        · rw [rset_ne _ _ e, ka j e, h1 j hj e]) (by rw [rset_ne _ _ (show 15 ≠ 22 by decide), rset_ne _ _ (show 12 ≠ 22 by decide)]; exact h3a)
    rw [rset_ne _ _ (show 15 ≠ 22 by decide), rset_ne _ _ (show 12 ≠ 22 by decide)] at e2 b2
    obtain ⟨C', e, r⟩ := ih (d + 1) g C2 (by omega) (by omega) (fun j j1 j2 => by rw [a2 j j1, rset_ne _ _ j2]) (fun i hi => by
      rw [a2 22 (by decide), rset_same, ← hCa, fset_same]
      show _ = C 22 i + nI (if decide (i = (rn np id (C 15) (C 12 5) G q d).1) = true then _ + 1 else _)
      by_cases hi2 : i = (rn np id (C 15) (C 12 5) G q d).1
      · rw [if_pos (by simp [hi2]), ← hi2, upd_same, h2 i hi, Int32.add_assoc, nI_1]
      · rw [if_neg (by simp [hi2]), upd_ne _ _ hi2, h2 i hi]) b2
    refine ⟨C', ?_, r⟩
    show X8_pass_b62s (X8_pass_b62 g) (nI D) _ (nI d) Ck = _
    unfold X8_pass_b62s X8_pass_b95
    have hr := reigning_ok hp6 h3
    have hr' : f_X3_reigning Ck = some (nI (rn np id (C 15) (C 12 5) G q d).1, Ck) := hr
    rw [if_neg (by rw [nI_leI (by omega) (by omega)]; omega), hr', bnd_ok, addReigned_ok Ck (by omega), bnd_ok, hCa, e2, bnd_ok, nI_1, nI_1]
    have ebc : bc (bl np id (C 15) (C 12 5) G q) (d + 1) = if bl np id (C 15) (C 12 5) G q d = true then bc (bl np id (C 15) (C 12 5) G q) d + 1 else bc (bl np id (C 15) (C 12 5) G q) d := rfl
    rw [ebc] at e
    by_cases hb : bl np id (C 15) (C 12 5) G q d = true
    · rw [if_pos hb] at e
      rw [hb, if_neg (show ¬ b2i true = 0 by decide)]
      exact e
    · rw [if_neg hb] at e
      rw [if_pos (b2i_0.mpr (Bool.not_eq_true _ |>.mp hb))]
      exact e
theorem op_pass (a : Int32) : OpOK (f_X8_pass a) (f_X9_pass a) := by
  intro C M h
  have h' := h
  obtain ⟨np, hrc, hmr, hra, hrk, hrs, hrx, hrf⟩ := h
  have hp := hrc.2.1
  unfold f_X8_pass f_X9_pass
  rcases in_ok a (lo := 1) (hi := 20) (by decide) (by decide) M with ⟨D, D1, D2, rfl, hi1⟩ | ⟨hno, hi1⟩
  · have hi1' : f_X9_in (nI D) 1 20 M = some (1, M) := hi1
    rw [hi1', bnd_ok, if_neg n10, if_neg (show ¬ nI D < 1 by rw [c_lt (by omega) (by omega)]; omega), if_pos (show nI D ≤ 20 by rw [c_ge (by omega) (by omega)]; omega), hmr.1]
    by_cases hday : C 21 0 + nI D ≤ 999
    · rw [if_pos hday, if_pos hday]
      obtain ⟨C1, M1, r1, r2, r3, r4, r5, r6⟩ := remember_ok hp hmr hra
      have hrc1 : RC C1 M1 np := hrc.mv (r3 _ (by omega)) (r3 _ (by omega)) (r3 _ (by omega)) (r3 _ (by omega)) (r5 _ (by decide)) (r5 _ (by decide)) (r4 _ (by decide) (by decide))
      have hmr1 : MR np C1 21 (M1 2) := hmr.mv hp (fun j j1 j2 => r3 j (by omega)) (r4 2 (by decide) (by decide))
      obtain ⟨M2, K, n, e1, m1, b1, b21, hK, hn, hC1, h23, hO, hN, hsd, hfd, hG, hrg10, hbits⟩ := fromM hrc1 hmr1
      obtain ⟨Ca, C2, e2, e3, c1, hcl, hrg, -⟩ := setC (hm := D) hrc1 hn h23 (by omega) hK hC1
      obtain ⟨C3, e4, c2, c3, c4, c5, c6, c7⟩ := pass_loop (C := C1) (G := GT C1 n (C1 21 3)) (q := (K, C1 21 2)) (D := D) hcl c1 hK (Nat.le_refl _) D 0 FU C2 (by omega) (FU_gt (by omega)) (fun _ _ _ => rfl) (fun i hi => by rw [c1 22 (by decide)]; exact (Int32.add_zero _).symm) hrg
      obtain ⟨N', e5, n5, n6⟩ := mGoesOn (c := D) hO hK hsd hfd (hG (C1 21 3)) hN (by omega)
      obtain ⟨M3, e6, m3, b3, -⟩ := X9_put_ok 2 46 11 46 (by decide) (rset M2 11 N') (a := 0) (c := 46) (by decide) (by decide) (by decide)
      have e4' : X8_pass_b62 FU (nI D) 0 0 C2 = _ := e4
      have e6' : f_X9_put 2 46 11 46 0 46 (rset M2 11 N') = some (0, M3) := e6
      rw [r1, bnd_ok, e2, bnd_ok, e3, bnd_ok, e4', r2, bnd_ok, e1, bnd_ok, e5, bnd_ok, e6', bnd_ok]
      have hlt : (rn np id (C1 15) (C1 12 5) (GT C1 n (C1 21 3)) (K, C1 21 2) D).1 < np := rn_lt hK D
      have c22 : ∀ j, j < 94 → j ≠ 21 → j ≠ 22 → C3 j = C1 j := fun j j1 j2 j3 => by rw [c2 j (by omega) j3 j2, c1 j j1]
      have mm : ∀ j, j ≠ 0 → j ≠ 2 → j ≠ 11 → M3 j = M1 j := fun j j1 j2 j3 => by rw [m3 j j2, rset_ne _ _ j3, m1 j j1 j3]
      have m0 : ∀ k, k ≠ 21 → M3 0 k = M1 0 k := fun k hk => by rw [m3 0 (by decide), rset_ne _ _ (by decide), b1 k hk]
      have e2q : ∀ q, q < 46 → M3 2 q = N' q := fun q hq => by
        have := b3 q hq
        rwa [Nat.zero_add, rset_same] at this
      refine ⟨_, _, _, rfl, rfl, Rel.acts hrc hrk hrs hrx hrf (fun j hj => by rw [c22 j (by omega) (by omega) (by omega), r3 j (by omega)]) (fun j hj => by rw [mm j (by omega) (by omega) (by omega), r4 j (by omega) (by omega)]) (fun k hk => by rw [m0 k (by omega), r5 k (by omega)]) ?_ (r6.mv hp (fun j j1 j2 => c22 j (by omega) (by omega) (by omega)) (m0 5 (by decide)) (mm 4 (by decide) (by decide) (by decide)))⟩
      obtain ⟨w0, w1, w2, w3, w4, w5⟩ := n5
      obtain ⟨-, -, -, -, d5, n', n1', n2', -, n4', -⟩ := hmr1
      have enn : n' = n := (nI_eq (by omega) (by omega)).mp (n2'.symm.trans h23)
      subst enn
      refine ⟨by rw [e2q 0 (by decide), w0, c4], by rw [e2q 1 (by decide), w1, c6], by rw [e2q 3 (by decide), w3, c7], ⟨_, hlt, c5, fun j hj => by rw [e2q _ (by omega)]; exact w4 j hj⟩, fun i hi => ?_, n', hn, by rw [c22 23 (by decide) (by decide) (by decide)]; exact h23, by rw [e2q 2 (by decide)]; exact w2, fun k k1 k2 => by rw [c7]; exact hbits k k1 k2, fun k hk => ?_⟩
      · rw [e2q _ (by omega), n6 i (by omega), hrg10 i (by omega), c3 i (by omega), d5 i hi]
        rfl
      · rw [e2q _ (by omega), e2q _ (by omega), e2q _ (by omega), c22 24 (by decide) (by decide) (by decide), c22 25 (by decide) (by decide) (by decide), c22 26 (by decide) (by decide) (by decide)]
        exact w5 k hk
    · rw [if_neg hday, if_neg hday]
      exact ⟨_, _, _, rfl, rfl, h'⟩
  · have hi1' : f_X9_in a 1 20 M = some (0, M) := hi1
    rw [hi1', bnd_ok, if_pos rfl]
    refine ⟨-1, C, M, ?_, rfl, h'⟩
    by_cases h0 : a < 1
    · rw [if_pos h0]
    · obtain ⟨j, hj, rfl⟩ := nI_of (fun q : a < 0 => h0 (Int32.lt_trans q (by decide)))
      have h0' := h0
      rw [c_lt hj (by omega)] at h0
      have : ¬ j ≤ 20 := fun q => hno j (by omega) q rfl
      rw [if_neg h0', if_neg (show ¬ nI j ≤ 20 by rw [c_ge hj (by omega)]; omega)]
