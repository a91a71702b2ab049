/-! parts of the relation, row by row -/
theorem RC.mv {C M C' M' : FMem} {np : Nat} (h : RC C M np) (h12 : C' 12 = C 12) (h13 : C' 13 = C 13) (h14 : C' 14 = C 14) (h15 : C' 15 = C 15) (h0 : M' 0 0 = M 0 0) (h2 : M' 0 2 = M 0 2) (h1 : M' 1 = M 1) : RC C' M' np := by
  unfold RC
  rw [h12, h13, h14, h15, h0, h2, h1]
  exact h
theorem RA.mv {C M C' M' : FMem} {np : Nat} (h : RA C M np) (hp : np ≤ 6) (hC : ∀ j, 27 ≤ j → j < 77 → C' j = C j) (h5 : M' 0 5 = M 0 5) (h4 : M' 4 = M 4) : RA C' M' np := by
  obtain ⟨na, o, a1, a2, a3, a4, a5, a6⟩ := h
  refine ⟨na, o, a1, a2, by rw [hC 27 (by omega) (by omega)]; exact a3, by rw [hC 27 (by omega) (by omega)]; exact a4, by rw [h5]; exact a5, fun k hk => ?_⟩
  exact (a6 k hk).rows (hC _ (by omega) (by omega)) (hC _ (by omega) (by omega)) (hC _ (by omega) (by omega)) (hC _ (by omega) (by omega)) (hC _ (by omega) (by omega)) (hC _ (by omega) (by omega)) hp (fun j _ => by rw [h4])
theorem RK.mv {C M C' M' : FMem} {np : Nat} (h : RK C M np) (hp : np ≤ 6) (hC : ∀ j, 77 ≤ j → j < 91 → C' j = C j) (h7 : M' 0 7 = M 0 7) (h5 : M' 5 = M 5) : RK C' M' np := by
  obtain ⟨nk, k1, k2, k3, k4, k5⟩ := h
  refine ⟨nk, k1, by rw [hC 77 (by omega) (by omega)]; exact k2, by rw [hC 77 (by omega) (by omega)]; exact k3, by rw [h7]; exact k4, fun k hk => ?_⟩
  exact (k5 k hk).rows (hC _ (by omega) (by omega)) (hC _ (by omega) (by omega)) (hC _ (by omega) (by omega)) (hC _ (by omega) (by omega)) (hC _ (by omega) (by omega)) (hC _ (by omega) (by omega)) hp (fun j _ => by rw [h5])
theorem RS.mv {C M C' M' : FMem} (h : RS C M) (h91 : C' 91 = C 91) (h92 : C' 92 = C 92) (h93 : C' 93 = C 93) (h9 : M' 0 9 = M 0 9) (h6 : M' 6 = M 6) : RS C' M' := by
  unfold RS
  rw [h91, h92, h93, h9, h6]
  exact h
theorem RX.mv {C M C' M' : FMem} (h : RX C M) (h1 : C' 1 = C 1) (h2 : C' 2 = C 2) (h12 : M' 0 12 = M 0 12) (h7 : M' 7 = M 7) : RX C' M' := by
  unfold RX
  rw [h1, h2, h12, h7]
  exact h
theorem RF.mv {C M C' M' : FMem} {np : Nat} (h : RF C M np) (h16 : C' 16 = C 16) (h17 : C' 17 = C 17) (h18 : C' 18 = C 18) (h19 : C' 19 = C 19) (h3 : M' 3 = M 3) : RF C' M' np := by
  unfold RF
  rw [h16, h17, h18, h19, h3]
  exact h
theorem MR.mv {C C' : FMem} {np t : Nat} {N : Nat → Int32} (h : MR np C t N) (hp : np ≤ 6) (hC : ∀ j, t ≤ j → j < t + 6 → C' j = C j) {N' : Nat → Int32} (hN : N' = N) : MR np C' t N' :=
  h.rows (hC _ (by omega) (by omega)) (hC _ (by omega) (by omega)) (hC _ (by omega) (by omega)) (hC _ (by omega) (by omega)) (hC _ (by omega) (by omega)) (hC _ (by omega) (by omega)) hp (fun j _ => by rw [hN])
theorem fset_slot (M : FMem) (i k : Nat) (v : Int32) {k' : Nat} (h : k' ≠ k) : fset M i k v i k' = M i k' := by rw [fset_same, upd_ne _ _ h]
theorem n10 : ¬ (1 : Int32) = 0 := by decide
/-! write, wipe -/
theorem op_write (a : Int32) : OpOK (f_X8_write a) (f_X9_write a) := by
  intro C M h
  have h' := h
  obtain ⟨np, hrc, hmr, hra, hrk, hrs, ⟨nt, t1, t2, t3, t4⟩, hrf⟩ := h
  have hp := hrc.2.1
  unfold f_X8_write f_X9_write
  rcases in_ok a (lo := 32) (hi := 126) (by decide) (by decide) M with ⟨j, j1, j2, rfl, hi⟩ | ⟨hno, hi⟩
  · have hi' : f_X9_in (nI j) 32 126 M = some (1, M) := hi
    rw [hi', bnd_ok, if_neg n10, if_neg (show ¬ nI j < 32 by rw [c_lt (by omega) (by omega)]; omega), if_pos (show nI j ≤ 126 by rw [c_ge (by omega) (by omega)]; omega)]
    unfold f_X4_append
    rw [t2, t3]
    by_cases hf : nt = 200
    · rw [if_neg (show ¬ nI nt < 200 by rw [c_lt (by omega) (by omega)]; omega), bnd_ok, if_pos rfl, if_pos (show nI nt = 200 by rw [c_eq (by omega) (by omega)]; exact hf)]
      exact ⟨_, _, _, rfl, rfl, h'⟩
    · rw [if_pos (show nI nt < 200 by rw [c_lt (by omega) (by omega)]; omega), grd_ok (inb_t (by omega) (by omega)), bindm_ok, bindm_ok, bnd_ok, if_neg n10, if_neg (show ¬ nI nt = 200 by rw [c_eq (by omega) (by omega)]; exact hf), grd_ok (inb_t (by omega) (by omega)), bindm_ok, bindm_ok, nI_clamp (by omega), fset_at, fset_at, fset_ne _ _ _ (by decide), t2, fset_ne _ _ _ (by decide), t3, nI_1]
      refine ⟨_, _, _, rfl, rfl, np, ?_, ?_, ?_, ?_, ?_, ⟨nt + 1, by omega, fset_at _ _ _ _, fset_at _ _ _ _, fun k hk => ?_⟩, ?_⟩
      · refine hrc.mv ?_ ?_ ?_ ?_ ?_ ?_ ?_
        all_goals first | (rw [fset_ne _ _ _ (by decide), fset_ne _ _ _ (by decide)]) | (rw [fset_slot _ _ _ _ (by decide), fset_ne _ _ _ (by decide)])
      · exact hmr.mv hp (fun j h1 h2 => by rw [fset_ne _ _ _ (by omega), fset_ne _ _ _ (by omega)]) (by rw [fset_ne _ _ _ (by decide), fset_ne _ _ _ (by decide)])
      · exact hra.mv hp (fun j h1 h2 => by rw [fset_ne _ _ _ (by omega), fset_ne _ _ _ (by omega)]) (by rw [fset_slot _ _ _ _ (by decide), fset_ne _ _ _ (by decide)]) (by rw [fset_ne _ _ _ (by decide), fset_ne _ _ _ (by decide)])
      · exact hrk.mv hp (fun j h1 h2 => by rw [fset_ne _ _ _ (by omega), fset_ne _ _ _ (by omega)]) (by rw [fset_slot _ _ _ _ (by decide), fset_ne _ _ _ (by decide)]) (by rw [fset_ne _ _ _ (by decide), fset_ne _ _ _ (by decide)])
      · refine hrs.mv ?_ ?_ ?_ ?_ ?_
        all_goals first | (rw [fset_ne _ _ _ (by decide), fset_ne _ _ _ (by decide)]) | (rw [fset_slot _ _ _ _ (by decide), fset_ne _ _ _ (by decide)])
      · rw [fset_ne _ _ _ (show 7 ≠ 0 by decide), fset_ne _ _ _ (show 2 ≠ 1 by decide), fset_same, fset_same]
        by_cases e : k = nt
        · rw [e, upd_same, upd_same]
        · rw [upd_ne _ _ e, upd_ne _ _ e]; exact t4 k (by omega)
      · refine hrf.mv ?_ ?_ ?_ ?_ ?_
        all_goals rw [fset_ne _ _ _ (by decide), fset_ne _ _ _ (by decide)]
  · have hi' : f_X9_in a 32 126 M = some (0, M) := hi
    rw [hi', bnd_ok, if_pos rfl]
    refine ⟨-1, C, M, ?_, rfl, h'⟩
    by_cases h1 : a < 32
    · rw [if_pos h1]
    · rw [if_neg h1]
      by_cases h2 : a ≤ 126
      · exfalso
        have h0 : ¬ a < 0 := fun h => h1 (Int32.lt_trans h (by decide))
        obtain ⟨j, hj, rfl⟩ := nI_of h0
        rw [c_lt hj (by omega)] at h1
        rw [c_ge hj (by omega)] at h2
        exact hno j (by omega) (by omega) rfl
      · rw [if_neg h2]
theorem op_wipe : OpOK f_X8_wipe f_X9_wipe := by
  intro C M h
  obtain ⟨np, hrc, hmr, hra, hrk, hrs, ⟨nt, t1, t2, t3, t4⟩, hrf⟩ := h
  have hp := hrc.2.1
  unfold f_X8_wipe f_X9_wipe f_X4_clear
  rw [bindv_ok, bindv_ok, bindm_ok, bnd_ok, bindm_ok, t2, t3]
  refine ⟨_, _, _, rfl, rfl, np, ?_, ?_, ?_, ?_, ?_, ⟨0, by omega, fset_at _ _ _ _, fset_at _ _ _ _, fun k hk => by omega⟩, ?_⟩
  · refine hrc.mv ?_ ?_ ?_ ?_ ?_ ?_ ?_
    all_goals first | (rw [fset_ne _ _ _ (by decide)]) | (rw [fset_slot _ _ _ _ (by decide)])
  · exact hmr.mv hp (fun j h1 h2 => by rw [fset_ne _ _ _ (by omega)]) (by rw [fset_ne _ _ _ (by decide)])
  · exact hra.mv hp (fun j h1 h2 => by rw [fset_ne _ _ _ (by omega)]) (by rw [fset_slot _ _ _ _ (by decide)]) (by rw [fset_ne _ _ _ (by decide)])
  · exact hrk.mv hp (fun j h1 h2 => by rw [fset_ne _ _ _ (by omega)]) (by rw [fset_slot _ _ _ _ (by decide)]) (by rw [fset_ne _ _ _ (by decide)])
  · refine hrs.mv ?_ ?_ ?_ ?_ ?_
    all_goals first | (rw [fset_ne _ _ _ (by decide)]) | (rw [fset_slot _ _ _ _ (by decide)])
  · refine hrf.mv ?_ ?_ ?_ ?_ ?_
    all_goals rw [fset_ne _ _ _ (by decide)]
/-! who and what there is -/
theorem isPer {C M : FMem} {np : Nat} (h : RC C M np) (a : Int32) : (∃ i, i < np ∧ a = nI i ∧ f_X8_isPerson a C = some (1, C) ∧ f_X9_isPerson a M = some (1, M)) ∨ (f_X8_isPerson a C = some (0, C) ∧ f_X9_isPerson a M = some (0, M)) := by
  obtain ⟨p1, p6, hc3, hm0, -⟩ := h
  unfold f_X8_isPerson f_X9_isPerson
  have e1 : nI np - 1 = nI (np - 1) := by
    obtain ⟨k, rfl⟩ : ∃ k, np = k + 1 := ⟨np - 1, by omega⟩
    exact nI_pred k
  rw [hm0, e1]
  rcases in_ok a (lo := 0) (hi := np - 1) (by decide) (by omega) M with ⟨i, -, h2, rfl, hi⟩ | ⟨hno, hi⟩
  · left
    have hi' : f_X9_in (nI i) 0 (nI (np - 1)) M = some (1, M) := hi
    refine ⟨i, by omega, rfl, ?_, ?_⟩
    · rw [if_neg (nI_pos (by omega)), hc3, if_neg (by rw [nI_leI (by omega) (by omega)]; omega), if_neg (by rw [c_le (by omega) (by omega)]; omega)]
    · rw [hi', bnd_ok, grd_ok (by decide)]
  · right
    have hi' : f_X9_in a 0 (nI (np - 1)) M = some (0, M) := hi
    refine ⟨?_, by rw [hi', bnd_ok, grd_ok (by decide)]⟩
    by_cases h0 : a < 0
    · rw [if_pos h0]
    · obtain ⟨j, hj, rfl⟩ := nI_of h0
      have : ¬ j ≤ np - 1 := fun q => hno j (by omega) q rfl
      rw [if_neg h0, hc3, if_pos (by rw [nI_leI (by omega) hj]; omega)]
theorem isThg {C M : FMem} {n : Nat} (hn : n ≤ 9) (hc : C 23 3 = nI n) (hm : M 2 2 = nI n) (a : Int32) : (∃ k, k < n ∧ a = nI k ∧ f_X8_isThing a C = some (1, C) ∧ f_X9_isThing a M = some (1, M)) ∨ (f_X8_isThing a C = some (0, C) ∧ f_X9_isThing a M = some (0, M)) := by
  unfold f_X8_isThing f_X9_isThing
  rw [hm, hc]
  by_cases hn0 : n = 0
  · right
    subst hn0
    constructor
    · by_cases h0 : a < 0
      · rw [if_pos h0]
      · rw [if_neg h0, if_pos (show nI 0 ≤ a from Int32.not_lt.mp h0)]
    · unfold f_X9_in
      by_cases h0 : a < 0
      · rw [if_pos h0, bnd_ok, grd_ok (by decide)]
      · rw [if_neg h0, if_pos (Int32.lt_of_lt_of_le (show nI 0 - 1 < 0 by decide) (Int32.not_lt.mp h0)), bnd_ok, grd_ok (by decide)]
  · have e1 : nI n - 1 = nI (n - 1) := by
      obtain ⟨k, rfl⟩ : ∃ k, n = k + 1 := ⟨n - 1, by omega⟩
      exact nI_pred k
    rw [e1]
    rcases in_ok a (lo := 0) (hi := n - 1) (by decide) (by omega) M with ⟨i, -, h2, rfl, hi⟩ | ⟨hno, hi⟩
    · left
      have hi' : f_X9_in (nI i) 0 (nI (n - 1)) M = some (1, M) := hi
      refine ⟨i, by omega, rfl, ?_, ?_⟩
      · rw [if_neg (nI_pos (by omega)), if_neg (by rw [nI_leI (by omega) (by omega)]; omega), if_neg (by rw [c_le (by omega) (by omega)]; omega)]
      · rw [hi', bnd_ok, grd_ok (by decide)]
    · right
      have hi' : f_X9_in a 0 (nI (n - 1)) M = some (0, M) := hi
      refine ⟨?_, by rw [hi', bnd_ok, grd_ok (by decide)]⟩
      by_cases h0 : a < 0
      · rw [if_pos h0]
      · obtain ⟨j, hj, rfl⟩ := nI_of h0
        have : ¬ j ≤ n - 1 := fun q => hno j (by omega) q rfl
        rw [if_neg h0, if_pos (by rw [nI_leI (by omega) hj]; omega)]
theorem person_loop {M : FMem} {np K i j0 : Nat} (hp : np ≤ 6) (hK : K < np) (hi : i < np) (hg : ∀ j, j < np → M 2 (4 + j) = nI ((K + j) % np)) (hj0 : j0 = if K ≤ i then i - K else i + np - K) (w : Int32) : ∀ (m j f : Nat), j + m = j0 → m < f → X9_person_b37 f (nI i) w (nI j) M = some (if w = 3 then nI j0 else M 2 (10 + i), M) := by
  have hj0' : j0 < np ∧ (K + j0) % np = i ∧ ∀ j, j < j0 → (K + j) % np ≠ i := by
    by_cases h : K ≤ i
    · rw [if_pos h] at hj0
      refine ⟨by omega, ?_, fun j hj => ?_⟩
      · rw [show K + j0 = i by omega, Nat.mod_eq_of_lt hi]
      · rw [Nat.mod_eq_of_lt (by omega)]; omega
    · rw [if_neg h] at hj0
      refine ⟨by omega, ?_, fun j hj => ?_⟩
      · rw [show K + j0 = i + np by omega, Nat.add_mod_right, Nat.mod_eq_of_lt hi]
      · by_cases h2 : K + j < np
        · rw [Nat.mod_eq_of_lt h2]; omega
        · rw [show K + j = (K + j - np) + np by omega, Nat.add_mod_right, Nat.mod_eq_of_lt (by omega)]; omega
  obtain ⟨q1, q2, q3⟩ := hj0'
  have e4 : ∀ j, (4 : Int32) + nI j = nI (4 + j) := fun j => nI_add 4 j
  have e10 : (10 : Int32) + nI i = nI (10 + i) := nI_add 10 i
  intro m
  induction m with
  | zero =>
    intro j f hj hf
    obtain ⟨g, rfl, -⟩ := fu_s hf
    have hj : j = j0 := by omega
    subst hj
    show X9_person_b37s (X9_person_b37 g) _ _ _ M = _
    unfold X9_person_b37s
    rw [e4, grd_ok (inb_t (by omega) (by omega)), nI_clamp (by omega), hg j q1, q2, if_pos rfl]
    by_cases hw : w = 3
    · rw [if_pos hw, if_pos hw]
    · rw [if_neg hw, if_neg hw, e10, grd_ok (inb_t (by omega) (by omega)), nI_clamp (by omega)]
  | succ m ih =>
    intro j f hj hf
    obtain ⟨g, rfl, hg2⟩ := fu_s hf
    show X9_person_b37s (X9_person_b37 g) _ _ _ M = _
    unfold X9_person_b37s
    have hne := q3 j (by omega)
    have hlt : (K + j) % np < np := Nat.mod_lt _ (by omega)
    rw [e4, grd_ok (inb_t (by omega) (by omega)), nI_clamp (by omega), hg j (by omega), if_neg (by rw [nI_eq (by omega) (by omega)]; exact hne), nI_1]
    exact ih (j + 1) g (by omega) (by omega)
theorem person_C {C : FMem} {i : Nat} (hi : i < 6) (h : f_X8_isPerson (nI i) C = some (1, C)) : f_X8_person (nI i) (nI 0) C = some (C 13 i, C) ∧ f_X8_person (nI i) (nI 1) C = some (C 14 i, C) ∧ f_X8_person (nI i) (nI 2) C = some (C 15 i, C) ∧ f_X8_person (nI i) (nI 4) C = some (C 22 i, C) ∧ f_X8_person (nI i) (nI 3) C = f_X8_placeOf (nI i) C := by
  have hb := inb_t hi (show i < 2 ^ 31 by omega)
  have hc : (nI i).toNatClampNeg = i := nI_clamp (by omega)
  refine ⟨?_, ?_, ?_, ?_, ?_⟩
  all_goals
    unfold f_X8_person
    rw [h, bnd_ok, if_neg n10]
  · rw [if_pos (by decide), grd_ok hb, hc]
  · rw [if_neg (by decide), if_pos (by decide), grd_ok hb, hc]
  · rw [if_neg (by decide), if_neg (by decide), if_pos (by decide), grd_ok hb, hc]
  · rw [if_neg (by decide), if_neg (by decide), if_neg (by decide), if_neg (by decide), if_pos (by decide), grd_ok hb, hc]
  · rw [if_neg (by decide), if_neg (by decide), if_neg (by decide), if_pos (by decide)]
    unfold f_X8_placeOf
    rw [bindv_ok]
    by_cases h0 : 0 ≤ nI i - C 21 1
    · rw [if_pos h0, bnd_ok]
    · rw [if_neg h0, bnd_ok]
theorem person_M {M : FMem} {i w : Nat} (hi : i < 6) (hw : w ≤ 4) (h : f_X9_isPerson (nI i) M = some (1, M)) : f_X9_person (nI i) (nI w) M = if 3 ≤ w then X9_person_b37 FU (nI i) (nI w) 0 M else some (M 1 (3 * i + w), M) := by
  unfold f_X9_person
  rw [h, bnd_ok, if_neg n10]
  rcases in_ok (nI w) (lo := 0) (hi := 4) (by decide) (by decide) M with ⟨w', -, hw', e, hi2⟩ | ⟨hno, hi2⟩
  · have hi2' : f_X9_in (nI w) 0 4 M = some (1, M) := hi2
    rw [hi2', bnd_ok, if_neg n10]
    have em : (3 : Int32) * nI i + nI w = nI (3 * i + w) := by rw [i3]; exact nI_add _ _
    by_cases h3 : 3 ≤ w
    · rw [if_pos (show (3 : Int32) ≤ nI w by rw [c_le (by omega) (by omega)]; exact h3), if_pos h3]
    · rw [if_neg (show ¬ (3 : Int32) ≤ nI w by rw [c_le (by omega) (by omega)]; exact h3), if_neg h3, em, grd_ok (inb_t (by omega) (by omega)), nI_clamp (by omega)]
  · exact absurd rfl (hno w (by omega) hw)
theorem op_person (a1 a2 : Int32) : OpOK (f_X8_person a1 a2) (f_X9_person a1 a2) := by
  intro C M h
  have h' := h
  obtain ⟨np, hrc, ⟨-, -, -, ⟨K, k1, k2, k3⟩, k5, -⟩, -⟩ := h
  rcases isPer hrc a1 with ⟨i, hi, rfl, e1, e2⟩ | ⟨e1, e2⟩
  · obtain ⟨p1, p6, hc3, hm0, hfd, hm2, hper⟩ := hrc
    rcases in_ok a2 (lo := 0) (hi := 4) (by decide) (by decide) M with ⟨w, -, hw, rfl, hi2⟩ | ⟨hno, hi2⟩
    · have pl := person_loop (M := M) (K := K) (i := i) (j0 := if K ≤ i then i - K else i + np - K) p6 k1 hi k3 rfl
      obtain ⟨c0, c1, c2, c4, c3⟩ := person_C (C := C) (i := i) (by omega) e1
      have pm := person_M (M := M) (i := i) (w := w) (by omega) hw e2
      rcases (show w = 0 ∨ w = 1 ∨ w = 2 ∨ w = 3 ∨ w = 4 by omega) with rfl | rfl | rfl | rfl | rfl
      · rw [if_neg (by decide)] at pm
        exact ⟨_, _, _, c0, by rw [pm, Nat.add_zero, (hper i hi).2.1], h'⟩
      · rw [if_neg (by decide)] at pm
        exact ⟨_, _, _, c1, by rw [pm, (hper i hi).2.2.1], h'⟩
      · rw [if_neg (by decide)] at pm
        exact ⟨_, _, _, c2, by rw [pm, (hper i hi).2.2.2], h'⟩
      · have pl3 := pl (nI 3) (if K ≤ i then i - K else i + np - K) 0 FU (by omega) (FU_gt (by split <;> omega))
        have pl3' : X9_person_b37 FU (nI i) (nI 3) 0 M = _ := pl3
        rw [if_pos (by decide), pl3', if_pos (by decide)] at pm
        refine ⟨_, C, M, ?_, pm, h'⟩
        rw [c3]
        unfold f_X8_placeOf
        rw [bindv_ok, k2, hc3]
        by_cases hki : K ≤ i
        · rw [pk_sub hki, if_pos (nI_pos' (by omega)), if_pos hki]
        · have hneg : ¬ 0 ≤ nI i - nI K := Int32.not_le.mpr (pk_sneg (by omega) (by omega))
          have ee : nI i - nI K + nI np = nI (i + np - K) := by
            rw [← pk_sub (show K ≤ i + np by omega), ← nI_add, Int32.sub_eq_add_neg, Int32.sub_eq_add_neg, Int32.add_assoc, Int32.add_assoc, Int32.add_comm (-nI K)]
          rw [if_neg hneg, if_neg hki, ee]
      · have pl4 := pl (nI 4) (if K ≤ i then i - K else i + np - K) 0 FU (by omega) (FU_gt (by split <;> omega))
        have pl4' : X9_person_b37 FU (nI i) (nI 4) 0 M = _ := pl4
        rw [if_pos (by decide), pl4', if_neg (by decide), k5 i hi] at pm
        exact ⟨_, C, M, c4, pm, h'⟩
    · have hi2' : f_X9_in a2 0 4 M = some (0, M) := hi2
      refine ⟨-1, C, M, ?_, ?_, h'⟩
      · unfold f_X8_person
        rw [e1, bnd_ok, if_neg n10, if_neg (show ¬ a2 = 0 from hno 0 (by omega) (by omega)), if_neg (show ¬ a2 = 1 from hno 1 (by omega) (by omega)), if_neg (show ¬ a2 = 2 from hno 2 (by omega) (by omega)), if_neg (show ¬ a2 = 3 from hno 3 (by omega) (by omega)), if_neg (show ¬ a2 = 4 from hno 4 (by omega) (by omega))]
      · unfold f_X9_person
        rw [e2, bnd_ok, if_neg n10, hi2', bnd_ok, if_pos rfl]
  · refine ⟨-1, C, M, ?_, ?_, h'⟩
    · unfold f_X8_person
      rw [e1, bnd_ok, if_pos rfl]
    · unfold f_X9_person
      rw [e2, bnd_ok, if_pos rfl]
theorem isHidden_ok (C : FMem) (t : Nat) {k : Nat} (hk : k < 32) : f_X1_isHidden t (nI k) C = some (b2i (bt (C t 3) k), C) := by
  unfold f_X1_isHidden b2i
  by_cases h : bt (C t 3) k = true
  · rw [if_pos ((has_1 hk).mpr h), if_pos h]
  · rw [if_neg (fun q => h ((has_1 hk).mp q)), if_neg h]
theorem thing_C {C : FMem} {k : Nat} (hk : k < 9) (h : f_X8_isThing (nI k) C = some (1, C)) : f_X8_thing (nI k) (nI 0) C = some (C 24 k, C) ∧ f_X8_thing (nI k) (nI 1) C = some (C 25 k, C) ∧ f_X8_thing (nI k) (nI 2) C = some (C 26 k, C) ∧ f_X8_thing (nI k) (nI 3) C = some (b2i (bt (C 21 3) k), C) := by
  have hb := inb_t hk (show k < 2 ^ 31 by omega)
  have hc : (nI k).toNatClampNeg = k := nI_clamp (by omega)
  refine ⟨?_, ?_, ?_, ?_⟩
  all_goals
    unfold f_X8_thing
    rw [h, bnd_ok, if_neg n10]
  · rw [if_pos (by decide), grd_ok hb, hc]
  · rw [if_neg (by decide), if_pos (by decide), grd_ok hb, hc]
  · rw [if_neg (by decide), if_neg (by decide), if_pos (by decide), grd_ok hb, hc]
  · rw [if_neg (by decide), if_neg (by decide), if_neg (by decide), if_pos (by decide), isHidden_ok C 21 (by omega), bnd_ok]
    cases bt (C 21 3) k <;> rfl
theorem thing_M {M : FMem} {k w : Nat} (hk : k < 9) (hw : w ≤ 3) (h : f_X9_isThing (nI k) M = some (1, M)) : f_X9_thing (nI k) (nI w) M = if w = 3 then some (b2i (bt (M 2 3) k), M) else some (M 2 (16 + 3 * k + w), M) := by
  unfold f_X9_thing
  rw [h, bnd_ok, if_neg n10]
  rcases in_ok (nI w) (lo := 0) (hi := 3) (by decide) (by decide) M with ⟨w', -, hw', e, hi2⟩ | ⟨hno, hi2⟩
  · have hi2' : f_X9_in (nI w) 0 3 M = some (1, M) := hi2
    rw [hi2', bnd_ok, if_neg n10]
    have em : (16 : Int32) + (3 : Int32) * nI k + nI w = nI (16 + 3 * k + w) := by
      rw [i3, show (16 : Int32) + nI (3 * k) = nI (16 + 3 * k) from nI_add 16 _]
      exact nI_add _ _
    by_cases h3 : w = 3
    · rw [if_pos (show nI w = 3 by rw [h3]; rfl), if_pos h3, has_v (by omega)]
      rfl
    · rw [if_neg (show ¬ nI w = 3 by rw [c_eq (by omega) (by omega)]; exact h3), if_neg h3, em, grd_ok (inb_t (by omega) (by omega)), nI_clamp (by omega)]
  · exact absurd rfl (hno w (by omega) hw)
theorem op_thing (a1 a2 : Int32) : OpOK (f_X8_thing a1 a2) (f_X9_thing a1 a2) := by
  intro C M h
  have h' := h
  obtain ⟨np, hrc, ⟨-, -, h3, -, -, n, n1, n2, n3, n4, n5⟩, -⟩ := h
  rcases isThg n1 n2 n3 a1 with ⟨k, hk, rfl, e1, e2⟩ | ⟨e1, e2⟩
  · rcases in_ok a2 (lo := 0) (hi := 3) (by decide) (by decide) M with ⟨w, -, hw, rfl, hi2⟩ | ⟨hno, hi2⟩
    · obtain ⟨c0, c1, c2, c3⟩ := thing_C (C := C) (k := k) (by omega) e1
      have tm := thing_M (M := M) (k := k) (w := w) (by omega) hw e2
      rcases (show w = 0 ∨ w = 1 ∨ w = 2 ∨ w = 3 by omega) with rfl | rfl | rfl | rfl
      · rw [if_neg (by decide), Nat.add_zero, (n5 k hk).1] at tm
        exact ⟨_, _, _, c0, tm, h'⟩
      · rw [if_neg (by decide), (n5 k hk).2.1] at tm
        exact ⟨_, _, _, c1, tm, h'⟩
      · rw [if_neg (by decide), (n5 k hk).2.2] at tm
        exact ⟨_, _, _, c2, tm, h'⟩
      · rw [if_pos rfl, h3] at tm
        exact ⟨_, _, _, c3, tm, h'⟩
    · have hi2' : f_X9_in a2 0 3 M = some (0, M) := hi2
      refine ⟨-1, C, M, ?_, ?_, h'⟩
      · unfold f_X8_thing
        rw [e1, bnd_ok, if_neg n10, if_neg (show ¬ a2 = 0 from hno 0 (by omega) (by omega)), if_neg (show ¬ a2 = 1 from hno 1 (by omega) (by omega)), if_neg (show ¬ a2 = 2 from hno 2 (by omega) (by omega)), if_neg (show ¬ a2 = 3 from hno 3 (by omega) (by omega))]
      · unfold f_X9_thing
        rw [e2, bnd_ok, if_neg n10, hi2', bnd_ok, if_pos rfl]
  · refine ⟨-1, C, M, ?_, ?_, h'⟩
    · unfold f_X8_thing
      rw [e1, bnd_ok, if_pos rfl]
    · unfold f_X9_thing
      rw [e2, bnd_ok, if_pos rfl]
/-! seen, forget, count -/
theorem op_seen (a1 a2 : Int32) : OpOK (f_X8_seen a1 a2) (f_X9_seen a1 a2) := by
  intro C M h
  have h' := h
  obtain ⟨np, hrc, hmr, hra, hrk, ⟨ns, s1, s2, s3, s4⟩, hrx, hrf⟩ := h
  have hp := hrc.2.1
  unfold f_X8_seen f_X9_seen
  rcases isPer hrc a1 with ⟨i, hi, rfl, e1, e2⟩ | ⟨e1, e2⟩
  · rw [e1, bnd_ok, e2, bnd_ok, if_neg n10, if_neg n10]
    rcases in_ok a2 (lo := 0) (hi := 60) (by decide) (by decide) M with ⟨e, -, he, rfl, hi2⟩ | ⟨hno, hi2⟩
    · have hi2' : f_X9_in (nI e) 0 60 M = some (1, M) := hi2
      rw [hi2', bnd_ok, if_neg n10, if_neg (show ¬ nI e < 0 from nI_pos (by omega)), if_pos (show nI e ≤ 60 by rw [c_ge (by omega) (by omega)]; exact he)]
      unfold f_X6_add
      rw [s2, s3]
      by_cases hf : ns = 8
      · rw [if_neg (show ¬ nI ns < 8 by rw [c_lt (by omega) (by omega)]; omega), bnd_ok, if_pos rfl, if_pos (show nI ns = 8 by rw [hf]; rfl)]
        exact ⟨_, _, _, rfl, rfl, h'⟩
      · have e2n : (2 : Int32) * nI ns = nI (2 * ns) := pk_mul 2 ns
        have q1 : ∀ v, fset C 92 ns v 91 2 = nI ns := fun v => by rw [fset_ne _ _ _ (by decide)]; exact s2
        have q2 : ∀ v v', fset (fset C 92 ns v) 93 ns v' 91 2 = nI ns := fun v v' => by rw [fset_ne _ _ _ (by decide)]; exact q1 v
        have q3 : ∀ v, fset M 6 (2 * ns) v 0 9 = nI ns := fun v => by rw [fset_ne _ _ _ (by decide)]; exact s3
        have q4 : ∀ v v', fset (fset M 6 (2 * ns) v) 6 (2 * ns + 1) v' 0 9 = nI ns := fun v v' => by rw [fset_ne _ _ _ (by decide)]; exact q3 v
        rw [if_pos (show nI ns < 8 by rw [c_lt (by omega) (by omega)]; omega), grd_ok (inb_t (show ns < 8 by omega) (by omega)), bindm_ok, nI_clamp (by omega), q1, grd_ok (inb_t (show ns < 8 by omega) (by omega)), bindm_ok, nI_clamp (by omega), bindm_ok, q2, nI_1, bnd_ok, if_neg n10, fset_at]
        rw [if_neg (show ¬ nI ns = 8 by rw [c_eq (by omega) (by omega)]; exact hf), e2n, grd_ok (inb_t (show 2 * ns < 16 by omega) (by omega)), bindm_ok, nI_clamp (by omega), q3, e2n, nI_1, grd_ok (inb_t (show 2 * ns + 1 < 16 by omega) (by omega)), bindm_ok, nI_clamp (by omega), bindm_ok, q4, nI_1, fset_at]
        refine ⟨_, _, _, rfl, rfl, np, ?_, ?_, ?_, ?_, ⟨ns + 1, by omega, fset_at _ _ _ _, fset_at _ _ _ _, fun k hk => ?_⟩, ?_, ?_⟩
        · refine hrc.mv ?_ ?_ ?_ ?_ ?_ ?_ ?_
          all_goals first | (rw [fset_ne _ _ _ (by decide), fset_ne _ _ _ (by decide), fset_ne _ _ _ (by decide)]) | (rw [fset_slot _ _ _ _ (by decide), fset_ne _ _ _ (by decide), fset_ne _ _ _ (by decide)])
        · exact hmr.mv hp (fun j h1 h2 => by rw [fset_ne _ _ _ (by omega), fset_ne _ _ _ (by omega), fset_ne _ _ _ (by omega)]) (by rw [fset_ne _ _ _ (by decide), fset_ne _ _ _ (by decide), fset_ne _ _ _ (by decide)])
        · exact hra.mv hp (fun j h1 h2 => by rw [fset_ne _ _ _ (by omega), fset_ne _ _ _ (by omega), fset_ne _ _ _ (by omega)]) (by rw [fset_slot _ _ _ _ (by decide), fset_ne _ _ _ (by decide), fset_ne _ _ _ (by decide)]) (by rw [fset_ne _ _ _ (by decide), fset_ne _ _ _ (by decide), fset_ne _ _ _ (by decide)])
        · exact hrk.mv hp (fun j h1 h2 => by rw [fset_ne _ _ _ (by omega), fset_ne _ _ _ (by omega), fset_ne _ _ _ (by omega)]) (by rw [fset_slot _ _ _ _ (by decide), fset_ne _ _ _ (by decide), fset_ne _ _ _ (by decide)]) (by rw [fset_ne _ _ _ (by decide), fset_ne _ _ _ (by decide), fset_ne _ _ _ (by decide)])
        · rw [fset_ne _ _ _ (show 92 ≠ 91 by decide), fset_ne _ _ _ (show 92 ≠ 93 by decide), fset_same C 92, fset_ne _ _ _ (show 93 ≠ 91 by decide), fset_same (fset C 92 ns (nI i)) 93, fset_ne C ns (nI i) (show 93 ≠ 92 by decide), fset_ne _ _ _ (show 6 ≠ 0 by decide), fset_same (fset M 6 (2 * ns) (nI i)) 6, fset_same M 6]
          by_cases ek : k = ns
          · subst ek
            rw [upd_ne _ _ (show 2 * k ≠ 2 * k + 1 by omega), upd_same, upd_same, upd_same, upd_same]
            exact ⟨rfl, rfl, e, he, rfl⟩
          · rw [upd_ne _ _ (show 2 * k ≠ 2 * ns + 1 by omega), upd_ne _ _ (show 2 * k ≠ 2 * ns by omega), upd_ne _ _ (show 2 * k + 1 ≠ 2 * ns + 1 by omega), upd_ne _ _ (show 2 * k + 1 ≠ 2 * ns by omega), upd_ne _ _ ek, upd_ne _ _ ek]
            exact s4 k (by omega)
        · refine hrx.mv ?_ ?_ ?_ ?_
          all_goals first | (rw [fset_ne _ _ _ (by decide), fset_ne _ _ _ (by decide), fset_ne _ _ _ (by decide)]) | (rw [fset_slot _ _ _ _ (by decide), fset_ne _ _ _ (by decide), fset_ne _ _ _ (by decide)])
        · refine hrf.mv ?_ ?_ ?_ ?_ ?_
          all_goals rw [fset_ne _ _ _ (by decide), fset_ne _ _ _ (by decide), fset_ne _ _ _ (by decide)]
    · have hi2' : f_X9_in a2 0 60 M = some (0, M) := hi2
      refine ⟨-1, C, M, ?_, by rw [hi2', bnd_ok, if_pos rfl], h'⟩
      by_cases h0 : a2 < 0
      · rw [if_pos h0]
      · obtain ⟨j, hj, rfl⟩ := nI_of h0
        rw [if_neg h0, if_neg (show ¬ nI j ≤ 60 by rw [c_ge hj (by omega)]; exact fun q => hno j (by omega) q rfl)]
  · rw [e1, bnd_ok, if_pos rfl, e2, bnd_ok, if_pos rfl]
    exact ⟨_, _, _, rfl, rfl, h'⟩
theorem op_forget : OpOK f_X8_forget f_X9_forget := by
  intro C M h
  obtain ⟨np, hrc, hmr, hra, hrk, ⟨ns, s1, s2, s3, s4⟩, hrx, hrf⟩ := h
  have hp := hrc.2.1
  unfold f_X8_forget f_X9_forget f_X6_clear
  rw [bindv_ok, bindv_ok, bindm_ok, bnd_ok, bindm_ok, s2, s3]
  refine ⟨_, _, _, rfl, rfl, np, ?_, ?_, ?_, ?_, ⟨0, by omega, fset_at _ _ _ _, fset_at _ _ _ _, fun k hk => by omega⟩, ?_, ?_⟩
  · refine hrc.mv ?_ ?_ ?_ ?_ ?_ ?_ ?_
    all_goals first | (rw [fset_ne _ _ _ (by decide)]) | (rw [fset_slot _ _ _ _ (by decide)])
  · exact hmr.mv hp (fun j h1 h2 => by rw [fset_ne _ _ _ (by omega)]) (by rw [fset_ne _ _ _ (by decide)])
  · exact hra.mv hp (fun j h1 h2 => by rw [fset_ne _ _ _ (by omega)]) (by rw [fset_slot _ _ _ _ (by decide)]) (by rw [fset_ne _ _ _ (by decide)])
  · exact hrk.mv hp (fun j h1 h2 => by rw [fset_ne _ _ _ (by omega)]) (by rw [fset_slot _ _ _ _ (by decide)]) (by rw [fset_ne _ _ _ (by decide)])
  · refine hrx.mv ?_ ?_ ?_ ?_
    all_goals first | (rw [fset_ne _ _ _ (by decide)]) | (rw [fset_slot _ _ _ _ (by decide)])
  · refine hrf.mv ?_ ?_ ?_ ?_ ?_
    all_goals rw [fset_ne _ _ _ (by decide)]
theorem low_bits {x : Int32} {n : Nat} (hn : n ≤ 9) (h : ∀ k, n ≤ k → k < 32 → bt x k = false) : ∃ j, j < 1024 ∧ x = nI j := by
  obtain ⟨j, hj, e⟩ := and_lt x 1023
  refine ⟨j, by omega, ?_⟩
  rw [← e]
  refine b_ext fun i hi => ?_
  rw [b_and]
  by_cases h1 : i < 10
  · rw [(by decide +kernel : ∀ i, i < 10 → bt (nI 1023) i = true) i h1, Bool.and_true]
  · rw [h i (by omega) hi, Bool.false_and]
theorem op_count (a1 : Int32) : OpOK (f_X8_count a1) (f_X9_count a1) := by
  intro C M h
  have h' := h
  obtain ⟨np, hrc, ⟨d1, d2, d3, -, -, n, n1, n2, n3, n4, -⟩, ⟨na, o, -, -, -, a4, a5, -⟩, ⟨nk, -, -, k3, k4, -⟩, ⟨ns, -, s2, s3, -⟩, ⟨nt, -, t2, t3, -⟩, -⟩ := h
  unfold f_X8_count f_X9_count
  obtain ⟨x, hx, ex⟩ := low_bits n1 n4
  rw [hrc.2.2.1, hrc.2.2.2.1, n2, n3, d1, d3, a4, a5, k3, k4, s2, s3, t2, t3, hrc.2.2.2.2.2.1, J6_ok, X9_bits_ok, ex, bcv_pcn x hx]
  by_cases h0 : a1 = 0
  · rw [if_pos h0, if_pos h0]; exact ⟨_, _, _, rfl, rfl, h'⟩
  · rw [if_neg h0, if_neg h0]
    by_cases h1 : a1 = 1
    · rw [if_pos h1, if_pos h1]; exact ⟨_, _, _, rfl, rfl, h'⟩
    · rw [if_neg h1, if_neg h1]
      by_cases h2 : a1 = 2
      · rw [if_pos h2, if_pos h2]; exact ⟨_, _, _, rfl, rfl, h'⟩
      · rw [if_neg h2, if_neg h2]
        by_cases h3 : a1 = 3
        · rw [if_pos h3, if_pos h3, bnd_ok, bnd_ok]; exact ⟨_, _, _, rfl, rfl, h'⟩
        · rw [if_neg h3, if_neg h3]
          by_cases h4 : a1 = 4
          · rw [if_pos h4, if_pos h4]; exact ⟨_, _, _, rfl, rfl, h'⟩
          · rw [if_neg h4, if_neg h4]
            by_cases h5 : a1 = 5
            · rw [if_pos h5, if_pos h5]; exact ⟨_, _, _, rfl, rfl, h'⟩
            · rw [if_neg h5, if_neg h5]
              by_cases h6 : a1 = 6
              · rw [if_pos h6, if_pos h6]; exact ⟨_, _, _, rfl, rfl, h'⟩
              · rw [if_neg h6, if_neg h6]
                by_cases h7 : a1 = 7
                · rw [if_pos h7, if_pos h7]; exact ⟨_, _, _, rfl, rfl, h'⟩
                · rw [if_neg h7, if_neg h7]
                  by_cases h8 : a1 = 8
                  · rw [if_pos h8, if_pos h8]; exact ⟨_, _, _, rfl, rfl, h'⟩
                  · rw [if_neg h8, if_neg h8]; exact ⟨_, _, _, rfl, rfl, h'⟩
