theorem seqP {np s : Nat} (hs : 1 ≤ s) (hs2 : s ≤ np) : ∀ (rest : List (List Nat)) (a : List Nat), pchk np (a :: rest) = true → ∃ blk rest', rest = blk ++ rest' ∧ (∀ x, x ∈ blk → x.take s = a.take s) ∧ nxt np (sortD np s a) = rest'.head? := by
  intro rest
  induction rest with
  | nil =>
    intro a h
    have h1 : pck np a [] = true := by
      unfold pchk at h
      rw [Bool.and_eq_true] at h
      exact h.1
    unfold pck at h1
    rw [Bool.and_eq_true, beq_iff_eq, List.all_eq_true] at h1
    have h2 := h1.2 (s - 1) (List.mem_range.mpr (by omega))
    rw [show s - 1 + 1 = s by omega, beq_iff_eq] at h2
    exact ⟨[], [], rfl, fun x hx => absurd hx (by simp), by rw [h2]; exact h1.1⟩
  | cons b r ih =>
    intro a h
    have h1 : pck np a (b :: r) = true ∧ pchk np (b :: r) = true := by
      unfold pchk at h
      rw [Bool.and_eq_true] at h
      exact h
    obtain ⟨h1, h3⟩ := h1
    unfold pck at h1
    rw [Bool.and_eq_true, beq_iff_eq, List.all_eq_true] at h1
    have h2 := h1.2 (s - 1) (List.mem_range.mpr (by omega))
    rw [show s - 1 + 1 = s by omega] at h2
    by_cases ht : a.take s = b.take s
    · rw [if_pos (beq_iff_eq.mpr ht), beq_iff_eq] at h2
      obtain ⟨blk, rest', e1, e2, e3⟩ := ih b h3
      refine ⟨b :: blk, rest', by rw [e1]; rfl, fun x hx => ?_, by rw [h2]; exact e3⟩
      rcases List.mem_cons.mp hx with rfl | hx
      · exact ht.symm
      · rw [e2 x hx, ht]
    · rw [if_neg (fun hh => ht (beq_iff_eq.mp hh)), beq_iff_eq] at h2
      exact ⟨[], b :: r, rfl, fun x hx => absurd hx (by simp), by rw [h2]; exact h1.1⟩
theorem pchk_app {np : Nat} : ∀ (L R : List (List Nat)), pchk np (L ++ R) = true → pchk np R = true := by
  intro L
  induction L with
  | nil => intro R h; exact h
  | cons a L ih =>
    intro R h
    have : pchk np (a :: (L ++ R)) = true := h
    unfold pchk at this
    rw [Bool.and_eq_true] at this
    exact ih R this.2
theorem sortD_far {np s : Nat} (h : np ≤ s + 1) (l : List Nat) : sortD np s l = l := by
  unfold sortD
  rw [show np - 1 - s = 0 by omega]
  rfl
theorem seqP' {np s : Nat} (hs : 1 ≤ s) (rest : List (List Nat)) (a : List Nat) (h : pchk np (a :: rest) = true) (hnp : 1 ≤ np) : ∃ blk rest', rest = blk ++ rest' ∧ (∀ x, x ∈ blk → x.take s = a.take s) ∧ nxt np (sortD np s a) = rest'.head? := by
  by_cases h2 : s ≤ np
  · exact seqP hs h2 rest a h
  · refine ⟨[], rest, rfl, fun x hx => absurd hx (by simp), ?_⟩
    rw [sortD_far (by omega)]
    cases rest with
    | nil =>
      unfold pchk pck at h
      simp only [Bool.and_eq_true, beq_iff_eq] at h
      exact h.1.1
    | cons b r =>
      unfold pchk pck at h
      simp only [Bool.and_eq_true, beq_iff_eq] at h
      exact h.1.1
theorem range_mul (b : Nat) : ∀ a, List.range (a * b) = (List.range a).flatMap fun y => (List.range b).map fun d => y * b + d := by
  intro a
  induction a with
  | zero => simp
  | succ a ih => rw [Nat.succ_mul, List.range_add, ih, List.range_succ, List.flatMap_append, List.flatMap_singleton]
theorem AL_range {np : Nat} (hp : 0 < np) : ∀ k, AL np k = (List.range (np ^ k)).map (dgs np k) := by
  intro k
  induction k with
  | zero => rfl
  | succ k ih =>
    rw [Nat.pow_succ, range_mul, List.map_flatMap]
    unfold AL
    rw [ih, List.flatMap_map]
    refine congrArg (fun f => List.flatMap f (List.range (np ^ k))) ?_
    funext y
    rw [List.map_map]
    refine List.map_congr_left fun d hd => ?_
    have hd := List.mem_range.mp hd
    show dgs np k y ++ [d] = dgs np k ((y * np + d) / np) ++ [(y * np + d) % np]
    rw [show (y * np + d) / np = y by rw [Nat.add_comm, Nat.add_mul_div_right _ _ hp, Nat.div_eq_of_lt hd, Nat.zero_add], show (y * np + d) % np = d by rw [Nat.add_comm, Nat.add_mul_mod_self_right, Nat.mod_eq_of_lt hd]]
theorem dgs_len (np : Nat) : ∀ k y, (dgs np k y).length = k := by
  intro k
  induction k with
  | zero => intro y; rfl
  | succ k ih => intro y; unfold dgs; rw [List.length_append, ih]; rfl
/-! the class's line -/
def LN (C : FMem) (np : Nat) (l : List Nat) : Prop := l.length = np ∧ ∀ j, j < np → C 99 j = nI (l.getD j 0) ∧ l.getD j 0 < np
theorem getD_set (l : List Nat) {i : Nat} (hi : i < l.length) (v k : Nat) : (l.set i v).getD k 0 = if k = i then v else l.getD k 0 := by
  rw [List.getD_eq_getElem?_getD, List.getD_eq_getElem?_getD, List.getElem?_set]
  by_cases h : i = k
  · subst h
    rw [if_pos rfl, if_pos hi, if_pos rfl]
    rfl
  · rw [if_neg h, if_neg (fun e => h e.symm)]
theorem swp_len (i j : Nat) (l : List Nat) : (swp i j l).length = l.length := by
  unfold swp
  rw [List.length_set, List.length_set]
theorem swp_get {i j : Nat} {l : List Nat} (hi : i < l.length) (hj : j < l.length) (k : Nat) : (swp i j l).getD k 0 = if k = j then l.getD i 0 else if k = i then l.getD j 0 else l.getD k 0 := by
  unfold swp
  rw [getD_set _ (by rw [List.length_set]; exact hj), getD_set _ hi]
theorem swap_ok {C : FMem} {np i j : Nat} {l : List Nat} (hp : np ≤ 6) (hi : i < np) (hj : j < np) (h : LN C np l) : ∃ C', f_X3_swap (nI i) (nI j) C = some (0, C') ∧ (∀ k, k ≠ 99 → C' k = C k) ∧ LN C' np (swp i j l) := by
  obtain ⟨hl, h⟩ := h
  unfold f_X3_swap
  rw [grd_ok (inb_t (by omega) (by omega)), nI_clamp (by omega), nI_clamp (by omega), bindv_ok, grd_ok (inb_t (by omega) (by omega)), grd_ok (inb_t (by omega) (by omega)), bindm_ok, grd_ok (inb_t (by omega) (by omega)), bindm_ok, fset_eq C 99 i (C 99 j), fset_rset]
  refine ⟨_, rfl, fun k hk => rset_ne _ _ hk, by rw [swp_len]; exact hl, fun k hk => ?_⟩
  rw [rset_same, swp_get (by omega) (by omega)]
  by_cases h1 : k = j
  · subst h1
    rw [upd_same, if_pos rfl]
    exact h i hi
  · rw [upd_ne _ _ h1, if_neg h1]
    by_cases h2 : k = i
    · subst h2
      rw [upd_same, if_pos rfl]
      exact h j hj
    · rw [upd_ne _ _ h2, if_neg h2]
      exact h k hk
theorem sIn_ok (k6 : Int32 → Int32 → FMem → Opt) {np i : Nat} (hp : np ≤ 6) (hp1 : 1 ≤ np) (hi : i < np) : ∀ (m j f : Nat) (C : FMem) (l : List Nat), j + m = np → m < f → LN C np l →
    ∃ C', X3_sortDown_b16 k6 f (nI (np - 1)) (nI i) (nI j) C = k6 (nI (np - 1)) (nI (i + 1)) C' ∧ (∀ k, k ≠ 99 → C' k = C k) ∧ LN C' np (sIn i m j l) := by
  intro m
  induction m with
  | zero =>
    intro j f C l hj hf h
    obtain ⟨g, rfl, -⟩ := fu_s hf
    refine ⟨C, ?_, fun _ _ => rfl, h⟩
    show X3_sortDown_b16s k6 (X3_sortDown_b16 k6 g) _ _ _ C = _
    unfold X3_sortDown_b16s
    rw [if_pos (by rw [nI_ltI (by omega) (by omega)]; omega), nI_1]
  | succ m ih =>
    intro j f C l hj hf h
    obtain ⟨g, rfl, hg⟩ := fu_s hf
    have hl := h.2
    have h1 := hl i hi
    have h2 := hl j (by omega)
    show ∃ C', X3_sortDown_b16s k6 (X3_sortDown_b16 k6 g) _ _ _ C = _ ∧ _
    unfold X3_sortDown_b16s X3_sortDown_b45 sIn
    rw [if_neg (by rw [nI_ltI (by omega) (by omega)]; omega), grd_ok (inb_t (by omega) (by omega)), grd_ok (inb_t (by omega) (by omega)), nI_clamp (by omega), nI_clamp (by omega), h1.1, h2.1, nI_1]
    by_cases hle : l.getD j 0 ≤ l.getD i 0
    · rw [if_pos (by rw [nI_leI (by omega) (by omega)]; exact hle), if_pos hle]
      exact ih (j + 1) g C l (by omega) (by omega) h
    · obtain ⟨C2, e2, a2, b2⟩ := swap_ok hp hi (show j < np by omega) h
      rw [if_neg (by rw [nI_leI (by omega) (by omega)]; exact hle), if_neg hle, e2, bnd_ok]
      obtain ⟨C3, e3, a3, b3⟩ := ih (j + 1) g C2 _ (by omega) (by omega) b2
      exact ⟨C3, e3, fun k hk => by rw [a3 k hk, a2 k hk], b3⟩
theorem sOut_ok {np : Nat} (hp : np ≤ 6) (hp1 : 1 ≤ np) : ∀ (m i f : Nat) (C : FMem) (l : List Nat), m = np - 1 - i → i < 2 ^ 30 → m < f → LN C np l →
    ∃ C', X3_sortDown_b6 f (nI (np - 1)) (nI i) C = some (0, C') ∧ (∀ k, k ≠ 99 → C' k = C k) ∧ LN C' np (sOut np m i l) := by
  intro m
  induction m with
  | zero =>
    intro i f C l hm hi hf h
    obtain ⟨g, rfl, -⟩ := fu_s hf
    refine ⟨C, ?_, fun _ _ => rfl, h⟩
    show X3_sortDown_b6s (X3_sortDown_b6 g) _ _ C = _
    unfold X3_sortDown_b6s
    rw [if_pos (by rw [nI_leI (by omega) (by omega)]; omega)]
  | succ m ih =>
    intro i f C l hm hi hf h
    obtain ⟨g, rfl, hg⟩ := fu_s hf
    show ∃ C', X3_sortDown_b6s (X3_sortDown_b6 g) _ _ C = _ ∧ _
    unfold X3_sortDown_b6s sOut
    rw [if_neg (by rw [nI_leI (by omega) (by omega)]; omega), bindv_ok, nI_1]
    obtain ⟨C2, e2, a2, b2⟩ := sIn_ok (X3_sortDown_b6 g) hp hp1 (show i < np by omega) (np - (i + 1)) (i + 1) FU C l (by omega) (FU_gt (by omega)) h
    obtain ⟨C3, e3, a3, b3⟩ := ih (i + 1) g C2 _ (by omega) (by omega) (by omega) b2
    rw [e2]
    exact ⟨C3, e3, fun k hk => by rw [a3 k hk, a2 k hk], b3⟩
theorem sortDown_ok {C : FMem} {np s : Nat} {l : List Nat} (hp : np ≤ 6) (hp1 : 1 ≤ np) (hs : s < 2 ^ 30) (h : LN C np l) : ∃ C', f_X3_sortDown (nI s) (nI (np - 1)) C = some (0, C') ∧ (∀ k, k ≠ 99 → C' k = C k) ∧ LN C' np (sortD np s l) := by
  unfold f_X3_sortDown
  rw [show jmax (nI s) 0 = nI s from if_neg (nI_pos (by omega)), bindv_ok]
  exact sOut_ok hp hp1 (np - 1 - s) s FU C l rfl hs (FU_gt (by omega)) h
theorem rvr_ok {np : Nat} (hp : np ≤ 6) : ∀ (m lo hi f : Nat) (C : FMem) (l : List Nat), hi ≤ lo + 2 * m → hi < np → lo < 20 → m < f → LN C np l →
    ∃ C', X3_lineUpNext_b104 f (nI lo) (nI hi) C = some (1, C') ∧ (∀ k, k ≠ 99 → C' k = C k) ∧ LN C' np (rvr m lo hi l) := by
  intro m
  induction m with
  | zero =>
    intro lo hi f C l hm hh hl hf h
    obtain ⟨g, rfl, -⟩ := fu_s hf
    refine ⟨C, ?_, fun _ _ => rfl, h⟩
    show X3_lineUpNext_b104s (X3_lineUpNext_b104 g) _ _ C = _
    unfold X3_lineUpNext_b104s
    rw [if_pos (by rw [nI_leI (by omega) (by omega)]; omega)]
  | succ m ih =>
    intro lo hi f C l hm hh hl hf h
    obtain ⟨g, rfl, hg⟩ := fu_s hf
    show ∃ C', X3_lineUpNext_b104s (X3_lineUpNext_b104 g) _ _ C = _ ∧ _
    unfold X3_lineUpNext_b104s rvr
    by_cases hle : hi ≤ lo
    · rw [if_pos (show nI hi ≤ nI lo by rw [nI_leI (by omega) (by omega)]; omega), if_pos hle]
      exact ⟨C, rfl, fun _ _ => rfl, h⟩
    · obtain ⟨C2, e2, a2, b2⟩ := swap_ok hp (show lo < np by omega) hh h
      have eh : nI hi + (-1) = nI (hi - 1) := by
        have := pk_m1 (hi - 1)
        rwa [show hi - 1 + 1 = hi by omega] at this
      rw [if_neg (show ¬ nI hi ≤ nI lo by rw [nI_leI (by omega) (by omega)]; omega), if_neg hle, e2, bnd_ok, nI_1, eh]
      obtain ⟨C3, e3, a3, b3⟩ := ih (lo + 1) (hi - 1) g C2 _ (by omega) (by omega) (by omega) (by omega) b2
      exact ⟨C3, e3, fun k hk => by rw [a3 k hk, a2 k hk], b3⟩
theorem fJ_le (l : List Nat) (i : Nat) : ∀ j, fJ l i j ≤ j := by
  intro j
  induction j with
  | zero => exact Nat.le_refl _
  | succ j ih => unfold fJ; split; exact Nat.le_refl _; split; exact Nat.le_refl _; omega
theorem fJ_ok {C : FMem} {np i : Nat} {l : List Nat} (hp : np ≤ 6) (hi : i < np) (h : LN C np l) (x2 : Int32) : ∀ (j f : Nat), j < np → j < f → X3_lineUpNext_b61 f x2 (nI i) (nI j) C = X3_lineUpNext_b89 x2 (nI i) (nI (fJ l i j)) C := by
  intro j
  induction j with
  | zero =>
    intro f hj hf
    obtain ⟨g, rfl, -⟩ := fu_s hf
    show X3_lineUpNext_b61s (X3_lineUpNext_b61 g) _ _ _ C = _
    unfold X3_lineUpNext_b61s
    rw [if_pos (by rw [nI_leI (by omega) (by omega)]; omega)]
    rfl
  | succ j ih =>
    intro f hj hf
    obtain ⟨g, rfl, hg⟩ := fu_s hf
    have h1 := h.2 i hi
    have h2 := h.2 (j + 1) hj
    show X3_lineUpNext_b61s (X3_lineUpNext_b61 g) _ _ _ C = _
    unfold X3_lineUpNext_b61s fJ
    by_cases hle : j + 1 ≤ i
    · rw [if_pos (by rw [nI_leI (by omega) (by omega)]; exact hle), if_pos hle]
    · rw [if_neg (by rw [nI_leI (by omega) (by omega)]; exact hle), if_neg hle, grd_ok (inb_t (by omega) (by omega)), grd_ok (inb_t (by omega) (by omega)), nI_clamp (by omega), nI_clamp (by omega), h1.1, h2.1]
      by_cases h3 : l.getD i 0 ≤ l.getD (j + 1) 0
      · rw [if_pos (by rw [nI_leI (by omega) (by omega)]; exact h3), if_pos h3]
      · rw [if_neg (by rw [nI_leI (by omega) (by omega)]; exact h3), if_neg h3, pk_m1]
        exact ih g (by omega) (by omega)
theorem next_loop {C : FMem} {np : Nat} {l : List Nat} (hp : np ≤ 6) (hp1 : 1 ≤ np) (h : LN C np l) : ∀ (m f : Nat), m < np → m < f →
    X3_lineUpNext_b25 f (nI (np - 1)) (ldv m) C = match fI l m with
      | none => some (0, C)
      | some i => X3_lineUpNext_b61 FU (nI (np - 1)) (nI i) (nI (np - 1)) C := by
  intro m
  induction m with
  | zero =>
    intro f hm hf
    obtain ⟨g, rfl, -⟩ := fu_s hf
    show X3_lineUpNext_b25s (X3_lineUpNext_b25 g) _ _ C = _
    unfold X3_lineUpNext_b25s X3_lineUpNext_b52
    rw [if_pos (by decide), if_neg (by decide)]
    rfl
  | succ m ih =>
    intro f hm hf
    obtain ⟨g, rfl, hg⟩ := fu_s hf
    have h1 := h.2 m (by omega)
    have h2 := h.2 (m + 1) hm
    show X3_lineUpNext_b25s (X3_lineUpNext_b25 g) _ (nI m) C = _
    unfold X3_lineUpNext_b25s X3_lineUpNext_b52 fI
    rw [if_neg (nI_pos (by omega)), nI_1, grd_ok (inb_t (by omega) (by omega)), grd_ok (inb_t (by omega) (by omega)), nI_clamp (by omega), nI_clamp (by omega), h1.1, h2.1]
    by_cases h3 : l.getD m 0 ≤ l.getD (m + 1) 0
    · rw [if_pos (by rw [nI_leI (by omega) (by omega)]; exact h3), if_pos (nI_pos' (by omega)), if_pos h3]
    · rw [if_neg (by rw [nI_leI (by omega) (by omega)]; exact h3), if_neg h3, show nI m + (-1) = ldv m from ldv_dn m (by omega)]
      exact ih g (by omega) (by omega)
theorem fI_lt (l : List Nat) : ∀ m i, fI l m = some i → i < m := by
  intro m
  induction m with
  | zero => intro i h; cases h
  | succ m ih =>
    intro i h
    unfold fI at h
    split at h
    · cases h; omega
    · have := ih i h; omega
theorem np_pred : ∀ np, np < 7 → 1 ≤ np → jmin (nI np) 6 - 1 = nI (np - 1) ∧ nI (np - 1) - 1 = ldv (np - 1) := by decide +kernel
theorem lineUpNext_ok {C : FMem} {np s : Nat} {l : List Nat} (hp : np ≤ 6) (hp1 : 1 ≤ np) (h12 : C 12 3 = nI np) (hs : s < 2 ^ 30) (h : LN C np l) : ∃ C', f_X3_lineUpNext (nI s) C = some (b2i (nxt np (sortD np s l)).isSome, C') ∧ (∀ k, k ≠ 99 → C' k = C k) ∧ ∀ l', nxt np (sortD np s l) = some l' → LN C' np l' := by
  obtain ⟨e1, e2⟩ := np_pred np (by omega) hp1
  obtain ⟨C1, e3, a1, b1⟩ := sortDown_ok hp hp1 hs h
  unfold f_X3_lineUpNext
  rw [h12, e1, bindv_ok, e3, bnd_ok, e2, bindv_ok, next_loop hp hp1 b1 (np - 1) FU (by omega) (FU_gt (by omega))]
  unfold nxt
  cases hf : fI (sortD np s l) (np - 1) with
  | none => exact ⟨C1, rfl, a1, fun l' h' => by cases h'⟩
  | some i =>
    have hi := fI_lt _ _ _ hf
    have hj := fJ_le (sortD np s l) i (np - 1)
    obtain ⟨C2, e5, a2, b2⟩ := swap_ok hp (show i < np by omega) (show fJ (sortD np s l) i (np - 1) < np by omega) b1
    obtain ⟨C3, e6, a3, b3⟩ := rvr_ok hp 3 (i + 1) (np - 1) FU C2 _ (by omega) (by omega) (by omega) (FU_gt (by decide)) b2
    show ∃ C', X3_lineUpNext_b61 FU (nI (np - 1)) (nI i) (nI (np - 1)) C1 = _ ∧ _
    rw [fJ_ok hp (show i < np by omega) b1 _ (np - 1) FU (by omega) (FU_gt (by omega))]
    unfold X3_lineUpNext_b89
    rw [e5, bnd_ok, bindv_ok, nI_1, e6]
    exact ⟨C3, rfl, fun k hk => by rw [a3 k hk, a2 k hk, a1 k hk], fun l' h' => by cases h'; exact b3⟩
