/-! ===== the class's outlook ===== -/
theorem J7_fill_loop (u n : Nat) (hn : n < 2 ^ 31) (M : FMem) (v : Int32) : ∀ (m k f : Nat) (Mk : FMem), k + m = n → m < f → (∀ j, j ≠ u → Mk j = M j) → (∀ q, q < k → Mk u q = v) → ∃ M', J7_fill_53178_b5 u n f v (nI k) (Int32.ofNat n) Mk = some (0, M') ∧ (∀ j, j ≠ u → M' j = M j) ∧ ∀ q, q < n → M' u q = v := by
  intro m
  induction m with
  | zero =>
    intro k f Mk hk hf h1 h2
    obtain ⟨g, rfl, -⟩ := fu_s hf
    have hk : k = n := by omega
    subst hk
    refine ⟨Mk, ?_, h1, h2⟩
    show J7_fill_53178_b5s u k (J7_fill_53178_b5 u k g) _ _ _ Mk = _
    unfold J7_fill_53178_b5s
    exact if_pos (Int32.le_refl _)
  | succ m ih =>
    intro k f Mk hk hf h1 h2
    obtain ⟨g, rfl, hg⟩ := fu_s hf
    obtain ⟨M', e, a1, a2⟩ := ih (k + 1) g (fset Mk u k v) (by omega) (by omega) (fun j hj => by rw [fset_ne _ _ _ hj, h1 j hj]) (fun q hq => by
      rw [fset_same]
      by_cases h : q = k
      · rw [h, upd_same]
      · rw [upd_ne _ _ h]; exact h2 q (by omega))
    refine ⟨M', ?_, a1, a2⟩
    show J7_fill_53178_b5s u n (J7_fill_53178_b5 u n g) _ _ _ Mk = _
    unfold J7_fill_53178_b5s
    have hne : ¬ Int32.ofNat n ≤ nI k := by
      rw [show Int32.ofNat n = nI n from rfl, nI_leI (by omega) (by omega)]
      omega
    rw [if_neg hne, grd_ok (inb_t (by omega) (by omega)), bindm_ok, nI_clamp (by omega), nI_1]
    exact e
theorem J7_fill_ok (u n : Nat) (hn : n < 90000) (M : FMem) (v : Int32) : ∃ M', f_J7_fill_53178 u n v M = some (0, M') ∧ (∀ j, j ≠ u → M' j = M j) ∧ ∀ q, q < n → M' u q = v :=
  J7_fill_loop u n (by omega) M v n 0 FU M (by omega) (FU_gt (by omega)) (fun _ _ => rfl) (fun _ h => by omega)
theorem isLooked_ok (M : FMem) {hm : Nat} (hh : hm ≤ 61) (h3 : M 94 3 = nI hm) (x : Int32) : (∃ d, d < hm ∧ x = nI d ∧ f_X2_isLookedAt x M = some (1, M)) ∨ ((∀ d, d < hm → x ≠ nI d) ∧ f_X2_isLookedAt x M = some (0, M)) := by
  unfold f_X2_isLookedAt
  by_cases h0 : x < 0
  · right
    refine ⟨fun d hd e => ?_, if_pos h0⟩
    rw [e] at h0
    exact nI_pos (by omega) h0
  · obtain ⟨j, hj, rfl⟩ := nI_of h0
    rw [if_neg h0, h3]
    by_cases h1 : hm ≤ j
    · right
      refine ⟨fun d hd e => ?_, if_pos ((nI_leI (by omega) hj).mpr h1)⟩
      have := (nI_eq hj (by omega)).mp e
      omega
    · left
      refine ⟨j, by omega, rfl, ?_⟩
      rw [if_neg (by rw [nI_leI (by omega) hj]; exact h1), if_neg (by rw [c_le hj (by omega)]; omega)]
theorem isLooked_in (M : FMem) {hm d : Nat} (hh : hm ≤ 61) (h3 : M 94 3 = nI hm) (hd : d < hm) : f_X2_isLookedAt (nI d) M = some (1, M) := by
  rcases isLooked_ok M hh h3 (nI d) with ⟨_, _, _, h⟩ | ⟨h, _⟩
  · exact h
  · exact absurd rfl (h d hd)
theorem isLooked_out (M : FMem) {hm d : Nat} (hh : hm ≤ 61) (h3 : M 94 3 = nI hm) (hd : hm ≤ d) (hd2 : d < 2 ^ 31) : f_X2_isLookedAt (nI d) M = some (0, M) := by
  rcases isLooked_ok M hh h3 (nI d) with ⟨e, h1, h2, h⟩ | ⟨_, h⟩
  · have := (nI_eq hd2 (by omega)).mp h2
    omega
  · exact h
theorem isPlace_in (M : FMem) {i : Nat} (hi : i < 6) : f_X2_isPlace (nI i) M = some (1, M) := by
  unfold f_X2_isPlace
  rw [if_neg (nI_pos (by omega)), if_neg (by rw [c_le (by omega) (by omega)]; omega)]
/-- the topics had, whoever looks -/
def hdv (pr : Nat → Bool) (tp : Nat → Int32) : Nat → Int32
  | 0 => 0
  | k + 1 => if pr k = true then hdv pr tp k ||| tp k else hdv pr tp k
theorem gp_had (pr : Nat → Bool) (kind taste day : Int32) (tp sg : Nat → Int32) : ∀ n, (gp pr kind taste day tp sg n).2 = hdv pr tp n := by
  intro n
  induction n with
  | zero => rfl
  | succ n ih =>
    rw [gp_s]
    unfold hdv
    by_cases h : pr n = true
    · rw [if_pos h, if_pos h, ← ih]
    · rw [if_neg h, if_neg h, ih]
theorem hdv_congr {pr pr' : Nat → Bool} {tp : Nat → Int32} : ∀ n, (∀ k, k < n → pr k = pr' k) → hdv pr tp n = hdv pr' tp n := by
  intro n
  induction n with
  | zero => intros; rfl
  | succ n ih =>
    intro h
    unfold hdv
    rw [ih (fun k hk => h k (by omega)), h n (by omega)]
/-- which things a day shows -/
def shB (dy : Nat → Int32) (frm hid : Int32) (hm n d : Nat) : Nat → Bool := fun k => decide (k < n ∧ dy k - frm = nI d ∧ d < hm) && !(bt hid k)
def OL (C : FMem) (u : Nat) (hid frm : Int32) (hm n : Nat) : Prop := C 94 1 = nI u ∧ C 94 2 = frm ∧ C 94 3 = nI hm ∧ (∀ d, d < 61 → ∀ k, k < 32 → bt (C 95 d) k = shB (C (u + 1)) frm hid hm n d k) ∧ ∀ d, d < 61 → C 96 d = hdv (shB (C (u + 1)) frm hid hm n d) (C (u + 2)) n
theorem one_bt {k j : Nat} (hk : k < 32) (hj : j < 32) : bt ((1 : Int32) <<< (nI k &&& 31)) j = decide (j = k) := by
  rw [b_shl k hk _ hj]
  by_cases h : j = k
  · subst h
    simp
    decide
  · by_cases h2 : k ≤ j
    · rw [(by decide +kernel : ∀ i, i < 32 → bt 1 i = decide (i = 0)) (j - k) (by omega)]
      simp [h, h2]
      omega
    · simp [h2, h]
theorem shB_s (dy : Nat → Int32) (frm hid : Int32) (hm k d j : Nat) : shB dy frm hid hm (k + 1) d j = (shB dy frm hid hm k d j || (decide (j = k) && (decide (dy k - frm = nI d ∧ d < hm) && !(bt hid k)))) := by
  unfold shB
  by_cases h : j = k
  · subst h
    simp
  · have h2 : j < k + 1 ↔ j < k := by omega
    simp [h, h2]
theorem hdv_sh (dy tp : Nat → Int32) (frm hid : Int32) (hm n d k : Nat) (hk : k ≤ n) : hdv (shB dy frm hid hm n d) tp k = hdv (shB dy frm hid hm k d) tp k := by
  refine hdv_congr k fun j hj => ?_
  unfold shB
  have h1 : (j < n ∧ dy j - frm = nI d ∧ d < hm) ↔ (j < k ∧ dy j - frm = nI d ∧ d < hm) := by
    constructor
    · rintro ⟨-, h⟩; exact ⟨hj, h⟩
    · rintro ⟨-, h⟩; exact ⟨by omega, h⟩
  rw [decide_eq_decide.mpr h1]
theorem X2_look_loop (u : Nat) (hu : u = 16 ∨ u = 23) (C : FMem) (hid frm : Int32) {hm n : Nat} (hh : hm ≤ 61) (hn9 : n ≤ 9) (hn : C u 3 = nI n) (h3 : C 94 3 = nI hm) : ∀ (m k f : Nat) (Mk : FMem), k + m = n → m < f → (∀ j, j ≠ 95 → j ≠ 96 → Mk j = C j) →
    (∀ d, d < 61 → ∀ j, j < 32 → bt (Mk 95 d) j = shB (C (u + 1)) frm hid hm k d j) → (∀ d, d < 61 → Mk 96 d = hdv (shB (C (u + 1)) frm hid hm k d) (C (u + 2)) k) →
    ∃ M', X2_look_b40 u f hid frm (nI k) Mk = X2_look_b122 u M' ∧ (∀ j, j ≠ 95 → j ≠ 96 → M' j = C j) ∧ (∀ d, d < 61 → ∀ j, j < 32 → bt (M' 95 d) j = shB (C (u + 1)) frm hid hm n d j) ∧ ∀ d, d < 61 → M' 96 d = hdv (shB (C (u + 1)) frm hid hm n d) (C (u + 2)) n := by
  have hu95 : u ≠ 95 ∧ u ≠ 96 ∧ u + 1 ≠ 95 ∧ u + 1 ≠ 96 ∧ u + 2 ≠ 95 ∧ u + 2 ≠ 96 := by omega
  intro m
  induction m with
  | zero =>
    intro k f Mk hk hf h1 h2 h4
    obtain ⟨g, rfl, -⟩ := fu_s hf
    have hk : k = n := by omega
    subst hk
    refine ⟨Mk, ?_, h1, h2, h4⟩
    show X2_look_b40s u (X2_look_b40 u g) _ _ _ Mk = _
    unfold X2_look_b40s
    rw [h1 u hu95.1 hu95.2.1, hn, if_pos (Int32.le_refl _)]
  | succ m ih =>
    intro k f Mk hk hf h1 h2 h4
    obtain ⟨g, rfl, hg⟩ := fu_s hf
    have ex : ∀ M1 : FMem, (∀ j, j ≠ 95 → j ≠ 96 → M1 j = C j) → (∀ d, d < 61 → ∀ j, j < 32 → bt (M1 95 d) j = shB (C (u + 1)) frm hid hm (k + 1) d j) → (∀ d, d < 61 → M1 96 d = hdv (shB (C (u + 1)) frm hid hm (k + 1) d) (C (u + 2)) (k + 1)) →
        ∃ M', X2_look_b116 u (X2_look_b40 u g) hid frm (nI k) M1 = X2_look_b122 u M' ∧ (∀ j, j ≠ 95 → j ≠ 96 → M' j = C j) ∧ (∀ d, d < 61 → ∀ j, j < 32 → bt (M' 95 d) j = shB (C (u + 1)) frm hid hm n d j) ∧ ∀ d, d < 61 → M' 96 d = hdv (shB (C (u + 1)) frm hid hm n d) (C (u + 2)) n := by
      intro M1 q1 q2 q4
      obtain ⟨M', e, r⟩ := ih (k + 1) g M1 (by omega) (by omega) q1 q2 q4
      refine ⟨M', ?_, r⟩
      unfold X2_look_b116
      rw [nI_1]
      exact e
    have hs : ∀ d, hdv (shB (C (u + 1)) frm hid hm (k + 1) d) (C (u + 2)) (k + 1) = if shB (C (u + 1)) frm hid hm (k + 1) d k = true then hdv (shB (C (u + 1)) frm hid hm k d) (C (u + 2)) k ||| C (u + 2) k else hdv (shB (C (u + 1)) frm hid hm k d) (C (u + 2)) k := by
      intro d
      show (if _ = true then _ else _) = _
      rw [hdv_sh _ _ _ _ _ (k + 1) _ k (by omega)]
    have hkk : ∀ d, shB (C (u + 1)) frm hid hm (k + 1) d k = (decide (C (u + 1) k - frm = nI d ∧ d < hm) && !(bt hid k)) := by
      intro d
      rw [shB_s]
      simp [shB]
    show ∃ M', X2_look_b40s u (X2_look_b40 u g) hid frm (nI k) Mk = _ ∧ _
    unfold X2_look_b40s
    rw [h1 u hu95.1 hu95.2.1, h1 (u + 1) hu95.2.2.1 hu95.2.2.2.1, hn, if_neg (by rw [nI_leI (by omega) (by omega)]; omega), if_neg (by rw [c_le (by omega) (by omega)]; omega), grd_ok (inb_t (by omega) (by omega)), bindv_ok, nI_clamp (by omega)]
    have h3k : Mk 94 3 = nI hm := by rw [h1 94 (by decide) (by decide)]; exact h3
    rcases isLooked_ok Mk hh h3k (C (u + 1) k - frm) with ⟨d, hd, e, hl⟩ | ⟨hno, hl⟩
    · rw [hl, bnd_ok, if_neg (by decide)]
      by_cases hb : bt hid k = false
      · rw [if_pos ((has_0 (by omega)).mpr hb), e, grd_ok (inb_t (by omega) (by omega)), grd_ok (inb_t (by omega) (by omega)), bindm_ok, grd_ok (inb_t (by omega) (by omega)), grd_ok (inb_t (by omega) (by omega)), grd_ok (inb_t (by omega) (by omega)), bindm_ok, nI_clamp (by omega)]
        refine ex _ (fun j j1 j2 => ?_) (fun d' hd' j hj => ?_) (fun d' hd' => ?_)
        · rw [fset_ne _ _ _ j2, fset_ne _ _ _ j1, h1 j j1 j2]
        · rw [fset_ne _ _ _ (by decide), fset_same]
          by_cases hdd : d' = d
          · rw [hdd, upd_same, b_or, h2 d (by omega) j hj, one_bt (by omega) hj, shB_s]
            simp [e, hd, hb]
          · rw [upd_ne _ _ hdd, h2 d' hd' j hj, shB_s]
            have hne : ¬ C (u + 1) k - frm = nI d' := by
              rw [e, nI_eq (by omega) (by omega)]
              omega
            simp [hne]
        · rw [fset_same, fset_ne _ _ _ (by decide), hs]
          have eu2 : fset Mk 95 d (Mk 95 d ||| (1 : Int32) <<< (nI k &&& 31)) (u + 2) = C (u + 2) := by
            rw [fset_ne _ _ _ hu95.2.2.2.2.1, h1 _ hu95.2.2.2.2.1 hu95.2.2.2.2.2]
          rw [eu2]
          by_cases hdd : d' = d
          · rw [hdd, upd_same, h4 d (by omega), if_pos (by rw [hkk]; simp [e, hd, hb])]
          · rw [upd_ne _ _ hdd, h4 d' hd']
            have hne : ¬ C (u + 1) k - frm = nI d' := by
              rw [e, nI_eq (by omega) (by omega)]
              omega
            rw [if_neg (by rw [hkk]; simp [hne])]
      · rw [if_neg (fun q => hb ((has_0 (by omega)).mp q))]
        have hb' : bt hid k = true := by simpa using hb
        refine ex _ h1 (fun d' hd' j hj => ?_) (fun d' hd' => ?_)
        · rw [h2 d' hd' j hj, shB_s]
          simp [hb']
        · rw [h4 d' hd', hs, if_neg (by rw [hkk]; simp [hb'])]
    · rw [hl, bnd_ok, if_pos rfl]
      refine ex _ h1 (fun d' hd' j hj => ?_) (fun d' hd' => ?_)
      · rw [h2 d' hd' j hj, shB_s]
        by_cases hlt : d' < hm
        · simp [hno d' hlt]
        · simp [hlt]
      · rw [h4 d' hd', hs, if_neg (by
          rw [hkk]
          by_cases hlt : d' < hm
          · simp [hno d' hlt]
          · simp [hlt])]

theorem tOK_16 : tOK (nI 16) = true := by decide
theorem tOK_23 : tOK (nI 23) = true := by decide
theorem tOK_u {u : Nat} (hu : u = 16 ∨ u = 23) : tOK (nI u) = true := by
  rcases hu with rfl | rfl
  · exact tOK_16
  · exact tOK_23
/-- what comes to a person by taste ta on day d of the outlook -/
def gnv (C : FMem) (u n i : Nat) (ta frm : Int32) (d : Nat) : Int32 := (gp (bt (C 95 d)) (C 13 i) ta (frm + nI d) (C (u + 2)) (C (u + 3)) n).1
theorem X2_weigh_loop (u : Nat) (hu : u = 16 ∨ u = 23) (M : FMem) {hm n i ta : Nat} (hh : hm ≤ 61) (hn9 : n ≤ 9) (hi : i < 6) (hta : ta < 32) (h94 : M 94 1 = nI u) (h3 : M 94 3 = nI hm) (hn : M u 3 = nI n) : ∀ (m d f : Nat) (Mk : FMem), d + m = hm → m < f → (∀ j, j ≠ 97 → Mk j = M j) → (∀ e, e < d → Mk 97 (e * 6 + i) = gnv M u n i (nI ta) (M 94 2) e) → (∀ q, q % 6 ≠ i → Mk 97 q = M 97 q) →
    ∃ M', X2_weigh_b10 f (nI i) (nI ta) (nI d) Mk = some (0, M') ∧ (∀ j, j ≠ 97 → M' j = M j) ∧ (∀ e, e < hm → M' 97 (e * 6 + i) = gnv M u n i (nI ta) (M 94 2) e) ∧ ∀ q, q % 6 ≠ i → M' 97 q = M 97 q := by
  intro m
  induction m with
  | zero =>
    intro d f Mk hd hf h1 h2 h4
    obtain ⟨g, rfl, -⟩ := fu_s hf
    have hd : d = hm := by omega
    subst hd
    refine ⟨Mk, ?_, h1, h2, h4⟩
    show X2_weigh_b10s (X2_weigh_b10 g) _ _ _ Mk = _
    unfold X2_weigh_b10s
    rw [h1 94 (by decide), h3, if_pos (Int32.le_refl _)]
  | succ m ih =>
    intro d f Mk hd hf h1 h2 h4
    obtain ⟨g, rfl, hg⟩ := fu_s hf
    have hcl : (nI u).toNatClampNeg = u := nI_clamp (by omega)
    have e94 : Mk 94 = M 94 := h1 94 (by decide)
    obtain ⟨M', e, r⟩ := ih (d + 1) g (fset Mk 97 (d * 6 + i) (gnv M u n i (nI ta) (M 94 2) d)) (by omega) (by omega) (fun j hj => by rw [fset_ne _ _ _ hj, h1 j hj]) (fun e he => by
      rw [fset_same]
      by_cases h : e = d
      · rw [h, upd_same]
      · rw [upd_ne _ _ (by omega)]; exact h2 e (by omega)) (fun q hq => by
      rw [fset_same, upd_ne _ _ (by omega)]
      exact h4 q hq)
    refine ⟨M', ?_, r⟩
    show X2_weigh_b10s (X2_weigh_b10 g) _ _ _ Mk = _
    unfold X2_weigh_b10s
    have e6 : nI d * 6 + nI i = nI (d * 6 + i) := by rw [show nI d * 6 = nI (d * 6) from pk_mul d 6]; exact nI_add _ _
    have hgb := X2_gainBy_ok Mk (n := n) (ta := ta) (by rw [e94, h94]; exact tOK_u hu) hn9 (by rw [e94, h94, hcl, h1 u (by omega)]; exact hn) hta (M 95 d) (M 13 i) (M 94 2 + nI d)
    rw [e94, h94, hcl, h1 (u + 2) (by omega), h1 (u + 3) (by omega)] at hgb
    rw [e94, h3, if_neg (by rw [nI_leI (by omega) (by omega)]; omega), if_neg (by rw [c_le (by omega) (by omega)]; omega), grd_ok (inb_t (by omega) (by omega)), grd_ok (inb_t (by omega) (by omega)), nI_clamp (by omega), nI_clamp (by omega), h1 95 (by decide), h1 13 (by decide), hgb, bnd_ok, e6, grd_ok (inb_t (by omega) (by omega)), bindm_ok, nI_clamp (by omega), nI_1]
    exact e
theorem X2_weigh_ok (u : Nat) (hu : u = 16 ∨ u = 23) (M : FMem) {hm n i ta : Nat} (hh : hm ≤ 61) (hn9 : n ≤ 9) (hi : i < 6) (hta : ta < 32) (h94 : M 94 1 = nI u) (h3 : M 94 3 = nI hm) (hn : M u 3 = nI n) :
    ∃ M', f_X2_weigh (nI i) (nI ta) M = some (0, M') ∧ (∀ j, j ≠ 97 → M' j = M j) ∧ (∀ e, e < hm → M' 97 (e * 6 + i) = gnv M u n i (nI ta) (M 94 2) e) ∧ ∀ q, q % 6 ≠ i → M' 97 q = M 97 q := by
  obtain ⟨M', e, r⟩ := X2_weigh_loop u hu M hh hn9 hi hta h94 h3 hn hm 0 FU M (by omega) (FU_gt (by omega)) (fun _ _ => rfl) (fun _ h => by omega) (fun _ _ => rfl)
  refine ⟨M', ?_, r⟩
  unfold f_X2_weigh
  rw [isPlace_in M hi, bnd_ok, if_neg (by decide)]
  exact e
/-- the laid court as the class holds it -/
def CtOK (C : FMem) (np : Nat) : Prop := 1 ≤ np ∧ np ≤ 6 ∧ C 12 3 = nI np ∧ (∃ f, 1 ≤ f ∧ f ≤ 9 ∧ C 12 5 = nI f) ∧ ∀ i, i < np → ∃ ta, ta < 32 ∧ C 14 i = nI ta
theorem X2_look_loop2 (u : Nat) (hu : u = 16 ∨ u = 23) (M : FMem) {hm n np : Nat} (hc : CtOK M np) (hh : hm ≤ 61) (hn9 : n ≤ 9) (h94 : M 94 1 = nI u) (h3 : M 94 3 = nI hm) (hn : M u 3 = nI n) : ∀ (m i f : Nat) (Mk : FMem), i + m = np → m < f → (∀ j, j ≠ 97 → Mk j = M j) → (∀ e i', e < hm → i' < i → Mk 97 (e * 6 + i') = gnv M u n i' (M 14 i') (M 94 2) e) →
    ∃ M', X2_look_b125 u f (nI i) Mk = some (0, M') ∧ (∀ j, j ≠ 97 → M' j = M j) ∧ ∀ e i', e < hm → i' < np → M' 97 (e * 6 + i') = gnv M u n i' (M 14 i') (M 94 2) e := by
  obtain ⟨hp1, hp6, hp, -, hts⟩ := hc
  intro m
  induction m with
  | zero =>
    intro i f Mk hi hf h1 h2
    obtain ⟨g, rfl, -⟩ := fu_s hf
    have hi : i = np := by omega
    subst hi
    refine ⟨Mk, ?_, h1, h2⟩
    show X2_look_b125s u (X2_look_b125 u g) _ Mk = _
    unfold X2_look_b125s
    rw [h1 12 (by decide), hp, if_pos (Int32.le_refl _)]
  | succ m ih =>
    intro i f Mk hi hf h1 h2
    obtain ⟨g, rfl, hg⟩ := fu_s hf
    obtain ⟨ta, hta, eta⟩ := hts i (by omega)
    have e94 : Mk 94 = M 94 := h1 94 (by decide)
    obtain ⟨M1, e1, a1, a2, a3⟩ := X2_weigh_ok u hu Mk (hm := hm) (n := n) (i := i) (ta := ta) hh hn9 (by omega) hta (by rw [e94]; exact h94) (by rw [e94]; exact h3) (by rw [h1 u (by omega)]; exact hn)
    have eg : ∀ e, gnv Mk u n i (nI ta) (Mk 94 2) e = gnv M u n i (nI ta) (M 94 2) e := fun e => by
      unfold gnv
      rw [e94, h1 95 (by decide), h1 13 (by decide), h1 (u + 2) (by omega), h1 (u + 3) (by omega)]
    obtain ⟨M', e, r⟩ := ih (i + 1) g M1 (by omega) (by omega) (fun j hj => by rw [a1 j hj, h1 j hj]) (fun e i' he hi' => by
      by_cases h : i' = i
      · rw [h, a2 e he, eg, eta]
      · rw [a3 _ (by omega), h2 e i' he (by omega)])
    refine ⟨M', ?_, r⟩
    show X2_look_b125s u (X2_look_b125 u g) _ Mk = _
    unfold X2_look_b125s
    rw [h1 12 (by decide), hp, if_neg (by rw [nI_leI (by omega) (by omega)]; omega), if_neg (by rw [c_le (by omega) (by omega)]; omega), grd_ok (inb_t (by omega) (by omega)), nI_clamp (by omega), h1 14 (by decide), eta, e1, bnd_ok, nI_1]
    exact e
theorem jmin_61 {hm : Nat} (hh : hm ≤ 61) : jmin (nI hm) 61 = nI hm := by
  unfold jmin
  rw [if_neg (by rw [c_gt (by omega) (by omega)]; omega)]
/-- what the class's look leaves: nothing but its own rows moves -/
theorem X2_look_ok (u : Nat) (hu : u = 16 ∨ u = 23) (C : FMem) (hid frm : Int32) {hm n np : Nat} (hc : CtOK C np) (hh : hm ≤ 61) (hn9 : n ≤ 9) (hn : C u 3 = nI n) :
    ∃ C', f_X2_look u hid frm (nI hm) C = some (0, C') ∧ (∀ j, j ≠ 94 → j ≠ 95 → j ≠ 96 → j ≠ 97 → C' j = C j) ∧ OL C' u hid frm hm n ∧ ∀ d i, d < hm → i < np → C' 97 (d * 6 + i) = gnv C' u n i (C' 14 i) frm d := by
  unfold f_X2_look
  rw [bindm_ok, bindm_ok, bindm_ok, jmin_61 hh]
  generalize hM3 : fset (fset (fset C 94 1 (Int32.ofNat u)) 94 2 frm) 94 3 (nI hm) = M3
  have k3 : ∀ j, j ≠ 94 → M3 j = C j := fun j hj => by rw [← hM3, fset_ne _ _ _ hj, fset_ne _ _ _ hj, fset_ne _ _ _ hj]
  have k941 : M3 94 1 = nI u := by rw [← hM3, fset_same, upd_ne _ _ (by decide), fset_same, upd_ne _ _ (by decide), fset_same, upd_same]; rfl
  have k942 : M3 94 2 = frm := by rw [← hM3, fset_same, upd_ne _ _ (by decide), fset_same, upd_same]
  have k943 : M3 94 3 = nI hm := by rw [← hM3, fset_same, upd_same]
  obtain ⟨M5, e5, a5, b5⟩ := J7_fill_ok 95 61 (by decide) M3 0
  obtain ⟨M8, e8, a8, b8⟩ := J7_fill_ok 96 61 (by decide) M5 0
  have k8 : ∀ j, j ≠ 95 → j ≠ 96 → M8 j = M3 j := fun j h1 h2 => by rw [a8 j h2, a5 j h1]
  rw [e5, bnd_ok, e8, bnd_ok]
  obtain ⟨M9, e9, a9, b9, c9⟩ := X2_look_loop u hu M8 hid frm (hm := hm) (n := n) hh hn9 (by rw [k8 u (by omega) (by omega), k3 u (by omega)]; exact hn) (by rw [k8 94 (by decide) (by decide)]; exact k943) n 0 FU M8 (by omega) (FU_gt (by omega)) (fun _ _ _ => rfl) (fun d hd j hj => by
    rw [a8 95 (by decide), b5 d hd, b_0]
    simp [shB]) (fun d hd => by rw [b8 d hd]; rfl)
  have k9 : ∀ j, j ≠ 94 → j ≠ 95 → j ≠ 96 → M9 j = C j := fun j h1 h2 h4 => by rw [a9 j h2 h4, k8 j h2 h4, k3 j h1]
  have k94 : M9 94 = M3 94 := by rw [a9 94 (by decide) (by decide), k8 94 (by decide) (by decide)]
  have hc9 : CtOK M9 np := by
    unfold CtOK
    rw [k9 12 (by decide) (by decide) (by decide), k9 14 (by decide) (by decide) (by decide)]
    exact hc
  obtain ⟨C', e', a', b'⟩ := X2_look_loop2 u hu M9 (hm := hm) (n := n) hc9 hh hn9 (by rw [k94]; exact k941) (by rw [k94]; exact k943) (by rw [k9 u (by omega) (by omega) (by omega)]; exact hn) np 0 FU M9 (by omega) (FU_gt (by have := hc.2.1; omega)) (fun _ _ => rfl) (fun _ _ _ h => by omega)
  have e1 : ∀ j, j ≠ 94 → j ≠ 95 → j ≠ 96 → j ≠ 97 → C' j = C j := fun j h1 h2 h4 h5 => by rw [a' j h5, k9 j h1 h2 h4]
  have e8' : ∀ j, j ≠ 94 → j ≠ 95 → j ≠ 96 → j ≠ 97 → C' j = M8 j := fun j h1 h2 h4 h5 => by rw [e1 j h1 h2 h4 h5, k8 j h2 h4, k3 j h1]
  refine ⟨C', ?_, e1, ⟨?_, ?_, ?_, ?_, ?_⟩, ?_⟩
  · rw [show (0 : Int32) = nI 0 from rfl, e9]
    exact e'
  · rw [a' 94 (by decide), k94]; exact k941
  · rw [a' 94 (by decide), k94]; exact k942
  · rw [a' 94 (by decide), k94]; exact k943
  · intro d hd k hk
    rw [a' 95 (by decide), b9 d hd k hk, e8' (u + 1) (by omega) (by omega) (by omega) (by omega)]
  · intro d hd
    rw [a' 96 (by decide), c9 d hd, e8' (u + 1) (by omega) (by omega) (by omega) (by omega), e8' (u + 2) (by omega) (by omega) (by omega) (by omega)]
  · intro d i hd hi
    rw [b' d i hd hi]
    unfold gnv
    rw [a' 95 (by decide), a' 13 (by decide), a' 14 (by decide), a' (u + 2) (by omega), a' (u + 3) (by omega), k94, k942]
