/-- what comes by the things that pr picks, one behind the other: the sum, the topics had -/
def gp (pr : Nat → Bool) (kind taste day : Int32) (tp sg : Nat → Int32) : Nat → Int32 × Int32
  | 0 => (0, 0)
  | k + 1 => if pr k = true then ((gp pr kind taste day tp sg k).1 + cbv kind taste (tp k) (sg k) (gp pr kind taste day tp sg k).2 day, (gp pr kind taste day tp sg k).2 ||| tp k) else gp pr kind taste day tp sg k
theorem gp_s (pr : Nat → Bool) (kind taste day : Int32) (tp sg : Nat → Int32) (k : Nat) : gp pr kind taste day tp sg (k + 1) = if pr k = true then ((gp pr kind taste day tp sg k).1 + cbv kind taste (tp k) (sg k) (gp pr kind taste day tp sg k).2 day, (gp pr kind taste day tp sg k).2 ||| tp k) else gp pr kind taste day tp sg k := rfl
theorem gp_congr {pr pr' : Nat → Bool} {kind taste day : Int32} {tp sg tp' sg' : Nat → Int32} : ∀ (n : Nat), (∀ k, k < n → pr k = pr' k) → (∀ k, k < n → pr k = true → tp k = tp' k) → (∀ k, k < n → pr k = true → sg k = sg' k) → gp pr kind taste day tp sg n = gp pr' kind taste day tp' sg' n := by
  intro n
  induction n with
  | zero => intros; rfl
  | succ n ih =>
    intro h1 h2 h3
    have e := ih (fun k hk => h1 k (by omega)) (fun k hk => h2 k (by omega)) (fun k hk => h3 k (by omega))
    unfold gp
    rw [e, ← h1 n (by omega)]
    by_cases hp : pr n = true
    · rw [if_pos hp, if_pos hp, h2 n (by omega) hp, h3 n (by omega) hp]
    · rw [if_neg hp, if_neg hp]
theorem gp_none {pr : Nat → Bool} {kind taste day : Int32} {tp sg : Nat → Int32} : ∀ (n : Nat), (∀ k, k < n → pr k = false) → gp pr kind taste day tp sg n = (0, 0) := by
  intro n
  induction n with
  | zero => intros; rfl
  | succ n ih =>
    intro h1
    unfold gp
    rw [if_neg (by rw [h1 n (by omega)]; decide)]
    exact ih (fun k hk => h1 k (by omega))
/-! the reference's comes -/
theorem X9_has_ok (x : Int32) {k : Nat} (hk : k < 32) (M : FMem) : f_X9_has x (nI k) M = some (if bt x k = true then 1 else 0, M) := by
  unfold f_X9_has
  by_cases h : bt x k = true
  · rw [if_pos ((has_1 hk).mpr h), if_pos h]
  · rw [if_neg (fun q => h ((has_1 hk).mp q)), if_neg h]
def prM (N : Nat → Int32) : Nat → Bool := fun k => decide (N (16 + 3 * k) = N 0) && !(bt (N 3) k)
def tpM (N : Nat → Int32) : Nat → Int32 := fun k => N (16 + 3 * k + 1)
def sgM (N : Nat → Int32) : Nat → Int32 := fun k => N (16 + 3 * k + 2)
/-- what comes to person i on the day of the row N, with one thing more -/
def cmG (M : FMem) (N : Nat → Int32) (i n : Nat) : Int32 × Int32 := gp (prM N) (M 1 (3 * i)) (M 1 (3 * i + 1)) (N 0) (tpM N) (sgM N) n
def cmV (M : FMem) (N : Nat → Int32) (i n : Nat) (v0 : Int32) : Int32 := if M 0 21 ≤ 0 then v0 + (cmG M N i n).1 else v0 + (cmG M N i n).1 + cbv (M 1 (3 * i)) (M 1 (3 * i + 1)) (M 0 20) (M 0 21) (cmG M N i n).2 (N 0)
theorem X9_comes_loop (M : FMem) {i n : Nat} (hi : i < 6) (hn : n ≤ 10) (hN : M 11 2 = nI n) (v0 : Int32) : ∀ (m k f : Nat), k + m = n → m < f → X9_comes_b13 f (nI i) (v0 + (cmG M (M 11) i k).1) (cmG M (M 11) i k).2 (nI k) M = some (cmV M (M 11) i n v0, M) := by
  intro m
  induction m with
  | zero =>
    intro k f hk hf
    obtain ⟨g, rfl, -⟩ := fu_s hf
    have hk : k = n := by omega
    subst hk
    show X9_comes_b13s (X9_comes_b13 g) _ _ _ _ M = _
    unfold X9_comes_b13s cmV
    rw [if_pos (by rw [hN]; exact Int32.le_refl _)]
    by_cases h : M 0 21 ≤ 0
    · rw [if_pos h, if_pos h]
    · rw [if_neg h, if_neg h, X9_comesBy_ok _ _ _ hi, bnd_ok]
  | succ m ih =>
    intro k f hk hf
    obtain ⟨g, rfl, hg⟩ := fu_s hf
    have h1 := ih (k + 1) g (by omega) (by omega)
    rw [← nI_1] at h1
    show X9_comes_b13s (X9_comes_b13 g) _ _ _ _ M = _
    unfold X9_comes_b13s
    have e16 : (16 : Int32) + 3 * nI k = nI (16 + 3 * k) := by rw [i3]; exact nI_add 16 (3 * k)
    have e17 : nI (16 + 3 * k) + 1 = nI (16 + 3 * k + 1) := nI_1 _
    have e18 : nI (16 + 3 * k) + 2 = nI (16 + 3 * k + 2) := nI_add _ 2
    rw [if_neg (by rw [hN, nI_leI (by omega) (by omega)]; omega), e16, bindv_ok, grd_ok (inb_t (by omega) (by omega)), nI_clamp (by omega)]
    unfold cmG gp at h1
    by_cases hd : M 11 (16 + 3 * k) = M 11 0
    · rw [if_pos hd, X9_has_ok _ (by omega), bnd_ok]
      by_cases hb : bt (M 11 3) k = true
      · rw [if_pos hb, if_neg (by decide)]
        rw [if_neg (by simp [prM, hb])] at h1
        exact h1
      · rw [if_neg hb, if_pos rfl, e17, e18, grd_ok (inb_t (by omega) (by omega)), grd_ok (inb_t (by omega) (by omega)), X9_comesBy_ok _ _ _ hi, bnd_ok, bindv_ok, grd_ok (inb_t (by omega) (by omega)), bindv_ok, nI_clamp (by omega), nI_clamp (by omega), Int32.add_assoc]
        rw [if_pos (by simp [prM, hb, hd])] at h1
        exact h1
    · rw [if_neg hd]
      rw [if_neg (by simp [prM, hd])] at h1
      exact h1
theorem X9_comes_ok (M : FMem) {i n : Nat} (hi : i < 6) (hn : n ≤ 10) (hN : M 11 2 = nI n) (hf : ¬ M 0 2 = 0) (a : Int32) : f_X9_comes (nI i) a M = some (cmV M (M 11) i n (a / M 0 2), M) := by
  unfold f_X9_comes
  rw [grd_ok (by simp [nz, hf]), bindv_ok]
  have h := X9_comes_loop M hi hn hN (a / M 0 2) n 0 FU (by omega) (FU_gt (by omega))
  have e : (cmG M (M 11) i 0) = (0, 0) := rfl
  rw [e, Int32.add_zero] at h
  exact h
theorem X9_isEnough_ok (M : FMem) {i : Nat} (hi : i < 6) (v : Int32) : f_X9_isEnough (nI i) v M = some (if M 1 (3 * i + 2) ≤ v then 1 else 0, M) := by
  unfold f_X9_isEnough
  have e : nI (3 * i) + 2 = nI (3 * i + 2) := nI_add _ 2
  rw [i3, e, grd_ok (inb_t (by omega) (by omega)), nI_clamp (by omega)]
  by_cases h : M 1 (3 * i + 2) ≤ v
  · rw [if_neg (Int32.not_lt.mpr h), if_pos h]
  · rw [if_pos (Int32.not_le.mp h), if_neg h]
/-! a day of the reference -/
theorem fset_rset (M : FMem) (i k : Nat) (r : Nat → Int32) (v : Int32) : fset (rset M i r) i k v = rset M i (upd r k v) := by
  funext j
  unfold fset rset
  by_cases h : j = i
  · simp [h]
  · simp [h]
theorem fset_eq (M : FMem) (i k : Nat) (v : Int32) : fset M i k v = rset M i (upd (M i) k v) := rfl
theorem rset_rset (M : FMem) (i : Nat) (r r' : Nat → Int32) : rset (rset M i r) i r' = rset M i r' := by
  funext j
  unfold rset
  by_cases h : j = i
  · simp [h]
  · simp [h]
def gB (N : Nat → Int32) (i : Nat) (v : Int32) : Nat → Int32 := upd (upd (upd N (10 + i) (N (10 + i) + 1)) 1 v) 0 (N 0 + 1)
def gR (B : Nat → Int32) (k : Nat) : Nat → Int32 := fun j => if 4 ≤ j ∧ j + 1 < 4 + k then B (j + 1) else B j
def gN (N : Nat → Int32) (np i : Nat) (rings : Bool) (v : Int32) : Nat → Int32 := if rings = true then upd (gR (gB N i 0) np) (3 + np) (nI i) else gB N i v
theorem X9_goes_loop (M : FMem) {np : Nat} (hnp : np ≤ 6) (hM : M 0 0 = nI np) (B : Nat → Int32) (x : Int32) : ∀ (m k f : Nat), k + m = np → 1 ≤ k → m < f → X9_goes_b71 f x 1 (nI k) (rset M 11 (gR B k)) = some (1, rset M 11 (upd (gR B np) (3 + np) x)) := by
  intro m
  induction m with
  | zero =>
    intro k f hk h1 hf
    obtain ⟨g, rfl, -⟩ := fu_s hf
    have hk : k = np := by omega
    subst hk
    show X9_goes_b71s (X9_goes_b71 g) _ _ _ _ = _
    unfold X9_goes_b71s
    have e0 : rset M 11 (gR B k) 0 = M 0 := rset_ne _ _ (by decide)
    have e1 : (4 : Int32) + nI k - 1 = nI (3 + k) := by
      rw [show (4 : Int32) + nI k = nI (3 + k + 1) by rw [show 3 + k + 1 = 4 + k by omega]; exact nI_add 4 k]
      exact nI_pred _
    rw [e0, hM, if_pos (Int32.le_refl _), e1, grd_ok (inb_t (by omega) (by omega)), bindm_ok, grd_ok (by decide), nI_clamp (by omega), fset_rset]
  | succ m ih =>
    intro k f hk h1 hf
    obtain ⟨g, rfl, hg⟩ := fu_s hf
    show X9_goes_b71s (X9_goes_b71 g) _ _ _ _ = _
    unfold X9_goes_b71s
    have e0 : rset M 11 (gR B k) 0 = M 0 := rset_ne _ _ (by decide)
    have e4 : (4 : Int32) + nI k = nI (4 + k) := nI_add 4 k
    have e1 : nI (4 + k) - 1 = nI (3 + k) := by
      rw [show 4 + k = 3 + k + 1 by omega]
      exact nI_pred _
    rw [e0, hM, if_neg (by rw [nI_leI (by omega) (by omega)]; omega), e4, e1, grd_ok (inb_t (by omega) (by omega)), grd_ok (inb_t (by omega) (by omega)), bindm_ok, nI_clamp (by omega), nI_clamp (by omega), fset_rset, rset_same, nI_1]
    have e5 : upd (gR B k) (3 + k) (gR B k (4 + k)) = gR B (k + 1) := by
      funext j
      unfold upd gR
      by_cases hj : j = 3 + k
      · subst hj
        rw [if_pos rfl, if_neg (by omega), if_pos (by omega), show 3 + k + 1 = 4 + k by omega]
      · rw [if_neg hj]
        by_cases h4 : 4 ≤ j ∧ j + 1 < 4 + k
        · rw [if_pos h4, if_pos (by omega)]
        · rw [if_neg h4, if_neg (by omega)]
    rw [e5]
    exact ih (k + 1) g (by omega) (by omega) (by omega)
theorem gR_1 (B : Nat → Int32) : gR B 1 = B := by
  funext j
  unfold gR
  rw [if_neg (by omega)]
/-- a day of the reference: M's row 11 goes on by gN, the answer is whether the bell went -/
theorem X9_goes_ok (M : FMem) {i n np : Nat} (hi : i < 6) (hn : n ≤ 10) (hp1 : 1 ≤ np) (hp : np ≤ 6) (hM : M 0 0 = nI np) (hN : M 11 2 = nI n) (hf : ¬ M 0 2 = 0) (hk : M 11 4 = nI i) :
    f_X9_goes M = some (if M 1 (3 * i + 2) ≤ cmV M (M 11) i n (M 11 1 / M 0 2) then 1 else 0, rset M 11 (gN (M 11) np i (decide (M 1 (3 * i + 2) ≤ cmV M (M 11) i n (M 11 1 / M 0 2))) (cmV M (M 11) i n (M 11 1 / M 0 2)))) := by
  unfold f_X9_goes
  rw [bindv_ok, hk, X9_comes_ok M hi hn hN hf, bnd_ok]
  generalize cmV M (M 11) i n (M 11 1 / M 0 2) = v
  have e10 : (10 : Int32) + nI i = nI (10 + i) := nI_add 10 i
  rw [X9_isEnough_ok M hi, bnd_ok, bindv_ok, e10, grd_ok (inb_t (by omega) (by omega)), grd_ok (inb_t (by omega) (by omega)), bindm_ok, nI_clamp (by omega), fset_eq]
  unfold X9_goes_b53
  have e0 : ∀ z, upd (upd (M 11) (10 + i) (M 11 (10 + i) + 1)) 1 z 0 = M 11 0 := fun z => by
    rw [upd_ne _ _ (by decide), upd_ne _ _ (by omega)]
  by_cases hr : M 1 (3 * i + 2) ≤ v
  · rw [if_pos hr, if_neg (by decide), grd_ok (by decide), bindm_ok, bindm_ok, if_neg (by decide)]
    rw [show (1 : Int32).toNatClampNeg = 1 from rfl, fset_rset, fset_rset, rset_same, e0]
    have h := X9_goes_loop M hp hM (gB (M 11) i 0) (nI i) (np - 1) 1 FU (by omega) (by omega) (FU_gt (by omega))
    rw [gR_1] at h
    rw [show (decide (M 1 (3 * i + 2) ≤ v)) = true by simp [hr]]
    exact h
  · rw [if_neg hr, if_pos rfl, grd_ok (by decide), bindm_ok, bindm_ok, if_pos rfl, grd_ok (by decide)]
    rw [show (1 : Int32).toNatClampNeg = 1 from rfl, fset_rset, fset_rset, rset_same, e0]
    rw [show (decide (M 1 (3 * i + 2) ≤ v)) = false by simp [hr]]
    rfl
/-! the class's gainBy -/
theorem X2_gainBy_loop (C : FMem) {n ta : Nat} (hT : tOK (C 94 1) = true) (hn : n ≤ 9) (hN : C (C 94 1).toNatClampNeg 3 = nI n) (hta : ta < 32) (bits kind day : Int32) : ∀ (m k f : Nat), k + m = n → m < f →
    X2_gainBy_b23 f bits kind (nI ta) day (gp (bt bits) kind (nI ta) day (C ((C 94 1).toNatClampNeg + 2)) (C ((C 94 1).toNatClampNeg + 3)) k).1 (gp (bt bits) kind (nI ta) day (C ((C 94 1).toNatClampNeg + 2)) (C ((C 94 1).toNatClampNeg + 3)) k).2 (nI k) C = some ((gp (bt bits) kind (nI ta) day (C ((C 94 1).toNatClampNeg + 2)) (C ((C 94 1).toNatClampNeg + 3)) n).1, C) := by
  intro m
  induction m with
  | zero =>
    intro k f hk hf
    obtain ⟨g, rfl, -⟩ := fu_s hf
    have hk : k = n := by omega
    subst hk
    show X2_gainBy_b23s (X2_gainBy_b23 g) _ _ _ _ _ _ _ C = _
    unfold X2_gainBy_b23s
    rw [grd_ok hT, if_pos (by rw [hN]; exact Int32.le_refl _)]
  | succ m ih =>
    intro k f hk hf
    obtain ⟨g, rfl, hg⟩ := fu_s hf
    have h1 := ih (k + 1) g (by omega) (by omega)
    rw [← nI_1] at h1
    show X2_gainBy_b23s (X2_gainBy_b23 g) _ _ _ _ _ _ _ C = _
    unfold X2_gainBy_b23s
    rw [grd_ok hT, if_neg (by rw [hN, nI_leI (by omega) (by omega)]; omega), if_neg (by rw [c_le (by omega) (by omega)]; omega)]
    by_cases hb : bt bits k = true
    · rw [if_pos ((has_1 (by omega)).mpr hb), grd_ok hT, grd_ok (inb_t (by omega) (by omega)), grd_ok hT, grd_ok (inb_t (by omega) (by omega)), X8_comesBy_ok _ _ _ _ _ hta, bnd_ok, bindv_ok, grd_ok hT, grd_ok (inb_t (by omega) (by omega)), bindv_ok, nI_clamp (by omega)]
      rw [gp_s, if_pos hb] at h1
      exact h1
    · rw [if_neg (fun q => hb ((has_1 (by omega)).mp q))]
      rw [gp_s, if_neg hb] at h1
      exact h1
theorem X2_gainBy_ok (C : FMem) {n ta : Nat} (hT : tOK (C 94 1) = true) (hn : n ≤ 9) (hN : C (C 94 1).toNatClampNeg 3 = nI n) (hta : ta < 32) (bits kind day : Int32) :
    f_X2_gainBy bits kind (nI ta) day C = some ((gp (bt bits) kind (nI ta) day (C ((C 94 1).toNatClampNeg + 2)) (C ((C 94 1).toNatClampNeg + 3)) n).1, C) := by
  unfold f_X2_gainBy
  by_cases h0 : bits = 0
  · rw [if_pos h0, gp_none n (fun k _ => by rw [h0, b_0])]
  · rw [if_neg h0, grd_ok hT]
    exact X2_gainBy_loop C hT hn hN hta bits kind day n 0 FU (by omega) (FU_gt (by omega))
