/-! ===== does he stay ===== -/
/-- no day of m from d on on which L is come to -/
def stf (g : Nat → Int32) (L fd : Int32) : Nat → Nat → Int32 → Bool
  | 0, _, _ => true
  | m + 1, d, I => if L ≤ I / fd + g d then false else stf g L fd m (d + 1) (I / fd + g d)
def ab (b : Nat → Bool) : Nat → Bool
  | 0 => false
  | d + 1 => b d || ab b d
theorem bl_val {np : Nat} {ln : Nat → Nat} {sd : Nat → Int32} {fd : Int32} {G : Nat → Nat → Int32} {q : Nat × Int32} {d K : Nat} {I : Int32} (h : rn np ln sd fd G q d = (K, I)) : bl np ln sd fd G q d = decide (sd (ln K) ≤ I / fd + G d (ln K)) := by
  unfold bl
  rw [h]
  unfold stp
  by_cases hs : sd (ln K) ≤ I / fd + G d (ln K)
  · rw [if_pos hs]; simp [hs]
  · rw [if_neg hs]; simp [hs]
theorem stf_fst {np : Nat} {sd : Nat → Int32} {fd : Int32} {G : Nat → Nat → Int32} {q : Nat × Int32} {K : Nat} : ∀ m d I, rn np id sd fd G q d = (K, I) → stf (fun e => G e K) (sd K) fd m d I = (fst1 (bl np id sd fd G q) m d).isNone := by
  intro m
  induction m with
  | zero => intros; rfl
  | succ m ih =>
    intro d I h
    unfold stf fst1
    rw [bl_val h]
    by_cases hs : sd K ≤ I / fd + G d K
    · rw [if_pos hs, if_pos (by simpa using hs)]; rfl
    · rw [if_neg hs, if_neg (by simpa using hs)]
      refine ih (d + 1) _ ?_
      rw [bl_no (by rw [bl_val h]; simpa using hs), h]
      rfl
theorem fst1_ab {b : Nat → Bool} : ∀ m d, (fst1 b m d).isNone = true ↔ ∀ e, d ≤ e → e < d + m → b e = false := by
  intro m
  induction m with
  | zero => intro d; exact ⟨fun _ e h1 h2 => by omega, fun _ => rfl⟩
  | succ m ih =>
    intro d
    unfold fst1
    by_cases hb : b d = true
    · rw [if_pos hb]
      exact ⟨fun h => (by cases h), fun h => absurd hb (by rw [h d (by omega) (by omega)]; decide)⟩
    · rw [if_neg hb, ih (d + 1)]
      constructor
      · intro h e h1 h2
        by_cases e1 : e = d
        · rw [e1]; exact Bool.not_eq_true _ |>.mp hb
        · exact h e (by omega) (by omega)
      · intro h e h1 h2
        exact h e (by omega) (by omega)
theorem ab_iff {b : Nat → Bool} : ∀ m, ab b m = false ↔ ∀ e, e < m → b e = false := by
  intro m
  induction m with
  | zero => exact ⟨fun _ e h => by omega, fun _ => rfl⟩
  | succ m ih =>
    unfold ab
    rw [Bool.or_eq_false_iff, ih]
    constructor
    · rintro ⟨h1, h2⟩ e he
      by_cases e1 : e = m
      · rw [e1]; exact h1
      · exact h2 e (by omega)
    · intro h
      exact ⟨h m (by omega), fun e he => h e (by omega)⟩
theorem stf_ab {np : Nat} {sd : Nat → Int32} {fd : Int32} {G : Nat → Nat → Int32} {K : Nat} {I : Int32} (m : Nat) : stf (fun e => G e K) (sd K) fd m 0 I = !(ab (bl np id sd fd G (K, I)) m) := by
  rw [stf_fst (np := np) (q := (K, I)) m 0 I rfl]
  cases h : ab (bl np id sd fd G (K, I)) m with
  | false =>
    rw [ab_iff] at h
    exact (fst1_ab m 0).mpr (fun e _ he => h e (by omega))
  | true =>
    cases h2 : (fst1 (bl np id sd fd G (K, I)) m 0).isNone with
    | false => rfl
    | true =>
      have h3 := (fst1_ab m 0).mp h2
      have h4 : ab (bl np id sd fd G (K, I)) m = false := (ab_iff m).mpr (fun e he => h3 e (by omega) (by omega))
      rw [h4] at h
      cases h
/-! powers, divisors -/
def pwi (x : Int32) : Nat → Int32
  | 0 => 1
  | k + 1 => pwi x k * x
theorem power_loop (C : FMem) (x : Int32) {c : Nat} (hc : c < 2 ^ 30) : ∀ (m k f : Nat), k + m = c → m < f → X8_power_b4 f x (nI c) (pwi x k) (nI k) C = some (pwi x c, C) := by
  intro m
  induction m with
  | zero =>
    intro k f hk hf
    obtain ⟨g, rfl, -⟩ := fu_s hf
    have hk : k = c := by omega
    subst hk
    show X8_power_b4s (X8_power_b4 g) _ _ _ _ C = _
    unfold X8_power_b4s
    rw [if_pos (Int32.le_refl _)]
  | succ m ih =>
    intro k f hk hf
    obtain ⟨g, rfl, hg⟩ := fu_s hf
    show X8_power_b4s (X8_power_b4 g) _ _ _ _ C = _
    unfold X8_power_b4s
    rw [if_neg (by rw [nI_leI (by omega) (by omega)]; omega), bindv_ok, nI_1]
    exact ih (k + 1) g (by omega) (by omega)
theorem power_ok (C : FMem) (x : Int32) {c : Nat} (hc : c < 90000) : f_X8_power x (nI c) C = some (pwi x c, C) := power_loop C x (by omega) c 0 FU (by omega) (FU_gt (by omega))
theorem half_rem {b r : Nat} (h0 : 0 < r) (h : r < b) : 2 * (b % r) < b := by
  have h1 : b % r < r := Nat.mod_lt _ h0
  have h2 : b % r + r * (b / r) = b := Nat.mod_add_div b r
  have h3 : 1 ≤ b / r := Nat.div_pos (by omega) h0
  have h4 : r * 1 ≤ r * (b / r) := Nat.mul_le_mul_left r h3
  omega
theorem gcd_loopC (C : FMem) : ∀ (k a b t f : Nat), a < 2 ^ 30 → b < 2 ^ k → k ≤ 29 → t + 2 * k + 1 ≤ 64 → 2 * k + 1 < f → X8_greatestDivisor_b2 f (nI a) (nI b) (nI t) C = some (nI (Nat.gcd b a), C) := by
  intro k
  induction k with
  | zero =>
    intro a b t f ha hb hk ht hf
    obtain ⟨g, rfl, -⟩ := fu_s hf
    have hb0 : b = 0 := by omega
    subst hb0
    show X8_greatestDivisor_b2s (X8_greatestDivisor_b2 g) _ _ _ C = _
    unfold X8_greatestDivisor_b2s
    rw [if_neg (by rw [c_le (by omega) (by omega)]; omega), if_pos (by decide), Nat.gcd_zero_left]
  | succ k ih =>
    intro a b t f ha hb hk ht hf
    have hpw : 2 ^ (k + 1) ≤ 2 ^ 30 := Nat.pow_le_pow_right (by decide) (by omega)
    obtain ⟨g, rfl, hg⟩ := fu_s hf
    obtain ⟨g, rfl, hg2⟩ := fu_s (show 0 < g by omega)
    show X8_greatestDivisor_b2s (X8_greatestDivisor_b2 (g + 1)) _ _ _ C = _
    unfold X8_greatestDivisor_b2s
    rw [if_neg (by rw [c_le (by omega) (by omega)]; omega)]
    by_cases hb0 : b = 0
    · subst hb0
      rw [if_pos (by decide), Nat.gcd_zero_left]
    · have hnb : ¬ nI b = 0 := nI_ne0 (by omega) (by omega)
      have hr : a % b < b := Nat.mod_lt _ (by omega)
      rw [if_neg hnb, grd_ok (by unfold nz; rw [decide_eq_true_eq]; exact hnb), bindv_ok, pk_rem (by omega) (by omega) (by omega), nI_1]
      show X8_greatestDivisor_b2s (X8_greatestDivisor_b2 g) _ _ _ C = _
      unfold X8_greatestDivisor_b2s
      rw [if_neg (by rw [c_le (by omega) (by omega)]; omega)]
      by_cases hr0 : a % b = 0
      · rw [hr0, if_pos (by decide), Nat.gcd_rec, hr0, Nat.gcd_zero_left]
      · have hnr : ¬ nI (a % b) = 0 := nI_ne0 (by omega) (by omega)
        have h2 := half_rem (Nat.pos_of_ne_zero hr0) hr
        rw [if_neg hnr, grd_ok (by unfold nz; rw [decide_eq_true_eq]; exact hnr), bindv_ok, pk_rem (by omega) (by omega) (by omega), nI_1, ih (a % b) (b % (a % b)) (t + 1 + 1) g (by omega) (by rw [Nat.pow_succ] at hb; omega) (by omega) (by omega) (by omega), Nat.gcd_rec b a, Nat.gcd_rec (a % b) b]
theorem gcd_loopM (M : FMem) (w A B : Int32) : ∀ (k y z f : Nat), y < 2 ^ 30 → z < 2 ^ k → k ≤ 29 → 0 < Nat.gcd z y → 2 * k + 1 < f → X9_lasts_b219 f w A B (nI y) (nI z) M = some (if w = 0 then A / nI (Nat.gcd z y) else B / nI (Nat.gcd z y), M) := by
  have fin : ∀ (y : Nat) (g : Nat), y < 2 ^ 30 → 0 < y → X9_lasts_b219s (X9_lasts_b219 g) w A B (nI y) (nI 0) M = some (if w = 0 then A / nI y else B / nI y, M) := by
    intro y g hy hy0
    unfold X9_lasts_b219s
    have hny : nz (nI y) = true := by unfold nz; rw [decide_eq_true_eq]; exact nI_ne0 hy0 (by omega)
    rw [if_pos (by decide), grd_ok hny, grd_ok hny]
    by_cases hw : w = 0
    · rw [if_pos hw, if_pos hw]
    · rw [if_neg hw, if_neg hw]
  intro k
  induction k with
  | zero =>
    intro y z f hy hz hk hg hf
    obtain ⟨g, rfl, -⟩ := fu_s hf
    have hz0 : z = 0 := by omega
    subst hz0
    rw [Nat.gcd_zero_left] at hg ⊢
    exact fin y g hy hg
  | succ k ih =>
    intro y z f hy hz hk hgp hf
    have hpw : 2 ^ (k + 1) ≤ 2 ^ 30 := Nat.pow_le_pow_right (by decide) (by omega)
    obtain ⟨g, rfl, hg⟩ := fu_s hf
    obtain ⟨g, rfl, hg2⟩ := fu_s (show 0 < g by omega)
    by_cases hz0 : z = 0
    · subst hz0
      rw [Nat.gcd_zero_left] at hgp ⊢
      exact fin y (g + 1) hy hgp
    · have hnz : ¬ nI z = 0 := nI_ne0 (by omega) (by omega)
      have hr : y % z < z := Nat.mod_lt _ (by omega)
      show X9_lasts_b219s (X9_lasts_b219 (g + 1)) _ _ _ _ _ M = _
      unfold X9_lasts_b219s
      rw [if_neg (show ¬ nI z ≤ 0 from nI_nle (by omega) (by omega)), grd_ok (by unfold nz; rw [decide_eq_true_eq]; exact hnz), bindv_ok, pk_rem (by omega) (by omega) (by omega)]
      by_cases hr0 : y % z = 0
      · rw [hr0, Nat.gcd_rec, hr0, Nat.gcd_zero_left]
        exact fin z g (by omega) (by omega)
      · have hnr : ¬ nI (y % z) = 0 := nI_ne0 (by omega) (by omega)
        have h2 := half_rem (Nat.pos_of_ne_zero hr0) hr
        show X9_lasts_b219s (X9_lasts_b219 g) _ _ _ _ _ M = _
        unfold X9_lasts_b219s
        have eg : Nat.gcd z y = Nat.gcd (z % (y % z)) (y % z) := by rw [Nat.gcd_rec z y, Nat.gcd_rec (y % z) z]
        rw [eg] at hgp ⊢
        rw [if_neg (show ¬ nI (y % z) ≤ 0 from nI_nle (by omega) (by omega)), grd_ok (by unfold nz; rw [decide_eq_true_eq]; exact hnr), bindv_ok, pk_rem (by omega) (by omega) (by omega)]
        exact ih (y % z) (z % (y % z)) g (by omega) (by rw [Nat.pow_succ] at hz; omega) (by omega) hgp (by omega)
/-! the weights -/
def wtI (x : Int32) (set : Int32) : Nat → Int32
  | 0 => 1
  | k + 1 => wtI x set k * (if bt set k = true then x else 10 - x)
def pcN (j : Nat) : Nat := (pcn (nI j) 10).toNatClampNeg
def wgN (x j n : Nat) : Nat := x ^ pcN j * (10 - x) ^ (n - pcN j)
def wS (x n : Nat) : Nat → Nat
  | 0 => 0
  | j + 1 => wS x n j + wgN x j n
theorem pcN_ok : ∀ j, j < 64 → bcv (nI j) = nI (pcN j) := by decide +kernel
theorem pcN_le : ∀ n, n < 7 → ∀ j, j < 2 ^ n → pcN j ≤ n := by decide +kernel
theorem wgN_ok : ∀ n, n < 7 → ∀ j, j < 2 ^ n → ∀ x, x < 11 → wtI (nI x) (nI j) n = nI (wgN x j n) ∧ pwi (nI x) (pcN j) * pwi (10 - nI x) (n - pcN j) = nI (wgN x j n) := by decide +kernel
theorem wS_all : ∀ n, n < 7 → ∀ x, x < 11 → wS x n (2 ^ n) = 10 ^ n := by decide +kernel
theorem pw10 : ∀ n, n < 7 → pwi 10 n = nI (10 ^ n) := by decide +kernel
theorem sh1 : ∀ n, n < 7 → (1 : Int32) <<< (nI n &&& 31) = nI (2 ^ n) := by decide +kernel
theorem wS_mono (x n : Nat) : ∀ a b, a ≤ b → wS x n a ≤ wS x n b := by
  intro a b h
  induction b with
  | zero => have : a = 0 := by omega
            subst this; exact Nat.le_refl _
  | succ b ih =>
    by_cases e : a = b + 1
    · rw [e]; exact Nat.le_refl _
    · have := ih (by omega)
      show _ ≤ wS x n b + wgN x b n
      omega
/-- the sum of the weights of those sets that F takes, of m sets from j on -/
def gsm (F : Nat → Bool) (W : Nat → Nat) : Nat → Nat → Nat → Nat
  | 0, _, acc => acc
  | m + 1, j, acc => gsm F W m (j + 1) (if F j = true then acc + W j else acc)
theorem gsm_le (F : Nat → Bool) (x n : Nat) : ∀ m j acc, acc ≤ wS x n j → gsm F (fun j => wgN x j n) m j acc ≤ wS x n (j + m) := by
  intro m
  induction m with
  | zero => intro j acc h; exact h
  | succ m ih =>
    intro j acc h
    unfold gsm
    rw [show j + (m + 1) = j + 1 + m by omega]
    refine ih (j + 1) _ ?_
    show _ ≤ wS x n j + wgN x j n
    split <;> omega
