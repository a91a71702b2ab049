/-! ===== Int32 by its bits: bt x i ===== -/
def bt (x : Int32) (i : Nat) : Bool := x.toBitVec.getLsbD i
theorem b_ext {x y : Int32} (h : ∀ i, i < 32 → bt x i = bt y i) : x = y := Int32.toBitVec_inj.mp (BitVec.eq_of_getLsbD_eq (fun i hi => h i hi))
theorem b_or (x y : Int32) (i : Nat) : bt (x ||| y) i = (bt x i || bt y i) := by unfold bt; rw [Int32.toBitVec_or, BitVec.getLsbD_or]
theorem b_and (x y : Int32) (i : Nat) : bt (x &&& y) i = (bt x i && bt y i) := by unfold bt; rw [Int32.toBitVec_and, BitVec.getLsbD_and]
theorem b_xor (x y : Int32) (i : Nat) : bt (x ^^^ y) i = (bt x i ^^ bt y i) := by unfold bt; rw [Int32.toBitVec_xor, BitVec.getLsbD_xor]
theorem b_big {x : Int32} {i : Nat} (h : 32 ≤ i) : bt x i = false := BitVec.getLsbD_of_ge _ _ h
theorem b_m1 : ∀ i, i < 32 → bt (-1) i = true := by decide +kernel
theorem b_0 (i : Nat) : bt 0 i = false := BitVec.getLsbD_zero
theorem s_l : ∀ n, n < 32 → ((nI n &&& 31).toBitVec.smod 32).toNat = n := by decide +kernel
theorem s_u : ∀ n, n < 32 → (((nI n).toUInt32 &&& Int32.toUInt32 31).toBitVec % 32).toNat = n := by decide +kernel
theorem b_shl (n : Nat) (hn : n < 32) (x : Int32) {i : Nat} (hi : i < 32) : bt (x <<< (nI n &&& 31)) i = (decide (n ≤ i) && bt x (i - n)) := by
  unfold bt
  rw [Int32.toBitVec_shiftLeft]
  show (x.toBitVec <<< ((nI n &&& 31).toBitVec.smod 32).toNat).getLsbD i = _
  rw [s_l n hn, BitVec.getLsbD_shiftLeft]
  rcases Nat.lt_or_ge i n with h | h
  · simp [h, Nat.not_le.mpr h]
  · simp [hi, h, Nat.not_lt.mpr h]
theorem b_ushr (n : Nat) (hn : n < 32) (x : Int32) (i : Nat) : bt ((x.toUInt32 >>> ((nI n).toUInt32 &&& Int32.toUInt32 31)).toInt32) i = bt x (n + i) := by
  show (x.toUInt32 >>> ((nI n).toUInt32 &&& Int32.toUInt32 31)).toBitVec.getLsbD i = x.toUInt32.toBitVec.getLsbD (n + i)
  rw [UInt32.toBitVec_shiftRight]
  show (x.toUInt32.toBitVec >>> (((nI n).toUInt32 &&& Int32.toUInt32 31).toBitVec % 32).toNat).getLsbD i = _
  rw [s_u n hn, BitVec.getLsbD_ushiftRight]
theorem b_sshr (n : Nat) (hn : n < 32) (x : Int32) {i : Nat} (hi : i < 32) : bt (x >>> (nI n &&& 31)) i = if n + i < 32 then bt x (n + i) else bt x 31 := by
  unfold bt
  rw [Int32.toBitVec_shiftRight]
  show (x.toBitVec.sshiftRight ((nI n &&& 31).toBitVec.smod 32).toNat).getLsbD i = _
  rw [s_l n hn, BitVec.getLsbD_sshiftRight, BitVec.msb_eq_getLsbD_last]
  simp [hi]
theorem nx_and (a b : Nat) : nI a &&& nI b = nI (a &&& b) := by
  apply Int32.toBitVec_inj.1
  show BitVec.ofNat 32 a &&& BitVec.ofNat 32 b = BitVec.ofNat 32 (a &&& b)
  apply BitVec.eq_of_getLsbD_eq
  intro i hi
  simp [hi]
theorem nx_xor (a b : Nat) : nI a ^^^ nI b = nI (a ^^^ b) := by
  apply Int32.toBitVec_inj.1
  show BitVec.ofNat 32 a ^^^ BitVec.ofNat 32 b = BitVec.ofNat 32 (a ^^^ b)
  apply BitVec.eq_of_getLsbD_eq
  intro i hi
  simp [hi]
/-! ===== the programs' words, computed ===== -/
theorem li (n : Nat) : (OfNat.ofNat n : Int32) = nI n := rfl
theorem bnd_ok (a : Int32) (M : FMem) (k : Int32 → FMem → Opt) : bnd (some (a, M)) k = k a M := rfl
theorem grd_ok {c : Bool} (h : c = true) (k : Opt) : grd c k = k := if_pos h
theorem bindv_ok (x : Int32) (k : Int32 → Opt) : bindv x k = k x := rfl
theorem bindm_ok (x : FMem) (k : FMem → Opt) : bindm x k = k x := rfl
theorem inb_t {k n : Nat} (h : k < n) (hk : k < 2 ^ 31) : inb (nI k) n = true := by
  unfold inb
  rw [nI_toInt hk]
  simp [h]
theorem FU_gt {m : Nat} (h : m < 100000) : m < FU := h
theorem fu_s {f m : Nat} (h : m < f) : ∃ g, f = g + 1 ∧ m ≤ g := ⟨f - 1, by omega, by omega⟩
/-- comparisons with plain numbers -/
theorem c_le {a n : Nat} (ha : a < 2 ^ 31) (hn : (OfNat.ofNat n : Nat) < 2 ^ 31) : (OfNat.ofNat n : Int32) ≤ nI a ↔ (OfNat.ofNat n : Nat) ≤ a := nI_leI hn ha
theorem c_ge {a n : Nat} (ha : a < 2 ^ 31) (hn : (OfNat.ofNat n : Nat) < 2 ^ 31) : nI a ≤ (OfNat.ofNat n : Int32) ↔ a ≤ (OfNat.ofNat n : Nat) := nI_leI ha hn
theorem c_lt {a n : Nat} (ha : a < 2 ^ 31) (hn : (OfNat.ofNat n : Nat) < 2 ^ 31) : nI a < (OfNat.ofNat n : Int32) ↔ a < (OfNat.ofNat n : Nat) := nI_ltI ha hn
theorem c_gt {a n : Nat} (ha : a < 2 ^ 31) (hn : (OfNat.ofNat n : Nat) < 2 ^ 31) : (OfNat.ofNat n : Int32) < nI a ↔ (OfNat.ofNat n : Nat) < a := nI_ltI hn ha
theorem c_eq {a n : Nat} (ha : a < 2 ^ 31) (hn : (OfNat.ofNat n : Nat) < 2 ^ 31) : nI a = (OfNat.ofNat n : Int32) ↔ a = (OfNat.ofNat n : Nat) := nI_eq ha hn
theorem rset_same (M : FMem) (i : Nat) (r : Nat → Int32) : rset M i r i = r := if_pos rfl
theorem rset_ne (M : FMem) {i j : Nat} (r : Nat → Int32) (h : j ≠ i) : rset M i r j = M j := if_neg h
theorem fset_same (M : FMem) (i k : Nat) (v : Int32) : fset M i k v i = upd (M i) k v := if_pos rfl
theorem fset_ne (M : FMem) {i j : Nat} (k : Nat) (v : Int32) (h : j ≠ i) : fset M i k v j = M j := if_neg h
theorem upd_same (f : Nat → Int32) (k : Nat) (v : Int32) : upd f k v k = v := if_pos rfl
theorem upd_ne (f : Nat → Int32) {k j : Nat} (v : Int32) (h : j ≠ k) : upd f k v j = f j := if_neg h
theorem fset_at (M : FMem) (i k : Nat) (v : Int32) : fset M i k v i k = v := by rw [fset_same, upd_same]
/-! bits -/
theorem and1 (y : Int32) : (y &&& 1) = if bt y 0 = true then 1 else 0 := by
  refine b_ext fun i hi => ?_
  rw [b_and, (by decide +kernel : ∀ i, i < 32 → bt 1 i = decide (i = 0)) i hi]
  by_cases h0 : i = 0
  · subst h0
    by_cases h : bt y 0 = true
    · rw [if_pos h, h]; rfl
    · rw [if_neg h, Bool.not_eq_true _ |>.mp h]; rfl
  · by_cases h : bt y 0 = true
    · rw [if_pos h, (by decide +kernel : ∀ i, i < 32 → bt 1 i = decide (i = 0)) i hi]
      simp [h0]
    · rw [if_neg h, b_0]
      simp [h0]
theorem sh_bt {x : Int32} {k : Nat} (hk : k < 32) : bt (x >>> (nI k &&& 31)) 0 = bt x k := by
  rw [b_sshr k hk x (by decide)]
  simp [hk]
theorem has_1 {x : Int32} {k : Nat} (hk : k < 32) : ((x >>> (nI k &&& 31)) &&& (1 : Int32)) = 1 ↔ bt x k = true := by
  rw [and1, sh_bt hk]
  by_cases h : bt x k = true
  · simp [h]
  · simp [h]
theorem has_0 {x : Int32} {k : Nat} (hk : k < 32) : ((x >>> (nI k &&& 31)) &&& (1 : Int32)) = 0 ↔ bt x k = false := by
  rw [and1, sh_bt hk]
  by_cases h : bt x k = true
  · simp [h]
  · simp [h]
theorem has_v {x : Int32} {k : Nat} (hk : k < 32) : ((x >>> (nI k &&& 31)) &&& (1 : Int32)) = if bt x k = true then 1 else 0 := by
  rw [and1, sh_bt hk]
/-- how many of the first n bits -/
def pcn (x : Int32) : Nat → Int32
  | 0 => 0
  | k + 1 => pcn x k + ((x >>> (nI k &&& 31)) &&& 1)
theorem X9_bits_loop (x : Int32) (FM : FMem) : ∀ (m k f : Nat), k + m = 10 → m < f → X9_bits_b4 f x (pcn x k) (nI k) FM = some (pcn x 10, FM) := by
  intro m
  induction m with
  | zero =>
    intro k f hk hf
    obtain ⟨g, rfl, -⟩ := fu_s hf
    have hk : k = 10 := by omega
    subst hk
    rfl
  | succ m ih =>
    intro k f hk hf
    obtain ⟨g, rfl, hg⟩ := fu_s hf
    show X9_bits_b4s (X9_bits_b4 g) x (pcn x k) (nI k) FM = _
    unfold X9_bits_b4s
    rw [if_neg (by rw [c_gt (by omega) (by omega)]; omega)]
    have h1 := ih (k + 1) g (by omega) (by omega)
    rw [← nI_1] at h1
    exact h1
theorem X9_bits_ok (x : Int32) (FM : FMem) : f_X9_bits x FM = some (pcn x 10, FM) := X9_bits_loop x FM 10 0 FU rfl (FU_gt (by decide))
def bcv (x : Int32) : Int32 := match f_J6_bitCount_0f7a4 x (fun _ _ => 0) with
  | some q => q.1
  | none => 0
theorem J6_ok (x : Int32) (FM : FMem) : f_J6_bitCount_0f7a4 x FM = some (bcv x, FM) := rfl
theorem bcv_pcn : ∀ k, k < 1024 → bcv (nI k) = pcn (nI k) 10 := by decide +kernel
theorem and_lt (x : Int32) (k : Nat) : ∃ j, j ≤ k ∧ x &&& nI k = nI j := by
  obtain ⟨n, -, rfl⟩ := (⟨x.toBitVec.toNat, x.toBitVec.isLt, by
    apply Int32.toBitVec_inj.mp
    show x.toBitVec = BitVec.ofNat 32 x.toBitVec.toNat
    simp⟩ : ∃ n, n < 2 ^ 32 ∧ x = nI n)
  exact ⟨n &&& k, Nat.and_le_right, nx_and n k⟩
/-- what comes by a thing -/
def cbv (kind taste topics strong had day : Int32) : Int32 :=
  if kind = 1 then strong * pcn (topics &&& taste) 10 / 2 else if kind = 2 then (if (topics &&& (had ^^^ (-1))) = 0 then strong * pcn (topics &&& taste) 10 else strong * pcn (topics &&& taste) 10 + 2)
  else if kind = 3 then (if day - day / 3 * 3 = 2 then 0 else strong * pcn (topics &&& taste) 10) else strong * pcn (topics &&& taste) 10
theorem X8_comesBy_ok (kind tp sg had day : Int32) {t : Nat} (ht : t < 32) (FM : FMem) : f_X8_comesBy kind (nI t) tp sg had day FM = some (cbv kind (nI t) tp sg had day, FM) := by
  unfold f_X8_comesBy cbv
  obtain ⟨j, hj, e⟩ := and_lt tp t
  rw [J6_ok, bnd_ok, e, bcv_pcn j (by omega), bindv_ok]
  repeat (first | rfl | split)
theorem i3 {i : Nat} : (3 : Int32) * nI i = nI (3 * i) := pk_mul 3 i
theorem X9_comesBy_ok (tp sg had : Int32) {i : Nat} (hi : i < 6) (M : FMem) : f_X9_comesBy (nI i) tp sg had M = some (cbv (M 1 (3 * i)) (M 1 (3 * i + 1)) tp sg had (M 11 0), M) := by
  unfold f_X9_comesBy cbv
  rw [i3, nI_1, grd_ok (inb_t (by omega) (by omega)), X9_bits_ok, bnd_ok, nI_clamp (by omega), bindv_ok, grd_ok (inb_t (by omega) (by omega)), nI_clamp (by omega), bindv_ok]
  simp only [Int32.add_zero]
  repeat (first | rfl | split)
