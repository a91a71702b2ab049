/-! ===== hides ===== -/
def orf (f : Nat → Int32) : Nat → Int32
  | 0 => 0
  | d + 1 => orf f d ||| f d
theorem orf_bt (f : Nat → Int32) (k : Nat) : ∀ m, bt (orf f m) k = true ↔ ∃ d, d < m ∧ bt (f d) k = true := by
  intro m
  induction m with
  | zero =>
    constructor
    · intro h
      have h0 : bt 0 k = true := h
      rw [b_0] at h0
      cases h0
    · rintro ⟨d, hd, -⟩
      omega
  | succ m ih =>
    show bt (orf f m ||| f m) k = true ↔ _
    rw [b_or, Bool.or_eq_true, ih]
    constructor
    · rintro (⟨d, h1, h2⟩ | h)
      · exact ⟨d, by omega, h2⟩
      · exact ⟨m, by omega, h⟩
    · rintro ⟨d, h1, h2⟩
      by_cases e : d = m
      · right; rw [← e]; exact h2
      · left; exact ⟨d, by omega, h2⟩
theorem shownAll_loop (C : FMem) {hm : Nat} (hh : hm ≤ 61) (h3 : C 94 3 = nI hm) : ∀ (m d f : Nat), d + m = hm → m < f → X2_shownAtAll_b4 f (orf (C 95) d) (nI d) C = some (orf (C 95) hm, C) := by
  intro m
  induction m with
  | zero =>
    intro d f hd hf
    obtain ⟨g, rfl, -⟩ := fu_s hf
    have hd : d = hm := by omega
    subst hd
    show X2_shownAtAll_b4s (X2_shownAtAll_b4 g) _ _ C = _
    unfold X2_shownAtAll_b4s
    rw [h3, if_pos (Int32.le_refl _)]
  | succ m ih =>
    intro d f hd hf
    obtain ⟨g, rfl, hg⟩ := fu_s hf
    show X2_shownAtAll_b4s (X2_shownAtAll_b4 g) _ _ C = _
    unfold X2_shownAtAll_b4s
    rw [h3, if_neg (by rw [nI_leI (by omega) (by omega)]; omega), if_neg (by rw [c_le (by omega) (by omega)]; omega), grd_ok (inb_t (by omega) (by omega)), bindv_ok, nI_clamp (by omega), nI_1]
    exact ih (d + 1) g (by omega) (by omega)
theorem not_bt (x : Int32) {k : Nat} (hk : k < 32) : bt (x ^^^ (-1)) k = !(bt x k) := by
  rw [b_xor, b_m1 k hk, Bool.xor_true]
theorem gainWithout_ok {C C1 : FMem} {np hm n p : Nat} (hc : CtOK C np) (hh : hm ≤ 61) (hn9 : n ≤ 9) (h23 : C 23 3 = nI n) (h94 : ∀ j, j < 94 → C1 j = C j) (hol : OL C1 23 (C 21 3) (C 21 0) hm n) (hp : p < np) {d : Nat} (hd : d < hm) (more : Int32) : f_X2_gainWithout (nI d) (nI p) more C1 = some (GT C n (C 21 3 ||| more) d p, C1) := by
  have hp6 := hc.2.1
  obtain ⟨ta, hta, eta⟩ := hc.2.2.2.2 p hp
  unfold f_X2_gainWithout
  have hcl : (nI 23).toNatClampNeg = 23 := rfl
  have hgb := X2_gainBy_ok C1 (n := n) (ta := ta) (by rw [hol.1]; exact tOK_23) hn9 (by rw [hol.1, hcl, h94 23 (by decide)]; exact h23) hta (C1 95 d &&& (more ^^^ (-1))) (C1 13 p) (C1 94 2 + nI d)
  rw [hol.1, hcl, ← eta] at hgb
  rw [isLooked_in C1 hh hol.2.2.1 hd, bnd_ok, if_neg n10, isPlace_in C1 (by omega), bnd_ok, if_neg n10, grd_ok (inb_t (by omega) (by omega)), grd_ok (inb_t (by omega) (by omega)), grd_ok (inb_t (by omega) (by omega)), nI_clamp (by omega), nI_clamp (by omega), h94 14 (by decide), hgb, bnd_ok]
  unfold GT gM
  rw [if_pos (show (0 : Int32) ≤ 0 by decide), hol.2.1, h94 13 (by decide)]
  have eg := gp_congr (pr := bt (C1 95 d &&& (more ^^^ (-1)))) (pr' := prD (C 24) (C 21 0 + nI d) (C 21 3 ||| more)) (kind := C 13 p) (taste := C 14 p) (day := C 21 0 + nI d) (tp := C1 (23 + 2)) (sg := C1 (23 + 3)) (tp' := C 25) (sg' := C 26) n (fun k hk => by
    rw [b_and, not_bt _ (by omega), hol.2.2.2.1 d (by omega) k (by omega), h94 24 (by decide)]
    unfold shB prD
    rw [b_or]
    have e1 : (k < n ∧ C 24 k - C 21 0 = nI d ∧ d < hm) ↔ C 24 k = C 21 0 + nI d := by
      rw [sub_iff]
      constructor
      · intro h; exact h.2.1
      · intro h; exact ⟨hk, h, hd⟩
    rw [decide_eq_decide.mpr e1, Bool.not_or, Bool.and_assoc]) (fun k _ _ => by rw [h94 25 (by decide)]) (fun k _ _ => by rw [h94 26 (by decide)])
  rw [eg]
theorem without_loop {C C1 : FMem} {np hm n K : Nat} (hc : CtOK C np) (hh : hm ≤ 61) (hn9 : n ≤ 9) (h23 : C 23 3 = nI n) (h94 : ∀ j, j < 94 → C1 j = C j) (hol : OL C1 23 (C 21 3) (C 21 0) hm n) (hK : K < np) (more : Int32) : ∀ (m d f : Nat) (I : Int32), d + m = hm → m < f →
    X8_staysWithout_b20 f more (nI hm) (nI K) I (nI d) C1 = some (b2i (stf (fun e => GT C n (C 21 3 ||| more) e K) (C 15 K) (C 12 5) m d I), C1) := by
  have hp6 := hc.2.1
  have hf1 : fdOK (C1 12 5) := by rw [h94 12 (by decide)]; exact hc.2.2.2.1
  intro m
  induction m with
  | zero =>
    intro d f I hd hf
    obtain ⟨g, rfl, -⟩ := fu_s hf
    have hd : d = hm := by omega
    subst hd
    show X8_staysWithout_b20s (X8_staysWithout_b20 g) _ _ _ _ _ C1 = _
    unfold X8_staysWithout_b20s stf
    rw [if_pos (Int32.le_refl _)]
    rfl
  | succ m ih =>
    intro d f I hd hf
    obtain ⟨g, rfl, hg⟩ := fu_s hf
    show X8_staysWithout_b20s (X8_staysWithout_b20 g) _ _ _ _ _ C1 = _
    unfold X8_staysWithout_b20s stf
    rw [if_neg (by rw [nI_leI (by omega) (by omega)]; omega), faded_ok C1 hf1, bnd_ok, gainWithout_ok hc hh hn9 h23 h94 hol hK (by omega), bnd_ok, bindv_ok, standsOf_ok C1 (by omega), bnd_ok, h94 12 (by decide), h94 15 (by decide), nI_1]
    by_cases hs : C 15 K ≤ I / C 12 5 + GT C n (C 21 3 ||| more) d K
    · rw [if_neg (Int32.not_lt.mpr hs), if_pos hs]; rfl
    · rw [if_pos (Int32.not_le.mp hs), if_neg hs]
      exact ih (d + 1) g _ (by omega) (by omega)
/-- does he stay with the set m hidden too -/
def hdP (C : FMem) (np n hm K : Nat) (m : Nat) : Bool := !(ab (bl np id (C 15) (C 12 5) (GT C n (C 21 3 ||| nI m)) (K, C 21 2)) hm)
theorem without_ok {C C1 : FMem} {np hm n K m : Nat} (hc : CtOK C np) (hh : hm ≤ 61) (hn9 : n ≤ 9) (h23 : C 23 3 = nI n) (h94 : ∀ j, j < 94 → C1 j = C j) (hol : OL C1 23 (C 21 3) (C 21 0) hm n) (hK : K < np) (h1 : C 21 1 = nI K) :
    f_X8_staysWithout (nI m) (nI hm) C1 = some (b2i (hdP C np n hm K m), C1) := by
  unfold f_X8_staysWithout
  rw [bindv_ok, bindv_ok, h94 21 (by decide), h1]
  have h := without_loop hc hh hn9 h23 h94 hol hK (nI m) hm 0 FU (C 21 2) (by omega) (FU_gt (by omega))
  rw [stf_ab (np := np)] at h
  exact h
/-! counting bits -/
theorem pcn_bc (x : Int32) : ∀ n, n ≤ 32 → pcn x n = nI (bc (bt x) n) := by
  intro n
  induction n with
  | zero => intro _; rfl
  | succ n ih =>
    intro h
    show pcn x n + ((x >>> (nI n &&& 31)) &&& 1) = nI (if bt x n = true then bc (bt x) n + 1 else bc (bt x) n)
    rw [ih (by omega), has_v (by omega)]
    by_cases hb : bt x n = true
    · rw [if_pos hb, if_pos hb, nI_1]
    · rw [if_neg hb, if_neg hb, Int32.add_zero]
theorem bc_mono {b b' : Nat → Bool} : ∀ n, (∀ k, k < n → b k = true → b' k = true) → bc b n ≤ bc b' n := by
  intro n
  induction n with
  | zero => intros; exact Nat.le_refl _
  | succ n ih =>
    intro h
    have := ih (fun k hk => h k (by omega))
    unfold bc
    by_cases hb : b n = true
    · rw [if_pos hb, if_pos (h n (by omega) hb)]; omega
    · rw [if_neg hb]; split <;> omega
theorem bc_strict {b b' : Nat → Bool} : ∀ n, (∀ k, k < n → b k = true → b' k = true) → (∃ k, k < n ∧ b k = false ∧ b' k = true) → bc b n < bc b' n := by
  intro n
  induction n with
  | zero => rintro - ⟨k, hk, -⟩; omega
  | succ n ih =>
    rintro h ⟨k, hk, h1, h2⟩
    unfold bc
    by_cases e : k = n
    · subst e
      have := bc_mono k (fun j hj => h j (by omega))
      rw [if_neg (by rw [h1]; decide), if_pos h2]
      omega
    · have := ih (fun j hj => h j (by omega)) ⟨k, by omega, h1, h2⟩
      by_cases hb : b n = true
      · rw [if_pos hb, if_pos (h n (by omega) hb)]; omega
      · rw [if_neg hb]; split <;> omega
def pcb (m : Nat) : Nat := bc (bt (nI m)) 10
theorem pcb_v (m : Nat) : pcn (nI m) 10 = nI (pcb m) := pcn_bc (nI m) 10 (by decide)
theorem pcb_le (m : Nat) : pcb m ≤ 10 := bc_le _ _
theorem pcb_lt : ∀ m, m < 512 → pcb m < 10 := by decide +kernel
theorem nI_bt {m k : Nat} (hk : k < 32) : bt (nI m) k = m.testBit k := by
  show (BitVec.ofNat 32 m).getLsbD k = _
  rw [BitVec.getLsbD_ofNat]
  simp [hk]
/-- the best set of those below m: subsets of c that keep him, the fewest first -/
def hbs (c : Nat) (P : Nat → Bool) : Nat → Option Nat
  | 0 => none
  | m + 1 => if (m &&& c) = m ∧ P m = true ∧ (∀ b, hbs c P m = some b → pcb m < pcb b) then some m else hbs c P m
theorem hbs_inv (c : Nat) (P : Nat → Bool) : ∀ m, (∀ b, hbs c P m = some b → b < m) ∧ ∀ s, s < m → (s &&& c) = s → P s = true → ∃ b, hbs c P m = some b ∧ pcb b ≤ pcb s := by
  intro m
  induction m with
  | zero => exact ⟨fun b h => (by cases h), fun s h => (by omega)⟩
  | succ m ih =>
    obtain ⟨i1, i2⟩ := ih
    unfold hbs
    by_cases h : (m &&& c) = m ∧ P m = true ∧ (∀ b, hbs c P m = some b → pcb m < pcb b)
    · rw [if_pos h]
      refine ⟨fun b hb => by cases hb; omega, fun s hs h1 h2 => ⟨m, rfl, ?_⟩⟩
      by_cases e : s = m
      · rw [e]; exact Nat.le_refl _
      · obtain ⟨b, hb, hle⟩ := i2 s (by omega) h1 h2
        have := h.2.2 b hb
        omega
    · rw [if_neg h]
      refine ⟨fun b hb => by have := i1 b hb; omega, fun s hs h1 h2 => ?_⟩
      by_cases e : s = m
      · subst e
        cases hb : hbs c P s with
        | none => exact absurd ⟨h1, h2, fun b hb' => by rw [hb] at hb'; cases hb'⟩ h
        | some b =>
          refine ⟨b, rfl, ?_⟩
          by_cases hlt : pcb s < pcb b
          · exact absurd ⟨h1, h2, fun b' hb' => by rw [hb] at hb'; cases hb'; exact hlt⟩ h
          · omega
      · exact i2 s (by omega) h1 h2
theorem hbs_far (c : Nat) (P : Nat → Bool) : ∀ m, hbs c P (c + 1 + m) = hbs c P (c + 1) := by
  intro m
  induction m with
  | zero => rfl
  | succ m ih =>
    rw [show c + 1 + (m + 1) = (c + 1 + m) + 1 by omega]
    show (if _ then _ else _) = _
    rw [if_neg ?_, ih]
    rintro ⟨h, -⟩
    have : (c + 1 + m) &&& c ≤ c := Nat.and_le_right
    omega
