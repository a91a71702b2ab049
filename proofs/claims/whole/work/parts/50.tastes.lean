/-! ===== tastes ===== -/
theorem agrees_loop (C : FMem) {ns : Nat} (hns : ns ≤ 8) (h : C 91 2 = nI ns) (x v : Int32) : ∀ (m k f : Nat), k + m = ns → m < f → (∀ j, j < k → C 93 j = x → C 92 j = v) → X6_agrees_b2 f x v (nI k) C = some (b2i (decide (∀ j, j < ns → C 93 j = x → C 92 j = v)), C) := by
  intro m
  induction m with
  | zero =>
    intro k f hk hf ha
    obtain ⟨g, rfl, -⟩ := fu_s hf
    have hk : k = ns := by omega
    subst hk
    show X6_agrees_b2s (X6_agrees_b2 g) _ _ _ C = _
    unfold X6_agrees_b2s
    rw [h, if_pos (Int32.le_refl _), decide_eq_true ha]
    rfl
  | succ m ih =>
    intro k f hk hf ha
    obtain ⟨g, rfl, hg⟩ := fu_s hf
    show X6_agrees_b2s (X6_agrees_b2 g) _ _ _ C = _
    unfold X6_agrees_b2s X6_agrees_b38
    rw [h, if_neg (by rw [nI_leI (by omega) (by omega)]; omega), if_neg (by rw [c_le (by omega) (by omega)]; omega), grd_ok (inb_t (by omega) (by omega)), nI_clamp (by omega), nI_1]
    by_cases h1 : C 93 k = x
    · rw [if_pos h1, grd_ok (inb_t (by omega) (by omega))]
      by_cases h2 : C 92 k = v
      · rw [if_pos h2]
        exact ih (k + 1) g (by omega) (by omega) (fun j hj hx => by
          by_cases hjk : j = k
          · subst hjk; exact h2
          · exact ha j (by omega) hx)
      · rw [if_neg h2, decide_eq_false (fun hall => h2 (hall k (by omega) h1))]
        rfl
    · rw [if_neg h1]
      exact ih (k + 1) g (by omega) (by omega) (fun j hj hx => by
          by_cases hjk : j = k
          · subst hjk; exact absurd hx h1
          · exact ha j (by omega) hx)
def ldv (o : Nat) : Int32 := if o = 0 then -1 else nI (o - 1)
theorem ldv_max : ∀ o, o < 62 → ∀ e, e < 61 → jmax (ldv o) (nI e) = ldv (if o ≤ e then e + 1 else o) := by decide +kernel
theorem ldv_lt : ∀ o, o < 62 → ∀ d, d < 63 → (ldv o < nI d ↔ o ≤ d) := by decide +kernel
theorem lastDay_loop (C : FMem) {ns : Nat} (hns : ns ≤ 8) (h : C 91 2 = nI ns) (hd : ∀ k, k < ns → ∃ e, e ≤ 60 ∧ C 93 k = nI e) : ∀ (m k f o : Nat), k + m = ns → m < f → o ≤ 61 → (∀ j, j < k → ∃ e, e < o ∧ C 93 j = nI e) → ∃ o', o' ≤ 61 ∧ X6_lastDay_b4 f (ldv o) (nI k) C = some (ldv o', C) ∧ ∀ j, j < ns → ∃ e, e < o' ∧ C 93 j = nI e := by
  intro m
  induction m with
  | zero =>
    intro k f o hk hf ho ha
    obtain ⟨g, rfl, -⟩ := fu_s hf
    have hk : k = ns := by omega
    subst hk
    refine ⟨o, ho, ?_, ha⟩
    show X6_lastDay_b4s (X6_lastDay_b4 g) _ _ C = _
    unfold X6_lastDay_b4s
    rw [h, if_pos (Int32.le_refl _)]
  | succ m ih =>
    intro k f o hk hf ho ha
    obtain ⟨g, rfl, hg⟩ := fu_s hf
    obtain ⟨e, he, ee⟩ := hd k (by omega)
    show ∃ o', _ ∧ X6_lastDay_b4s (X6_lastDay_b4 g) _ _ C = _ ∧ _
    unfold X6_lastDay_b4s
    rw [h, if_neg (by rw [nI_leI (by omega) (by omega)]; omega), if_neg (by rw [c_le (by omega) (by omega)]; omega), grd_ok (inb_t (by omega) (by omega)), nI_clamp (by omega), nI_1, bindv_ok, ee, ldv_max o (by omega) e (by omega)]
    refine ih (k + 1) g _ (by omega) (by omega) (by split <;> omega) (fun j hj => ?_)
    by_cases hjk : j = k
    · subst hjk
      exact ⟨e, by split <;> omega, ee⟩
    · obtain ⟨e2, h1, h2⟩ := ha j (by omega)
      exact ⟨e2, by split <;> omega, h2⟩
def sfit (C : FMem) (np ns : Nat) (G : Nat → Nat → Int32) : Bool := (List.range 61).all fun d => decide (∀ k, k < ns → C 93 k = nI d → C 92 k = nI (rn np id (C 15) (C 12 5) G (0, 0) d).1)
theorem sfit_iff (C : FMem) (np ns : Nat) (G : Nat → Nat → Int32) : sfit C np ns G = true ↔ ∀ d, d < 61 → ∀ k, k < ns → C 93 k = nI d → C 92 k = nI (rn np id (C 15) (C 12 5) G (0, 0) d).1 := by
  unfold sfit
  rw [List.all_eq_true]
  constructor
  · intro h d hd
    exact of_decide_eq_true (h d (List.mem_range.mpr hd))
  · intro h d hd
    exact decide_eq_true (h d (List.mem_range.mp hd))
theorem wasSo_loop {C1 : FMem} {np ns L : Nat} {G : Nat → Nat → Int32} (hcl : ClOK C1 np 61 G) (hp : 1 ≤ np) (hns : ns ≤ 8) (h91 : C1 91 2 = nI ns) (hL : L ≤ 61) (hd : ∀ j, j < ns → ∃ e, e < L ∧ C1 93 j = nI e) : ∀ (m d f : Nat) (Ck : FMem), d + m = L → m < f → (∀ j, j ≠ 98 → Ck j = C1 j) → RG Ck np id (rn np id (C1 15) (C1 12 5) G (0, 0) d) → (∀ e, e < d → ∀ k, k < ns → C1 93 k = nI e → C1 92 k = nI (rn np id (C1 15) (C1 12 5) G (0, 0) e).1) →
    ∃ C', X8_wasSo_b17 f (ldv L) (nI d) Ck = some (b2i (sfit C1 np ns G), C') ∧ ∀ j, j ≠ 98 → C' j = C1 j := by
  intro m
  induction m with
  | zero =>
    intro d f Ck hk hf hC hR ha
    obtain ⟨g, rfl, -⟩ := fu_s hf
    have hk : d = L := by omega
    subst hk
    refine ⟨Ck, ?_, hC⟩
    show X8_wasSo_b17s (X8_wasSo_b17 g) _ _ Ck = _
    unfold X8_wasSo_b17s
    have hs : sfit C1 np ns G = true := by
      rw [sfit_iff]
      intro e he k hk h93
      obtain ⟨e2, h1, h2⟩ := hd k hk
      have : e2 = e := (nI_eq (by omega) (by omega)).mp (h2.symm.trans h93)
      exact ha e (by omega) k hk h93
    rw [if_pos ((ldv_lt d (by omega) d (by omega)).mpr (Nat.le_refl _)), hs]
    rfl
  | succ m ih =>
    intro d f Ck hk hf hC hR ha
    obtain ⟨g, rfl, hg⟩ := fu_s hf
    show ∃ C', X8_wasSo_b17s (X8_wasSo_b17 g) _ _ Ck = _ ∧ _
    unfold X8_wasSo_b17s
    have hag := agrees_loop Ck (ns := ns) hns (by rw [hC 91 (by decide)]; exact h91) (nI d) (nI (id (rn np id (C1 15) (C1 12 5) G (0, 0) d).1)) ns 0 FU (by omega) (FU_gt (by omega)) (fun j hj => by omega)
    have hag' : f_X6_agrees (nI d) (nI (id (rn np id (C1 15) (C1 12 5) G (0, 0) d).1)) Ck = _ := hag
    rw [hC 92 (by decide), hC 93 (by decide)] at hag'
    rw [if_neg (by rw [ldv_lt L (by omega) d (by omega)]; omega), reigning_ok hcl.1 hR, bnd_ok, hag', bnd_ok]
    by_cases hall : ∀ j, j < ns → C1 93 j = nI d → C1 92 j = nI (id (rn np id (C1 15) (C1 12 5) G (0, 0) d).1)
    · rw [decide_eq_true hall, if_neg (show ¬ b2i true = 0 by decide)]
      obtain ⟨C2, e2, h2, h3⟩ := stepC (C := C1) hcl (fun _ _ => rfl) (q := (0, 0)) (show 0 < np by omega) (show d < 61 by omega) hC hR
      rw [e2, bnd_ok, nI_1]
      exact ih (d + 1) g C2 (by omega) (by omega) h2 h3 (fun e he k hkn h93 => by
        by_cases hed : e = d
        · subst hed; exact hall k hkn h93
        · exact ha e (by omega) k hkn h93)
    · rw [decide_eq_false hall, if_pos (show b2i false = 0 by decide)]
      refine ⟨Ck, ?_, hC⟩
      have hs : sfit C1 np ns G = false := by
        cases hh : sfit C1 np ns G with
        | false => rfl
        | true => exact absurd (fun j hj hx => (sfit_iff C1 np ns G).mp hh d (by omega) j hj hx) hall
      rw [hs]
      rfl
theorem wasSo_ok {C1 : FMem} {np ns : Nat} {G : Nat → Nat → Int32} (hcl : ClOK C1 np 61 G) (hp : 1 ≤ np) (hns : ns ≤ 8) (h91 : C1 91 2 = nI ns) (hd : ∀ k, k < ns → ∃ e, e ≤ 60 ∧ C1 93 k = nI e) :
    ∃ C', f_X8_wasSo C1 = some (b2i (sfit C1 np ns G), C') ∧ ∀ j, j ≠ 98 → j ≠ 99 → C' j = C1 j := by
  obtain ⟨C2, e2, h2, hR⟩ := startFirst_ok C1 (np := np) hcl.1 (by omega)
  obtain ⟨L, hL, e3, h3⟩ := lastDay_loop C2 (ns := ns) hns (by rw [h2 91 (by decide) (by decide)]; exact h91) (by rw [h2 93 (by decide) (by decide)]; exact hd) ns 0 FU 0 (by omega) (FU_gt (by omega)) (by omega) (fun j hj => by omega)
  have e3' : f_X6_lastDay C2 = _ := e3
  have hcl2 : ClOK C2 np 61 G := hcl.mv (h2 12 (by decide) (by decide)) (h2 94 (by decide) (by decide)) (h2 97 (by decide) (by decide))
  obtain ⟨C', e4, h4⟩ := wasSo_loop hcl2 hp hns (by rw [h2 91 (by decide) (by decide)]; exact h91) hL h3 L 0 FU C2 (by omega) (FU_gt (by omega)) (fun _ _ => rfl) hR (fun e he => by omega)
  have es : sfit C2 np ns G = sfit C1 np ns G := by
    unfold sfit
    rw [h2 93 (by decide) (by decide), h2 92 (by decide) (by decide), h2 15 (by decide) (by decide), h2 12 (by decide) (by decide)]
  have e4' : X8_wasSo_b17 FU (ldv L) 0 C2 = _ := e4
  unfold f_X8_wasSo
  rw [e2, bnd_ok, e3', bnd_ok, e4', es]
  exact ⟨_, rfl, fun j j1 j2 => by rw [h4 j j1, h2 j j1 j2]⟩
/-- the gains with the taste of i replaced, on the first days -/
def GF (C : FMem) (nf i t : Nat) : Nat → Nat → Int32 := fun d p => gM (C 13) (upd (C 14) i (nI t)) nf 0 (C 17) (C 18) (C 19) 0 0 (0 + nI d) p
def fsU (P : Nat → Bool) : Nat → Int32
  | 0 => -4
  | t + 1 => if P t = true then (if fsU P t = -4 then nI t else fsU P t) else fsU P t
def cdn (P : Nat → Bool) : Nat → Nat
  | 0 => 0
  | k + 1 => cdn P k + (if P (31 - k) = true then 1 else 0)
def fdn (P : Nat → Bool) : Nat → Int32
  | 0 => -4
  | k + 1 => if P (31 - k) = true then nI (31 - k) else fdn P k
theorem cdn_le (P : Nat → Bool) : ∀ k, cdn P k ≤ k := by
  intro k
  induction k with
  | zero => exact Nat.le_refl _
  | succ k ih => unfold cdn; split <;> omega
theorem nIm4 : ∀ t, t < 32 → ¬ nI t = -4 := by decide +kernel
theorem ud_cnt (P : Nat → Bool) : ∀ k, k ≤ 32 → bc P 32 = bc P (32 - k) + cdn P k ∧ fsU P 32 = if fsU P (32 - k) = -4 then fdn P k else fsU P (32 - k) := by
  intro k
  induction k with
  | zero =>
    intro _
    refine ⟨rfl, ?_⟩
    show fsU P 32 = if fsU P 32 = -4 then -4 else fsU P 32
    by_cases h : fsU P 32 = -4
    · rw [if_pos h]; exact h
    · rw [if_neg h]
  | succ k ih =>
    intro hk
    obtain ⟨h1, h2⟩ := ih (by omega)
    have e : 32 - k = (31 - k) + 1 := by omega
    have e' : 32 - (k + 1) = 31 - k := by omega
    rw [e] at h1 h2
    rw [e', h1, h2]
    constructor
    · show (if P (31 - k) = true then bc P (31 - k) + 1 else bc P (31 - k)) + cdn P k = bc P (31 - k) + (cdn P k + (if P (31 - k) = true then 1 else 0))
      split <;> omega
    · show (if (if P (31 - k) = true then (if fsU P (31 - k) = -4 then nI (31 - k) else fsU P (31 - k)) else fsU P (31 - k)) = -4 then fdn P k else (if P (31 - k) = true then (if fsU P (31 - k) = -4 then nI (31 - k) else fsU P (31 - k)) else fsU P (31 - k))) = if fsU P (31 - k) = -4 then (if P (31 - k) = true then nI (31 - k) else fdn P k) else fsU P (31 - k)
      by_cases hP : P (31 - k) = true
      · simp only [hP, if_true]
        by_cases hf : fsU P (31 - k) = -4
        · rw [if_pos hf, if_neg (nIm4 _ (by omega))]
        · rw [if_neg hf, if_neg hf]
      · simp only [hP]
        rfl
def tsP (C : FMem) (np nf ns i : Nat) : Nat → Bool := fun t => sfit C np ns (GF C nf i t)
theorem tastesC {C C1 : FMem} {np nf ns i : Nat} (hc : CtOK C np) (hi : i < np) (hnf : nf ≤ 9) (h16 : C 16 3 = nI nf) (hns : ns ≤ 8) (h91 : C 91 2 = nI ns) (hd : ∀ k, k < ns → ∃ e, e ≤ 60 ∧ C 93 k = nI e) (h94 : ∀ j, j < 94 → C1 j = C j) (hol : OL C1 16 0 0 61 nf) (hG : ∀ d p, d < 61 → p < np → C1 97 (d * 6 + p) = gnv C1 16 nf p (C1 14 p) 0 d) (w : Int32) : ∀ (m t f : Nat) (Ck : FMem), t + m = 32 → m < f → (∀ j, j ≠ 97 → j ≠ 98 → j ≠ 99 → Ck j = C1 j) → (∀ d p, d < 61 → p < np → p ≠ i → Ck 97 (d * 6 + p) = C1 97 (d * 6 + p)) →
    ∃ C', X8_tastes_b44 f (nI i) w (nI (bc (tsP C np nf ns i) t)) (fsU (tsP C np nf ns i) t) (nI t) Ck = some (if w = 0 then nI (bc (tsP C np nf ns i) 32) else fsU (tsP C np nf ns i) 32, C') ∧ ∀ j, j < 94 → C' j = C j := by
  have hp6 := hc.2.1
  have gG : ∀ d p ta, d < 61 → gnv C1 16 nf p ta 0 d = (gp (prD (C 17) (0 + nI d) 0) (C 13 p) ta (0 + nI d) (C 18) (C 19) nf).1 := by
    intro d p ta hd
    unfold gnv
    rw [h94 13 (by decide), h94 18 (by decide), h94 19 (by decide)]
    refine congrArg Prod.fst (gp_congr nf (fun k hk => ?_) (fun _ _ _ => rfl) (fun _ _ _ => rfl))
    rw [hol.2.2.2.1 d hd k (by omega), h94 17 (by decide)]
    unfold shB prD
    have e1 : (k < nf ∧ C 17 k - 0 = nI d ∧ d < 61) ↔ C 17 k = 0 + nI d := by
      rw [sub_iff]
      constructor
      · intro h; exact h.2.1
      · intro h; exact ⟨hk, h, hd⟩
    rw [decide_eq_decide.mpr e1]
  intro m
  induction m with
  | zero =>
    intro t f Ck ht hf hC hK
    obtain ⟨g, rfl, -⟩ := fu_s hf
    have ht : t = 32 := by omega
    subst ht
    refine ⟨Ck, ?_, fun j hj => by rw [hC j (by omega) (by omega) (by omega), h94 j hj]⟩
    show X8_tastes_b44s (X8_tastes_b44 g) _ _ _ _ _ Ck = _
    unfold X8_tastes_b44s
    rw [if_pos (by decide)]
    by_cases hw : w = 0
    · rw [if_pos hw, if_pos hw]
    · rw [if_neg hw, if_neg hw]
  | succ m ih =>
    intro t f Ck ht hf hC hK
    obtain ⟨g, rfl, hg⟩ := fu_s hf
    have e94 := hC 94 (by decide) (by decide) (by decide)
    have hCC : ∀ j, j < 94 → Ck j = C j := fun j hj => by rw [hC j (by omega) (by omega) (by omega), h94 j hj]
    obtain ⟨C2, e2, a1, a2, a3⟩ := X2_weigh_ok 16 (Or.inl rfl) Ck (hm := 61) (n := nf) (i := i) (ta := t) (by decide) hnf (by omega) (by omega) (by rw [e94]; exact hol.1) (by rw [e94]; exact hol.2.2.1) (by rw [hCC 16 (by decide)]; exact h16)
    have hC2 : ∀ j, j ≠ 97 → j ≠ 98 → j ≠ 99 → C2 j = C1 j := fun j j1 j2 j3 => by rw [a1 j j1, hC j j1 j2 j3]
    have hCC2 : ∀ j, j < 94 → C2 j = C j := fun j hj => by rw [hC2 j (by omega) (by omega) (by omega), h94 j hj]
    have hK2 : ∀ d p, d < 61 → p < np → p ≠ i → C2 97 (d * 6 + p) = C1 97 (d * 6 + p) := fun d p hd hp hne => by
      rw [a3 (d * 6 + p) (by omega), hK d p hd hp hne]
    have hcl : ClOK C2 np 61 (GF C nf i t) := by
      refine ⟨hp6, by rw [hCC2 12 (by decide)]; exact hc.2.2.1, by rw [hCC2 12 (by decide)]; exact hc.2.2.2.1, by decide, by rw [hC2 94 (by decide) (by decide) (by decide)]; exact hol.2.2.1, fun d p hd hp => ?_⟩
      unfold GF gM
      rw [if_pos (show (0 : Int32) ≤ 0 by decide)]
      by_cases hpi : p = i
      · subst hpi
        rw [a2 d hd, upd_same, ← gG d p (nI t) hd]
        unfold gnv
        rw [hC 95 (by decide) (by decide) (by decide), hC 13 (by decide) (by decide) (by decide), hC 18 (by decide) (by decide) (by decide), hC 19 (by decide) (by decide) (by decide), e94, hol.2.1]
      · rw [upd_ne _ _ hpi, hK2 d p hd hp hpi, hG d p hd hp, gG d p _ hd, h94 14 (by decide)]
    obtain ⟨C3, e3, h3⟩ := wasSo_ok hcl hc.1 hns (by rw [hCC2 91 (by decide)]; exact h91) (by rw [hCC2 93 (by decide)]; exact hd)
    have es : sfit C2 np ns (GF C nf i t) = tsP C np nf ns i t := by
      unfold tsP sfit
      rw [hCC2 93 (by decide), hCC2 92 (by decide), hCC2 15 (by decide), hCC2 12 (by decide)]
    rw [es] at e3
    have ih' := ih (t + 1) g C3 (by omega) (by omega) (fun j j1 j2 j3 => by rw [h3 j j2 j3, hC2 j j1 j2 j3]) (fun d p hd hp hne => by rw [h3 97 (by decide) (by decide), hK2 d p hd hp hne])
    have eb : bc (tsP C np nf ns i) (t + 1) = if tsP C np nf ns i t = true then bc (tsP C np nf ns i) t + 1 else bc (tsP C np nf ns i) t := rfl
    have ef : fsU (tsP C np nf ns i) (t + 1) = if tsP C np nf ns i t = true then (if fsU (tsP C np nf ns i) t = -4 then nI t else fsU (tsP C np nf ns i) t) else fsU (tsP C np nf ns i) t := rfl
    show ∃ C', X8_tastes_b44s (X8_tastes_b44 g) _ _ _ _ _ Ck = _ ∧ _
    unfold X8_tastes_b44s X8_tastes_b85 X8_tastes_b87
    rw [if_neg (by rw [c_gt (by omega) (by omega)]; omega), e2, bnd_ok, e3, bnd_ok]
    rw [eb, ef] at ih'
    cases hP : tsP C np nf ns i t with
    | false =>
      rw [hP] at ih'
      rw [if_pos (show b2i false = 0 by decide), nI_1]
      exact ih'
    | true =>
      rw [hP, if_pos rfl, if_pos rfl] at ih'
      rw [if_neg (show ¬ b2i true = 0 by decide), nI_1, nI_1]
      by_cases h4 : fsU (tsP C np nf ns i) t = -4
      · rw [if_pos h4] at ih' ⊢
        exact ih'
      · rw [if_neg h4] at ih' ⊢
        exact ih'
theorem tIn (k41 : Int32 → Int32 → Int32 → Int32 → Int32 → Int32 → FMem → Opt) (k72 : Int32 → Int32 → Int32 → Int32 → Int32 → Int32 → Int32 → Int32 → FMem → Opt) {M : FMem} {ns : Nat} (hns : ns ≤ 8) (h9 : M 0 9 = nI ns) (x1 x2 x3 x4 x5 x6 x8 : Int32) (P : Prop) : ∀ (m k f : Nat) (b : Bool), k + m = ns → m < f → (b = true ↔ P ∧ ∀ j, j < k → M 6 (2 * j + 1) = x8 → M 6 (2 * j) = M 11 4) →
    ∃ b' : Bool, X9_tastes_b82 k41 k72 f x1 x2 x3 x4 x5 x6 (b2i b) x8 (nI k) M = (bnd (f_X9_goes M) fun _ M26 => k72 x1 x2 x3 x4 x5 x6 (b2i b') (x8 + 1) M26) ∧ (b' = true ↔ P ∧ ∀ j, j < ns → M 6 (2 * j + 1) = x8 → M 6 (2 * j) = M 11 4) := by
  intro m
  induction m with
  | zero =>
    intro k f b hk hf hb
    obtain ⟨g, rfl, -⟩ := fu_s hf
    have hk : k = ns := by omega
    subst hk
    refine ⟨b, ?_, hb⟩
    show X9_tastes_b82s k41 k72 (X9_tastes_b82 k41 k72 g) _ _ _ _ _ _ _ _ _ M = _
    unfold X9_tastes_b82s
    rw [h9, if_pos (Int32.le_refl _)]
  | succ m ih =>
    intro k f b hk hf hb
    obtain ⟨g, rfl, hg⟩ := fu_s hf
    show ∃ b' : Bool, X9_tastes_b82s k41 k72 (X9_tastes_b82 k41 k72 g) _ _ _ _ _ _ _ _ _ M = _ ∧ _
    unfold X9_tastes_b82s X9_tastes_b134 X9_tastes_b130 X9_tastes_b135
    rw [h9, if_neg (by rw [nI_leI (by omega) (by omega)]; omega), nI_1, show (2 : Int32) * nI k = nI (2 * k) from pk_mul 2 k, nI_1]
    cases b with
    | false =>
      rw [if_pos (show b2i false = 0 by decide)]
      refine ih (k + 1) g false (by omega) (by omega) ⟨fun h => absurd h (by decide), fun h => ?_⟩
      exact hb.mpr ⟨h.1, fun j hj => h.2 j (by omega)⟩
    | true =>
      have hb' := hb.mp rfl
      rw [if_neg (show ¬ b2i true = 0 by decide), grd_ok (inb_t (by omega) (by omega)), nI_clamp (by omega), nI_clamp (by omega)]
      by_cases h1 : M 6 (2 * k + 1) = x8
      · rw [if_pos h1, grd_ok (inb_t (by omega) (by omega))]
        by_cases h2 : M 6 (2 * k) = M 11 4
        · rw [if_pos h2]
          refine ih (k + 1) g true (by omega) (by omega) ⟨fun _ => ⟨hb'.1, fun j hj hx => ?_⟩, fun _ => rfl⟩
          by_cases hjk : j = k
          · subst hjk; exact h2
          · exact hb'.2 j (by omega) hx
        · rw [if_neg h2]
          refine ih (k + 1) g false (by omega) (by omega) ⟨fun h => absurd h (by decide), fun h => ?_⟩
          exact absurd (h.2 k (by omega) h1) h2
      · rw [if_neg h1]
        refine ih (k + 1) g true (by omega) (by omega) ⟨fun _ => ⟨hb'.1, fun j hj hx => ?_⟩, fun _ => rfl⟩
        by_cases hjk : j = k
        · subst hjk; exact absurd hx h1
        · exact hb'.2 j (by omega) hx
theorem tDays (k41 : Int32 → Int32 → Int32 → Int32 → Int32 → Int32 → FMem → Opt) {C M : FMem} {np nf ns : Nat} {G : Nat → Nat → Int32} (hO : MoOK M np nf id) (hsd : ∀ p, p < np → sdM M p = C 15 p) (hfd : M 0 2 = C 12 5) (hG : ∀ d p, p < np → gM (kdM M) (tsM M) nf 0 (C 17) (C 18) (C 19) (M 0 20) (M 0 21) (0 + nI d) p = G d p) (hns : ns ≤ 8) (h9 : M 0 9 = nI ns) (h6 : ∀ k, k < ns → M 6 (2 * k) = C 92 k ∧ M 6 (2 * k + 1) = C 93 k) (x1 x2 x3 x4 x5 x6 : Int32) : ∀ (m d f : Nat) (b : Bool) (N : Nat → Int32), d + m = 61 → m < f → NWr N np id (rn np id (C 15) (C 12 5) G (0, 0) d) (0 + nI d) nf 0 (C 17) (C 18) (C 19) → (b = true ↔ ∀ e, e < d → ∀ k, k < ns → C 93 k = nI e → C 92 k = nI (rn np id (C 15) (C 12 5) G (0, 0) e).1) →
    ∃ N', X9_tastes_b72 k41 f x1 x2 x3 x4 x5 x6 (b2i b) (nI d) (rset M 11 N) = X9_tastes_b166 k41 x1 x2 x3 x5 x6 (b2i (sfit C np ns G)) x4 (b2i (sfit C np ns G)) (rset M 11 N') := by
  have hp1 := hO.1
  intro m
  induction m with
  | zero =>
    intro d f b N hd hf hN hb
    obtain ⟨g, rfl, -⟩ := fu_s hf
    have hd : d = 61 := by omega
    subst hd
    have eb : b = sfit C np ns G := by
      cases hs : sfit C np ns G with
      | true => exact hb.mpr ((sfit_iff _ _ _ _).mp hs)
      | false =>
        cases hbb : b with
        | false => rfl
        | true =>
          rw [(sfit_iff _ _ _ _).mpr (hb.mp hbb)] at hs
          exact absurd hs (by decide)
    subst eb
    refine ⟨N, ?_⟩
    show X9_tastes_b72s k41 (X9_tastes_b72 k41 g) _ _ _ _ _ _ _ _ _ = _
    unfold X9_tastes_b72s
    rw [if_pos (by decide)]
    cases sfit C np ns G with
    | true => rw [if_neg (show ¬ b2i true = 0 by decide)]; rfl
    | false => rw [if_pos (show b2i false = 0 by decide)]; rfl
  | succ m ih =>
    intro d f b N hd hf hN hb
    obtain ⟨g, rfl, hg⟩ := fu_s hf
    show ∃ N', X9_tastes_b72s k41 (X9_tastes_b72 k41 g) _ _ _ _ _ _ _ _ _ = _
    unfold X9_tastes_b72s
    rw [if_neg (by rw [c_gt (by omega) (by omega)]; omega)]
    have hN4 : (rset M 11 N) 11 4 = nI (rn np id (C 15) (C 12 5) G (0, 0) d).1 := by rw [rset_same]; exact hN.king (rn_lt (by omega) d)
    obtain ⟨b', e1, hb'⟩ := tIn k41 (X9_tastes_b72 k41 g) (M := rset M 11 N) hns (by rw [rset_ne _ _ (by decide)]; exact h9) x1 x2 x3 x4 x5 x6 (nI d) (b = true) ns 0 FU b (by omega) (FU_gt (by omega)) ⟨fun h => ⟨h, fun j hj => by omega⟩, fun h => h.1⟩
    obtain ⟨N', e2, hN', -⟩ := goes_stepR hO (q := (0, 0)) (show 0 < np by omega) hsd hfd d (hG d) N hN
    have e1' : X9_tastes_b82 k41 (X9_tastes_b72 k41 g) FU x1 x2 x3 x4 x5 x6 (b2i b) (nI d) 0 (rset M 11 N) = _ := e1
    rw [e1', e2, bnd_ok, nI_1]
    refine ih (d + 1) g b' N' (by omega) (by omega) hN' ?_
    rw [hb', hN4, rset_ne M N (show 6 ≠ 11 by decide)]
    constructor
    · intro h e he k hk h93
      by_cases hed : e = d
      · subst hed
        rw [← (h6 k hk).1]
        exact h.2 k hk (by rw [(h6 k hk).2]; exact h93)
      · exact hb.mp h.1 e (by omega) k hk h93
    · intro h
      refine ⟨hb.mpr (fun e he => h e (by omega)), fun j hj hx => ?_⟩
      rw [(h6 j hj).1]
      exact h d (by omega) j hj (by rw [← (h6 j hj).2]; exact hx)
theorem ldv_dn : ∀ m, m < 32 → ldv (m + 1) + (-1) = ldv m := by decide +kernel
theorem tastesM {C M : FMem} {np nf ns i : Nat} (hrc : RC C M np) (hrf : RF C M np) (hnf : nf ≤ 9) (h16 : C 16 3 = nI nf) (hi : i < np) (hns : ns ≤ 8) (h9 : M 0 9 = nI ns) (h6 : ∀ k, k < ns → M 6 (2 * k) = C 92 k ∧ M 6 (2 * k + 1) = C 93 k) (w : Int32) : ∀ (m k f : Nat) (Mk : FMem), k + m = 32 → m < f → (∀ j, j ≠ 0 → j ≠ 1 → j ≠ 11 → Mk j = M j) → (∀ k, k ≠ 21 → Mk 0 k = M 0 k) → (∀ q, q ≠ 3 * i + 1 → Mk 1 q = M 1 q) →
    ∃ M', X9_tastes_b41 f (nI i) w (C 14 i) (nI (cdn (tsP C np nf ns i) k)) (fdn (tsP C np nf ns i) k) (ldv m) Mk = some (if w = 0 then nI (cdn (tsP C np nf ns i) 32) else fdn (tsP C np nf ns i) 32, M') ∧ (∀ j, j ≠ 0 → j ≠ 11 → M' j = M j) ∧ (∀ k, k ≠ 21 → M' 0 k = M 0 k) := by
  have hfade := hrc.fade
  obtain ⟨p1, p6, -, hm0, -, hm2, hper⟩ := hrc
  obtain ⟨nf', f1, f2, f3, f4, f5, f6, f7, f8⟩ := hrf
  have : nf' = nf := (nI_eq (by omega) (by omega)).mp (f2.symm.trans h16)
  subst this
  have e31 : ((3 : Int32) * nI i + 1) = nI (3 * i + 1) := by rw [i3, nI_1]
  intro m
  induction m with
  | zero =>
    intro k f Mk hk hf hM h0 hq
    obtain ⟨g, rfl, -⟩ := fu_s hf
    have hk : k = 32 := by omega
    subst hk
    show ∃ M', X9_tastes_b41s (X9_tastes_b41 g) _ _ _ _ _ _ Mk = _ ∧ _
    unfold X9_tastes_b41s
    rw [if_pos (by decide), e31, grd_ok (inb_t (by omega) (by omega)), nI_clamp (by omega), bindm_ok]
    refine ⟨fset Mk 1 (3 * i + 1) (C 14 i), ?_, fun j j1 j2 => ?_, fun k hk => ?_⟩
    · by_cases hw : w = 0
      · rw [if_pos hw, if_pos hw]
      · rw [if_neg hw, if_neg hw]
    · rw [fset_eq]
      by_cases h1 : j = 1
      · subst h1
        rw [rset_same]
        funext q
        by_cases hq1 : q = 3 * i + 1
        · subst hq1
          rw [upd_same]
          exact ((hper i hi).2.2.1).symm
        · rw [upd_ne _ _ hq1, hq q hq1]
      · rw [rset_ne _ _ h1, hM j j1 h1 j2]
    · rw [fset_eq, rset_ne _ _ (by decide), h0 k hk]
  | succ m ih =>
    intro k f Mk hk hf hM h0 hq
    obtain ⟨g, rfl, hg⟩ := fu_s hf
    have el : ldv (m + 1) = nI m := rfl
    obtain ⟨M1, e1, a1, a2, a3, a4⟩ := X9_from_ok 3 (Or.inr rfl) (fset Mk 1 (3 * i + 1) (nI m))
    have hF : ∀ j, j ≠ 1 → fset Mk 1 (3 * i + 1) (nI m) j = Mk j := fun j hj => by rw [fset_eq, rset_ne _ _ hj]
    have hF1 : M1 1 = upd (Mk 1) (3 * i + 1) (nI m) := by rw [a1 1 (by decide) (by decide), fset_eq, rset_same]
    have hM10 : ∀ k, k ≠ 21 → M1 0 k = M 0 k := fun k hk => by rw [a3 k hk, hF 0 (by decide), h0 k hk]
    have hM1j : ∀ j, j ≠ 0 → j ≠ 1 → j ≠ 11 → M1 j = M j := fun j j1 j2 j3 => by rw [a1 j j1 j3, hF j j2, hM j j1 j2 j3]
    have h11 : ∀ q, q < 46 → M1 11 q = M 3 q := fun q hq => by rw [a2 q hq, hF 3 (by decide), hM 3 (by decide) (by decide) (by decide)]
    have hO : MoOK M1 np nf' id := ⟨p1, p6, by omega, by rw [hM10 0 (by decide)]; exact hm0, by rw [hM10 2 (by decide)]; exact hfade, fun j hj => hj⟩
    have hN : NWr (M1 11) np id (rn np id (C 15) (C 12 5) (GF C nf' i m) (0, 0) 0) (0 + nI 0) nf' 0 (C 17) (C 18) (C 19) := by
      refine ⟨by rw [h11 0 (by decide)]; exact f4, by rw [h11 1 (by decide)]; exact f5, by rw [h11 2 (by decide)]; exact f3, by rw [h11 3 (by decide)]; exact f6, fun j hj => ?_, fun q hq => ?_⟩
      · rw [h11 (4 + j) (by omega), f7 j hj]
        show nI j = nI ((0 + j) % np)
        rw [Nat.zero_add, Nat.mod_eq_of_lt hj]
      · rw [h11 _ (by omega), h11 _ (by omega), h11 _ (by omega)]
        exact f8 q hq
    have hsd : ∀ p, p < np → sdM M1 p = C 15 p := fun p hp => by
      unfold sdM
      rw [hF1, upd_ne _ _ (by omega), hq _ (by omega)]
      exact (hper p hp).2.2.2
    have hG : ∀ d p, p < np → gM (kdM M1) (tsM M1) nf' 0 (C 17) (C 18) (C 19) (M1 0 20) (M1 0 21) (0 + nI d) p = GF C nf' i m d p := fun d p hp => by
      unfold GF
      rw [a4, gM_0]
      unfold gM kdM tsM
      have ek : M1 1 (3 * p) = C 13 p := by rw [hF1, upd_ne _ _ (by omega), hq _ (by omega)]; exact (hper p hp).2.1
      have et : M1 1 (3 * p + 1) = upd (C 14) i (nI m) p := by
        rw [hF1]
        by_cases hpi : p = i
        · subst hpi
          rw [upd_same, upd_same]
        · rw [upd_ne _ _ (by omega), upd_ne _ _ hpi, hq _ (by omega)]
          exact (hper p hp).2.2.1
      rw [ek, et]
    obtain ⟨N', e2⟩ := tDays (X9_tastes_b41 g) (C := C) (G := GF C nf' i m) hO hsd (by rw [hM10 2 (by decide)]; exact hm2) hG hns (by rw [hM10 9 (by decide)]; exact h9) (by rw [hM1j 6 (by decide) (by decide) (by decide)]; exact h6) (nI i) w (C 14 i) (nI (cdn (tsP C np nf' ns i) k)) (fdn (tsP C np nf' ns i) k) (nI m) 61 0 FU true (M1 11) (by omega) (FU_gt (by omega)) hN ⟨fun _ e he => by omega, fun _ => rfl⟩
    rw [rset_self] at e2
    have e2' : X9_tastes_b72 (X9_tastes_b41 g) FU (nI i) w (C 14 i) (nI (cdn (tsP C np nf' ns i) k)) (fdn (tsP C np nf' ns i) k) (nI m) 1 0 M1 = X9_tastes_b166 (X9_tastes_b41 g) (nI i) w (C 14 i) (fdn (tsP C np nf' ns i) k) (nI m) (b2i (tsP C np nf' ns i m)) (nI (cdn (tsP C np nf' ns i) k)) (b2i (tsP C np nf' ns i m)) (rset M1 11 N') := e2
    have ih' := ih (k + 1) g (rset M1 11 N') (by omega) (by omega) (fun j j1 j2 j3 => by rw [rset_ne _ _ j3, hM1j j j1 j2 j3]) (fun k hk => by rw [rset_ne _ _ (by decide), hM10 k hk]) (fun q hq1 => by rw [rset_ne _ _ (by decide), hF1, upd_ne _ _ hq1, hq q hq1])
    have ec : cdn (tsP C np nf' ns i) (k + 1) = cdn (tsP C np nf' ns i) k + (if tsP C np nf' ns i (31 - k) = true then 1 else 0) := rfl
    have ef : fdn (tsP C np nf' ns i) (k + 1) = if tsP C np nf' ns i (31 - k) = true then nI (31 - k) else fdn (tsP C np nf' ns i) k := rfl
    have em : 31 - k = m := by omega
    rw [em] at ec ef
    rw [ec, ef, ← ldv_dn m (by omega), el] at ih'
    show ∃ M', X9_tastes_b41s (X9_tastes_b41 g) _ _ _ _ _ _ Mk = _ ∧ _
    unfold X9_tastes_b41s
    rw [el, if_neg (nI_pos (by omega)), e31, grd_ok (inb_t (by omega) (by omega)), nI_clamp (by omega), bindm_ok, e1, bnd_ok, e2']
    unfold X9_tastes_b166 X9_tastes_b181
    rw [bindv_ok]
    cases hP : tsP C np nf' ns i m with
    | true =>
      rw [hP, if_pos rfl, if_pos rfl] at ih'
      rw [if_neg (show ¬ b2i true = 0 by decide), show nI (cdn (tsP C np nf' ns i) k) + b2i true = nI (cdn (tsP C np nf' ns i) k + 1) from nI_1 _]
      exact ih'
    | false =>
      rw [hP] at ih'
      rw [if_pos (show b2i false = 0 by decide), show nI (cdn (tsP C np nf' ns i) k) + b2i false = nI (cdn (tsP C np nf' ns i) k) from Int32.add_zero _]
      exact ih'
theorem op_tastes (a1 a2 : Int32) : OpOK (f_X8_tastes a1 a2) (f_X9_tastes a1 a2) := by
  intro C M h
  have h' := h
  obtain ⟨np, hrc, -, -, -, ⟨ns, s1, s2, s3, s4⟩, -, hrf⟩ := h
  unfold f_X8_tastes f_X9_tastes
  rcases isPer hrc a1 with ⟨i, hi, rfl, p1, p2⟩ | ⟨p1, p2⟩
  · rw [p1, p2, bnd_ok, bnd_ok, if_neg n10, if_neg n10]
    rcases in_ok a2 (lo := 0) (hi := 1) (by decide) (by decide) M with ⟨w, -, hw, rfl, hi1⟩ | ⟨hno, hi1⟩
    · have hi1' : f_X9_in (nI w) 0 1 M = some (1, M) := hi1
      have hrf' := hrf
      obtain ⟨nf, f1, f2, -⟩ := hrf
      obtain ⟨C1, e1, c1, hol, hG⟩ := X2_look_ok 16 (Or.inl rfl) C 0 0 (hm := 61) (n := nf) hrc.ct (by decide) f1 f2
      have e1' : f_X2_look 16 0 0 61 C = some (0, C1) := e1
      have h94 : ∀ j, j < 94 → C1 j = C j := fun j hj => c1 j (by omega) (by omega) (by omega) (by omega)
      obtain ⟨C', e2, c2⟩ := tastesC hrc.ct hi f1 f2 s1 s2 (fun k hk => (s4 k hk).2.2) h94 hol hG (nI w) 32 0 FU C1 (by omega) (FU_gt (by omega)) (fun _ _ _ _ => rfl) (fun _ _ _ _ _ => rfl)
      obtain ⟨M', e3, m1, m2⟩ := tastesM hrc hrf' f1 f2 hi s1 s3 (fun k hk => ⟨(s4 k hk).1, (s4 k hk).2.1⟩) (nI w) 32 0 FU M (by omega) (FU_gt (by omega)) (fun _ _ _ _ => rfl) (fun _ _ => rfl) (fun _ _ => rfl)
      have e2' : X8_tastes_b44 FU (nI i) (nI w) 0 (-4) 0 C1 = _ := e2
      have e3' : X9_tastes_b41 FU (nI i) (nI w) (C 14 i) 0 (-4) 31 M = _ := e3
      obtain ⟨u1, u2⟩ := ud_cnt (tsP C np nf ns i) 32 (by decide)
      have u1' : bc (tsP C np nf ns i) 32 = cdn (tsP C np nf ns i) 32 := by
        rw [u1]; exact Nat.zero_add _
      have u2' : fsU (tsP C np nf ns i) 32 = fdn (tsP C np nf ns i) 32 := by
        rw [u2]; exact if_pos rfl
      have hp6 := hrc.2.1
      rw [hi1', bnd_ok, if_neg n10, (isHalf_ok (nI w) C).1 w hw rfl, bnd_ok, if_neg n10, e1', bnd_ok, e2', show ((3 : Int32) * nI i + 1) = nI (3 * i + 1) by rw [i3, nI_1], grd_ok (inb_t (by omega) (by omega)), nI_clamp (by omega), bindv_ok, (hrc.2.2.2.2.2.2 i hi).2.2.1, e3', u1', u2']
      exact ⟨_, _, _, rfl, rfl, h'.query c2 (fun j j1 j2 => m1 j (by omega) (by omega)) (fun k _ k2 => m2 k k2)⟩
    · have hi1' : f_X9_in a2 0 1 M = some (0, M) := hi1
      rw [hi1', bnd_ok, if_pos rfl, (isHalf_ok a2 C).2 hno, bnd_ok, if_pos rfl]
      exact ⟨_, _, _, rfl, rfl, h'⟩
  · rw [p1, p2, bnd_ok, bnd_ok, if_pos rfl, if_pos rfl]
    exact ⟨_, _, _, rfl, rfl, h'⟩
