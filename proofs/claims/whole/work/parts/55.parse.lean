/-! ===== the text is read ===== -/
def LT (tx : Nat → Int32) (nt q : Nat) : Int32 := if q < nt then tx q else -1
def TXc (C : FMem) (tx : Nat → Int32) (nt : Nat) : Prop := nt ≤ 200 ∧ C 1 1 = nI nt ∧ ∀ k, k < nt → C 2 k = tx k
def TXm (M : FMem) (tx : Nat → Int32) (nt : Nat) : Prop := nt ≤ 200 ∧ M 0 12 = nI nt ∧ ∀ k, k < nt → M 7 k = tx k
theorem TXc.mv {C C' : FMem} {tx : Nat → Int32} {nt : Nat} (h : TXc C tx nt) (h1 : C' 1 = C 1) (h2 : C' 2 = C 2) : TXc C' tx nt := by
  unfold TXc
  rw [h1, h2]
  exact h
theorem TXm.mv {M M' : FMem} {tx : Nat → Int32} {nt : Nat} (h : TXm M tx nt) (h1 : M' 0 12 = M 0 12) (h2 : M' 7 = M 7) : TXm M' tx nt := by
  unfold TXm
  rw [h1, h2]
  exact h
theorem cLetter {C : FMem} {tx : Nat → Int32} {nt q : Nat} (h : TXc C tx nt) (hq : q < 2 ^ 30) : f_X4_letterAt (nI q) C = some (LT tx nt q, C) := by
  obtain ⟨h1, h2, h3⟩ := h
  unfold f_X4_letterAt LT
  rw [if_neg (nI_pos (by omega)), h2]
  by_cases hlt : q < nt
  · rw [if_neg (by rw [nI_leI (by omega) (by omega)]; omega), if_neg (by rw [c_le (by omega) (by omega)]; omega), grd_ok (inb_t (by omega) (by omega)), nI_clamp (by omega), if_pos hlt, h3 q hlt]
  · rw [if_pos (by rw [nI_leI (by omega) (by omega)]; omega), if_neg hlt]
theorem mLetter {M : FMem} {tx : Nat → Int32} {nt q : Nat} (h : TXm M tx nt) (hq : q < 2 ^ 30) : f_X9_letterAt (nI q) M = some (LT tx nt q, M) := by
  obtain ⟨h1, h2, h3⟩ := h
  unfold f_X9_letterAt LT
  rw [h2]
  by_cases hlt : q < nt
  · rw [if_neg (by rw [nI_leI (by omega) (by omega)]; omega), grd_ok (inb_t (by omega) (by omega)), nI_clamp (by omega), if_pos hlt, h3 q hlt]
  · rw [if_pos (by rw [nI_leI (by omega) (by omega)]; omega), if_neg hlt]
def isF (x : Int32) : Bool := decide (48 ≤ x) && decide (x ≤ 57)
def fgv (x : Int32) : Nat := x.toNatClampNeg - 48
theorem isF_v {x : Int32} (h : isF x = true) : x = nI (48 + fgv x) ∧ fgv x ≤ 9 := by
  unfold isF at h
  rw [Bool.and_eq_true, decide_eq_true_eq, decide_eq_true_eq] at h
  have h0 : ¬ x < 0 := fun hh => absurd (Int32.lt_of_lt_of_le hh (show (0 : Int32) ≤ 48 by decide)) (Int32.not_lt.mpr h.1)
  obtain ⟨j, hj, rfl⟩ := nI_of h0
  rw [c_le hj (by decide), c_ge hj (by decide)] at h
  unfold fgv
  rw [nI_clamp hj]
  refine ⟨?_, by omega⟩
  congr 1
  omega
theorem cFig {C : FMem} {tx : Nat → Int32} {nt q : Nat} (h : TXc C tx nt) (hq : q < 2 ^ 30) : f_X4_isFigure (nI q) C = some (b2i (isF (LT tx nt q)), C) := by
  unfold f_X4_isFigure isF
  rw [cLetter h hq, bnd_ok]
  by_cases h1 : LT tx nt q < 48
  · rw [if_pos h1, decide_eq_false (Int32.not_le.mpr h1)]
    rfl
  · rw [if_neg h1, decide_eq_true (Int32.not_lt.mp h1)]
    by_cases h2 : 57 < LT tx nt q
    · rw [if_pos h2, decide_eq_false (Int32.not_le.mpr h2)]
      rfl
    · rw [if_neg h2, decide_eq_true (Int32.not_lt.mp h2)]
      rfl
theorem mFig (M : FMem) (x : Int32) : f_X9_isFigure x M = some (b2i (isF x), M) := by
  unfold f_X9_isFigure f_X9_in isF
  by_cases h1 : x < 48
  · rw [if_pos h1, decide_eq_false (Int32.not_le.mpr h1)]
    rfl
  · rw [if_neg h1, decide_eq_true (Int32.not_lt.mp h1)]
    by_cases h2 : 57 < x
    · rw [if_pos h2, decide_eq_false (Int32.not_le.mpr h2)]
      rfl
    · rw [if_neg h2, decide_eq_true (Int32.not_lt.mp h2)]
      rfl
def fgN (tx : Nat → Int32) (nt q : Nat) : Nat := if isF (LT tx nt q) = true then (if isF (LT tx nt (q + 1)) = true then (if isF (LT tx nt (q + 2)) = true then 3 else 2) else 1) else 0
theorem cFigs {C : FMem} {tx : Nat → Int32} {nt q : Nat} (h : TXc C tx nt) (hq : q < 2 ^ 20) : f_X4_figuresAt (nI q) C = some (nI (fgN tx nt q), C) := by
  obtain ⟨g, hg⟩ : ∃ g, FU = g + 4 := ⟨99996, rfl⟩
  unfold f_X4_figuresAt fgN
  rw [hg]
  show X4_figuresAt_b2s (X4_figuresAt_b2 (g + 3)) _ 0 C = _
  unfold X4_figuresAt_b2s
  rw [if_neg (by decide), Int32.add_zero, cFig h (by omega), bnd_ok]
  cases h1 : isF (LT tx nt q) with
  | false => rfl
  | true =>
    rw [if_neg (show ¬ b2i true = 0 by decide), if_pos rfl]
    show X4_figuresAt_b2s (X4_figuresAt_b2 (g + 2)) _ 1 C = _
    unfold X4_figuresAt_b2s
    rw [if_neg (by decide), nI_1, cFig h (by omega), bnd_ok]
    cases h2 : isF (LT tx nt (q + 1)) with
    | false => rfl
    | true =>
      rw [if_neg (show ¬ b2i true = 0 by decide), if_pos rfl]
      show X4_figuresAt_b2s (X4_figuresAt_b2 (g + 1)) _ 2 C = _
      unfold X4_figuresAt_b2s
      rw [if_neg (by decide), show nI q + 2 = nI (q + 2) from nI_add q 2, cFig h (by omega), bnd_ok]
      cases h3 : isF (LT tx nt (q + 2)) with
      | false => rfl
      | true =>
        rw [if_neg (show ¬ b2i true = 0 by decide), if_pos rfl]
        show X4_figuresAt_b2s (X4_figuresAt_b2 g) _ 3 C = _
        unfold X4_figuresAt_b2s
        rw [if_pos (by decide)]
        rfl
theorem dig (p a : Nat) : (10 : Int32) * nI p + nI (48 + a) - 48 = nI (10 * p + a) := by
  rw [show (10 : Int32) * nI p = nI (10 * p) from pk_mul 10 p, nI_add]
  have := pk_sub (a := 10 * p + (48 + a)) (b := 48) (by omega)
  rw [show (48 : Int32) = nI 48 from rfl, this]
  congr 1
  omega
theorem cNum1 {C : FMem} {tx : Nat → Int32} {nt q : Nat} (h : TXc C tx nt) (hq : q < 2 ^ 20) (h1 : isF (LT tx nt q) = true) : f_X4_numberAt (nI q) 1 C = some (nI (fgv (LT tx nt q)), C) := by
  obtain ⟨g, hg⟩ : ∃ g, FU = g + 2 := ⟨99998, rfl⟩
  unfold f_X4_numberAt
  rw [hg]
  show X4_numberAt_b5s (X4_numberAt_b5 (g + 1)) _ 1 (nI 0) 0 C = _
  unfold X4_numberAt_b5s
  rw [if_neg (by decide), Int32.add_zero, cLetter h (by omega), bnd_ok, (isF_v h1).1, dig, bindv_ok]
  show X4_numberAt_b5s (X4_numberAt_b5 g) _ 1 _ 1 C = _
  unfold X4_numberAt_b5s
  rw [if_pos (by decide), ← (isF_v h1).1]
  congr 2
  congr 1
  omega
theorem cNum2 {C : FMem} {tx : Nat → Int32} {nt q : Nat} (h : TXc C tx nt) (hq : q < 2 ^ 20) (h1 : isF (LT tx nt q) = true) (h2 : isF (LT tx nt (q + 1)) = true) : f_X4_numberAt (nI q) 2 C = some (nI (10 * fgv (LT tx nt q) + fgv (LT tx nt (q + 1))), C) := by
  obtain ⟨g, hg⟩ : ∃ g, FU = g + 3 := ⟨99997, rfl⟩
  unfold f_X4_numberAt
  rw [hg]
  show X4_numberAt_b5s (X4_numberAt_b5 (g + 2)) _ 2 (nI 0) 0 C = _
  unfold X4_numberAt_b5s
  have d1 := dig 0 (fgv (LT tx nt q))
  rw [← (isF_v h1).1, show 10 * 0 + fgv (LT tx nt q) = fgv (LT tx nt q) by omega] at d1
  rw [if_neg (by decide), Int32.add_zero, cLetter h (by omega), bnd_ok, d1, bindv_ok]
  show X4_numberAt_b5s (X4_numberAt_b5 (g + 1)) _ 2 _ 1 C = _
  unfold X4_numberAt_b5s
  have d2 := dig (fgv (LT tx nt q)) (fgv (LT tx nt (q + 1)))
  rw [← (isF_v h2).1] at d2
  rw [if_neg (by decide), nI_1, cLetter h (by omega), bnd_ok, d2, bindv_ok]
  show X4_numberAt_b5s (X4_numberAt_b5 g) _ 2 _ 2 C = _
  unfold X4_numberAt_b5s
  rw [if_pos (by decide)]
def pl1 (tx : Nat → Int32) (nt q : Nat) : Nat := if isF (LT tx nt (q + 1)) = true then 2 else 1
def pv1 (tx : Nat → Int32) (nt q : Nat) : Nat := if isF (LT tx nt (q + 1)) = true then 10 * fgv (LT tx nt q) + fgv (LT tx nt (q + 1)) else fgv (LT tx nt q)
def pnc (v : Nat) (o : Option (Nat × List Nat)) : Option (Nat × List Nat) := match o with
  | none => none
  | some r => some (r.1, v :: r.2)
def pn (tx : Nat → Int32) (nt : Nat) : Nat → Nat → Option (Nat × List Nat)
  | 0, q => some (q, [])
  | m + 1, q => if isF (LT tx nt q) = true then (if LT tx nt (q + pl1 tx nt q) = (if m = 0 then 59 else 44) then pnc (pv1 tx nt q) (pn tx nt m (q + pl1 tx nt q + 1)) else none) else none
theorem pn_ok (tx : Nat → Int32) (nt : Nat) : ∀ m q r, pn tx nt m q = some r → q + m ≤ r.1 ∧ (1 ≤ m → r.1 ≤ nt) ∧ ∀ j, j < m → r.2.getD j 0 ≤ 99 := by
  intro m
  induction m with
  | zero =>
    intro q r h
    cases h
    exact ⟨Nat.le_refl _, fun h => by omega, fun j hj => by omega⟩
  | succ m ih =>
    intro q r h
    unfold pn at h
    by_cases h1 : isF (LT tx nt q) = true
    · rw [if_pos h1] at h
      by_cases h2 : LT tx nt (q + pl1 tx nt q) = (if m = 0 then 59 else 44)
      · rw [if_pos h2] at h
        have hlt : q + pl1 tx nt q < nt := by
          refine Classical.byContradiction fun hno => ?_
          unfold LT at h2
          rw [if_neg hno] at h2
          split at h2 <;> exact absurd h2 (by decide)
        cases h3 : pn tx nt m (q + pl1 tx nt q + 1) with
        | none => rw [h3] at h; cases h
        | some s =>
          rw [h3] at h
          cases h
          obtain ⟨a, b, c⟩ := ih _ _ h3
          have hpl : 1 ≤ pl1 tx nt q := by unfold pl1; split <;> omega
          refine ⟨by show q + (m + 1) ≤ s.1; omega, fun _ => ?_, fun j hj => ?_⟩
          · show s.1 ≤ nt
            by_cases hm : m = 0
            · subst hm
              cases h3
              show q + pl1 tx nt q + 1 ≤ nt
              omega
            · exact b (by omega)
          · cases j with
            | zero =>
              show pv1 tx nt q ≤ 99
              have := (isF_v h1).2
              unfold pv1
              split
              · rename_i h4
                have := (isF_v h4).2
                omega
              · omega
            | succ j => exact c j (by omega)
      · rw [if_neg h2] at h; cases h
    · rw [if_neg h1] at h; cases h
def pnv (o : Option (Nat × List Nat)) : Int32 := match o with
  | none => -1
  | some r => nI r.1
theorem cNums (t : Nat) (ht : 3 ≤ t) {tx : Nat → Int32} {nt c : Nat} (hc : c ≤ 3) : ∀ (m i q f : Nat) (C : FMem), i + m = c → m < f → q + 4 * m < 2 ^ 19 → TXc C tx nt →
    ∃ C', X0_readNumbers_b14 t f (nI c) (nI q) (nI i) C = some (pnv (pn tx nt m q), C') ∧ (∀ j, j ≠ t + 8 → C' j = C j) ∧ (∀ j, j < i → C' (t + 8) j = C (t + 8) j) ∧ ∀ r, pn tx nt m q = some r → ∀ j, j < m → C' (t + 8) (i + j) = nI (r.2.getD j 0) := by
  intro m
  induction m with
  | zero =>
    intro i q f C hi hf hq h
    obtain ⟨g, rfl, -⟩ := fu_s hf
    refine ⟨C, ?_, fun _ _ => rfl, fun _ _ => rfl, fun r _ j hj => by omega⟩
    show X0_readNumbers_b14s t (X0_readNumbers_b14 t g) _ _ _ C = _
    unfold X0_readNumbers_b14s
    rw [if_pos (by rw [nI_leI (by omega) (by omega)]; omega)]
    rfl
  | succ m ih =>
    intro i q f C hi hf hq h
    obtain ⟨g, rfl, hg⟩ := fu_s hf
    show ∃ C', X0_readNumbers_b14s t (X0_readNumbers_b14 t g) _ _ _ C = _ ∧ _
    unfold X0_readNumbers_b14s
    have hfg3 : fgN tx nt q ≤ 3 := by unfold fgN; split; split; split <;> omega; omega; omega
    rw [if_neg (by rw [nI_leI (by omega) (by omega)]; omega), if_neg (by rw [c_le (by omega) (by omega)]; omega), if_neg (nI_pos (by omega)), cFigs h (by omega), bnd_ok, nI_add, cLetter h (by omega), bnd_ok]
    have hfail : pn tx nt (m + 1) q = none → ∃ C', some ((-1 : Int32), C) = some (pnv (pn tx nt (m + 1) q), C') ∧ (∀ j, j ≠ t + 8 → C' j = C j) ∧ (∀ j, j < i → C' (t + 8) j = C (t + 8) j) ∧ ∀ r, pn tx nt (m + 1) q = some r → ∀ j, j < m + 1 → C' (t + 8) (i + j) = nI (r.2.getD j 0) := fun e => by
      rw [e]
      exact ⟨C, rfl, fun _ _ => rfl, fun _ _ => rfl, fun r hr => by cases hr⟩
    cases h1 : isF (LT tx nt q) with
    | false =>
      have e0 : fgN tx nt q = 0 := by unfold fgN; rw [if_neg (by rw [h1]; decide)]
      rw [e0, if_pos (by decide)]
      refine hfail ?_
      unfold pn
      rw [if_neg (by rw [h1]; decide)]
    | true =>
      -- the sign behind the number
      have hsep : nI i = nI c - 1 ↔ m = 0 := by
        have : nI c - 1 = nI (c - 1) := pk_sub (show 1 ≤ c by omega)
        rw [this, nI_eq (by omega) (by omega)]
        omega
      have go : ∀ len : Nat, len = pl1 tx nt q → f_X4_numberAt (nI q) (nI len) C = some (nI (pv1 tx nt q), C) →
          ∃ C', (if nI i = nI c - 1 then X0_readNumbers_b83 t (X0_readNumbers_b14 t g) (nI c) (nI q) (nI i) (nI len) (LT tx nt (q + len)) 59 C else X0_readNumbers_b83 t (X0_readNumbers_b14 t g) (nI c) (nI q) (nI i) (nI len) (LT tx nt (q + len)) 44 C) = some (pnv (pn tx nt (m + 1) q), C') ∧ (∀ j, j ≠ t + 8 → C' j = C j) ∧ (∀ j, j < i → C' (t + 8) j = C (t + 8) j) ∧ ∀ r, pn tx nt (m + 1) q = some r → ∀ j, j < m + 1 → C' (t + 8) (i + j) = nI (r.2.getD j 0) := by
        intro len hlen hnum
        have hl2 : len ≤ 2 := by rw [hlen]; unfold pl1; split <;> omega
        have e1 : (if nI i = nI c - 1 then X0_readNumbers_b83 t (X0_readNumbers_b14 t g) (nI c) (nI q) (nI i) (nI len) (LT tx nt (q + len)) 59 C else X0_readNumbers_b83 t (X0_readNumbers_b14 t g) (nI c) (nI q) (nI i) (nI len) (LT tx nt (q + len)) 44 C) = X0_readNumbers_b83 t (X0_readNumbers_b14 t g) (nI c) (nI q) (nI i) (nI len) (LT tx nt (q + len)) (if m = 0 then 59 else 44) C := by
          by_cases hm : m = 0
          · rw [if_pos (hsep.mpr hm), if_pos hm]
          · rw [if_neg (fun hh => hm (hsep.mp hh)), if_neg hm]
        rw [e1]
        unfold X0_readNumbers_b83
        by_cases h2 : LT tx nt (q + len) = (if m = 0 then 59 else 44)
        · rw [if_pos h2, hnum, bnd_ok, grd_ok (inb_t (by omega) (by omega)), bindm_ok, nI_clamp (by omega), nI_1, nI_1, bindv_ok, nI_add]
          have ep : pn tx nt (m + 1) q = pnc (pv1 tx nt q) (pn tx nt m (q + len + 1)) := by
            rw [hlen] at h2 ⊢
            show (if isF (LT tx nt q) = true then _ else _) = _
            rw [if_pos h1, if_pos h2]
          obtain ⟨C', e2, a1, a2, a3⟩ := ih (i + 1) (q + len + 1) g (fset C (t + 8) i (nI (pv1 tx nt q))) (by omega) (by omega) (by omega) (h.mv (by rw [fset_eq, rset_ne _ _ (by omega)]) (by rw [fset_eq, rset_ne _ _ (by omega)]))
          rw [show q + (len + 1) = q + len + 1 by omega, e2, ep]
          refine ⟨C', ?_, fun j hj => by rw [a1 j hj, fset_eq, rset_ne _ _ hj], fun j hj => ?_, fun r hr j hj => ?_⟩
          · cases pn tx nt m (q + len + 1) <;> rfl
          · rw [a2 j (by omega), fset_eq, rset_same, upd_ne _ _ (by omega)]
          · cases h3 : pn tx nt m (q + len + 1) with
            | none => rw [h3] at hr; cases hr
            | some s =>
              rw [h3] at hr
              cases hr
              cases j with
              | zero =>
                show C' (t + 8) i = nI (pv1 tx nt q)
                rw [a2 i (by omega), fset_eq, rset_same, upd_same]
              | succ j =>
                have := a3 s h3 j (by omega)
                rw [show i + (j + 1) = i + 1 + j by omega, this]
                rfl
        · rw [if_neg h2]
          refine hfail ?_
          rw [hlen] at h2
          show (if isF (LT tx nt q) = true then _ else _) = _
          rw [if_pos h1, if_neg h2]
      cases h2 : isF (LT tx nt (q + 1)) with
      | false =>
        have e0 : fgN tx nt q = 1 := by unfold fgN; rw [if_pos h1, if_neg (by rw [h2]; decide)]
        have el : (1 : Nat) = pl1 tx nt q := by unfold pl1; rw [if_neg (by rw [h2]; decide)]
        have ev : pv1 tx nt q = fgv (LT tx nt q) := by unfold pv1; rw [if_neg (by rw [h2]; decide)]
        rw [e0, if_neg (by decide), if_neg (by decide)]
        exact go 1 el (by rw [ev]; exact cNum1 h (by omega) h1)
      | true =>
        have el : (2 : Nat) = pl1 tx nt q := by unfold pl1; rw [if_pos h2]
        have ev : pv1 tx nt q = 10 * fgv (LT tx nt q) + fgv (LT tx nt (q + 1)) := by unfold pv1; rw [if_pos h2]
        cases h3 : isF (LT tx nt (q + 2)) with
        | false =>
          have e0 : fgN tx nt q = 2 := by unfold fgN; rw [if_pos h1, if_pos h2, if_neg (by rw [h3]; decide)]
          rw [e0, if_neg (by decide), if_neg (by decide)]
          exact go 2 el (by rw [ev]; exact cNum2 h (by omega) h1 h2)
        | true =>
          have e0 : fgN tx nt q = 3 := by unfold fgN; rw [if_pos h1, if_pos h2, if_pos h3]
          rw [e0, if_neg (by decide), if_pos (by decide)]
          refine hfail ?_
          show (if isF (LT tx nt q) = true then _ else _) = _
          obtain ⟨v1, v2⟩ := isF_v h3
          rw [if_pos h1, if_neg (fun hh => ?_)]
          rw [← el, v1] at hh
          by_cases hm : m = 0
          · rw [if_pos hm, c_eq (by omega) (by decide)] at hh
            omega
          · rw [if_neg hm, c_eq (by omega) (by decide)] at hh
            omega
