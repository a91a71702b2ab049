/-! ===== a run through the days ===== -/
/-- one day: whether the bell goes; who is at which place then, how interested -/
def stp (np : Nat) (ln : Nat → Nat) (sd : Nat → Int32) (fd : Int32) (g : Nat → Int32) (q : Nat × Int32) : Bool × Nat × Int32 :=
  if sd (ln q.1) ≤ q.2 / fd + g (ln q.1) then (true, (if q.1 + 1 < np then q.1 + 1 else 0), 0) else (false, q.1, q.2 / fd + g (ln q.1))
def rn (np : Nat) (ln : Nat → Nat) (sd : Nat → Int32) (fd : Int32) (G : Nat → Nat → Int32) (q : Nat × Int32) : Nat → Nat × Int32
  | 0 => q
  | d + 1 => (stp np ln sd fd (G d) (rn np ln sd fd G q d)).2
def bl (np : Nat) (ln : Nat → Nat) (sd : Nat → Int32) (fd : Int32) (G : Nat → Nat → Int32) (q : Nat × Int32) (d : Nat) : Bool := (stp np ln sd fd (G d) (rn np ln sd fd G q d)).1
def b2i (b : Bool) : Int32 := if b = true then 1 else 0
theorem b2i_B (b : Bool) : isB (b2i b) = true := by cases b <;> decide
theorem b2i_0 {b : Bool} : b2i b = 0 ↔ b = false := by cases b <;> decide
theorem stp_lt {np : Nat} {ln : Nat → Nat} {sd : Nat → Int32} {fd : Int32} {g : Nat → Int32} {q : Nat × Int32} (h : q.1 < np) : (stp np ln sd fd g q).2.1 < np := by
  unfold stp
  by_cases h1 : sd (ln q.1) ≤ q.2 / fd + g (ln q.1)
  · rw [if_pos h1]
    show (if q.1 + 1 < np then q.1 + 1 else 0) < np
    by_cases h2 : q.1 + 1 < np
    · rw [if_pos h2]; exact h2
    · rw [if_neg h2]; omega
  · rw [if_neg h1]; exact h
theorem rn_lt {np : Nat} {ln : Nat → Nat} {sd : Nat → Int32} {fd : Int32} {G : Nat → Nat → Int32} {q : Nat × Int32} (h : q.1 < np) : ∀ d, (rn np ln sd fd G q d).1 < np := by
  intro d
  induction d with
  | zero => exact h
  | succ d ih => exact stp_lt ih
theorem stp_congr {np : Nat} {ln ln' : Nat → Nat} {sd sd' : Nat → Int32} {fd : Int32} {g g' : Nat → Int32} {q : Nat × Int32} (hq : q.1 < np) (hl : ∀ j, j < np → ln j = ln' j ∧ ln j < np) (hs : ∀ p, p < np → sd p = sd' p) (hg : ∀ p, p < np → g p = g' p) : stp np ln sd fd g q = stp np ln' sd' fd g' q := by
  unfold stp
  obtain ⟨h1, h2⟩ := hl _ hq
  rw [← h1, hs _ h2, hg _ h2]
theorem rn_congr {np : Nat} {ln ln' : Nat → Nat} {sd sd' : Nat → Int32} {fd : Int32} {G G' : Nat → Nat → Int32} {q : Nat × Int32} (hq : q.1 < np) (hl : ∀ j, j < np → ln j = ln' j ∧ ln j < np) (hs : ∀ p, p < np → sd p = sd' p) : ∀ n, (∀ d p, d < n → p < np → G d p = G' d p) → rn np ln sd fd G q n = rn np ln' sd' fd G' q n := by
  intro n
  induction n with
  | zero => intros; rfl
  | succ n ih =>
    intro h
    have e := ih (fun d p hd hp => h d p (by omega) hp)
    unfold rn
    rw [← e, stp_congr (rn_lt hq n) hl hs (fun p hp => h n p (by omega) hp)]
theorem bl_congr {np : Nat} {ln ln' : Nat → Nat} {sd sd' : Nat → Int32} {fd : Int32} {G G' : Nat → Nat → Int32} {q : Nat × Int32} (hq : q.1 < np) (hl : ∀ j, j < np → ln j = ln' j ∧ ln j < np) (hs : ∀ p, p < np → sd p = sd' p) (n : Nat) (h : ∀ d p, d < n + 1 → p < np → G d p = G' d p) : bl np ln sd fd G q n = bl np ln' sd' fd G' q n := by
  unfold bl
  rw [← rn_congr hq hl hs n (fun d p hd hp => h d p (by omega) hp), stp_congr (rn_lt hq n) hl hs (fun p hp => h n p (by omega) hp)]
/-! the class's reign -/
def fdOK (fd : Int32) : Prop := ∃ f, 1 ≤ f ∧ f ≤ 9 ∧ fd = nI f
theorem faded_ok (C : FMem) (hf : fdOK (C 12 5)) (I : Int32) : f_X0_faded 12 I C = some (I / C 12 5, C) := by
  obtain ⟨f, h1, h2, e⟩ := hf
  unfold f_X0_faded
  rw [e, if_neg (by rw [c_ge (by omega) (by omega)]; omega), grd_ok (by unfold nz; rw [decide_eq_true_eq]; exact nI_ne0 (by omega) (by omega))]
theorem standsOf_ok (C : FMem) {p : Nat} (hp : p < 6) : f_X0_standsOf 12 (nI p) C = some (C 15 p, C) := by
  unfold f_X0_standsOf
  rw [if_neg (nI_pos (by omega)), if_neg (by rw [c_le (by omega) (by omega)]; omega), grd_ok (inb_t (by omega) (by omega)), nI_clamp (by omega)]
/-- the gains as the class holds them: none beyond the days looked at -/
def gC (C : FMem) (hm : Nat) : Nat → Nat → Int32 := fun d p => if d < hm then C 97 (d * 6 + p) else 0
theorem e6 (d i : Nat) : nI d * 6 + nI i = nI (d * 6 + i) := by
  rw [show nI d * 6 = nI (d * 6) from pk_mul d 6]
  exact nI_add _ _
theorem gainOf_ok (C : FMem) {hm d p : Nat} (hh : hm ≤ 61) (h3 : C 94 3 = nI hm) (hp : p < 6) (hd : d < 2 ^ 30) : f_X2_gainOf (nI d) (nI p) C = some (gC C hm d p, C) := by
  unfold f_X2_gainOf gC
  by_cases h : d < hm
  · rw [isLooked_in C hh h3 h, bnd_ok, if_neg (by decide), isPlace_in C hp, bnd_ok, if_neg (by decide), e6, grd_ok (inb_t (by omega) (by omega)), nI_clamp (by omega), if_pos h]
  · rw [isLooked_out C hh h3 (by omega) (by omega), bnd_ok, if_pos rfl, if_neg h]
def RG (C : FMem) (np : Nat) (ln : Nat → Nat) (q : Nat × Int32) : Prop := C 98 3 = nI q.1 ∧ q.1 < np ∧ C 98 4 = q.2 ∧ ∀ j, j < np → C 99 j = nI (ln j) ∧ ln j < np
theorem reigning_ok {C : FMem} {np : Nat} {ln : Nat → Nat} {q : Nat × Int32} (hp : np ≤ 6) (h : RG C np ln q) : f_X3_reigning C = some (nI (ln q.1), C) := by
  obtain ⟨h1, h2, h3, h4⟩ := h
  unfold f_X3_reigning
  rw [h1, if_neg (nI_pos (by omega)), if_neg (by rw [c_le (by omega) (by omega)]; omega), grd_ok (inb_t (by omega) (by omega)), nI_clamp (by omega), (h4 _ h2).1]
theorem ringsOn_ok {C : FMem} {np hm d : Nat} {ln : Nat → Nat} {q : Nat × Int32} (hp : np ≤ 6) (hf : fdOK (C 12 5)) (hh : hm ≤ 61) (h3 : C 94 3 = nI hm) (hd : d < 2 ^ 30) (h : RG C np ln q) :
    f_X3_ringsOn (nI d) C = some (b2i (stp np ln (C 15) (C 12 5) (gC C hm d) q).1, fset C 98 4 (q.2 / C 12 5 + gC C hm d (ln q.1))) := by
  have hr := reigning_ok hp h
  obtain ⟨h1, h2, h4, h5⟩ := h
  have hl := (h5 _ h2).2
  unfold f_X3_ringsOn
  rw [hr, bnd_ok, h4, faded_ok C hf, bnd_ok, gainOf_ok C hh h3 (by omega) hd, bnd_ok, bindm_ok, standsOf_ok _ (by omega), bnd_ok, fset_at, fset_ne _ _ _ (by decide)]
  unfold stp
  by_cases hs : C 15 (ln q.1) ≤ q.2 / C 12 5 + gC C hm d (ln q.1)
  · rw [if_neg (Int32.not_lt.mpr hs), if_pos hs]; rfl
  · rw [if_pos (Int32.not_le.mp hs), if_neg hs]; rfl
theorem live_ok {C : FMem} {np hm d : Nat} {ln : Nat → Nat} {q : Nat × Int32} (hp : np ≤ 6) (hc : C 12 3 = nI np) (hf : fdOK (C 12 5)) (hh : hm ≤ 61) (h3 : C 94 3 = nI hm) (hd : d < 2 ^ 30) (h : RG C np ln q) :
    ∃ C', f_X3_live (nI d) C = some (b2i (stp np ln (C 15) (C 12 5) (gC C hm d) q).1, C') ∧ (∀ j, j ≠ 98 → C' j = C j) ∧ RG C' np ln (stp np ln (C 15) (C 12 5) (gC C hm d) q).2 := by
  unfold f_X3_live
  rw [ringsOn_ok hp hf hh h3 hd h, bnd_ok]
  obtain ⟨h1, h2, h4, h5⟩ := h
  unfold stp
  by_cases hs : C 15 (ln q.1) ≤ q.2 / C 12 5 + gC C hm d (ln q.1)
  · rw [if_pos hs, if_neg (by show ¬ b2i true = 0; decide)]
    unfold f_X3_change
    have e12 : fset C 98 4 (q.2 / C 12 5 + gC C hm d (ln q.1)) 12 3 = nI np := by rw [fset_ne _ _ _ (by decide)]; exact hc
    have e98 : fset C 98 4 (q.2 / C 12 5 + gC C hm d (ln q.1)) 98 3 = nI q.1 := by rw [fset_same, upd_ne _ _ (by decide)]; exact h1
    rw [e12, e98, nI_1]
    by_cases hw : q.1 + 1 < np
    · rw [if_neg (by rw [nI_leI (by omega) (by omega)]; omega), bindm_ok, bindm_ok, bnd_ok, grd_ok (b2i_B _)]
      refine ⟨_, rfl, fun j hj => by rw [fset_ne _ _ _ hj, fset_ne _ _ _ hj, fset_ne _ _ _ hj], ?_, ?_, ?_, fun j hj => ?_⟩
      · show _ = nI (if q.1 + 1 < np then q.1 + 1 else 0)
        rw [if_pos hw, fset_same, upd_ne _ _ (by decide), fset_same, upd_same]
      · show (if q.1 + 1 < np then q.1 + 1 else 0) < np
        rw [if_pos hw]; exact hw
      · exact fset_at _ _ _ _
      · rw [fset_ne _ _ _ (by decide), fset_ne _ _ _ (by decide), fset_ne _ _ _ (by decide)]
        exact h5 j hj
    · rw [if_pos (by rw [nI_leI (by omega) (by omega)]; omega), bindm_ok, bindm_ok, bnd_ok, grd_ok (b2i_B _)]
      refine ⟨_, rfl, fun j hj => by rw [fset_ne _ _ _ hj, fset_ne _ _ _ hj, fset_ne _ _ _ hj], ?_, ?_, ?_, fun j hj => ?_⟩
      · show _ = nI (if q.1 + 1 < np then q.1 + 1 else 0)
        rw [if_neg hw, fset_same, upd_ne _ _ (by decide), fset_same, upd_same]; rfl
      · show (if q.1 + 1 < np then q.1 + 1 else 0) < np
        rw [if_neg hw]; omega
      · exact fset_at _ _ _ _
      · rw [fset_ne _ _ _ (by decide), fset_ne _ _ _ (by decide), fset_ne _ _ _ (by decide)]
        exact h5 j hj
  · rw [if_neg hs, if_pos (by show b2i false = 0; decide), grd_ok (b2i_B _)]
    refine ⟨_, rfl, fun j hj => fset_ne _ _ _ hj, ?_, h2, fset_at _ _ _ _, fun j hj => ?_⟩
    · show fset C 98 4 _ 98 3 = nI q.1
      rw [fset_same, upd_ne _ _ (by decide)]; exact h1
    · rw [fset_ne _ _ _ (by decide)]; exact h5 j hj
theorem lineUp_loop (C : FMem) : ∀ (m k f : Nat) (Mk : FMem), k + m = 6 → m < f → (∀ j, j ≠ 99 → Mk j = C j) → (∀ q, q < k → Mk 99 q = nI q) → ∃ M', X3_lineUp_b2 f (nI k) Mk = some (0, M') ∧ (∀ j, j ≠ 99 → M' j = C j) ∧ ∀ q, q < 6 → M' 99 q = nI q := by
  intro m
  induction m with
  | zero =>
    intro k f Mk hk hf h1 h2
    obtain ⟨g, rfl, -⟩ := fu_s hf
    have hk : k = 6 := by omega
    subst hk
    exact ⟨Mk, rfl, h1, h2⟩
  | succ m ih =>
    intro k f Mk hk hf h1 h2
    obtain ⟨g, rfl, hg⟩ := fu_s hf
    obtain ⟨M', e, r⟩ := ih (k + 1) g (fset Mk 99 k (nI k)) (by omega) (by omega) (fun j hj => by rw [fset_ne _ _ _ hj, h1 j hj]) (fun q hq => by
      rw [fset_same]
      by_cases h : q = k
      · rw [h, upd_same]
      · rw [upd_ne _ _ h]; exact h2 q (by omega))
    refine ⟨M', ?_, r⟩
    show X3_lineUp_b2s (X3_lineUp_b2 g) _ Mk = _
    unfold X3_lineUp_b2s
    rw [if_neg (by rw [c_le (by omega) (by omega)]; omega), grd_ok (inb_t (by omega) (by omega)), bindm_ok, nI_clamp (by omega), nI_1]
    exact e
theorem lineUp_ok (C : FMem) : ∃ M', f_X3_lineUp C = some (0, M') ∧ (∀ j, j ≠ 99 → M' j = C j) ∧ ∀ q, q < 6 → M' 99 q = nI q :=
  lineUp_loop C 6 0 FU C rfl (FU_gt (by decide)) (fun _ _ => rfl) (fun _ h => by omega)
theorem start_ok (C : FMem) {np K : Nat} (hp : np ≤ 6) (hK : K < np) (h1 : C 21 1 = nI K) : ∃ C', f_X3_start C = some (0, C') ∧ (∀ j, j ≠ 98 → j ≠ 99 → C' j = C j) ∧ RG C' np id (K, C 21 2) := by
  obtain ⟨M1, e1, a1, b1⟩ := lineUp_ok C
  unfold f_X3_start
  rw [e1, bnd_ok, bindm_ok, bindm_ok]
  refine ⟨_, rfl, fun j j1 j2 => by rw [fset_ne _ _ _ j1, fset_ne _ _ _ j1, a1 j j2], ?_, hK, ?_, fun j hj => ⟨?_, hj⟩⟩
  · rw [fset_same, upd_ne _ _ (by decide), fset_same, upd_same, a1 21 (by decide)]; exact h1
  · rw [fset_at, fset_ne _ _ _ (by decide), a1 21 (by decide)]
  · rw [fset_ne _ _ _ (by decide), fset_ne _ _ _ (by decide)]; exact b1 j (by omega)
theorem startFirst_ok (C : FMem) {np : Nat} (hp : np ≤ 6) (hK : 0 < np) : ∃ C', f_X3_startFirst C = some (0, C') ∧ (∀ j, j ≠ 98 → j ≠ 99 → C' j = C j) ∧ RG C' np id (0, 0) := by
  obtain ⟨M1, e1, a1, b1⟩ := lineUp_ok C
  unfold f_X3_startFirst
  rw [e1, bnd_ok, bindm_ok, bindm_ok]
  refine ⟨_, rfl, fun j j1 j2 => by rw [fset_ne _ _ _ j1, fset_ne _ _ _ j1, a1 j j2], ?_, hK, ?_, fun j hj => ⟨?_, hj⟩⟩
  · rw [fset_same, upd_ne _ _ (by decide), fset_same, upd_same]; rfl
  · rw [fset_at]
  · rw [fset_ne _ _ _ (by decide), fset_ne _ _ _ (by decide)]; exact b1 j (by omega)
theorem startLine_ok (C : FMem) {np K : Nat} {ln : Nat → Nat} (hp : np ≤ 6) (hK : K < np) (h1 : C 21 1 = nI K) (hl : ∀ j, j < np → C 99 j = nI (ln j) ∧ ln j < np) : ∃ C', f_X3_startLine C = some (0, C') ∧ (∀ j, j ≠ 98 → C' j = C j) ∧ RG C' np ln (0, if ln 0 = K then C 21 2 else 0) := by
  unfold f_X3_startLine
  rw [bindm_ok]
  have e0 : f_X3_reigning (fset C 98 3 0) = some (nI (ln 0), fset C 98 3 0) :=
    reigning_ok (q := (0, C 98 4)) hp ⟨by rw [fset_at]; rfl, by show 0 < np; omega, by rw [fset_same, upd_ne _ _ (by decide)], fun j hj => by rw [fset_ne _ _ _ (by decide)]; exact hl j hj⟩
  rw [e0, bnd_ok, fset_ne _ _ _ (by decide), h1]
  have hl0 := (hl 0 (by omega)).2
  by_cases h : ln 0 = K
  · rw [if_pos (by rw [h]), bindm_ok, if_pos h]
    refine ⟨_, rfl, fun j hj => by rw [fset_ne _ _ _ hj, fset_ne _ _ _ hj], ?_, by show 0 < np; omega, fset_at _ _ _ _, fun j hj => ?_⟩
    · rw [fset_same, upd_ne _ _ (by decide), fset_at]; rfl
    · rw [fset_ne _ _ _ (by decide), fset_ne _ _ _ (by decide)]; exact hl j hj
  · rw [if_neg (by rw [nI_eq (by omega) (by omega)]; exact h), bindm_ok, if_neg h]
    refine ⟨_, rfl, fun j hj => by rw [fset_ne _ _ _ hj, fset_ne _ _ _ hj], ?_, by show 0 < np; omega, fset_at _ _ _ _, fun j hj => ?_⟩
    · rw [fset_same, upd_ne _ _ (by decide), fset_at]; rfl
    · rw [fset_ne _ _ _ (by decide), fset_ne _ _ _ (by decide)]; exact hl j hj
