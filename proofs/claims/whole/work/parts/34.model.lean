/-! ===== the reference's days, by the same run ===== -/
def prD (dy : Nat → Int32) (day hid : Int32) : Nat → Bool := fun k => decide (dy k = day) && !(bt hid k)
/-- what a day brings person p, by the reference: with one thing more (mt topics, ms strong; none if ms is 0 or less) -/
def gM (kd ts : Nat → Int32) (n : Nat) (hid : Int32) (dy tp sg : Nat → Int32) (mt ms day : Int32) (p : Nat) : Int32 :=
  if ms ≤ 0 then (gp (prD dy day hid) (kd p) (ts p) day tp sg n).1 else (gp (prD dy day hid) (kd p) (ts p) day tp sg n).1 + cbv (kd p) (ts p) mt ms (gp (prD dy day hid) (kd p) (ts p) day tp sg n).2 day
def kdM (M : FMem) : Nat → Int32 := fun p => M 1 (3 * p)
def tsM (M : FMem) : Nat → Int32 := fun p => M 1 (3 * p + 1)
def sdM (M : FMem) : Nat → Int32 := fun p => M 1 (3 * p + 2)
def NWr (N : Nat → Int32) (np : Nat) (ln : Nat → Nat) (q : Nat × Int32) (day : Int32) (n : Nat) (hid : Int32) (dy tp sg : Nat → Int32) : Prop :=
  N 0 = day ∧ N 1 = q.2 ∧ N 2 = nI n ∧ N 3 = hid ∧ (∀ j, j < np → N (4 + j) = nI (ln ((q.1 + j) % np))) ∧ ∀ k, k < n → N (16 + 3 * k) = dy k ∧ N (16 + 3 * k + 1) = tp k ∧ N (16 + 3 * k + 2) = sg k
theorem wrap_mod {a np : Nat} (h : a < np) : (if a + 1 < np then a + 1 else 0) = (a + 1) % np := by
  by_cases h2 : a + 1 < np
  · rw [if_pos h2, Nat.mod_eq_of_lt h2]
  · rw [if_neg h2, show a + 1 = np by omega, Nat.mod_self]
theorem cmV_gM {M : FMem} {N : Nat → Int32} {np n : Nat} {ln : Nat → Nat} {q : Nat × Int32} {day hid : Int32} {dy tp sg : Nat → Int32} (h : NWr N np ln q day n hid dy tp sg) (i : Nat) (v : Int32) : cmV M N i n v = v + gM (kdM M) (tsM M) n hid dy tp sg (M 0 20) (M 0 21) day i := by
  obtain ⟨h0, h1, h2, h3, h4, h5⟩ := h
  have e : cmG M N i n = gp (prD dy day hid) (kdM M i) (tsM M i) day tp sg n := by
    unfold cmG
    rw [h0]
    refine gp_congr n (fun k hk => ?_) (fun k hk _ => (h5 k hk).2.1) (fun k hk _ => (h5 k hk).2.2)
    unfold prM prD
    rw [(h5 k hk).1, h0, h3]
  unfold cmV gM
  rw [e, h0]
  by_cases hm : M 0 21 ≤ 0
  · rw [if_pos hm, if_pos hm]
  · rw [if_neg hm, if_neg hm, Int32.add_assoc]; rfl
theorem gN_0 (N : Nat → Int32) {np i : Nat} (hp : 1 ≤ np) (b : Bool) (v : Int32) : gN N np i b v 0 = N 0 + 1 := by
  unfold gN
  cases b with
  | true => rw [if_pos rfl, upd_ne _ _ (by omega)]; unfold gR; rw [if_neg (by omega)]; exact upd_same _ _ _
  | false => rw [if_neg (by decide)]; exact upd_same _ _ _
theorem gN_1 (N : Nat → Int32) {np i : Nat} (hp : 1 ≤ np) (b : Bool) (v : Int32) : gN N np i b v 1 = if b = true then 0 else v := by
  unfold gN
  cases b with
  | true => rw [if_pos rfl, upd_ne _ _ (by omega)]; unfold gR gB; rw [if_neg (by omega), upd_ne _ _ (by decide), upd_same]; rfl
  | false => rw [if_neg (by decide)]; unfold gB; rw [upd_ne _ _ (by decide), upd_same]; rfl
theorem gN_far (N : Nat → Int32) {np i j : Nat} (hp1 : 1 ≤ np) (hp : np ≤ 6) (hi : i < 6) (b : Bool) (v : Int32) (hj : j = 2 ∨ j = 3 ∨ 16 ≤ j) : gN N np i b v j = N j := by
  have hB : ∀ z, gB N i z j = N j := fun z => by unfold gB; rw [upd_ne _ _ (by omega), upd_ne _ _ (by omega), upd_ne _ _ (by omega)]
  unfold gN
  cases b with
  | true => rw [if_pos rfl, upd_ne _ _ (by omega)]; unfold gR; rw [if_neg (by omega), hB]
  | false => rw [if_neg (by decide), hB]
theorem gN_reigned (N : Nat → Int32) {np i j : Nat} (hp1 : 1 ≤ np) (hp : np ≤ 6) (hi : i < 6) (hj : j < 6) (b : Bool) (v : Int32) : gN N np i b v (10 + j) = if j = i then N (10 + j) + 1 else N (10 + j) := by
  have hB : ∀ z, gB N i z (10 + j) = if j = i then N (10 + j) + 1 else N (10 + j) := fun z => by
    unfold gB
    rw [upd_ne _ _ (by omega), upd_ne _ _ (by omega)]
    by_cases h : j = i
    · rw [if_pos h, h, upd_same]
    · rw [if_neg h, upd_ne _ _ (by omega)]
  unfold gN
  cases b with
  | true => rw [if_pos rfl, upd_ne _ _ (by omega)]; unfold gR; rw [if_neg (by omega), hB]
  | false => rw [if_neg (by decide), hB]
theorem gN_gal (N : Nat → Int32) {np i j : Nat} (hp : np ≤ 6) (hi : i < 6) (hj : j < np) (b : Bool) (v : Int32) : gN N np i b v (4 + j) = if b = true then (if j + 1 < np then N (4 + (j + 1)) else nI i) else N (4 + j) := by
  have hB : ∀ z x, 4 ≤ x → x < 10 → gB N i z x = N x := fun z x h1 h2 => by unfold gB; rw [upd_ne _ _ (by omega), upd_ne _ _ (by omega), upd_ne _ _ (by omega)]
  unfold gN
  cases b with
  | true =>
    rw [if_pos rfl, if_pos rfl]
    by_cases h : j + 1 < np
    · rw [if_pos h, upd_ne _ _ (by omega)]
      unfold gR
      rw [if_pos (by omega), hB _ _ (by omega) (by omega), show 4 + j + 1 = 4 + (j + 1) by omega]
    · rw [if_neg h, show 4 + j = 3 + np by omega, upd_same]
  | false => rw [if_neg (by decide), if_neg (by decide), hB _ _ (by omega) (by omega)]
theorem goes_ok {M : FMem} {np n : Nat} {ln : Nat → Nat} {q : Nat × Int32} {day hid : Int32} {dy tp sg : Nat → Int32} (hp1 : 1 ≤ np) (hp : np ≤ 6) (hn : n ≤ 10) (hM : M 0 0 = nI np) (hf : ¬ M 0 2 = 0) (hq : q.1 < np) (hln : ∀ j, j < np → ln j < np) (h : NWr (M 11) np ln q day n hid dy tp sg) :
    ∃ N', f_X9_goes M = some (b2i (stp np ln (sdM M) (M 0 2) (gM (kdM M) (tsM M) n hid dy tp sg (M 0 20) (M 0 21) day) q).1, rset M 11 N') ∧ NWr N' np ln (stp np ln (sdM M) (M 0 2) (gM (kdM M) (tsM M) n hid dy tp sg (M 0 20) (M 0 21) day) q).2 (day + 1) n hid dy tp sg ∧
      ∀ i, i < 6 → N' (10 + i) = if i = ln q.1 then M 11 (10 + i) + 1 else M 11 (10 + i) := by
  have hi := hln _ hq
  have h' := h
  obtain ⟨h0, h1, h2, h3, h4, h5⟩ := h
  have hk : M 11 4 = nI (ln q.1) := by
    have := h4 0 (by omega)
    rwa [Nat.add_zero, Nat.add_zero, Nat.mod_eq_of_lt hq] at this
  have hg := X9_goes_ok M (i := ln q.1) (n := n) (np := np) (by omega) hn hp1 hp hM h2 hf hk
  rw [cmV_gM h', h1] at hg
  generalize gM (kdM M) (tsM M) n hid dy tp sg (M 0 20) (M 0 21) day = g at hg ⊢
  refine ⟨gN (M 11) np (ln q.1) (decide (M 1 (3 * ln q.1 + 2) ≤ q.2 / M 0 2 + g (ln q.1))) (q.2 / M 0 2 + g (ln q.1)), hg.trans ?_, ⟨?_, ?_, ?_, ?_, fun j hj => ?_, fun k hk => ?_⟩, fun i hi6 => ?_⟩
  · unfold stp sdM b2i
    by_cases hs : M 1 (3 * ln q.1 + 2) ≤ q.2 / M 0 2 + g (ln q.1)
    · rw [if_pos hs, if_pos hs, if_pos rfl]
    · rw [if_neg hs, if_neg hs, if_neg (show ¬ false = true by decide)]
  · rw [gN_0 _ hp1, h0]
  · rw [gN_1 _ hp1]
    unfold stp sdM
    by_cases hs : M 1 (3 * ln q.1 + 2) ≤ q.2 / M 0 2 + g (ln q.1)
    · rw [if_pos hs, if_pos (by simp [hs])]
    · rw [if_neg hs, if_neg (by simp [hs])]
  · rw [gN_far _ hp1 hp (by omega) _ _ (by omega), h2]
  · rw [gN_far _ hp1 hp (by omega) _ _ (by omega), h3]
  · rw [gN_gal _ hp (by omega) hj]
    unfold stp sdM
    by_cases hs : M 1 (3 * ln q.1 + 2) ≤ q.2 / M 0 2 + g (ln q.1)
    · rw [if_pos hs, if_pos (by simp [hs])]
      show _ = nI (ln (((if q.1 + 1 < np then q.1 + 1 else 0) + j) % np))
      rw [wrap_mod hq, Nat.mod_add_mod]
      by_cases hj1 : j + 1 < np
      · rw [if_pos hj1, h4 _ hj1, show q.1 + (j + 1) = q.1 + 1 + j by omega]
      · rw [if_neg hj1, show q.1 + 1 + j = q.1 + np by omega, Nat.add_mod_right, Nat.mod_eq_of_lt hq]
    · rw [if_neg hs, if_neg (by simp [hs]), h4 _ hj]
  · rw [gN_far _ hp1 hp (by omega) _ _ (by omega), gN_far _ hp1 hp (by omega) _ _ (by omega), gN_far _ hp1 hp (by omega) _ _ (by omega)]
    exact h5 k hk
  · rw [gN_reigned _ hp1 hp (by omega) hi6]
/-! copying rows -/
theorem X9_put_loop (u n u2 n2 : Nat) (hne : u2 ≠ u) (M : FMem) {a c : Nat} (h1 : c ≤ n2) (h2 : a + c ≤ n) (hs : n < 2 ^ 30) : ∀ (m k f : Nat) (Mk : FMem), k + m = c → m < f → (∀ j, j ≠ u → Mk j = M j) → (∀ q, q < k → Mk u (a + q) = M u2 q) → (∀ q, (q < a ∨ a + k ≤ q) → Mk u q = M u q) →
    ∃ M', X9_put_b3 u n u2 n2 f (nI a) (nI c) (nI k) Mk = some (0, M') ∧ (∀ j, j ≠ u → M' j = M j) ∧ (∀ q, q < c → M' u (a + q) = M u2 q) ∧ ∀ q, (q < a ∨ a + c ≤ q) → M' u q = M u q := by
  intro m
  induction m with
  | zero =>
    intro k f Mk hk hf g1 g2 g3
    obtain ⟨g, rfl, -⟩ := fu_s hf
    have hk : k = c := by omega
    subst hk
    refine ⟨Mk, ?_, g1, g2, g3⟩
    show X9_put_b3s u n u2 n2 (X9_put_b3 u n u2 n2 g) _ _ _ Mk = _
    unfold X9_put_b3s
    rw [if_pos (Int32.le_refl _)]
  | succ m ih =>
    intro k f Mk hk hf g1 g2 g3
    obtain ⟨g, rfl, hg⟩ := fu_s hf
    obtain ⟨M', e, r⟩ := ih (k + 1) g (fset Mk u (a + k) (M u2 k)) (by omega) (by omega) (fun j hj => by rw [fset_ne _ _ _ hj, g1 j hj]) (fun q hq => by
      rw [fset_same]
      by_cases h : q = k
      · rw [h, upd_same]
      · rw [upd_ne _ _ (by omega)]; exact g2 q (by omega)) (fun q hq => by
      rw [fset_same, upd_ne _ _ (by omega)]
      exact g3 q (by omega))
    refine ⟨M', ?_, r⟩
    show X9_put_b3s u n u2 n2 (X9_put_b3 u n u2 n2 g) _ _ _ Mk = _
    unfold X9_put_b3s
    rw [if_neg (by rw [nI_leI (by omega) (by omega)]; omega), grd_ok (inb_t (by omega) (by omega)), nI_add, grd_ok (inb_t (by omega) (by omega)), bindm_ok, nI_clamp (by omega), nI_clamp (by omega), g1 u2 hne, nI_1]
    exact e
theorem X9_put_ok (u n u2 n2 : Nat) (hne : u2 ≠ u) (M : FMem) {a c : Nat} (h1 : c ≤ n2) (h2 : a + c ≤ n) (hs : n < 90000) : ∃ M', f_X9_put u n u2 n2 (nI a) (nI c) M = some (0, M') ∧ (∀ j, j ≠ u → M' j = M j) ∧ (∀ q, q < c → M' u (a + q) = M u2 q) ∧ ∀ q, (q < a ∨ a + c ≤ q) → M' u q = M u q :=
  X9_put_loop u n u2 n2 hne M h1 h2 (by omega) c 0 FU M (by omega) (FU_gt (by omega)) (fun _ _ => rfl) (fun _ h => by omega) (fun _ _ => rfl)
theorem X9_from_ok (u : Nat) (hu : u = 2 ∨ u = 3) (M : FMem) : ∃ M', f_X9_from u M = some (0, M') ∧ (∀ j, j ≠ 0 → j ≠ 11 → M' j = M j) ∧ (∀ q, q < 46 → M' 11 q = M u q) ∧ (∀ k, k ≠ 21 → M' 0 k = M 0 k) ∧ M' 0 21 = 0 := by
  obtain ⟨M1, e1, a1, b1, -⟩ := X9_put_ok 11 46 u 46 (by omega) M (a := 0) (c := 46) (by decide) (by decide) (by decide)
  unfold f_X9_from
  have e1' : f_X9_put 11 46 u 46 0 46 M = some (0, M1) := e1
  rw [e1', bnd_ok, bindm_ok]
  refine ⟨_, rfl, fun j h1 h2 => by rw [fset_ne _ _ _ h1, a1 j h2], fun q hq => ?_, fun k hk => ?_, fset_at _ _ _ _⟩
  · rw [fset_ne _ _ _ (by decide)]
    have := b1 q hq
    rwa [Nat.zero_add] at this
  · rw [fset_same, upd_ne _ _ hk, a1 0 (by decide)]
/-- how often, up to a day -/
def bc (b : Nat → Bool) : Nat → Nat
  | 0 => 0
  | d + 1 => if b d = true then bc b d + 1 else bc b d
theorem bc_le (b : Nat → Bool) : ∀ n, bc b n ≤ n := by
  intro n
  induction n with
  | zero => exact Nat.le_refl _
  | succ n ih => unfold bc; split <;> omega
theorem bc_congr {b b' : Nat → Bool} : ∀ n, (∀ d, d < n → b d = b' d) → bc b n = bc b' n := by
  intro n
  induction n with
  | zero => intros; rfl
  | succ n ih => intro h; unfold bc; rw [ih (fun d hd => h d (by omega)), h n (by omega)]
theorem nI_day (x : Int32) (d : Nat) : x + nI d + 1 = x + nI (d + 1) := by rw [Int32.add_assoc, nI_1]
/-- what a run of the reference stands on -/
def MoOK (M : FMem) (np n : Nat) (ln : Nat → Nat) : Prop := 1 ≤ np ∧ np ≤ 6 ∧ n ≤ 10 ∧ M 0 0 = nI np ∧ ¬ M 0 2 = 0 ∧ ∀ j, j < np → ln j < np
theorem MoOK.row {M : FMem} {np n : Nat} {ln : Nat → Nat} (h : MoOK M np n ln) (N : Nat → Int32) : MoOK (rset M 11 N) np n ln := by
  unfold MoOK
  rw [rset_ne _ _ (by decide)]
  exact h
/-- the gains of the days from day0 on, with the reference's standing thing more -/
def GM (M : FMem) (n : Nat) (hid : Int32) (dy tp sg : Nat → Int32) (day0 : Int32) : Nat → Nat → Int32 := fun d => gM (kdM M) (tsM M) n hid dy tp sg (M 0 20) (M 0 21) (day0 + nI d)
theorem goes_run {M : FMem} {np n : Nat} {ln : Nat → Nat} {q : Nat × Int32} {day0 hid : Int32} {dy tp sg : Nat → Int32} (hO : MoOK M np n ln) (hq : q.1 < np) (d : Nat) (N : Nat → Int32) (h : NWr N np ln (rn np ln (sdM M) (M 0 2) (GM M n hid dy tp sg day0) q d) (day0 + nI d) n hid dy tp sg) :
    ∃ N', f_X9_goes (rset M 11 N) = some (b2i (bl np ln (sdM M) (M 0 2) (GM M n hid dy tp sg day0) q d), rset M 11 N') ∧ NWr N' np ln (rn np ln (sdM M) (M 0 2) (GM M n hid dy tp sg day0) q (d + 1)) (day0 + nI (d + 1)) n hid dy tp sg ∧
      ∀ i, i < 6 → N' (10 + i) = if i = ln (rn np ln (sdM M) (M 0 2) (GM M n hid dy tp sg day0) q d).1 then N (10 + i) + 1 else N (10 + i) := by
  obtain ⟨hp1, hp, hn, hM, hf, hln⟩ := hO
  have e0 : rset M 11 N 0 = M 0 := rset_ne _ _ (by decide)
  have e1 : rset M 11 N 1 = M 1 := rset_ne _ _ (by decide)
  have h0 := goes_ok (M := rset M 11 N) (np := np) (n := n) (ln := ln) (q := rn np ln (sdM M) (M 0 2) (GM M n hid dy tp sg day0) q d) (day := day0 + nI d) (hid := hid) (dy := dy) (tp := tp) (sg := sg) hp1 hp hn (by rw [e0]; exact hM) (by rw [e0]; exact hf) (rn_lt hq d) hln (by rw [rset_same]; exact h)
  have e2 : sdM (rset M 11 N) = sdM M := by unfold sdM; rw [e1]
  have e3 : kdM (rset M 11 N) = kdM M := by unfold kdM; rw [e1]
  have e4 : tsM (rset M 11 N) = tsM M := by unfold tsM; rw [e1]
  rw [e0, e2, e3, e4] at h0
  obtain ⟨N', g1, g2, g3⟩ := h0
  rw [rset_rset] at g1
  rw [nI_day] at g2
  rw [rset_same] at g3
  exact ⟨N', g1, g2, g3⟩
/-- n days: how often the bell went, and where the run stands -/
theorem goesOn_loop {M : FMem} {np n : Nat} {ln : Nat → Nat} {q : Nat × Int32} {day0 hid : Int32} {dy tp sg : Nat → Int32} (hO : MoOK M np n ln) (hq : q.1 < np) {c : Nat} (hc : c < 2 ^ 30) : ∀ (m d f : Nat) (N : Nat → Int32), d + m = c → m < f → NWr N np ln (rn np ln (sdM M) (M 0 2) (GM M n hid dy tp sg day0) q d) (day0 + nI d) n hid dy tp sg →
    ∃ N', X9_goesOn_b4 f (nI c) (nI (bc (bl np ln (sdM M) (M 0 2) (GM M n hid dy tp sg day0) q) d)) (nI d) (rset M 11 N) = some (nI (bc (bl np ln (sdM M) (M 0 2) (GM M n hid dy tp sg day0) q) c), rset M 11 N') ∧ NWr N' np ln (rn np ln (sdM M) (M 0 2) (GM M n hid dy tp sg day0) q c) (day0 + nI c) n hid dy tp sg ∧
      ∀ i, i < 6 → N' (10 + i) = N (10 + i) + nI (bc (fun e => decide (i = ln (rn np ln (sdM M) (M 0 2) (GM M n hid dy tp sg day0) q (d + e)).1)) m) := by
  intro m
  induction m with
  | zero =>
    intro d f N hd hf h
    obtain ⟨g, rfl, -⟩ := fu_s hf
    have hd : d = c := by omega
    subst hd
    refine ⟨N, ?_, h, fun i _ => (Int32.add_zero _).symm⟩
    show X9_goesOn_b4s (X9_goesOn_b4 g) _ _ _ _ = _
    unfold X9_goesOn_b4s
    rw [if_pos (Int32.le_refl _)]
  | succ m ih =>
    intro d f N hd hf h
    obtain ⟨g, rfl, hg⟩ := fu_s hf
    obtain ⟨N1, e1, a1, b1⟩ := goes_run hO hq d N h
    obtain ⟨N', e, r, s⟩ := ih (d + 1) g N1 (by omega) (by omega) a1
    refine ⟨N', ?_, r, fun i hi => ?_⟩
    · show X9_goesOn_b4s (X9_goesOn_b4 g) _ _ _ _ = _
      unfold X9_goesOn_b4s
      rw [if_neg (by rw [nI_leI (by omega) (by omega)]; omega), e1, bnd_ok]
      unfold X9_goesOn_b22
      have ebc : bc (bl np ln (sdM M) (M 0 2) (GM M n hid dy tp sg day0) q) (d + 1) = if bl np ln (sdM M) (M 0 2) (GM M n hid dy tp sg day0) q d = true then bc (bl np ln (sdM M) (M 0 2) (GM M n hid dy tp sg day0) q) d + 1 else bc (bl np ln (sdM M) (M 0 2) (GM M n hid dy tp sg day0) q) d := rfl
      rw [ebc] at e
      rw [nI_1]
      by_cases hb : bl np ln (sdM M) (M 0 2) (GM M n hid dy tp sg day0) q d = true
      · rw [if_pos hb] at e
        rw [hb, if_neg (by decide), bindv_ok, nI_1]
        exact e
      · rw [if_neg hb] at e
        rw [Bool.not_eq_true _ |>.mp hb, if_pos (by decide), bindv_ok, Int32.add_zero]
        exact e
    · rw [s i hi, b1 i hi]
      have eb : ∀ (P : Nat → Bool) (m : Nat), bc P (m + 1) = (if P 0 = true then 1 else 0) + bc (fun e => P (e + 1)) m := by
        intro P m
        induction m with
        | zero => unfold bc; unfold bc; rfl
        | succ m ihm =>
          show (if P (m + 1) = true then bc P (m + 1) + 1 else bc P (m + 1)) = _
          rw [ihm]
          show _ = _ + (if P (m + 1) = true then _ + 1 else _)
          by_cases hP : P (m + 1) = true
          · rw [if_pos hP, if_pos hP]; omega
          · rw [if_neg hP, if_neg hP]
      rw [eb, Nat.add_zero]
      have e2 : (fun e => decide (i = ln (rn np ln (sdM M) (M 0 2) (GM M n hid dy tp sg day0) q (d + 1 + e)).1)) = (fun e => decide (i = ln (rn np ln (sdM M) (M 0 2) (GM M n hid dy tp sg day0) q (d + (e + 1))).1)) := by
        funext e
        rw [show d + 1 + e = d + (e + 1) by omega]
      rw [e2]
      by_cases hi2 : i = ln (rn np ln (sdM M) (M 0 2) (GM M n hid dy tp sg day0) q d).1
      · rw [if_pos hi2, if_pos (by simp [hi2]), ← nI_add, Int32.add_assoc]; rfl
      · rw [if_neg hi2, if_neg (by simp [hi2]), Nat.zero_add]
