theorem rset_self (M : FMem) (i : Nat) : rset M i (M i) = M := by
  funext j
  unfold rset
  by_cases h : j = i
  · rw [if_pos h, h]
  · rw [if_neg h]
theorem goes_stepR {M : FMem} {np n : Nat} {ln : Nat → Nat} {sd : Nat → Int32} {fd : Int32} {G : Nat → Nat → Int32} {q : Nat × Int32} {day0 hid : Int32} {dy tp sg : Nat → Int32} (hO : MoOK M np n ln) (hq : q.1 < np) (hsd : ∀ p, p < np → sdM M p = sd p) (hfd : M 0 2 = fd) (d : Nat) (hG : ∀ p, p < np → gM (kdM M) (tsM M) n hid dy tp sg (M 0 20) (M 0 21) (day0 + nI d) p = G d p) (N : Nat → Int32) (h : NWr N np ln (rn np ln sd fd G q d) (day0 + nI d) n hid dy tp sg) :
    ∃ N', f_X9_goes (rset M 11 N) = some (b2i (bl np ln sd fd G q d), rset M 11 N') ∧ NWr N' np ln (rn np ln sd fd G q (d + 1)) (day0 + nI (d + 1)) n hid dy tp sg ∧ ∀ i, i < 6 → N' (10 + i) = if i = ln (rn np ln sd fd G q d).1 then N (10 + i) + 1 else N (10 + i) := by
  have e0 : rset M 11 N 0 = M 0 := rset_ne _ _ (by decide)
  have e1 : rset M 11 N 1 = M 1 := rset_ne _ _ (by decide)
  have e2 : sdM (rset M 11 N) = sdM M := by unfold sdM; rw [e1]
  have e3 : kdM (rset M 11 N) = kdM M := by unfold kdM; rw [e1]
  have e4 : tsM (rset M 11 N) = tsM M := by unfold tsM; rw [e1]
  obtain ⟨N', a, b, c⟩ := goes_step (M := rset M 11 N) (sd := sd) (fd := fd) (G := G) (q := q) (hO.row N) hq (by rw [e2]; exact hsd) (by rw [e0]; exact hfd) d (by rw [e0, e3, e4]; exact hG) (by rw [rset_same]; exact h)
  rw [rset_rset] at a
  rw [rset_same] at c
  exact ⟨N', a, b, c⟩
theorem bl_no {np : Nat} {ln : Nat → Nat} {sd : Nat → Int32} {fd : Int32} {G : Nat → Nat → Int32} {q : Nat × Int32} {d : Nat} (h : bl np ln sd fd G q d = false) : rn np ln sd fd G q (d + 1) = ((rn np ln sd fd G q d).1, (rn np ln sd fd G q d).2 / fd + G d (ln (rn np ln sd fd G q d).1)) := by
  unfold bl at h
  show (stp np ln sd fd (G d) (rn np ln sd fd G q d)).2 = _
  unfold stp at h ⊢
  split at h
  · cases h
  · rw [if_neg (by assumption)]
/-- the first day with b, of m days from d on -/
def fst1 (b : Nat → Bool) : Nat → Nat → Option Nat
  | 0, _ => none
  | m + 1, d => if b d = true then some d else fst1 b m (d + 1)
theorem fst1_congr {b b' : Nat → Bool} : ∀ m d, (∀ e, d ≤ e → e < d + m → b e = b' e) → fst1 b m d = fst1 b' m d := by
  intro m
  induction m with
  | zero => intros; rfl
  | succ m ih =>
    intro d h
    unfold fst1
    rw [h d (by omega) (by omega), ih (d + 1) (fun e h1 h2 => h e (by omega) (by omega))]
theorem fst1_lt {b : Nat → Bool} : ∀ m d e, fst1 b m d = some e → d ≤ e ∧ e < d + m := by
  intro m
  induction m with
  | zero => intro d e h; cases h
  | succ m ih =>
    intro d e h
    unfold fst1 at h
    split at h
    · cases h; omega
    · have := ih (d + 1) e h; omega
def fbv (none' : Int32) (o : Option Nat) : Int32 := match o with
  | none => none'
  | some e => nI e
/-- what a run of the class stands on -/
def ClOK (C : FMem) (np hm : Nat) (G : Nat → Nat → Int32) : Prop := np ≤ 6 ∧ C 12 3 = nI np ∧ fdOK (C 12 5) ∧ hm ≤ 61 ∧ C 94 3 = nI hm ∧ ∀ d p, d < hm → p < np → C 97 (d * 6 + p) = G d p
theorem ClOK.mv {C C' : FMem} {np hm : Nat} {G : Nat → Nat → Int32} (h : ClOK C np hm G) (hc : C' 12 = C 12) (h94 : C' 94 = C 94) (h97 : C' 97 = C 97) : ClOK C' np hm G := by
  unfold ClOK
  rw [hc, h94, h97]
  exact h
theorem cFirstBell_loop {C : FMem} {np hm K : Nat} {I : Int32} {G : Nat → Nat → Int32} (h : ClOK C np hm G) (hh : 41 ≤ hm) (hK : K < np) : ∀ (m d f : Nat) (Ck : FMem), d + m = 41 → m < f → (∀ j, j ≠ 98 → Ck j = C j) → RG Ck np id (rn np id (C 15) (C 12 5) G (K, I) d) →
    ∃ C', X8_firstBell_b13 f (nI d) Ck = some (fbv 41 (fst1 (bl np id (C 15) (C 12 5) G (K, I)) m d), C') ∧ ∀ j, j ≠ 98 → C' j = C j := by
  intro m
  induction m with
  | zero =>
    intro d f Ck hd hf h1 h2
    obtain ⟨g, rfl, -⟩ := fu_s hf
    have hd : d = 41 := by omega
    subst hd
    exact ⟨Ck, rfl, h1⟩
  | succ m ih =>
    intro d f Ck hd hf h1 h2
    obtain ⟨g, rfl, hg⟩ := fu_s hf
    have hk := h.mv (h1 12 (by decide)) (h1 94 (by decide)) (h1 97 (by decide))
    obtain ⟨p6, q1, q2, q3, q4, q5⟩ := hk
    have e15 : Ck 15 = C 15 := h1 15 (by decide)
    have e12 : Ck 12 = C 12 := h1 12 (by decide)
    have er := rings_run (C := Ck) (ln := id) (G := G) (q := (K, I)) (d := d) p6 q2 q3 q4 (by omega) hK (fun _ hj => hj) (fun p hp => q5 d p (by omega) hp) (by rw [e15, e12]; exact h2)
    rw [e15, e12] at er
    show ∃ C', X8_firstBell_b13s (X8_firstBell_b13 g) (nI d) Ck = _ ∧ _
    unfold X8_firstBell_b13s
    rw [if_neg (by rw [c_gt (by omega) (by omega)]; omega), er, bnd_ok]
    unfold fst1
    by_cases hb : bl np id (C 15) (C 12 5) G (K, I) d = true
    · rw [hb, if_neg (by decide), if_pos rfl]
      exact ⟨_, rfl, fun j hj => by rw [fset_ne _ _ _ hj, h1 j hj]⟩
    · have hb' := Bool.not_eq_true _ |>.mp hb
      rw [if_pos (b2i_0.mpr hb'), if_neg hb, nI_1]
      refine ih (d + 1) g _ (by omega) (by omega) (fun j hj => by rw [fset_ne _ _ _ hj, h1 j hj]) ?_
      obtain ⟨r1, r2, r3, r4⟩ := h2
      rw [bl_no hb']
      refine ⟨?_, r2, fset_at _ _ _ _, fun j hj => ?_⟩
      · rw [fset_same, upd_ne _ _ (by decide)]; exact r1
      · rw [fset_ne _ _ _ (by decide)]; exact r4 j hj
theorem cFirstBell {C : FMem} {np hm K : Nat} {G : Nat → Nat → Int32} (h : ClOK C np hm G) (hh : 41 ≤ hm) (hK : K < np) (h1 : C 21 1 = nI K) :
    ∃ C', f_X8_firstBell C = some (fbv 41 (fst1 (bl np id (C 15) (C 12 5) G (K, C 21 2)) 41 0), C') ∧ ∀ j, j ≠ 98 → j ≠ 99 → C' j = C j := by
  obtain ⟨C1, e1, a1, b1⟩ := start_ok C h.1 hK h1
  have e15 : C1 15 = C 15 := a1 15 (by decide) (by decide)
  have e12 : C1 12 = C 12 := a1 12 (by decide) (by decide)
  obtain ⟨C2, e2, a2⟩ := cFirstBell_loop (C := C1) (I := C 21 2) (h.mv e12 (a1 94 (by decide) (by decide)) (a1 97 (by decide) (by decide))) hh hK 41 0 FU C1 rfl (FU_gt (by decide)) (fun _ _ => rfl) b1
  unfold f_X8_firstBell
  rw [e1, bnd_ok]
  rw [e15, e12] at e2
  exact ⟨C2, e2, fun j h1 h2 => by rw [a2 j h1, a1 j h1 h2]⟩
theorem mFirstBell_loop {M : FMem} {np n : Nat} {sd : Nat → Int32} {fd : Int32} {G : Nat → Nat → Int32} {q : Nat × Int32} {day0 hid : Int32} {dy tp sg : Nat → Int32} (hO : MoOK M np n id) (hq : q.1 < np) (hsd : ∀ p, p < np → sdM M p = sd p) (hfd : M 0 2 = fd) (hG : ∀ d p, p < np → gM (kdM M) (tsM M) n hid dy tp sg (M 0 20) (M 0 21) (day0 + nI d) p = G d p) : ∀ (m d f : Nat) (N : Nat → Int32), d + m = 41 → m < f → NWr N np id (rn np id sd fd G q d) (day0 + nI d) n hid dy tp sg →
    ∃ N', X9_firstBell_b2 f (nI d) (rset M 11 N) = some (fbv (-4) (fst1 (bl np id sd fd G q) m d), rset M 11 N') := by
  intro m
  induction m with
  | zero =>
    intro d f N hd hf h2
    obtain ⟨g, rfl, -⟩ := fu_s hf
    have hd : d = 41 := by omega
    subst hd
    exact ⟨N, rfl⟩
  | succ m ih =>
    intro d f N hd hf h2
    obtain ⟨g, rfl, hg⟩ := fu_s hf
    obtain ⟨N1, e1, a1, -⟩ := goes_stepR hO hq hsd hfd d (hG d) N h2
    show ∃ N', X9_firstBell_b2s (X9_firstBell_b2 g) (nI d) _ = _
    unfold X9_firstBell_b2s
    rw [if_neg (by rw [c_gt (by omega) (by omega)]; omega), e1, bnd_ok]
    unfold fst1
    by_cases hb : bl np id sd fd G q d = true
    · rw [hb, if_neg (by decide), if_pos rfl]
      exact ⟨_, rfl⟩
    · have hb' := Bool.not_eq_true _ |>.mp hb
      rw [if_pos (b2i_0.mpr hb'), if_neg hb, nI_1]
      exact ih (d + 1) g N1 (by omega) (by omega) a1
theorem mFirstBell {M : FMem} {np n : Nat} {sd : Nat → Int32} {fd : Int32} {G : Nat → Nat → Int32} {q : Nat × Int32} {day0 hid : Int32} {dy tp sg : Nat → Int32} (hO : MoOK M np n id) (hq : q.1 < np) (hsd : ∀ p, p < np → sdM M p = sd p) (hfd : M 0 2 = fd) (hG : ∀ d p, p < np → gM (kdM M) (tsM M) n hid dy tp sg (M 0 20) (M 0 21) (day0 + nI d) p = G d p) (h : NWr (M 11) np id q day0 n hid dy tp sg) :
    ∃ N', f_X9_firstBell M = some (fbv (-4) (fst1 (bl np id sd fd G q) 41 0), rset M 11 N') := by
  obtain ⟨N', e⟩ := mFirstBell_loop hO hq hsd hfd hG 41 0 FU (M 11) rfl (FU_gt (by decide)) (by rw [show (nI 0) = (0 : Int32) from rfl, Int32.add_zero]; exact h)
  rw [rset_self] at e
  exact ⟨N', e⟩
/-- the class has looked ahead hm days -/
theorem aheadC {C M : FMem} {np n hm : Nat} (hrc : RC C M np) (hn : n ≤ 9) (h23 : C 23 3 = nI n) (hh : hm ≤ 61) : ∃ C', f_X8_lookAhead (nI hm) C = some (0, C') ∧ (∀ j, j < 94 → C' j = C j) ∧ (∀ j, 98 ≤ j → C' j = C j) ∧ OL C' 23 (C 21 3) (C 21 0) hm n ∧ ClOK C' np hm (GT C n (C 21 3)) := by
  obtain ⟨C', e, a, b, c, d⟩ := lookC hrc hn h23 hh (C 21 3)
  refine ⟨C', by rw [isLookAhead, e, bnd_ok], a, b, c, ⟨hrc.2.1, by rw [a 12 (by decide)]; exact hrc.2.2.1, by rw [a 12 (by decide)]; exact hrc.2.2.2.2.1, hh, c.2.2.1, d⟩⟩
theorem Rel.query {C M C' M' : FMem} (h : Rel C M) (hC : ∀ j, j < 94 → C' j = C j) (hM : ∀ j, 1 ≤ j → j ≤ 7 → M' j = M j) (h0 : ∀ k, k ≠ 20 → k ≠ 21 → M' 0 k = M 0 k) : Rel C' M' :=
  h.same (fun j hj => hC j (by omega)) hM (fun k hk => h0 k (by omega) (by omega))
theorem op_bell : OpOK f_X8_bell f_X9_bell := by
  intro C M h
  have h' := h
  obtain ⟨np, hrc, hmr, -⟩ := h
  obtain ⟨M1, K, n, e1, a1, b1, b21, hK, hn, hC1, h23, hO, hN, hsd, hfd, hG, -, -⟩ := fromM hrc hmr
  obtain ⟨C1, e2, a2, a2', -, hcl⟩ := aheadC (hm := 41) hrc hn h23 (by decide)
  obtain ⟨C2, e3, a3⟩ := cFirstBell hcl (by decide) hK (by rw [a2 21 (by decide)]; exact hC1)
  obtain ⟨N', e4⟩ := mFirstBell hO hK hsd hfd (hG (C 21 3)) hN
  rw [a2 15 (by decide), a2 12 (by decide), a2 21 (by decide)] at e3
  have e2' : f_X8_lookAhead 41 C = some (0, C1) := e2
  refine ⟨fbv (-4) (fst1 (bl np id (C 15) (C 12 5) (GT C n (C 21 3)) (K, C 21 2)) 41 0), C2, rset M1 11 N', ?_, ?_, h'.query (fun j hj => by rw [a3 j (by omega) (by omega), a2 j hj]) (fun j j1 j2 => by rw [rset_ne _ _ (by omega), a1 j (by omega) (by omega)]) (fun k _ k2 => by rw [rset_ne _ _ (by decide), b1 k k2])⟩
  · unfold f_X8_bell
    rw [e2', bnd_ok, e3, bnd_ok]
    cases hf : fst1 (bl np id (C 15) (C 12 5) (GT C n (C 21 3)) (K, C 21 2)) 41 0 with
    | none => rfl
    | some e =>
      have := fst1_lt _ _ _ hf
      show (if nI e ≤ 40 then _ else _) = some (nI e, _)
      rw [if_pos (by rw [c_ge (by omega) (by omega)]; omega)]
      rfl
  · unfold f_X9_bell
    rw [e1, bnd_ok, e4, bnd_ok]
