/-! ===== raise ===== -/
abbrev rgD (np : Nat) (sd : Nat → Int32) (fd : Int32) (G : Nat → Nat → Int32) (q : Nat × Int32) (i : Nat) : Nat → Bool := fun d => decide ((rn np id sd fd G q d).1 = i)
theorem cReign_loop {C : FMem} {np K i : Nat} {I : Int32} {G : Nat → Nat → Int32} (h : ClOK C np 40 G) (hK : K < np) (hi : i < np) : ∀ (m d f : Nat) (Ck : FMem), d + m = 41 → m < f → (∀ j, j ≠ 98 → Ck j = C j) → (d ≤ 40 → RG Ck np id (rn np id (C 15) (C 12 5) G (K, I) d)) →
    ∃ C', X8_firstReignOf_b13 f (nI i) (nI d) Ck = some (fbv 41 (fst1 (rgD np (C 15) (C 12 5) G (K, I) i) m d), C') ∧ ∀ j, j ≠ 98 → C' j = C j := by
  have hp6 := h.1
  intro m
  induction m with
  | zero =>
    intro d f Ck hd hf h1 h2
    obtain ⟨g, rfl, -⟩ := fu_s hf
    have hd : d = 41 := by omega
    subst hd
    exact ⟨Ck, rfl, h1⟩
  | succ m ih =>
    intro d f Ck hd hf h1 h2
    obtain ⟨g, rfl, hg⟩ := fu_s hf
    have hrg := h2 (by omega)
    obtain ⟨p6, q1, q2, q3, q4, q5⟩ := h.mv (h1 12 (by decide)) (h1 94 (by decide)) (h1 97 (by decide))
    have e15 : Ck 15 = C 15 := h1 15 (by decide)
    have e12 : Ck 12 = C 12 := h1 12 (by decide)
    have hlt : (rn np id (C 15) (C 12 5) G (K, I) d).1 < np := rn_lt hK d
    have hr : f_X3_reigning Ck = some (nI (rn np id (C 15) (C 12 5) G (K, I) d).1, Ck) := reigning_ok p6 hrg
    show ∃ C', X8_firstReignOf_b13s (X8_firstReignOf_b13 g) (nI i) (nI d) Ck = _ ∧ _
    unfold X8_firstReignOf_b13s fst1
    rw [if_neg (by rw [c_gt (by omega) (by omega)]; omega), hr, bnd_ok]
    by_cases hb : (rn np id (C 15) (C 12 5) G (K, I) d).1 = i
    · rw [if_pos (by rw [hb]), if_pos (by simpa using hb)]
      exact ⟨Ck, rfl, h1⟩
    · rw [if_neg (by rw [nI_eq (by omega) (by omega)]; exact hb), if_neg (by simpa using hb), nI_1]
      by_cases h40 : d = 40
      · obtain ⟨C2, e2, a2, -⟩ := live_ok (C := Ck) (d := d) (hm := 40) p6 q1 q2 q3 q4 (by omega) hrg
        rw [e2, bnd_ok]
        exact ih (d + 1) g C2 (by omega) (by omega) (fun j hj => by rw [a2 j hj, h1 j hj]) (fun h => by omega)
      · obtain ⟨C2, e2, a2, b2⟩ := live_run (C := Ck) (ln := id) (G := G) (q := (K, I)) (d := d) p6 q1 q2 q3 q4 (by omega) hK (fun _ hj => hj) (fun p hp => q5 d p (by omega) hp) (by rw [e15, e12]; exact hrg)
        rw [e15, e12] at e2 b2
        rw [e2, bnd_ok]
        exact ih (d + 1) g C2 (by omega) (by omega) (fun j hj => by rw [a2 j hj, h1 j hj]) (fun _ => b2)
theorem cReign {C : FMem} {np K i : Nat} {G : Nat → Nat → Int32} (h : ClOK C np 40 G) (hK : K < np) (hi : i < np) (h1 : C 21 1 = nI K) :
    ∃ C', f_X8_firstReignOf (nI i) C = some (fbv 41 (fst1 (rgD np (C 15) (C 12 5) G (K, C 21 2) i) 41 0), C') ∧ ∀ j, j ≠ 98 → j ≠ 99 → C' j = C j := by
  obtain ⟨C1, e1, a1, b1⟩ := start_ok C h.1 hK h1
  have e15 : C1 15 = C 15 := a1 15 (by decide) (by decide)
  have e12 : C1 12 = C 12 := a1 12 (by decide) (by decide)
  obtain ⟨C2, e2, a2⟩ := cReign_loop (C := C1) (I := C 21 2) (i := i) (h.mv e12 (a1 94 (by decide) (by decide)) (a1 97 (by decide) (by decide))) hK hi 41 0 FU C1 rfl (FU_gt (by decide)) (fun _ _ => rfl) (fun _ => b1)
  unfold f_X8_firstReignOf
  rw [e1, bnd_ok]
  rw [e15, e12] at e2
  exact ⟨C2, e2, fun j h1 h2 => by rw [a2 j h1, a1 j h1 h2]⟩
theorem mReign_loop {M : FMem} {np n i : Nat} {sd : Nat → Int32} {fd : Int32} {G : Nat → Nat → Int32} {q : Nat × Int32} {day0 hid : Int32} {dy tp sg : Nat → Int32} (hO : MoOK M np n id) (hi : i < np) (hq : q.1 < np) (hsd : ∀ p, p < np → sdM M p = sd p) (hfd : M 0 2 = fd) (hG : ∀ d p, p < np → gM (kdM M) (tsM M) n hid dy tp sg (M 0 20) (M 0 21) (day0 + nI d) p = G d p) : ∀ (m d f : Nat) (N : Nat → Int32), d + m = 41 → m < f → NWr N np id (rn np id sd fd G q d) (day0 + nI d) n hid dy tp sg →
    ∃ N', X9_reignsOn_b2 f (nI i) (nI d) (rset M 11 N) = some (fbv 41 (fst1 (rgD np sd fd G q i) m d), rset M 11 N') := by
  have hp6 := hO.2.1
  intro m
  induction m with
  | zero =>
    intro d f N hd hf h2
    obtain ⟨g, rfl, -⟩ := fu_s hf
    have hd : d = 41 := by omega
    subst hd
    exact ⟨N, rfl⟩
  | succ m ih =>
    intro d f N hd hf h2
    obtain ⟨g, rfl, hg⟩ := fu_s hf
    have hlt : (rn np id sd fd G q d).1 < np := rn_lt hq d
    obtain ⟨N1, e1, a1, -⟩ := goes_stepR hO hq hsd hfd d (hG d) N h2
    show ∃ N', X9_reignsOn_b2s (X9_reignsOn_b2 g) (nI i) (nI d) _ = _
    unfold X9_reignsOn_b2s fst1
    have hk : N 4 = nI (rn np id sd fd G q d).1 := h2.king hlt
    rw [if_neg (by rw [c_gt (by omega) (by omega)]; omega), rset_same, hk]
    by_cases hb : (rn np id sd fd G q d).1 = i
    · rw [if_pos (by rw [hb]), if_pos (by simpa using hb)]
      exact ⟨N, rfl⟩
    · rw [if_neg (by rw [nI_eq (by omega) (by omega)]; exact hb), if_neg (by simpa using hb), e1, bnd_ok, nI_1]
      exact ih (d + 1) g N1 (by omega) (by omega) a1
theorem mReign {M : FMem} {np n i : Nat} {sd : Nat → Int32} {fd : Int32} {G : Nat → Nat → Int32} {q : Nat × Int32} {day0 hid : Int32} {dy tp sg : Nat → Int32} (hO : MoOK M np n id) (hi : i < np) (hq : q.1 < np) (hsd : ∀ p, p < np → sdM M p = sd p) (hfd : M 0 2 = fd) (hG : ∀ d p, p < np → gM (kdM M) (tsM M) n hid dy tp sg (M 0 20) (M 0 21) (day0 + nI d) p = G d p) (h : NWr (M 11) np id q day0 n hid dy tp sg) :
    ∃ N', f_X9_reignsOn (nI i) M = some (fbv 41 (fst1 (rgD np sd fd G q i) 41 0), rset M 11 N') := by
  obtain ⟨N', e⟩ := mReign_loop hO hi hq hsd hfd hG 41 0 FU (M 11) rfl (FU_gt (by decide)) (by rw [show (nI 0) = (0 : Int32) from rfl, Int32.add_zero]; exact h)
  rw [rset_self] at e
  exact ⟨N', e⟩
/-- the gains with one thing more on day D -/
def GR (C : FMem) (n D : Nat) (mt : Int32) (d p : Nat) : Int32 := if nI d = nI D then GX C n mt 9 d p else GT C n (C 21 3) d p
def tpc (t : Nat) : Int32 := (1 : Int32) <<< (nI t &&& 31)
def raF (C : FMem) (np n K i k : Nat) : Int32 := fbv 41 (fst1 (rgD np (C 15) (C 12 5) (GR C n (k / 5) (tpc (k % 5))) (K, C 21 2) i) 41 0)
def rsf (F : Nat → Int32) : Nat → Nat → Int32 → Int32 → Int32 × Int32
  | 0, _, s, a => (s, a)
  | m + 1, k, s, a => if s ≤ F k then rsf F m (k + 1) s a else rsf F m (k + 1) (F k) (10 * nI (k / 5) + nI (k % 5))
theorem rsf_s (F : Nat → Int32) (m k : Nat) (s a : Int32) : rsf F (m + 1) k s a = if s ≤ F k then rsf F m (k + 1) s a else rsf F m (k + 1) (F k) (10 * nI (k / 5) + nI (k % 5)) := rfl
theorem rsf_app (F : Nat → Int32) : ∀ m1 m2 k s a, rsf F (m1 + m2) k s a = rsf F m2 (k + m1) (rsf F m1 k s a).1 (rsf F m1 k s a).2 := by
  intro m1
  induction m1 with
  | zero => intro m2 k s a; rw [Nat.zero_add]; rfl
  | succ m1 ih =>
    intro m2 k s a
    rw [show m1 + 1 + m2 = (m1 + m2) + 1 by omega, rsf_s, rsf_s F m1]
    by_cases h : s ≤ F k
    · rw [if_pos h, if_pos h, ih, show k + (m1 + 1) = k + 1 + m1 by omega]
    · rw [if_neg h, if_neg h, ih, show k + (m1 + 1) = k + 1 + m1 by omega]
theorem plus_minus (x c : Int32) : x + 1 * c + (-1) * c = x := by
  rw [Int32.one_mul, Int32.neg_mul, Int32.one_mul, Int32.add_assoc, Int32.add_right_neg, Int32.add_zero]
/-- the class tries one thing more, and takes it away again -/
theorem tryC {C C1 : FMem} {np n K i D : Nat} (hc : CtOK C np) (hK : K < np) (hi : i < np) (h1 : C 21 1 = nI K) (h94 : ∀ j, j < 94 → C1 j = C j) (hol : OL C1 23 (C 21 3) (C 21 0) 40 n) (hG : ∀ d p, d < 40 → p < np → C1 97 (d * 6 + p) = GT C n (C 21 3) d p) (hD : D < 40) (mt : Int32) :
    ∃ Ca Cb Cc, f_X2_add (nI D) mt 9 C1 = some (0, Ca) ∧ f_X8_firstReignOf (nI i) Ca = some (fbv 41 (fst1 (rgD np (C 15) (C 12 5) (GR C n D mt) (K, C 21 2) i) 41 0), Cb) ∧ f_X2_takeAway (nI D) mt 9 Cb = some (0, Cc) ∧ (∀ j, j < 94 → Cc j = C j) ∧ OL Cc 23 (C 21 3) (C 21 0) 40 n ∧ ∀ d p, d < 40 → p < np → Cc 97 (d * 6 + p) = GT C n (C 21 3) d p := by
  have hp6 := hc.2.1
  have hc1 : CtOK C1 np := by unfold CtOK; rw [h94 12 (by decide), h94 14 (by decide)]; exact hc
  obtain ⟨Ca, ea, a1, a2, a3⟩ := addTimes_ok C1 (np := np) (hm := 40) (d := D) hc1 (by decide) hol.2.2.1 hD 1 mt 9
  have k94 : ∀ j, j < 94 → Ca j = C j := fun j hj => by rw [a1 j (by omega), h94 j hj]
  have h96 : C1 96 D = hdv (prD (C 24) (C 21 0 + nI D) (C 21 3)) (C 25) n := by rw [hol.had (by decide) hD, h94 24 (by decide), h94 25 (by decide)]
  have hcv : ∀ p, p < np → Ca 97 (D * 6 + p) = GX C n mt 9 D p := fun p hp => by
    rw [a2 p hp, hG D p hD hp, Int32.one_mul, h94 13 (by decide), h94 14 (by decide), h96, hol.2.1]
    rfl
  have hcl : ClOK Ca np 40 (GR C n D mt) := by
    refine ⟨hp6, by rw [k94 12 (by decide)]; exact hc.2.2.1, by rw [k94 12 (by decide)]; exact hc.2.2.2.1, by decide, by rw [a1 94 (by decide)]; exact hol.2.2.1, fun d p hd hp => ?_⟩
    unfold GR
    by_cases e : d = D
    · rw [if_pos (by rw [e]), e]; exact hcv p hp
    · rw [if_neg (by rw [nI_eq (by omega) (by omega)]; exact e), a3 _ (by omega)]; exact hG d p hd hp
  obtain ⟨Cb, eb, b1⟩ := cReign hcl hK hi (by rw [k94 21 (by decide)]; exact h1)
  rw [k94 15 (by decide), k94 12 (by decide), k94 21 (by decide)] at eb
  have b94 : ∀ j, j < 94 → Cb j = C j := fun j hj => by rw [b1 j (by omega) (by omega), k94 j hj]
  have hcb : CtOK Cb np := by unfold CtOK; rw [b94 12 (by decide), b94 14 (by decide)]; exact hc
  have bo : ∀ j, j ≠ 97 → j ≠ 98 → j ≠ 99 → Cb j = C1 j := fun j j1 j2 j3 => by rw [b1 j j2 j3, a1 j j1]
  obtain ⟨Cc, ec, c1, c2, c3⟩ := addTimes_ok Cb (np := np) (hm := 40) (d := D) hcb (by decide) (by rw [bo 94 (by decide) (by decide) (by decide)]; exact hol.2.2.1) hD (-1) mt 9
  refine ⟨Ca, Cb, Cc, by unfold f_X2_add; rw [ea, bnd_ok], eb, by unfold f_X2_takeAway; rw [ec, bnd_ok], fun j hj => by rw [c1 j (by omega), b94 j hj], hol.mv (by rw [c1 94 (by decide), bo 94 (by decide) (by decide) (by decide)]) (by rw [c1 95 (by decide), bo 95 (by decide) (by decide) (by decide)]) (by rw [c1 96 (by decide), bo 96 (by decide) (by decide) (by decide)]) (by rw [c1 24 (by decide), bo 24 (by decide) (by decide) (by decide)]) (by rw [c1 25 (by decide), bo 25 (by decide) (by decide) (by decide)]), fun d p hd hp => ?_⟩
  by_cases e : d = D
  · rw [e, c2 p hp, b1 97 (by decide) (by decide), a2 p hp, bo 13 (by decide) (by decide) (by decide), bo 14 (by decide) (by decide) (by decide), bo 96 (by decide) (by decide) (by decide), bo 94 (by decide) (by decide) (by decide), plus_minus]
    exact hG D p hD hp
  · rw [c3 _ (by omega), b1 97 (by decide) (by decide), a3 _ (by omega)]
    exact hG d p hd hp
theorem raiseC_in {C : FMem} {np n K i D : Nat} (hc : CtOK C np) (hK : K < np) (hi : i < np) (h1 : C 21 1 = nI K) (hD : D < 20) (k37 : Int32 → Int32 → Int32 → Int32 → Int32 → FMem → Opt) (w : Int32) : ∀ (m t f : Nat) (s a : Int32) (Ck : FMem), t + m = 5 → m < f → (∀ j, j < 94 → Ck j = C j) → OL Ck 23 (C 21 3) (C 21 0) 40 n → (∀ d p, d < 40 → p < np → Ck 97 (d * 6 + p) = GT C n (C 21 3) d p) →
    ∃ C', X8_raise_b47 k37 f (nI i) w s a (nI D) (nI t) Ck = k37 (nI i) w (rsf (raF C np n K i) m (5 * D + t) s a).1 (rsf (raF C np n K i) m (5 * D + t) s a).2 (nI D + 1) C' ∧ (∀ j, j < 94 → C' j = C j) ∧ OL C' 23 (C 21 3) (C 21 0) 40 n ∧ (∀ d p, d < 40 → p < np → C' 97 (d * 6 + p) = GT C n (C 21 3) d p) := by
  intro m
  induction m with
  | zero =>
    intro t f s a Ck ht hf g1 g2 g3
    obtain ⟨g, rfl, -⟩ := fu_s hf
    have ht : t = 5 := by omega
    subst ht
    refine ⟨Ck, ?_, g1, g2, g3⟩
    show X8_raise_b47s k37 (X8_raise_b47 k37 g) _ _ _ _ _ _ Ck = _
    unfold X8_raise_b47s rsf
    rw [if_pos (by decide)]
  | succ m ih =>
    intro t f s a Ck ht hf g1 g2 g3
    obtain ⟨g, rfl, hg⟩ := fu_s hf
    obtain ⟨Ca, Cb, Cc, e1, e2, e3, c1, c2, c3⟩ := tryC (D := D) hc hK hi h1 g1 g2 g3 (by omega) (tpc t)
    have ek : (5 * D + t) / 5 = D ∧ (5 * D + t) % 5 = t := by omega
    have e2' : f_X8_firstReignOf (nI i) Ca = some (raF C np n K i (5 * D + t), Cb) := by
      unfold raF
      rw [ek.1, ek.2]
      exact e2
    have e1' : f_X2_add (nI D) ((1 : Int32) <<< (nI t &&& 31)) 9 Ck = some (0, Ca) := e1
    have e3' : f_X2_takeAway (nI D) ((1 : Int32) <<< (nI t &&& 31)) 9 Cb = some (0, Cc) := e3
    show ∃ C', X8_raise_b47s k37 (X8_raise_b47 k37 g) _ _ _ _ _ _ Ck = _ ∧ _
    unfold X8_raise_b47s rsf X8_raise_b109
    rw [if_neg (by rw [c_le (by omega) (by omega)]; omega), e1', bnd_ok, e2', bnd_ok, e3', bnd_ok, nI_1, ek.1, ek.2]
    by_cases hs : s ≤ raF C np n K i (5 * D + t)
    · rw [if_pos hs, if_pos hs]
      exact ih (t + 1) g s a Cc (by omega) (by omega) c1 c2 c3
    · rw [if_neg hs, if_neg hs, bindv_ok]
      exact ih (t + 1) g _ _ Cc (by omega) (by omega) c1 c2 c3
def raR (w s a : Int32) : Int32 := if s ≤ 40 then (if w = 0 then a else s) else -4
theorem raiseC {C : FMem} {np n K i : Nat} (hc : CtOK C np) (hK : K < np) (hi : i < np) (h1 : C 21 1 = nI K) (w : Int32) : ∀ (m D f : Nat) (s a : Int32) (Ck : FMem), D + m = 20 → m < f → (∀ j, j < 94 → Ck j = C j) → OL Ck 23 (C 21 3) (C 21 0) 40 n → (∀ d p, d < 40 → p < np → Ck 97 (d * 6 + p) = GT C n (C 21 3) d p) →
    ∃ C', X8_raise_b37 f (nI i) w s a (nI D) Ck = some (raR w (rsf (raF C np n K i) (5 * m) (5 * D) s a).1 (rsf (raF C np n K i) (5 * m) (5 * D) s a).2, C') ∧ (∀ j, j < 94 → C' j = C j) := by
  intro m
  induction m with
  | zero =>
    intro D f s a Ck hD hf g1 g2 g3
    obtain ⟨g, rfl, -⟩ := fu_s hf
    have hD : D = 20 := by omega
    subst hD
    refine ⟨Ck, ?_, g1⟩
    show X8_raise_b37s (X8_raise_b37 g) _ _ _ _ _ Ck = some (raR w s a, Ck)
    unfold X8_raise_b37s raR
    rw [if_pos (by decide)]
    by_cases hs : s ≤ 40
    · rw [if_pos hs, if_pos hs]
      by_cases hw : w = 0
      · rw [if_pos hw, if_pos hw]
      · rw [if_neg hw, if_neg hw]
    · rw [if_neg hs, if_neg hs]
  | succ m ih =>
    intro D f s a Ck hD hf g1 g2 g3
    obtain ⟨g, rfl, hg⟩ := fu_s hf
    obtain ⟨C1, e1, c1, c2, c3⟩ := raiseC_in (D := D) hc hK hi h1 (by omega) (X8_raise_b37 g) w 5 0 FU s a Ck (by omega) (FU_gt (by decide)) g1 g2 g3
    obtain ⟨C', e2, r⟩ := ih (D + 1) g (rsf (raF C np n K i) 5 (5 * D + 0) s a).1 (rsf (raF C np n K i) 5 (5 * D + 0) s a).2 C1 (by omega) (by omega) c1 c2 c3
    refine ⟨C', ?_, r⟩
    show X8_raise_b37s (X8_raise_b37 g) _ _ _ _ _ Ck = _
    unfold X8_raise_b37s
    have e1' : X8_raise_b47 (X8_raise_b37 g) FU (nI i) w s a (nI D) 0 Ck = _ := e1
    rw [if_neg (by rw [c_le (by omega) (by omega)]; omega), e1', nI_1, e2, show 5 * (m + 1) = 5 + 5 * m by omega, rsf_app, show 5 * D + 5 = 5 * (D + 1) by omega]
    rfl
/-! the reference -/
theorem prD_v {dy : Nat → Int32} {day hid x : Int32} {k : Nat} (h : dy k = x) : prD dy day hid k = (decide (x = day) && !(bt hid k)) := by
  subst h
  rfl
theorem tryM {C M : FMem} {np n K i D : Nat} (hrc : RC C M np) (hmr : MR np C 21 (M 2)) (hn9 : n ≤ 9) (h23 : C 23 3 = nI n) (hK : K < np) (hC1 : C 21 1 = nI K) (hi : i < np) (mt : Int32) :
    ∃ Ma Mb Mc, f_X9_from 2 M = some (0, Ma) ∧ Ma 2 0 = C 21 0 ∧ f_X9_addsThing 11 (C 21 0 + nI D) mt 9 Ma = some (0, Mb) ∧ f_X9_reignsOn (nI i) Mb = some (fbv 41 (fst1 (rgD np (C 15) (C 12 5) (GR C n D mt) (K, C 21 2) i) 41 0), Mc) ∧ (∀ j, j ≠ 0 → j ≠ 11 → Mc j = M j) ∧ (∀ k, k ≠ 21 → Mc 0 k = M 0 k) := by
  have hp6 := hrc.2.1
  obtain ⟨Ma, K', n', e1, m1, b1, b21, hK', hn', hC1', h23', hO, hN, hsd, hfd, hGm, -, hbits⟩ := fromM hrc hmr
  have en : n' = n := (nI_eq (by omega) (by omega)).mp (h23'.symm.trans h23)
  have eK : K' = K := (nI_eq (by omega) (by omega)).mp (hC1'.symm.trans hC1)
  subst en; subst eK
  obtain ⟨Mb, e2, s2, s3, s4, s5, s6, s7⟩ := adds_ok 11 (C 21 0 + nI D) mt 9 Ma hn' hN.2.2.1
  have hO2 : MoOK Mb np (n' + 1) id := by
    obtain ⟨o1, o2, o3, o4, o5, o6⟩ := hO
    exact ⟨o1, o2, by omega, by rw [s2 0 (by decide)]; exact o4, by rw [s2 0 (by decide)]; exact o5, o6⟩
  have e1r : Mb 1 = Ma 1 := s2 1 (by decide)
  have ek : kdM Mb = kdM Ma := by unfold kdM; rw [e1r]
  have et : tsM Mb = tsM Ma := by unfold tsM; rw [e1r]
  have es : sdM Mb = sdM Ma := by unfold sdM; rw [e1r]
  have hN2 : NWr (Mb 11) np id (K', C 21 2) (C 21 0) (n' + 1) (C 21 3) (fun k => if k = n' then C 21 0 + nI D else C 24 k) (fun k => if k = n' then mt else C 25 k) (fun k => if k = n' then 9 else C 26 k) := by
    obtain ⟨n0, n1, n2, n3, n4, n5⟩ := hN
    refine ⟨by rw [s7 0 (by decide) (by omega)]; exact n0, by rw [s7 1 (by decide) (by omega)]; exact n1, s3, by rw [s7 3 (by decide) (by omega)]; exact n3, fun j hj => by rw [s7 _ (by omega) (by omega)]; exact n4 j hj, fun k hk => ?_⟩
    dsimp only
    by_cases e : k = n'
    · subst e
      rw [if_pos rfl, if_pos rfl, if_pos rfl]
      exact ⟨s4, s5, s6⟩
    · rw [if_neg e, if_neg e, if_neg e, s7 _ (by omega) (by omega), s7 _ (by omega) (by omega), s7 _ (by omega) (by omega)]
      exact n5 k (by omega)
  have hG2 : ∀ d p, p < np → gM (kdM Mb) (tsM Mb) (n' + 1) (C 21 3) (fun k => if k = n' then C 21 0 + nI D else C 24 k) (fun k => if k = n' then mt else C 25 k) (fun k => if k = n' then 9 else C 26 k) (Mb 0 20) (Mb 0 21) (C 21 0 + nI d) p = GR C n' D mt d p := by
    intro d p hp
    rw [ek, et, s2 0 (by decide), b21, gM_0]
    have ekd : kdM Ma p = C 13 p := by unfold kdM; rw [m1 1 (by decide) (by decide)]; exact (hrc.2.2.2.2.2.2 p hp).2.1
    have ets : tsM Ma p = C 14 p := by unfold tsM; rw [m1 1 (by decide) (by decide)]; exact (hrc.2.2.2.2.2.2 p hp).2.2.1
    have eg : gp (prD (fun k => if k = n' then C 21 0 + nI D else C 24 k) (C 21 0 + nI d) (C 21 3)) (C 13 p) (C 14 p) (C 21 0 + nI d) (fun k => if k = n' then mt else C 25 k) (fun k => if k = n' then 9 else C 26 k) n' = gp (prD (C 24) (C 21 0 + nI d) (C 21 3)) (C 13 p) (C 14 p) (C 21 0 + nI d) (C 25) (C 26) n' := by
      refine gp_congr n' (fun k hk => ?_) (fun k hk _ => ?_) (fun k hk _ => ?_)
      · rw [prD_v (x := C 24 k) (if_neg (show ¬ k = n' by omega))]
        rfl
      · exact if_neg (by omega)
      · exact if_neg (by omega)
    have epr : prD (fun k => if k = n' then C 21 0 + nI D else C 24 k) (C 21 0 + nI d) (C 21 3) n' = decide (nI d = nI D) := by
      rw [prD_v (x := C 21 0 + nI D) (if_pos rfl), hbits n' (Nat.le_refl _) (by omega)]
      have hc : (C 21 0 + nI D = C 21 0 + nI d) ↔ nI d = nI D := by
        constructor
        · intro h
          exact ((sub_iff (C 21 0 + nI d) (C 21 0) (nI d)).mpr rfl).symm.trans ((sub_iff _ _ (nI D)).mpr h.symm)
        · intro h; rw [h]
      rw [decide_eq_decide.mpr hc]
      exact Bool.and_true _
    unfold gM
    rw [if_pos (by decide), gp_s, epr, ekd, ets, eg]
    unfold GR GX GT gM
    by_cases h : nI d = nI D
    · rw [if_pos (by simpa using h), if_pos h, if_pos (show (0 : Int32) ≤ 0 by decide), ← gp_had (prD (C 24) (C 21 0 + nI d) (C 21 3)) (C 13 p) (C 14 p) (C 21 0 + nI d) (C 25) (C 26)]
      dsimp only
      rw [if_pos rfl, if_pos rfl]
    · rw [if_neg (by simpa using h), if_neg h, if_pos (by decide)]
  obtain ⟨N', e3⟩ := mReign (i := i) (sd := C 15) (fd := C 12 5) (G := GR C n' D mt) hO2 hi hK' (by rw [es]; exact hsd) (by rw [s2 0 (by decide)]; exact hfd) hG2 hN2
  refine ⟨Ma, Mb, rset Mb 11 N', e1, by rw [m1 2 (by decide) (by decide)]; exact hmr.1, e2, e3, fun j j1 j2 => by rw [rset_ne _ _ j2, s2 j j2, m1 j j1 j2], fun k hk => by rw [rset_ne _ _ (by decide), s2 0 (by decide), b1 k hk]⟩

theorem raiseM {C M : FMem} {np n K i : Nat} (hrc : RC C M np) (hmr : MR np C 21 (M 2)) (hn9 : n ≤ 9) (h23 : C 23 3 = nI n) (hK : K < np) (hC1 : C 21 1 = nI K) (hi : i < np) (w : Int32) : ∀ (m k f : Nat) (s a : Int32) (Mk : FMem), k + m = 100 → m < f → (∀ j, j ≠ 0 → j ≠ 11 → Mk j = M j) → (∀ k, k ≠ 21 → Mk 0 k = M 0 k) →
    ∃ M', X9_raise_b41 f (nI i) w a s (nI k) Mk = some (raR w (rsf (raF C np n K i) m k s a).1 (rsf (raF C np n K i) m k s a).2, M') ∧ (∀ j, j ≠ 0 → j ≠ 11 → M' j = M j) ∧ (∀ k, k ≠ 21 → M' 0 k = M 0 k) := by
  intro m
  induction m with
  | zero =>
    intro k f s a Mk hk hf g1 g2
    obtain ⟨g, rfl, -⟩ := fu_s hf
    have hk : k = 100 := by omega
    subst hk
    refine ⟨Mk, ?_, g1, g2⟩
    show X9_raise_b41s (X9_raise_b41 g) _ _ _ _ _ Mk = some (raR w s a, Mk)
    unfold X9_raise_b41s raR
    rw [if_pos (by decide)]
    by_cases hs : s ≤ 40
    · rw [if_pos hs, if_pos hs]
      by_cases hw : w = 0
      · rw [if_pos hw, if_pos hw]
      · rw [if_neg hw, if_neg hw]
    · rw [if_neg hs, if_neg hs]
  | succ m ih =>
    intro k f s a Mk hk hf g1 g2
    obtain ⟨g, rfl, hg⟩ := fu_s hf
    have hrck : RC C Mk np := hrc.mv rfl rfl rfl rfl (g2 _ (by decide)) (g2 _ (by decide)) (g1 _ (by decide) (by decide))
    have hmrk : MR np C 21 (Mk 2) := by rw [g1 2 (by decide) (by decide)]; exact hmr
    obtain ⟨Ma, Mb, Mc, e1, e0, e2, e3, c1, c2⟩ := tryM (D := k / 5) hrck hmrk hn9 h23 hK hC1 hi (tpc (k % 5))
    have e5 : nI k / 5 = nI (k / 5) := pk_div (by omega) (by decide) (by decide)
    have er : nI k - nI (k / 5) * 5 = nI (k % 5) := by
      have := pk_rem (a := k) (d := 5) (by omega) (by decide) (by decide)
      rwa [show nI k / nI 5 = nI (k / 5) from e5] at this
    have e2' : f_X9_addsThing 11 (C 21 0 + nI (k / 5)) ((1 : Int32) <<< (nI (k % 5) &&& 31)) 9 Ma = some (0, Mb) := e2
    have e3' : f_X9_reignsOn (nI i) Mb = some (raF C np n K i k, Mc) := e3
    have hm1 : ∀ j, j ≠ 0 → j ≠ 11 → Mc j = M j := fun j j1 j2 => by rw [c1 j j1 j2, g1 j j1 j2]
    have hm2 : ∀ k, k ≠ 21 → Mc 0 k = M 0 k := fun k hk => by rw [c2 k hk, g2 k hk]
    show ∃ M', X9_raise_b41s (X9_raise_b41 g) _ _ _ _ _ Mk = _ ∧ _
    unfold X9_raise_b41s X9_raise_b112 X9_raise_b127
    rw [if_neg (by rw [c_le (by omega) (by omega)]; omega), e1, bnd_ok, e0, e5, er, e2', bnd_ok, e3', bnd_ok, nI_1, rsf_s]
    by_cases hs : s ≤ raF C np n K i k
    · rw [if_pos hs, if_pos hs, if_pos hs]
      exact ih (k + 1) g s a Mc (by omega) (by omega) hm1 hm2
    · rw [if_neg hs, if_neg hs, if_neg hs]
      exact ih (k + 1) g _ _ Mc (by omega) (by omega) hm1 hm2
theorem op_raise (a1 a2 : Int32) : OpOK (f_X8_raise a1 a2) (f_X9_raise a1 a2) := by
  intro C M h
  have h' := h
  obtain ⟨np, hrc, hmr, -⟩ := h
  unfold f_X8_raise f_X9_raise
  rcases isPer hrc a1 with ⟨i, hi, rfl, e1, e2⟩ | ⟨e1, e2⟩
  · rw [e1, bnd_ok, e2, bnd_ok, if_neg n10, if_neg n10]
    rcases in_ok a2 (lo := 0) (hi := 1) (by decide) (by decide) M with ⟨w, -, hw, rfl, hi2⟩ | ⟨hno2, hi2⟩
    · have hi2' : f_X9_in (nI w) 0 1 M = some (1, M) := hi2
      rw [hi2', bnd_ok, if_neg n10, (isHalf_ok (nI w) C).1 w hw rfl, bnd_ok, if_neg n10]
      obtain ⟨M1, K, n, f1, m1, b1, b21, hK, hn, hC1, h23, hO, hN, hsd, hfd, hG, -, -⟩ := fromM hrc hmr
      obtain ⟨C1, f2, c1, -, hol, hcl⟩ := aheadC (hm := 40) hrc hn h23 (by decide)
      obtain ⟨C2, f3, c2⟩ := cReign (i := i) hcl hK hi (by rw [c1 21 (by decide)]; exact hC1)
      rw [c1 15 (by decide), c1 12 (by decide), c1 21 (by decide)] at f3
      have k2 : ∀ j, j < 94 → C2 j = C j := fun j hj => by rw [c2 j (by omega) (by omega), c1 j hj]
      obtain ⟨C3, f4, c3⟩ := raiseC (C := C) (n := n) (K := K) (i := i) hrc.ct hK hi hC1 (nI w) 20 0 FU (fbv 41 (fst1 (rgD np (C 15) (C 12 5) (GT C n (C 21 3)) (K, C 21 2) i) 41 0)) 1000 C2 (by omega) (FU_gt (by decide)) k2 (hol.mv (c2 94 (by decide) (by decide)) (c2 95 (by decide) (by decide)) (c2 96 (by decide) (by decide)) (c2 24 (by decide) (by decide)) (c2 25 (by decide) (by decide))) (fun d p hd hp => by rw [c2 97 (by decide) (by decide)]; exact hcl.2.2.2.2.2 d p hd hp)
      obtain ⟨N', f5⟩ := mReign (i := i) hO hi hK hsd hfd (hG (C 21 3)) hN
      have hrc1 : RC C (rset M1 11 N') np := hrc.mv rfl rfl rfl rfl (by rw [rset_ne _ _ (by decide), b1 _ (by decide)]) (by rw [rset_ne _ _ (by decide), b1 _ (by decide)]) (by rw [rset_ne _ _ (by decide), m1 _ (by decide) (by decide)])
      have hmr1 : MR np C 21 (rset M1 11 N' 2) := by rw [rset_ne _ _ (by decide), m1 2 (by decide) (by decide)]; exact hmr
      obtain ⟨M2, f6, d1, d2⟩ := raiseM (C := C) (n := n) (K := K) (i := i) hrc1 hmr1 hn h23 hK hC1 hi (nI w) 100 0 FU (fbv 41 (fst1 (rgD np (C 15) (C 12 5) (GT C n (C 21 3)) (K, C 21 2) i) 41 0)) 1000 (rset M1 11 N') (by omega) (FU_gt (by decide)) (fun _ _ _ => rfl) (fun _ _ => rfl)
      have f2' : f_X8_lookAhead 40 C = some (0, C1) := f2
      have f4' : X8_raise_b37 FU (nI i) (nI w) (fbv 41 (fst1 (rgD np (C 15) (C 12 5) (GT C n (C 21 3)) (K, C 21 2) i) 41 0)) 1000 0 C2 = _ := f4
      have f6' : X9_raise_b41 FU (nI i) (nI w) 1000 (fbv 41 (fst1 (rgD np (C 15) (C 12 5) (GT C n (C 21 3)) (K, C 21 2) i) 41 0)) 0 (rset M1 11 N') = _ := f6
      rw [f2', bnd_ok, f3, bnd_ok, f4', f1, bnd_ok, f5, bnd_ok, f6']
      exact ⟨_, _, _, rfl, rfl, h'.query c3 (fun j j1 j2 => by rw [d1 j (by omega) (by omega), rset_ne _ _ (by omega), m1 j (by omega) (by omega)]) (fun k _ k2 => by rw [d2 k k2, rset_ne _ _ (by decide), b1 k k2])⟩
    · have hi2' : f_X9_in a2 0 1 M = some (0, M) := hi2
      rw [hi2', bnd_ok, if_pos rfl, (isHalf_ok a2 C).2 hno2, bnd_ok, if_pos rfl]
      exact ⟨_, _, _, rfl, rfl, h'⟩
  · rw [e1, bnd_ok, if_pos rfl, e2, bnd_ok, if_pos rfl]
    exact ⟨_, _, _, rfl, rfl, h'⟩
