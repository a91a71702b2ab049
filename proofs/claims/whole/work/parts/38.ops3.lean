/-! dull -/
def dlf (b : Nat → Bool) : Nat → Nat → Int32 → Int32 → Int32 → Int32 × Int32
  | 0, _, lg, fr, _ => (lg, fr)
  | m + 1, d, lg, fr, rw => if (if b d = true then 0 else rw + 1) ≤ lg then dlf b m (d + 1) lg fr (if b d = true then 0 else rw + 1) else dlf b m (d + 1) (if b d = true then 0 else rw + 1) (nI d - (if b d = true then 0 else rw + 1) + 1) (if b d = true then 0 else rw + 1)
theorem dullC {C C1 : FMem} {np : Nat} {G : Nat → Nat → Int32} {q : Nat × Int32} (hcl : ClOK C1 np 40 G) (h94 : ∀ j, j < 94 → C1 j = C j) (hq : q.1 < np) (w : Int32) : ∀ (m d f : Nat) (lg fr rw : Int32) (Ck : FMem), d + m = 40 → m < f → (∀ j, j ≠ 98 → Ck j = C1 j) → RG Ck np id (rn np id (C 15) (C 12 5) G q d) →
    ∃ C', X8_dull_b37 f w lg fr rw (nI d) Ck = some (if w = 0 then (dlf (bl np id (C 15) (C 12 5) G q) m d lg fr rw).1 else (dlf (bl np id (C 15) (C 12 5) G q) m d lg fr rw).2, C') ∧ ∀ j, j ≠ 98 → C' j = C1 j := by
  intro m
  induction m with
  | zero =>
    intro d f lg fr rw Ck hd hf h1 h2
    obtain ⟨g, rfl, -⟩ := fu_s hf
    have hd : d = 40 := by omega
    subst hd
    refine ⟨Ck, ?_, h1⟩
    show X8_dull_b37s (X8_dull_b37 g) w lg fr rw (nI 40) Ck = _
    unfold X8_dull_b37s dlf
    rw [if_pos (by decide)]
    by_cases hw : w = 0
    · rw [if_pos hw, if_pos hw]
    · rw [if_neg hw, if_neg hw]
  | succ m ih =>
    intro d f lg fr rw Ck hd hf h1 h2
    obtain ⟨g, rfl, hg⟩ := fu_s hf
    obtain ⟨C2, e2, a2, b2⟩ := stepC (C := C) (d := d) hcl h94 hq (by omega) h1 h2
    show ∃ C', X8_dull_b37s (X8_dull_b37 g) w lg fr rw (nI d) Ck = _ ∧ _
    unfold X8_dull_b37s dlf
    rw [if_neg (by rw [c_le (by omega) (by omega)]; omega), e2, bnd_ok]
    have key : ∀ r : Int32, ∃ C', X8_dull_b64 (X8_dull_b37 g) w lg fr (nI d) r C2 = some (if w = 0 then (if r ≤ lg then dlf (bl np id (C 15) (C 12 5) G q) m (d + 1) lg fr r else dlf (bl np id (C 15) (C 12 5) G q) m (d + 1) r (nI d - r + 1) r).1 else (if r ≤ lg then dlf (bl np id (C 15) (C 12 5) G q) m (d + 1) lg fr r else dlf (bl np id (C 15) (C 12 5) G q) m (d + 1) r (nI d - r + 1) r).2, C') ∧ ∀ j, j ≠ 98 → C' j = C1 j := by
      intro r
      unfold X8_dull_b64 X8_dull_b83
      by_cases hr : r ≤ lg
      · rw [if_pos hr, if_pos hr, nI_1]
        exact ih (d + 1) g lg fr r C2 (by omega) (by omega) a2 b2
      · rw [if_neg hr, if_neg hr, bindv_ok, nI_1]
        exact ih (d + 1) g r _ r C2 (by omega) (by omega) a2 b2
    by_cases hb : bl np id (C 15) (C 12 5) G q d = true
    · rw [hb, if_neg (by decide), if_pos rfl]
      exact key 0
    · rw [if_pos (b2i_0.mpr (Bool.not_eq_true _ |>.mp hb)), if_neg hb]
      exact key (rw + 1)
theorem dullM {M : FMem} {np n : Nat} {sd : Nat → Int32} {fd : Int32} {G : Nat → Nat → Int32} {q : Nat × Int32} {day0 hid : Int32} {dy tp sg : Nat → Int32} (hO : MoOK M np n id) (hq : q.1 < np) (hsd : ∀ p, p < np → sdM M p = sd p) (hfd : M 0 2 = fd) (hG : ∀ d p, p < np → gM (kdM M) (tsM M) n hid dy tp sg (M 0 20) (M 0 21) (day0 + nI d) p = G d p) (w : Int32) : ∀ (m d f : Nat) (lg fr rw : Int32) (N : Nat → Int32), d + m = 40 → m < f → NWr N np id (rn np id sd fd G q d) (day0 + nI d) n hid dy tp sg →
    ∃ N', X9_dull_b30 f w lg fr rw (nI d) (rset M 11 N) = some (if w = 0 then (dlf (bl np id sd fd G q) m d lg fr rw).1 else (dlf (bl np id sd fd G q) m d lg fr rw).2, rset M 11 N') := by
  intro m
  induction m with
  | zero =>
    intro d f lg fr rw N hd hf h2
    obtain ⟨g, rfl, -⟩ := fu_s hf
    have hd : d = 40 := by omega
    subst hd
    refine ⟨N, ?_⟩
    show X9_dull_b30s (X9_dull_b30 g) w lg fr rw (nI 40) _ = _
    unfold X9_dull_b30s dlf
    rw [if_pos (by decide)]
    by_cases hw : w = 0
    · rw [if_pos hw, if_pos hw]
    · rw [if_neg hw, if_neg hw]
  | succ m ih =>
    intro d f lg fr rw N hd hf h2
    obtain ⟨g, rfl, hg⟩ := fu_s hf
    obtain ⟨N1, e1, a1, -⟩ := goes_stepR hO hq hsd hfd d (hG d) N h2
    show ∃ N', X9_dull_b30s (X9_dull_b30 g) w lg fr rw (nI d) _ = _
    unfold X9_dull_b30s dlf
    rw [if_neg (by rw [c_le (by omega) (by omega)]; omega), e1, bnd_ok]
    have key : ∀ r : Int32, ∃ N', X9_dull_b52 (X9_dull_b30 g) w lg fr (nI d) r (rset M 11 N1) = some (if w = 0 then (if r ≤ lg then dlf (bl np id sd fd G q) m (d + 1) lg fr r else dlf (bl np id sd fd G q) m (d + 1) r (nI d - r + 1) r).1 else (if r ≤ lg then dlf (bl np id sd fd G q) m (d + 1) lg fr r else dlf (bl np id sd fd G q) m (d + 1) r (nI d - r + 1) r).2, rset M 11 N') := by
      intro r
      unfold X9_dull_b52 X9_dull_b71 X9_dull_b84
      by_cases hr : r ≤ lg
      · rw [if_pos hr, if_pos hr, if_pos hr, nI_1]
        exact ih (d + 1) g lg fr r N1 (by omega) (by omega) a1
      · rw [if_neg hr, if_neg hr, if_neg hr, nI_1]
        exact ih (d + 1) g r _ r N1 (by omega) (by omega) a1
    by_cases hb : bl np id sd fd G q d = true
    · rw [hb, if_neg (by decide), if_pos rfl]
      exact key 0
    · rw [if_pos (b2i_0.mpr (Bool.not_eq_true _ |>.mp hb)), if_neg hb]
      exact key (rw + 1)
theorem op_dull (a1 : Int32) : OpOK (f_X8_dull a1) (f_X9_dull a1) := by
  intro C M h
  have h' := h
  obtain ⟨np, hrc, hmr, -⟩ := h
  unfold f_X8_dull f_X9_dull
  rcases in_ok a1 (lo := 0) (hi := 1) (by decide) (by decide) M with ⟨w, -, hw, rfl, hi1⟩ | ⟨hno, hi1⟩
  · have hi1' : f_X9_in (nI w) 0 1 M = some (1, M) := hi1
    rw [hi1', bnd_ok, if_neg (by decide), (isHalf_ok (nI w) C).1 w hw rfl, bnd_ok, if_neg (by decide)]
    obtain ⟨M1, K, n, e1, m1, b1, b21, hK, hn, hC1, h23, hO, hN, hsd, hfd, hG, -, -⟩ := fromM hrc hmr
    obtain ⟨Ca, C1, e2, e3, c1, hcl, hrg, -⟩ := setC (hm := 40) hrc hn h23 (by omega) hK hC1
    obtain ⟨C2, e4, c2⟩ := dullC (C := C) (G := GT C n (C 21 3)) (q := (K, C 21 2)) hcl c1 hK (nI w) 40 0 FU 0 (-4) 0 C1 (by omega) (FU_gt (by omega)) (fun _ _ => rfl) hrg
    obtain ⟨N', e5⟩ := dullM hO hK hsd hfd (hG (C 21 3)) (nI w) 40 0 FU 0 (-4) 0 (M1 11) (by omega) (FU_gt (by omega)) (by rw [show (nI 0) = (0 : Int32) from rfl, Int32.add_zero]; exact hN)
    rw [rset_self] at e5
    have e2' : f_X8_lookAhead 40 C = some (0, Ca) := e2
    have e4' : X8_dull_b37 FU (nI w) 0 (-4) 0 0 C1 = _ := e4
    have e5' : X9_dull_b30 FU (nI w) 0 (-4) 0 0 M1 = _ := e5
    rw [e2', bnd_ok, e3, bnd_ok, e4', e1, bnd_ok, e5']
    exact ⟨_, _, _, rfl, rfl, h'.query (fun j hj => by rw [c2 j (by omega), c1 j hj]) (fun j j1 j2 => by rw [rset_ne _ _ (by omega), m1 j (by omega) (by omega)]) (fun k _ k2 => by rw [rset_ne _ _ (by decide), b1 k k2])⟩
  · have hi1' : f_X9_in a1 0 1 M = some (0, M) := hi1
    rw [hi1', bnd_ok, if_pos rfl, (isHalf_ok a1 C).2 hno, bnd_ok, if_pos rfl]
    exact ⟨_, _, _, rfl, rfl, h'⟩
/-! content -/
def ctf (g sd : Nat → Int32) : Nat → Nat → Int32 → Int32
  | 0, _, acc => acc
  | m + 1, i, acc => ctf g sd m (i + 1) (if sd i ≤ g i then acc ||| ((1 : Int32) <<< (nI i &&& 31)) else acc)
theorem contentC {C1 : FMem} {np hm D : Nat} {G : Nat → Nat → Int32} (hcl : ClOK C1 np hm G) (hD : D < hm) : ∀ (m i f : Nat) (acc : Int32), i + m = np → m < f → X8_content_b20 f (nI D) acc (nI i) C1 = some (ctf (G D) (C1 15) m i acc, C1) := by
  obtain ⟨p6, q1, q2, q3, q4, q5⟩ := hcl
  intro m
  induction m with
  | zero =>
    intro i f acc hi hf
    obtain ⟨g, rfl, -⟩ := fu_s hf
    have hi : i = np := by omega
    subst hi
    show X8_content_b20s (X8_content_b20 g) _ _ _ C1 = _
    unfold X8_content_b20s
    rw [q1, if_pos (Int32.le_refl _)]
    rfl
  | succ m ih =>
    intro i f acc hi hf
    obtain ⟨g, rfl, hg⟩ := fu_s hf
    show X8_content_b20s (X8_content_b20 g) _ _ _ C1 = _
    unfold X8_content_b20s ctf X8_content_b57
    have eg : gC C1 hm D i = G D i := by unfold gC; rw [if_pos hD]; exact q5 D i hD (by omega)
    rw [q1, if_neg (by rw [nI_leI (by omega) (by omega)]; omega), gainOf_ok C1 q3 q4 (by omega) (by omega), bnd_ok, eg, standsOf_ok C1 (by omega), bnd_ok, nI_1]
    by_cases hs : C1 15 i ≤ G D i
    · rw [if_neg (Int32.not_lt.mpr hs), bindv_ok, if_pos hs]
      exact ih (i + 1) g _ (by omega) (by omega)
    · rw [if_pos (Int32.not_le.mp hs), if_neg hs]
      exact ih (i + 1) g _ (by omega) (by omega)
theorem contentM {M : FMem} {np n : Nat} {q : Nat × Int32} {day hid : Int32} {dy tp sg : Nat → Int32} (hO : MoOK M np n id) (h : NWr (M 11) np id q day n hid dy tp sg) : ∀ (m i f : Nat) (acc : Int32), i + m = np → m < f → X9_content_b34 f acc (nI i) M = some (ctf (gM (kdM M) (tsM M) n hid dy tp sg (M 0 20) (M 0 21) day) (sdM M) m i acc, M) := by
  obtain ⟨hp1, hp, hn, hM, hf0, hln⟩ := hO
  intro m
  induction m with
  | zero =>
    intro i f acc hi hf
    obtain ⟨g, rfl, -⟩ := fu_s hf
    have hi : i = np := by omega
    subst hi
    show X9_content_b34s (X9_content_b34 g) _ _ M = _
    unfold X9_content_b34s
    rw [hM, if_pos (Int32.le_refl _)]
    rfl
  | succ m ih =>
    intro i f acc hi hf
    obtain ⟨g, rfl, hg⟩ := fu_s hf
    show X9_content_b34s (X9_content_b34 g) _ _ M = _
    unfold X9_content_b34s ctf X9_content_b64
    rw [hM, if_neg (by rw [nI_leI (by omega) (by omega)]; omega), X9_comes_ok M (i := i) (n := n) (by omega) hn h.2.2.1 hf0, bnd_ok, cmV_gM h, Int32.zero_div, Int32.zero_add, X9_isEnough_ok M (by omega), bnd_ok, bindv_ok, bindv_ok, nI_1]
    by_cases hs : sdM M i ≤ gM (kdM M) (tsM M) n hid dy tp sg (M 0 20) (M 0 21) day i
    · have hs' : M 1 (3 * i + 2) ≤ gM (kdM M) (tsM M) n hid dy tp sg (M 0 20) (M 0 21) day i := hs
      rw [if_pos hs', if_neg (by decide), if_pos hs]
      exact ih (i + 1) g _ (by omega) (by omega)
    · have hs' : ¬ M 1 (3 * i + 2) ≤ gM (kdM M) (tsM M) n hid dy tp sg (M 0 20) (M 0 21) day i := hs
      rw [if_neg hs', if_pos rfl, if_neg hs, Int32.or_zero]
      exact ih (i + 1) g _ (by omega) (by omega)
theorem ctf_congr {g g' sd sd' : Nat → Int32} : ∀ m i acc, (∀ p, i ≤ p → p < i + m → g p = g' p ∧ sd p = sd' p) → ctf g sd m i acc = ctf g' sd' m i acc := by
  intro m
  induction m with
  | zero => intros; rfl
  | succ m ih =>
    intro i acc h
    unfold ctf
    rw [(h i (by omega) (by omega)).1, (h i (by omega) (by omega)).2]
    exact ih (i + 1) _ (fun p h1 h2 => h p (by omega) (by omega))
theorem op_content (a1 : Int32) : OpOK (f_X8_content a1) (f_X9_content a1) := by
  intro C M h
  have h' := h
  obtain ⟨np, hrc, hmr, -⟩ := h
  unfold f_X8_content f_X9_content
  rcases in_ok a1 (lo := 0) (hi := 40) (by decide) (by decide) M with ⟨D, -, hD, rfl, hi1⟩ | ⟨hno, hi1⟩
  · have hi1' : f_X9_in (nI D) 0 40 M = some (1, M) := hi1
    rw [hi1', bnd_ok, if_neg (by decide), (isDay_ok (nI D) C).1 D hD rfl, bnd_ok, if_neg (by decide), nI_1]
    obtain ⟨M1, K, n, e1, m1, b1, b21, hK, hn, hC1, h23, hO, hN, hsd, hfd, hG, -, -⟩ := fromM hrc hmr
    obtain ⟨C1, e2, c1, -, -, hcl⟩ := aheadC (hm := D + 1) hrc hn h23 (by omega)
    have e4 := contentC hcl (D := D) (by omega) np 0 FU 0 (by omega) (FU_gt (by have := hrc.2.1; omega))
    rw [e2, bnd_ok, e1, bnd_ok, bindm_ok, fset_eq]
    have hO2 := hO.row (upd (M1 11) 0 (M1 11 0 + nI D))
    have hN2 : NWr (rset M1 11 (upd (M1 11) 0 (M1 11 0 + nI D)) 11) np id (K, C 21 2) (C 21 0 + nI D) n (C 21 3) (C 24) (C 25) (C 26) := by
      rw [rset_same]
      obtain ⟨n0, n1, n2, n3, n4, n5⟩ := hN
      refine ⟨by rw [upd_same, n0], by rw [upd_ne _ _ (by omega)]; exact n1, by rw [upd_ne _ _ (by omega)]; exact n2, by rw [upd_ne _ _ (by omega)]; exact n3, fun j hj => by rw [upd_ne _ _ (by omega)]; exact n4 j hj, fun k hk => ?_⟩
      rw [upd_ne _ _ (by omega), upd_ne _ _ (by omega), upd_ne _ _ (by omega)]
      exact n5 k hk
    have e5 := contentM hO2 hN2 np 0 FU 0 (by omega) (FU_gt (by have := hrc.2.1; omega))
    have e4' : X8_content_b20 FU (nI D) 0 0 C1 = _ := e4
    have e5' : X9_content_b34 FU 0 0 (rset M1 11 (upd (M1 11) 0 (M1 11 0 + nI D))) = _ := e5
    rw [e4', e5']
    have ec : ctf (gM (kdM (rset M1 11 (upd (M1 11) 0 (M1 11 0 + nI D)))) (tsM (rset M1 11 (upd (M1 11) 0 (M1 11 0 + nI D)))) n (C 21 3) (C 24) (C 25) (C 26) (rset M1 11 (upd (M1 11) 0 (M1 11 0 + nI D)) 0 20) (rset M1 11 (upd (M1 11) 0 (M1 11 0 + nI D)) 0 21) (C 21 0 + nI D)) (sdM (rset M1 11 (upd (M1 11) 0 (M1 11 0 + nI D)))) np 0 0 = ctf (GT C n (C 21 3) D) (C1 15) np 0 0 := by
      refine ctf_congr np 0 0 (fun p _ hp => ⟨?_, ?_⟩)
      · have e0 : rset M1 11 (upd (M1 11) 0 (M1 11 0 + nI D)) 0 = M1 0 := rset_ne _ _ (by decide)
        have e1' : rset M1 11 (upd (M1 11) 0 (M1 11 0 + nI D)) 1 = M1 1 := rset_ne _ _ (by decide)
        have ek : kdM (rset M1 11 (upd (M1 11) 0 (M1 11 0 + nI D))) = kdM M1 := by unfold kdM; rw [e1']
        have et : tsM (rset M1 11 (upd (M1 11) 0 (M1 11 0 + nI D))) = tsM M1 := by unfold tsM; rw [e1']
        rw [e0, ek, et]
        exact hG (C 21 3) D p (by omega)
      · have e1' : rset M1 11 (upd (M1 11) 0 (M1 11 0 + nI D)) 1 = M1 1 := rset_ne _ _ (by decide)
        have es : sdM (rset M1 11 (upd (M1 11) 0 (M1 11 0 + nI D))) = sdM M1 := by unfold sdM; rw [e1']
        rw [es, hsd p (by omega), c1 15 (by decide)]
    rw [ec]
    exact ⟨_, _, _, rfl, rfl, h'.query c1 (fun j j1 j2 => by rw [rset_ne _ _ (by omega), m1 j (by omega) (by omega)]) (fun k _ k2 => by rw [rset_ne _ _ (by decide), b1 k k2])⟩
  · have hi1' : f_X9_in a1 0 40 M = some (0, M) := hi1
    rw [hi1', bnd_ok, if_pos rfl, (isDay_ok a1 C).2 hno, bnd_ok, if_pos rfl]
    exact ⟨_, _, _, rfl, rfl, h'⟩
