/-- the gains when the set's days have one thing more -/
def GS (C : FMem) (n : Nat) (mt ms : Int32) (j : Nat) (d p : Nat) : Int32 := if bt (nI j) d = true then GX C n mt ms d p else GT C n (C 21 3) d p
theorem staysWith_loop {C C1 : FMem} {np hm n K j : Nat} (hc : CtOK C np) (hm6 : hm ≤ 6) (hK : K < np) (h94 : ∀ j, j < 94 → C1 j = C j) (hol : OL C1 23 (C 21 3) (C 21 0) hm n) (hG : ∀ d p, d < hm → p < np → C1 97 (d * 6 + p) = GT C n (C 21 3) d p) (mt ms : Int32) : ∀ (m d f : Nat) (I : Int32), d + m = hm → m < f →
    X8_staysWith_b21 f mt ms (nI j) (nI hm) (nI K) I (nI d) C1 = some (b2i (stf (fun e => GS C n mt ms j e K) (C 15 K) (C 12 5) m d I), C1) := by
  have hp6 := hc.2.1
  have hf1 : fdOK (C1 12 5) := by rw [h94 12 (by decide)]; exact hc.2.2.2.1
  intro m
  induction m with
  | zero =>
    intro d f I hd hf
    obtain ⟨g, rfl, -⟩ := fu_s hf
    have hd : d = hm := by omega
    subst hd
    show X8_staysWith_b21s (X8_staysWith_b21 g) _ _ _ _ _ _ _ C1 = _
    unfold X8_staysWith_b21s stf
    rw [if_pos (Int32.le_refl _)]
    rfl
  | succ m ih =>
    intro d f I hd hf
    obtain ⟨g, rfl, hg⟩ := fu_s hf
    obtain ⟨ta, hta, eta⟩ := hc.2.2.2.2 K hK
    have hgc : gC C1 hm d K = GT C n (C 21 3) d K := by unfold gC; rw [if_pos (by omega)]; exact hG d K (by omega) hK
    have h96 : C1 96 d = hdv (prD (C 24) (C 21 0 + nI d) (C 21 3)) (C 25) n := by rw [hol.had (by omega) (by omega), h94 24 (by decide), h94 25 (by decide)]
    show X8_staysWith_b21s (X8_staysWith_b21 g) _ _ _ _ _ _ _ C1 = _
    unfold X8_staysWith_b21s stf
    rw [if_neg (by rw [nI_leI (by omega) (by omega)]; omega), faded_ok C1 hf1, bnd_ok, gainOf_ok C1 (hm := hm) (d := d) (p := K) (by omega) hol.2.2.1 (by omega) (by omega), bnd_ok, bindv_ok, hgc, h94 12 (by decide)]
    have key : ∀ v : Int32, v = I / C 12 5 + GS C n mt ms j d K → X8_staysWith_b79 (X8_staysWith_b21 g) mt ms (nI j) (nI hm) (nI K) v (nI d) C1 = some (b2i (if C 15 K ≤ I / C 12 5 + GS C n mt ms j d K then false else stf (fun e => GS C n mt ms j e K) (C 15 K) (C 12 5) m (d + 1) (I / C 12 5 + GS C n mt ms j d K)), C1) := by
      intro v hv
      unfold X8_staysWith_b79
      rw [standsOf_ok C1 (by omega), bnd_ok, h94 15 (by decide), ← hv, nI_1]
      by_cases hs : C 15 K ≤ v
      · rw [if_neg (Int32.not_lt.mpr hs), if_pos hs]; rfl
      · rw [if_pos (Int32.not_le.mp hs), if_neg hs]
        exact ih (d + 1) g v (by omega) (by omega)
    by_cases hb : bt (nI j) d = true
    · rw [if_pos ((has_1 (by omega)).mpr hb), oneMore_ok C1 (hm := hm) (d := d) (p := K) (ta := ta) (by omega) hol.2.2.1 (by omega) (by omega) hta (by rw [h94 14 (by decide)]; exact eta), bnd_ok, bindv_ok]
      refine key _ ?_
      unfold GS GX
      rw [if_pos hb, h94 13 (by decide), h94 14 (by decide), h96, hol.2.1, Int32.add_assoc]
    · rw [if_neg (fun q => hb ((has_1 (by omega)).mp q))]
      refine key _ ?_
      unfold GS
      rw [if_neg hb]
theorem staysWith_ok {C C1 : FMem} {np hm n K j : Nat} (hc : CtOK C np) (hm6 : hm ≤ 6) (hK : K < np) (h1 : C 21 1 = nI K) (h94 : ∀ j, j < 94 → C1 j = C j) (hol : OL C1 23 (C 21 3) (C 21 0) hm n) (hG : ∀ d p, d < hm → p < np → C1 97 (d * 6 + p) = GT C n (C 21 3) d p) (mt ms : Int32) :
    f_X8_staysWith mt ms (nI j) (nI hm) C1 = some (b2i (!(ab (bl np id (C 15) (C 12 5) (GS C n mt ms j) (K, C 21 2)) hm)), C1) := by
  unfold f_X8_staysWith
  rw [bindv_ok, bindv_ok, h94 21 (by decide), h1]
  have h := staysWith_loop (j := j) hc hm6 hK h94 hol hG mt ms hm 0 FU (C 21 2) (by omega) (FU_gt (by omega))
  rw [stf_ab (np := np)] at h
  exact h
/-- which sets of days keep him -/
def lsF (C : FMem) (np n hm K : Nat) (mt ms : Int32) (j : Nat) : Bool := !(ab (bl np id (C 15) (C 12 5) (GS C n mt ms j) (K, C 21 2)) hm)
def lsR (w : Int32) (hm good : Nat) : Int32 := if w = 0 then nI good / nI (Nat.gcd good (10 ^ hm)) else nI (10 ^ hm) / nI (Nat.gcd good (10 ^ hm))
theorem lastsC {C C1 : FMem} {np hm n K x : Nat} (hc : CtOK C np) (hm6 : hm ≤ 6) (hx : x ≤ 10) (hK : K < np) (h1 : C 21 1 = nI K) (h94 : ∀ j, j < 94 → C1 j = C j) (hol : OL C1 23 (C 21 3) (C 21 0) hm n) (hG : ∀ d p, d < hm → p < np → C1 97 (d * 6 + p) = GT C n (C 21 3) d p) (mt ms w : Int32) : ∀ (m j f acc : Nat), j + m = 2 ^ hm → m < f → acc ≤ wS x hm j →
    X8_lasts_b57 f (nI hm) mt ms (nI x) w (nI acc) (nI j) C1 = some (lsR w hm (gsm (lsF C np n hm K mt ms) (fun j => wgN x j hm) m j acc), C1) := by
  have h2p : 2 ^ hm ≤ 64 := Nat.pow_le_pow_right (by decide) hm6
  have h10p : 10 ^ hm ≤ 1000000 := Nat.pow_le_pow_right (by decide) hm6
  have h10p1 : 1 ≤ 10 ^ hm := Nat.one_le_pow _ _ (by decide)
  have hall := wS_all hm (by omega) x (by omega)
  intro m
  induction m with
  | zero =>
    intro j f acc hj hf ha
    obtain ⟨g, rfl, -⟩ := fu_s hf
    have hj : j = 2 ^ hm := by omega
    have ha10 : acc ≤ 10 ^ hm := by rw [← hall, ← hj]; exact ha
    show X8_lasts_b57s (X8_lasts_b57 g) _ _ _ _ _ _ _ C1 = _
    unfold X8_lasts_b57s gsm
    rw [sh1 hm (by omega), if_pos (by rw [nI_leI (by omega) (by omega)]; omega), power_ok C1 10 (show hm < 90000 by omega), bnd_ok, pw10 hm (by omega)]
    unfold f_X8_greatestDivisor
    have hg := gcd_loopC C1 20 (10 ^ hm) acc 0 FU (by omega) (by omega) (by decide) (by decide) (FU_gt (by decide))
    have hg' : X8_greatestDivisor_b2 FU (nI (10 ^ hm)) (nI acc) 0 C1 = _ := hg
    have hgle : Nat.gcd acc (10 ^ hm) ≤ 10 ^ hm := Nat.le_of_dvd (by omega) (Nat.gcd_dvd_right _ _)
    have hgpos : 0 < Nat.gcd acc (10 ^ hm) := Nat.gcd_pos_of_pos_right _ (by omega)
    have hj1 : jmax 1 (nI (Nat.gcd acc (10 ^ hm))) = nI (Nat.gcd acc (10 ^ hm)) := by
      unfold jmax
      by_cases h1 : 1 < Nat.gcd acc (10 ^ hm)
      · rw [if_pos (show (1 : Int32) < nI (Nat.gcd acc (10 ^ hm)) by rw [c_gt (by omega) (by omega)]; exact h1)]
      · rw [if_neg (show ¬ (1 : Int32) < nI (Nat.gcd acc (10 ^ hm)) by rw [c_gt (by omega) (by omega)]; exact h1), show Nat.gcd acc (10 ^ hm) = 1 by omega]
        rfl
    have hnz : nz (nI (Nat.gcd acc (10 ^ hm))) = true := by unfold nz; rw [decide_eq_true_eq]; exact nI_ne0 hgpos (by omega)
    rw [hg', bnd_ok, bindv_ok, hj1, grd_ok hnz, grd_ok hnz]
    unfold lsR
    by_cases hw : w = 0
    · rw [if_pos hw, if_pos hw]
    · rw [if_neg hw, if_neg hw]
  | succ m ih =>
    intro j f acc hj hf ha
    obtain ⟨g, rfl, hg⟩ := fu_s hf
    have ha10 : wS x hm (j + 1) ≤ 10 ^ hm := by rw [← hall]; exact wS_mono x hm _ _ (by omega)
    have hws : wS x hm (j + 1) = wS x hm j + wgN x j hm := rfl
    show X8_lasts_b57s (X8_lasts_b57 g) _ _ _ _ _ _ _ C1 = _
    unfold X8_lasts_b57s gsm X8_lasts_b109
    rw [sh1 hm (by omega), if_neg (by rw [nI_leI (by omega) (by omega)]; omega), staysWith_ok (j := j) hc hm6 hK h1 h94 hol hG, bnd_ok, nI_1]
    by_cases hF : lsF C np n hm K mt ms j = true
    · have hF' : (!(ab (bl np id (C 15) (C 12 5) (GS C n mt ms j) (K, C 21 2)) hm)) = true := hF
      have hpc := pcN_le hm (by omega) j (by omega)
      rw [hF', if_neg (show ¬ b2i true = 0 by decide), if_pos hF, J6_ok, bnd_ok, pcN_ok j (by omega), power_ok C1 _ (show pcN j < 90000 by omega), bnd_ok, pk_sub hpc, power_ok C1 _ (show hm - pcN j < 90000 by omega), bnd_ok, bindv_ok, (wgN_ok hm (by omega) j (by omega) x (by omega)).2, nI_add]
      exact ih (j + 1) g _ (by omega) (by omega) (by omega)
    · have hF' : (!(ab (bl np id (C 15) (C 12 5) (GS C n mt ms j) (K, C 21 2)) hm)) = false := Bool.not_eq_true _ |>.mp hF
      rw [hF', if_pos (show b2i false = 0 by decide), if_neg hF]
      exact ih (j + 1) g _ (by omega) (by omega) (by omega)
/-! the reference -/
theorem lastsM_in {C M : FMem} {np n hm K j : Nat} (k84 : Int32 → Int32 → Int32 → Int32 → Int32 → Int32 → Int32 → Int32 → FMem → Opt) (hO : MoOK M np n id) (hm6 : hm ≤ 6) (hK : K < np) (hsd : ∀ p, p < np → sdM M p = C 15 p) (hfd : M 0 2 = C 12 5) (hkt : ∀ p, p < np → kdM M p = C 13 p ∧ tsM M p = C 14 p) {mt ms x w A B : Int32} (hms : ¬ ms ≤ 0) : ∀ (m d f : Nat) (Mk : FMem), d + m = hm → m < f → (∀ j, j ≠ 0 → j ≠ 11 → Mk j = M j) → (∀ k, k ≠ 20 → k ≠ 21 → Mk 0 k = M 0 k) → Mk 0 20 = mt → NWr (Mk 11) np id (rn np id (C 15) (C 12 5) (GS C n mt ms j) (K, C 21 2) d) (C 21 0 + nI d) n (C 21 3) (C 24) (C 25) (C 26) →
    ∃ M', X9_lasts_b114 k84 f (nI hm) mt ms x w A B (nI j) (wtI x (nI j) d) (b2i (ab (bl np id (C 15) (C 12 5) (GS C n mt ms j) (K, C 21 2)) d)) (nI d) Mk = k84 (nI hm) mt ms x w (if lsF C np n hm K mt ms j = true then A + wtI x (nI j) hm else A) B (nI j + 1) M' ∧ (∀ j, j ≠ 0 → j ≠ 11 → M' j = M j) ∧ (∀ k, k ≠ 20 → k ≠ 21 → M' 0 k = M 0 k) := by
  intro m
  induction m with
  | zero =>
    intro d f Mk hd hf h1 h2 h20 h3
    obtain ⟨g, rfl, -⟩ := fu_s hf
    have hd : d = hm := by omega
    subst hd
    refine ⟨Mk, ?_, h1, h2⟩
    show X9_lasts_b114s k84 (X9_lasts_b114 k84 g) _ _ _ _ _ _ _ _ _ _ _ Mk = _
    unfold X9_lasts_b114s X9_lasts_b202 lsF
    rw [if_pos (Int32.le_refl _)]
    cases ab (bl np id (C 15) (C 12 5) (GS C n mt ms j) (K, C 21 2)) d with
    | false => rw [if_pos (show b2i false = 0 by decide), bindv_ok, if_pos (show (!false) = true by decide)]
    | true => rw [if_neg (show ¬ b2i true = 0 by decide), bindv_ok, if_neg (show ¬ (!true) = true by decide), Int32.add_zero]
  | succ m ih =>
    intro d f Mk hd hf h1 h2 h20 h3
    obtain ⟨g, rfl, hg⟩ := fu_s hf
    have ekt : ∀ mt ms p, p < np → gM (kdM M) (tsM M) n (C 21 3) (C 24) (C 25) (C 26) mt ms (C 21 0 + nI d) p = gM (C 13) (C 14) n (C 21 3) (C 24) (C 25) (C 26) mt ms (C 21 0 + nI d) p := fun mt ms p hp => by
      unfold gM
      rw [(hkt p hp).1, (hkt p hp).2]
    have key : ∀ (ms' fac : Int32), (∀ p, p < np → gM (kdM M) (tsM M) n (C 21 3) (C 24) (C 25) (C 26) mt ms' (C 21 0 + nI d) p = GS C n mt ms j d p) → wtI x (nI j) (d + 1) = wtI x (nI j) d * fac →
        ∃ M', X9_lasts_b161 k84 (X9_lasts_b114 k84 g) (nI hm) mt ms x w A B (nI j) (b2i (ab (bl np id (C 15) (C 12 5) (GS C n mt ms j) (K, C 21 2)) d)) (nI d) (wtI x (nI j) d) fac (fset Mk 0 21 ms') = k84 (nI hm) mt ms x w (if lsF C np n hm K mt ms j = true then A + wtI x (nI j) hm else A) B (nI j + 1) M' ∧ (∀ j, j ≠ 0 → j ≠ 11 → M' j = M j) ∧ (∀ k, k ≠ 20 → k ≠ 21 → M' 0 k = M 0 k) := by
      intro ms' fac hgm hfac
      generalize hMa : fset Mk 0 21 ms' = Ma
      have ka : ∀ j, j ≠ 0 → Ma j = Mk j := fun j hj => by rw [← hMa, fset_ne _ _ _ hj]
      have k20 : Ma 0 20 = mt := by rw [← hMa, fset_slot _ _ _ _ (by decide)]; exact h20
      have k21 : Ma 0 21 = ms' := by rw [← hMa, fset_at]
      have k0 : ∀ k, k ≠ 20 → k ≠ 21 → Ma 0 k = M 0 k := fun k a b => by rw [← hMa, fset_slot _ _ _ _ b, h2 k a b]
      have e1r : Ma 1 = M 1 := by rw [ka 1 (by decide), h1 1 (by decide) (by decide)]
      have ek : kdM Ma = kdM M := by unfold kdM; rw [e1r]
      have et : tsM Ma = tsM M := by unfold tsM; rw [e1r]
      have es : sdM Ma = sdM M := by unfold sdM; rw [e1r]
      have hOa : MoOK Ma np n id := by
        obtain ⟨o1, o2, o3, o4, o5, o6⟩ := hO
        exact ⟨o1, o2, o3, by rw [k0 0 (by decide) (by decide)]; exact o4, by rw [k0 2 (by decide) (by decide)]; exact o5, o6⟩
      obtain ⟨N', e2, a2, -⟩ := goes_step (M := Ma) (sd := C 15) (fd := C 12 5) (G := GS C n mt ms j) (q := (K, C 21 2)) hOa hK (by rw [es]; exact hsd) (by rw [k0 2 (by decide) (by decide)]; exact hfd) d (by rw [ek, et, k20, k21]; exact hgm) (by rw [ka 11 (by decide)]; exact h3)
      have ih' := ih (d + 1) g (rset Ma 11 N') (by omega) (by omega) (fun j j1 j2 => by rw [rset_ne _ _ j2, ka j j1, h1 j j1 j2]) (fun k a b => by rw [rset_ne _ _ (by decide), k0 k a b]) (by rw [rset_ne _ _ (by decide)]; exact k20) (by rw [rset_same]; exact a2)
      unfold X9_lasts_b161 X9_lasts_b176 X9_lasts_b181
      rw [bindv_ok, e2, bnd_ok, nI_1, ← hfac]
      have eab : ab (bl np id (C 15) (C 12 5) (GS C n mt ms j) (K, C 21 2)) (d + 1) = (bl np id (C 15) (C 12 5) (GS C n mt ms j) (K, C 21 2) d || ab (bl np id (C 15) (C 12 5) (GS C n mt ms j) (K, C 21 2)) d) := rfl
      rw [eab] at ih'
      cases hb : bl np id (C 15) (C 12 5) (GS C n mt ms j) (K, C 21 2) d with
      | true =>
        rw [hb] at ih'
        rw [if_neg (show ¬ b2i true = 0 by decide)]
        exact ih'
      | false =>
        rw [hb] at ih'
        rw [if_pos (show b2i false = 0 by decide)]
        cases hab : ab (bl np id (C 15) (C 12 5) (GS C n mt ms j) (K, C 21 2)) d with
        | true =>
          rw [hab] at ih'
          rw [if_neg (show ¬ b2i true = 0 by decide)]
          exact ih'
        | false =>
          rw [hab] at ih'
          rw [if_pos (show b2i false = 0 by decide)]
          exact ih'
    show ∃ M', X9_lasts_b114s k84 (X9_lasts_b114 k84 g) _ _ _ _ _ _ _ _ _ _ _ Mk = _ ∧ _
    unfold X9_lasts_b114s X9_lasts_b136
    rw [if_neg (by rw [nI_leI (by omega) (by omega)]; omega), X9_has_ok _ (show d < 32 by omega), bnd_ok]
    by_cases hb : bt (nI j) d = true
    · rw [if_pos hb, if_neg n10, bindm_ok, X9_has_ok _ (show d < 32 by omega), bnd_ok, if_pos hb, if_neg n10]
      refine key ms x (fun p hp => ?_) ?_
      · rw [ekt _ _ p hp, gM_pos hms]
        unfold GS GX GT
        rw [if_pos hb]
      · show wtI x (nI j) d * (if bt (nI j) d = true then x else 10 - x) = _
        rw [if_pos hb]
    · rw [if_neg hb, if_pos rfl, bindm_ok, X9_has_ok _ (show d < 32 by omega), bnd_ok, if_neg hb, if_pos rfl]
      refine key 0 (10 - x) (fun p hp => ?_) ?_
      · rw [ekt _ _ p hp, gM_0]
        unfold GS GT
        rw [if_neg hb]
      · show wtI x (nI j) d * (if bt (nI j) d = true then x else 10 - x) = _
        rw [if_neg hb]
theorem lastsM {C M : FMem} {np hm n K x : Nat} (hrc : RC C M np) (hmr : MR np C 21 (M 2)) (hn9 : n ≤ 9) (h23 : C 23 3 = nI n) (hm6 : hm ≤ 6) (hx : x ≤ 10) (hK : K < np) (hC1 : C 21 1 = nI K) {mt ms w : Int32} (hms : ¬ ms ≤ 0) : ∀ (m j f acc : Nat) (Mk : FMem), j + m = 2 ^ hm → m < f → acc ≤ wS x hm j → (∀ j, j ≠ 0 → j ≠ 11 → Mk j = M j) → (∀ k, k ≠ 20 → k ≠ 21 → Mk 0 k = M 0 k) →
    ∃ M', X9_lasts_b84 f (nI hm) mt ms (nI x) w (nI acc) (nI (10 ^ hm)) (nI j) Mk = some (lsR w hm (gsm (lsF C np n hm K mt ms) (fun j => wgN x j hm) m j acc), M') ∧ (∀ j, j ≠ 0 → j ≠ 11 → M' j = M j) ∧ (∀ k, k ≠ 20 → k ≠ 21 → M' 0 k = M 0 k) := by
  have h2p : 2 ^ hm ≤ 64 := Nat.pow_le_pow_right (by decide) hm6
  have h10p : 10 ^ hm ≤ 1000000 := Nat.pow_le_pow_right (by decide) hm6
  have h10p1 : 1 ≤ 10 ^ hm := Nat.one_le_pow _ _ (by decide)
  have hall := wS_all hm (by omega) x (by omega)
  have hp6 := hrc.2.1
  intro m
  induction m with
  | zero =>
    intro j f acc Mk hj hf ha hM h0
    obtain ⟨g, rfl, -⟩ := fu_s hf
    have hj : j = 2 ^ hm := by omega
    have ha10 : acc ≤ 10 ^ hm := by rw [← hall, ← hj]; exact ha
    refine ⟨Mk, ?_, hM, h0⟩
    show X9_lasts_b84s (X9_lasts_b84 g) _ _ _ _ _ _ _ _ Mk = _
    unfold X9_lasts_b84s gsm lsR
    have hgpos : 0 < Nat.gcd (10 ^ hm) acc := Nat.gcd_pos_of_pos_left _ (by omega)
    rw [sh1 hm (by omega), if_pos (by rw [nI_leI (by omega) (by omega)]; omega), gcd_loopM Mk w _ _ 20 acc (10 ^ hm) FU (by omega) (by omega) (by decide) hgpos (FU_gt (by decide)), Nat.gcd_comm]
  | succ m ih =>
    intro j f acc Mk hj hf ha hM h0
    obtain ⟨g, rfl, hg⟩ := fu_s hf
    have ha10 : wS x hm (j + 1) ≤ 10 ^ hm := by rw [← hall]; exact wS_mono x hm _ _ (by omega)
    have hws : wS x hm (j + 1) = wS x hm j + wgN x j hm := rfl
    have hrck : RC C Mk np := hrc.mv rfl rfl rfl rfl (h0 _ (by decide) (by decide)) (h0 _ (by decide) (by decide)) (hM _ (by decide) (by decide))
    have hmrk : MR np C 21 (Mk 2) := by rw [hM 2 (by decide) (by decide)]; exact hmr
    obtain ⟨M1, K', n', e1, m1, b1, b21, hK', hn', hC1', h23', hO, hN, hsd, hfd, hGm, -, -⟩ := fromM hrck hmrk
    have en : n' = n := (nI_eq (by omega) (by omega)).mp (h23'.symm.trans h23)
    have eK : K' = K := (nI_eq (by omega) (by omega)).mp (hC1'.symm.trans hC1)
    subst en; subst eK
    have hkt : ∀ p, p < np → kdM (fset M1 0 20 mt) p = C 13 p ∧ tsM (fset M1 0 20 mt) p = C 14 p := fun p hp => by
      unfold kdM tsM
      rw [fset_ne _ _ _ (by decide), m1 1 (by decide) (by decide), hM 1 (by decide) (by decide)]
      exact ⟨(hrc.2.2.2.2.2.2 p hp).2.1, (hrc.2.2.2.2.2.2 p hp).2.2.1⟩
    have hO2 : MoOK (fset M1 0 20 mt) np n' id := by
      obtain ⟨o1, o2, o3, o4, o5, o6⟩ := hO
      exact ⟨o1, o2, o3, by rw [fset_slot _ _ _ _ (by decide)]; exact o4, by rw [fset_slot _ _ _ _ (by decide)]; exact o5, o6⟩
    obtain ⟨M2, e2, a2, b2⟩ := lastsM_in (C := C) (j := j) (x := nI x) (w := w) (A := nI acc) (B := nI (10 ^ hm)) (X9_lasts_b84 g) hO2 hm6 hK' (by unfold sdM; rw [fset_ne _ _ _ (by decide)]; exact hsd) (by rw [fset_slot _ _ _ _ (by decide)]; exact hfd) hkt hms hm 0 FU (fset M1 0 20 mt) (by omega) (FU_gt (by omega)) (fun _ _ _ => rfl) (fun _ _ _ => rfl) (fset_at _ _ _ _) (by rw [fset_ne _ _ _ (by decide), show (nI 0) = (0 : Int32) from rfl, Int32.add_zero]; exact hN)
    have e2' : X9_lasts_b114 (X9_lasts_b84 g) FU (nI hm) mt ms (nI x) w (nI acc) (nI (10 ^ hm)) (nI j) 1 0 0 (fset M1 0 20 mt) = _ := e2
    have hM2 : ∀ j, j ≠ 0 → j ≠ 11 → M2 j = M j := fun j j1 j2 => by rw [a2 j j1 j2, fset_ne _ _ _ j1, m1 j j1 j2, hM j j1 j2]
    have h02 : ∀ k, k ≠ 20 → k ≠ 21 → M2 0 k = M 0 k := fun k k1 k2 => by rw [b2 k k1 k2, fset_slot _ _ _ _ k1, b1 k k2, h0 k k1 k2]
    show ∃ M', X9_lasts_b84s (X9_lasts_b84 g) _ _ _ _ _ _ _ _ Mk = _ ∧ _
    unfold X9_lasts_b84s gsm
    rw [sh1 hm (by omega), if_neg (by rw [nI_leI (by omega) (by omega)]; omega), e1, bnd_ok, bindm_ok, e2', nI_1]
    by_cases hF : lsF C np n' hm K' mt ms j = true
    · rw [if_pos hF, if_pos hF, (wgN_ok hm (by omega) j (by omega) x (by omega)).1, nI_add]
      exact ih (j + 1) g _ M2 (by omega) (by omega) (by omega) hM2 h02
    · rw [if_neg hF, if_neg hF]
      exact ih (j + 1) g _ M2 (by omega) (by omega) (by omega) hM2 h02
theorem below_loop (M : FMem) {hm : Nat} (hm6 : hm ≤ 6) (mt ms x w : Int32) : ∀ (m k f : Nat), k + m = hm → m < f → X9_lasts_b62 f (nI hm) mt ms x w 0 (pwi 10 k) (nI k) M = X9_lasts_b84 FU (nI hm) mt ms x w 0 (pwi 10 hm) 0 M := by
  intro m
  induction m with
  | zero =>
    intro k f hk hf
    obtain ⟨g, rfl, -⟩ := fu_s hf
    have hk : k = hm := by omega
    subst hk
    show X9_lasts_b62s (X9_lasts_b62 g) _ _ _ _ _ _ _ _ M = _
    unfold X9_lasts_b62s
    rw [if_pos (Int32.le_refl _)]
  | succ m ih =>
    intro k f hk hf
    obtain ⟨g, rfl, hg⟩ := fu_s hf
    show X9_lasts_b62s (X9_lasts_b62 g) _ _ _ _ _ _ _ _ M = _
    unfold X9_lasts_b62s
    rw [if_neg (by rw [nI_leI (by omega) (by omega)]; omega), bindv_ok, nI_1]
    exact ih (k + 1) g (by omega) (by omega)
theorem op_lasts (a1 a2 a3 a4 a5 : Int32) : OpOK (f_X8_lasts a1 a2 a3 a4 a5) (f_X9_lasts a1 a2 a3 a4 a5) := by
  intro C M h
  have h' := h
  obtain ⟨np, hrc, hmr, -⟩ := h
  unfold f_X8_lasts f_X9_lasts
  rcases in_ok a1 (lo := 0) (hi := 6) (by decide) (by decide) M with ⟨hm, -, hm6, rfl, hi1⟩ | ⟨hno, hi1⟩
  · have hi1' : f_X9_in (nI hm) 0 6 M = some (1, M) := hi1
    rw [hi1', bnd_ok, if_neg n10, if_neg (show ¬ nI hm < 0 from nI_pos (by omega)), if_neg (show ¬ (6 : Int32) < nI hm by rw [c_gt (by omega) (by omega)]; omega)]
    rcases in_ok a2 (lo := 1) (hi := 31) (by decide) (by decide) M with ⟨x2, x21, x22, rfl, hi2⟩ | ⟨hno2, hi2⟩
    · have hi2' : f_X9_in (nI x2) 1 31 M = some (1, M) := hi2
      rw [hi2', bnd_ok, if_neg n10, (isTopics_ok (nI x2) C).1 x2 x21 x22 rfl, bnd_ok, if_neg n10]
      rcases in_ok a3 (lo := 1) (hi := 9) (by decide) (by decide) M with ⟨x3, x31, x32, rfl, hi3⟩ | ⟨hno3, hi3⟩
      · have hi3' : f_X9_in (nI x3) 1 9 M = some (1, M) := hi3
        rw [hi3', bnd_ok, if_neg n10, (isStrength_ok (nI x3) C).1 x3 x31 x32 rfl, bnd_ok, if_neg n10]
        rcases in_ok a4 (lo := 0) (hi := 10) (by decide) (by decide) M with ⟨x, -, hx, rfl, hi4⟩ | ⟨hno4, hi4⟩
        · have hi4' : f_X9_in (nI x) 0 10 M = some (1, M) := hi4
          rw [hi4', bnd_ok, if_neg n10, if_neg (show ¬ nI x < 0 from nI_pos (by omega)), if_neg (show ¬ (10 : Int32) < nI x by rw [c_gt (by omega) (by omega)]; omega)]
          rcases in_ok a5 (lo := 0) (hi := 1) (by decide) (by decide) M with ⟨w, -, hw, rfl, hi5⟩ | ⟨hno5, hi5⟩
          · have hi5' : f_X9_in (nI w) 0 1 M = some (1, M) := hi5
            rw [hi5', bnd_ok, if_neg n10, (isHalf_ok (nI w) C).1 w hw rfl, bnd_ok, if_neg n10]
            have hmr' := hmr
            obtain ⟨-, -, -, ⟨K, k1, k2, -⟩, -, n, n1, n2, -, -, -⟩ := hmr
            obtain ⟨C1, e1, c1, -, hol, hcl⟩ := aheadC (hm := hm) hrc n1 n2 (by omega)
            have h2p : 2 ^ hm ≤ 64 := Nat.pow_le_pow_right (by decide) hm6
            have e2 := lastsC (C := C) (K := K) (x := x) hrc.ct hm6 hx k1 k2 c1 hol hcl.2.2.2.2.2 (nI x2) (nI x3) (nI w) (2 ^ hm) 0 FU 0 (by omega) (FU_gt (by omega)) (Nat.zero_le _)
            obtain ⟨M2, e3, d1, d2⟩ := lastsM (C := C) (K := K) (x := x) (mt := nI x2) (ms := nI x3) (w := nI w) hrc hmr' n1 n2 hm6 hx k1 k2 (nI_nle (by omega) (by omega)) (2 ^ hm) 0 FU 0 M (by omega) (FU_gt (by omega)) (Nat.zero_le _) (fun _ _ _ => rfl) (fun _ _ _ => rfl)
            have e4 := below_loop M hm6 (nI x2) (nI x3) (nI x) (nI w) hm 0 FU (by omega) (FU_gt (by omega))
            have e2' : X8_lasts_b57 FU (nI hm) (nI x2) (nI x3) (nI x) (nI w) 0 0 C1 = _ := e2
            have e4' : X9_lasts_b62 FU (nI hm) (nI x2) (nI x3) (nI x) (nI w) 0 1 0 M = _ := e4
            have e3' : X9_lasts_b84 FU (nI hm) (nI x2) (nI x3) (nI x) (nI w) 0 (nI (10 ^ hm)) 0 M = _ := e3
            rw [e1, bnd_ok, e2', e4', pw10 hm (by omega), e3']
            exact ⟨_, _, _, rfl, rfl, h'.query c1 (fun j j1 j2 => d1 j (by omega) (by omega)) d2⟩
          · have hi5' : f_X9_in a5 0 1 M = some (0, M) := hi5
            rw [hi5', bnd_ok, if_pos rfl, (isHalf_ok a5 C).2 hno5, bnd_ok, if_pos rfl]
            exact ⟨_, _, _, rfl, rfl, h'⟩
        · have hi4' : f_X9_in a4 0 10 M = some (0, M) := hi4
          rw [hi4', bnd_ok, if_pos rfl]
          refine ⟨-1, C, M, ?_, rfl, h'⟩
          rcases rng_out (by decide) (by decide) hno4 with h1 | ⟨h1, h2⟩
          · rw [if_pos (show a4 < 0 from h1)]
          · rw [if_neg (show ¬ a4 < 0 from h1), if_pos (show (10 : Int32) < a4 from h2)]
      · have hi3' : f_X9_in a3 1 9 M = some (0, M) := hi3
        rw [hi3', bnd_ok, if_pos rfl, (isStrength_ok a3 C).2 hno3, bnd_ok, if_pos rfl]
        exact ⟨_, _, _, rfl, rfl, h'⟩
    · have hi2' : f_X9_in a2 1 31 M = some (0, M) := hi2
      rw [hi2', bnd_ok, if_pos rfl, (isTopics_ok a2 C).2 hno2, bnd_ok, if_pos rfl]
      exact ⟨_, _, _, rfl, rfl, h'⟩
  · have hi1' : f_X9_in a1 0 6 M = some (0, M) := hi1
    rw [hi1', bnd_ok, if_pos rfl]
    refine ⟨-1, C, M, ?_, rfl, h'⟩
    rcases rng_out (by decide) (by decide) hno with h1 | ⟨h1, h2⟩
    · rw [if_pos (show a1 < 0 from h1)]
    · rw [if_neg (show ¬ a1 < 0 from h1), if_pos (show (6 : Int32) < a1 from h2)]
