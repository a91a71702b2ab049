/-! ===== one thing more ===== -/
theorem oneMore_ok (C : FMem) {hm d p ta : Nat} (hh : hm ≤ 61) (h3 : C 94 3 = nI hm) (hd : d < hm) (hp : p < 6) (hta : ta < 32) (hts : C 14 p = nI ta) (mt ms : Int32) : f_X2_gainOfOneMore (nI d) (nI p) mt ms C = some (cbv (C 13 p) (C 14 p) mt ms (C 96 d) (C 94 2 + nI d), C) := by
  unfold f_X2_gainOfOneMore
  rw [isLooked_in C hh h3 hd, bnd_ok, if_neg n10, isPlace_in C hp, bnd_ok, if_neg n10, grd_ok (inb_t (by omega) (by omega)), grd_ok (inb_t (by omega) (by omega)), grd_ok (inb_t (by omega) (by omega)), nI_clamp (by omega), nI_clamp (by omega), hts, X8_comesBy_ok _ _ _ _ _ hta, bnd_ok]
theorem addTimes_loop (C : FMem) {np hm d : Nat} (hc : CtOK C np) (hh : hm ≤ 61) (h3 : C 94 3 = nI hm) (hd : d < hm) (x mt ms : Int32) : ∀ (m i f : Nat) (Ck : FMem), i + m = np → m < f → (∀ j, j ≠ 97 → Ck j = C j) → (∀ p, p < i → Ck 97 (d * 6 + p) = C 97 (d * 6 + p) + x * cbv (C 13 p) (C 14 p) mt ms (C 96 d) (C 94 2 + nI d)) → (∀ q, (q < d * 6 ∨ d * 6 + i ≤ q) → Ck 97 q = C 97 q) →
    ∃ C', X2_addTimes_b12 f x (nI d) mt ms (nI i) Ck = some (0, C') ∧ (∀ j, j ≠ 97 → C' j = C j) ∧ (∀ p, p < np → C' 97 (d * 6 + p) = C 97 (d * 6 + p) + x * cbv (C 13 p) (C 14 p) mt ms (C 96 d) (C 94 2 + nI d)) ∧ ∀ q, (q < d * 6 ∨ d * 6 + np ≤ q) → C' 97 q = C 97 q := by
  obtain ⟨hp1, hp6, hp, -, hts⟩ := hc
  intro m
  induction m with
  | zero =>
    intro i f Ck hi hf g1 g2 g3
    obtain ⟨g, rfl, -⟩ := fu_s hf
    have hi : i = np := by omega
    subst hi
    refine ⟨Ck, ?_, g1, g2, g3⟩
    show X2_addTimes_b12s (X2_addTimes_b12 g) _ _ _ _ _ Ck = _
    unfold X2_addTimes_b12s
    rw [g1 12 (by decide), hp, if_pos (Int32.le_refl _)]
  | succ m ih =>
    intro i f Ck hi hf g1 g2 g3
    obtain ⟨g, rfl, hg⟩ := fu_s hf
    obtain ⟨ta, hta, eta⟩ := hts i (by omega)
    obtain ⟨C', e, r⟩ := ih (i + 1) g (fset Ck 97 (d * 6 + i) (C 97 (d * 6 + i) + x * cbv (C 13 i) (C 14 i) mt ms (C 96 d) (C 94 2 + nI d))) (by omega) (by omega) (fun j hj => by rw [fset_ne _ _ _ hj, g1 j hj]) (fun p hp => by
      rw [fset_same]
      by_cases e : p = i
      · rw [e, upd_same]
      · rw [upd_ne _ _ (by omega)]; exact g2 p (by omega)) (fun q hq => by
      rw [fset_same, upd_ne _ _ (by omega)]
      exact g3 q (by omega))
    refine ⟨C', ?_, r⟩
    show X2_addTimes_b12s (X2_addTimes_b12 g) _ _ _ _ _ Ck = _
    unfold X2_addTimes_b12s
    have eo := oneMore_ok Ck (d := d) (p := i) hh (by rw [g1 94 (by decide)]; exact h3) hd (by omega) hta (by rw [g1 14 (by decide)]; exact eta) mt ms
    rw [g1 12 (by decide), hp, if_neg (by rw [nI_leI (by omega) (by omega)]; omega), if_neg (by rw [c_le (by omega) (by omega)]; omega), e6, bindv_ok, grd_ok (inb_t (by omega) (by omega)), eo, bnd_ok, grd_ok (inb_t (by omega) (by omega)), bindm_ok, nI_clamp (by omega), g3 (d * 6 + i) (by omega), g1 13 (by decide), g1 14 (by decide), g1 96 (by decide), g1 94 (by decide), nI_1]
    exact e
theorem addTimes_ok (C : FMem) {np hm d : Nat} (hc : CtOK C np) (hh : hm ≤ 61) (h3 : C 94 3 = nI hm) (hd : d < hm) (x mt ms : Int32) :
    ∃ C', f_X2_addTimes x (nI d) mt ms C = some (0, C') ∧ (∀ j, j ≠ 97 → C' j = C j) ∧ (∀ p, p < np → C' 97 (d * 6 + p) = C 97 (d * 6 + p) + x * cbv (C 13 p) (C 14 p) mt ms (C 96 d) (C 94 2 + nI d)) ∧ ∀ q, (q < d * 6 ∨ d * 6 + np ≤ q) → C' 97 q = C 97 q := by
  obtain ⟨C', e, r⟩ := addTimes_loop C hc hh h3 hd x mt ms np 0 FU C (by omega) (FU_gt (by have := hc.2.1; omega)) (fun _ _ => rfl) (fun _ h => by omega) (fun _ _ => rfl)
  refine ⟨C', ?_, r⟩
  unfold f_X2_addTimes
  rw [isLooked_in C hh h3 hd, bnd_ok, if_neg n10]
  exact e
/-- the topics that a day has had, as the outlook holds them -/
theorem OL.had {C : FMem} {u hm n d : Nat} {hid frm : Int32} (h : OL C u hid frm hm n) (hh : hm ≤ 61) (hd : d < hm) : C 96 d = hdv (prD (C (u + 1)) (frm + nI d) hid) (C (u + 2)) n := by
  rw [h.2.2.2.2 d (by omega)]
  refine hdv_congr n fun k hk => ?_
  unfold shB prD
  have e1 : (k < n ∧ C (u + 1) k - frm = nI d ∧ d < hm) ↔ C (u + 1) k = frm + nI d := by
    rw [sub_iff]
    constructor
    · intro h; exact h.2.1
    · intro h; exact ⟨hk, h, hd⟩
  rw [decide_eq_decide.mpr e1]
theorem OL.mv {C C' : FMem} {u hm n : Nat} {hid frm : Int32} (h : OL C u hid frm hm n) (h94 : C' 94 = C 94) (h95 : C' 95 = C 95) (h96 : C' 96 = C 96) (hu1 : C' (u + 1) = C (u + 1)) (hu2 : C' (u + 2) = C (u + 2)) : OL C' u hid frm hm n := by
  unfold OL
  rw [h94, h95, h96, hu1, hu2]
  exact h
/-- the gains with one thing more on a day -/
def GX (C : FMem) (n : Nat) (mt ms : Int32) (d p : Nat) : Int32 := GT C n (C 21 3) d p + cbv (C 13 p) (C 14 p) mt ms (hdv (prD (C 24) (C 21 0 + nI d) (C 21 3)) (C 25) n) (C 21 0 + nI d)
theorem gM_pos {kd ts : Nat → Int32} {n : Nat} {hid : Int32} {dy tp sg : Nat → Int32} {mt ms day : Int32} {p : Nat} (h : ¬ ms ≤ 0) : gM kd ts n hid dy tp sg mt ms day p = gM kd ts n hid dy tp sg 0 0 day p + cbv (kd p) (ts p) mt ms (hdv (prD dy day hid) tp n) day := by
  unfold gM
  rw [if_neg h, if_pos (by decide), gp_had]
theorem bindl_ok (x : Int64) (k : Int64 → Opt) : bindl x k = k x := rfl
/-! the draws -/
def drw (z k : Nat) : Nat := (7919 * z + 6151 * k + 1) * (7919 * z + 6151 * k + 1) % 65521 / 2
theorem drw_lt (z k : Nat) : drw z k < 65521 := by
  unfold drw
  have : (7919 * z + 6151 * k + 1) * (7919 * z + 6151 * k + 1) % 65521 < 65521 := Nat.mod_lt _ (by decide)
  omega
theorem drw_x {z k : Nat} (hz : z ≤ 9999) (hk : k < 60) : (7919 : Int64) * (nI z).toInt64 + 6151 * (nI k).toInt64 + 1 = lN (7919 * z + 6151 * k + 1) := by
  rw [nI_l (by omega), nI_l (by omega), show (7919 : Int64) * lN z = lN (7919 * z) from lN_mul 7919 z, show (6151 : Int64) * lN k = lN (6151 * k) from lN_mul 6151 k, lN_add]
  exact lN_add _ 1
theorem drw_v {z k : Nat} (hz : z ≤ 9999) (hk : k < 60) : (((lN (7919 * z + 6151 * k + 1) * lN (7919 * z + 6151 * k + 1) - lN (7919 * z + 6151 * k + 1) * lN (7919 * z + 6151 * k + 1) / 65521 * 65521) / 2 : Int64)).toInt32 = nI (drw z k) := by
  have hx : 7919 * z + 6151 * k + 1 < 80000000 := by omega
  unfold drw
  generalize 7919 * z + 6151 * k + 1 = x at hx
  have hxx : x * x < 2 ^ 63 := by
    have : x * x ≤ 80000000 * 80000000 := Nat.mul_le_mul (by omega) (by omega)
    omega
  rw [lN_mul, show lN (x * x) - lN (x * x) / 65521 * 65521 = lN (x * x % 65521) from pk_lRem hxx (by decide) (by decide)]
  have h2 : x * x % 65521 < 65521 := Nat.mod_lt _ (by decide)
  rw [show lN (x * x % 65521) / 2 = lN (x * x % 65521 / 2) from pk_lDiv (by omega) (by decide) (by decide)]
  exact lN_i _
theorem draw_ok {z k : Nat} (hz : z ≤ 9999) (hk : k < 60) (C : FMem) : f_X8_draw (nI z) (nI k) C = some (nI (drw z k), C) := by
  unfold f_X8_draw
  rw [drw_x hz hk]
  show some ((((lN (7919 * z + 6151 * k + 1) * lN (7919 * z + 6151 * k + 1) - lN (7919 * z + 6151 * k + 1) * lN (7919 * z + 6151 * k + 1) / 65521 * 65521) / 2 : Int64)).toInt32, C) = _
  rw [drw_v hz hk]
def yT (v : Int32) : Int32 := (1 : Int32) <<< ((v / 4 - v / 4 / 5 * 5) &&& 31)
def yS (v : Int32) : Int32 := v / 32 - v / 32 / 9 * 9 + 1
theorem yS_pos {w : Nat} (hw : w < 65521) : ¬ yS (nI w) ≤ 0 := by
  unfold yS
  rw [show nI w / 32 = nI (w / 32) from pk_div (by omega) (by decide) (by decide), show nI (w / 32) - nI (w / 32) / 9 * 9 = nI (w / 32 % 9) from pk_rem (by omega) (by decide) (by decide), nI_1]
  have : w / 32 % 9 < 9 := Nat.mod_lt _ (by decide)
  exact nI_nle (by omega) (by omega)
def GY (C : FMem) (n z : Nat) (d p : Nat) : Int32 := if nI (drw z d) - nI (drw z d) / 3 * 3 = 0 then GX C n (yT (nI (drw z d))) (yS (nI (drw z d))) d p else GT C n (C 21 3) d p
theorem yearC {C C1 : FMem} {np hm n z : Nat} {q : Nat × Int32} (hc : CtOK C np) (hm60 : hm ≤ 60) (hz : z ≤ 9999) (h94 : ∀ j, j < 94 → C1 j = C j) (hol : OL C1 23 (C 21 3) (C 21 0) hm n) (hG : ∀ d p, d < hm → p < np → C1 97 (d * 6 + p) = GT C n (C 21 3) d p) (hq : q.1 < np) (w : Int32) : ∀ (m d f : Nat) (Ck : FMem), d + m = hm → m < f → (∀ j, j ≠ 98 → j ≠ 97 → Ck j = C1 j) → (∀ e, d * 6 ≤ e → Ck 97 e = C1 97 e) → RG Ck np id (rn np id (C 15) (C 12 5) (GY C n z) q d) →
    ∃ C', X8_year_b53 f (nI z) (nI hm) w (nI (bc (bl np id (C 15) (C 12 5) (GY C n z) q) d)) (nI d) Ck = some (if w = 0 then nI (bc (bl np id (C 15) (C 12 5) (GY C n z) q) hm) else nI (rn np id (C 15) (C 12 5) (GY C n z) q hm).1, C') ∧ ∀ j, j < 94 → C' j = C j := by
  have hp6 := hc.2.1
  intro m
  induction m with
  | zero =>
    intro d f Ck hd hf h1 h2 h3
    obtain ⟨g, rfl, -⟩ := fu_s hf
    have hd : d = hm := by omega
    subst hd
    refine ⟨Ck, ?_, fun j hj => by rw [h1 j (by omega) (by omega), h94 j hj]⟩
    show X8_year_b53s (X8_year_b53 g) _ _ w _ _ Ck = _
    unfold X8_year_b53s
    rw [if_pos (Int32.le_refl _), reigning_ok hp6 h3, bnd_ok]
    by_cases hw : w = 0
    · rw [if_pos hw, if_pos hw]
    · rw [if_neg hw, if_neg hw]; rfl
  | succ m ih =>
    intro d f Ck hd hf h1 h2 h3
    obtain ⟨g, rfl, hg⟩ := fu_s hf
    have key : ∀ Ca : FMem, (∀ j, j ≠ 97 → Ca j = Ck j) → (∀ p, p < np → Ca 97 (d * 6 + p) = GY C n z d p) → (∀ e, d * 6 + np ≤ e → Ca 97 e = C1 97 e) →
        ∃ C', X8_year_b101 (X8_year_b53 g) (nI z) (nI hm) w (nI (bc (bl np id (C 15) (C 12 5) (GY C n z) q) d)) (nI d) Ca = some (if w = 0 then nI (bc (bl np id (C 15) (C 12 5) (GY C n z) q) hm) else nI (rn np id (C 15) (C 12 5) (GY C n z) q hm).1, C') ∧ ∀ j, j < 94 → C' j = C j := by
      intro Ca ka kg ke
      have k94 : ∀ j, j ≠ 98 → j ≠ 97 → Ca j = C1 j := fun j j1 j2 => by rw [ka j j2, h1 j j1 j2]
      have e15 : Ca 15 = C 15 := by rw [k94 15 (by decide) (by decide), h94 15 (by decide)]
      have e12 : Ca 12 = C 12 := by rw [k94 12 (by decide) (by decide), h94 12 (by decide)]
      obtain ⟨C2, e2, a2, b2⟩ := live_run (C := Ca) (np := np) (hm := hm) (d := d) (ln := id) (G := GY C n z) (q := q) hp6 (by rw [e12]; exact hc.2.2.1) (by rw [e12]; exact hc.2.2.2.1) (by omega) (by rw [k94 94 (by decide) (by decide)]; exact hol.2.2.1) (by omega) hq (fun _ hj => hj) kg (by
        rw [e15, e12]
        obtain ⟨r1, r2, r3, r4⟩ := h3
        exact ⟨by rw [ka 98 (by decide)]; exact r1, r2, by rw [ka 98 (by decide)]; exact r3, fun j hj => by rw [ka 99 (by decide)]; exact r4 j hj⟩)
      rw [e15, e12] at e2 b2
      have ih' := ih (d + 1) g C2 (by omega) (by omega) (fun j j1 j2 => by rw [a2 j j1, k94 j j1 j2]) (fun e he => by rw [a2 97 (by decide)]; exact ke e (by omega)) b2
      unfold X8_year_b101 X8_year_b116
      rw [e2, bnd_ok, nI_1, nI_1]
      have ebc : bc (bl np id (C 15) (C 12 5) (GY C n z) q) (d + 1) = if bl np id (C 15) (C 12 5) (GY C n z) q d = true then bc (bl np id (C 15) (C 12 5) (GY C n z) q) d + 1 else bc (bl np id (C 15) (C 12 5) (GY C n z) q) d := rfl
      rw [ebc] at ih'
      by_cases hb : bl np id (C 15) (C 12 5) (GY C n z) q d = true
      · rw [if_pos hb] at ih'
        rw [hb, if_neg (show ¬ b2i true = 0 by decide)]
        exact ih'
      · rw [if_neg hb] at ih'
        rw [if_pos (b2i_0.mpr (Bool.not_eq_true _ |>.mp hb))]
        exact ih'
    show ∃ C', X8_year_b53s (X8_year_b53 g) _ _ w _ _ Ck = _ ∧ _
    unfold X8_year_b53s
    rw [if_neg (by rw [nI_leI (by omega) (by omega)]; omega), draw_ok hz (by omega), bnd_ok]
    by_cases h3d : nI (drw z d) - nI (drw z d) / 3 * 3 = 0
    · rw [if_pos h3d]
      have k12 : Ck 12 = C 12 := by rw [h1 12 (by decide) (by decide), h94 12 (by decide)]
      have k14 : Ck 14 = C 14 := by rw [h1 14 (by decide) (by decide), h94 14 (by decide)]
      have k13 : Ck 13 = C 13 := by rw [h1 13 (by decide) (by decide), h94 13 (by decide)]
      have hck : CtOK Ck np := by unfold CtOK; rw [k12, k14]; exact hc
      obtain ⟨Ca, e1, a1, b1, c1⟩ := addTimes_ok Ck (np := np) (hm := hm) (d := d) hck (by omega) (by rw [h1 94 (by decide) (by decide)]; exact hol.2.2.1) (by omega) 1 (yT (nI (drw z d))) (yS (nI (drw z d)))
      have ea : f_X2_add (nI d) ((1 : Int32) <<< (((nI (drw z d) / (4 : Int32)) - (nI (drw z d) / (4 : Int32)) / (5 : Int32) * (5 : Int32)) &&& 31)) (((nI (drw z d) / (32 : Int32)) - (nI (drw z d) / (32 : Int32)) / (9 : Int32) * (9 : Int32)) + (1 : Int32)) Ck = some (0, Ca) := by
        unfold f_X2_add
        show bnd (f_X2_addTimes 1 (nI d) (yT (nI (drw z d))) (yS (nI (drw z d))) Ck) _ = _
        rw [e1, bnd_ok]
      rw [ea, bnd_ok]
      refine key Ca a1 (fun p hp => ?_) (fun e he => by rw [c1 e (by omega)]; exact h2 e (by omega))
      have h96 : Ck 96 d = hdv (prD (C 24) (C 21 0 + nI d) (C 21 3)) (C 25) n := by
        rw [h1 96 (by decide) (by decide), hol.had (by omega) (by omega), h94 24 (by decide), h94 25 (by decide)]
      have h942 : Ck 94 2 = C 21 0 := by rw [h1 94 (by decide) (by decide)]; exact hol.2.1
      rw [b1 p hp, h2 (d * 6 + p) (by omega), hG d p (by omega) hp, Int32.one_mul, k13, k14, h96, h942]
      unfold GY GX
      rw [if_pos h3d]
    · rw [if_neg h3d]
      refine key Ck (fun _ _ => rfl) (fun p hp => ?_) (fun e he => h2 e (by omega))
      rw [h2 (d * 6 + p) (by omega), hG d p (by omega) hp]
      unfold GY
      rw [if_neg h3d]
theorem yearM {C M : FMem} {np n hm z : Nat} {q : Nat × Int32} (hO : MoOK M np n id) (hm60 : hm ≤ 60) (hz : z ≤ 9999) (hq : q.1 < np) (hsd : ∀ p, p < np → sdM M p = C 15 p) (hfd : M 0 2 = C 12 5) (hkt : ∀ p, p < np → kdM M p = C 13 p ∧ tsM M p = C 14 p) (w : Int32) : ∀ (m d f : Nat) (Mk : FMem), d + m = hm → m < f → (∀ j, j ≠ 0 → j ≠ 11 → Mk j = M j) → (∀ k, k ≠ 20 → k ≠ 21 → Mk 0 k = M 0 k) → NWr (Mk 11) np id (rn np id (C 15) (C 12 5) (GY C n z) q d) (C 21 0 + nI d) n (C 21 3) (C 24) (C 25) (C 26) →
    ∃ M', X9_year_b46 f (nI z) (nI hm) w (nI (bc (bl np id (C 15) (C 12 5) (GY C n z) q) d)) (nI d) Mk = some (if w = 0 then nI (bc (bl np id (C 15) (C 12 5) (GY C n z) q) hm) else nI (rn np id (C 15) (C 12 5) (GY C n z) q hm).1, M') ∧ (∀ j, j ≠ 0 → j ≠ 11 → M' j = M j) ∧ (∀ k, k ≠ 20 → k ≠ 21 → M' 0 k = M 0 k) := by
  intro m
  induction m with
  | zero =>
    intro d f Mk hd hf h1 h2 h3
    obtain ⟨g, rfl, -⟩ := fu_s hf
    have hd : d = hm := by omega
    subst hd
    refine ⟨Mk, ?_, h1, h2⟩
    show X9_year_b46s (X9_year_b46 g) _ _ w _ _ Mk = _
    unfold X9_year_b46s
    rw [if_pos (Int32.le_refl _), h3.king (rn_lt hq d)]
    by_cases hw : w = 0
    · rw [if_pos hw, if_pos hw]
    · rw [if_neg hw, if_neg hw]; rfl
  | succ m ih =>
    intro d f Mk hd hf h1 h2 h3
    obtain ⟨g, rfl, hg⟩ := fu_s hf
    have key : ∀ (mt ms : Int32), (∀ p, p < np → gM (kdM M) (tsM M) n (C 21 3) (C 24) (C 25) (C 26) mt ms (C 21 0 + nI d) p = GY C n z d p) → ∃ M', X9_year_b120 (X9_year_b46 g) (nI z) (nI hm) w (nI (bc (bl np id (C 15) (C 12 5) (GY C n z) q) d)) (nI d) ms (fset Mk 0 20 mt) = some (if w = 0 then nI (bc (bl np id (C 15) (C 12 5) (GY C n z) q) hm) else nI (rn np id (C 15) (C 12 5) (GY C n z) q hm).1, M') ∧ (∀ j, j ≠ 0 → j ≠ 11 → M' j = M j) ∧ (∀ k, k ≠ 20 → k ≠ 21 → M' 0 k = M 0 k) := by
      intro mt ms hgm
      generalize hMa : fset (fset Mk 0 20 mt) 0 21 ms = Ma
      have ka : ∀ j, j ≠ 0 → Ma j = Mk j := fun j hj => by rw [← hMa, fset_ne _ _ _ hj, fset_ne _ _ _ hj]
      have k20 : Ma 0 20 = mt := by rw [← hMa, fset_slot _ _ _ _ (by decide), fset_at]
      have k21 : Ma 0 21 = ms := by rw [← hMa, fset_at]
      have k0 : ∀ k, k ≠ 20 → k ≠ 21 → Ma 0 k = M 0 k := fun k a b => by rw [← hMa, fset_slot _ _ _ _ b, fset_slot _ _ _ _ a, h2 k a b]
      have e1r : Ma 1 = M 1 := by rw [ka 1 (by decide), h1 1 (by decide) (by decide)]
      have ek : kdM Ma = kdM M := by unfold kdM; rw [e1r]
      have et : tsM Ma = tsM M := by unfold tsM; rw [e1r]
      have es : sdM Ma = sdM M := by unfold sdM; rw [e1r]
      have hOa : MoOK Ma np n id := by
        obtain ⟨o1, o2, o3, o4, o5, o6⟩ := hO
        exact ⟨o1, o2, o3, by rw [k0 0 (by decide) (by decide)]; exact o4, by rw [k0 2 (by decide) (by decide)]; exact o5, o6⟩
      obtain ⟨N', e2, a2, -⟩ := goes_step (M := Ma) (sd := C 15) (fd := C 12 5) (G := GY C n z) (q := q) hOa hq (by rw [es]; exact hsd) (by rw [k0 2 (by decide) (by decide)]; exact hfd) d (by rw [ek, et, k20, k21]; exact hgm) (by rw [ka 11 (by decide)]; exact h3)
      have ih' := ih (d + 1) g (rset Ma 11 N') (by omega) (by omega) (fun j j1 j2 => by rw [rset_ne _ _ j2, ka j j1, h1 j j1 j2]) (fun k a b => by rw [rset_ne _ _ (by decide), k0 k a b]) (by rw [rset_same]; exact a2)
      unfold X9_year_b120 X9_year_b137
      rw [bindm_ok, hMa, e2, bnd_ok, nI_1]
      have ebc : bc (bl np id (C 15) (C 12 5) (GY C n z) q) (d + 1) = if bl np id (C 15) (C 12 5) (GY C n z) q d = true then bc (bl np id (C 15) (C 12 5) (GY C n z) q) d + 1 else bc (bl np id (C 15) (C 12 5) (GY C n z) q) d := rfl
      rw [ebc] at ih'
      by_cases hb : bl np id (C 15) (C 12 5) (GY C n z) q d = true
      · rw [if_pos hb] at ih'
        rw [hb, if_neg (show ¬ b2i true = 0 by decide), bindv_ok, nI_1]
        exact ih'
      · rw [if_neg hb] at ih'
        rw [if_pos (b2i_0.mpr (Bool.not_eq_true _ |>.mp hb)), bindv_ok, Int32.add_zero]
        exact ih'
    show ∃ M', X9_year_b46s (X9_year_b46 g) _ _ w _ _ Mk = _ ∧ _
    unfold X9_year_b46s
    rw [if_neg (by rw [nI_leI (by omega) (by omega)]; omega), drw_x hz (by omega)]
    rw [bindl_ok, drw_v hz (by omega), bindv_ok, bindm_ok]
    have ekt : ∀ mt ms p, p < np → gM (kdM M) (tsM M) n (C 21 3) (C 24) (C 25) (C 26) mt ms (C 21 0 + nI d) p = gM (C 13) (C 14) n (C 21 3) (C 24) (C 25) (C 26) mt ms (C 21 0 + nI d) p := fun mt ms p hp => by
      unfold gM
      rw [(hkt p hp).1, (hkt p hp).2]
    by_cases h3d : nI (drw z d) - nI (drw z d) / 3 * 3 = 0
    · rw [if_pos h3d]
      refine key (yT (nI (drw z d))) (yS (nI (drw z d))) (fun p hp => ?_)
      rw [ekt _ _ p hp, gM_pos (yS_pos (drw_lt z d))]
      unfold GY GX GT
      rw [if_pos h3d]
    · rw [if_neg h3d]
      refine key (yT (nI (drw z d))) 0 (fun p hp => ?_)
      rw [ekt _ _ p hp, gM_0]
      unfold GY GT
      rw [if_neg h3d]

/-- out of range: the class's two tests -/
theorem rng_out {a : Int32} {lo hi : Nat} (hl : lo < 2 ^ 31) (hh : hi < 2 ^ 31) (hno : ∀ j, lo ≤ j → j ≤ hi → a ≠ nI j) : a < nI lo ∨ (¬ a < nI lo ∧ nI hi < a) := by
  by_cases h1 : a < nI lo
  · exact Or.inl h1
  · right
    refine ⟨h1, ?_⟩
    have h0 : ¬ a < 0 := fun h => h1 (Int32.lt_of_lt_of_le h (nI_pos' hl))
    obtain ⟨j, hj, rfl⟩ := nI_of h0
    rw [nI_ltI hj hl] at h1
    rw [nI_ltI hh hj]
    have : ¬ j ≤ hi := fun q => hno j (by omega) q rfl
    omega
theorem op_year (a1 a2 a3 : Int32) : OpOK (f_X8_year a1 a2 a3) (f_X9_year a1 a2 a3) := by
  intro C M h
  have h' := h
  obtain ⟨np, hrc, hmr, -⟩ := h
  unfold f_X8_year f_X9_year
  rcases in_ok a1 (lo := 0) (hi := 9999) (by decide) (by decide) M with ⟨z, -, hz, rfl, hi1⟩ | ⟨hno, hi1⟩
  · have hi1' : f_X9_in (nI z) 0 9999 M = some (1, M) := hi1
    rw [hi1', bnd_ok, if_neg n10, if_neg (show ¬ nI z < 0 from nI_pos (by omega)), if_neg (show ¬ (9999 : Int32) < nI z by rw [c_gt (by omega) (by omega)]; omega)]
    rcases in_ok a2 (lo := 1) (hi := 60) (by decide) (by decide) M with ⟨hm, hm1, hm2, rfl, hi2⟩ | ⟨hno2, hi2⟩
    · have hi2' : f_X9_in (nI hm) 1 60 M = some (1, M) := hi2
      rw [hi2', bnd_ok, if_neg n10, if_neg (show ¬ nI hm < 1 by rw [c_lt (by omega) (by omega)]; omega), if_neg (show ¬ (60 : Int32) < nI hm by rw [c_gt (by omega) (by omega)]; omega)]
      rcases in_ok a3 (lo := 0) (hi := 1) (by decide) (by decide) M with ⟨w, -, hw, rfl, hi3⟩ | ⟨hno3, hi3⟩
      · have hi3' : f_X9_in (nI w) 0 1 M = some (1, M) := hi3
        rw [hi3', bnd_ok, if_neg n10, (isHalf_ok (nI w) C).1 w hw rfl, bnd_ok, if_neg n10]
        obtain ⟨M1, K, n, e1, m1, b1, b21, hK, hn, hC1, h23, hO, hN, hsd, hfd, hG, -, -⟩ := fromM hrc hmr
        obtain ⟨Ca, C1, e2, e3, c1, hcl, hrg, hol, hca⟩ := setC (hm := hm) hrc hn h23 (by omega) hK hC1
        have hol1 : OL C1 23 (C 21 3) (C 21 0) hm n := hol.mv (hca 94 (by decide)) (hca 95 (by decide)) (hca 96 (by decide)) (hca 24 (by decide)) (hca 25 (by decide))
        obtain ⟨C2, e4, c2⟩ := yearC (C := C) (z := z) (q := (K, C 21 2)) hrc.ct hm2 hz c1 hol1 hcl.2.2.2.2.2 hK (nI w) hm 0 FU C1 (by omega) (FU_gt (by omega)) (fun _ _ _ => rfl) (fun _ _ => rfl) hrg
        have hkt : ∀ p, p < np → kdM M1 p = C 13 p ∧ tsM M1 p = C 14 p := fun p hp => by
          unfold kdM tsM
          rw [m1 1 (by decide) (by decide)]
          exact ⟨(hrc.2.2.2.2.2.2 p hp).2.1, (hrc.2.2.2.2.2.2 p hp).2.2.1⟩
        obtain ⟨M2, e5, d1, d2⟩ := yearM (C := C) (z := z) (q := (K, C 21 2)) hO hm2 hz hK hsd hfd hkt (nI w) hm 0 FU M1 (by omega) (FU_gt (by omega)) (fun _ _ _ => rfl) (fun _ _ _ => rfl) (by rw [show (nI 0) = (0 : Int32) from rfl, Int32.add_zero]; exact hN)
        have e4' : X8_year_b53 FU (nI z) (nI hm) (nI w) 0 0 C1 = _ := e4
        have e5' : X9_year_b46 FU (nI z) (nI hm) (nI w) 0 0 M1 = _ := e5
        rw [e2, bnd_ok, e3, bnd_ok, e4', e1, bnd_ok, e5']
        exact ⟨_, _, _, rfl, rfl, h'.query c2 (fun j j1 j2 => by rw [d1 j (by omega) (by omega), m1 j (by omega) (by omega)]) (fun k k1 k2 => by rw [d2 k k1 k2, b1 k k2])⟩
      · have hi3' : f_X9_in a3 0 1 M = some (0, M) := hi3
        rw [hi3', bnd_ok, if_pos rfl, (isHalf_ok a3 C).2 hno3, bnd_ok, if_pos rfl]
        exact ⟨_, _, _, rfl, rfl, h'⟩
    · have hi2' : f_X9_in a2 1 60 M = some (0, M) := hi2
      rw [hi2', bnd_ok, if_pos rfl]
      refine ⟨-1, C, M, ?_, rfl, h'⟩
      rcases rng_out (by decide) (by decide) hno2 with h1 | ⟨h1, h2⟩
      · rw [if_pos (show a2 < 1 from h1)]
      · rw [if_neg (show ¬ a2 < 1 from h1), if_pos (show (60 : Int32) < a2 from h2)]
  · have hi1' : f_X9_in a1 0 9999 M = some (0, M) := hi1
    rw [hi1', bnd_ok, if_pos rfl]
    refine ⟨-1, C, M, ?_, rfl, h'⟩
    rcases rng_out (by decide) (by decide) hno with h1 | ⟨h1, h2⟩
    · rw [if_pos (show a1 < 0 from h1)]
    · rw [if_neg (show ¬ a1 < 0 from h1), if_pos (show (9999 : Int32) < a1 from h2)]
