def hvv (o : Option Nat) : Int32 := match o with
  | none => -4
  | some b => nI b
def fvv (o : Option Nat) : Int32 := match o with
  | none => 10
  | some b => nI (pcb b)
theorem sub_bits {j c : Nat} (hj : j < 1024) (hc : c < 1024) : (nI j &&& (nI c ^^^ (-1))) = 0 ↔ (j &&& c) = j := by
  constructor
  · intro h
    apply Nat.eq_of_testBit_eq
    intro k
    rw [Nat.testBit_and]
    by_cases hk : k < 32
    · have hb : bt (nI j &&& (nI c ^^^ (-1))) k = false := by rw [h, b_0]
      rw [b_and, not_bt _ hk, nI_bt hk, nI_bt hk] at hb
      cases h1 : j.testBit k <;> cases h2 : c.testBit k <;> simp_all
    · rw [Nat.testBit_lt_two_pow (x := j) (i := k) (Nat.lt_of_lt_of_le (show j < 2 ^ 10 by omega) (Nat.pow_le_pow_right (by decide) (by omega)))]
      rfl
  · intro h
    refine b_ext fun k hk => ?_
    rw [b_and, not_bt _ hk, nI_bt hk, nI_bt hk, b_0, ← h, Nat.testBit_and]
    cases j.testBit k <;> cases c.testBit k <;> rfl
theorem dis_bits {j : Nat} {hid : Int32} (h : (nI j &&& hid) = 0) {k : Nat} (hk : k < 32) (hb : bt hid k = true) : j.testBit k = false := by
  have : bt (nI j &&& hid) k = false := by rw [h, b_0]
  rw [b_and, nI_bt hk, hb, Bool.and_true] at this
  exact this
theorem hidesC {C C1 : FMem} {np hm n K c : Nat} (hc : CtOK C np) (hh : hm ≤ 61) (hn9 : n ≤ 9) (h23 : C 23 3 = nI n) (h94 : ∀ j, j < 94 → C1 j = C j) (hol : OL C1 23 (C 21 3) (C 21 0) hm n) (hK : K < np) (h1 : C 21 1 = nI K) (hc5 : c < 512) : ∀ (m j f : Nat), j + m = c + 1 → m < f →
    X8_hides_b36 f (nI hm) (nI c) (hvv (hbs c (hdP C np n hm K) j)) (fvv (hbs c (hdP C np n hm K) j)) (nI j) C1 = some (hvv (hbs c (hdP C np n hm K) (c + 1)), C1) := by
  intro m
  induction m with
  | zero =>
    intro j f hj hf
    obtain ⟨g, rfl, -⟩ := fu_s hf
    have hj : j = c + 1 := by omega
    subst hj
    show X8_hides_b36s (X8_hides_b36 g) _ _ _ _ _ C1 = _
    unfold X8_hides_b36s
    rw [if_pos (by rw [nI_ltI (by omega) (by omega)]; omega)]
  | succ m ih =>
    intro j f hj hf
    obtain ⟨g, rfl, hg⟩ := fu_s hf
    have ih' := ih (j + 1) g (by omega) (by omega)
    have es : hbs c (hdP C np n hm K) (j + 1) = if (j &&& c) = j ∧ hdP C np n hm K j = true ∧ (∀ b, hbs c (hdP C np n hm K) j = some b → pcb j < pcb b) then some j else hbs c (hdP C np n hm K) j := rfl
    have hpl := pcb_lt j (by omega)
    show X8_hides_b36s (X8_hides_b36 g) _ _ _ _ _ C1 = _
    unfold X8_hides_b36s X8_hides_b81
    rw [if_neg (by rw [nI_ltI (by omega) (by omega)]; omega), J6_ok, bnd_ok, bcv_pcn j (by omega), pcb_v, nI_1]
    by_cases hsub : (j &&& c) = j
    · rw [if_pos ((sub_bits (by omega) (by omega)).mpr hsub)]
      have hfew : fvv (hbs c (hdP C np n hm K) j) ≤ nI (pcb j) ↔ ¬ (∀ b, hbs c (hdP C np n hm K) j = some b → pcb j < pcb b) := by
        cases hb : hbs c (hdP C np n hm K) j with
        | none =>
          constructor
          · intro h
            exfalso
            have h' : (10 : Int32) ≤ nI (pcb j) := h
            rw [c_le (by omega) (by omega)] at h'
            omega
          · intro h
            exact absurd (fun b hb' => by cases hb') h
        | some b =>
          have := pcb_le b
          show nI (pcb b) ≤ nI (pcb j) ↔ _
          rw [nI_leI (by omega) (by omega)]
          constructor
          · intro h h2
            have := h2 b rfl
            omega
          · intro h
            by_cases h2 : pcb b ≤ pcb j
            · exact h2
            · exact absurd (fun b' hb' => by cases hb'; omega) h
      by_cases hle : fvv (hbs c (hdP C np n hm K) j) ≤ nI (pcb j)
      · rw [if_pos hle]
        rw [es, if_neg (fun h => (hfew.mp hle) h.2.2)] at ih'
        exact ih'
      · have hall : ∀ b, hbs c (hdP C np n hm K) j = some b → pcb j < pcb b := Classical.not_not.mp (fun h => hle (hfew.mpr h))
        rw [if_neg hle, without_ok hc hh hn9 h23 h94 hol hK h1, bnd_ok]
        cases hP : hdP C np n hm K j with
        | true =>
          rw [if_neg (show ¬ b2i true = 0 by decide)]
          show bnd (f_J6_bitCount_0f7a4 (nI j) C1) _ = _
          rw [J6_ok, bnd_ok, bcv_pcn j (by omega), pcb_v]
          rw [es, if_pos ⟨hsub, hP, hall⟩] at ih'
          exact ih'
        | false =>
          rw [if_pos (show b2i false = 0 by decide)]
          rw [es, if_neg (fun h => by rw [hP] at h; exact absurd h.2.1 (by decide))] at ih'
          exact ih'
    · rw [if_neg (fun h => hsub ((sub_bits (by omega) (by omega)).mp h))]
      rw [es, if_neg (fun h => hsub h.1)] at ih'
      exact ih'
theorem ab_congr {b b' : Nat → Bool} : ∀ m, (∀ e, e < m → b e = b' e) → ab b m = ab b' m := by
  intro m
  induction m with
  | zero => intros; rfl
  | succ m ih =>
    intro h
    unfold ab
    rw [h m (by omega), ih (fun e he => h e (by omega))]
/-- only things of the days looked at matter -/
theorem hdP_rel {C : FMem} {np hm n K c : Nat} (hp6 : np ≤ 6) (hn9 : n ≤ 9) (hK : K < np) (hcand : ∀ k, k < n → ∀ d, d < hm → C 24 k = C 21 0 + nI d → bt (C 21 3) k = false → c.testBit k = true) (j : Nat) : hdP C np n hm K (j &&& c) = hdP C np n hm K j := by
  unfold hdP
  refine congrArg not (ab_congr hm fun e he => ?_)
  refine bl_congr hK (fun j hj => ⟨rfl, hj⟩) (fun _ _ => rfl) e (fun d p hd hp => ?_)
  unfold GT gM
  rw [if_pos (show (0 : Int32) ≤ 0 by decide), if_pos (show (0 : Int32) ≤ 0 by decide)]
  refine congrArg Prod.fst (gp_congr n (fun k hk => ?_) (fun _ _ _ => rfl) (fun _ _ _ => rfl))
  unfold prD
  rw [b_or, b_or, nI_bt (show k < 32 by omega), nI_bt (show k < 32 by omega), Nat.testBit_and]
  by_cases hday : C 24 k = C 21 0 + nI d
  · cases hb : bt (C 21 3) k with
    | true => rfl
    | false => rw [hcand k hk d (by omega) hday hb, Bool.and_true]
  · rw [show decide (C 24 k = C 21 0 + nI d) = false by simp [hday]]
    rfl
theorem pcb_sub {j c : Nat} (hj : j < 1024) (h : ¬ (j &&& c) = j) : pcb (j &&& c) < pcb j := by
  unfold pcb
  refine bc_strict 10 (fun k hk hb => ?_) ?_
  · rw [nI_bt (by omega), Nat.testBit_and] at hb
    rw [nI_bt (by omega)]
    simp at hb
    exact hb.1
  · refine Classical.byContradiction fun hno => h ?_
    apply Nat.eq_of_testBit_eq
    intro k
    by_cases hk : k < 10
    · rw [Nat.testBit_and]
      cases h1 : j.testBit k with
      | false => rfl
      | true =>
        cases h2 : c.testBit k with
        | true => rfl
        | false =>
          exfalso
          refine hno ⟨k, hk, ?_, ?_⟩
          · rw [nI_bt (by omega), Nat.testBit_and, h1, h2]; rfl
          · rw [nI_bt (by omega), h1]
    · rw [Nat.testBit_and, Nat.testBit_lt_two_pow (x := j) (i := k) (Nat.lt_of_lt_of_le (show j < 2 ^ 10 by omega) (Nat.pow_le_pow_right (by decide) (by omega)))]
      rfl
theorem sh9 : ∀ n, n < 10 → (1 : Int32) <<< (nI n &&& 31) = nI (2 ^ n) := by decide +kernel
theorem bc_ab (b : Nat → Bool) : ∀ m, bc b m = 0 ↔ ab b m = false := by
  intro m
  induction m with
  | zero => exact ⟨fun _ => rfl, fun _ => rfl⟩
  | succ m ih =>
    unfold bc ab
    cases hb : b m with
    | true => simp
    | false => simp [ih]
theorem hidesM {C M : FMem} {np hm n K c : Nat} (hrc : RC C M np) (hmr : MR np C 21 (M 2)) (hn9 : n ≤ 9) (h23 : C 23 3 = nI n) (hK : K < np) (hC1 : C 21 1 = nI K) (hm40 : hm ≤ 40) (hc5 : c < 512) (hcand : ∀ k, k < n → ∀ d, d < hm → C 24 k = C 21 0 + nI d → bt (C 21 3) k = false → c.testBit k = true) (hchid : ∀ k, k < 32 → c.testBit k = true → bt (C 21 3) k = false) : ∀ (m j f : Nat) (Mk : FMem), j + m = 2 ^ n → m < f → (∀ j, j ≠ 0 → j ≠ 11 → Mk j = M j) → (∀ k, k ≠ 21 → Mk 0 k = M 0 k) →
    ∃ M', X9_hides_b17 f (nI hm) (hvv (hbs c (hdP C np n hm K) j)) (nI j) Mk = some (hvv (hbs c (hdP C np n hm K) (2 ^ n)), M') ∧ (∀ j, j ≠ 0 → j ≠ 11 → M' j = M j) ∧ (∀ k, k ≠ 21 → M' 0 k = M 0 k) := by
  have hp6 := hrc.2.1
  have h2n : 2 ^ n ≤ 512 := Nat.pow_le_pow_right (by decide) hn9
  have hn2 : M 2 2 = nI n ∧ M 2 3 = C 21 3 := by
    obtain ⟨-, -, d3, -, -, n', n1, n2, n3, -, -⟩ := hmr
    have : n' = n := (nI_eq (by omega) (by omega)).mp (n2.symm.trans h23)
    rw [← this]
    exact ⟨n3, d3⟩
  intro m
  induction m with
  | zero =>
    intro j f Mk hj hf hM h0
    obtain ⟨g, rfl, -⟩ := fu_s hf
    have hj : j = 2 ^ n := by omega
    subst hj
    refine ⟨Mk, ?_, hM, h0⟩
    show X9_hides_b17s (X9_hides_b17 g) _ _ _ Mk = _
    unfold X9_hides_b17s
    rw [hM 2 (by decide) (by decide), hn2.1, sh9 n (by omega), if_pos (Int32.le_refl _)]
  | succ m ih =>
    intro j f Mk hj hf hM h0
    obtain ⟨g, rfl, hg⟩ := fu_s hf
    have es : hbs c (hdP C np n hm K) (j + 1) = if (j &&& c) = j ∧ hdP C np n hm K j = true ∧ (∀ b, hbs c (hdP C np n hm K) j = some b → pcb j < pcb b) then some j else hbs c (hdP C np n hm K) j := rfl
    have hinv := hbs_inv c (hdP C np n hm K) j
    -- the set is not taken
    have skip : hbs c (hdP C np n hm K) (j + 1) = hbs c (hdP C np n hm K) j → ∃ M', X9_hides_b59 (X9_hides_b17 g) (nI hm) (hvv (hbs c (hdP C np n hm K) j)) (nI j) Mk = some (hvv (hbs c (hdP C np n hm K) (2 ^ n)), M') ∧ (∀ j, j ≠ 0 → j ≠ 11 → M' j = M j) ∧ (∀ k, k ≠ 21 → M' 0 k = M 0 k) := by
      intro e
      unfold X9_hides_b59 X9_hides_b60 X9_hides_b99
      rw [if_pos rfl, nI_1, ← e]
      exact ih (j + 1) g Mk (by omega) (by omega) hM h0
    -- the set is tried
    have tried : (∀ b, hbs c (hdP C np n hm K) j = some b → pcb j < pcb b) → ∃ M', X9_hides_b55 (X9_hides_b17 g) (nI hm) (hvv (hbs c (hdP C np n hm K) j)) (nI j) Mk = some (hvv (hbs c (hdP C np n hm K) (2 ^ n)), M') ∧ (∀ j, j ≠ 0 → j ≠ 11 → M' j = M j) ∧ (∀ k, k ≠ 21 → M' 0 k = M 0 k) := by
      intro hmay
      have hrck : RC C Mk np := hrc.mv rfl rfl rfl rfl (h0 _ (by decide)) (h0 _ (by decide)) (hM _ (by decide) (by decide))
      have hmrk : MR np C 21 (Mk 2) := by rw [hM 2 (by decide) (by decide)]; exact hmr
      obtain ⟨M1, K', n', e1, m1, b1, b21, hK', hn', hC1', h23', hO, hN, hsd, hfd, hG, -, -⟩ := fromM hrck hmrk
      have en : n' = n := (nI_eq (by omega) (by omega)).mp (h23'.symm.trans h23)
      have eK : K' = K := (nI_eq (by omega) (by omega)).mp (hC1'.symm.trans hC1)
      subst en; subst eK
      have hN3 : M1 11 3 = C 21 3 := hN.2.2.2.1
      generalize hhid : C 21 3 ||| nI j = hid'
      have hN2 : NWr (rset M1 11 (upd (M1 11) 3 hid') 11) np id (K', C 21 2) (C 21 0) n' hid' (C 24) (C 25) (C 26) := by
        rw [rset_same]
        obtain ⟨n0, n1, n2, n3, n4, n5⟩ := hN
        refine ⟨by rw [upd_ne _ _ (by omega)]; exact n0, by rw [upd_ne _ _ (by omega)]; exact n1, by rw [upd_ne _ _ (by omega)]; exact n2, upd_same _ _ _, fun j hj => by rw [upd_ne _ _ (by omega)]; exact n4 j hj, fun k hk => ?_⟩
        rw [upd_ne _ _ (by omega), upd_ne _ _ (by omega), upd_ne _ _ (by omega)]
        exact n5 k hk
      have e0 : rset M1 11 (upd (M1 11) 3 hid') 0 = M1 0 := rset_ne _ _ (by decide)
      have e1r : rset M1 11 (upd (M1 11) 3 hid') 1 = M1 1 := rset_ne _ _ (by decide)
      have ek : kdM (rset M1 11 (upd (M1 11) 3 hid')) = kdM M1 := by unfold kdM; rw [e1r]
      have et : tsM (rset M1 11 (upd (M1 11) 3 hid')) = tsM M1 := by unfold tsM; rw [e1r]
      have es2 : sdM (rset M1 11 (upd (M1 11) 3 hid')) = sdM M1 := by unfold sdM; rw [e1r]
      obtain ⟨N', e2, -, -⟩ := mGoesOn (c := hm) (sd := C 15) (fd := C 12 5) (G := GT C n' hid') (hO.row _) hK' (by rw [es2]; exact hsd) (by rw [e0]; exact hfd) (by rw [e0, ek, et]; exact hG hid') hN2 (by omega)
      rw [rset_rset] at e2
      have hM2 : ∀ j, j ≠ 0 → j ≠ 11 → rset M1 11 N' j = M j := fun j j1 j2 => by rw [rset_ne _ _ j2, m1 j j1 j2, hM j j1 j2]
      have h02 : ∀ k, k ≠ 21 → rset M1 11 N' 0 k = M 0 k := fun k hk => by rw [rset_ne _ _ (by decide), b1 k hk, h0 k hk]
      have ih' := ih (j + 1) g (rset M1 11 N') (by omega) (by omega) hM2 h02
      have hbcl := bc_le (bl np id (C 15) (C 12 5) (GT C n' hid') (K', C 21 2)) hm
      have hPv : hdP C np n' hm K' j = !(ab (bl np id (C 15) (C 12 5) (GT C n' hid') (K', C 21 2)) hm) := by unfold hdP; rw [hhid]
      unfold X9_hides_b55 X9_hides_b60 X9_hides_b98 X9_hides_b99
      rw [if_neg n10, e1, bnd_ok, bindm_ok, hN3, hhid, fset_eq, e2, bnd_ok, nI_1]
      have hz : nI (bc (bl np id (C 15) (C 12 5) (GT C n' hid') (K', C 21 2)) hm) = 0 ↔ hdP C np n' hm K' j = true := by
        rw [c_eq (by omega) (by omega), bc_ab, hPv]
        cases ab (bl np id (C 15) (C 12 5) (GT C n' hid') (K', C 21 2)) hm <;> simp
      by_cases hP : hdP C np n' hm K' j = true
      · rw [if_pos (hz.mpr hP)]
        -- it must be a subset
        have hsub : (j &&& c) = j := by
          refine Classical.byContradiction fun hno => ?_
          have hle : j &&& c ≤ j := Nat.and_le_left
          have hP' : hdP C np n' hm K' (j &&& c) = true := by rw [hdP_rel hp6 hn9 hK hcand]; exact hP
          obtain ⟨b, hb, hbl⟩ := hinv.2 (j &&& c) (by omega) (by rw [Nat.and_assoc, Nat.and_self]) hP'
          have h1 := hmay b hb
          have h2 := pcb_sub (show j < 1024 by omega) hno
          omega
        rw [es, if_pos ⟨hsub, hP, hmay⟩] at ih'
        exact ih'
      · rw [if_neg (fun h => hP (hz.mp h))]
        rw [es, if_neg (fun h => hP h.2.1)] at ih'
        exact ih'
    show ∃ M', X9_hides_b17s (X9_hides_b17 g) _ _ _ Mk = _ ∧ _
    unfold X9_hides_b17s
    rw [hM 2 (by decide) (by decide), hn2.1, hn2.2, sh9 n (by omega), if_neg (by rw [nI_leI (by omega) (by omega)]; omega)]
    by_cases hdis : (nI j &&& C 21 3) = 0
    · rw [if_pos hdis]
      cases hb : hbs c (hdP C np n hm K) j with
      | none =>
        rw [hb] at tried
        rw [if_pos (show hvv none < 0 by decide)]
        exact tried (fun b h => by cases h)
      | some b =>
        rw [hb] at tried skip
        have hbj := hinv.1 b hb
        have hpl := pcb_le b
        have hpj := pcb_le j
        rw [if_neg (show ¬ hvv (some b) < 0 from nI_pos (by omega)), X9_bits_ok, bnd_ok]
        show ∃ M', bnd (f_X9_bits (nI b) Mk) _ = _ ∧ _
        rw [X9_bits_ok, bnd_ok, pcb_v, pcb_v]
        by_cases hle : pcb b ≤ pcb j
        · rw [if_pos (by rw [nI_leI (by omega) (by omega)]; exact hle)]
          refine skip ?_
          rw [es, if_neg (fun h => by have := h.2.2 b hb; omega), hb]
        · rw [if_neg (by rw [nI_leI (by omega) (by omega)]; exact hle)]
          exact tried (fun b' h => by cases h; omega)
    · rw [if_neg hdis]
      refine skip ?_
      rw [es, if_neg ?_]
      rintro ⟨hsub, -, -⟩
      refine hdis (b_ext fun k hk => ?_)
      rw [b_and, nI_bt hk, b_0, ← hsub, Nat.testBit_and]
      cases hck : c.testBit k with
      | false => rw [Bool.and_false, Bool.false_and]
      | true => rw [hchid k hk hck, Bool.and_false]
theorem op_hides (a1 : Int32) : OpOK (f_X8_hides a1) (f_X9_hides a1) := by
  intro C M h
  have h' := h
  obtain ⟨np, hrc, hmr, -⟩ := h
  unfold f_X8_hides f_X9_hides
  rcases in_ok a1 (lo := 1) (hi := 40) (by decide) (by decide) M with ⟨hm, hm1, hm2, rfl, hi1⟩ | ⟨hno, hi1⟩
  · have hi1' : f_X9_in (nI hm) 1 40 M = some (1, M) := hi1
    rw [hi1', bnd_ok, if_neg n10, if_neg (show ¬ nI hm < 1 by rw [c_lt (by omega) (by omega)]; omega), if_pos (show nI hm ≤ 40 by rw [c_ge (by omega) (by omega)]; omega)]
    have hmr' := hmr
    obtain ⟨-, -, -, ⟨K, k1, k2, -⟩, -, n, n1, n2, -, n4, -⟩ := hmr
    obtain ⟨C1, e1, c1, -, hol, hcl⟩ := aheadC (hm := hm) hrc n1 n2 (by omega)
    have e2 := shownAll_loop C1 (hm := hm) (by omega) hol.2.2.1 hm 0 FU (by omega) (FU_gt (by omega))
    have hcb : ∀ k, k < 32 → (bt (orf (C1 95) hm) k = true ↔ k < n ∧ (∃ d, d < hm ∧ C 24 k = C 21 0 + nI d) ∧ bt (C 21 3) k = false) := by
      intro k hk
      rw [orf_bt]
      constructor
      · rintro ⟨d, hd, hb⟩
        rw [hol.2.2.2.1 d (by omega) k hk, c1 24 (by decide)] at hb
        unfold shB at hb
        rw [Bool.and_eq_true, decide_eq_true_eq] at hb
        obtain ⟨⟨b1, b2, b3⟩, b4⟩ := hb
        exact ⟨b1, ⟨d, hd, (sub_iff _ _ _).mp b2⟩, by simpa using b4⟩
      · rintro ⟨b1, ⟨d, hd, b2⟩, b4⟩
        refine ⟨d, hd, ?_⟩
        rw [hol.2.2.2.1 d (by omega) k hk, c1 24 (by decide)]
        unfold shB
        rw [Bool.and_eq_true, decide_eq_true_eq]
        exact ⟨⟨b1, (sub_iff _ _ _).mpr b2, hd⟩, by simpa using b4⟩
    have hlow : ∀ k, n ≤ k → k < 32 → bt (orf (C1 95) hm) k = false := fun k k1 k2 => by
      cases hb : bt (orf (C1 95) hm) k with
      | false => rfl
      | true => have := ((hcb k k2).mp hb).1; omega
    have hcN : ∃ c, c < 2 ^ n ∧ orf (C1 95) hm = nI c := by
      obtain ⟨x, hx, ex⟩ := low_bits n1 hlow
      refine ⟨x, ?_, ex⟩
      refine Nat.lt_pow_two_of_testBit x (fun i hi => ?_)
      by_cases h32 : i < 32
      · rw [← nI_bt h32, ← ex]
        exact hlow i hi h32
      · exact Nat.testBit_lt_two_pow (Nat.lt_of_lt_of_le (show x < 2 ^ 10 by omega) (Nat.pow_le_pow_right (by decide) (by omega)))
    obtain ⟨c, hc2, ec⟩ := hcN
    have h2n : 2 ^ n ≤ 512 := Nat.pow_le_pow_right (by decide) n1
    have hcand : ∀ k, k < n → ∀ d, d < hm → C 24 k = C 21 0 + nI d → bt (C 21 3) k = false → c.testBit k = true := fun k hk d hd h1 h2 => by
      rw [← nI_bt (show k < 32 by omega), ← ec]
      exact (hcb k (by omega)).mpr ⟨hk, ⟨d, hd, h1⟩, h2⟩
    have hchid : ∀ k, k < 32 → c.testBit k = true → bt (C 21 3) k = false := fun k hk h => by
      rw [← nI_bt hk, ← ec] at h
      exact ((hcb k hk).mp h).2.2
    have e3 := hidesC (C := C) (K := K) (c := c) hrc.ct (show hm ≤ 61 by omega) n1 n2 c1 hol k1 k2 (by omega) (c + 1) 0 FU (by omega) (FU_gt (by omega))
    obtain ⟨M', e4, d1, d2⟩ := hidesM (C := C) (K := K) (c := c) hrc hmr' n1 n2 k1 k2 hm2 (by omega) hcand hchid (2 ^ n) 0 FU M (by omega) (FU_gt (by omega)) (fun _ _ _ => rfl) (fun _ _ => rfl)
    have e2' : f_X2_shownAtAll C1 = some (nI c, C1) := by
      rw [← ec]
      exact e2
    have e3' : X8_hides_b36 FU (nI hm) (nI c) (-4) 10 0 C1 = _ := e3
    have e4' : X9_hides_b17 FU (nI hm) (-4) 0 M = _ := e4
    have hfar : hbs c (hdP C np n hm K) (2 ^ n) = hbs c (hdP C np n hm K) (c + 1) := by
      have := hbs_far c (hdP C np n hm K) (2 ^ n - (c + 1))
      rwa [show c + 1 + (2 ^ n - (c + 1)) = 2 ^ n by omega] at this
    rw [e1, bnd_ok, e2', bnd_ok, e3', e4', hfar]
    exact ⟨_, _, _, rfl, rfl, h'.query c1 (fun j j1 j2 => d1 j (by omega) (by omega)) (fun k _ k2 => d2 k k2)⟩
  · have hi1' : f_X9_in a1 1 40 M = some (0, M) := hi1
    rw [hi1', bnd_ok, if_pos rfl]
    refine ⟨-1, C, M, ?_, rfl, h'⟩
    rcases rng_out (by decide) (by decide) hno with h1 | ⟨h1, h2⟩
    · rw [if_pos (show a1 < 1 from h1)]
    · rw [if_neg (show ¬ a1 < 1 from h1), if_neg (show ¬ a1 ≤ 40 from Int32.not_le.mpr h2)]
