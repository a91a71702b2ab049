/-! in range or not: the class's tests and the reference's -/
theorem in_ok (a : Int32) {lo hi : Nat} (hl : lo < 2 ^ 31) (hh : hi < 2 ^ 31) (M : FMem) : (∃ j, lo ≤ j ∧ j ≤ hi ∧ a = nI j ∧ f_X9_in a (nI lo) (nI hi) M = some (1, M)) ∨ ((∀ j, lo ≤ j → j ≤ hi → a ≠ nI j) ∧ f_X9_in a (nI lo) (nI hi) M = some (0, M)) := by
  unfold f_X9_in
  by_cases h1 : a < nI lo
  · right
    refine ⟨fun j h2 h3 e => ?_, if_pos h1⟩
    rw [e, nI_ltI (by omega) hl] at h1
    omega
  · by_cases h2 : nI hi < a
    · right
      refine ⟨fun j h3 h4 e => ?_, by rw [if_neg h1, if_pos h2]⟩
      rw [e, nI_ltI hh (by omega)] at h2
      omega
    · left
      have h0 : ¬ a < 0 := fun h => h1 (Int32.lt_of_lt_of_le h (nI_pos' hl))
      obtain ⟨j, hj, rfl⟩ := nI_of h0
      rw [nI_ltI hj hl] at h1
      rw [nI_ltI hh hj] at h2
      refine ⟨j, by omega, by omega, rfl, ?_⟩
      rw [if_neg (by rw [nI_ltI hj hl]; omega), if_neg (by rw [nI_ltI hh hj]; omega)]
theorem isDay_ok (a : Int32) (C : FMem) : (∀ j, j ≤ 40 → a = nI j → f_X8_isDayFromNow a C = some (1, C)) ∧ ((∀ j, 0 ≤ j → j ≤ 40 → a ≠ nI j) → f_X8_isDayFromNow a C = some (0, C)) := by
  unfold f_X8_isDayFromNow
  constructor
  · rintro j hj rfl
    rw [if_neg (nI_pos (by omega)), if_neg (by rw [c_gt (by omega) (by omega)]; omega)]
  · intro h
    by_cases h0 : a < 0
    · rw [if_pos h0]
    · obtain ⟨j, hj, rfl⟩ := nI_of h0
      have : ¬ j ≤ 40 := fun q => h j (by omega) q rfl
      rw [if_neg h0, if_pos (by rw [c_gt hj (by omega)]; omega)]
theorem isHalf_ok (a : Int32) (C : FMem) : (∀ j, j ≤ 1 → a = nI j → f_X8_isHalf a C = some (1, C)) ∧ ((∀ j, 0 ≤ j → j ≤ 1 → a ≠ nI j) → f_X8_isHalf a C = some (0, C)) := by
  unfold f_X8_isHalf
  constructor
  · rintro j hj rfl
    rcases (show j = 0 ∨ j = 1 by omega) with rfl | rfl
    · rfl
    · rfl
  · intro h
    rw [if_neg (show ¬ a = 0 from fun q => h 0 (by omega) (by omega) q), if_neg (show ¬ a = 1 from fun q => h 1 (by omega) (by omega) q)]
/-- the class sets out: looks hm days ahead, and starts -/
theorem setC {C M : FMem} {np n hm K : Nat} (hrc : RC C M np) (hn : n ≤ 9) (h23 : C 23 3 = nI n) (hh : hm ≤ 61) (hK : K < np) (h1 : C 21 1 = nI K) : ∃ Ca C', f_X8_lookAhead (nI hm) C = some (0, Ca) ∧ f_X3_start Ca = some (0, C') ∧ (∀ j, j < 94 → C' j = C j) ∧ ClOK C' np hm (GT C n (C 21 3)) ∧ RG C' np id (K, C 21 2) ∧ OL Ca 23 (C 21 3) (C 21 0) hm n ∧ (∀ j, j < 98 → C' j = Ca j) := by
  obtain ⟨Ca, e, a, b, c, d⟩ := aheadC hrc hn h23 hh
  obtain ⟨C', e1, a1, b1⟩ := start_ok Ca d.1 hK (by rw [a 21 (by decide)]; exact h1)
  rw [a 21 (by decide)] at b1
  exact ⟨Ca, C', e, e1, fun j hj => by rw [a1 j (by omega) (by omega), a j hj], d.mv (a1 12 (by decide) (by decide)) (a1 94 (by decide) (by decide)) (a1 97 (by decide) (by decide)), b1, c, fun j hj => a1 j (by omega) (by omega)⟩
/-- the run by all that is so -/
abbrev RT (C : FMem) (np n K : Nat) : Nat → Nat × Int32 := rn np id (C 15) (C 12 5) (GT C n (C 21 3)) (K, C 21 2)
abbrev BT (C : FMem) (np n K : Nat) : Nat → Bool := bl np id (C 15) (C 12 5) (GT C n (C 21 3)) (K, C 21 2)
/-- the class goes on a day -/
theorem stepC {C C1 Ck : FMem} {np hm d : Nat} {G : Nat → Nat → Int32} {q : Nat × Int32} (hcl : ClOK C1 np hm G) (h94 : ∀ j, j < 94 → C1 j = C j) (hq : q.1 < np) (hd : d < hm) (h1 : ∀ j, j ≠ 98 → Ck j = C1 j) (h2 : RG Ck np id (rn np id (C 15) (C 12 5) G q d)) :
    ∃ C', f_X3_live (nI d) Ck = some (b2i (bl np id (C 15) (C 12 5) G q d), C') ∧ (∀ j, j ≠ 98 → C' j = C1 j) ∧ RG C' np id (rn np id (C 15) (C 12 5) G q (d + 1)) := by
  obtain ⟨p6, q1, q2, q3, q4, q5⟩ := hcl.mv (h1 12 (by decide)) (h1 94 (by decide)) (h1 97 (by decide))
  have e15 : Ck 15 = C 15 := by rw [h1 15 (by decide), h94 15 (by decide)]
  have e12 : Ck 12 = C 12 := by rw [h1 12 (by decide), h94 12 (by decide)]
  obtain ⟨C', e, a, b⟩ := live_run (C := Ck) (ln := id) (G := G) (q := q) (d := d) p6 q1 q2 q3 q4 hd hq (fun _ hj => hj) (fun p hp => q5 d p hd hp) (by rw [e15, e12]; exact h2)
  rw [e15, e12] at e b
  exact ⟨C', e, fun j hj => by rw [a j hj, h1 j hj], b⟩
theorem king_loop {C C1 : FMem} {np hm D : Nat} {G : Nat → Nat → Int32} {q : Nat × Int32} (hcl : ClOK C1 np hm G) (h94 : ∀ j, j < 94 → C1 j = C j) (hq : q.1 < np) (hD : D < hm) (w : Int32) : ∀ (m d f : Nat) (Ck : FMem), d + m = D → m < f → (∀ j, j ≠ 98 → Ck j = C1 j) → RG Ck np id (rn np id (C 15) (C 12 5) G q d) →
    ∃ C', X8_king_b36 f (nI D) w (nI d) Ck = some (if w = 0 then nI (rn np id (C 15) (C 12 5) G q D).1 else (rn np id (C 15) (C 12 5) G q D).2 / C 12 5 + G D (rn np id (C 15) (C 12 5) G q D).1, C') ∧ ∀ j, j ≠ 98 → C' j = C1 j := by
  intro m
  induction m with
  | zero =>
    intro d f Ck hd hf h1 h2
    obtain ⟨g, rfl, -⟩ := fu_s hf
    have hd : d = D := by omega
    subst hd
    obtain ⟨p6, q1, q2, q3, q4, q5⟩ := hcl.mv (h1 12 (by decide)) (h1 94 (by decide)) (h1 97 (by decide))
    have e15 : Ck 15 = C 15 := by rw [h1 15 (by decide), h94 15 (by decide)]
    have e12 : Ck 12 = C 12 := by rw [h1 12 (by decide), h94 12 (by decide)]
    have er := rings_run (C := Ck) (ln := id) (G := G) (q := q) (d := d) p6 q2 q3 q4 hD hq (fun _ hj => hj) (fun p hp => q5 d p hD hp) (by rw [e15, e12]; exact h2)
    rw [e15, e12] at er
    show ∃ C', X8_king_b36s (X8_king_b36 g) (nI d) w (nI d) Ck = _ ∧ _
    unfold X8_king_b36s
    rw [if_pos (Int32.le_refl _), reigning_ok p6 h2, bnd_ok, er, bnd_ok, fset_at]
    refine ⟨fset Ck 98 4 ((rn np id (C 15) (C 12 5) G q d).2 / C 12 5 + G d (id (rn np id (C 15) (C 12 5) G q d).1)), ?_, fun j hj => by rw [fset_ne _ _ _ hj, h1 j hj]⟩
    by_cases hw : w = 0
    · rw [if_pos hw, if_pos hw]; rfl
    · rw [if_neg hw, if_neg hw]; rfl
  | succ m ih =>
    intro d f Ck hd hf h1 h2
    obtain ⟨g, rfl, hg⟩ := fu_s hf
    obtain ⟨C2, e2, a2, b2⟩ := stepC (C := C) (d := d) hcl h94 hq (by omega) h1 h2
    obtain ⟨C', e, r⟩ := ih (d + 1) g C2 (by omega) (by omega) a2 b2
    have hD61 := hcl.2.2.2.1
    refine ⟨C', ?_, r⟩
    show X8_king_b36s (X8_king_b36 g) (nI D) w (nI d) Ck = _
    unfold X8_king_b36s
    rw [if_neg (by rw [nI_leI (by omega) (by omega)]; omega), e2, bnd_ok, nI_1]
    exact e
theorem mGoesOn {M : FMem} {np n : Nat} {ln : Nat → Nat} {sd : Nat → Int32} {fd : Int32} {G : Nat → Nat → Int32} {q : Nat × Int32} {day0 hid : Int32} {dy tp sg : Nat → Int32} (hO : MoOK M np n ln) (hq : q.1 < np) (hsd : ∀ p, p < np → sdM M p = sd p) (hfd : M 0 2 = fd) (hG : ∀ d p, p < np → gM (kdM M) (tsM M) n hid dy tp sg (M 0 20) (M 0 21) (day0 + nI d) p = G d p) (h : NWr (M 11) np ln q day0 n hid dy tp sg) {c : Nat} (hc : c < 90000) :
    ∃ N', f_X9_goesOn (nI c) M = some (nI (bc (bl np ln sd fd G q) c), rset M 11 N') ∧ NWr N' np ln (rn np ln sd fd G q c) (day0 + nI c) n hid dy tp sg ∧ ∀ i, i < 6 → N' (10 + i) = M 11 (10 + i) + nI (bc (fun e => decide (i = ln (rn np ln sd fd G q e).1)) c) := by
  have hrn : ∀ e, rn np ln (sdM M) (M 0 2) (GM M n hid dy tp sg day0) q e = rn np ln sd fd G q e := fun e => by
    rw [hfd]
    exact rn_congr hq (fun j hj => ⟨rfl, hO.2.2.2.2.2 j hj⟩) hsd e (fun d p _ hp => hG d p hp)
  have hbl : bl np ln (sdM M) (M 0 2) (GM M n hid dy tp sg day0) q = bl np ln sd fd G q := by
    funext e
    rw [hfd]
    exact bl_congr hq (fun j hj => ⟨rfl, hO.2.2.2.2.2 j hj⟩) hsd e (fun d p _ hp => hG d p hp)
  obtain ⟨N', e, a, b⟩ := goesOn_loop (day0 := day0) (hid := hid) (dy := dy) (tp := tp) (sg := sg) hO hq (c := c) (by omega) c 0 FU (M 11) (by omega) (FU_gt (by omega)) (by rw [show (nI 0) = (0 : Int32) from rfl, Int32.add_zero]; exact h)
  rw [rset_self, hbl] at e
  rw [hrn] at a
  refine ⟨N', e, a, fun i hi => ?_⟩
  rw [b i hi]
  have e9 : (fun e => decide (i = ln (rn np ln (sdM M) (M 0 2) (GM M n hid dy tp sg day0) q (0 + e)).1)) = (fun e => decide (i = ln (rn np ln sd fd G q e).1)) := by
    funext e
    rw [hrn, Nat.zero_add]
  rw [e9]
theorem NWr.king {N : Nat → Int32} {np : Nat} {ln : Nat → Nat} {q : Nat × Int32} {day : Int32} {n : Nat} {hid : Int32} {dy tp sg : Nat → Int32} (h : NWr N np ln q day n hid dy tp sg) (hq : q.1 < np) : N 4 = nI (ln q.1) := by
  have := h.2.2.2.2.1 0 (by omega)
  rwa [Nat.add_zero, Nat.add_zero, Nat.mod_eq_of_lt hq] at this
theorem op_king (a1 a2 : Int32) : OpOK (f_X8_king a1 a2) (f_X9_king a1 a2) := by
  intro C M h
  have h' := h
  obtain ⟨np, hrc, hmr, -⟩ := h
  unfold f_X8_king f_X9_king
  rcases in_ok a1 (lo := 0) (hi := 40) (by decide) (by decide) M with ⟨D, -, hD, rfl, hi1⟩ | ⟨hno, hi1⟩
  · have hi1' : f_X9_in (nI D) 0 40 M = some (1, M) := hi1
    rw [hi1', bnd_ok, if_neg (by decide), (isDay_ok (nI D) C).1 D hD rfl, bnd_ok, if_neg (by decide)]
    rcases in_ok a2 (lo := 0) (hi := 1) (by decide) (by decide) M with ⟨w, -, hw, rfl, hi2⟩ | ⟨hno2, hi2⟩
    · have hi2' : f_X9_in (nI w) 0 1 M = some (1, M) := hi2
      rw [hi2', bnd_ok, if_neg (by decide), (isHalf_ok (nI w) C).1 w hw rfl, bnd_ok, if_neg (by decide), nI_1]
      obtain ⟨M1, K, n, e1, m1, b1, b21, hK, hn, hC1, h23, hO, hN, hsd, hfd, hG, -, -⟩ := fromM hrc hmr
      obtain ⟨Ca, C1, e2, e3, c1, hcl, hrg, -⟩ := setC (hm := D + 1) hrc hn h23 (by omega) hK hC1
      obtain ⟨C2, e4, c2⟩ := king_loop (C := C) (G := GT C n (C 21 3)) (q := (K, C 21 2)) (D := D) hcl c1 hK (by omega) (nI w) D 0 FU C1 (by omega) (FU_gt (by omega)) (fun _ _ => rfl) hrg
      obtain ⟨N', e5, n5, -⟩ := mGoesOn (c := D) hO hK hsd hfd (hG (C 21 3)) hN (by omega)
      have hlt : (rn np id (C 15) (C 12 5) (GT C n (C 21 3)) (K, C 21 2) D).1 < np := rn_lt hK D
      have e4' : X8_king_b36 FU (nI D) (nI w) 0 C1 = _ := e4
      rw [e2, bnd_ok, e3, bnd_ok, e4', e1, bnd_ok, e5, bnd_ok, rset_same, n5.king hlt]
      have hrel : Rel C2 (rset M1 11 N') := h'.query (fun j hj => by rw [c2 j (by omega), c1 j hj]) (fun j j1 j2 => by rw [rset_ne _ _ (by omega), m1 j (by omega) (by omega)]) (fun k _ k2 => by rw [rset_ne _ _ (by decide), b1 k k2])
      by_cases hw0 : nI w = 0
      · rw [if_pos hw0, if_pos hw0]
        exact ⟨_, _, _, rfl, rfl, hrel⟩
      · rw [if_neg hw0, if_neg hw0]
        have hO' := hO.row N'
        have hcm := X9_comes_ok (rset M1 11 N') (i := (rn np id (C 15) (C 12 5) (GT C n (C 21 3)) (K, C 21 2) D).1) (n := n) (by have := hO.2.1; omega) hO.2.2.1 (by rw [rset_same]; exact n5.2.2.1) hO'.2.2.2.2.1 (N' 1)
        have e0 : rset M1 11 N' 0 = M1 0 := rset_ne _ _ (by decide)
        have e1' : rset M1 11 N' 1 = M1 1 := rset_ne _ _ (by decide)
        rw [rset_same, cmV_gM n5, e0, n5.2.1, hfd] at hcm
        have ek : kdM (rset M1 11 N') = kdM M1 := by unfold kdM; rw [e1']
        have et : tsM (rset M1 11 N') = tsM M1 := by unfold tsM; rw [e1']
        rw [ek, et, hG (C 21 3) D _ hlt] at hcm
        rw [n5.2.1]
        have hcm' : f_X9_comes (nI (id (rn np id (C 15) (C 12 5) (GT C n (C 21 3)) (K, C 21 2) D).1)) _ (rset M1 11 N') = _ := hcm
        rw [hcm', bnd_ok]
        exact ⟨_, _, _, rfl, rfl, hrel⟩
    · have hi2' : f_X9_in a2 0 1 M = some (0, M) := hi2
      rw [hi2', bnd_ok, if_pos rfl, (isHalf_ok a2 C).2 hno2, bnd_ok, if_pos rfl]
      exact ⟨_, _, _, rfl, rfl, h'⟩
  · have hi1' : f_X9_in a1 0 40 M = some (0, M) := hi1
    rw [hi1', bnd_ok, if_pos rfl, (isDay_ok a1 C).2 hno, bnd_ok, if_pos rfl]
    exact ⟨_, _, _, rfl, rfl, h'⟩
