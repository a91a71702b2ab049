/-! ===== the relation between the class's memory and the reference's ===== -/
def RC (C M : FMem) (np : Nat) : Prop := 1 ≤ np ∧ np ≤ 6 ∧ C 12 3 = nI np ∧ M 0 0 = nI np ∧ fdOK (C 12 5) ∧ M 0 2 = C 12 5 ∧ ∀ i, i < np → (∃ ta, ta < 32 ∧ C 14 i = nI ta) ∧ M 1 (3 * i) = C 13 i ∧ M 1 (3 * i + 1) = C 14 i ∧ M 1 (3 * i + 2) = C 15 i
/-- a moment of the class, a row of the reference -/
def MR (np : Nat) (C : FMem) (t : Nat) (N : Nat → Int32) : Prop := N 0 = C t 0 ∧ N 1 = C t 2 ∧ N 3 = C t 3 ∧ (∃ K, K < np ∧ C t 1 = nI K ∧ ∀ j, j < np → N (4 + j) = nI ((K + j) % np)) ∧ (∀ i, i < np → N (10 + i) = C (t + 1) i) ∧
  ∃ n, n ≤ 9 ∧ C (t + 2) 3 = nI n ∧ N 2 = nI n ∧ (∀ k, n ≤ k → k < 32 → bt (C t 3) k = false) ∧ ∀ k, k < n → N (16 + 3 * k) = C (t + 3) k ∧ N (16 + 3 * k + 1) = C (t + 4) k ∧ N (16 + 3 * k + 2) = C (t + 5) k
def RA (C M : FMem) (np : Nat) : Prop := ∃ na o, na ≤ 8 ∧ o < 8 ∧ C 27 1 = nI o ∧ C 27 2 = nI na ∧ M 0 5 = nI na ∧ ∀ k, k < na → MR np C (29 + 6 * ((o + k) % 8)) (fun j => M 4 (46 * k + j))
def RK (C M : FMem) (np : Nat) : Prop := ∃ nk, nk ≤ 2 ∧ C 77 1 = 0 ∧ C 77 2 = nI nk ∧ M 0 7 = nI nk ∧ ∀ k, k < nk → MR np C (79 + 6 * k) (fun j => M 5 (46 * k + j))
def RS (C M : FMem) : Prop := ∃ ns, ns ≤ 8 ∧ C 91 2 = nI ns ∧ M 0 9 = nI ns ∧ ∀ k, k < ns → M 6 (2 * k) = C 92 k ∧ M 6 (2 * k + 1) = C 93 k ∧ ∃ e, e ≤ 60 ∧ C 93 k = nI e
def RX (C M : FMem) : Prop := ∃ nt, nt ≤ 200 ∧ C 1 1 = nI nt ∧ M 0 12 = nI nt ∧ ∀ k, k < nt → M 7 k = C 2 k
def RF (C M : FMem) (np : Nat) : Prop := ∃ nf, nf ≤ 9 ∧ C 16 3 = nI nf ∧ M 3 2 = nI nf ∧ M 3 0 = 0 ∧ M 3 1 = 0 ∧ M 3 3 = 0 ∧ (∀ j, j < np → M 3 (4 + j) = nI j) ∧ ∀ k, k < nf → M 3 (16 + 3 * k) = C 17 k ∧ M 3 (16 + 3 * k + 1) = C 18 k ∧ M 3 (16 + 3 * k + 2) = C 19 k
def Rel (C M : FMem) : Prop := ∃ np, RC C M np ∧ MR np C 21 (M 2) ∧ RA C M np ∧ RK C M np ∧ RS C M ∧ RX C M ∧ RF C M np
theorem MR.rows {np t : Nat} {C C' : FMem} {N N' : Nat → Int32} (h : MR np C t N) (h0 : C' t = C t) (h1 : C' (t + 1) = C (t + 1)) (h2 : C' (t + 2) = C (t + 2)) (h3 : C' (t + 3) = C (t + 3)) (h4 : C' (t + 4) = C (t + 4)) (h5 : C' (t + 5) = C (t + 5)) (hp : np ≤ 6) (hN : ∀ j, j < 46 → N' j = N j) : MR np C' t N' := by
  unfold MR at h ⊢
  rw [h0, h1, h2, h3, h4, h5]
  obtain ⟨a1, a2, a3, ⟨K, b1, b2, b3⟩, a5, n, c1, c2, c3, c4, c5⟩ := h
  refine ⟨by rw [hN _ (by omega)]; exact a1, by rw [hN _ (by omega)]; exact a2, by rw [hN _ (by omega)]; exact a3, ⟨K, b1, b2, fun j hj => by rw [hN _ (by omega)]; exact b3 j hj⟩, fun i hi => by rw [hN _ (by omega)]; exact a5 i hi, n, c1, c2, by rw [hN _ (by omega)]; exact c3, c4, fun k hk => ?_⟩
  rw [hN _ (by omega), hN _ (by omega), hN _ (by omega)]
  exact c5 k hk
theorem Rel.same {C M C' M' : FMem} (h : Rel C M) (hC : ∀ j, (j = 1 ∨ j = 2 ∨ (12 ≤ j ∧ j < 94)) → C' j = C j) (hM : ∀ j, 1 ≤ j → j ≤ 7 → M' j = M j) (h0 : ∀ k, (k = 0 ∨ k = 2 ∨ k = 5 ∨ k = 7 ∨ k = 9 ∨ k = 12) → M' 0 k = M 0 k) : Rel C' M' := by
  obtain ⟨np, hrc, hmr, ⟨na, o, a1, a2, a3, a4, a5, a6⟩, ⟨nk, k1, k2, k3, k4, k5⟩, ⟨ns, s1, s2, s3, s4⟩, ⟨nt, t1, t2, t3, t4⟩, ⟨nf, f1, f2, f3⟩⟩ := h
  have hp := hrc.2.1
  have mv : ∀ t N N', 21 ≤ t → t + 5 < 94 → (∀ j, j < 46 → N' j = N j) → MR np C t N → MR np C' t N' := fun t N N' g1 g2 g3 g => g.rows (hC _ (by omega)) (hC _ (by omega)) (hC _ (by omega)) (hC _ (by omega)) (hC _ (by omega)) (hC _ (by omega)) hp g3
  refine ⟨np, ?_, ?_, ⟨na, o, a1, a2, ?_, ?_, ?_, fun k hk => ?_⟩, ⟨nk, k1, ?_, ?_, ?_, fun k hk => ?_⟩, ⟨ns, s1, ?_, ?_, ?_⟩, ⟨nt, t1, ?_, ?_, ?_⟩, ⟨nf, f1, ?_, ?_⟩⟩
  · unfold RC
    rw [hC 12 (by omega), hC 13 (by omega), hC 14 (by omega), hC 15 (by omega), hM 1 (by omega) (by omega), h0 0 (by omega), h0 2 (by omega)]
    exact hrc
  · exact mv 21 _ _ (by omega) (by omega) (fun j _ => by rw [hM 2 (by omega) (by omega)]) hmr
  · rw [hC 27 (by omega)]; exact a3
  · rw [hC 27 (by omega)]; exact a4
  · rw [h0 5 (by omega)]; exact a5
  · exact mv _ _ _ (by omega) (by omega) (fun j _ => by rw [hM 4 (by omega) (by omega)]) (a6 k hk)
  · rw [hC 77 (by omega)]; exact k2
  · rw [hC 77 (by omega)]; exact k3
  · rw [h0 7 (by omega)]; exact k4
  · exact mv _ _ _ (by omega) (by omega) (fun j _ => by rw [hM 5 (by omega) (by omega)]) (k5 k hk)
  · rw [hC 91 (by omega)]; exact s2
  · rw [h0 9 (by omega)]; exact s3
  · rw [hM 6 (by omega) (by omega), hC 92 (by omega), hC 93 (by omega)]; exact s4
  · rw [hC 1 (by omega)]; exact t2
  · rw [h0 12 (by omega)]; exact t3
  · rw [hM 7 (by omega) (by omega), hC 2 (by omega)]; exact t4
  · rw [hC 16 (by omega)]; exact f2
  · rw [hM 3 (by omega) (by omega), hC 17 (by omega), hC 18 (by omega), hC 19 (by omega)]; exact f3
/-- both answer alike, and stay related -/
def OpOK (fc fm : FMem → Opt) : Prop := ∀ C M, Rel C M → ∃ r C' M', fc C = some (r, C') ∧ fm M = some (r, M') ∧ Rel C' M'
theorem sub_iff (x y z : Int32) : x - y = z ↔ x = y + z := by
  constructor
  · rintro rfl
    rw [Int32.add_comm, Int32.sub_add_cancel]
  · rintro rfl
    rw [Int32.add_comm, Int32.add_sub_cancel]
/-! one day of the class, one day of the reference, by the same gains -/
theorem live_run {C : FMem} {np hm d : Nat} {ln : Nat → Nat} {G : Nat → Nat → Int32} {q : Nat × Int32} (hp : np ≤ 6) (hc : C 12 3 = nI np) (hf : fdOK (C 12 5)) (hh : hm ≤ 61) (h3 : C 94 3 = nI hm) (hd : d < hm) (hq : q.1 < np) (hl : ∀ j, j < np → ln j < np) (hG : ∀ p, p < np → C 97 (d * 6 + p) = G d p) (h : RG C np ln (rn np ln (C 15) (C 12 5) G q d)) :
    ∃ C', f_X3_live (nI d) C = some (b2i (bl np ln (C 15) (C 12 5) G q d), C') ∧ (∀ j, j ≠ 98 → C' j = C j) ∧ RG C' np ln (rn np ln (C 15) (C 12 5) G q (d + 1)) := by
  obtain ⟨C', e, a, b⟩ := live_ok (d := d) hp hc hf hh h3 (by omega) h
  have es : stp np ln (C 15) (C 12 5) (gC C hm d) (rn np ln (C 15) (C 12 5) G q d) = stp np ln (C 15) (C 12 5) (G d) (rn np ln (C 15) (C 12 5) G q d) := stp_congr (rn_lt hq d) (fun j hj => ⟨rfl, hl j hj⟩) (fun _ _ => rfl) (fun p hp => by unfold gC; rw [if_pos hd]; exact hG p hp)
  rw [es] at e b
  exact ⟨C', e, a, b⟩
theorem rings_run {C : FMem} {np hm d : Nat} {ln : Nat → Nat} {G : Nat → Nat → Int32} {q : Nat × Int32} (hp : np ≤ 6) (hf : fdOK (C 12 5)) (hh : hm ≤ 61) (h3 : C 94 3 = nI hm) (hd : d < hm) (hq : q.1 < np) (hl : ∀ j, j < np → ln j < np) (hG : ∀ p, p < np → C 97 (d * 6 + p) = G d p) (h : RG C np ln (rn np ln (C 15) (C 12 5) G q d)) :
    f_X3_ringsOn (nI d) C = some (b2i (bl np ln (C 15) (C 12 5) G q d), fset C 98 4 ((rn np ln (C 15) (C 12 5) G q d).2 / C 12 5 + G d (ln (rn np ln (C 15) (C 12 5) G q d).1))) := by
  have e := ringsOn_ok hp hf hh h3 (d := d) (by omega) h
  have hlt := hl _ (rn_lt (ln := ln) (sd := C 15) (fd := C 12 5) (G := G) hq d)
  have es : stp np ln (C 15) (C 12 5) (gC C hm d) (rn np ln (C 15) (C 12 5) G q d) = stp np ln (C 15) (C 12 5) (G d) (rn np ln (C 15) (C 12 5) G q d) := stp_congr (rn_lt hq d) (fun j hj => ⟨rfl, hl j hj⟩) (fun _ _ => rfl) (fun p hp => by unfold gC; rw [if_pos hd]; exact hG p hp)
  have eg : gC C hm d (ln (rn np ln (C 15) (C 12 5) G q d).1) = G d (ln (rn np ln (C 15) (C 12 5) G q d).1) := by unfold gC; rw [if_pos hd]; exact hG _ hlt
  rw [es, eg] at e
  exact e
theorem goes_step {M : FMem} {np n : Nat} {ln : Nat → Nat} {sd : Nat → Int32} {fd : Int32} {G : Nat → Nat → Int32} {q : Nat × Int32} {day0 hid : Int32} {dy tp sg : Nat → Int32} (hO : MoOK M np n ln) (hq : q.1 < np) (hsd : ∀ p, p < np → sdM M p = sd p) (hfd : M 0 2 = fd) (d : Nat) (hG : ∀ p, p < np → gM (kdM M) (tsM M) n hid dy tp sg (M 0 20) (M 0 21) (day0 + nI d) p = G d p) (h : NWr (M 11) np ln (rn np ln sd fd G q d) (day0 + nI d) n hid dy tp sg) :
    ∃ N', f_X9_goes M = some (b2i (bl np ln sd fd G q d), rset M 11 N') ∧ NWr N' np ln (rn np ln sd fd G q (d + 1)) (day0 + nI (d + 1)) n hid dy tp sg ∧ ∀ i, i < 6 → N' (10 + i) = if i = ln (rn np ln sd fd G q d).1 then M 11 (10 + i) + 1 else M 11 (10 + i) := by
  obtain ⟨hp1, hp, hn, hM, hf, hln⟩ := hO
  obtain ⟨N', e, a, b⟩ := goes_ok hp1 hp hn hM hf (rn_lt hq d) hln h
  have es : stp np ln (sdM M) (M 0 2) (gM (kdM M) (tsM M) n hid dy tp sg (M 0 20) (M 0 21) (day0 + nI d)) (rn np ln sd fd G q d) = stp np ln sd fd (G d) (rn np ln sd fd G q d) := by
    rw [hfd]
    exact stp_congr (rn_lt hq d) (fun j hj => ⟨rfl, hln j hj⟩) hsd hG
  rw [es] at e a
  rw [nI_day] at a
  exact ⟨N', e, a, b⟩
/-! the days to come, as all is: both memories hold the same gains -/
def GT (C : FMem) (n : Nat) (hid : Int32) : Nat → Nat → Int32 := fun d p => gM (C 13) (C 14) n hid (C 24) (C 25) (C 26) 0 0 (C 21 0 + nI d) p
theorem gM_0 (kd ts : Nat → Int32) (n : Nat) (hid : Int32) (dy tp sg : Nat → Int32) (mt day : Int32) (p : Nat) : gM kd ts n hid dy tp sg mt 0 day p = gM kd ts n hid dy tp sg 0 0 day p := by
  unfold gM
  rw [if_pos (by decide), if_pos (by decide)]
theorem RC.ct {C M : FMem} {np : Nat} (h : RC C M np) : CtOK C np := ⟨h.1, h.2.1, h.2.2.1, h.2.2.2.2.1, fun i hi => (h.2.2.2.2.2.2 i hi).1⟩
theorem RC.fade {C M : FMem} {np : Nat} (h : RC C M np) : ¬ M 0 2 = 0 := by
  obtain ⟨-, -, -, -, ⟨f, f1, f2, e⟩, e2, -⟩ := h
  rw [e2, e]
  exact nI_ne0 (by omega) (by omega)
/-- the class looks ahead, with hid hidden -/
theorem lookC {C M : FMem} {np n hm : Nat} (hrc : RC C M np) (hn : n ≤ 9) (h23 : C 23 3 = nI n) (hh : hm ≤ 61) (hid : Int32) :
    ∃ C', f_X2_look 23 hid (C 21 0) (nI hm) C = some (0, C') ∧ (∀ j, j < 94 → C' j = C j) ∧ (∀ j, 98 ≤ j → C' j = C j) ∧ OL C' 23 hid (C 21 0) hm n ∧ ∀ d p, d < hm → p < np → C' 97 (d * 6 + p) = GT C n hid d p := by
  obtain ⟨C', e, a, b, c⟩ := X2_look_ok 23 (Or.inr rfl) C hid (C 21 0) (hm := hm) (n := n) (np := np) hrc.ct hh hn h23
  refine ⟨C', e, fun j hj => a j (by omega) (by omega) (by omega) (by omega), fun j hj => a j (by omega) (by omega) (by omega) (by omega), b, fun d p hd hp => ?_⟩
  rw [c d p hd hp]
  unfold gnv GT gM
  rw [if_pos (by decide), a 13 (by decide) (by decide) (by decide) (by decide), a 14 (by decide) (by decide) (by decide) (by decide), a 25 (by decide) (by decide) (by decide) (by decide), a 26 (by decide) (by decide) (by decide) (by decide)]
  refine congrArg Prod.fst (gp_congr n (fun k hk => ?_) (fun _ _ _ => rfl) (fun _ _ _ => rfl))
  rw [b.2.2.2.1 d (by omega) k (by omega), a 24 (by decide) (by decide) (by decide) (by decide)]
  unfold shB prD
  have e1 : (k < n ∧ C 24 k - C 21 0 = nI d ∧ d < hm) ↔ C 24 k = C 21 0 + nI d := by
    rw [sub_iff]
    constructor
    · intro h; exact h.2.1
    · intro h; exact ⟨hk, h, hd⟩
  rw [decide_eq_decide.mpr e1]
theorem isLookAhead {C : FMem} (a : Int32) : f_X8_lookAhead a C = bnd (f_X2_look 23 (C 21 3) (C 21 0) a C) fun _ M2 => some (0, M2) := rfl
/-- the reference sets out from where it stands -/
theorem fromM {C M : FMem} {np : Nat} (hrc : RC C M np) (hmr : MR np C 21 (M 2)) : ∃ M' K n, f_X9_from 2 M = some (0, M') ∧ (∀ j, j ≠ 0 → j ≠ 11 → M' j = M j) ∧ (∀ k, k ≠ 21 → M' 0 k = M 0 k) ∧ M' 0 21 = 0 ∧ K < np ∧ n ≤ 9 ∧ C 21 1 = nI K ∧ C 23 3 = nI n ∧ MoOK M' np n id ∧ NWr (M' 11) np id (K, C 21 2) (C 21 0) n (C 21 3) (C 24) (C 25) (C 26) ∧ (∀ p, p < np → sdM M' p = C 15 p) ∧ M' 0 2 = C 12 5 ∧
    (∀ hid d p, p < np → gM (kdM M') (tsM M') n hid (C 24) (C 25) (C 26) (M' 0 20) (M' 0 21) (C 21 0 + nI d) p = GT C n hid d p) ∧ (∀ i, i < 6 → M' 11 (10 + i) = M 2 (10 + i)) ∧ (∀ k, n ≤ k → k < 32 → bt (C 21 3) k = false) := by
  obtain ⟨M', e, a, b, c, d⟩ := X9_from_ok 2 (Or.inl rfl) M
  obtain ⟨a1, a2, a3, ⟨K, b1, b2, b3⟩, a5, n, c1, c2, c3, c4, c5⟩ := hmr
  have h1 : M' 1 = M 1 := a 1 (by decide) (by decide)
  have hf := hrc.fade
  obtain ⟨p1, p6, hc3, hm0, hfd, hm2, hper⟩ := hrc
  refine ⟨M', K, n, e, a, c, d, b1, c1, b2, c2, ⟨p1, p6, by omega, by rw [c 0 (by decide)]; exact hm0, by rw [c 2 (by decide)]; exact hf, fun j hj => hj⟩, ⟨by rw [b 0 (by decide)]; exact a1, by rw [b 1 (by decide)]; exact a2, by rw [b 2 (by decide)]; exact c3, by rw [b 3 (by decide)]; exact a3, fun j hj => by rw [b (4 + j) (by omega)]; exact b3 j hj, fun k hk => ?_⟩, fun p hp => ?_, by rw [c 2 (by decide)]; exact hm2, fun hid d' p hp => ?_, fun i hi => b (10 + i) (by omega), c4⟩
  · rw [b (16 + 3 * k) (by omega), b (16 + 3 * k + 1) (by omega), b (16 + 3 * k + 2) (by omega)]
    exact c5 k hk
  · unfold sdM
    rw [h1]
    exact (hper p hp).2.2.2
  · unfold GT
    rw [d, gM_0]
    unfold gM kdM tsM
    rw [h1, (hper p hp).2.1, (hper p hp).2.2.1]
