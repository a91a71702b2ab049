/-! ===== away ===== -/
def awf (hid : Int32) (F : Nat → Int32) : Nat → Nat → Int32 → Int32 → Int32 × Int32
  | 0, _, be, la => (be, la)
  | m + 1, k, be, la => if bt hid k = true then awf hid F m (k + 1) be la else if F k ≤ la then awf hid F m (k + 1) be la else awf hid F m (k + 1) (nI k) (F k)
/-- when the bell goes first, with thing k hidden too -/
def awF (C : FMem) (np n K : Nat) (k : Nat) : Option Nat := fst1 (bl np id (C 15) (C 12 5) (GT C n (C 21 3 ||| (1 : Int32) <<< (nI k &&& 31))) (K, C 21 2)) 41 0
theorem GT_same {C C' : FMem} (h : ∀ j, j < 94 → C' j = C j) (n : Nat) (hid : Int32) : GT C' n hid = GT C n hid := by
  unfold GT
  rw [h 13 (by decide), h 14 (by decide), h 21 (by decide), h 24 (by decide), h 25 (by decide), h 26 (by decide)]
theorem awayC {C M : FMem} {np n K : Nat} (hrc : RC C M np) (hn : n ≤ 9) (h23 : C 23 3 = nI n) (hK : K < np) (h1 : C 21 1 = nI K) (w : Int32) : ∀ (m k f : Nat) (be la : Int32) (Ck : FMem), k + m = n → m < f → (∀ j, j < 94 → Ck j = C j) →
    ∃ C', X8_away_b18 f w be la (nI k) Ck = some (if w = 0 then (awf (C 21 3) (fun k => fbv 41 (awF C np n K k)) m k be la).1 else (awf (C 21 3) (fun k => fbv 41 (awF C np n K k)) m k be la).2, C') ∧ ∀ j, j < 94 → C' j = C j := by
  intro m
  induction m with
  | zero =>
    intro k f be la Ck hk hf hC
    obtain ⟨g, rfl, -⟩ := fu_s hf
    have hk : k = n := by omega
    subst hk
    refine ⟨Ck, ?_, hC⟩
    show X8_away_b18s (X8_away_b18 g) w be la (nI k) Ck = _
    unfold X8_away_b18s awf
    rw [hC 23 (by decide), h23, if_pos (Int32.le_refl _)]
    by_cases hw : w = 0
    · rw [if_pos hw, if_pos hw]
    · rw [if_neg hw, if_neg hw]
  | succ m ih =>
    intro k f be la Ck hk hf hC
    obtain ⟨g, rfl, hg⟩ := fu_s hf
    show ∃ C', X8_away_b18s (X8_away_b18 g) w be la (nI k) Ck = _ ∧ _
    unfold X8_away_b18s awf X8_away_b98
    rw [hC 23 (by decide), h23, if_neg (by rw [nI_leI (by omega) (by omega)]; omega), isHidden_ok Ck 21 (show k < 32 by omega), bnd_ok, hC 21 (by decide), nI_1]
    by_cases hb : bt (C 21 3) k = true
    · rw [if_neg (by rw [hb]; decide), if_pos hb]
      exact ih (k + 1) g be la Ck (by omega) (by omega) hC
    · have hb' := Bool.not_eq_true _ |>.mp hb
      rw [if_pos (b2i_0.mpr hb'), if_neg hb]
      have hrck : RC Ck M np := hrc.mv (hC _ (by decide)) (hC _ (by decide)) (hC _ (by decide)) (hC _ (by decide)) rfl rfl rfl
      obtain ⟨C1, e1, a1, -, hol, d1⟩ := lookC (hm := 41) (n := n) hrck hn (by rw [hC 23 (by decide)]; exact h23) (by decide) (C 21 3 ||| (1 : Int32) <<< (nI k &&& 31))
      rw [hC 21 (by decide)] at e1
      have e1' : f_X2_look 23 (C 21 3 ||| (1 : Int32) <<< (nI k &&& 31)) (C 21 0) 41 Ck = some (0, C1) := e1
      have a1' : ∀ j, j < 94 → C1 j = C j := fun j hj => by rw [a1 j hj, hC j hj]
      rw [GT_same hC] at d1
      have hcl : ClOK C1 np 41 (GT C n (C 21 3 ||| (1 : Int32) <<< (nI k &&& 31))) := ⟨hrc.2.1, by rw [a1' 12 (by decide)]; exact hrc.2.2.1, by rw [a1' 12 (by decide)]; exact hrc.2.2.2.2.1, by decide, hol.2.2.1, d1⟩
      obtain ⟨C2, e2, a2⟩ := cFirstBell hcl (by decide) hK (by rw [a1' 21 (by decide)]; exact h1)
      rw [a1' 15 (by decide), a1' 12 (by decide), a1' 21 (by decide)] at e2
      have e2' : f_X8_firstBell C1 = some (fbv 41 (awF C np n K k), C2) := e2
      have hC2 : ∀ j, j < 94 → C2 j = C j := fun j hj => by rw [a2 j (by omega) (by omega), a1' j hj]
      rw [e1', bnd_ok, e2', bnd_ok]
      by_cases hla : fbv 41 (awF C np n K k) ≤ la
      · rw [if_pos hla, if_pos hla]
        exact ih (k + 1) g be la C2 (by omega) (by omega) hC2
      · rw [if_neg hla, if_neg hla]
        exact ih (k + 1) g (nI k) _ C2 (by omega) (by omega) hC2
theorem awayM {C M : FMem} {np n K : Nat} (hrc : RC C M np) (hmr : MR np C 21 (M 2)) (hn : n ≤ 9) (h23 : C 23 3 = nI n) (hK : K < np) (h1 : C 21 1 = nI K) (w : Int32) : ∀ (m k f : Nat) (be la : Int32) (Mk : FMem), k + m = n → m < f → (∀ j, j ≠ 0 → j ≠ 11 → Mk j = M j) → (∀ k, k ≠ 21 → Mk 0 k = M 0 k) →
    ∃ M', X9_away_b20 f w be la (nI k) Mk = some (if w = 0 then (awf (C 21 3) (fun k => fbv 41 (awF C np n K k)) m k be la).1 else (awf (C 21 3) (fun k => fbv 41 (awF C np n K k)) m k be la).2, M') ∧ (∀ j, j ≠ 0 → j ≠ 11 → M' j = M j) ∧ (∀ k, k ≠ 21 → M' 0 k = M 0 k) := by
  have hn2 : M 2 2 = nI n ∧ M 2 3 = C 21 3 := by
    obtain ⟨-, -, d3, -, -, n', n1, n2, n3, -, -⟩ := hmr
    have : n' = n := (nI_eq (by omega) (by omega)).mp (n2.symm.trans h23)
    rw [← this]
    exact ⟨n3, d3⟩
  intro m
  induction m with
  | zero =>
    intro k f be la Mk hk hf hM h0
    obtain ⟨g, rfl, -⟩ := fu_s hf
    have hk : k = n := by omega
    subst hk
    refine ⟨Mk, ?_, hM, h0⟩
    show X9_away_b20s (X9_away_b20 g) w be la (nI k) Mk = _
    unfold X9_away_b20s awf
    rw [hM 2 (by decide) (by decide), hn2.1, if_pos (Int32.le_refl _)]
    by_cases hw : w = 0
    · rw [if_pos hw, if_pos hw]
    · rw [if_neg hw, if_neg hw]
  | succ m ih =>
    intro k f be la Mk hk hf hM h0
    obtain ⟨g, rfl, hg⟩ := fu_s hf
    show ∃ M', X9_away_b20s (X9_away_b20 g) w be la (nI k) Mk = _ ∧ _
    unfold X9_away_b20s awf X9_away_b84 X9_away_b98 X9_away_b111 X9_away_b112
    rw [hM 2 (by decide) (by decide), hn2.1, if_neg (by rw [nI_leI (by omega) (by omega)]; omega), hn2.2, X9_has_ok _ (show k < 32 by omega), bnd_ok, nI_1]
    by_cases hb : bt (C 21 3) k = true
    · rw [if_pos hb, if_neg n10, if_pos hb]
      exact ih (k + 1) g be la Mk (by omega) (by omega) hM h0
    · rw [if_neg hb, if_pos rfl, if_neg hb]
      have hrck : RC C Mk np := hrc.mv rfl rfl rfl rfl (h0 _ (by decide)) (h0 _ (by decide)) (hM _ (by decide) (by decide))
      have hmrk : MR np C 21 (Mk 2) := by rw [hM 2 (by decide) (by decide)]; exact hmr
      obtain ⟨M1, K', n', e1, m1, b1, b21, hK', hn', hC1, h23', hO, hN, hsd, hfd, hG, -, -⟩ := fromM hrck hmrk
      have en : n' = n := (nI_eq (by omega) (by omega)).mp (h23'.symm.trans h23)
      have eK : K' = K := by
        have hp6 := hrc.2.1
        exact (nI_eq (by omega) (by omega)).mp (hC1.symm.trans h1)
      subst en; subst eK
      generalize hhid : C 21 3 ||| (1 : Int32) <<< (nI k &&& 31) = hid' at *
      have hN3 : M1 11 3 = C 21 3 := hN.2.2.2.1
      have hN2 : NWr (rset M1 11 (upd (M1 11) 3 hid') 11) np id (K', C 21 2) (C 21 0) n' hid' (C 24) (C 25) (C 26) := by
        rw [rset_same]
        obtain ⟨n0, n1, n2, n3, n4, n5⟩ := hN
        have hp6 := hrc.2.1
        refine ⟨by rw [upd_ne _ _ (by omega)]; exact n0, by rw [upd_ne _ _ (by omega)]; exact n1, by rw [upd_ne _ _ (by omega)]; exact n2, upd_same _ _ _, fun j hj => by rw [upd_ne _ _ (by omega)]; exact n4 j hj, fun k hk => ?_⟩
        rw [upd_ne _ _ (by omega), upd_ne _ _ (by omega), upd_ne _ _ (by omega)]
        exact n5 k hk
      have e0 : rset M1 11 (upd (M1 11) 3 hid') 0 = M1 0 := rset_ne _ _ (by decide)
      have e1r : rset M1 11 (upd (M1 11) 3 hid') 1 = M1 1 := rset_ne _ _ (by decide)
      have ek : kdM (rset M1 11 (upd (M1 11) 3 hid')) = kdM M1 := by unfold kdM; rw [e1r]
      have et : tsM (rset M1 11 (upd (M1 11) 3 hid')) = tsM M1 := by unfold tsM; rw [e1r]
      have es : sdM (rset M1 11 (upd (M1 11) 3 hid')) = sdM M1 := by unfold sdM; rw [e1r]
      obtain ⟨N', e2⟩ := mFirstBell (sd := C 15) (fd := C 12 5) (G := GT C n' hid') (hO.row _) hK' (by rw [es]; exact hsd) (by rw [e0]; exact hfd) (by rw [e0, ek, et]; exact hG hid') hN2
      have e2' : f_X9_firstBell (rset M1 11 (upd (M1 11) 3 hid')) = some (fbv (-4) (awF C np n' K' k), rset (rset M1 11 (upd (M1 11) 3 hid')) 11 N') := by
        unfold awF
        rw [hhid]
        exact e2
      rw [e1, bnd_ok, bindm_ok, hN3, hhid, fset_eq, e2', bnd_ok, rset_rset]
      have hM2 : ∀ j, j ≠ 0 → j ≠ 11 → rset M1 11 N' j = M j := fun j j1 j2 => by rw [rset_ne _ _ j2, m1 j j1 j2, hM j j1 j2]
      have h02 : ∀ k, k ≠ 21 → rset M1 11 N' 0 k = M 0 k := fun k hk => by rw [rset_ne _ _ (by decide), b1 k hk, h0 k hk]
      have ev : ∀ (X Y : Opt), (if 0 ≤ fbv (-4) (awF C np n' K' k) then X else Y) = if (awF C np n' K' k).isSome = true then X else Y := by
        intro X Y
        cases hf2 : awF C np n' K' k with
        | none => rfl
        | some e =>
          have := fst1_lt _ _ _ hf2
          rw [if_pos (show 0 ≤ fbv (-4) (some e) from nI_pos' (by omega)), if_pos (show (some e).isSome = true from rfl)]
      rw [ev]
      have key : ∀ dd : Int32, dd = fbv 41 (awF C np n' K' k) → ∃ M', (if dd ≤ la then (if dd ≤ la then X9_away_b20 g w be la (nI (k + 1)) (rset M1 11 N') else X9_away_b20 g w be dd (nI (k + 1)) (rset M1 11 N')) else (if dd ≤ la then X9_away_b20 g w (nI k) la (nI (k + 1)) (rset M1 11 N') else X9_away_b20 g w (nI k) dd (nI (k + 1)) (rset M1 11 N'))) = some (if w = 0 then (if fbv 41 (awF C np n' K' k) ≤ la then awf (C 21 3) (fun k => fbv 41 (awF C np n' K' k)) m (k + 1) be la else awf (C 21 3) (fun k => fbv 41 (awF C np n' K' k)) m (k + 1) (nI k) (fbv 41 (awF C np n' K' k))).1 else (if fbv 41 (awF C np n' K' k) ≤ la then awf (C 21 3) (fun k => fbv 41 (awF C np n' K' k)) m (k + 1) be la else awf (C 21 3) (fun k => fbv 41 (awF C np n' K' k)) m (k + 1) (nI k) (fbv 41 (awF C np n' K' k))).2, M') ∧ (∀ j, j ≠ 0 → j ≠ 11 → M' j = M j) ∧ (∀ k, k ≠ 21 → M' 0 k = M 0 k) := by
        intro dd hdd
        rw [← hdd]
        by_cases hla : dd ≤ la
        · rw [if_pos hla, if_pos hla, if_pos hla]
          exact ih (k + 1) g be la _ (by omega) (by omega) hM2 h02
        · rw [if_neg hla, if_neg hla, if_neg hla]
          exact ih (k + 1) g (nI k) dd _ (by omega) (by omega) hM2 h02
      cases hf2 : awF C np n' K' k with
      | none =>
        rw [hf2] at key
        rw [if_neg (show ¬ (none : Option Nat).isSome = true by decide)]
        exact key 41 rfl
      | some e =>
        rw [hf2] at key
        rw [if_pos (show (some e).isSome = true from rfl)]
        exact key (nI e) rfl
theorem op_away (a1 : Int32) : OpOK (f_X8_away a1) (f_X9_away a1) := by
  intro C M h
  have h' := h
  obtain ⟨np, hrc, hmr, -⟩ := h
  unfold f_X8_away f_X9_away
  rcases in_ok a1 (lo := 0) (hi := 1) (by decide) (by decide) M with ⟨w, -, hw, rfl, hi1⟩ | ⟨hno, hi1⟩
  · have hi1' : f_X9_in (nI w) 0 1 M = some (1, M) := hi1
    rw [hi1', bnd_ok, if_neg n10, (isHalf_ok (nI w) C).1 w hw rfl, bnd_ok, if_neg n10]
    have hmr' := hmr
    obtain ⟨-, -, -, ⟨K, k1, k2, -⟩, -, n, n1, n2, -, -, -⟩ := hmr
    obtain ⟨C', e1, c1⟩ := awayC hrc n1 n2 k1 k2 (nI w) n 0 FU (-4) (-4) C (by omega) (FU_gt (by omega)) (fun _ _ => rfl)
    obtain ⟨M', e2, m1, m2⟩ := awayM hrc hmr' n1 n2 k1 k2 (nI w) n 0 FU (-4) (-4) M (by omega) (FU_gt (by omega)) (fun _ _ _ => rfl) (fun _ _ => rfl)
    have e1' : X8_away_b18 FU (nI w) (-4) (-4) 0 C = _ := e1
    have e2' : X9_away_b20 FU (nI w) (-4) (-4) 0 M = _ := e2
    rw [e1', e2']
    exact ⟨_, _, _, rfl, rfl, h'.query c1 (fun j j1 j2 => m1 j (by omega) (by omega)) (fun k _ k2 => m2 k k2)⟩
  · have hi1' : f_X9_in a1 0 1 M = some (0, M) := hi1
    rw [hi1', bnd_ok, if_pos rfl, (isHalf_ok a1 C).2 hno, bnd_ok, if_pos rfl]
    exact ⟨_, _, _, rfl, rfl, h'⟩
