theorem nx_or (a b : Nat) : nI a ||| nI b = nI (a ||| b) := by
  apply Int32.toBitVec_inj.1
  show BitVec.ofNat 32 a ||| BitVec.ofNat 32 b = BitVec.ofNat 32 (a ||| b)
  apply BitVec.eq_of_getLsbD_eq
  intro i hi
  simp [hi]
def mkf (l : List Nat) (mk : Nat) : Nat := l.foldr (fun d a => a ||| 2 ^ d) mk
theorem mkf_app (l : List Nat) (d mk : Nat) : mkf (l ++ [d]) mk = mkf l (mk ||| 2 ^ d) := by
  unfold mkf
  rw [List.foldr_append]
  rfl
theorem dgs_get (np m y j : Nat) : (dgs np (m + 1) y).getD j 0 = if j < m then (dgs np m (y / np)).getD j 0 else if j = m then y % np else 0 := by
  show (dgs np m (y / np) ++ [y % np]).getD j 0 = _
  have hl := dgs_len np m (y / np)
  rw [List.getD_eq_getElem?_getD, List.getD_eq_getElem?_getD]
  by_cases h1 : j < m
  · rw [if_pos h1, List.getElem?_append_left (by omega)]
  · rw [if_neg h1, List.getElem?_append_right (by omega), hl]
    by_cases h2 : j = m
    · subst h2
      rw [if_pos rfl, Nat.sub_self]
      rfl
    · rw [if_neg h2]
      obtain ⟨e, he⟩ : ∃ e, j - m = e + 1 := ⟨j - m - 1, by omega⟩
      rw [he]
      rfl
theorem dgs_lt {np : Nat} (hp : 0 < np) : ∀ m y j, (dgs np m y).getD j 0 < np := by
  intro m
  induction m with
  | zero => intro y j; exact hp
  | succ m ih =>
    intro y j
    rw [dgs_get]
    split
    · exact ih _ _
    · split
      · exact Nat.mod_lt _ hp
      · exact hp
theorem isOrder_loop {np : Nat} (hp : np ≤ 6) (hp1 : 1 ≤ np) : ∀ (m y mk f : Nat) (Mk : FMem), m ≤ np → m < f → y < 2 ^ 31 → mk < 64 → Mk 0 0 = nI np →
    ∃ M', X9_isOrder_b12 f (nI y) (nI mk) (ldv m) Mk = some (b2i (mkf (dgs np m y) mk == 2 ^ np - 1), M') ∧ (∀ j, j ≠ 12 → M' j = Mk j) ∧ (∀ j, j < m → M' 12 j = nI ((dgs np m y).getD j 0)) ∧ ∀ j, m ≤ j → M' 12 j = Mk 12 j := by
  have h64 : 2 ^ np ≤ 64 := Nat.pow_le_pow_right (by decide) (show np ≤ 6 from hp)
  have h1 : 1 ≤ 2 ^ np := Nat.one_le_two_pow
  intro m
  induction m with
  | zero =>
    intro y mk f Mk hm hf hy hmk h0
    obtain ⟨g, rfl, -⟩ := fu_s hf
    refine ⟨Mk, ?_, fun _ _ => rfl, fun j hj => by omega, fun _ _ => rfl⟩
    show X9_isOrder_b12s (X9_isOrder_b12 g) _ _ _ Mk = _
    unfold X9_isOrder_b12s
    rw [if_pos (by decide), h0, sh9 np (by omega)]
    have e : nI (2 ^ np) - 1 = nI (2 ^ np - 1) := pk_sub h1
    rw [e]
    show (if nI mk = nI (2 ^ np - 1) then _ else _) = some (b2i (mk == 2 ^ np - 1), Mk)
    by_cases hq : mk = 2 ^ np - 1
    · rw [if_pos (by rw [hq]), beq_iff_eq.mpr hq]
      rfl
    · rw [if_neg (by rw [nI_eq (by omega) (by omega)]; exact hq), beq_eq_false_iff_ne.mpr hq]
      rfl
  | succ m ih =>
    intro y mk f Mk hm hf hy hmk h0
    obtain ⟨g, rfl, hg⟩ := fu_s hf
    have hmod := Nat.mod_lt y (show 0 < np by omega)
    have hdiv : y / np ≤ y := Nat.div_le_self _ _
    have hpw : 2 ^ (y % np) < 64 := Nat.lt_of_lt_of_le (Nat.pow_lt_pow_right (by decide) (show y % np < 6 by omega)) (by decide)
    have e0 : fset Mk 12 m (nI (y % np)) 0 = Mk 0 := by rw [fset_eq, rset_ne _ _ (by decide)]
    have e12 : fset Mk 12 m (nI (y % np)) 12 m = nI (y % np) := by rw [fset_eq, rset_same, upd_same]
    obtain ⟨M', e1, a1, a2, a3⟩ := ih (y / np) (mk ||| 2 ^ (y % np)) g (fset Mk 12 m (nI (y % np))) (by omega) (by omega) (by omega) (Nat.or_lt_two_pow (n := 6) hmk hpw) (by rw [e0]; exact h0)
    show ∃ M', X9_isOrder_b12s (X9_isOrder_b12 g) _ _ (nI m) Mk = _ ∧ _
    unfold X9_isOrder_b12s
    rw [if_neg (nI_pos (by omega)), h0, grd_ok (show nz (nI np) = true from decide_eq_true (nI_ne0 (by omega) (by omega))), grd_ok (inb_t (by omega) (by omega)), nI_clamp (by omega), pk_rem (by omega) (by omega) (by omega), bindm_ok, e0, h0, grd_ok (show nz (nI np) = true from decide_eq_true (nI_ne0 (by omega) (by omega))), pk_div (by omega) (by omega) (by omega), bindv_ok, grd_ok (inb_t (by omega) (by omega)), bindv_ok, e12, sh9 _ (by omega), nx_or, show nI m + (-1) = ldv m from ldv_dn m (by omega), e1]
    refine ⟨M', ?_, fun j hj => by rw [a1 j hj, fset_eq, rset_ne _ _ hj], fun j hj => ?_, fun j hj => ?_⟩
    · show _ = some (b2i (mkf (dgs np m (y / np) ++ [y % np]) mk == 2 ^ np - 1), M')
      rw [mkf_app]
    · rw [dgs_get]
      by_cases hjm : j < m
      · rw [if_pos hjm]
        exact a2 j hjm
      · have hjm' : j = m := by omega
        subst hjm'
        rw [if_neg hjm, if_pos rfl, a3 j (Nat.le_refl _), e12]
    · rw [a3 j (by omega), fset_eq, rset_same, upd_ne _ _ (by omega)]
theorem isOrder_ok {np c : Nat} (hp : np ≤ 6) (hp1 : 1 ≤ np) (hc : c < 2 ^ 31) {Mk : FMem} (h0 : Mk 0 0 = nI np) :
    ∃ M', f_X9_isOrder (nI c) Mk = some (b2i (vld np (dgs np np c)), M') ∧ (∀ j, j ≠ 12 → M' j = Mk j) ∧ ∀ j, j < np → M' 12 j = nI ((dgs np np c).getD j 0) := by
  obtain ⟨M', e1, a1, a2, -⟩ := isOrder_loop hp hp1 np c 0 FU Mk (Nat.le_refl _) (FU_gt (by omega)) hc (by decide) h0
  refine ⟨M', ?_, a1, a2⟩
  unfold f_X9_isOrder
  have e : nI np - 1 = ldv np := by
    have : nI np - 1 = nI (np - 1) := pk_sub hp1
    rw [this]
    unfold ldv
    rw [if_neg (by omega)]
  rw [h0, e, bindv_ok]
  exact e1
def vR (hm v : Nat) : Int32 := if v = hm + 1 then -1 else nI v
def stO (np : Nat) (B : List Nat → Nat) (S : Nat × List Nat) (c : Nat) : Nat × List Nat := if vld np (dgs np np c) = true then gO B S (dgs np np c) else S
def oEnd (hm : Nat) (x2 : Int32) (v : Nat) (M' : FMem) : Opt := if 0 ≤ x2 then (grd (inb x2 6) <| some (M' 13 x2.toNatClampNeg, M')) else some (vR hm v, M')
theorem orderM {C M : FMem} {np n K hm P : Nat} (hrc : RC C M np) (hmr : MR np C 21 (M 2)) (hn9 : n ≤ 9) (h23 : C 23 3 = nI n) (hK : K < np) (hC1 : C 21 1 = nI K) (hhm : hm ≤ 40) (hP : P ≤ 50000) (x2 : Int32) : ∀ (m c f : Nat) (S : Nat × List Nat) (Mk : FMem), c + m = P → m < f → S.1 ≤ hm + 1 → (∀ j, j ≠ 0 → j ≠ 11 → j ≠ 12 → j ≠ 13 → Mk j = M j) → (∀ k, k ≠ 21 → Mk 0 k = M 0 k) → (S.1 ≤ hm → ∀ j, j < np → Mk 13 j = nI (S.2.getD j 0)) →
    ∃ M', X9_order_b59 f (nI hm) x2 (nI P) (vR hm S.1) (nI c) Mk = oEnd hm x2 ((List.range' c m).foldl (stO np (OB np (C 15) (C 12 5) (GT C n (C 21 3)) K (C 21 2) hm)) S).1 M' ∧ (∀ j, j ≠ 0 → j ≠ 11 → j ≠ 12 → j ≠ 13 → M' j = M j) ∧ (∀ k, k ≠ 21 → M' 0 k = M 0 k) ∧ (((List.range' c m).foldl (stO np (OB np (C 15) (C 12 5) (GT C n (C 21 3)) K (C 21 2) hm)) S).1 ≤ hm → ∀ j, j < np → M' 13 j = nI (((List.range' c m).foldl (stO np (OB np (C 15) (C 12 5) (GT C n (C 21 3)) K (C 21 2) hm)) S).2.getD j 0)) := by
  have hp6 := hrc.2.1
  have hp1 := hrc.1
  generalize hB : OB np (C 15) (C 12 5) (GT C n (C 21 3)) K (C 21 2) hm = B
  have hBle : ∀ l, B l ≤ hm := fun l => by rw [← hB]; exact OB_le l
  intro m
  induction m with
  | zero =>
    intro c f S Mk hc hf hS hM h0 h13
    obtain ⟨g, rfl, -⟩ := fu_s hf
    have hc : c = P := by omega
    subst hc
    refine ⟨Mk, ?_, hM, h0, h13⟩
    show X9_order_b59s (X9_order_b59 g) _ _ _ _ _ Mk = _
    unfold X9_order_b59s
    rw [if_pos (Int32.le_refl _)]
    rfl
  | succ m ih =>
    intro c f S Mk hc hf hS hM h0 h13
    obtain ⟨g, rfl, hg⟩ := fu_s hf
    have h00 : Mk 0 0 = nI np := by rw [h0 0 (by decide)]; exact hrc.2.2.2.1
    obtain ⟨M1, e1, a1, b1⟩ := isOrder_ok (c := c) hp6 hp1 (by omega) h00
    have er : List.range' c (m + 1) = c :: List.range' (c + 1) m := rfl
    rw [er]
    show ∃ M', X9_order_b59s (X9_order_b59 g) _ _ _ _ _ Mk = oEnd hm x2 ((List.range' (c + 1) m).foldl (stO np B) (stO np B S c)).1 M' ∧ _ ∧ _ ∧ (((List.range' (c + 1) m).foldl (stO np B) (stO np B S c)).1 ≤ hm → ∀ j, j < np → M' 13 j = nI (((List.range' (c + 1) m).foldl (stO np B) (stO np B S c)).2.getD j 0))
    unfold X9_order_b59s
    rw [if_neg (by rw [nI_leI (by omega) (by omega)]; omega), e1, bnd_ok]
    have hM1 : ∀ j, j ≠ 0 → j ≠ 11 → j ≠ 12 → j ≠ 13 → M1 j = M j := fun j j1 j2 j3 j4 => by rw [a1 j j3, hM j j1 j2 j3 j4]
    have h01 : ∀ k, k ≠ 21 → M1 0 k = M 0 k := fun k hk => by rw [a1 0 (by decide), h0 k hk]
    cases hv : vld np (dgs np np c) with
    | false =>
      have es : stO np B S c = S := by unfold stO; rw [if_neg (by rw [hv]; decide)]
      rw [es, if_pos (show b2i false = 0 by decide)]
      unfold X9_order_b168
      rw [nI_1]
      exact ih (c + 1) g S M1 (by omega) (by omega) hS hM1 h01 (by rw [a1 13 (by decide)]; exact h13)
    | true =>
      have es : stO np B S c = gO B S (dgs np np c) := by unfold stO; rw [if_pos hv]
      rw [es, if_neg (show ¬ b2i true = 0 by decide)]
      generalize hl : dgs np np c = l at *
      have hlt : ∀ j, lnL l j < np := fun j => by rw [← hl]; exact dgs_lt (by omega) _ _ _
      have hrck : RC C M1 np := hrc.mv rfl rfl rfl rfl (h01 _ (by decide)) (h01 _ (by decide)) (hM1 _ (by decide) (by decide) (by decide) (by decide))
      have hmrk : MR np C 21 (M1 2) := by rw [hM1 2 (by decide) (by decide) (by decide) (by decide)]; exact hmr
      obtain ⟨M2, K', n', e2, a2, b2, b21, hK', hn', hC1', h23', hO, hN, hsd, hfd, hG, -, -⟩ := fromM hrck hmrk
      have en : n' = n := (nI_eq (by omega) (by omega)).mp (h23'.symm.trans h23)
      have eK : K' = K := (nI_eq (by omega) (by omega)).mp (hC1'.symm.trans hC1)
      subst en; subst eK
      have h002 : M2 0 0 = nI np := hO.2.2.2.1
      obtain ⟨M3, e3, a3, b3, c3⟩ := X9_put_ok 11 46 12 6 (by decide) M2 (a := 4) (c := np) (by omega) (by omega) (by decide)
      have e3' : f_X9_put 11 46 12 6 4 (M2 0 0) M2 = some (0, M3) := by rw [h002]; exact e3
      have h12 : ∀ j, j < np → M2 12 j = nI (lnL l j) := fun j hj => by rw [a2 12 (by decide) (by decide)]; exact b1 j hj
      have h24 : M3 2 4 = nI K' := by
        rw [a3 2 (by decide), a2 2 (by decide) (by decide)]
        obtain ⟨-, -, -, ⟨K2, k1, k2, k3⟩, -, -⟩ := hmrk
        have : K2 = K' := (nI_eq (by omega) (by omega)).mp (k2.symm.trans hC1)
        subst this
        have h3 := k3 0 (by omega)
        rw [Nat.mod_eq_of_lt (show K2 + 0 < np by omega)] at h3
        exact h3
      have h21 : M3 2 1 = C 21 2 := by
        rw [a3 2 (by decide), a2 2 (by decide) (by decide)]
        exact hmrk.2.1
      have h120 : M3 12 0 = nI (lnL l 0) := by rw [a3 12 (by decide)]; exact h12 0 (by omega)
      rw [e2, bnd_ok, e3', bnd_ok, h120, h24, h21]
      have ecase : (if nI (lnL l 0) = nI K' then X9_order_b128 (X9_order_b59 g) (nI hm) x2 (nI P) (vR hm S.1) (nI c) 1 (C 21 2) M3 else X9_order_b128 (X9_order_b59 g) (nI hm) x2 (nI P) (vR hm S.1) (nI c) 1 0 M3) = X9_order_b128 (X9_order_b59 g) (nI hm) x2 (nI P) (vR hm S.1) (nI c) 1 (oq K' (C 21 2) l).2 M3 := by
        have := hlt 0
        unfold oq
        by_cases hk : lnL l 0 = K'
        · rw [if_pos (by rw [hk])]
          show _ = X9_order_b128 _ _ _ _ _ _ _ (if lnL l 0 = K' then _ else _) _
          rw [if_pos hk]
        · rw [if_neg (by rw [nI_eq (by omega) (by omega)]; exact hk)]
          show _ = X9_order_b128 _ _ _ _ _ _ _ (if lnL l 0 = K' then _ else _) _
          rw [if_neg hk]
      rw [ecase]
      generalize hQ : (oq K' (C 21 2) l).2 = I'
      obtain ⟨n0, n1, n2, n3, n4, n5⟩ := hN
      have hN4 : NWr (rset M3 11 (upd (M3 11) 1 I') 11) np (lnL l) (oq K' (C 21 2) l) (C 21 0) n' (C 21 3) (C 24) (C 25) (C 26) := by
        rw [rset_same]
        refine ⟨by rw [upd_ne _ _ (by omega), c3 0 (by omega)]; exact n0, by rw [upd_same, hQ], by rw [upd_ne _ _ (by omega), c3 2 (by omega)]; exact n2, by rw [upd_ne _ _ (by omega), c3 3 (by omega)]; exact n3, fun j hj => ?_, fun k hk => ?_⟩
        · rw [upd_ne _ _ (by omega), b3 j hj, h12 j hj]
          show nI (lnL l j) = nI (lnL l ((0 + j) % np))
          rw [Nat.zero_add, Nat.mod_eq_of_lt hj]
        · rw [upd_ne _ _ (by omega), upd_ne _ _ (by omega), upd_ne _ _ (by omega), c3 _ (by omega), c3 _ (by omega), c3 _ (by omega)]
          exact n5 k hk
      have r0 : rset M3 11 (upd (M3 11) 1 I') 0 = M2 0 := by rw [rset_ne _ _ (by decide), a3 0 (by decide)]
      have r1 : rset M3 11 (upd (M3 11) 1 I') 1 = M2 1 := by rw [rset_ne _ _ (by decide), a3 1 (by decide)]
      have ek : kdM (rset M3 11 (upd (M3 11) 1 I')) = kdM M2 := by unfold kdM; rw [r1]
      have et : tsM (rset M3 11 (upd (M3 11) 1 I')) = tsM M2 := by unfold tsM; rw [r1]
      have esd : sdM (rset M3 11 (upd (M3 11) 1 I')) = sdM M2 := by unfold sdM; rw [r1]
      have hO4 : MoOK (rset M3 11 (upd (M3 11) 1 I')) np n' (lnL l) := ⟨hp1, hp6, by omega, by rw [r0]; exact h002, by rw [r0]; exact hO.2.2.2.2.1, fun j _ => hlt j⟩
      obtain ⟨N', e5, -, -⟩ := mGoesOn (c := hm) (sd := C 15) (fd := C 12 5) (G := GT C n' (C 21 3)) hO4 (show (oq K' (C 21 2) l).1 < np by show 0 < np; omega) (by rw [esd]; exact hsd) (by rw [r0]; exact hfd) (by rw [r0, ek, et]; exact hG (C 21 3)) hN4 (by omega)
      have eB : bc (bl np (lnL l) (C 15) (C 12 5) (GT C n' (C 21 3)) (oq K' (C 21 2) l)) hm = B l := by rw [← hB]; rfl
      rw [rset_rset, eB] at e5
      have hBl := hBle l
      have hM5 : ∀ j, j ≠ 0 → j ≠ 11 → j ≠ 12 → j ≠ 13 → rset M3 11 N' j = M j := fun j j1 j2 j3 j4 => by rw [rset_ne _ _ j2, a3 j j2, a2 j j1 j2, hM1 j j1 j2 j3 j4]
      have h05 : ∀ k, k ≠ 21 → rset M3 11 N' 0 k = M 0 k := fun k hk => by rw [rset_ne _ _ (by decide), a3 0 (by decide), b2 k hk, h01 k hk]
      have h135 : rset M3 11 N' 13 = Mk 13 := by rw [rset_ne _ _ (by decide), a3 13 (by decide), a2 13 (by decide) (by decide), a1 13 (by decide)]
      have h125 : ∀ j, j < np → rset M3 11 N' 12 j = nI (l.getD j 0) := fun j hj => by rw [rset_ne _ _ (by decide), a3 12 (by decide)]; exact h12 j hj
      -- taken
      have take : B l < S.1 → ∃ M', X9_order_b148 (X9_order_b59 g) (nI hm) x2 (nI P) (nI c) (nI (B l)) (rset M3 11 N') = oEnd hm x2 ((List.range' (c + 1) m).foldl (stO np B) (gO B S l)).1 M' ∧ (∀ j, j ≠ 0 → j ≠ 11 → j ≠ 12 → j ≠ 13 → M' j = M j) ∧ (∀ k, k ≠ 21 → M' 0 k = M 0 k) ∧ (((List.range' (c + 1) m).foldl (stO np B) (gO B S l)).1 ≤ hm → ∀ j, j < np → M' 13 j = nI (((List.range' (c + 1) m).foldl (stO np B) (gO B S l)).2.getD j 0)) := by
        intro hlt2
        have eg : gO B S l = (B l, l) := by unfold gO; rw [if_pos hlt2]
        obtain ⟨M6, e6, a6, b6, -⟩ := X9_put_ok 13 6 12 6 (by decide) (rset M3 11 N') (a := 0) (c := np) (by omega) (by omega) (by decide)
        have e6' : f_X9_put 13 6 12 6 0 (rset M3 11 N' 0 0) (rset M3 11 N') = some (0, M6) := by
          rw [h05 0 (by decide), hrc.2.2.2.1]
          exact e6
        unfold X9_order_b148 X9_order_b168
        rw [e6', bnd_ok, nI_1, eg]
        have ev : nI (B l) = vR hm (B l) := by unfold vR; rw [if_neg (by omega)]
        rw [ev]
        refine ih (c + 1) g (B l, l) M6 (by omega) (by omega) (show B l ≤ hm + 1 by omega) (fun j j1 j2 j3 j4 => by rw [a6 j j4, hM5 j j1 j2 j3 j4]) (fun k hk => by rw [a6 0 (by decide), h05 k hk]) (fun _ j hj => ?_)
        have := b6 j hj
        rw [Nat.zero_add] at this
        rw [this]
        exact h125 j hj
      unfold X9_order_b128
      rw [show (1 : Int32).toNatClampNeg = 1 by decide, grd_ok (by decide), bindm_ok, fset_eq, e5, bnd_ok]
      by_cases hnone : S.1 = hm + 1
      · rw [show vR hm S.1 = -1 by unfold vR; rw [if_pos hnone], if_pos (show (-1 : Int32) < 0 by decide)]
        exact take (by omega)
      · have ev : vR hm S.1 = nI S.1 := by unfold vR; rw [if_neg hnone]
        rw [ev, if_neg (nI_pos (by omega))]
        by_cases hle : S.1 ≤ B l
        · have eg : gO B S l = S := by unfold gO; rw [if_neg (by omega)]
          rw [if_pos (by rw [nI_leI (by omega) (by omega)]; exact hle), eg]
          unfold X9_order_b168
          rw [nI_1, ← ev]
          exact ih (c + 1) g S _ (by omega) (by omega) hS hM5 h05 (by rw [h135]; exact h13)
        · rw [if_neg (by rw [nI_leI (by omega) (by omega)]; exact hle)]
          exact take (by omega)
theorem npow_loop {M : FMem} {np : Nat} (hp : np ≤ 6) (h0 : M 0 0 = nI np) (a x2 : Int32) : ∀ (m k f : Nat), k + m = np → m < f → X9_order_b31 f a x2 (nI (np ^ k)) (nI k) M = X9_order_b59 FU a x2 (nI (np ^ np)) (-1) 0 M := by
  intro m
  induction m with
  | zero =>
    intro k f hk hf
    obtain ⟨g, rfl, -⟩ := fu_s hf
    have hk : k = np := by omega
    subst hk
    show X9_order_b31s (X9_order_b31 g) _ _ _ _ M = _
    unfold X9_order_b31s
    rw [h0, if_pos (Int32.le_refl _)]
  | succ m ih =>
    intro k f hk hf
    obtain ⟨g, rfl, hg⟩ := fu_s hf
    show X9_order_b31s (X9_order_b31 g) _ _ _ _ M = _
    unfold X9_order_b31s
    rw [h0, if_neg (by rw [nI_leI (by omega) (by omega)]; omega), bindv_ok, pk_mul, nI_1, ← Nat.pow_succ]
    exact ih (k + 1) g (by omega) (by omega)
theorem pow_small : ∀ np, np < 7 → np ^ np ≤ 50000 := by decide +kernel
theorem op_order (a1 a2 : Int32) : OpOK (f_X8_order a1 a2) (f_X9_order a1 a2) := by
  intro C M h
  have h' := h
  obtain ⟨np, hrc, hmr, -⟩ := h
  have hp6 := hrc.2.1
  have hp1 := hrc.1
  have h00 := hrc.2.2.2.1
  have h12 := hrc.2.2.1
  unfold f_X8_order f_X9_order
  rcases in_ok a1 (lo := 1) (hi := 40) (by decide) (by decide) M with ⟨hm, hm1, hm2, rfl, hi1⟩ | ⟨hno, hi1⟩
  · have hi1' : f_X9_in (nI hm) 1 40 M = some (1, M) := hi1
    rw [hi1', bnd_ok, if_neg n10, if_neg (show ¬ nI hm < 1 by rw [c_lt (by omega) (by omega)]; omega), if_neg (show ¬ 40 < nI hm by rw [c_gt (by omega) (by omega)]; omega), h12, h00]
    unfold f_X9_in
    by_cases hlow : a2 < -1
    · rw [if_pos hlow, if_pos hlow, bnd_ok, if_pos rfl]
      exact ⟨_, _, _, rfl, rfl, h'⟩
    · have hcmp : a2 < nI np ↔ ¬ (nI np - 1 < a2) := by
        have e : nI np - 1 = nI (np - 1) := pk_sub hp1
        rw [e]
        by_cases hneg : a2 < 0
        · exact ⟨fun _ hh => absurd (Int32.lt_trans hh hneg) (nI_pos (by omega)), fun _ => Int32.lt_of_lt_of_le hneg (nI_pos' (by omega))⟩
        · obtain ⟨j, hj, rfl⟩ := nI_of hneg
          rw [nI_ltI hj (by omega), nI_ltI (by omega) hj]
          omega
      rw [if_neg hlow, if_neg hlow]
      by_cases hin : a2 < nI np
      · rw [if_pos hin, if_neg (hcmp.mp hin), bnd_ok, if_neg n10]
        have hmr' := hmr
        obtain ⟨-, -, -, ⟨K, k1, k2, -⟩, -, n, n1, n2, -, -, -⟩ := hmr
        obtain ⟨C1, e1, c1, -, -, hcl⟩ := aheadC (hm := hm) hrc n1 n2 (by omega)
        obtain ⟨C2, e2, a2', b2⟩ := lineUp_ok C1
        have hcl2 : ClOK C2 np hm (GT C n (C 21 3)) := hcl.mv (a2' 12 (by decide)) (a2' 94 (by decide)) (a2' 97 (by decide))
        have hC2 : ∀ j, j < 94 → C2 j = C j := fun j hj => by rw [a2' j (by omega), c1 j hj]
        have hfine := PL_fine np (by omega) hp1
        unfold pfine at hfine
        rw [Bool.and_eq_true, Bool.and_eq_true, Bool.and_eq_true, decide_eq_true_eq, beq_iff_eq] at hfine
        obtain ⟨f1, f2, f3, -⟩ := hfine
        obtain ⟨rest, hPL⟩ : ∃ rest, PL np = List.range np :: rest := by
          cases hq : PL np with
          | nil => rw [hq] at f3; cases f3
          | cons a r => rw [hq] at f3; cases f3; exact ⟨r, rfl⟩
        rw [hPL] at f1 f2
        have hLN : LN C2 np (List.range np) := by
          refine ⟨List.length_range, fun j hj => ?_⟩
          have : (List.range np).getD j 0 = j := by
            rw [List.getD_eq_getElem?_getD, List.getElem?_range hj]
            rfl
          rw [this]
          exact ⟨b2 j (by omega), hj⟩
        have f2' : rest.length + 1 ≤ 720 := f2
        obtain ⟨C3, e3, a3, b3⟩ := orderC hcl2 hp1 k1 (by rw [hC2 21 (by decide)]; exact k2) a2 720 (List.range np) rest (hm + 1, []) 0 FU C2 (by omega) (FU_gt (by decide)) (by omega) f1 (Nat.le_refl _) (fun _ _ => rfl) hLN (fun hh => absurd hh (by show ¬ hm + 1 ≤ hm; omega))
        rw [← hPL, hC2 15 (by decide), hC2 12 (by decide), hC2 21 (by decide)] at e3 b3
        obtain ⟨M3, e4, d1, d2, d3⟩ := orderM (K := K) hrc hmr' n1 n2 k1 k2 hm2 (pow_small np (by omega)) a2 (np ^ np) 0 FU (hm + 1, []) M (by omega) (by have := pow_small np (by omega); exact FU_gt (by omega)) (Nat.le_refl _) (fun _ _ _ _ _ => rfl) (fun _ _ => rfl) (fun hh => absurd hh (by show ¬ hm + 1 ≤ hm; omega))
        generalize hB : OB np (C 15) (C 12 5) (GT C n (C 21 3)) K (C 21 2) hm = B at e3 b3 e4 d3
        have hBle : ∀ l, B l ≤ hm := fun l => by rw [← hB]; exact OB_le l
        have ef : (List.range' 0 (np ^ np)).foldl (stO np B) (hm + 1, []) = (PL np).foldl (gO B) (hm + 1, []) := by
          unfold PL
          rw [AL_range (by omega), List.foldl_filter, List.foldl_map, ← List.range_eq_range']
          rfl
        rw [ef] at e4 d3
        have hle : ((PL np).foldl (gO B) (hm + 1, [])).1 ≤ hm := by
          rw [hPL]
          refine Nat.le_trans (fold_le B rest _) ?_
          have := hBle (List.range np)
          unfold gO
          rw [if_pos (by show _ < hm + 1; omega)]
          exact this
        have e3' : X8_order_b48 FU (nI hm) a2 (nI (hm + 1)) 0 C2 = _ := e3
        have e4' : X9_order_b59 FU (nI hm) a2 (nI (np ^ np)) (-1) 0 M = oEnd hm a2 ((PL np).foldl (gO B) (hm + 1, [])).1 M3 := by
          rw [← e4]
          show _ = X9_order_b59 FU (nI hm) a2 (nI (np ^ np)) (if hm + 1 = hm + 1 then -1 else nI (hm + 1)) 0 M
          rw [if_pos rfl]
        have e5 := npow_loop hp6 h00 (nI hm) a2 np 0 FU (by omega) (FU_gt (by omega))
        have e5' : X9_order_b31 FU (nI hm) a2 1 0 M = _ := e5
        rw [e1, bnd_ok, e2, bnd_ok, bindv_ok, nI_1, e3', e5', e4']
        have hrel : Rel C3 M3 := h'.query (fun j hj => by rw [a3 j (by omega), hC2 j hj]) (fun j j1 j2 => d1 j (by omega) (by omega) (by omega) (by omega)) (fun k _ k2 => d2 k k2)
        have bv := b3 hle
        have dv := d3 hle
        unfold X8_order_b111 oEnd
        by_cases hneg : a2 < 0
        · rw [if_neg (Int32.not_le.mpr hneg), if_neg (Int32.not_le.mpr hneg)]
          refine ⟨_, _, _, rfl, ?_, hrel⟩
          unfold vR
          rw [if_neg (by omega)]
        · obtain ⟨j, hj, rfl⟩ := nI_of hneg
          rw [nI_ltI hj (by omega)] at hin
          rw [if_pos (nI_pos' hj), if_pos (nI_pos' hj), grd_ok (inb_t (by omega) hj), grd_ok (inb_t (by omega) hj), nI_clamp hj, bv j hin, dv j hin]
          exact ⟨_, _, _, rfl, rfl, hrel⟩
      · rw [if_neg hin, if_pos (Classical.not_not.mp (fun hh => hin (hcmp.mpr hh))), bnd_ok, if_pos rfl]
        exact ⟨_, _, _, rfl, rfl, h'⟩
  · have hi1' : f_X9_in a1 1 40 M = some (0, M) := hi1
    rw [hi1', bnd_ok, if_pos rfl]
    refine ⟨-1, C, M, ?_, rfl, h'⟩
    rcases rng_out (by decide) (by decide) hno with h1 | ⟨h1, h2⟩
    · rw [if_pos (show a1 < 1 from h1)]
    · rw [if_neg (show ¬ a1 < 1 from h1), if_pos (show 40 < a1 from h2)]
