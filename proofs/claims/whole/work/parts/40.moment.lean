/-! ===== things and moments copied ===== -/
theorem X7_add_ok (t : Nat) (a1 a2 a3 : Int32) (C : FMem) {n : Nat} (hn : n < 9) (h : C t 3 = nI n) : f_X7_add t a1 a2 a3 C = some (1, fset (fset (fset (fset C (t + 1) n a1) (t + 2) n a2) (t + 3) n a3) t 3 (nI (n + 1))) := by
  unfold f_X7_add
  have q1 : ∀ v, fset C (t + 1) n v t 3 = nI n := fun v => by rw [fset_ne _ _ _ (by omega)]; exact h
  have q2 : ∀ v v', fset (fset C (t + 1) n v) (t + 2) n v' t 3 = nI n := fun v v' => by rw [fset_ne _ _ _ (by omega)]; exact q1 v
  have q3 : ∀ v v' v'', fset (fset (fset C (t + 1) n v) (t + 2) n v') (t + 3) n v'' t 3 = nI n := fun v v' v'' => by rw [fset_ne _ _ _ (by omega)]; exact q2 v v'
  rw [h, if_pos (show nI n < 9 by rw [c_lt (by omega) (by omega)]; exact hn), grd_ok (inb_t hn (by omega)), bindm_ok, nI_clamp (by omega), q1, grd_ok (inb_t hn (by omega)), bindm_ok, nI_clamp (by omega), q2, grd_ok (inb_t hn (by omega)), bindm_ok, nI_clamp (by omega), bindm_ok, q3, nI_1]
theorem X7_copy_loop (t u : Nat) (hd : t + 4 ≤ u ∨ u + 4 ≤ t) (C : FMem) {n : Nat} (hn : n ≤ 9) (h : C u 3 = nI n) : ∀ (m k f : Nat) (Mk : FMem), k + m = n → m < f → (∀ j, (j < t ∨ t + 4 ≤ j) → Mk j = C j) → Mk t 3 = nI k → (∀ q, q < k → Mk (t + 1) q = C (u + 1) q ∧ Mk (t + 2) q = C (u + 2) q ∧ Mk (t + 3) q = C (u + 3) q) →
    ∃ M', X7_copyFrom_b6 t u f (nI k) Mk = some (0, M') ∧ (∀ j, (j < t ∨ t + 4 ≤ j) → M' j = C j) ∧ M' t 3 = nI n ∧ ∀ q, q < n → M' (t + 1) q = C (u + 1) q ∧ M' (t + 2) q = C (u + 2) q ∧ M' (t + 3) q = C (u + 3) q := by
  intro m
  induction m with
  | zero =>
    intro k f Mk hk hf h1 h2 h3
    obtain ⟨g, rfl, -⟩ := fu_s hf
    have hk : k = n := by omega
    subst hk
    refine ⟨Mk, ?_, h1, h2, h3⟩
    show X7_copyFrom_b6s t u (X7_copyFrom_b6 t u g) _ Mk = _
    unfold X7_copyFrom_b6s
    rw [h1 u (by omega), h, if_pos (Int32.le_refl _)]
  | succ m ih =>
    intro k f Mk hk hf h1 h2 h3
    obtain ⟨g, rfl, hg⟩ := fu_s hf
    obtain ⟨M', e, r⟩ := ih (k + 1) g (fset (fset (fset (fset Mk (t + 1) k (C (u + 1) k)) (t + 2) k (C (u + 2) k)) (t + 3) k (C (u + 3) k)) t 3 (nI (k + 1))) (by omega) (by omega) (fun j hj => by rw [fset_ne _ _ _ (by omega), fset_ne _ _ _ (by omega), fset_ne _ _ _ (by omega), fset_ne _ _ _ (by omega), h1 j hj]) (fset_at _ _ _ _) (fun q hq => by
      rw [fset_ne _ _ _ (show t + 1 ≠ t by omega), fset_ne _ _ _ (show t + 1 ≠ t + 3 by omega), fset_ne _ _ _ (show t + 1 ≠ t + 2 by omega), fset_same Mk, fset_ne _ _ _ (show t + 2 ≠ t by omega), fset_ne _ _ _ (show t + 2 ≠ t + 3 by omega), fset_same (fset Mk (t + 1) k (C (u + 1) k)) (t + 2), fset_ne _ _ _ (show t + 3 ≠ t by omega), fset_same (fset (fset Mk (t + 1) k (C (u + 1) k)) (t + 2) k (C (u + 2) k)) (t + 3), fset_ne _ _ _ (show t + 2 ≠ t + 1 by omega), fset_ne _ _ _ (show t + 3 ≠ t + 2 by omega), fset_ne _ _ _ (show t + 3 ≠ t + 1 by omega)]
      by_cases e : q = k
      · rw [e, upd_same, upd_same, upd_same]; exact ⟨rfl, rfl, rfl⟩
      · rw [upd_ne _ _ e, upd_ne _ _ e, upd_ne _ _ e]; exact h3 q (by omega))
    refine ⟨M', ?_, r⟩
    show X7_copyFrom_b6s t u (X7_copyFrom_b6 t u g) _ Mk = _
    unfold X7_copyFrom_b6s
    rw [h1 u (by omega), h, if_neg (by rw [nI_leI (by omega) (by omega)]; omega), if_neg (by rw [c_le (by omega) (by omega)]; omega), grd_ok (inb_t (by omega) (by omega)), grd_ok (inb_t (by omega) (by omega)), grd_ok (inb_t (by omega) (by omega)), nI_clamp (by omega), h1 (u + 1) (by omega), h1 (u + 2) (by omega), h1 (u + 3) (by omega), X7_add_ok t _ _ _ Mk (by omega) h2, bnd_ok, nI_1]
    exact e
theorem X7_copy_ok (t u : Nat) (hd : t + 4 ≤ u ∨ u + 4 ≤ t) (C : FMem) {n : Nat} (hn : n ≤ 9) (h : C u 3 = nI n) : ∃ M', f_X7_copyFrom t u C = some (0, M') ∧ (∀ j, (j < t ∨ t + 4 ≤ j) → M' j = C j) ∧ M' t 3 = nI n ∧ ∀ q, q < n → M' (t + 1) q = C (u + 1) q ∧ M' (t + 2) q = C (u + 2) q ∧ M' (t + 3) q = C (u + 3) q := by
  have k1 : ∀ j, j ≠ t → fset C t 3 0 j = C j := fun j hj => fset_ne _ _ _ hj
  obtain ⟨M', e, a, b, c⟩ := X7_copy_loop t u hd (fset C t 3 0) hn (by rw [k1 u (by omega)]; exact h) n 0 FU (fset C t 3 0) (by omega) (FU_gt (by omega)) (fun _ _ => rfl) (fset_at _ _ _ _) (fun _ h => by omega)
  refine ⟨M', ?_, fun j hj => by rw [a j hj, k1 j (by omega)], b, fun q hq => ?_⟩
  · unfold f_X7_copyFrom f_X7_clear
    rw [bindm_ok, bnd_ok]
    exact e
  · have := c q hq
    rwa [k1 _ (by omega), k1 _ (by omega), k1 _ (by omega)] at this
theorem mcopy (t u : Nat) (hd : t + 6 ≤ u ∨ u + 6 ≤ t) (C : FMem) {n : Nat} (hn : n ≤ 9) (h : C (u + 2) 3 = nI n) : ∃ C', f_X1_copyFrom t u C = some (0, C') ∧ (∀ j, (j < t ∨ t + 6 ≤ j) → C' j = C j) ∧ ∀ np N, np ≤ 6 → MR np C u N → MR np C' t N := by
  unfold f_X1_copyFrom
  rw [bindm_ok, bindm_ok, bindm_ok, bindm_ok, bindm_ok]
  generalize hM4 : fset (fset (fset (fset C t 0 (C u 0)) t 1 (fset C t 0 (C u 0) u 1)) t 2 (fset (fset C t 0 (C u 0)) t 1 (fset C t 0 (C u 0) u 1) u 2)) t 3 (fset (fset (fset C t 0 (C u 0)) t 1 (fset C t 0 (C u 0) u 1)) t 2 (fset (fset C t 0 (C u 0)) t 1 (fset C t 0 (C u 0) u 1) u 2) u 3) = M4
  have k4 : ∀ j, j ≠ t → M4 j = C j := fun j hj => by rw [← hM4, fset_ne _ _ _ hj, fset_ne _ _ _ hj, fset_ne _ _ _ hj, fset_ne _ _ _ hj]
  have s0 : M4 t 0 = C u 0 := by rw [← hM4, fset_slot _ _ _ _ (by decide), fset_slot _ _ _ _ (by decide), fset_slot _ _ _ _ (by decide), fset_at]
  have s1 : M4 t 1 = C u 1 := by rw [← hM4, fset_slot _ _ _ _ (by decide), fset_slot _ _ _ _ (by decide), fset_at, fset_ne _ _ _ (by omega)]
  have s2 : M4 t 2 = C u 2 := by rw [← hM4, fset_slot _ _ _ _ (by decide), fset_at, fset_ne _ _ _ (by omega), fset_ne _ _ _ (by omega)]
  have s3 : M4 t 3 = C u 3 := by rw [← hM4, fset_at, fset_ne _ _ _ (by omega), fset_ne _ _ _ (by omega), fset_ne _ _ _ (by omega)]
  have k5 : ∀ j, j ≠ t + 1 → fcpy M4 (u + 1) (t + 1) 6 j = M4 j := fun j hj => rset_ne _ _ hj
  have s5 : ∀ q, q < 6 → fcpy M4 (u + 1) (t + 1) 6 (t + 1) q = C (u + 1) q := fun q hq => by
    unfold fcpy
    rw [rset_same, pk_cpy_in (by omega) (by omega), k4 _ (by omega)]
    congr 1
    omega
  obtain ⟨C', e, a, b, c⟩ := X7_copy_ok (t + 2) (u + 2) (by omega) (fcpy M4 (u + 1) (t + 1) 6) hn (by rw [k5 _ (by omega), k4 _ (by omega)]; exact h)
  rw [e, bnd_ok]
  refine ⟨C', rfl, fun j hj => by rw [a j (by omega), k5 j (by omega), k4 j (by omega)], fun np N hp hmr => ?_⟩
  obtain ⟨a1, a2, a3, ⟨K, b1, b2, b3⟩, a5, n', c1, c2, c3, c4, c5⟩ := hmr
  have hnn : n' = n := (nI_eq (by omega) (by omega)).mp (c2.symm.trans h)
  subst hnn
  have et : C' t = M4 t := by rw [a t (by omega), k5 t (by omega)]
  have et1 : ∀ q, q < 6 → C' (t + 1) q = C (u + 1) q := fun q hq => by rw [a (t + 1) (by omega)]; exact s5 q hq
  unfold MR
  rw [et, s0, s1, s2, s3]
  refine ⟨a1, a2, a3, ⟨K, b1, b2, b3⟩, fun i hi => by rw [et1 i (by omega)]; exact a5 i hi, n', c1, b, c3, c4, fun k hk => ?_⟩
  obtain ⟨x1, x2, x3⟩ := c k hk
  rw [k5 _ (by omega), k4 _ (by omega)] at x1 x2 x3
  have y1 : C' (t + 3) k = C (u + 3) k := x1
  have y2 : C' (t + 4) k = C (u + 4) k := x2
  have y3 : C' (t + 5) k = C (u + 5) k := x3
  rw [y1, y2, y3]
  exact c5 k hk
/-! shelves -/
theorem place_ok (t n : Nat) (C : FMem) {o s : Nat} (hn : n ≤ 8) (ho : o < n) (hs : s < n) (h1 : C t 1 = nI o) : f_X5_placeBehind t n (nI s) C = some (nI (t + 2 + 6 * ((o + s) % n)), C) := by
  unfold f_X5_placeBehind X5_placeBehind_b24
  rw [bindv_ok, h1, nI_add]
  have en : Int32.ofNat n = nI n := rfl
  rw [en]
  by_cases h : o + s < n
  · rw [if_pos (show nI (o + s) < nI n by rw [nI_ltI (by omega) (by omega)]; exact h), if_neg (nI_pos (by omega)), if_neg (show ¬ nI n ≤ nI (o + s) by rw [nI_leI (by omega) (by omega)]; omega), grd_ok (inb_t h (by omega)), nI_clamp (by omega), Nat.mod_eq_of_lt h]
    rfl
  · rw [if_neg (show ¬ nI (o + s) < nI n by rw [nI_ltI (by omega) (by omega)]; exact h), bindv_ok, pk_sub (by omega), if_neg (nI_pos (by omega)), if_neg (show ¬ nI n ≤ nI (o + s - n) by rw [nI_leI (by omega) (by omega)]; omega), grd_ok (inb_t (by omega) (by omega)), nI_clamp (by omega)]
    rw [show (o + s) % n = o + s - n by rw [Nat.mod_eq_sub_mod (by omega), Nat.mod_eq_of_lt (by omega)]]
    rfl
def tnOK (t n : Nat) : Prop := (t = 27 ∧ n = 8) ∨ (t = 77 ∧ n = 2)
theorem mOK_p {t n p : Nat} (h : tnOK t n) (hp : p < n) : mOK (nI (t + 2 + 6 * p)) = true := by
  rcases h with ⟨rfl, rfl⟩ | ⟨rfl, rfl⟩
  · exact (by decide : ∀ p, p < 8 → mOK (nI (27 + 2 + 6 * p)) = true) p hp
  · exact (by decide : ∀ p, p < 2 → mOK (nI (77 + 2 + 6 * p)) = true) p hp
theorem put50_ok {t n : Nat} (htn : tnOK t n) (C : FMem) {o s m : Nat} (ho : o < n) (hs : s < n) (h1 : C t 1 = nI o) (h2 : C t 2 = nI s) (hm : m ≤ 9) (h23 : C 23 3 = nI m) :
    ∃ C', X5_put_b50 t n C = some (0, C') ∧ (∀ j, j ≠ t → (j < t + 2 + 6 * ((o + s) % n) ∨ t + 2 + 6 * ((o + s) % n) + 6 ≤ j) → C' j = C j) ∧ C' t 1 = nI o ∧ C' t 2 = nI (s + 1) ∧ ∀ np N, np ≤ 6 → MR np C 21 N → MR np C' (t + 2 + 6 * ((o + s) % n)) N := by
  have hn8 : n ≤ 8 ∧ 27 ≤ t ∧ t ≤ 77 := by rcases htn with ⟨rfl, rfl⟩ | ⟨rfl, rfl⟩ <;> omega
  have hpn : (o + s) % n < n := Nat.mod_lt _ (by omega)
  unfold X5_put_b50
  rw [h2, place_ok t n C hn8.1 ho hs h1, bnd_ok]
  generalize (o + s) % n = p at hpn ⊢
  have hcl : (nI (t + 2 + 6 * p)).toNatClampNeg = t + 2 + 6 * p := nI_clamp (by omega)
  obtain ⟨C1, e1, a1, b1⟩ := mcopy (t + 2 + 6 * p) 21 (by omega) C hm h23
  rw [if_neg (nI_ne0 (by omega) (by omega)), grd_ok (mOK_p htn hpn), hcl, e1, bnd_ok, bindm_ok, a1 t (by omega), h2, nI_1]
  refine ⟨_, rfl, fun j j1 j2 => by rw [fset_ne _ _ _ j1, a1 j j2], ?_, fset_at _ _ _ _, fun np N hp hmr => ?_⟩
  · rw [fset_slot _ _ _ _ (by decide), a1 t (by omega)]; exact h1
  · exact (b1 np N hp hmr).mv hp (fun j g1 g2 => fset_ne _ _ _ (by omega)) rfl
/-- where the next one is put: the oldest there is then, how many stand ahead of it -/
theorem put_ok {t n : Nat} (htn : tnOK t n) (C : FMem) {o s m : Nat} (ho : o < n) (hs : s ≤ n) (h1 : C t 1 = nI o) (h2 : C t 2 = nI s) (hm : m ≤ 9) (h23 : C 23 3 = nI m) :
    ∃ C' o' s', (s < n → o' = o ∧ s' = s) ∧ (s = n → o' = (o + 1) % n ∧ s' + 1 = n) ∧ o' < n ∧ s' < n ∧ f_X5_put t n C = some (0, C') ∧ (∀ j, j ≠ t → (j < t + 2 + 6 * ((o' + s') % n) ∨ t + 2 + 6 * ((o' + s') % n) + 6 ≤ j) → C' j = C j) ∧ C' t 1 = nI o' ∧ C' t 2 = nI (s' + 1) ∧ ∀ np N, np ≤ 6 → MR np C 21 N → MR np C' (t + 2 + 6 * ((o' + s') % n)) N := by
  have hn8 : n ≤ 8 ∧ 27 ≤ t ∧ t ≤ 77 := by rcases htn with ⟨rfl, rfl⟩ | ⟨rfl, rfl⟩ <;> omega
  have en : Int32.ofNat n = nI n := rfl
  unfold f_X5_put
  rw [en, h2]
  by_cases hsn : s < n
  · rw [if_pos (show nI s < nI n by rw [nI_ltI (by omega) (by omega)]; exact hsn)]
    obtain ⟨C', r⟩ := put50_ok htn C ho hsn h1 h2 hm h23
    exact ⟨C', o, s, fun _ => ⟨rfl, rfl⟩, fun h => by omega, ho, hsn, r⟩
  · have hsn' : s = n := by omega
    subst hsn'
    rw [if_neg (show ¬ nI s < nI s by rw [nI_ltI (by omega) (by omega)]; omega), h1, nI_1]
    have key : ∀ o', o' < s → o' = (o + 1) % s → ∃ C' o'' s', (s < s → o'' = o ∧ s' = s) ∧ (s = s → o'' = (o + 1) % s ∧ s' + 1 = s) ∧ o'' < s ∧ s' < s ∧ X5_put_b37 t s (nI o') C = some (0, C') ∧ (∀ j, j ≠ t → (j < t + 2 + 6 * ((o'' + s') % s) ∨ t + 2 + 6 * ((o'' + s') % s) + 6 ≤ j) → C' j = C j) ∧ C' t 1 = nI o'' ∧ C' t 2 = nI (s' + 1) ∧ ∀ np N, np ≤ 6 → MR np C 21 N → MR np C' (t + 2 + 6 * ((o'' + s') % s)) N := by
      intro o' ho' e'
      obtain ⟨k, rfl⟩ : ∃ k, s = k + 1 := ⟨s - 1, by omega⟩
      unfold X5_put_b37
      rw [bindm_ok, bindm_ok, fset_slot _ _ _ _ (show 2 ≠ 1 by decide), h2, nI_pred]
      obtain ⟨C', e, a, b, c, d⟩ := put50_ok htn (fset (fset C t 1 (nI o')) t 2 (nI k)) ho' (show k < k + 1 by omega) (by rw [fset_slot _ _ _ _ (by decide), fset_at]) (fset_at _ _ _ _) hm (by rw [fset_ne _ _ _ (by omega), fset_ne _ _ _ (by omega)]; exact h23)
      refine ⟨C', o', k, fun h => by omega, fun _ => ⟨e', rfl⟩, ho', by omega, e, fun j j1 j2 => by rw [a j j1 j2, fset_ne _ _ _ j1, fset_ne _ _ _ j1], b, c, fun np N hp hmr => d np N hp (hmr.mv hp (fun j g1 g2 => by rw [fset_ne _ _ _ (by omega), fset_ne _ _ _ (by omega)]) rfl)⟩
    by_cases hw : s ≤ o + 1
    · rw [if_pos (show nI s ≤ nI (o + 1) by rw [nI_leI (by omega) (by omega)]; exact hw)]
      exact key 0 (by omega) (by rw [show o + 1 = s by omega, Nat.mod_self])
    · rw [if_neg (show ¬ nI s ≤ nI (o + 1) by rw [nI_leI (by omega) (by omega)]; exact hw)]
      exact key (o + 1) (by omega) (by rw [Nat.mod_eq_of_lt (by omega)])
theorem take_ok {t n : Nat} (htn : tnOK t n) (C : FMem) {o s m : Nat} (ho : o < n) (hs : s < n) (h1 : C t 1 = nI o) (h2 : C t 2 = nI (s + 1)) (hm : m ≤ 9) (hpl : C (t + 2 + 6 * ((o + s) % n) + 2) 3 = nI m) :
    ∃ C', f_X5_takeInto t n C = some (1, C') ∧ (∀ j, j ≠ t → (j < 21 ∨ 27 ≤ j) → C' j = C j) ∧ C' t 1 = nI o ∧ C' t 2 = nI s ∧ ∀ np N, np ≤ 6 → MR np C (t + 2 + 6 * ((o + s) % n)) N → MR np C' 21 N := by
  have hn8 : n ≤ 8 ∧ 27 ≤ t ∧ t ≤ 77 := by rcases htn with ⟨rfl, rfl⟩ | ⟨rfl, rfl⟩ <;> omega
  have hpn : (o + s) % n < n := Nat.mod_lt _ (by omega)
  unfold f_X5_takeInto
  rw [h2, if_neg (show ¬ nI (s + 1) ≤ 0 by rw [c_ge (by omega) (by omega)]; omega), nI_pred, place_ok t n C hn8.1 ho hs h1, bnd_ok]
  generalize (o + s) % n = p at hpn hpl ⊢
  have hcl : (nI (t + 2 + 6 * p)).toNatClampNeg = t + 2 + 6 * p := nI_clamp (by omega)
  obtain ⟨C1, e1, a1, b1⟩ := mcopy 21 (t + 2 + 6 * p) (by omega) C hm hpl
  rw [if_neg (nI_ne0 (by omega) (by omega)), grd_ok (mOK_p htn hpn), hcl, e1, bnd_ok, bindm_ok, a1 t (by omega), h2, nI_pred]
  refine ⟨_, rfl, fun j j1 j2 => by rw [fset_ne _ _ _ j1, a1 j (by omega)], ?_, fset_at _ _ _ _, fun np N hp hmr => ?_⟩
  · rw [fset_slot _ _ _ _ (by decide), a1 t (by omega)]; exact h1
  · exact (b1 np N hp hmr).mv hp (fun j g1 g2 => fset_ne _ _ _ (by omega)) rfl
/-! the reference remembers -/
theorem shift_loop (M : FMem) : ∀ (m k f : Nat) (Mk : FMem), k + m = 322 → m < f → (∀ j, j ≠ 4 → Mk j = M j) → (∀ q, q < k → Mk 4 q = M 4 (q + 46)) → (∀ q, k ≤ q → Mk 4 q = M 4 q) →
    ∃ M', X9_remembers_b11 f (nI k) Mk = X9_remembers_b49 (fset M' 0 5 (M 0 5 - 1)) ∧ (∀ j, j ≠ 4 → M' j = M j) ∧ ∀ q, q < 322 → M' 4 q = M 4 (q + 46) := by
  intro m
  induction m with
  | zero =>
    intro k f Mk hk hf h1 h2 h3
    obtain ⟨g, rfl, -⟩ := fu_s hf
    have hk : k = 322 := by omega
    subst hk
    refine ⟨Mk, ?_, h1, h2⟩
    show X9_remembers_b11s (X9_remembers_b11 g) _ Mk = _
    unfold X9_remembers_b11s
    rw [if_pos (by decide), bindm_ok, h1 0 (by decide)]
  | succ m ih =>
    intro k f Mk hk hf h1 h2 h3
    obtain ⟨g, rfl, hg⟩ := fu_s hf
    obtain ⟨M', e, r⟩ := ih (k + 1) g (fset Mk 4 k (M 4 (k + 46))) (by omega) (by omega) (fun j hj => by rw [fset_ne _ _ _ hj, h1 j hj]) (fun q hq => by
      rw [fset_same]
      by_cases h : q = k
      · rw [h, upd_same]
      · rw [upd_ne _ _ h]; exact h2 q (by omega)) (fun q hq => by
      rw [fset_same, upd_ne _ _ (by omega)]
      exact h3 q (by omega))
    refine ⟨M', ?_, r⟩
    show X9_remembers_b11s (X9_remembers_b11 g) _ Mk = _
    unfold X9_remembers_b11s
    have e46 : nI k + 46 = nI (k + 46) := nI_add k 46
    rw [if_neg (by rw [c_le (by omega) (by omega)]; omega), e46, grd_ok (inb_t (by omega) (by omega)), grd_ok (inb_t (by omega) (by omega)), bindm_ok, nI_clamp (by omega), nI_clamp (by omega), h3 (k + 46) (by omega), nI_1]
    exact e
theorem rem49_ok (M : FMem) {s : Nat} (hs : s < 8) (h5 : M 0 5 = nI s) : ∃ M', X9_remembers_b49 M = some (0, M') ∧ (∀ j, j ≠ 0 → j ≠ 4 → M' j = M j) ∧ (∀ k, k ≠ 5 → M' 0 k = M 0 k) ∧ M' 0 5 = nI (s + 1) ∧ (∀ q, q < 46 → M' 4 (46 * s + q) = M 2 q) ∧ ∀ q, q < 46 * s → M' 4 q = M 4 q := by
  obtain ⟨M1, e1, a1, b1, c1⟩ := X9_put_ok 4 368 2 46 (by decide) M (a := 46 * s) (c := 46) (by decide) (by omega) (by decide)
  unfold X9_remembers_b49
  have e46 : (46 : Int32) * nI s = nI (46 * s) := pk_mul 46 s
  have e1' : f_X9_put 4 368 2 46 (nI (46 * s)) 46 M = some (0, M1) := e1
  rw [h5, e46, e1', bnd_ok, bindm_ok, a1 0 (by decide), h5, nI_1]
  refine ⟨_, rfl, fun j j1 j2 => by rw [fset_ne _ _ _ j1, a1 j j2], fun k hk => by rw [fset_slot _ _ _ _ hk, a1 0 (by decide)], fset_at _ _ _ _, fun q hq => by rw [fset_ne _ _ _ (by decide)]; exact b1 q hq, fun q hq => by rw [fset_ne _ _ _ (by decide)]; exact c1 q (Or.inl hq)⟩
theorem remember_ok {C M : FMem} {np : Nat} (hp : np ≤ 6) (hmr : MR np C 21 (M 2)) (hra : RA C M np) :
    ∃ C' M', f_X5_put 27 8 C = some (0, C') ∧ f_X9_remembers M = some (0, M') ∧ (∀ j, (j < 27 ∨ 77 ≤ j) → C' j = C j) ∧ (∀ j, j ≠ 0 → j ≠ 4 → M' j = M j) ∧ (∀ k, k ≠ 5 → M' 0 k = M 0 k) ∧ RA C' M' np := by
  obtain ⟨na, o, a1, a2, a3, a4, a5, a6⟩ := hra
  have hmr' := hmr
  obtain ⟨-, -, -, -, -, m, m1, m2, -, -, -⟩ := hmr
  obtain ⟨C', o', s', q1, q2, q3, q4, q5, q6, q7, q8, q9⟩ := put_ok (Or.inl ⟨rfl, rfl⟩) C a2 a1 a3 a4 m1 m2
  have hlow : ∀ j, (j < 27 ∨ 77 ≤ j) → C' j = C j := fun j hj => q6 j (by omega) (by omega)
  have hother : ∀ p, p < 8 → p ≠ (o' + s') % 8 → ∀ N N', (∀ j, j < 46 → N' j = N j) → MR np C (29 + 6 * p) N → MR np C' (29 + 6 * p) N' := by
    intro p hp8 hne N N' hN h
    have hpl : (o' + s') % 8 < 8 := Nat.mod_lt _ (by omega)
    exact h.rows (q6 _ (by omega) (by omega)) (q6 _ (by omega) (by omega)) (q6 _ (by omega) (by omega)) (q6 _ (by omega) (by omega)) (q6 _ (by omega) (by omega)) (q6 _ (by omega) (by omega)) hp hN
  have hnew := q9 np (M 2) hp hmr'
  by_cases h8 : na = 8
  · subst h8
    obtain ⟨e1, e2⟩ := q2 rfl
    have es : s' = 7 := by omega
    subst es
    obtain ⟨M1, f1, f2, f3⟩ := shift_loop M 322 0 FU M rfl (FU_gt (by decide)) (fun _ _ => rfl) (fun _ h => by omega) (fun _ _ => rfl)
    have h5' : fset M1 0 5 (M 0 5 - 1) 0 5 = nI 7 := by rw [fset_at, a5]; decide
    obtain ⟨M', g1, g2, g3, g4, g5, g6⟩ := rem49_ok (fset M1 0 5 (M 0 5 - 1)) (s := 7) (by decide) h5'
    refine ⟨C', M', q5, ?_, hlow, fun j j1 j2 => by rw [g2 j j1 j2, fset_ne _ _ _ j1, f2 j j2], fun k hk => by rw [g3 k hk, fset_slot _ _ _ _ hk, f2 0 (by decide)], ⟨8, o', by omega, q3, q7, q8, g4, fun k hk => ?_⟩⟩
    · unfold f_X9_remembers
      rw [a5, if_pos (by decide)]
      exact f1.trans g1
    · by_cases hk7 : k = 7
      · subst hk7
        refine hnew.rows rfl rfl rfl rfl rfl rfl hp (fun j hj => ?_)
        show M' 4 (46 * 7 + j) = M 2 j
        rw [g5 j hj, fset_ne _ _ _ (by decide), f2 2 (by decide)]
      · have ho : (o' + k) % 8 = (o + (k + 1)) % 8 := by rw [e1]; omega
        rw [ho]
        refine hother _ (Nat.mod_lt _ (by omega)) (by rw [e1]; omega) _ _ (fun j hj => ?_) (a6 (k + 1) (by omega))
        show M' 4 (46 * k + j) = M 4 (46 * (k + 1) + j)
        rw [g6 _ (by omega), fset_ne _ _ _ (by decide), f3 _ (by omega), show 46 * k + j + 46 = 46 * (k + 1) + j by omega]
  · obtain ⟨e1, e2⟩ := q1 (by omega)
    subst e1; subst e2
    obtain ⟨M', g1, g2, g3, g4, g5, g6⟩ := rem49_ok M (s := s') (by omega) a5
    refine ⟨C', M', q5, ?_, hlow, g2, g3, ⟨s' + 1, o', by omega, q3, q7, q8, g4, fun k hk => ?_⟩⟩
    · unfold f_X9_remembers
      rw [a5, if_neg (show ¬ nI s' = 8 by rw [c_eq (by omega) (by omega)]; omega)]
      exact g1
    · by_cases hks : k = s'
      · subst hks
        exact hnew.rows rfl rfl rfl rfl rfl rfl hp (fun j hj => g5 j hj)
      · refine hother _ (Nat.mod_lt _ (by omega)) (by omega) _ _ (fun j hj => ?_) (a6 k (by omega))
        show M' 4 (46 * k + j) = M 4 (46 * k + j)
        rw [g6 _ (by omega)]
