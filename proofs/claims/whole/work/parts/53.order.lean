/-! ===== order ===== -/
def lnL (l : List Nat) : Nat → Nat := fun j => l.getD j 0
def oq (K : Nat) (I : Int32) (l : List Nat) : Nat × Int32 := (0, if lnL l 0 = K then I else 0)
def OB (np : Nat) (sd : Nat → Int32) (fd : Int32) (G : Nat → Nat → Int32) (K : Nat) (I : Int32) (hm : Nat) (l : List Nat) : Nat := bc (bl np (lnL l) sd fd G (oq K I l)) hm
def gO (B : List Nat → Nat) (S : Nat × List Nat) (l : List Nat) : Nat × List Nat := if B l < S.1 then (B l, l) else S
theorem bc_hit (f : Nat → Bool) : ∀ n b, b ≤ bc f n → ∃ d, d ≤ n ∧ bc f d = b := by
  intro n
  induction n with
  | zero =>
    intro b h
    have h' : b ≤ 0 := h
    exact ⟨0, Nat.le_refl _, by show 0 = b; omega⟩
  | succ n ih =>
    intro b h
    by_cases hb : b ≤ bc f n
    · obtain ⟨d, h1, h2⟩ := ih b hb
      exact ⟨d, by omega, h2⟩
    · refine ⟨n + 1, Nat.le_refl _, ?_⟩
      have : bc f (n + 1) = if f n = true then bc f n + 1 else bc f n := rfl
      rw [this] at h ⊢
      split at h <;> split <;> simp_all <;> omega
theorem bc_up (f : Nat → Bool) (n : Nat) : ∀ m, bc f n ≤ bc f (n + m) := by
  intro m
  induction m with
  | zero => exact Nat.le_refl _
  | succ m ih =>
    have : bc f (n + (m + 1)) = if f (n + m) = true then bc f (n + m) + 1 else bc f (n + m) := rfl
    rw [this]
    split <;> omega
theorem take_get {l l' : List Nat} {k j : Nat} (h : l'.take k = l.take k) (hj : j < k) : l'.getD j 0 = l.getD j 0 := by
  have : (l'.take k).getD j 0 = (l.take k).getD j 0 := by rw [h]
  rw [List.getD_eq_getElem?_getD, List.getD_eq_getElem?_getD, List.getElem?_take, List.getElem?_take, if_pos hj, if_pos hj] at this
  rw [List.getD_eq_getElem?_getD, List.getD_eq_getElem?_getD]
  exact this
theorem stp_at {np : Nat} {ln ln' : Nat → Nat} {sd : Nat → Int32} {fd : Int32} {g : Nat → Int32} {q : Nat × Int32} (h : ln' q.1 = ln q.1) : stp np ln' sd fd g q = stp np ln sd fd g q := by
  unfold stp
  rw [h]
theorem stp_pos {np : Nat} {ln : Nat → Nat} {sd : Nat → Int32} {fd : Int32} {g : Nat → Int32} {q : Nat × Int32} : (stp np ln sd fd g q).2.1 ≤ if (stp np ln sd fd g q).1 = true then q.1 + 1 else q.1 := by
  unfold stp
  by_cases h : sd (ln q.1) ≤ q.2 / fd + g (ln q.1)
  · rw [if_pos h, if_pos rfl]
    by_cases h2 : q.1 + 1 < np
    · show (if q.1 + 1 < np then q.1 + 1 else 0) ≤ _
      rw [if_pos h2]
      exact Nat.le_refl _
    · show (if q.1 + 1 < np then q.1 + 1 else 0) ≤ _
      rw [if_neg h2]
      exact Nat.zero_le _
  · rw [if_neg h, if_neg (show ¬ false = true by decide)]
    exact Nat.le_refl _
theorem pre_same {np : Nat} {sd : Nat → Int32} {fd : Int32} {G : Nat → Nat → Int32} {K b : Nat} {I : Int32} {l l' : List Nat} (ht : l'.take (b + 1) = l.take (b + 1)) : ∀ d, bc (bl np (lnL l) sd fd G (oq K I l)) d ≤ b → rn np (lnL l') sd fd G (oq K I l') d = rn np (lnL l) sd fd G (oq K I l) d ∧ bc (bl np (lnL l') sd fd G (oq K I l')) d = bc (bl np (lnL l) sd fd G (oq K I l)) d ∧ (rn np (lnL l) sd fd G (oq K I l) d).1 ≤ bc (bl np (lnL l) sd fd G (oq K I l)) d := by
  intro d
  induction d with
  | zero =>
    intro _
    have e0 : ∀ f : Nat → Bool, bc f 0 = 0 := fun _ => rfl
    have e1 : ∀ l, rn np (lnL l) sd fd G (oq K I l) 0 = oq K I l := fun _ => rfl
    have e2 : oq K I l' = oq K I l := by
      unfold oq lnL
      rw [take_get ht (by omega)]
    refine ⟨by rw [e1, e1, e2], by rw [e0, e0], ?_⟩
    rw [e1, e0]
    exact Nat.le_refl 0
  | succ d ih =>
    intro h
    have e : ∀ l, bc (bl np (lnL l) sd fd G (oq K I l)) (d + 1) = if bl np (lnL l) sd fd G (oq K I l) d = true then bc (bl np (lnL l) sd fd G (oq K I l)) d + 1 else bc (bl np (lnL l) sd fd G (oq K I l)) d := fun _ => rfl
    have hb : bc (bl np (lnL l) sd fd G (oq K I l)) d ≤ b := by
      rw [e] at h
      split at h <;> omega
    obtain ⟨h1, h2, h3⟩ := ih hb
    have es : stp np (lnL l') sd fd (G d) (rn np (lnL l') sd fd G (oq K I l') d) = stp np (lnL l) sd fd (G d) (rn np (lnL l) sd fd G (oq K I l) d) := by
      rw [h1]
      exact stp_at (take_get ht (by omega))
    have eb : bl np (lnL l') sd fd G (oq K I l') d = bl np (lnL l) sd fd G (oq K I l) d := by
      unfold bl
      rw [es]
    refine ⟨?_, ?_, ?_⟩
    · show (stp _ _ _ _ _ _).2 = (stp _ _ _ _ _ _).2
      rw [es]
    · rw [e, e, eb, h2]
    · rw [e]
      refine Nat.le_trans (stp_pos (np := np) (ln := lnL l) (sd := sd) (fd := fd) (g := G d) (q := rn np (lnL l) sd fd G (oq K I l) d)) ?_
      show (if bl np (lnL l) sd fd G (oq K I l) d = true then _ else _) ≤ _
      cases bl np (lnL l) sd fd G (oq K I l) d with
      | true => rw [if_pos rfl, if_pos rfl]; omega
      | false => rw [if_neg (by decide), if_neg (by decide)]; exact h3
theorem OB_pre {np : Nat} {sd : Nat → Int32} {fd : Int32} {G : Nat → Nat → Int32} {K b hm : Nat} {I : Int32} {l l' : List Nat} (ht : l'.take (b + 1) = l.take (b + 1)) (hb : b ≤ OB np sd fd G K I hm l) : b ≤ OB np sd fd G K I hm l' := by
  obtain ⟨d, h1, h2⟩ := bc_hit _ _ _ hb
  obtain ⟨-, h3, -⟩ := pre_same (np := np) (sd := sd) (fd := fd) (G := G) (K := K) (I := I) ht d (by omega)
  have := bc_up (bl np (lnL l') sd fd G (oq K I l')) d (hm - d)
  rw [show d + (hm - d) = hm by omega] at this
  unfold OB
  omega
theorem fold_same (B : List Nat → Nat) (S : Nat × List Nat) : ∀ L : List (List Nat), (∀ x, x ∈ L → S.1 ≤ B x) → L.foldl (gO B) S = S := by
  intro L
  induction L with
  | nil => intro _; rfl
  | cons a L ih =>
    intro h
    show L.foldl (gO B) (gO B S a) = S
    have : gO B S a = S := by
      unfold gO
      have := h a (by simp)
      rw [if_neg (by omega)]
    rw [this]
    exact ih (fun x hx => h x (List.mem_cons_of_mem _ hx))
theorem fold_le (B : List Nat → Nat) : ∀ (L : List (List Nat)) (S : Nat × List Nat), (L.foldl (gO B) S).1 ≤ S.1 := by
  intro L
  induction L with
  | nil => intro S; exact Nat.le_refl _
  | cons a L ih =>
    intro S
    refine Nat.le_trans (ih (gO B S a)) ?_
    unfold gO
    split
    · exact Nat.le_of_lt (by assumption)
    · exact Nat.le_refl _
theorem OB_le {np : Nat} {sd : Nat → Int32} {fd : Int32} {G : Nat → Nat → Int32} {K hm : Nat} {I : Int32} (l : List Nat) : OB np sd fd G K I hm l ≤ hm := bc_le _ _
theorem stepL {C1 Ck : FMem} {np hm d : Nat} {ln : Nat → Nat} {G : Nat → Nat → Int32} {q : Nat × Int32} (hcl : ClOK C1 np hm G) (hq : q.1 < np) (hl : ∀ j, j < np → ln j < np) (hd : d < hm) (h1 : ∀ j, j ≠ 98 → Ck j = C1 j) (h2 : RG Ck np ln (rn np ln (C1 15) (C1 12 5) G q d)) :
    ∃ C', f_X3_live (nI d) Ck = some (b2i (bl np ln (C1 15) (C1 12 5) G q d), C') ∧ (∀ j, j ≠ 98 → C' j = C1 j) ∧ RG C' np ln (rn np ln (C1 15) (C1 12 5) G q (d + 1)) := by
  obtain ⟨a1, a2, a3, a4, a5, a6⟩ := hcl
  obtain ⟨C', e, b1, b2⟩ := live_run (C := Ck) (np := np) (hm := hm) (d := d) (ln := ln) (G := G) (q := q) a1 (by rw [h1 12 (by decide)]; exact a2) (by rw [h1 12 (by decide)]; exact a3) a4 (by rw [h1 94 (by decide)]; exact a5) hd hq hl (by rw [h1 97 (by decide)]; exact fun p hp => a6 d p hd hp) (by rw [h1 15 (by decide), h1 12 (by decide)]; exact h2)
  rw [h1 15 (by decide), h1 12 (by decide)] at e b2
  exact ⟨C', e, fun j hj => by rw [b1 j hj, h1 j hj], b2⟩
theorem bio_loop {C1 : FMem} {np hm v : Nat} {ln : Nat → Nat} {G : Nat → Nat → Int32} {q : Nat × Int32} (hcl : ClOK C1 np hm G) (hq : q.1 < np) (hl : ∀ j, j < np → ln j < np) (hv : v ≤ 90) : ∀ (m d f : Nat) (Ck : FMem), d + m = hm → m < f → (∀ j, j ≠ 98 → Ck j = C1 j) → RG Ck np ln (rn np ln (C1 15) (C1 12 5) G q d) → bc (bl np ln (C1 15) (C1 12 5) G q) d ≤ v →
    ∃ C', X8_bellsInOrder_b16 f (nI hm) (nI v) (nI (bc (bl np ln (C1 15) (C1 12 5) G q) d)) (nI d) Ck = some (nI (min (bc (bl np ln (C1 15) (C1 12 5) G q) hm) v), C') ∧ ∀ j, j ≠ 98 → C' j = C1 j := by
  have hh := hcl.2.2.2.1
  intro m
  induction m with
  | zero =>
    intro d f Ck hd hf hC hR hb
    obtain ⟨g, rfl, -⟩ := fu_s hf
    have hd : d = hm := by omega
    subst hd
    refine ⟨Ck, ?_, hC⟩
    show X8_bellsInOrder_b16s (X8_bellsInOrder_b16 g) _ _ _ _ Ck = _
    unfold X8_bellsInOrder_b16s
    rw [if_pos (Int32.le_refl _), Nat.min_eq_left hb]
  | succ m ih =>
    intro d f Ck hd hf hC hR hb
    obtain ⟨g, rfl, hg⟩ := fu_s hf
    have hbd := bc_le (bl np ln (C1 15) (C1 12 5) G q) d
    show ∃ C', X8_bellsInOrder_b16s (X8_bellsInOrder_b16 g) _ _ _ _ Ck = _ ∧ _
    unfold X8_bellsInOrder_b16s X8_bellsInOrder_b42
    rw [if_neg (by rw [nI_leI (by omega) (by omega)]; omega)]
    by_cases hle : v ≤ bc (bl np ln (C1 15) (C1 12 5) G q) d
    · rw [if_pos (by rw [nI_leI (by omega) (by omega)]; exact hle)]
      have := bc_up (bl np ln (C1 15) (C1 12 5) G q) d (hm - d)
      rw [show d + (hm - d) = hm by omega] at this
      rw [Nat.min_eq_right (by omega)]
      exact ⟨Ck, by rw [show bc (bl np ln (C1 15) (C1 12 5) G q) d = v by omega], hC⟩
    · obtain ⟨C2, e2, a2, b2⟩ := stepL hcl hq hl (show d < hm by omega) hC hR
      rw [if_neg (by rw [nI_leI (by omega) (by omega)]; exact hle), e2, bnd_ok]
      have eb : bc (bl np ln (C1 15) (C1 12 5) G q) (d + 1) = if bl np ln (C1 15) (C1 12 5) G q d = true then bc (bl np ln (C1 15) (C1 12 5) G q) d + 1 else bc (bl np ln (C1 15) (C1 12 5) G q) d := rfl
      have ih' := ih (d + 1) g C2 (by omega) (by omega) a2 b2 (by rw [eb]; split <;> omega)
      rw [eb] at ih'
      cases hr : bl np ln (C1 15) (C1 12 5) G q d with
      | true =>
        rw [hr, if_pos rfl] at ih'
        rw [if_neg (show ¬ b2i true = 0 by decide), nI_1, nI_1]
        exact ih'
      | false =>
        rw [hr, if_neg (by decide)] at ih'
        rw [if_pos (show b2i false = 0 by decide), nI_1]
        exact ih'
theorem bio_ok {C1 : FMem} {np hm v K : Nat} {G : Nat → Nat → Int32} {l : List Nat} (hcl : ClOK C1 np hm G) (hK : K < np) (h1 : C1 21 1 = nI K) (hv : v ≤ 90) (hL : LN C1 np l) :
    ∃ C', f_X8_bellsInOrder (nI hm) (nI v) C1 = some (nI (min (OB np (C1 15) (C1 12 5) G K (C1 21 2) hm l) v), C') ∧ ∀ j, j ≠ 98 → C' j = C1 j := by
  obtain ⟨C2, e2, a2, hR⟩ := startLine_ok C1 (np := np) (K := K) (ln := lnL l) hcl.1 hK h1 (fun j hj => hL.2 j hj)
  obtain ⟨C3, e3, a3⟩ := bio_loop (v := v) (ln := lnL l) (q := oq K (C1 21 2) l) (hcl.mv (a2 12 (by decide)) (a2 94 (by decide)) (a2 97 (by decide))) (show 0 < np by omega) (fun j hj => (hL.2 j hj).2) hv hm 0 FU C2 (by omega) (FU_gt (by have := hcl.2.2.2.1; omega)) (fun _ _ => rfl) hR (Nat.zero_le _)
  rw [a2 15 (by decide), a2 12 (by decide)] at e3
  have e3' : X8_bellsInOrder_b16 FU (nI hm) (nI v) 0 0 C2 = _ := e3
  unfold f_X8_bellsInOrder
  rw [e2, bnd_ok, e3']
  exact ⟨C3, rfl, fun j hj => by rw [a3 j hj, a2 j hj]⟩
theorem copyLine_loop (C : FMem) : ∀ (m k f : Nat) (Mk : FMem), k + m = 6 → m < f → (∀ j, j ≠ 100 → Mk j = C j) → (∀ q, q < k → Mk 100 q = C 99 q) → ∃ M', X3_copyLine_b2 f (nI k) Mk = some (0, M') ∧ (∀ j, j ≠ 100 → M' j = C j) ∧ ∀ q, q < 6 → M' 100 q = C 99 q := by
  intro m
  induction m with
  | zero =>
    intro k f Mk hk hf h1 h2
    obtain ⟨g, rfl, -⟩ := fu_s hf
    have hk : k = 6 := by omega
    subst hk
    refine ⟨Mk, ?_, h1, h2⟩
    show X3_copyLine_b2s (X3_copyLine_b2 g) _ Mk = _
    unfold X3_copyLine_b2s
    rw [if_pos (by decide)]
  | succ m ih =>
    intro k f Mk hk hf h1 h2
    obtain ⟨g, rfl, hg⟩ := fu_s hf
    show ∃ M', X3_copyLine_b2s (X3_copyLine_b2 g) _ Mk = _ ∧ _
    unfold X3_copyLine_b2s
    rw [if_neg (by rw [c_le (by omega) (by omega)]; omega), if_neg (by rw [c_le (by omega) (by omega)]; omega), grd_ok (inb_t (by omega) (by omega)), grd_ok (inb_t (by omega) (by omega)), nI_clamp (by omega), bindm_ok, nI_1, fset_eq]
    refine ih (k + 1) g _ (by omega) (by omega) (fun j hj => by rw [rset_ne _ _ hj, h1 j hj]) (fun q hq => ?_)
    rw [rset_same]
    by_cases hqk : q = k
    · subst hqk
      rw [upd_same, h1 99 (by decide)]
    · rw [upd_ne _ _ hqk]
      exact h2 q (by omega)
theorem orderC {C1 : FMem} {np hm K : Nat} {G : Nat → Nat → Int32} (hcl : ClOK C1 np hm G) (hp1 : 1 ≤ np) (hK : K < np) (h1 : C1 21 1 = nI K) (x2 : Int32) : ∀ (n : Nat) (a : List Nat) (rest : List (List Nat)) (S : Nat × List Nat) (tr f : Nat) (Ck : FMem), rest.length < n → n < f → tr + (rest.length + 1) ≤ 720 → pchk np (a :: rest) = true → S.1 ≤ hm + 1 → (∀ j, j < 98 → Ck j = C1 j) → LN Ck np a → (S.1 ≤ hm → ∀ j, j < np → Ck 100 j = nI (S.2.getD j 0)) →
    ∃ C', X8_order_b48 f (nI hm) x2 (nI S.1) (nI tr) Ck = X8_order_b111 x2 (nI ((a :: rest).foldl (gO (OB np (C1 15) (C1 12 5) G K (C1 21 2) hm)) S).1) C' ∧ (∀ j, j < 98 → C' j = C1 j) ∧ (((a :: rest).foldl (gO (OB np (C1 15) (C1 12 5) G K (C1 21 2) hm)) S).1 ≤ hm → ∀ j, j < np → C' 100 j = nI (((a :: rest).foldl (gO (OB np (C1 15) (C1 12 5) G K (C1 21 2) hm)) S).2.getD j 0)) := by
  have hp6 := hcl.1
  have hh := hcl.2.2.2.1
  generalize hB : OB np (C1 15) (C1 12 5) G K (C1 21 2) hm = B
  have hBle : ∀ l, B l ≤ hm := fun l => by rw [← hB]; exact OB_le l
  intro n
  induction n with
  | zero => intro a rest S tr f Ck h; omega
  | succ n ih =>
    intro a rest S tr f Ck hn hf htr hpc hS hC hL h100
    obtain ⟨g, rfl, hg⟩ := fu_s hf
    show ∃ C', X8_order_b48s (X8_order_b48 g) _ _ _ _ Ck = _ ∧ _
    unfold X8_order_b48s
    rw [if_neg (by rw [c_le (by omega) (by omega)]; omega)]
    by_cases hz : S.1 = 0
    · have e : (a :: rest).foldl (gO B) S = S := fold_same B S _ (fun x _ => by omega)
      rw [e, hz, if_pos (by decide)]
      rw [hz] at h100
      exact ⟨Ck, rfl, hC, h100⟩
    · have hclk : ClOK Ck np hm G := hcl.mv (hC 12 (by decide)) (hC 94 (by decide)) (hC 97 (by decide))
      obtain ⟨C2, e2, a2⟩ := bio_ok (v := S.1) hclk hK (by rw [hC 21 (by decide)]; exact h1) (by omega) hL
      rw [hC 15 (by decide), hC 12 (by decide), hC 21 (by decide), hB] at e2
      rw [if_neg (nI_nle (by omega) (by omega)), e2, bnd_ok]
      have hBa := hBle a
      -- what follows once the best is brought up to date
      have go : ∀ C3, (∀ j, j < 98 → C3 j = C1 j) → LN C3 np a → ((gO B S a).1 ≤ hm → ∀ j, j < np → C3 100 j = nI ((gO B S a).2.getD j 0)) → (gO B S a).1 = min (B a) S.1 →
          ∃ C', X8_order_b88 (X8_order_b48 g) (nI hm) x2 (nI (gO B S a).1) (nI tr) (nI (min (B a) S.1)) C3 = X8_order_b111 x2 (nI ((a :: rest).foldl (gO B) S).1) C' ∧ (∀ j, j < 98 → C' j = C1 j) ∧ (((a :: rest).foldl (gO B) S).1 ≤ hm → ∀ j, j < np → C' 100 j = nI (((a :: rest).foldl (gO B) S).2.getD j 0)) := by
        intro C3 c1 c2 c3 c4
        obtain ⟨blk, rest', r1, r2, r3⟩ := seqP' (s := min (B a) S.1 + 1) (by omega) rest a hpc hp1
        obtain ⟨C4, e4, a4, b4⟩ := lineUpNext_ok (s := min (B a) S.1 + 1) hp6 hp1 (by rw [c1 12 (by decide)]; exact hcl.2.1) (by omega) c2
        rw [r3] at e4 b4
        have ef : (a :: rest).foldl (gO B) S = rest'.foldl (gO B) (gO B S a) := by
          show rest.foldl (gO B) (gO B S a) = _
          rw [r1, List.foldl_append, fold_same B (gO B S a) blk (fun x hx => ?_)]
          rw [c4]
          have hx2 := OB_pre (np := np) (sd := C1 15) (fd := C1 12 5) (G := G) (K := K) (hm := hm) (I := C1 21 2) (r2 x hx) (by rw [hB]; exact Nat.min_le_left _ _)
          rw [hB] at hx2
          exact hx2
        unfold X8_order_b88
        rw [nI_1, e4, bnd_ok, ef]
        cases hr : rest' with
        | nil =>
          rw [if_pos (show b2i ([] : List (List Nat)).head?.isSome = 0 by decide)]
          exact ⟨C4, rfl, fun j hj => by rw [a4 j (by omega), c1 j hj], by rw [a4 100 (by decide)]; exact c3⟩
        | cons a' r' =>
          rw [if_neg (show ¬ b2i (a' :: r').head?.isSome = 0 by show ¬ b2i true = 0; decide), nI_1]
          have hlen : rest.length = blk.length + (r'.length + 1) := by rw [r1, hr, List.length_append]; rfl
          have hpc' : pchk np (a' :: r') = true := by
            have : pchk np ((a :: blk) ++ (a' :: r')) = true := by
              rw [r1, hr] at hpc
              exact hpc
            exact pchk_app _ _ this
          refine ih a' r' (gO B S a) (tr + 1) g C4 (by omega) (by omega) (by omega) hpc' (by omega) (fun j hj => by rw [a4 j (by omega), c1 j hj]) (b4 a' (by rw [hr]; rfl)) (by rw [a4 100 (by decide)]; exact c3)
      have hL2 : LN C2 np a := ⟨hL.1, by rw [a2 99 (by decide)]; exact hL.2⟩
      by_cases hle : S.1 ≤ B a
      · have eg : gO B S a = S := by unfold gO; rw [if_neg (by omega)]
        have em : min (B a) S.1 = S.1 := Nat.min_eq_right hle
        rw [eg, em] at go
        rw [em, if_pos (Int32.le_refl _)]
        exact go C2 (fun j hj => by rw [a2 j (by omega), hC j hj]) hL2 (by rw [a2 100 (by decide)]; exact h100) rfl
      · have eg : gO B S a = (B a, a) := by unfold gO; rw [if_pos (by omega)]
        have em : min (B a) S.1 = B a := Nat.min_eq_left (by omega)
        rw [eg, em] at go
        obtain ⟨C3, e3, a3, b3⟩ := copyLine_loop C2 6 0 FU C2 (by omega) (FU_gt (by decide)) (fun _ _ => rfl) (fun _ h => by omega)
        have e3' : f_X3_copyLine C2 = some (0, C3) := e3
        rw [em, if_neg (by rw [nI_leI (by omega) (by omega)]; omega), e3', bnd_ok]
        exact go C3 (fun j hj => by rw [a3 j (by omega), a2 j (by omega), hC j hj]) ⟨hL.1, by rw [a3 99 (by decide)]; exact hL2.2⟩ (fun _ j hj => by rw [b3 j (by omega)]; exact (hL2.2 j hj).1) rfl
