/-! ===== the first court ===== -/
def Mv : FMem := fun j q => if j = 0 then (if q = 12 then 82 else 0) else if j = 7 then ftx8 q else 0
def agr : Bool := match f_X9_fault Mv, told0 with
  | some (v, A), some (_, B) => decide (v = -4) && (decide (A 0 15 = B 0 15) && (decide (A 0 17 = B 0 17) && (decide (¬ A 0 15 = 0) && (decide (B 0 12 = 0) && ((List.range 18).all (fun q => decide (A 9 q = B 9 q)) && (List.range 46).all (fun q => decide (A 10 q = B 10 q)))))))
  | _, _ => false
theorem agr_t : agr = true := by decide +kernel
theorem DS.agree {t : Nat} {C A B : FMem} (h : DS t C A) (h15 : A 0 15 = B 0 15) (h17 : A 0 17 = B 0 17) (h9 : ∀ q, q < 18 → A 9 q = B 9 q) (h10 : ∀ q, q < 46 → A 10 q = B 10 q) : DS t C B := by
  obtain ⟨P, n, hP6, hn, d1, d2, d3, d4, d5, d6, d7, d8, d9⟩ := h
  refine ⟨P, n, hP6, hn, d1, by rw [← h15]; exact d2, d3, by rw [← h17]; exact d4, fun i hi => ?_, d6, by rw [← h10 2 (by decide)]; exact d7, fun j j1 j2 => by rw [← h10 j (by omega)]; exact d8 j j1 j2, fun k hk => ?_⟩
  · rw [← h9 _ (by omega), ← h9 _ (by omega), ← h9 _ (by omega)]
    exact d5 i hi
  · rw [← h10 _ (by omega), ← h10 _ (by omega), ← h10 _ (by omega)]
    exact d9 k hk
theorem first_ok : ∃ (v1 : Int32) (C2 C3 C4 : FMem) (r1 : Int32) (MA : FMem) (r2 : Int32) (MB : FMem), f_X0_read 12 (tC 82) = some (v1, C2) ∧ f_X1_begin 21 C2 = some (0, C3) ∧ f_X4_clear C3 = some (0, C4) ∧ told0 = some (r1, MA) ∧ f_X9_settles MA = some (r2, MB) ∧ Rel C4 MB := by
  have hc : TXc (tC 82) ftx8 82 := ⟨by decide, rfl, fun k hk => by
    show (if k < 82 then ftx8 k else 0) = _
    rw [if_pos hk]⟩
  have hm : TXm Mv ftx8 82 := ⟨by decide, rfl, fun k hk => rfl⟩
  obtain ⟨v1, C2, A, e1, e2, f1, f2, f3⟩ := read_ok 12 (by decide) hc hm
  have hag := agr_t
  unfold agr at hag
  rw [e2] at hag
  cases ht : told0 with
  | none => rw [ht] at hag; cases hag
  | some q =>
    obtain ⟨r1, MA⟩ := q
    rw [ht] at hag
    simp only [Bool.and_eq_true, decide_eq_true_eq, List.all_eq_true, List.mem_range] at hag
    obtain ⟨g1, g2, g3, g4, g5, g6, g7⟩ := hag
    have hds := (f3 g1).agree g2 g3 g6 g7
    have hne : ¬ C2 12 3 = 0 := by
      obtain ⟨P, n, hP6, hn, d1, d2, -⟩ := hds
      rw [d1, ← d2, ← g2]
      exact g4
    obtain ⟨C3, MB, e5, e6, f7, f8, f9, f10, f11⟩ := begun hds hne
    have hc4 : f_X4_clear C3 = some (0, fset C3 1 1 0) := rfl
    have far : ∀ j, 27 ≤ j → C3 j = fun _ => 0 := fun j hj => by
      rw [f7 j (by omega), f1 j (by omega)]
      show (if j = 1 then _ else if j = 2 then _ else C0 j) = _
      rw [if_neg (by omega), if_neg (by omega)]
      unfold C0
      rw [if_neg (by omega), if_neg (by omega)]
    refine ⟨v1, C2, C3, _, r1, MA, 0, MB, e1, e5, hc4, rfl, e6, f11 _ (fun j j1 j2 => by rw [fset_ne _ _ _ (by omega)]) ?_ ?_ ?_ ?_ ?_ ⟨0, by decide, ?_, ?_, fun k hk => by omega⟩⟩
    · rw [fset_ne _ _ _ (by decide), far 27 (by decide)]
    · rw [fset_ne _ _ _ (by decide), far 27 (by decide)]
    · rw [fset_ne _ _ _ (by decide), far 77 (by decide)]
    · rw [fset_ne _ _ _ (by decide), far 77 (by decide)]
    · rw [fset_ne _ _ _ (by decide), far 91 (by decide)]
    · rw [fset_at]; rfl
    · rw [f9 12 (by decide) (by decide) (by decide) (by decide) (by decide), g5]; rfl
