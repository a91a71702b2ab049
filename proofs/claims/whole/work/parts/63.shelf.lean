def mom (cI : ClassId) (a : Nat) : List va_E := [.inr (1, [.int 0, .int 0, .int 0, .int 0, .ref (a + 1), .ref (a + 2)]), .inl (cI, 6, .inl (fun _ => 0)), .inr (7, [.ref (a + 3), .ref (a + 4), .ref (a + 5), .int 0]), .inl (cI, 9, .inl (fun _ => 0)), .inl (cI, 9, .inl (fun _ => 0)), .inl (cI, 9, .inl (fun _ => 0))]
def moms (cI : ClassId) (o : Nat) : Nat → List va_E
  | 0 => []
  | i + 1 => moms cI o i ++ mom cI (o + (2 + 6 * i))
theorem moms_len (cI : ClassId) (o : Nat) : ∀ i, (moms cI o i).length = 6 * i := by
  intro i
  induction i with
  | zero => rfl
  | succ i ih =>
    unfold moms
    rw [List.length_append, ih]
    show 6 * i + 6 = 6 * (i + 1)
    omega
def shE (cI cM : ClassId) (o n i : Nat) (f : Nat → Option Nat) : List va_E := .inr (5, [.ref (o + 1), .int 0, .int 0]) :: .inl (cM, n, .inr (.inr (.inr (.inr f)))) :: moms cI o i
theorem shE_len (cI cM : ClassId) (o n i : Nat) (f : Nat → Option Nat) : (shE cI cM o n i f).length = 2 + 6 * i := by
  unfold shE
  rw [List.length_cons, List.length_cons, moms_len]
  omega
def upf (o i : Nat) : Nat → Option Nat := fun k => if k < i then some (o + (2 + 6 * k)) else none
theorem upf_s (o i : Nat) : va_up (upf o i) i (some (o + (2 + 6 * i))) = upf o (i + 1) := by
  funext k
  unfold va_up upf
  by_cases h : k = i
  · subst h
    simp
  · by_cases h2 : k < i
    · simp [h, h2, show k < i + 1 by omega]
    · simp [h, h2, show ¬ k < i + 1 by omega]
theorem refs_same {D : va_G} {cl : List vw_C} {cM : ClassId} {a n : Nat} {f g : Nat → Option Nat} {H : Heap} (hfg : ∀ k, k < n → f k = g k) (h : va_at D cl (a, .inl (cM, n, .inr (.inr (.inr (.inr f))))) H) : va_at D cl (a, .inl (cM, n, .inr (.inr (.inr (.inr g))))) H := by
  have h' : H[a]? = some (vp_cell cM (n, .inr (.inr (.inr (.inr f))))) := h
  show H[a]? = some (vp_cell cM (n, .inr (.inr (.inr (.inr g)))))
  rw [h', vp_cell_q, vp_cell_q]
  congr 1
  unfold arrV
  congr 1
  refine Array.ext (by simp) fun i h1 h2 => ?_
  simp at h1
  simp [hfg i (by simpa using h1)]
theorem shE_tell {D : va_G} {cI cM : ClassId} {o n i : Nat} {f g : Nat → Option Nat} (hfg : ∀ k, k < n → f k = g k) (H : Heap) (h : va_P D vwCl (bw o (shE cI cM o n i f)) H) : va_P D vwCl (bw o (shE cI cM o n i g)) H := by
  intro k q hk
  obtain ⟨e, he, rfl⟩ := bw_of hk
  match k, he with
  | 0, he => exact h 0 _ (bw_at (E := shE cI cM o n i f) (i := 0) (by cases he; rfl))
  | 1, he =>
    cases he
    exact refs_same hfg (h 1 _ (bw_at (E := shE cI cM o n i f) (i := 1) rfl))
  | k + 2, he => exact h (k + 2) _ (bw_at (E := shE cI cM o n i f) (i := k + 2) he)
set_option maxRecDepth 20000 in
theorem i_X5 (l : Launch) (D : va_G) (cI cM : ClassId) (o n : Nat) (hn1 : 1 ≤ n) (hn8 : n ≤ 8) (f : Nat → Option Nat) (hf : ∀ k, k < n → f k = some (o + (2 + 6 * k))) : Ct l D cI cM yX5_init cX5_init 3 3 52 (1 + 6 * n) (44 * n) [.ref o, .int (nI n)] o (.inr (5, [.null, .int 0, .int 0])) (shE cI cM o n n f) := by
  refine Ct.of (by decide +kernel) rfl (cat_cons rfl (cat_cons rfl cat_nil)) [some (.ref o), some (.int (nI n)), none] rfl (Nat.le_of_ble_eq_true rfl) (fun V hV => ?_)
  have hC : (rmB 3 52 (1 + 6 * n) (44 * n)).cells = 1 + 6 * n := rfl
  have hSl : (rmB 3 52 (1 + 6 * n) (44 * n)).slots = 44 * n := rfl
  have loop : ∀ m i, i + m = n → V (shE cI cM o n i (upf o i)) (1 + 6 * i) (n + 43 * i) 18 [some (.ref o), some (.int (nI n)), some (.int (nI i))] [] := by
    intro m
    induction m with
    | zero =>
      intro i hi
      have hi : i = n := by omega
      subst hi
      refine q_iload_n hV dX5_init_18 rfl ?_
      refine q_aload_n hV dX5_init_19 rfl ?_
      refine q_get hV (i := 0) fo_X5_15 rfl rfl dX5_init_20 rfl ?_
      refine q_alen hV (i := 1) rfl rfl dX5_init_23 rfl ?_
      refine q_icmpge hV 46 dX5_init_24 (by decide) (fun _ => ?_) (fun h => absurd (Int32.le_refl _) h)
      refine q_tell hV (shE cI cM o i i f) (shE_tell (fun k hk => ?_)) ?_
      · rw [hf k hk]
        unfold upf
        rw [if_pos hk]
      · rw [show i + 43 * i = 44 * i by omega]
        exact q_vret hV dX5_init_46 rfl
    | succ m ih =>
      intro i hi
      have hlen := shE_len cI cM o n i (upf o i)
      refine q_iload_n hV dX5_init_18 rfl ?_
      refine q_aload_n hV dX5_init_19 rfl ?_
      refine q_get hV (i := 0) fo_X5_15 rfl rfl dX5_init_20 rfl ?_
      refine q_alen hV (i := 1) rfl rfl dX5_init_23 rfl ?_
      refine q_icmpge hV 46 dX5_init_24 (by decide) (fun h => ?_) (fun _ => ?_)
      · have h' : nI n ≤ nI i := h
        rw [nI_leI (by omega) (by omega)] at h'
        omega
      refine q_aload_n hV dX5_init_27 rfl ?_
      refine q_get hV (i := 0) fo_X5_15 rfl rfl dX5_init_28 rfl ?_
      refine q_iload_n hV dX5_init_31 rfl ?_
      refine q_new hV (ci := 1) (N := 6) (C := RX1) (T := TX1) (fs := [.int 0, .int 0, .int 0, .int 0, .null, .null]) tyX1 rfl iuX1 tyX1_ok iw_197 iw_154 iw_49 bl_X1 (by rw [hlen]; omega) ⟨by rw [hC]; omega, by rw [hSl]; omega⟩ dX5_init_32 ?_
      rw [hlen]
      refine q_dup hV dX5_init_35 rfl ?_
      refine q_callI hV (a := o + (2 + 6 * i)) (shE cI cM o n i (upf o i)) rfl (by rw [hlen]) (i_X1 l D cI cM (o + (2 + 6 * i))) mi_X5_21 rfl ⟨Nat.le_of_ble_eq_true rfl, Nat.le_of_ble_eq_true rfl⟩ (Nat.le_of_ble_eq_true rfl) rfl (by rw [hlen]; omega) ⟨by rw [hC]; omega, by rw [hSl]; omega⟩ dX5_init_36 (shE cI cM o n (i + 1) (upf o i)) rfl ?_
      refine q_aast hV (i := 1) (j := 2 + 6 * i) (n := n) (f := upf o i) (vs := [.int 0, .int 0, .int 0, .int 0, .ref (o + (2 + 6 * i) + 1), .ref (o + (2 + 6 * i) + 2)]) rfl ?_ rfl ?_ dX5_init_39 rfl (shE cI cM o n (i + 1) (upf o (i + 1))) ?_ ?_
      · have hm := moms_len cI o i
        rw [show 2 + 6 * i = 6 * i + 1 + 1 by omega]
        show (moms cI o i ++ mom cI (o + (2 + 6 * i)))[6 * i]? = _
        rw [← hm, List.getElem?_append_right (Nat.le_refl _), Nat.sub_self, hm, show 6 * i + 1 + 1 = 2 + 6 * i by omega]
        rfl
      · exact vp_in_nI (by omega) (by omega)
      · rw [nI_clamp (by omega), upf_s]
        rfl
      · refine q_iinc hV (v := 1) dX5_init_40 rfl (by decide) rfl ?_
        refine q_goto hV 18 dX5_init_43 (by decide) ?_
        have := ih (i + 1) (by omega)
        rw [show 1 + 6 * (i + 1) = 1 + 6 * i + 1 + 5 by omega, show n + 43 * (i + 1) = n + 43 * i + 6 + 37 by omega, ← nI_1] at this
        exact this
  refine q_aload_n hV dX5_init_0 rfl ?_
  refine q_objInit hV iw_193 iw_69 iw_70 ⟨Nat.le_of_ble_eq_true rfl, Nat.le_of_ble_eq_true rfl⟩ dX5_init_1 ?_
  refine q_aload_n hV dX5_init_4 rfl ?_
  refine q_iload_n hV dX5_init_5 rfl ?_
  refine q_iconst hV (v := 1) dX5_init_6 (by decide) ?_
  refine q_mmax hV iw_194 iw_195 iw_51 iw_196 ⟨Nat.le_of_ble_eq_true rfl, Nat.le_of_ble_eq_true rfl⟩ ⟨Nat.zero_le _, Nat.zero_le _⟩ dX5_init_7 ?_
  rw [show (if nI n < 1 then (1 : Int32) else nI n) = nI n from if_neg (by rw [c_lt (by omega) (by omega)]; omega)]
  refine q_anew hV n (nI_clamp (by omega)) (nI_pos (by omega)) iw_197 (by omega) rfl ⟨by rw [hC]; omega, by rw [hSl]; omega⟩ dX5_init_10 ?_
  refine q_putF hV (i := 0) fo_X5_15 rfl rfl rfl (Nat.le_of_ble_eq_true rfl) dX5_init_13 rfl (shE cI cM o n 0 (upf o 0)) rfl ?_
  refine q_iconst hV (v := 0) dX5_init_16 (by decide) ?_
  refine q_istore_n hV dX5_init_17 (by decide) rfl ?_
  have := loop n 0 (by omega)
  rw [show n + 43 * 0 = 0 + n by omega] at this
  exact this
