theorem bl_X8 : ∀ j, j < 10 → defaultValue (tyX8 j) = vp_V [.null, .null, .null, .null, .null, .null, .null, .null, .null, .null] j := by
  intro j hj
  rcases (show j = 0 ∨ j = 1 ∨ j = 2 ∨ j = 3 ∨ j = 4 ∨ j = 5 ∨ j = 6 ∨ j = 7 ∨ j = 8 ∨ j = 9 by omega) with rfl | rfl | rfl | rfl | rfl | rfl | rfl | rfl | rfl | rfl <;> rfl
theorem bl_X9 : ∀ j, j < 24 → defaultValue (tyX9 j) = vp_V [.int 0, .null, .int 0, .null, .null, .int 0, .null, .int 0, .null, .int 0, .null, .null, .int 0, .int 0, .null, .int 0, .null, .int 0, .null, .null, .int 0, .int 0, .null, .null] j := by
  intro j hj
  rcases (show j = 0 ∨ j = 1 ∨ j = 2 ∨ j = 3 ∨ j = 4 ∨ j = 5 ∨ j = 6 ∨ j = 7 ∨ j = 8 ∨ j = 9 ∨ j = 10 ∨ j = 11 ∨ j = 12 ∨ j = 13 ∨ j = 14 ∨ j = 15 ∨ j = 16 ∨ j = 17 ∨ j = 18 ∨ j = 19 ∨ j = 20 ∨ j = 21 ∨ j = 22 ∨ j = 23 by omega) with rfl | rfl | rfl | rfl | rfl | rfl | rfl | rfl | rfl | rfl | rfl | rfl | rfl | rfl | rfl | rfl | rfl | rfl | rfl | rfl | rfl | rfl | rfl | rfl <;> rfl
theorem Q8.call {p : Program} {l : Launch} {e : Env} {R : Room} {s : State} {m : MethodId} {args : Array Value} {below : List Frame} {meth : Method} {c : Code} {H : Heap} {locs : List Loc} {cells slots mc ms : Nat} {Q : State → Prop} {A : Nat → Prop} {w : Wd} {o2 pc : Nat} {ls : Array Slot} {rest st0 : List Value} {a : Array Value} {FR : FMem}
    (hr : va_Run p l e R s m args below meth c H locs cells slots mc ms (F0 m pc ls st0) rest (Q8 w o2 FR a) (Gr o2)) (hA : ∀ q, Gr o2 q → A q) (hS : va_S A s.heap H locs)
    (kk : ∀ (H1 : Heap) (locs1 : List Loc), va_P (wD w) vwCl (wl w FR) H1 → (∀ q : Nat, q < H.size → ¬ Gr o2 q → H1[q]? = H[q]?) → va_S A s.heap H1 locs1 → W p l e R s m args below meth c H1 locs1 (cells + mc) (slots + ms) Q (F0 m (pc + 3) ls rest)) : W p l e R s m args below meth c H locs cells slots Q (F0 m pc ls st0) := by
  intro T hT X
  obtain ⟨v, st₀, t, T', L, h0, X', hL, e1, e2, ⟨hv, hp, hz, hk⟩, st⟩ := hr T hT X
  cases hv
  rw [h0] at hz hk
  obtain ⟨t2, a1, b1⟩ := kk T'.heap (locs ++ L) (by rw [e1]; exact hp) (fun q h1 h2 => by rw [e1]; exact hk q h1 h2)
    ⟨Nat.le_trans hS.1 (by rw [e1]; exact hz), fun q h1 h2 => by rw [e1, hk q (Nat.lt_of_lt_of_le h1 hS.1) (fun z => h2 (hA q z))]; exact hS.2.1 q h1 h2, fun q hq => by
      rcases List.mem_append.mp hq with h | h
      · exact hS.2.2 q h
      · exact hA _ (hL q h)⟩ T' rfl X'
  exact ⟨t2, st t2 a1, b1⟩
theorem cmp6 {L i : Nat} (hL : L ≤ 384) (hi : i ≤ 384) : (nI L - 6 < nI i) ↔ L < i + 6 := by
  have h1 : (nI L - nI 6).toInt = (L : Int) - 6 := pk_sub_toInt (by omega) (by omega)
  have h2 : (nI i).toInt = (i : Int) := nI_toInt (by omega)
  rw [show (6 : Int32) = nI 6 from rfl, Int32.lt_iff_toInt_lt, h1, h2]
  omega
set_option maxRecDepth 20000 in
theorem law_switch {l : Launch} {D : va_G} {cI cM : ClassId} {b L o o2 : Nat} {xs : Nat → Int32} {V : FMem → FMem → Nat → Nat → List Value → Prop} (hV : LwP l D cI cM b L o o2 xs V) {i : Nat} (hi : i + 6 ≤ L) {C M : FMem} (hR : Rel C M) (K : ∀ C' M', Rel C' M' → V C' M' 820 i []) (j : Nat) (hj : j ≤ 31) : V C M 33 i [.int (nI j)] := by
  have tab : ∀ (off : Int) (tgt : Nat), j ≤ 25 → (#[119, 142, 155, 168, 181, 214, 247, 270, 293, 336, 349, 382, 395, 418, 451, 484, 507, 540, 553, 586, 649, 672, 695, 738, 751, 764] : Array Int)[j]? = some off → ((33 : Nat) : Int) + off = (tgt : Int) → V C M tgt i [] → V C M 33 i [.int (nI j)] := by
    intro off tgt hj2 ho ht k
    obtain ⟨p, e, s, m, below, meth, c, Q, hx, hb, hml, hown, hK, hX, hbl, ho1, ho2, hL, rfl⟩ := hV
    intro H locs ls hP hN hS hl
    have hji : (nI j).toInt = (j : Int) := nI_toInt (by omega)
    exact lv_tableIn hx hb dL_law_33 (by rw [hji]; omega) (by rw [hji]; omega) (by rw [hji, show ((j : Int) - 0).toNat = j by omega]; exact ho) ht (k H locs ls hP hN hS hl)
  by_cases hj2 : j ≤ 25
  · match j, hj2, tab with
    | 0, _, tab => exact tab 119 152 (by decide) rfl (by decide) (law_0 hV hi hR K)
    | 1, _, tab => exact tab 142 175 (by decide) rfl (by decide) (law_1 hV hi hR K)
    | 2, _, tab => exact tab 155 188 (by decide) rfl (by decide) (law_2 hV hi hR K)
    | 3, _, tab => exact tab 168 201 (by decide) rfl (by decide) (law_3 hV hi hR K)
    | 4, _, tab => exact tab 181 214 (by decide) rfl (by decide) (law_4 hV hi hR K)
    | 5, _, tab => exact tab 214 247 (by decide) rfl (by decide) (law_5 hV hi hR K)
    | 6, _, tab => exact tab 247 280 (by decide) rfl (by decide) (law_6 hV hi hR K)
    | 7, _, tab => exact tab 270 303 (by decide) rfl (by decide) (law_7 hV hi hR K)
    | 8, _, tab => exact tab 293 326 (by decide) rfl (by decide) (law_8 hV hi hR K)
    | 9, _, tab => exact tab 336 369 (by decide) rfl (by decide) (law_9 hV hi hR K)
    | 10, _, tab => exact tab 349 382 (by decide) rfl (by decide) (law_10 hV hi hR K)
    | 11, _, tab => exact tab 382 415 (by decide) rfl (by decide) (law_11 hV hi hR K)
    | 12, _, tab => exact tab 395 428 (by decide) rfl (by decide) (law_12 hV hi hR K)
    | 13, _, tab => exact tab 418 451 (by decide) rfl (by decide) (law_13 hV hi hR K)
    | 14, _, tab => exact tab 451 484 (by decide) rfl (by decide) (law_14 hV hi hR K)
    | 15, _, tab => exact tab 484 517 (by decide) rfl (by decide) (law_15 hV hi hR K)
    | 16, _, tab => exact tab 507 540 (by decide) rfl (by decide) (law_16 hV hi hR K)
    | 17, _, tab => exact tab 540 573 (by decide) rfl (by decide) (law_17 hV hi hR K)
    | 18, _, tab => exact tab 553 586 (by decide) rfl (by decide) (law_18 hV hi hR K)
    | 19, _, tab => exact tab 586 619 (by decide) rfl (by decide) (law_19 hV hi hR K)
    | 20, _, tab => exact tab 649 682 (by decide) rfl (by decide) (law_20 hV hi hR K)
    | 21, _, tab => exact tab 672 705 (by decide) rfl (by decide) (law_21 hV hi hR K)
    | 22, _, tab => exact tab 695 728 (by decide) rfl (by decide) (law_22 hV hi hR K)
    | 23, _, tab => exact tab 738 771 (by decide) rfl (by decide) (law_23 hV hi hR K)
    | 24, _, tab => exact tab 751 784 (by decide) rfl (by decide) (law_24 hV hi hR K)
    | 25, _, tab => exact tab 764 797 (by decide) rfl (by decide) (law_25 hV hi hR K)
    | n + 26, h, _ => omega
  · obtain ⟨p, e, s, m, below, meth, c, Q, hx, hb, hml, hown, hK, hX, hbl, ho1, ho2, hL, rfl⟩ := hV
    intro H locs ls hP hN hS hl
    have hji : (nI j).toInt = (j : Int) := nI_toInt (by omega)
    exact lv_tableOut hx hb dL_law_33 (Or.inr (by rw [hji]; omega)) (show ((33 : Nat) : Int) + 787 = ((820 : Nat) : Int) by decide) (K C M hR H locs ls hP hN hS hl)
set_option maxRecDepth 20000 in
theorem whole_start {p : Program} {e : Env} {s : State} {m : MethodId} {below : List Frame} {meth : Method} {c : Code} (l : Launch) {b L : Nat} {xs : Nat → Int32} (hL : L ≤ 384) (C0 : lw_At p s m meth c b L xs) : W p l e room_1 s m #[Value.ref b] below meth c s.heap [] 0 0 (lw_Z below #[Value.ref b] s) (entryFrame m ([Value.ref b] : List Value).toArray 4) := by
  obtain ⟨hx, hb, hr, hml, hown, hts, hX, hbl, hlk, hgv⟩ := C0
  obtain ⟨D, cI, cM, k, v, z, hz, hK, hSW, hvR⟩ := setup hts hgv
  obtain ⟨v1, C2, C3, C4, r1, MA, r2, MB, q1, q2, q3, q4, q5, hRel⟩ := first_ok
  have hl := lv_entry ([.ref b]) (n := 4) (Nat.le_of_ble_eq_true rfl)
  rw [lg_entry_eq]
  generalize (lg_sl ([.ref b]) ++ List.replicate (4 - (lg_sl ([.ref b])).length) Slot.unset).toArray = ls at hl ⊢
  have hl : LH ls 4 [some (.ref b), none, none, none] := by
    refine ⟨rfl, hl.1, hl.2.1, fun i v hi => ?_⟩
    match i, hi with
    | 0, hi => cases hi; exact hl.2.2 (0, .ref b) List.mem_cons_self
    | 1, hi => cases hi
    | 2, hi => cases hi
    | 3, hi => cases hi
  have hS0 : va_S (Gr s.heap.size) s.heap s.heap [] := va_S.rf
  -- new BoredKings
  refine W.newcK hx hb hown (hK.W iw_63 _) (hK.W iw_64 _) (hK.W iw_45 _) rfl dL_law_0 (by decide) (by decide) (hK.K.1 8 _ rfl).2.1 rfl fun H1 kC hkC e1 z1 o1 => ?_
  refine W.eq (g2 := F0 m 3 ls [.ref s.heap.size]) rfl ?_
  have hP1 : va_P D vwCl (bw s.heap.size [.inr (8, [.null, .null, .null, .null, .null, .null, .null, .null, .null, .null])]) H1 := by
    intro k2 x2 hx2
    obtain ⟨e2, he2, rfl⟩ := bw_of hx2
    have hk0 : k2 = 0 := by
      have := (List.getElem?_eq_some_iff.mp he2).1
      simp at this
      exact this
    subst hk0
    cases he2
    exact ⟨_, rfl, (u_born tyX8 (ws := u_ws RX8 TX8 10) (args := #[Value.ref b]) (fun x hx => hK.W (iuX8 x hx) _) (fun _ h => h) (hK.K.1 8 _ rfl) hkC e1 tyX8_ok).to bl_X8⟩
  have hS1 : va_S (Gr s.heap.size) s.heap H1 [] := ⟨by omega, fun q g1 g2 => o1 q g1, fun _ h => by cases h⟩
  refine lv_dup hx hb dL_law_3 rfl ?_
  have hp8 : PreS s H1 (va_Pc [.ref s.heap.size] (P8 D cI cM s.heap.size k v z s.heap.size)) [.ref s.heap.size] := ⟨P8.blind, fun U hU hW => ⟨rfl, ⟨by rw [hU]; exact hP1, by rw [hU]; exact z1, hK.warm hW⟩, by rw [hU]; exact (hSW.kept fun a ha _ => o1 a ha).moved hW.alike, hvR.warm hW⟩⟩
  have S : CallFix p m c code 4 s #[Value.ref b] ([] : List Cond) RL := ⟨hx, hb, hml, hown, fun _ h => by cases h⟩
  obtain ⟨a1, a2, a3, a4⟩ := mi_L_9
  refine Q8.call (A := Gr s.heap.size) (va_runI (g := F0 m 4 ls [.ref s.heap.size, .ref s.heap.size]) (As := []) (rest := [.ref s.heap.size]) S (c_X8 l D cI cM s.heap.size k v z hz s.heap.size (Nat.le_refl _) q1 q2 q3) ⟨cb_ofB hK.1 a1 (inT_of 65 (by decide +kernel) (by decide +kernel)) ⟨by decide, by decide⟩, a4, hK.W a3 _⟩ hp8 rfl rfl hl.2.1 rfl (lv_room (Nat.le_of_ble_eq_true rfl)) dL_law_4 ⟨by decide, by decide⟩) (fun _ h => h) hS1 fun H2 locs2 hP2 hk2 hS2 => ?_
  refine lv_astore_n hx hb dL_law_7 rfl hl.has (by decide) rfl (fun ls h2 => ?_)
  have hl := LH.st1 hl.1 rfl h2
  have hsz2 : s.heap.size + 101 ≤ H2.size := by
    have := (hP2 100 _ (wl_get (w := wdC D cI cM s.heap.size) (i := 100) (Nat.le_of_ble_eq_true rfl))).lt
    have h' : s.heap.size + 100 < H2.size := this
    omega
  -- new BoredKingsModel
  refine W.newcK hx hb hown (hK.W iw_780 _) (hK.W iw_781 _) (hK.W iw_60 _) rfl dL_law_8 (by decide) (by decide) (hK.K.1 9 _ rfl).2.1 rfl fun H3 kD hkD e3 z3 o3 => ?_
  refine W.eq (g2 := F0 m 11 ls [.ref H2.size]) rfl ?_
  have hP3 : va_P D vwCl (bw H2.size [.inr (9, [.int 0, .null, .int 0, .null, .null, .int 0, .null, .int 0, .null, .int 0, .null, .null, .int 0, .int 0, .null, .int 0, .null, .int 0, .null, .null, .int 0, .int 0, .null, .null])]) H3 := by
    intro k2 x2 hx2
    obtain ⟨e2, he2, rfl⟩ := bw_of hx2
    have hk0 : k2 = 0 := by
      have := (List.getElem?_eq_some_iff.mp he2).1
      simp at this
      exact this
    subst hk0
    cases he2
    exact ⟨_, rfl, (u_born tyX9 (ws := u_ws RX9 TX9 24) (args := #[Value.ref b]) (fun x hx => hK.W (iuX9 x hx) _) (fun _ h => h) (hK.K.1 9 _ rfl) hkD e3 tyX9_ok).to bl_X9⟩
  have hP2 : va_P D vwCl (wl (wdC D cI cM s.heap.size) C4) H3 := hP2.kept fun k2 x2 hx2 => o3 _ (hP2 k2 x2 hx2).lt
  have hS3 : va_S (Gr s.heap.size) s.heap H3 locs2 := ⟨by have := hS2.1; omega, fun q g1 g2 => (o3 q (by have := hS2.1; omega)).trans (hS2.2.1 q g1 g2), hS2.2.2⟩
  refine lv_dup hx hb dL_law_11 rfl ?_
  have hp9 : PreS s H3 (va_Pc [.ref H2.size] (P9 D cI cM H2.size)) [.ref H2.size] := ⟨Pbx.blind, fun U hU hW => ⟨rfl, by rw [hU]; exact hP3, by rw [hU]; exact z3, hK.warm hW⟩⟩
  obtain ⟨b1, b2, b3, b4⟩ := mi_L_12
  refine Q8.call (A := Gr s.heap.size) (va_runI (g := F0 m 12 ls [.ref H2.size, .ref H2.size]) (As := []) (rest := [.ref H2.size]) S (c_X9 l D cI cM H2.size q4 q5) ⟨cb_ofB hK.1 b1 (inT_of 782 (by decide +kernel) (by decide +kernel)) ⟨by decide, by decide⟩, b4, hK.W b3 _⟩ hp9 rfl rfl hl.2.1 rfl (lv_room (Nat.le_of_ble_eq_true rfl)) dL_law_12 ⟨by decide, by decide⟩) (fun q h => by have h' : H2.size ≤ q := h; show s.heap.size ≤ q; omega) hS3 fun H4 locs4 hN4 hk4 hS4 => ?_
  have hP4 : va_P D vwCl (wl (wdC D cI cM s.heap.size) C4) H4 := hP2.kept fun k2 x2 hx2 => by
    obtain ⟨h1, rfl⟩ := wl_of hx2
    refine hk4 _ (hP2 k2 _ hx2).lt (fun h => ?_)
    have h' : H2.size ≤ s.heap.size + k2 := h
    have h'' : k2 < 101 := h1
    omega
  refine lv_astore_n hx hb dL_law_15 rfl hl.has (by decide) rfl (fun ls h2 => ?_)
  have hl := LH.st1 hl.1 rfl h2
  refine lv_iconst (v := 0) hx hb dL_law_16 (by decide) ?_
  refine lv_istore_n hx hb dL_law_17 rfl hl.has (by decide) rfl (fun ls h2 => ?_)
  have hl := LH.st1 hl.1 rfl h2
  have hV : LwP l D cI cM b L s.heap.size H2.size xs (LwJ p l e s m below meth c D cI cM b s.heap.size H2.size (lw_Z below #[Value.ref b] s)) := ⟨p, e, s, m, below, meth, c, _, hx, hb, hml, hown, hK, hX, hbl, Nat.le_refl _, hsz2, hL, rfl⟩
  have loop : ∀ (n i : Nat) (C M : FMem), i ≤ 384 → L ≤ i + n → Rel C M → LwJ p l e s m below meth c D cI cM b s.heap.size H2.size (lw_Z below #[Value.ref b] s) C M 18 i [] := by
    intro n
    induction n with
    | zero =>
      intro i C M hi hn hR H locs ls hP hN hS hl
      refine lv_iload_n hx hb dL_law_18 rfl (hl.at (i := 3) rfl) ?_
      refine lv_aload_n hx hb dL_law_19 rfl (hl.at (i := 0) rfl) ?_
      refine va_slen hx hb hX hbl (nGr hbl) hS dL_law_20 ?_
      refine lv_bipush (v := 6) hx hb dL_law_21 (by decide) ?_
      refine lv_isub hx hb dL_law_23 ?_
      refine lv_icmp_gt hx hb dL_law_24 (show _ = ((826 : Nat) : Int) by decide) (fun _ => ?_) (fun h => absurd ((cmp6 hL hi).mpr (by omega)) h)
      refine lv_iconst (v := 1) hx hb dL_law_826 (by decide) ?_
      refine va_forget hS.2.2 ?_
      refine W.widen (k := 600000) (n := 7302250) (by decide) (by decide) ?_
      exact lw_ret hx hb hr hlk dL_law_827
    | succ n ih =>
      intro i C M hi hn hR H locs ls hP hN hS hl
      refine lv_iload_n hx hb dL_law_18 rfl (hl.at (i := 3) rfl) ?_
      refine lv_aload_n hx hb dL_law_19 rfl (hl.at (i := 0) rfl) ?_
      refine va_slen hx hb hX hbl (nGr hbl) hS dL_law_20 ?_
      refine lv_bipush (v := 6) hx hb dL_law_21 (by decide) ?_
      refine lv_isub hx hb dL_law_23 ?_
      refine lv_icmp_gt hx hb dL_law_24 (show _ = ((826 : Nat) : Int) by decide) (fun _ => ?_) (fun h => ?_)
      · refine lv_iconst (v := 1) hx hb dL_law_826 (by decide) ?_
        refine va_forget hS.2.2 ?_
        refine W.widen (k := 600000) (n := 7302250) (by decide) (by decide) ?_
        exact lw_ret hx hb hr hlk dL_law_827
      · have h6 : i + 6 ≤ L := by
          have : ¬ L < i + 6 := fun h' => h ((cmp6 hL hi).mpr h')
          omega
        refine lv_aload_n hx hb dL_law_27 rfl (hl.at (i := 0) rfl) ?_
        refine lv_iload_n hx hb dL_law_28 rfl (hl.at (i := 3) rfl) ?_
        refine va_sld hx hb hX hbl (nGr hbl) hS (vp_in_nI (show i < L by omega) (by omega)) dL_law_29 ?_
        refine lv_bipush (v := 31) hx hb dL_law_30 (by decide) ?_
        refine lv_iand hx hb dL_law_32 ?_
        obtain ⟨j, hj, ej⟩ := and_lt (xs (nI i).toNatClampNeg) 31
        have ej' : xs (nI i).toNatClampNeg &&& 31 = nI j := ej
        rw [ej']
        refine law_switch hV h6 hR ?_ j hj H locs ls hP hN hS hl
        intro C' M' hR' H locs ls hP hN hS hl
        obtain ⟨jj, hjj⟩ := List.getElem?_of_mem (lvL_mem.mpr (show (LL b s.heap.size H2.size i)[3]? = some (some (.int (nI i))) from rfl))
        refine lv_iinc hx hb dL_law_820 hl.has hjj (v := nI i + 6) (by rw [show Int32.ofInt 6 = 6 by decide]) (by decide) rfl (fun ls2 h2 => ?_)
        have hl2 := LH.st1 hl.1 rfl h2
        refine lv_goto hx hb dL_law_823 (show _ = ((18 : Nat) : Int) by decide) ?_
        have hl3 : LH ls2 4 (LL b s.heap.size H2.size (i + 6)) := by
          unfold LL
          rw [← nI_add]
          exact hl2
        exact ih (i + 6) C' M' (by omega) (by omega) hR' H locs ls2 hP hN hS hl3
  exact loop 384 0 C4 MB (by omega) (by omega) hRel H4 locs4 ls hP4 hN4 hS4 hl
