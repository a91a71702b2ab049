theorem sh_id {D : va_G} {cI cM : ClassId} {b t n : Nat} {x : Int32} (hT : isSh D cI cM b t n) (g : inb x n = true) : nrv b (Int32.ofNat (t + 2 + 6 * x.toNatClampNeg)) = .ref (b + (t + 2 + 6 * x.toNatClampNeg)) := by
  have h1 : x.toNatClampNeg < n := by
    have h2 := inb_in g
    exact Nat.not_le.mp fun q => h2 (Or.inr q)
  have h3 := hT.2.2
  exact nrv_id (by omega) (by omega)
def f_X1_begin (t : Nat) (FM : FMem) : Opt :=
  bindm (fset FM t 0 (0 : Int32)) fun M1 =>
  bindm (fset M1 t 1 (0 : Int32)) fun M2 =>
  bindm (fset M2 t 2 (0 : Int32)) fun M3 =>
  bindm (fset M3 t 3 (0 : Int32)) fun M4 =>
  bnd (f_J7_fill_53178 (t + 1) 6 (0 : Int32) M4) fun r5 M6 =>
  bnd (f_X7_copyFrom (t + 2) 16 M6) fun r8 M9 =>
  some (0, M9)
set_option maxHeartbeats 4000000 in
set_option maxRecDepth 100000 in
theorem m_X1_begin (l : Launch) (D : va_G) (cI cM : ClassId) (b : Nat) (t : Nat) (hT : isMo D cI cM b t) (FM : FMem) (r0 : Int32) (FR : FMem) (h : f_X1_begin t FM = some (r0, FR)) : Mt l (wdC D cI cM b) yX1_begin cX1_begin 2 none 2 45 [.ref (b + t), .ref (b + 12)] FM none FR := by
  refine Mt.of (by decide) (cat_cons rfl (cat_cons rfl cat_nil)) [some (.ref (b + t)), some (.ref (b + 12))] rfl (Nat.le_of_ble_eq_true rfl) (fun V hV => ?_)
  unfold f_X1_begin at h
  refine r_aload_n hV dX1_begin_0 rfl ?_
  refine r_iconst (v := (0 : Int32)) hV dX1_begin_1 rfl ?_
  refine r_puti hV fl_X1_22 hT.2.2.1 (fun _ _ => rfl) (Nat.le_of_ble_eq_true rfl) dX1_begin_2 ?_
  refine r_bm h (fun M1 h => ?_)
  refine r_aload_n hV dX1_begin_5 rfl ?_
  refine r_iconst (v := (0 : Int32)) hV dX1_begin_6 rfl ?_
  refine r_puti hV fl_X1_26 hT.2.2.1 (fun _ _ => rfl) (Nat.le_of_ble_eq_true rfl) dX1_begin_7 ?_
  refine r_bm h (fun M2 h => ?_)
  refine r_aload_n hV dX1_begin_10 rfl ?_
  refine r_iconst (v := (0 : Int32)) hV dX1_begin_11 rfl ?_
  refine r_puti hV fl_X1_29 hT.2.2.1 (fun _ _ => rfl) (Nat.le_of_ble_eq_true rfl) dX1_begin_12 ?_
  refine r_bm h (fun M3 h => ?_)
  refine r_aload_n hV dX1_begin_15 rfl ?_
  refine r_iconst (v := (0 : Int32)) hV dX1_begin_16 rfl ?_
  refine r_puti hV fl_X1_32 hT.2.2.1 (fun _ _ => rfl) (Nat.le_of_ble_eq_true rfl) dX1_begin_17 ?_
  refine r_bm h (fun M4 h => ?_)
  refine r_aload_n hV dX1_begin_20 rfl ?_
  refine r_geto hV fl_X1_9 hT.2.2.1 rfl dX1_begin_21 ?_
  refine r_iconst (v := (0 : Int32)) hV dX1_begin_24 rfl ?_
  obtain ⟨r5, M6, q7, h⟩ := bnd_some h
  refine r_cSv hV (m_J7_fill_53178 l D cI cM b (t + 1) 6 hT.2.2.2.1 (0 : Int32) M4 _ _ q7) ml_X1_35 rfl (by decide) (Nat.le_of_ble_eq_true rfl) rfl dX1_begin_25 ?_
  refine r_aload_n hV dX1_begin_28 rfl ?_
  refine r_geto hV fl_X1_18 hT.2.2.1 rfl dX1_begin_29 ?_
  refine r_aload_n hV dX1_begin_32 rfl ?_
  refine r_geto hV fl_X1_41 ob_12 rfl dX1_begin_33 ?_
  obtain ⟨r8, M9, q10, h⟩ := bnd_some h
  refine r_cVv hV (m_X7_copyFrom l D cI cM b (t + 2) 16 hT.2.2.2.2 isTh_16 M6 _ _ q10) ml_X1_44 hT.2.2.2.2.2.2.1 rfl rfl (by decide) (Nat.le_of_ble_eq_true rfl) rfl dX1_begin_36 ?_
  exact r_vret hV rfl dX1_begin_39 rfl (ret_m h)
def f_X1_copyFrom (t u : Nat) (FM : FMem) : Opt :=
  bindm (fset FM t 0 (FM u 0)) fun M1 =>
  bindm (fset M1 t 1 (M1 u 1)) fun M2 =>
  bindm (fset M2 t 2 (M2 u 2)) fun M3 =>
  bindm (fset M3 t 3 (M3 u 3)) fun M4 =>
  bindm (fcpy M4 (u + 1) (t + 1) 6) fun M5 =>
  bnd (f_X7_copyFrom (t + 2) (u + 2) M5) fun r6 M7 =>
  some (0, M7)
set_option maxHeartbeats 4000000 in
set_option maxRecDepth 100000 in
theorem m_X1_copyFrom (l : Launch) (D : va_G) (cI cM : ClassId) (b : Nat) (t u : Nat) (hT : isMo D cI cM b t) (hU : isMo D cI cM b u) (FM : FMem) (r0 : Int32) (FR : FMem) (h : f_X1_copyFrom t u FM = some (r0, FR)) : Mt l (wdC D cI cM b) yX1_copyFrom cX1_copyFrom 2 none 2 60 [.ref (b + t), .ref (b + u)] FM none FR := by
  refine Mt.of (by decide) (cat_cons rfl (cat_cons rfl cat_nil)) [some (.ref (b + t)), some (.ref (b + u))] rfl (Nat.le_of_ble_eq_true rfl) (fun V hV => ?_)
  unfold f_X1_copyFrom at h
  refine r_aload_n hV dX1_copyFrom_0 rfl ?_
  refine r_aload_n hV dX1_copyFrom_1 rfl ?_
  refine r_geto hV fl_X1_22 hU.2.2.1 rfl dX1_copyFrom_2 ?_
  refine r_puti hV fl_X1_22 hT.2.2.1 (fun _ _ => rfl) (Nat.le_of_ble_eq_true rfl) dX1_copyFrom_5 ?_
  refine r_bm h (fun M1 h => ?_)
  refine r_aload_n hV dX1_copyFrom_8 rfl ?_
  refine r_aload_n hV dX1_copyFrom_9 rfl ?_
  refine r_geto hV fl_X1_26 hU.2.2.1 rfl dX1_copyFrom_10 ?_
  refine r_puti hV fl_X1_26 hT.2.2.1 (fun _ _ => rfl) (Nat.le_of_ble_eq_true rfl) dX1_copyFrom_13 ?_
  refine r_bm h (fun M2 h => ?_)
  refine r_aload_n hV dX1_copyFrom_16 rfl ?_
  refine r_aload_n hV dX1_copyFrom_17 rfl ?_
  refine r_geto hV fl_X1_29 hU.2.2.1 rfl dX1_copyFrom_18 ?_
  refine r_puti hV fl_X1_29 hT.2.2.1 (fun _ _ => rfl) (Nat.le_of_ble_eq_true rfl) dX1_copyFrom_21 ?_
  refine r_bm h (fun M3 h => ?_)
  refine r_aload_n hV dX1_copyFrom_24 rfl ?_
  refine r_aload_n hV dX1_copyFrom_25 rfl ?_
  refine r_geto hV fl_X1_32 hU.2.2.1 rfl dX1_copyFrom_26 ?_
  refine r_puti hV fl_X1_32 hT.2.2.1 (fun _ _ => rfl) (Nat.le_of_ble_eq_true rfl) dX1_copyFrom_29 ?_
  refine r_bm h (fun M4 h => ?_)
  refine r_aload_n hV dX1_copyFrom_32 rfl ?_
  refine r_geto hV fl_X1_9 hU.2.2.1 rfl dX1_copyFrom_33 ?_
  refine r_iconst (v := (0 : Int32)) hV dX1_copyFrom_36 rfl ?_
  refine r_aload_n hV dX1_copyFrom_37 rfl ?_
  refine r_geto hV fl_X1_9 hT.2.2.1 rfl dX1_copyFrom_38 ?_
  refine r_iconst (v := (0 : Int32)) hV dX1_copyFrom_41 rfl ?_
  refine r_bipush (v := (6 : Int32)) hV dX1_copyFrom_42 rfl ?_
  refine r_cpy hV 6 (inT_of 503 (by decide +kernel) (by decide +kernel)) (inT_of 505 (by decide +kernel) (by decide +kernel)) (inT_of 504 (by decide +kernel) (by decide +kernel)) (inT_of 61 (by decide +kernel) (by decide +kernel)) hU.2.2.2.1 hT.2.2.2.1 rfl (by decide) (by decide) (by decide) ⟨Nat.le_of_ble_eq_true rfl, Nat.le_of_ble_eq_true rfl⟩ dX1_copyFrom_44 ?_
  refine r_bm h (fun M5 h => ?_)
  refine r_aload_n hV dX1_copyFrom_47 rfl ?_
  refine r_geto hV fl_X1_18 hT.2.2.1 rfl dX1_copyFrom_48 ?_
  refine r_aload_n hV dX1_copyFrom_51 rfl ?_
  refine r_geto hV fl_X1_18 hU.2.2.1 rfl dX1_copyFrom_52 ?_
  obtain ⟨r6, M7, q8, h⟩ := bnd_some h
  refine r_cVv hV (m_X7_copyFrom l D cI cM b (t + 2) (u + 2) hT.2.2.2.2 hU.2.2.2.2 M5 _ _ q8) ml_X1_44 hT.2.2.2.2.2.2.1 rfl rfl (by decide) (Nat.le_of_ble_eq_true rfl) rfl dX1_copyFrom_55 ?_
  exact r_vret hV rfl dX1_copyFrom_58 rfl (ret_m h)
def f_X1_isHidden (t : Nat) (a1 : Int32) (FM : FMem) : Opt :=
  if (((FM t 3) >>> (a1 &&& 31)) &&& (1 : Int32)) = (1 : Int32) then (
    some ((1 : Int32), FM)
  ) else (
    some ((0 : Int32), FM)
  )
set_option maxHeartbeats 4000000 in
set_option maxRecDepth 100000 in
theorem m_X1_isHidden (l : Launch) (D : va_G) (cI cM : ClassId) (b : Nat) (t : Nat) (hT : isMo D cI cM b t) (a1 : Int32) (FM : FMem) (r0 : Int32) (FR : FMem) (h : f_X1_isHidden t a1 FM = some (r0, FR)) : Mt l (wdC D cI cM b) yX1_isHidden cX1_isHidden 2 (some .boolean) 0 0 [.ref (b + t), .int a1] FM (some (.int r0)) FR := by
  refine Mt.of (by decide) (cat_cons rfl (cat_cons rfl cat_nil)) [some (.ref (b + t)), some (.int a1)] rfl (Nat.le_of_ble_eq_true rfl) (fun V hV => ?_)
  unfold f_X1_isHidden at h
  refine r_aload_n hV dX1_isHidden_0 rfl ?_
  refine r_geto hV fl_X1_32 hT.2.2.1 rfl dX1_isHidden_1 ?_
  refine r_iload_n hV dX1_isHidden_4 rfl ?_
  refine r_ishr hV dX1_isHidden_5 ?_
  refine r_iconst (v := (1 : Int32)) hV dX1_isHidden_6 rfl ?_
  refine r_iand hV dX1_isHidden_7 ?_
  refine r_iconst (v := (1 : Int32)) hV dX1_isHidden_8 rfl ?_
  refine r_icmpne hV 16 dX1_isHidden_9 rfl (fun c1 => ?_) (fun c1 => ?_)
  · have h := (if_neg c1).symm.trans h
    refine r_iconst (v := (0 : Int32)) hV dX1_isHidden_16 rfl ?_
    exact r_zret hV rfl (Or.inl rfl) dX1_isHidden_17 (ret_r h) (ret_m h)
  · have h := (if_pos c1).symm.trans h
    refine r_iconst (v := (1 : Int32)) hV dX1_isHidden_12 rfl ?_
    refine r_goto hV 17 dX1_isHidden_13 rfl ?_
    exact r_zret hV rfl (Or.inr rfl) dX1_isHidden_17 (ret_r h) (ret_m h)
def f_X1_addReigned (t : Nat) (a1 : Int32) (FM : FMem) : Opt :=
  if a1 < 0 then (
    some (0, FM)
  ) else (
    if (6 : Int32) ≤ a1 then (
      some (0, FM)
    ) else (
      grd (inb a1 6) <|
      grd (inb a1 6) <|
      bindm (fset FM (t + 1) ((a1).toNatClampNeg) ((FM (t + 1) ((a1).toNatClampNeg)) + (1 : Int32))) fun M5 =>
      some (0, M5)
    )
  )
set_option maxHeartbeats 4000000 in
set_option maxRecDepth 100000 in
theorem m_X1_addReigned (l : Launch) (D : va_G) (cI cM : ClassId) (b : Nat) (t : Nat) (hT : isMo D cI cM b t) (a1 : Int32) (FM : FMem) (r0 : Int32) (FR : FMem) (h : f_X1_addReigned t a1 FM = some (r0, FR)) : Mt l (wdC D cI cM b) yX1_addReigned cX1_addReigned 2 none 0 0 [.ref (b + t), .int a1] FM none FR := by
  refine Mt.of (by decide) (cat_cons rfl (cat_cons rfl cat_nil)) [some (.ref (b + t)), some (.int a1)] rfl (Nat.le_of_ble_eq_true rfl) (fun V hV => ?_)
  unfold f_X1_addReigned at h
  refine r_iload_n hV dX1_addReigned_0 rfl ?_
  refine r_iflt hV 20 dX1_addReigned_1 rfl (fun c1 => ?_) (fun c1 => ?_)
  · have h := (if_pos c1).symm.trans h
    exact r_vret hV rfl dX1_addReigned_20 rfl (ret_m h)
  · have h := (if_neg c1).symm.trans h
    refine r_iload_n hV dX1_addReigned_4 rfl ?_
    refine r_bipush (v := (6 : Int32)) hV dX1_addReigned_5 rfl ?_
    refine r_icmpge hV 20 dX1_addReigned_7 rfl (fun c2 => ?_) (fun c2 => ?_)
    · have h := (if_pos c2).symm.trans h
      exact r_vret hV rfl dX1_addReigned_20 rfl (ret_m h)
    · have h := (if_neg c2).symm.trans h
      refine r_aload_n hV dX1_addReigned_10 rfl ?_
      refine r_geto hV fl_X1_9 hT.2.2.1 rfl dX1_addReigned_11 ?_
      refine r_iload_n hV dX1_addReigned_14 rfl ?_
      refine r_dup2 hV dX1_addReigned_15 rfl rfl ?_
      obtain ⟨g3, h⟩ := grd_some h
      refine r_ald hV hT.2.2.2.1 (inb_in g3) ((a1).toNatClampNeg) rfl dX1_addReigned_16 ?_
      refine r_iconst (v := (1 : Int32)) hV dX1_addReigned_17 rfl ?_
      refine r_iadd hV dX1_addReigned_18 ?_
      obtain ⟨g4, h⟩ := grd_some h
      refine r_ast hV hT.2.2.2.1 (inb_in g4) ((a1).toNatClampNeg) rfl dX1_addReigned_19 ?_
      refine r_bm h (fun M5 h => ?_)
      exact r_vret hV rfl dX1_addReigned_20 rfl (ret_m h)
def f_X5_clear (t n : Nat) (FM : FMem) : Opt :=
  bindm (fset FM t 1 (0 : Int32)) fun M1 =>
  bindm (fset M1 t 2 (0 : Int32)) fun M2 =>
  some (0, M2)
set_option maxHeartbeats 4000000 in
set_option maxRecDepth 100000 in
theorem m_X5_clear (l : Launch) (D : va_G) (cI cM : ClassId) (b : Nat) (t n : Nat) (hT : isSh D cI cM b t n) (FM : FMem) (r0 : Int32) (FR : FMem) (h : f_X5_clear t n FM = some (r0, FR)) : Mt l (wdC D cI cM b) yX5_clear cX5_clear 1 none 0 0 [.ref (b + t)] FM none FR := by
  refine Mt.of (by decide) (cat_cons rfl cat_nil) [some (.ref (b + t))] rfl (Nat.le_of_ble_eq_true rfl) (fun V hV => ?_)
  unfold f_X5_clear at h
  refine r_aload_n hV dX5_clear_0 rfl ?_
  refine r_iconst (v := (0 : Int32)) hV dX5_clear_1 rfl ?_
  refine r_puti hV fl_X5_22 hT.1 (fun _ _ => rfl) (Nat.le_of_ble_eq_true rfl) dX5_clear_2 ?_
  refine r_bm h (fun M1 h => ?_)
  refine r_aload_n hV dX5_clear_5 rfl ?_
  refine r_iconst (v := (0 : Int32)) hV dX5_clear_6 rfl ?_
  refine r_puti hV fl_X5_26 hT.1 (fun _ _ => rfl) (Nat.le_of_ble_eq_true rfl) dX5_clear_7 ?_
  refine r_bm h (fun M2 h => ?_)
  exact r_vret hV rfl dX5_clear_10 rfl (ret_m h)
def X5_placeBehind_b24 (t n : Nat) (x2 : Int32) (FM : FMem) : Opt :=
  if x2 < 0 then (
    some (0, FM)
  ) else (
    if (Int32.ofNat n) ≤ x2 then (
      some (0, FM)
    ) else (
      grd (inb x2 n) <|
      some (Int32.ofNat (t + 2 + 6 * (x2).toNatClampNeg), FM)
    )
  )
def f_X5_placeBehind (t n : Nat) (a1 : Int32) (FM : FMem) : Opt :=
  bindv ((FM t 1) + a1) fun v1 =>
  if v1 < (Int32.ofNat n) then (
    X5_placeBehind_b24 t n v1 FM
  ) else (
    bindv (v1 - (Int32.ofNat n)) fun v6 =>
    X5_placeBehind_b24 t n v6 FM
  )
set_option maxHeartbeats 4000000 in
set_option maxRecDepth 100000 in
theorem m_X5_placeBehind (l : Launch) (D : va_G) (cI cM : ClassId) (b : Nat) (t n : Nat) (hT : isSh D cI cM b t n) (a1 : Int32) (FM : FMem) (r0 : Int32) (FR : FMem) (h : f_X5_placeBehind t n a1 FM = some (r0, FR)) : Mt l (wdC D cI cM b) yX5_placeBehind cX5_placeBehind 3 (some (.object "BoredKings$Moment")) 0 0 [.ref (b + t), .int a1] FM (some (nrv b r0)) FR := by
  refine Mt.of (by decide) (cat_cons rfl (cat_cons rfl cat_nil)) [some (.ref (b + t)), some (.int a1), none] rfl (Nat.le_of_ble_eq_true rfl) (fun V hV => ?_)
  have B24 : ∀ (x2 : Int32) (FM : FMem), X5_placeBehind_b24 t n x2 FM = some (r0, FR) → V FM 24 [some (.ref (b + t)), none, some (.int x2)] [] := by
    intro  x2 FM h
    unfold X5_placeBehind_b24 at h
    refine r_iload_n hV dX5_placeBehind_24 rfl ?_
    refine r_iflt hV 46 dX5_placeBehind_25 rfl (fun c3 => ?_) (fun c3 => ?_)
    · have h := (if_pos c3).symm.trans h
      refine r_null hV dX5_placeBehind_46 ?_
      exact r_aret hV rfl (Or.inl rfl) dX5_placeBehind_47 (by rw [ret_e h]; rfl) (ret_m h)
    · have h := (if_neg c3).symm.trans h
      refine r_iload_n hV dX5_placeBehind_28 rfl ?_
      refine r_aload_n hV dX5_placeBehind_29 rfl ?_
      refine r_geto hV fl_X5_15 hT.1 rfl dX5_placeBehind_30 ?_
      refine r_alen hV 1 (v := (Int32.ofNat n)) hT.2.1.1 (hT.2.1.2 _) rfl rfl dX5_placeBehind_33 ?_
      refine r_icmpge hV 46 dX5_placeBehind_34 rfl (fun c4 => ?_) (fun c4 => ?_)
      · have h := (if_pos c4).symm.trans h
        refine r_null hV dX5_placeBehind_46 ?_
        exact r_aret hV rfl (Or.inl rfl) dX5_placeBehind_47 (by rw [ret_e h]; rfl) (ret_m h)
      · have h := (if_neg c4).symm.trans h
        refine r_aload_n hV dX5_placeBehind_37 rfl ?_
        refine r_geto hV fl_X5_15 hT.1 rfl dX5_placeBehind_38 ?_
        refine r_iload_n hV dX5_placeBehind_41 rfl ?_
        obtain ⟨g5, h⟩ := grd_some h
        refine r_aald hV 1 hT.2.1.1 (hT.2.1.2 _) rfl (inb_in g5) dX5_placeBehind_42 ?_
        refine r_goto hV 47 dX5_placeBehind_43 rfl ?_
        exact r_aret hV rfl (Or.inr ⟨_, rfl⟩) dX5_placeBehind_47 (by rw [ret_e h, sh_id hT g5]; rfl) (ret_m h)
  unfold f_X5_placeBehind at h
  refine r_aload_n hV dX5_placeBehind_0 rfl ?_
  refine r_geto hV fl_X5_22 hT.1 rfl dX5_placeBehind_1 ?_
  refine r_iload_n hV dX5_placeBehind_4 rfl ?_
  refine r_iadd hV dX5_placeBehind_5 ?_
  refine r_bv h (fun v1 h => ?_)
  refine r_istore_n hV dX5_placeBehind_6 (Nat.le_of_ble_eq_true rfl) rfl ?_
  refine r_iload_n hV dX5_placeBehind_7 rfl ?_
  refine r_aload_n hV dX5_placeBehind_8 rfl ?_
  refine r_geto hV fl_X5_15 hT.1 rfl dX5_placeBehind_9 ?_
  refine r_alen hV 1 (v := (Int32.ofNat n)) hT.2.1.1 (hT.2.1.2 _) rfl rfl dX5_placeBehind_12 ?_
  refine r_icmplt hV 24 dX5_placeBehind_13 rfl (fun c2 => ?_) (fun c2 => ?_)
  · have h := (if_pos c2).symm.trans h
    refine r_mask hV [true, false, true] ?_
    exact B24 v1 FM h
  · have h := (if_neg c2).symm.trans h
    refine r_iload_n hV dX5_placeBehind_16 rfl ?_
    refine r_aload_n hV dX5_placeBehind_17 rfl ?_
    refine r_geto hV fl_X5_15 hT.1 rfl dX5_placeBehind_18 ?_
    refine r_alen hV 1 (v := (Int32.ofNat n)) hT.2.1.1 (hT.2.1.2 _) rfl rfl dX5_placeBehind_21 ?_
    refine r_isub hV dX5_placeBehind_22 ?_
    refine r_bv h (fun v6 h => ?_)
    refine r_istore_n hV dX5_placeBehind_23 (Nat.le_of_ble_eq_true rfl) rfl ?_
    refine r_mask hV [true, false, true] ?_
    exact B24 v6 FM h
def X5_put_b50 (t n : Nat) (FM : FMem) : Opt :=
  bnd (f_X5_placeBehind t n (FM t 2) FM) fun r2 M3 =>
  if r2 = 0 then (
    some (0, M3)
  ) else (
    grd (mOK r2) <|
    bnd (f_X1_copyFrom (r2).toNatClampNeg 21 M3) fun r8 M9 =>
    bindm (fset M9 t 2 ((M9 t 2) + (1 : Int32))) fun M11 =>
    some (0, M11)
  )
def X5_put_b37 (t n : Nat) (s1 : Int32) (FM : FMem) : Opt :=
  bindm (fset FM t 1 s1) fun M13 =>
  bindm (fset M13 t 2 ((M13 t 2) - (1 : Int32))) fun M14 =>
  X5_put_b50 t n M14
def f_X5_put (t n : Nat) (FM : FMem) : Opt :=
  if (FM t 2) < (Int32.ofNat n) then (
    X5_put_b50 t n FM
  ) else (
    if (Int32.ofNat n) ≤ ((FM t 1) + (1 : Int32)) then (
      X5_put_b37 t n (0 : Int32) FM
    ) else (
      X5_put_b37 t n ((FM t 1) + (1 : Int32)) FM
    )
  )
set_option maxHeartbeats 4000000 in
set_option maxRecDepth 100000 in
theorem m_X5_put (l : Launch) (D : va_G) (cI cM : ClassId) (b : Nat) (t n : Nat) (hT : isSh D cI cM b t n) (FM : FMem) (r0 : Int32) (FR : FMem) (h : f_X5_put t n FM = some (r0, FR)) : Mt l (wdC D cI cM b) yX5_put cX5_put 3 none 3 81 [.ref (b + t), .ref (b + 21)] FM none FR := by
  refine Mt.of (by decide) (cat_cons rfl (cat_cons rfl cat_nil)) [some (.ref (b + t)), some (.ref (b + 21)), none] rfl (Nat.le_of_ble_eq_true rfl) (fun V hV => ?_)
  have B50 : ∀ (FM : FMem), X5_put_b50 t n FM = some (r0, FR) → V FM 50 [some (.ref (b + t)), some (.ref (b + 21)), none] [] := by
    intro   FM h
    unfold X5_put_b50 at h
    refine r_aload_n hV dX5_put_50 rfl ?_
    refine r_aload_n hV dX5_put_51 rfl ?_
    refine r_geto hV fl_X5_26 hT.1 rfl dX5_put_52 ?_
    obtain ⟨r2, M3, q4, h⟩ := bnd_some h
    refine r_cVi hV (m_X5_placeBehind l D cI cM b t n hT (FM t 2) FM _ _ q4) ml_X5_29 hT.1 rfl rfl (by decide) (Nat.le_of_ble_eq_true rfl) rfl dX5_put_55 ?_
    by_cases c5 : r2 = 0
    · have h := (if_pos c5).symm.trans h
      rw [nrv_0 c5]
      refine r_astore_nN hV dX5_put_58 (Nat.le_of_ble_eq_true rfl) rfl ?_
      refine r_aload_nN hV dX5_put_59 rfl ?_
      refine r_ifnullN hV 78 dX5_put_60 rfl ?_
      exact r_vret hV rfl dX5_put_78 rfl (ret_m h)
    · have h := (if_neg c5).symm.trans h
      obtain ⟨g6, h⟩ := grd_some h
      rw [nrv_n c5]
      have hQ7 := mOK_is (D := D) (cI := cI) (cM := cM) (b := b) g6
      refine r_astore_n hV dX5_put_58 (Nat.le_of_ble_eq_true rfl) rfl ?_
      refine r_aload_n hV dX5_put_59 rfl ?_
      refine r_ifnull hV dX5_put_60 ?_
      refine r_aload_n hV dX5_put_63 rfl ?_
      refine r_aload_n hV dX5_put_64 rfl ?_
      obtain ⟨r8, M9, q10, h⟩ := bnd_some h
      refine r_cVv hV (m_X1_copyFrom l D cI cM b (r2).toNatClampNeg 21 hQ7 isMo_21 M3 _ _ q10) ml_X5_33 hQ7.2.2.1 rfl rfl (by decide) (Nat.le_of_ble_eq_true rfl) rfl dX5_put_65 ?_
      refine r_aload_n hV dX5_put_68 rfl ?_
      refine r_dup hV dX5_put_69 rfl ?_
      refine r_geto hV fl_X5_26 hT.1 rfl dX5_put_70 ?_
      refine r_iconst (v := (1 : Int32)) hV dX5_put_73 rfl ?_
      refine r_iadd hV dX5_put_74 ?_
      refine r_puti hV fl_X5_26 hT.1 (fun _ _ => rfl) (Nat.le_of_ble_eq_true rfl) dX5_put_75 ?_
      refine r_bm h (fun M11 h => ?_)
      exact r_vret hV rfl dX5_put_78 rfl (ret_m h)
  have B37 : ∀ (s1 : Int32) (FM : FMem), X5_put_b37 t n s1 FM = some (r0, FR) → V FM 37 [some (.ref (b + t)), some (.ref (b + 21)), none] [.int s1, .ref (b + t)] := by
    intro  s1 FM h
    unfold X5_put_b37 at h
    refine r_puti hV fl_X5_22 hT.1 (fun _ _ => rfl) (Nat.le_of_ble_eq_true rfl) dX5_put_37 ?_
    refine r_bm h (fun M13 h => ?_)
    refine r_aload_n hV dX5_put_40 rfl ?_
    refine r_dup hV dX5_put_41 rfl ?_
    refine r_geto hV fl_X5_26 hT.1 rfl dX5_put_42 ?_
    refine r_iconst (v := (1 : Int32)) hV dX5_put_45 rfl ?_
    refine r_isub hV dX5_put_46 ?_
    refine r_puti hV fl_X5_26 hT.1 (fun _ _ => rfl) (Nat.le_of_ble_eq_true rfl) dX5_put_47 ?_
    refine r_bm h (fun M14 h => ?_)
    exact B50 M14 h
  unfold f_X5_put at h
  refine r_aload_n hV dX5_put_0 rfl ?_
  refine r_geto hV fl_X5_26 hT.1 rfl dX5_put_1 ?_
  refine r_aload_n hV dX5_put_4 rfl ?_
  refine r_geto hV fl_X5_15 hT.1 rfl dX5_put_5 ?_
  refine r_alen hV 1 (v := (Int32.ofNat n)) hT.2.1.1 (hT.2.1.2 _) rfl rfl dX5_put_8 ?_
  refine r_icmplt hV 50 dX5_put_9 rfl (fun c1 => ?_) (fun c1 => ?_)
  · have h := (if_pos c1).symm.trans h
    exact B50 FM h
  · have h := (if_neg c1).symm.trans h
    refine r_aload_n hV dX5_put_12 rfl ?_
    refine r_aload_n hV dX5_put_13 rfl ?_
    refine r_geto hV fl_X5_22 hT.1 rfl dX5_put_14 ?_
    refine r_iconst (v := (1 : Int32)) hV dX5_put_17 rfl ?_
    refine r_iadd hV dX5_put_18 ?_
    refine r_aload_n hV dX5_put_19 rfl ?_
    refine r_geto hV fl_X5_15 hT.1 rfl dX5_put_20 ?_
    refine r_alen hV 1 (v := (Int32.ofNat n)) hT.2.1.1 (hT.2.1.2 _) rfl rfl dX5_put_23 ?_
    refine r_icmpge hV 36 dX5_put_24 rfl (fun c12 => ?_) (fun c12 => ?_)
    · have h := (if_pos c12).symm.trans h
      refine r_iconst (v := (0 : Int32)) hV dX5_put_36 rfl ?_
      exact B37 (0 : Int32) FM h
    · have h := (if_neg c12).symm.trans h
      refine r_aload_n hV dX5_put_27 rfl ?_
      refine r_geto hV fl_X5_22 hT.1 rfl dX5_put_28 ?_
      refine r_iconst (v := (1 : Int32)) hV dX5_put_31 rfl ?_
      refine r_iadd hV dX5_put_32 ?_
      refine r_goto hV 37 dX5_put_33 rfl ?_
      exact B37 ((FM t 1) + (1 : Int32)) FM h
def f_X5_takeInto (t n : Nat) (FM : FMem) : Opt :=
  if (FM t 2) ≤ 0 then (
    some ((0 : Int32), FM)
  ) else (
    bnd (f_X5_placeBehind t n ((FM t 2) - (1 : Int32)) FM) fun r2 M3 =>
    if r2 = 0 then (
      some ((0 : Int32), M3)
    ) else (
      grd (mOK r2) <|
      bnd (f_X1_copyFrom 21 (r2).toNatClampNeg M3) fun r8 M9 =>
      bindm (fset M9 t 2 ((M9 t 2) - (1 : Int32))) fun M11 =>
      some ((1 : Int32), M11)
    )
  )
set_option maxHeartbeats 4000000 in
set_option maxRecDepth 100000 in
theorem m_X5_takeInto (l : Launch) (D : va_G) (cI cM : ClassId) (b : Nat) (t n : Nat) (hT : isSh D cI cM b t n) (FM : FMem) (r0 : Int32) (FR : FMem) (h : f_X5_takeInto t n FM = some (r0, FR)) : Mt l (wdC D cI cM b) yX5_takeInto cX5_takeInto 3 (some .boolean) 3 81 [.ref (b + t), .ref (b + 21)] FM (some (.int r0)) FR := by
  refine Mt.of (by decide) (cat_cons rfl (cat_cons rfl cat_nil)) [some (.ref (b + t)), some (.ref (b + 21)), none] rfl (Nat.le_of_ble_eq_true rfl) (fun V hV => ?_)
  unfold f_X5_takeInto at h
  refine r_aload_n hV dX5_takeInto_0 rfl ?_
  refine r_geto hV fl_X5_26 hT.1 rfl dX5_takeInto_1 ?_
  refine r_ifle hV 20 dX5_takeInto_4 rfl (fun c1 => ?_) (fun c1 => ?_)
  · have h := (if_pos c1).symm.trans h
    refine r_null hV dX5_takeInto_20 ?_
    refine r_astore_nN hV dX5_takeInto_21 (Nat.le_of_ble_eq_true rfl) rfl ?_
    refine r_aload_nN hV dX5_takeInto_22 rfl ?_
    refine r_ifnonnullN hV dX5_takeInto_23 ?_
    refine r_iconst (v := (0 : Int32)) hV dX5_takeInto_26 rfl ?_
    exact r_zret hV rfl (Or.inl rfl) dX5_takeInto_27 (ret_r h) (ret_m h)
  · have h := (if_neg c1).symm.trans h
    refine r_aload_n hV dX5_takeInto_7 rfl ?_
    refine r_aload_n hV dX5_takeInto_8 rfl ?_
    refine r_geto hV fl_X5_26 hT.1 rfl dX5_takeInto_9 ?_
    refine r_iconst (v := (1 : Int32)) hV dX5_takeInto_12 rfl ?_
    refine r_isub hV dX5_takeInto_13 ?_
    obtain ⟨r2, M3, q4, h⟩ := bnd_some h
    refine r_cVi hV (m_X5_placeBehind l D cI cM b t n hT ((FM t 2) - (1 : Int32)) FM _ _ q4) ml_X5_29 hT.1 rfl rfl (by decide) (Nat.le_of_ble_eq_true rfl) rfl dX5_takeInto_14 ?_
    by_cases c5 : r2 = 0
    · have h := (if_pos c5).symm.trans h
      rw [nrv_0 c5]
      refine r_goto hV 21 dX5_takeInto_17 rfl ?_
      refine r_astore_nN hV dX5_takeInto_21 (Nat.le_of_ble_eq_true rfl) rfl ?_
      refine r_aload_nN hV dX5_takeInto_22 rfl ?_
      refine r_ifnonnullN hV dX5_takeInto_23 ?_
      refine r_iconst (v := (0 : Int32)) hV dX5_takeInto_26 rfl ?_
      exact r_zret hV rfl (Or.inl rfl) dX5_takeInto_27 (ret_r h) (ret_m h)
    · have h := (if_neg c5).symm.trans h
      obtain ⟨g6, h⟩ := grd_some h
      rw [nrv_n c5]
      have hQ7 := mOK_is (D := D) (cI := cI) (cM := cM) (b := b) g6
      refine r_goto hV 21 dX5_takeInto_17 rfl ?_
      refine r_astore_n hV dX5_takeInto_21 (Nat.le_of_ble_eq_true rfl) rfl ?_
      refine r_aload_n hV dX5_takeInto_22 rfl ?_
      refine r_ifnonnull hV 28 dX5_takeInto_23 rfl ?_
      refine r_aload_n hV dX5_takeInto_28 rfl ?_
      refine r_aload_n hV dX5_takeInto_29 rfl ?_
      obtain ⟨r8, M9, q10, h⟩ := bnd_some h
      refine r_cVv hV (m_X1_copyFrom l D cI cM b 21 (r2).toNatClampNeg isMo_21 hQ7 M3 _ _ q10) ml_X5_33 ob_21 rfl rfl (by decide) (Nat.le_of_ble_eq_true rfl) rfl dX5_takeInto_30 ?_
      refine r_aload_n hV dX5_takeInto_33 rfl ?_
      refine r_dup hV dX5_takeInto_34 rfl ?_
      refine r_geto hV fl_X5_26 hT.1 rfl dX5_takeInto_35 ?_
      refine r_iconst (v := (1 : Int32)) hV dX5_takeInto_38 rfl ?_
      refine r_isub hV dX5_takeInto_39 ?_
      refine r_puti hV fl_X5_26 hT.1 (fun _ _ => rfl) (Nat.le_of_ble_eq_true rfl) dX5_takeInto_40 ?_
      refine r_bm h (fun M11 h => ?_)
      refine r_iconst (v := (1 : Int32)) hV dX5_takeInto_43 rfl ?_
      exact r_zret hV rfl (Or.inr rfl) dX5_takeInto_44 (ret_r h) (ret_m h)
