def f_J6_bitCount_0f7a4 (a0 : Int32) (FM : FMem) : Opt :=
  bindv (a0 - ((((a0).toUInt32 >>> (((1 : Int32)).toUInt32 &&& Int32.toUInt32 31)).toInt32) &&& (1431655765 : Int32))) fun v1 =>
  bindv ((v1 &&& (858993459 : Int32)) + ((((v1).toUInt32 >>> (((2 : Int32)).toUInt32 &&& Int32.toUInt32 31)).toInt32) &&& (858993459 : Int32))) fun v2 =>
  bindv ((v2 + (((v2).toUInt32 >>> (((4 : Int32)).toUInt32 &&& Int32.toUInt32 31)).toInt32)) &&& (252645135 : Int32)) fun v3 =>
  bindv (v3 + (((v3).toUInt32 >>> (((8 : Int32)).toUInt32 &&& Int32.toUInt32 31)).toInt32)) fun v4 =>
  bindv (v4 + (((v4).toUInt32 >>> (((16 : Int32)).toUInt32 &&& Int32.toUInt32 31)).toInt32)) fun v5 =>
  some ((v5 &&& (63 : Int32)), FM)
set_option maxHeartbeats 4000000 in
set_option maxRecDepth 100000 in
theorem m_J6_bitCount_0f7a4 (l : Launch) (D : va_G) (cI cM : ClassId) (b : Nat) (a0 : Int32) (FM : FMem) (r0 : Int32) (FR : FMem) (h : f_J6_bitCount_0f7a4 a0 FM = some (r0, FR)) : Mt l (wdC D cI cM b) yJ6_bitCount_0f7a4 cJ6_bitCount_0f7a4 1 (some .int) 0 0 [.int a0] FM (some (.int r0)) FR := by
  refine Mt.of (by decide) (cat_cons rfl cat_nil) [some (.int a0)] rfl (Nat.le_of_ble_eq_true rfl) (fun V hV => ?_)
  unfold f_J6_bitCount_0f7a4 at h
  refine r_iload_n hV dJ6_bitCount_0f7a4_0 rfl ?_
  refine r_iload_n hV dJ6_bitCount_0f7a4_1 rfl ?_
  refine r_iconst (v := (1 : Int32)) hV dJ6_bitCount_0f7a4_2 rfl ?_
  refine r_iushr hV dJ6_bitCount_0f7a4_3 ?_
  refine r_ldcw (v := 1431655765) hV (inT_of 539 (by decide +kernel) (by decide +kernel)) dJ6_bitCount_0f7a4_4 ?_
  refine r_iand hV dJ6_bitCount_0f7a4_7 ?_
  refine r_isub hV dJ6_bitCount_0f7a4_8 ?_
  refine r_bv h (fun v1 h => ?_)
  refine r_istore_n hV dJ6_bitCount_0f7a4_9 (Nat.le_of_ble_eq_true rfl) rfl ?_
  refine r_iload_n hV dJ6_bitCount_0f7a4_10 rfl ?_
  refine r_ldcw (v := 858993459) hV (inT_of 540 (by decide +kernel) (by decide +kernel)) dJ6_bitCount_0f7a4_11 ?_
  refine r_iand hV dJ6_bitCount_0f7a4_14 ?_
  refine r_iload_n hV dJ6_bitCount_0f7a4_15 rfl ?_
  refine r_iconst (v := (2 : Int32)) hV dJ6_bitCount_0f7a4_16 rfl ?_
  refine r_iushr hV dJ6_bitCount_0f7a4_17 ?_
  refine r_ldcw (v := 858993459) hV (inT_of 540 (by decide +kernel) (by decide +kernel)) dJ6_bitCount_0f7a4_18 ?_
  refine r_iand hV dJ6_bitCount_0f7a4_21 ?_
  refine r_iadd hV dJ6_bitCount_0f7a4_22 ?_
  refine r_bv h (fun v2 h => ?_)
  refine r_istore_n hV dJ6_bitCount_0f7a4_23 (Nat.le_of_ble_eq_true rfl) rfl ?_
  refine r_iload_n hV dJ6_bitCount_0f7a4_24 rfl ?_
  refine r_iload_n hV dJ6_bitCount_0f7a4_25 rfl ?_
  refine r_iconst (v := (4 : Int32)) hV dJ6_bitCount_0f7a4_26 rfl ?_
  refine r_iushr hV dJ6_bitCount_0f7a4_27 ?_
  refine r_iadd hV dJ6_bitCount_0f7a4_28 ?_
  refine r_ldcw (v := 252645135) hV (inT_of 541 (by decide +kernel) (by decide +kernel)) dJ6_bitCount_0f7a4_29 ?_
  refine r_iand hV dJ6_bitCount_0f7a4_32 ?_
  refine r_bv h (fun v3 h => ?_)
  refine r_istore_n hV dJ6_bitCount_0f7a4_33 (Nat.le_of_ble_eq_true rfl) rfl ?_
  refine r_iload_n hV dJ6_bitCount_0f7a4_34 rfl ?_
  refine r_iload_n hV dJ6_bitCount_0f7a4_35 rfl ?_
  refine r_bipush (v := (8 : Int32)) hV dJ6_bitCount_0f7a4_36 rfl ?_
  refine r_iushr hV dJ6_bitCount_0f7a4_38 ?_
  refine r_iadd hV dJ6_bitCount_0f7a4_39 ?_
  refine r_bv h (fun v4 h => ?_)
  refine r_istore_n hV dJ6_bitCount_0f7a4_40 (Nat.le_of_ble_eq_true rfl) rfl ?_
  refine r_iload_n hV dJ6_bitCount_0f7a4_41 rfl ?_
  refine r_iload_n hV dJ6_bitCount_0f7a4_42 rfl ?_
  refine r_bipush (v := (16 : Int32)) hV dJ6_bitCount_0f7a4_43 rfl ?_
  refine r_iushr hV dJ6_bitCount_0f7a4_45 ?_
  refine r_iadd hV dJ6_bitCount_0f7a4_46 ?_
  refine r_bv h (fun v5 h => ?_)
  refine r_istore_n hV dJ6_bitCount_0f7a4_47 (Nat.le_of_ble_eq_true rfl) rfl ?_
  refine r_iload_n hV dJ6_bitCount_0f7a4_48 rfl ?_
  refine r_bipush (v := (63 : Int32)) hV dJ6_bitCount_0f7a4_49 rfl ?_
  refine r_iand hV dJ6_bitCount_0f7a4_51 ?_
  exact r_iret hV rfl dJ6_bitCount_0f7a4_52 (ret_r h) (ret_m h)
def J7_fill_53178_b5s (u n : Nat) (k5 : Int32 → Int32 → Int32 → FMem → Opt) (x1 : Int32) (x2 : Int32) (x3 : Int32) (FM : FMem) : Opt :=
  if x3 ≤ x2 then (
    some (0, FM)
  ) else (
    grd (inb x2 n) <|
    bindm (fset FM u ((x2).toNatClampNeg) x1) fun M4 =>
    k5 x1 (x2 + (1 : Int32)) x3 M4
  )
def J7_fill_53178_b5 (u n : Nat) : Nat → Int32 → Int32 → Int32 → FMem → Opt
  | 0, _, _, _, _ => none
  | nf + 1, x1, x2, x3, FM => J7_fill_53178_b5s u n (J7_fill_53178_b5 u n nf) x1 x2 x3 FM
def f_J7_fill_53178 (u n : Nat) (a1 : Int32) (FM : FMem) : Opt :=
  bindv (Int32.ofNat n) fun v1 =>
  J7_fill_53178_b5 u n FU a1 (0 : Int32) v1 FM
set_option maxHeartbeats 4000000 in
set_option maxRecDepth 100000 in
theorem m_J7_fill_53178 (l : Launch) (D : va_G) (cI cM : ClassId) (b : Nat) (u n : Nat) (hU : isAr (wdC D cI cM b) cI u n) (a1 : Int32) (FM : FMem) (r0 : Int32) (FR : FMem) (h : f_J7_fill_53178 u n a1 FM = some (r0, FR)) : Mt l (wdC D cI cM b) yJ7_fill_53178 cJ7_fill_53178 4 none 0 0 [.ref (b + u), .int a1] FM none FR := by
  refine Mt.of (by decide) (cat_cons rfl (cat_cons rfl cat_nil)) [some (.ref (b + u)), some (.int a1), none, none] rfl (Nat.le_of_ble_eq_true rfl) (fun V hV => ?_)
  have B5 : ∀ (k5 : Int32 → Int32 → Int32 → FMem → Opt) (hk5 : ∀ (x1 : Int32) (x2 : Int32) (x3 : Int32) (FM : FMem), k5 x1 x2 x3 FM = some (r0, FR) → V FM 5 [some (.ref (b + u)), some (.int x1), some (.int x2), some (.int x3)] []) (x1 : Int32) (x2 : Int32) (x3 : Int32) (FM : FMem), J7_fill_53178_b5s u n k5 x1 x2 x3 FM = some (r0, FR) → V FM 5 [some (.ref (b + u)), some (.int x1), some (.int x2), some (.int x3)] [] := by
    intro k5 hk5 x1 x2 x3 FM h
    unfold J7_fill_53178_b5s at h
    refine r_iload_n hV dJ7_fill_53178_5 rfl ?_
    refine r_iload_n hV dJ7_fill_53178_6 rfl ?_
    refine r_icmpge hV 20 dJ7_fill_53178_7 rfl (fun c2 => ?_) (fun c2 => ?_)
    · have h := (if_pos c2).symm.trans h
      exact r_vret hV rfl dJ7_fill_53178_20 rfl (ret_m h)
    · have h := (if_neg c2).symm.trans h
      refine r_aload_n hV dJ7_fill_53178_10 rfl ?_
      refine r_iload_n hV dJ7_fill_53178_11 rfl ?_
      refine r_iload_n hV dJ7_fill_53178_12 rfl ?_
      obtain ⟨g3, h⟩ := grd_some h
      refine r_ast hV hU (inb_in g3) ((x2).toNatClampNeg) rfl dJ7_fill_53178_13 ?_
      refine r_bm h (fun M4 h => ?_)
      refine r_iinc (v := (1 : Int32)) hV dJ7_fill_53178_14 rfl rfl rfl ?_
      refine r_goto hV 5 dJ7_fill_53178_17 rfl ?_
      exact hk5 x1 (x2 + (1 : Int32)) x3 M4 h
  have L5 : ∀ (nf : Nat) (x1 : Int32) (x2 : Int32) (x3 : Int32) (FM : FMem), J7_fill_53178_b5 u n nf x1 x2 x3 FM = some (r0, FR) → V FM 5 [some (.ref (b + u)), some (.int x1), some (.int x2), some (.int x3)] [] := by
    intro  nf
    induction nf with
    | zero => intro x1 x2 x3 FM h; exact absurd (show (none : Opt) = some (r0, FR) from h) (fun h9 => by cases h9)
    | succ nf ih => intro x1 x2 x3 FM h; exact B5 (J7_fill_53178_b5 u n nf) ih x1 x2 x3 FM h
  unfold f_J7_fill_53178 at h
  refine r_iconst (v := (0 : Int32)) hV dJ7_fill_53178_0 rfl ?_
  refine r_istore_n hV dJ7_fill_53178_1 (Nat.le_of_ble_eq_true rfl) rfl ?_
  refine r_aload_n hV dJ7_fill_53178_2 rfl ?_
  refine r_len hV hU (v := (Int32.ofNat n)) rfl dJ7_fill_53178_3 ?_
  refine r_bv h (fun v1 h => ?_)
  refine r_istore_n hV dJ7_fill_53178_4 (Nat.le_of_ble_eq_true rfl) rfl ?_
  exact L5 FU a1 (0 : Int32) v1 FM h
