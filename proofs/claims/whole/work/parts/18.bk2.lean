def f_X8_write (a1 : Int32) (FM : FMem) : Opt :=
  if a1 < (32 : Int32) then (
    some ((-1 : Int32), FM)
  ) else (
    if a1 ≤ (126 : Int32) then (
      bnd (f_X4_append a1 FM) fun r3 M4 =>
      if r3 = 0 then (
        some ((-3 : Int32), M4)
      ) else (
        some ((M4 1 1), M4)
      )
    ) else (
      some ((-1 : Int32), FM)
    )
  )
set_option maxHeartbeats 4000000 in
set_option maxRecDepth 100000 in
theorem m_X8_write (l : Launch) (D : va_G) (cI cM : ClassId) (b : Nat) (a1 : Int32) (FM : FMem) (r0 : Int32) (FR : FMem) (h : f_X8_write a1 FM = some (r0, FR)) : Mt l (wdC D cI cM b) yX8_write cX8_write 2 (some .int) 1 21 [.ref (b + 0), .int a1] FM (some (.int r0)) FR := by
  refine Mt.of (by decide) (cat_cons rfl (cat_cons rfl cat_nil)) [some (.ref (b + 0)), some (.int a1)] rfl (Nat.le_of_ble_eq_true rfl) (fun V hV => ?_)
  unfold f_X8_write at h
  refine r_iload_n hV dX8_write_0 rfl ?_
  refine r_bipush (v := (32 : Int32)) hV dX8_write_1 rfl ?_
  refine r_icmplt hV 12 dX8_write_3 rfl (fun c1 => ?_) (fun c1 => ?_)
  · have h := (if_pos c1).symm.trans h
    refine r_iconst (v := (-1 : Int32)) hV dX8_write_12 rfl ?_
    exact r_iret hV rfl dX8_write_13 (ret_r h) (ret_m h)
  · have h := (if_neg c1).symm.trans h
    refine r_iload_n hV dX8_write_6 rfl ?_
    refine r_bipush (v := (126 : Int32)) hV dX8_write_7 rfl ?_
    refine r_icmple hV 14 dX8_write_9 rfl (fun c2 => ?_) (fun c2 => ?_)
    · have h := (if_pos c2).symm.trans h
      refine r_aload_n hV dX8_write_14 rfl ?_
      refine r_geto hV fl_X8_10 ob_0 rfl dX8_write_15 ?_
      refine r_iload_n hV dX8_write_18 rfl ?_
      obtain ⟨r3, M4, q5, h⟩ := bnd_some h
      refine r_cVi hV (m_X4_append l D cI cM b a1 FM _ _ q5) ml_X8_86 ob_1 rfl rfl (by decide) (Nat.le_of_ble_eq_true rfl) rfl dX8_write_19 ?_
      refine r_ifeq hV 35 dX8_write_22 rfl (fun c6 => ?_) (fun c6 => ?_)
      · have h := (if_pos c6).symm.trans h
        refine r_bipush (v := (-3 : Int32)) hV dX8_write_35 rfl ?_
        exact r_iret hV rfl dX8_write_37 (ret_r h) (ret_m h)
      · have h := (if_neg c6).symm.trans h
        refine r_aload_n hV dX8_write_25 rfl ?_
        refine r_geto hV fl_X8_10 ob_0 rfl dX8_write_26 ?_
        refine r_geto hV fl_X8_100 ob_1 rfl dX8_write_29 ?_
        refine r_goto hV 37 dX8_write_32 rfl ?_
        exact r_iret hV rfl dX8_write_37 (ret_r h) (ret_m h)
    · have h := (if_neg c2).symm.trans h
      refine r_iconst (v := (-1 : Int32)) hV dX8_write_12 rfl ?_
      exact r_iret hV rfl dX8_write_13 (ret_r h) (ret_m h)
def f_X8_wipe (FM : FMem) : Opt :=
  bindv (FM 1 1) fun v1 =>
  bnd (f_X4_clear FM) fun r2 M3 =>
  some (v1, M3)
set_option maxHeartbeats 4000000 in
set_option maxRecDepth 100000 in
theorem m_X8_wipe (l : Launch) (D : va_G) (cI cM : ClassId) (b : Nat) (FM : FMem) (r0 : Int32) (FR : FMem) (h : f_X8_wipe FM = some (r0, FR)) : Mt l (wdC D cI cM b) yX8_wipe cX8_wipe 2 (some .int) 1 20 [.ref (b + 0)] FM (some (.int r0)) FR := by
  refine Mt.of (by decide) (cat_cons rfl cat_nil) [some (.ref (b + 0)), none] rfl (Nat.le_of_ble_eq_true rfl) (fun V hV => ?_)
  unfold f_X8_wipe at h
  refine r_aload_n hV dX8_wipe_0 rfl ?_
  refine r_geto hV fl_X8_10 ob_0 rfl dX8_wipe_1 ?_
  refine r_geto hV fl_X8_100 ob_1 rfl dX8_wipe_4 ?_
  refine r_bv h (fun v1 h => ?_)
  refine r_istore_n hV dX8_wipe_7 (Nat.le_of_ble_eq_true rfl) rfl ?_
  refine r_aload_n hV dX8_wipe_8 rfl ?_
  refine r_geto hV fl_X8_10 ob_0 rfl dX8_wipe_9 ?_
  obtain ⟨r2, M3, q4, h⟩ := bnd_some h
  refine r_cVv hV (m_X4_clear l D cI cM b FM _ _ q4) ml_X8_97 ob_1 rfl rfl (by decide) (Nat.le_of_ble_eq_true rfl) rfl dX8_wipe_12 ?_
  refine r_iload_n hV dX8_wipe_15 rfl ?_
  exact r_iret hV rfl dX8_wipe_16 (ret_r h) (ret_m h)
def f_X8_fault (FM : FMem) : Opt :=
  bnd (f_X0_read 3 FM) fun r1 M2 =>
  some (r1, M2)
set_option maxHeartbeats 4000000 in
set_option maxRecDepth 100000 in
theorem m_X8_fault (l : Launch) (D : va_G) (cI cM : ClassId) (b : Nat) (FM : FMem) (r0 : Int32) (FR : FMem) (h : f_X8_fault FM = some (r0, FR)) : Mt l (wdC D cI cM b) yX8_fault cX8_fault 1 (some .int) 5 117 [.ref (b + 0)] FM (some (.int r0)) FR := by
  refine Mt.of (by decide) (cat_cons rfl cat_nil) [some (.ref (b + 0))] rfl (Nat.le_of_ble_eq_true rfl) (fun V hV => ?_)
  unfold f_X8_fault at h
  refine r_aload_n hV dX8_fault_0 rfl ?_
  refine r_geto hV fl_X8_19 ob_0 rfl dX8_fault_1 ?_
  refine r_aload_n hV dX8_fault_4 rfl ?_
  refine r_geto hV fl_X8_10 ob_0 rfl dX8_fault_5 ?_
  obtain ⟨r1, M2, q3, h⟩ := bnd_some h
  refine r_cVi hV (m_X0_read l D cI cM b 3 isCo_3 FM _ _ q3) ml_X8_90 ob_3 rfl rfl (by decide) (Nat.le_of_ble_eq_true rfl) rfl dX8_fault_8 ?_
  exact r_iret hV rfl dX8_fault_11 (ret_r h) (ret_m h)
def f_X8_lay (FM : FMem) : Opt :=
  bnd (f_X0_read 3 FM) fun r1 M2 =>
  if r1 = (-4 : Int32) then (
    if (M2 3 3) = 0 then (
      some ((-2 : Int32), M2)
    ) else (
      bnd (f_X0_read 12 M2) fun r6 M7 =>
      bnd (f_X1_begin 21 M7) fun r9 M10 =>
      bnd (f_X5_clear 27 8 M10) fun r12 M13 =>
      bnd (f_X5_clear 77 2 M13) fun r15 M16 =>
      bnd (f_X6_clear M16) fun r18 M19 =>
      some ((M19 12 3), M19)
    )
  ) else (
    some ((-2 : Int32), M2)
  )
set_option maxHeartbeats 4000000 in
set_option maxRecDepth 100000 in
theorem m_X8_lay (l : Launch) (D : va_G) (cI cM : ClassId) (b : Nat) (FM : FMem) (r0 : Int32) (FR : FMem) (h : f_X8_lay FM = some (r0, FR)) : Mt l (wdC D cI cM b) yX8_lay cX8_lay 1 (some .int) 5 117 [.ref (b + 0)] FM (some (.int r0)) FR := by
  refine Mt.of (by decide) (cat_cons rfl cat_nil) [some (.ref (b + 0))] rfl (Nat.le_of_ble_eq_true rfl) (fun V hV => ?_)
  unfold f_X8_lay at h
  refine r_aload_n hV dX8_lay_0 rfl ?_
  refine r_geto hV fl_X8_19 ob_0 rfl dX8_lay_1 ?_
  refine r_aload_n hV dX8_lay_4 rfl ?_
  refine r_geto hV fl_X8_10 ob_0 rfl dX8_lay_5 ?_
  obtain ⟨r1, M2, q3, h⟩ := bnd_some h
  refine r_cVi hV (m_X0_read l D cI cM b 3 isCo_3 FM _ _ q3) ml_X8_90 ob_3 rfl rfl (by decide) (Nat.le_of_ble_eq_true rfl) rfl dX8_lay_8 ?_
  refine r_bipush (v := (-4 : Int32)) hV dX8_lay_11 rfl ?_
  refine r_icmpne hV 26 dX8_lay_13 rfl (fun c4 => ?_) (fun c4 => ?_)
  · have h := (if_neg c4).symm.trans h
    refine r_bipush (v := (-2 : Int32)) hV dX8_lay_26 rfl ?_
    exact r_iret hV rfl dX8_lay_28 (ret_r h) (ret_m h)
  · have h := (if_pos c4).symm.trans h
    refine r_aload_n hV dX8_lay_16 rfl ?_
    refine r_geto hV fl_X8_19 ob_0 rfl dX8_lay_17 ?_
    refine r_geto hV fl_X8_103 ob_3 rfl dX8_lay_20 ?_
    refine r_ifne hV 29 dX8_lay_23 rfl (fun c5 => ?_) (fun c5 => ?_)
    · have h := (if_neg c5).symm.trans h
      refine r_aload_n hV dX8_lay_29 rfl ?_
      refine r_geto hV fl_X8_23 ob_0 rfl dX8_lay_30 ?_
      refine r_aload_n hV dX8_lay_33 rfl ?_
      refine r_geto hV fl_X8_10 ob_0 rfl dX8_lay_34 ?_
      obtain ⟨r6, M7, q8, h⟩ := bnd_some h
      refine r_cVi hV (m_X0_read l D cI cM b 12 isCo_12 M2 _ _ q8) ml_X8_90 ob_12 rfl rfl (by decide) (Nat.le_of_ble_eq_true rfl) rfl dX8_lay_37 ?_
      refine r_pop hV dX8_lay_40 rfl ?_
      refine r_aload_n hV dX8_lay_41 rfl ?_
      refine r_geto hV fl_X8_29 ob_0 rfl dX8_lay_42 ?_
      refine r_aload_n hV dX8_lay_45 rfl ?_
      refine r_geto hV fl_X8_23 ob_0 rfl dX8_lay_46 ?_
      obtain ⟨r9, M10, q11, h⟩ := bnd_some h
      refine r_cVv hV (m_X1_begin l D cI cM b 21 isMo_21 M7 _ _ q11) ml_X8_94 ob_21 rfl rfl (by decide) (Nat.le_of_ble_eq_true rfl) rfl dX8_lay_49 ?_
      refine r_aload_n hV dX8_lay_52 rfl ?_
      refine r_geto hV fl_X8_38 ob_0 rfl dX8_lay_53 ?_
      obtain ⟨r12, M13, q14, h⟩ := bnd_some h
      refine r_cVv hV (m_X5_clear l D cI cM b 27 8 isSh_27 M10 _ _ q14) ml_X8_106 ob_27 rfl rfl (by decide) (Nat.le_of_ble_eq_true rfl) rfl dX8_lay_56 ?_
      refine r_aload_n hV dX8_lay_59 rfl ?_
      refine r_geto hV fl_X8_42 ob_0 rfl dX8_lay_60 ?_
      obtain ⟨r15, M16, q17, h⟩ := bnd_some h
      refine r_cVv hV (m_X5_clear l D cI cM b 77 2 isSh_77 M13 _ _ q17) ml_X8_106 ob_77 rfl rfl (by decide) (Nat.le_of_ble_eq_true rfl) rfl dX8_lay_63 ?_
      refine r_aload_n hV dX8_lay_66 rfl ?_
      refine r_geto hV fl_X8_48 ob_0 rfl dX8_lay_67 ?_
      obtain ⟨r18, M19, q20, h⟩ := bnd_some h
      refine r_cVv hV (m_X6_clear l D cI cM b M16 _ _ q20) ml_X8_107 ob_91 rfl rfl (by decide) (Nat.le_of_ble_eq_true rfl) rfl dX8_lay_70 ?_
      refine r_aload_n hV dX8_lay_73 rfl ?_
      refine r_geto hV fl_X8_23 ob_0 rfl dX8_lay_74 ?_
      refine r_geto hV fl_X8_103 ob_12 rfl dX8_lay_77 ?_
      exact r_iret hV rfl dX8_lay_80 (ret_r h) (ret_m h)
    · have h := (if_pos c5).symm.trans h
      refine r_bipush (v := (-2 : Int32)) hV dX8_lay_26 rfl ?_
      exact r_iret hV rfl dX8_lay_28 (ret_r h) (ret_m h)
def f_X8_person (a1 a2 : Int32) (FM : FMem) : Opt :=
  bnd (f_X8_isPerson a1 FM) fun r1 M2 =>
  if r1 = 0 then (
    some ((-1 : Int32), M2)
  ) else (
    if a2 = (0 : Int32) then (
      grd (inb a1 6) <|
      some ((M2 13 ((a1).toNatClampNeg)), M2)
    ) else
    if a2 = (1 : Int32) then (
      grd (inb a1 6) <|
      some ((M2 14 ((a1).toNatClampNeg)), M2)
    ) else
    if a2 = (2 : Int32) then (
      grd (inb a1 6) <|
      some ((M2 15 ((a1).toNatClampNeg)), M2)
    ) else
    if a2 = (3 : Int32) then (
      bnd (f_X8_placeOf a1 M2) fun r12 M13 =>
      some (r12, M13)
    ) else
    if a2 = (4 : Int32) then (
      grd (inb a1 6) <|
      some ((M2 22 ((a1).toNatClampNeg)), M2)
    ) else
    some ((-1 : Int32), M2)
  )
set_option maxHeartbeats 4000000 in
set_option maxRecDepth 100000 in
theorem m_X8_person (l : Launch) (D : va_G) (cI cM : ClassId) (b : Nat) (a1 a2 : Int32) (FM : FMem) (r0 : Int32) (FR : FMem) (h : f_X8_person a1 a2 FM = some (r0, FR)) : Mt l (wdC D cI cM b) yX8_person cX8_person 3 (some .int) 1 22 [.ref (b + 0), .int a1, .int a2] FM (some (.int r0)) FR := by
  refine Mt.of (by decide) (cat_cons rfl (cat_cons rfl (cat_cons rfl cat_nil))) [some (.ref (b + 0)), some (.int a1), some (.int a2)] rfl (Nat.le_of_ble_eq_true rfl) (fun V hV => ?_)
  unfold f_X8_person at h
  refine r_aload_n hV dX8_person_0 rfl ?_
  refine r_iload_n hV dX8_person_1 rfl ?_
  obtain ⟨r1, M2, q3, h⟩ := bnd_some h
  refine r_cVi hV (m_X8_isPerson l D cI cM b a1 FM _ _ q3) ml_X8_108 ob_0 rfl rfl (by decide) (Nat.le_of_ble_eq_true rfl) rfl dX8_person_2 ?_
  refine r_ifne hV 10 dX8_person_5 rfl (fun c4 => ?_) (fun c4 => ?_)
  · have h := (if_neg c4).symm.trans h
    refine r_iload_n hV dX8_person_10 rfl ?_
    by_cases e5 : a2 = (0 : Int32)
    · have h := (if_pos e5).symm.trans h
      refine r_tabIn hV 44 dX8_person_11 (by rw [e5]; decide) (by rw [e5]; decide) (by first | (rw [e5]; done) | (rw [e5]; rfl)) rfl ?_
      refine r_aload_n hV dX8_person_44 rfl ?_
      refine r_geto hV fl_X8_23 ob_0 rfl dX8_person_45 ?_
      refine r_geto hV fl_X8_111 ob_12 rfl dX8_person_48 ?_
      refine r_iload_n hV dX8_person_51 rfl ?_
      obtain ⟨g6, h⟩ := grd_some h
      refine r_ald hV ar_13 (inb_in g6) ((a1).toNatClampNeg) rfl dX8_person_52 ?_
      exact r_iret hV rfl dX8_person_53 (ret_r h) (ret_m h)
    have h := (if_neg e5).symm.trans h
    by_cases e7 : a2 = (1 : Int32)
    · have h := (if_pos e7).symm.trans h
      refine r_tabIn hV 54 dX8_person_11 (by rw [e7]; decide) (by rw [e7]; decide) (by first | (rw [e7]; done) | (rw [e7]; rfl)) rfl ?_
      refine r_aload_n hV dX8_person_54 rfl ?_
      refine r_geto hV fl_X8_23 ob_0 rfl dX8_person_55 ?_
      refine r_geto hV fl_X8_114 ob_12 rfl dX8_person_58 ?_
      refine r_iload_n hV dX8_person_61 rfl ?_
      obtain ⟨g8, h⟩ := grd_some h
      refine r_ald hV ar_14 (inb_in g8) ((a1).toNatClampNeg) rfl dX8_person_62 ?_
      exact r_iret hV rfl dX8_person_63 (ret_r h) (ret_m h)
    have h := (if_neg e7).symm.trans h
    by_cases e9 : a2 = (2 : Int32)
    · have h := (if_pos e9).symm.trans h
      refine r_tabIn hV 64 dX8_person_11 (by rw [e9]; decide) (by rw [e9]; decide) (by first | (rw [e9]; done) | (rw [e9]; rfl)) rfl ?_
      refine r_aload_n hV dX8_person_64 rfl ?_
      refine r_geto hV fl_X8_23 ob_0 rfl dX8_person_65 ?_
      refine r_geto hV fl_X8_117 ob_12 rfl dX8_person_68 ?_
      refine r_iload_n hV dX8_person_71 rfl ?_
      obtain ⟨g10, h⟩ := grd_some h
      refine r_ald hV ar_15 (inb_in g10) ((a1).toNatClampNeg) rfl dX8_person_72 ?_
      exact r_iret hV rfl dX8_person_73 (ret_r h) (ret_m h)
    have h := (if_neg e9).symm.trans h
    by_cases e11 : a2 = (3 : Int32)
    · have h := (if_pos e11).symm.trans h
      refine r_tabIn hV 74 dX8_person_11 (by rw [e11]; decide) (by rw [e11]; decide) (by first | (rw [e11]; done) | (rw [e11]; rfl)) rfl ?_
      refine r_aload_n hV dX8_person_74 rfl ?_
      refine r_iload_n hV dX8_person_75 rfl ?_
      obtain ⟨r12, M13, q14, h⟩ := bnd_some h
      refine r_cVi hV (m_X8_placeOf l D cI cM b a1 M2 _ _ q14) ml_X8_120 ob_0 rfl rfl (by decide) (Nat.le_of_ble_eq_true rfl) rfl dX8_person_76 ?_
      exact r_iret hV rfl dX8_person_79 (ret_r h) (ret_m h)
    have h := (if_neg e11).symm.trans h
    by_cases e15 : a2 = (4 : Int32)
    · have h := (if_pos e15).symm.trans h
      refine r_tabIn hV 80 dX8_person_11 (by rw [e15]; decide) (by rw [e15]; decide) (by first | (rw [e15]; done) | (rw [e15]; rfl)) rfl ?_
      refine r_aload_n hV dX8_person_80 rfl ?_
      refine r_geto hV fl_X8_29 ob_0 rfl dX8_person_81 ?_
      refine r_geto hV fl_X8_124 ob_21 rfl dX8_person_84 ?_
      refine r_iload_n hV dX8_person_87 rfl ?_
      obtain ⟨g16, h⟩ := grd_some h
      refine r_ald hV ar_22 (inb_in g16) ((a1).toNatClampNeg) rfl dX8_person_88 ?_
      exact r_iret hV rfl dX8_person_89 (ret_r h) (ret_m h)
    have h := (if_neg e15).symm.trans h
    have e5t := lv_neT (a := 0) e5 rfl
    have e7t := lv_neT (a := 1) e7 rfl
    have e9t := lv_neT (a := 2) e9 rfl
    have e11t := lv_neT (a := 3) e11 rfl
    have e15t := lv_neT (a := 4) e15 rfl
    refine r_tabOut hV 90 dX8_person_11 (by omega) rfl ?_
    refine r_iconst (v := (-1 : Int32)) hV dX8_person_90 rfl ?_
    exact r_iret hV rfl dX8_person_91 (ret_r h) (ret_m h)
  · have h := (if_pos c4).symm.trans h
    refine r_iconst (v := (-1 : Int32)) hV dX8_person_8 rfl ?_
    exact r_iret hV rfl dX8_person_9 (ret_r h) (ret_m h)
def f_X8_thing (a1 a2 : Int32) (FM : FMem) : Opt :=
  bnd (f_X8_isThing a1 FM) fun r1 M2 =>
  if r1 = 0 then (
    some ((-1 : Int32), M2)
  ) else (
    if a2 = (0 : Int32) then (
      grd (inb a1 9) <|
      some ((M2 24 ((a1).toNatClampNeg)), M2)
    ) else
    if a2 = (1 : Int32) then (
      grd (inb a1 9) <|
      some ((M2 25 ((a1).toNatClampNeg)), M2)
    ) else
    if a2 = (2 : Int32) then (
      grd (inb a1 9) <|
      some ((M2 26 ((a1).toNatClampNeg)), M2)
    ) else
    if a2 = (3 : Int32) then (
      bnd (f_X1_isHidden 21 a1 M2) fun r12 M13 =>
      if r12 = 0 then (
        some ((0 : Int32), M13)
      ) else (
        some ((1 : Int32), M13)
      )
    ) else
    some ((-1 : Int32), M2)
  )
set_option maxHeartbeats 4000000 in
set_option maxRecDepth 100000 in
theorem m_X8_thing (l : Launch) (D : va_G) (cI cM : ClassId) (b : Nat) (a1 a2 : Int32) (FM : FMem) (r0 : Int32) (FR : FMem) (h : f_X8_thing a1 a2 FM = some (r0, FR)) : Mt l (wdC D cI cM b) yX8_thing cX8_thing 3 (some .int) 1 21 [.ref (b + 0), .int a1, .int a2] FM (some (.int r0)) FR := by
  refine Mt.of (by decide) (cat_cons rfl (cat_cons rfl (cat_cons rfl cat_nil))) [some (.ref (b + 0)), some (.int a1), some (.int a2)] rfl (Nat.le_of_ble_eq_true rfl) (fun V hV => ?_)
  unfold f_X8_thing at h
  refine r_aload_n hV dX8_thing_0 rfl ?_
  refine r_iload_n hV dX8_thing_1 rfl ?_
  obtain ⟨r1, M2, q3, h⟩ := bnd_some h
  refine r_cVi hV (m_X8_isThing l D cI cM b a1 FM _ _ q3) ml_X8_127 ob_0 rfl rfl (by decide) (Nat.le_of_ble_eq_true rfl) rfl dX8_thing_2 ?_
  refine r_ifne hV 10 dX8_thing_5 rfl (fun c4 => ?_) (fun c4 => ?_)
  · have h := (if_neg c4).symm.trans h
    refine r_iload_n hV dX8_thing_10 rfl ?_
    by_cases e5 : a2 = (0 : Int32)
    · have h := (if_pos e5).symm.trans h
      refine r_tabIn hV 40 dX8_thing_11 (by rw [e5]; decide) (by rw [e5]; decide) (by first | (rw [e5]; done) | (rw [e5]; rfl)) rfl ?_
      refine r_aload_n hV dX8_thing_40 rfl ?_
      refine r_geto hV fl_X8_29 ob_0 rfl dX8_thing_41 ?_
      refine r_geto hV fl_X8_130 ob_21 rfl dX8_thing_44 ?_
      refine r_geto hV fl_X8_134 ob_23 rfl dX8_thing_47 ?_
      refine r_iload_n hV dX8_thing_50 rfl ?_
      obtain ⟨g6, h⟩ := grd_some h
      refine r_ald hV ar_24 (inb_in g6) ((a1).toNatClampNeg) rfl dX8_thing_51 ?_
      exact r_iret hV rfl dX8_thing_52 (ret_r h) (ret_m h)
    have h := (if_neg e5).symm.trans h
    by_cases e7 : a2 = (1 : Int32)
    · have h := (if_pos e7).symm.trans h
      refine r_tabIn hV 53 dX8_thing_11 (by rw [e7]; decide) (by rw [e7]; decide) (by first | (rw [e7]; done) | (rw [e7]; rfl)) rfl ?_
      refine r_aload_n hV dX8_thing_53 rfl ?_
      refine r_geto hV fl_X8_29 ob_0 rfl dX8_thing_54 ?_
      refine r_geto hV fl_X8_130 ob_21 rfl dX8_thing_57 ?_
      refine r_geto hV fl_X8_139 ob_23 rfl dX8_thing_60 ?_
      refine r_iload_n hV dX8_thing_63 rfl ?_
      obtain ⟨g8, h⟩ := grd_some h
      refine r_ald hV ar_25 (inb_in g8) ((a1).toNatClampNeg) rfl dX8_thing_64 ?_
      exact r_iret hV rfl dX8_thing_65 (ret_r h) (ret_m h)
    have h := (if_neg e7).symm.trans h
    by_cases e9 : a2 = (2 : Int32)
    · have h := (if_pos e9).symm.trans h
      refine r_tabIn hV 66 dX8_thing_11 (by rw [e9]; decide) (by rw [e9]; decide) (by first | (rw [e9]; done) | (rw [e9]; rfl)) rfl ?_
      refine r_aload_n hV dX8_thing_66 rfl ?_
      refine r_geto hV fl_X8_29 ob_0 rfl dX8_thing_67 ?_
      refine r_geto hV fl_X8_130 ob_21 rfl dX8_thing_70 ?_
      refine r_geto hV fl_X8_142 ob_23 rfl dX8_thing_73 ?_
      refine r_iload_n hV dX8_thing_76 rfl ?_
      obtain ⟨g10, h⟩ := grd_some h
      refine r_ald hV ar_26 (inb_in g10) ((a1).toNatClampNeg) rfl dX8_thing_77 ?_
      exact r_iret hV rfl dX8_thing_78 (ret_r h) (ret_m h)
    have h := (if_neg e9).symm.trans h
    by_cases e11 : a2 = (3 : Int32)
    · have h := (if_pos e11).symm.trans h
      refine r_tabIn hV 79 dX8_thing_11 (by rw [e11]; decide) (by rw [e11]; decide) (by first | (rw [e11]; done) | (rw [e11]; rfl)) rfl ?_
      refine r_aload_n hV dX8_thing_79 rfl ?_
      refine r_geto hV fl_X8_29 ob_0 rfl dX8_thing_80 ?_
      refine r_iload_n hV dX8_thing_83 rfl ?_
      obtain ⟨r12, M13, q14, h⟩ := bnd_some h
      refine r_cVi hV (m_X1_isHidden l D cI cM b 21 isMo_21 a1 M2 _ _ q14) ml_X8_145 ob_21 rfl rfl (by decide) (Nat.le_of_ble_eq_true rfl) rfl dX8_thing_84 ?_
      refine r_ifeq hV 94 dX8_thing_87 rfl (fun c15 => ?_) (fun c15 => ?_)
      · have h := (if_pos c15).symm.trans h
        refine r_iconst (v := (0 : Int32)) hV dX8_thing_94 rfl ?_
        exact r_iret hV rfl dX8_thing_95 (ret_r h) (ret_m h)
      · have h := (if_neg c15).symm.trans h
        refine r_iconst (v := (1 : Int32)) hV dX8_thing_90 rfl ?_
        refine r_goto hV 95 dX8_thing_91 rfl ?_
        exact r_iret hV rfl dX8_thing_95 (ret_r h) (ret_m h)
    have h := (if_neg e11).symm.trans h
    have e5t := lv_neT (a := 0) e5 rfl
    have e7t := lv_neT (a := 1) e7 rfl
    have e9t := lv_neT (a := 2) e9 rfl
    have e11t := lv_neT (a := 3) e11 rfl
    refine r_tabOut hV 96 dX8_thing_11 (by omega) rfl ?_
    refine r_iconst (v := (-1 : Int32)) hV dX8_thing_96 rfl ?_
    exact r_iret hV rfl dX8_thing_97 (ret_r h) (ret_m h)
  · have h := (if_pos c4).symm.trans h
    refine r_iconst (v := (-1 : Int32)) hV dX8_thing_8 rfl ?_
    exact r_iret hV rfl dX8_thing_9 (ret_r h) (ret_m h)
def X8_pass_b95 (k62 : Int32 → Int32 → Int32 → FMem → Opt) (x1 : Int32) (x2 : Int32) (x3 : Int32) (FM : FMem) : Opt :=
  k62 x1 x2 (x3 + (1 : Int32)) FM
def X8_pass_b62s (k62 : Int32 → Int32 → Int32 → FMem → Opt) (x1 : Int32) (x2 : Int32) (x3 : Int32) (FM : FMem) : Opt :=
  if x1 ≤ x3 then (
    bindm (fset FM 21 0 ((FM 21 0) + x1)) fun M14 =>
    bnd (f_X3_reigning M14) fun r15 M16 =>
    bindm (fset M16 21 1 r15) fun M18 =>
    bindm (fset M18 21 2 (M18 98 4)) fun M19 =>
    some (x2, M19)
  ) else (
    bnd (f_X3_reigning FM) fun r20 M21 =>
    bnd (f_X1_addReigned 21 r20 M21) fun r23 M24 =>
    bnd (f_X3_live x3 M24) fun r26 M27 =>
    if r26 = 0 then (
      X8_pass_b95 k62 x1 x2 x3 M27
    ) else (
      X8_pass_b95 k62 x1 (x2 + (1 : Int32)) x3 M27
    )
  )
def X8_pass_b62 : Nat → Int32 → Int32 → Int32 → FMem → Opt
  | 0, _, _, _, _ => none
  | nf + 1, x1, x2, x3, FM => X8_pass_b62s (X8_pass_b62 nf) x1 x2 x3 FM
def f_X8_pass (a1 : Int32) (FM : FMem) : Opt :=
  if a1 < (1 : Int32) then (
    some ((-1 : Int32), FM)
  ) else (
    if a1 ≤ (20 : Int32) then (
      if ((FM 21 0) + a1) ≤ (999 : Int32) then (
        bnd (f_X5_put 27 8 FM) fun r4 M5 =>
        bnd (f_X8_lookAhead a1 M5) fun r7 M8 =>
        bnd (f_X3_start M8) fun r10 M11 =>
        X8_pass_b62 FU a1 (0 : Int32) (0 : Int32) M11
      ) else (
        some ((-2 : Int32), FM)
      )
    ) else (
      some ((-1 : Int32), FM)
    )
  )
set_option maxHeartbeats 4000000 in
set_option maxRecDepth 100000 in
theorem m_X8_pass (l : Launch) (D : va_G) (cI cM : ClassId) (b : Nat) (a1 : Int32) (FM : FMem) (r0 : Int32) (FR : FMem) (h : f_X8_pass a1 FM = some (r0, FR)) : Mt l (wdC D cI cM b) yX8_pass cX8_pass 4 (some .int) 6 143 [.ref (b + 0), .int a1] FM (some (.int r0)) FR := by
  refine Mt.of (by decide) (cat_cons rfl (cat_cons rfl cat_nil)) [some (.ref (b + 0)), some (.int a1), none, none] rfl (Nat.le_of_ble_eq_true rfl) (fun V hV => ?_)
  have B95 : ∀ (k62 : Int32 → Int32 → Int32 → FMem → Opt) (hk62 : ∀ (x1 : Int32) (x2 : Int32) (x3 : Int32) (FM : FMem), k62 x1 x2 x3 FM = some (r0, FR) → V FM 62 [some (.ref (b + 0)), some (.int x1), some (.int x2), some (.int x3)] []) (x1 : Int32) (x2 : Int32) (x3 : Int32) (FM : FMem), X8_pass_b95 k62 x1 x2 x3 FM = some (r0, FR) → V FM 95 [some (.ref (b + 0)), some (.int x1), some (.int x2), some (.int x3)] [] := by
    intro k62 hk62 x1 x2 x3 FM h
    unfold X8_pass_b95 at h
    refine r_iinc (v := (1 : Int32)) hV dX8_pass_95 rfl rfl rfl ?_
    refine r_goto hV 62 dX8_pass_98 rfl ?_
    exact hk62 x1 x2 (x3 + (1 : Int32)) FM h
  have B62 : ∀ (k62 : Int32 → Int32 → Int32 → FMem → Opt) (hk62 : ∀ (x1 : Int32) (x2 : Int32) (x3 : Int32) (FM : FMem), k62 x1 x2 x3 FM = some (r0, FR) → V FM 62 [some (.ref (b + 0)), some (.int x1), some (.int x2), some (.int x3)] []) (x1 : Int32) (x2 : Int32) (x3 : Int32) (FM : FMem), X8_pass_b62s k62 x1 x2 x3 FM = some (r0, FR) → V FM 62 [some (.ref (b + 0)), some (.int x1), some (.int x2), some (.int x3)] [] := by
    intro k62 hk62 x1 x2 x3 FM h
    unfold X8_pass_b62s at h
    refine r_iload_n hV dX8_pass_62 rfl ?_
    refine r_iload_n hV dX8_pass_63 rfl ?_
    refine r_icmpge hV 101 dX8_pass_64 rfl (fun c13 => ?_) (fun c13 => ?_)
    · have h := (if_pos c13).symm.trans h
      refine r_aload_n hV dX8_pass_101 rfl ?_
      refine r_geto hV fl_X8_29 ob_0 rfl dX8_pass_102 ?_
      refine r_dup hV dX8_pass_105 rfl ?_
      refine r_geto hV fl_X8_148 ob_21 rfl dX8_pass_106 ?_
      refine r_iload_n hV dX8_pass_109 rfl ?_
      refine r_iadd hV dX8_pass_110 ?_
      refine r_puti hV fl_X8_148 ob_21 (fun _ _ => rfl) (Nat.le_of_ble_eq_true rfl) dX8_pass_111 ?_
      refine r_bm h (fun M14 h => ?_)
      refine r_aload_n hV dX8_pass_114 rfl ?_
      refine r_geto hV fl_X8_29 ob_0 rfl dX8_pass_115 ?_
      refine r_aload_n hV dX8_pass_118 rfl ?_
      refine r_geto hV fl_X8_66 ob_0 rfl dX8_pass_119 ?_
      obtain ⟨r15, M16, q17, h⟩ := bnd_some h
      refine r_cVi hV (m_X3_reigning l D cI cM b M14 _ _ q17) ml_X8_160 ob_98 rfl rfl (by decide) (Nat.le_of_ble_eq_true rfl) rfl dX8_pass_122 ?_
      refine r_puti hV fl_X8_169 ob_21 (fun _ _ => rfl) (Nat.le_of_ble_eq_true rfl) dX8_pass_125 ?_
      refine r_bm h (fun M18 h => ?_)
      refine r_aload_n hV dX8_pass_128 rfl ?_
      refine r_geto hV fl_X8_29 ob_0 rfl dX8_pass_129 ?_
      refine r_aload_n hV dX8_pass_132 rfl ?_
      refine r_geto hV fl_X8_66 ob_0 rfl dX8_pass_133 ?_
      refine r_geto hV fl_X8_172 ob_98 rfl dX8_pass_136 ?_
      refine r_puti hV fl_X8_175 ob_21 (fun _ _ => rfl) (Nat.le_of_ble_eq_true rfl) dX8_pass_139 ?_
      refine r_bm h (fun M19 h => ?_)
      refine r_iload_n hV dX8_pass_142 rfl ?_
      exact r_iret hV rfl dX8_pass_143 (ret_r h) (ret_m h)
    · have h := (if_neg c13).symm.trans h
      refine r_aload_n hV dX8_pass_67 rfl ?_
      refine r_geto hV fl_X8_29 ob_0 rfl dX8_pass_68 ?_
      refine r_aload_n hV dX8_pass_71 rfl ?_
      refine r_geto hV fl_X8_66 ob_0 rfl dX8_pass_72 ?_
      obtain ⟨r20, M21, q22, h⟩ := bnd_some h
      refine r_cVi hV (m_X3_reigning l D cI cM b FM _ _ q22) ml_X8_160 ob_98 rfl rfl (by decide) (Nat.le_of_ble_eq_true rfl) rfl dX8_pass_75 ?_
      obtain ⟨r23, M24, q25, h⟩ := bnd_some h
      refine r_cVv hV (m_X1_addReigned l D cI cM b 21 isMo_21 r20 M21 _ _ q25) ml_X8_163 ob_21 rfl rfl (by decide) (Nat.le_of_ble_eq_true rfl) rfl dX8_pass_78 ?_
      refine r_aload_n hV dX8_pass_81 rfl ?_
      refine r_geto hV fl_X8_66 ob_0 rfl dX8_pass_82 ?_
      refine r_iload_n hV dX8_pass_85 rfl ?_
      obtain ⟨r26, M27, q28, h⟩ := bnd_some h
      refine r_cVi hV (m_X3_live l D cI cM b x3 M24 _ _ q28) ml_X8_166 ob_98 rfl rfl (by decide) (Nat.le_of_ble_eq_true rfl) rfl dX8_pass_86 ?_
      refine r_ifeq hV 95 dX8_pass_89 rfl (fun c29 => ?_) (fun c29 => ?_)
      · have h := (if_pos c29).symm.trans h
        exact B95 k62 hk62 x1 x2 x3 M27 h
      · have h := (if_neg c29).symm.trans h
        refine r_iinc (v := (1 : Int32)) hV dX8_pass_92 rfl rfl rfl ?_
        exact B95 k62 hk62 x1 (x2 + (1 : Int32)) x3 M27 h
  have L62 : ∀ (nf : Nat) (x1 : Int32) (x2 : Int32) (x3 : Int32) (FM : FMem), X8_pass_b62 nf x1 x2 x3 FM = some (r0, FR) → V FM 62 [some (.ref (b + 0)), some (.int x1), some (.int x2), some (.int x3)] [] := by
    intro  nf
    induction nf with
    | zero => intro x1 x2 x3 FM h; exact absurd (show (none : Opt) = some (r0, FR) from h) (fun h9 => by cases h9)
    | succ nf ih => intro x1 x2 x3 FM h; exact B62 (X8_pass_b62 nf) ih x1 x2 x3 FM h
  unfold f_X8_pass at h
  refine r_iload_n hV dX8_pass_0 rfl ?_
  refine r_iconst (v := (1 : Int32)) hV dX8_pass_1 rfl ?_
  refine r_icmplt hV 11 dX8_pass_2 rfl (fun c1 => ?_) (fun c1 => ?_)
  · have h := (if_pos c1).symm.trans h
    refine r_iconst (v := (-1 : Int32)) hV dX8_pass_11 rfl ?_
    exact r_iret hV rfl dX8_pass_12 (ret_r h) (ret_m h)
  · have h := (if_neg c1).symm.trans h
    refine r_iload_n hV dX8_pass_5 rfl ?_
    refine r_bipush (v := (20 : Int32)) hV dX8_pass_6 rfl ?_
    refine r_icmple hV 13 dX8_pass_8 rfl (fun c2 => ?_) (fun c2 => ?_)
    · have h := (if_pos c2).symm.trans h
      refine r_aload_n hV dX8_pass_13 rfl ?_
      refine r_geto hV fl_X8_29 ob_0 rfl dX8_pass_14 ?_
      refine r_geto hV fl_X8_148 ob_21 rfl dX8_pass_17 ?_
      refine r_iload_n hV dX8_pass_20 rfl ?_
      refine r_iadd hV dX8_pass_21 ?_
      refine r_sipush (v := (999 : Int32)) hV dX8_pass_22 rfl ?_
      refine r_icmple hV 31 dX8_pass_25 rfl (fun c3 => ?_) (fun c3 => ?_)
      · have h := (if_pos c3).symm.trans h
        refine r_aload_n hV dX8_pass_31 rfl ?_
        refine r_geto hV fl_X8_38 ob_0 rfl dX8_pass_32 ?_
        refine r_aload_n hV dX8_pass_35 rfl ?_
        refine r_geto hV fl_X8_29 ob_0 rfl dX8_pass_36 ?_
        obtain ⟨r4, M5, q6, h⟩ := bnd_some h
        refine r_cVv hV (m_X5_put l D cI cM b 27 8 isSh_27 FM _ _ q6) ml_X8_150 ob_27 rfl rfl (by decide) (Nat.le_of_ble_eq_true rfl) rfl dX8_pass_39 ?_
        refine r_aload_n hV dX8_pass_42 rfl ?_
        refine r_iload_n hV dX8_pass_43 rfl ?_
        obtain ⟨r7, M8, q9, h⟩ := bnd_some h
        refine r_cVv hV (m_X8_lookAhead l D cI cM b a1 M5 _ _ q9) ml_X8_154 ob_0 rfl rfl (by decide) (Nat.le_of_ble_eq_true rfl) rfl dX8_pass_44 ?_
        refine r_aload_n hV dX8_pass_47 rfl ?_
        refine r_geto hV fl_X8_66 ob_0 rfl dX8_pass_48 ?_
        refine r_aload_n hV dX8_pass_51 rfl ?_
        refine r_geto hV fl_X8_29 ob_0 rfl dX8_pass_52 ?_
        obtain ⟨r10, M11, q12, h⟩ := bnd_some h
        refine r_cVv hV (m_X3_start l D cI cM b M8 _ _ q12) ml_X8_157 ob_98 rfl rfl (by decide) (Nat.le_of_ble_eq_true rfl) rfl dX8_pass_55 ?_
        refine r_iconst (v := (0 : Int32)) hV dX8_pass_58 rfl ?_
        refine r_istore_n hV dX8_pass_59 (Nat.le_of_ble_eq_true rfl) rfl ?_
        refine r_iconst (v := (0 : Int32)) hV dX8_pass_60 rfl ?_
        refine r_istore_n hV dX8_pass_61 (Nat.le_of_ble_eq_true rfl) rfl ?_
        exact L62 FU a1 (0 : Int32) (0 : Int32) M11 h
      · have h := (if_neg c3).symm.trans h
        refine r_bipush (v := (-2 : Int32)) hV dX8_pass_28 rfl ?_
        exact r_iret hV rfl dX8_pass_30 (ret_r h) (ret_m h)
    · have h := (if_neg c2).symm.trans h
      refine r_iconst (v := (-1 : Int32)) hV dX8_pass_11 rfl ?_
      exact r_iret hV rfl dX8_pass_12 (ret_r h) (ret_m h)
def f_X8_hide (a1 : Int32) (FM : FMem) : Opt :=
  bnd (f_X8_isThing a1 FM) fun r1 M2 =>
  if r1 = 0 then (
    some ((-1 : Int32), M2)
  ) else (
    bnd (f_X5_put 27 8 M2) fun r5 M6 =>
    bindm (fset M6 21 3 ((M6 21 3) ^^^ ((1 : Int32) <<< (a1 &&& 31)))) fun M8 =>
    bnd (f_X1_isHidden 21 a1 M8) fun r9 M10 =>
    if r9 = 0 then (
      some ((0 : Int32), M10)
    ) else (
      some ((1 : Int32), M10)
    )
  )
set_option maxHeartbeats 4000000 in
set_option maxRecDepth 100000 in
theorem m_X8_hide (l : Launch) (D : va_G) (cI cM : ClassId) (b : Nat) (a1 : Int32) (FM : FMem) (r0 : Int32) (FR : FMem) (h : f_X8_hide a1 FM = some (r0, FR)) : Mt l (wdC D cI cM b) yX8_hide cX8_hide 2 (some .int) 4 103 [.ref (b + 0), .int a1] FM (some (.int r0)) FR := by
  refine Mt.of (by decide) (cat_cons rfl (cat_cons rfl cat_nil)) [some (.ref (b + 0)), some (.int a1)] rfl (Nat.le_of_ble_eq_true rfl) (fun V hV => ?_)
  unfold f_X8_hide at h
  refine r_aload_n hV dX8_hide_0 rfl ?_
  refine r_iload_n hV dX8_hide_1 rfl ?_
  obtain ⟨r1, M2, q3, h⟩ := bnd_some h
  refine r_cVi hV (m_X8_isThing l D cI cM b a1 FM _ _ q3) ml_X8_127 ob_0 rfl rfl (by decide) (Nat.le_of_ble_eq_true rfl) rfl dX8_hide_2 ?_
  refine r_ifne hV 10 dX8_hide_5 rfl (fun c4 => ?_) (fun c4 => ?_)
  · have h := (if_neg c4).symm.trans h
    refine r_aload_n hV dX8_hide_10 rfl ?_
    refine r_geto hV fl_X8_38 ob_0 rfl dX8_hide_11 ?_
    refine r_aload_n hV dX8_hide_14 rfl ?_
    refine r_geto hV fl_X8_29 ob_0 rfl dX8_hide_15 ?_
    obtain ⟨r5, M6, q7, h⟩ := bnd_some h
    refine r_cVv hV (m_X5_put l D cI cM b 27 8 isSh_27 M2 _ _ q7) ml_X8_150 ob_27 rfl rfl (by decide) (Nat.le_of_ble_eq_true rfl) rfl dX8_hide_18 ?_
    refine r_aload_n hV dX8_hide_21 rfl ?_
    refine r_geto hV fl_X8_29 ob_0 rfl dX8_hide_22 ?_
    refine r_dup hV dX8_hide_25 rfl ?_
    refine r_geto hV fl_X8_176 ob_21 rfl dX8_hide_26 ?_
    refine r_iconst (v := (1 : Int32)) hV dX8_hide_29 rfl ?_
    refine r_iload_n hV dX8_hide_30 rfl ?_
    refine r_ishl hV dX8_hide_31 ?_
    refine r_ixor hV dX8_hide_32 ?_
    refine r_puti hV fl_X8_176 ob_21 (fun _ _ => rfl) (Nat.le_of_ble_eq_true rfl) dX8_hide_33 ?_
    refine r_bm h (fun M8 h => ?_)
    refine r_aload_n hV dX8_hide_36 rfl ?_
    refine r_geto hV fl_X8_29 ob_0 rfl dX8_hide_37 ?_
    refine r_iload_n hV dX8_hide_40 rfl ?_
    obtain ⟨r9, M10, q11, h⟩ := bnd_some h
    refine r_cVi hV (m_X1_isHidden l D cI cM b 21 isMo_21 a1 M8 _ _ q11) ml_X8_145 ob_21 rfl rfl (by decide) (Nat.le_of_ble_eq_true rfl) rfl dX8_hide_41 ?_
    refine r_ifeq hV 51 dX8_hide_44 rfl (fun c12 => ?_) (fun c12 => ?_)
    · have h := (if_pos c12).symm.trans h
      refine r_iconst (v := (0 : Int32)) hV dX8_hide_51 rfl ?_
      exact r_iret hV rfl dX8_hide_52 (ret_r h) (ret_m h)
    · have h := (if_neg c12).symm.trans h
      refine r_iconst (v := (1 : Int32)) hV dX8_hide_47 rfl ?_
      refine r_goto hV 52 dX8_hide_48 rfl ?_
      exact r_iret hV rfl dX8_hide_52 (ret_r h) (ret_m h)
  · have h := (if_pos c4).symm.trans h
    refine r_iconst (v := (-1 : Int32)) hV dX8_hide_8 rfl ?_
    exact r_iret hV rfl dX8_hide_9 (ret_r h) (ret_m h)
def f_X8_arrange (a1 a2 a3 : Int32) (FM : FMem) : Opt :=
  if a1 < 0 then (
    some ((-1 : Int32), FM)
  ) else (
    if (999 : Int32) < a1 then (
      some ((-1 : Int32), FM)
    ) else (
      bnd (f_X8_isTopics a2 FM) fun r3 M4 =>
      if r3 = 0 then (
        some ((-1 : Int32), M4)
      ) else (
        bnd (f_X8_isStrength a3 M4) fun r7 M8 =>
        if r7 = 0 then (
          some ((-1 : Int32), M8)
        ) else (
          if (M8 21 0) ≤ a1 then (
            if (M8 23 3) < (9 : Int32) then (
              bnd (f_X5_put 27 8 M8) fun r13 M14 =>
              bnd (f_X7_add 23 a1 a2 a3 M14) fun r16 M17 =>
              some (((M17 23 3) - (1 : Int32)), M17)
            ) else (
              some ((-3 : Int32), M8)
            )
          ) else (
            some ((-2 : Int32), M8)
          )
        )
      )
    )
  )
set_option maxHeartbeats 4000000 in
set_option maxRecDepth 100000 in
theorem m_X8_arrange (l : Launch) (D : va_G) (cI cM : ClassId) (b : Nat) (a1 a2 a3 : Int32) (FM : FMem) (r0 : Int32) (FR : FMem) (h : f_X8_arrange a1 a2 a3 FM = some (r0, FR)) : Mt l (wdC D cI cM b) yX8_arrange cX8_arrange 4 (some .int) 4 103 [.ref (b + 0), .int a1, .int a2, .int a3] FM (some (.int r0)) FR := by
  refine Mt.of (by decide) (cat_cons rfl (cat_cons rfl (cat_cons rfl (cat_cons rfl cat_nil)))) [some (.ref (b + 0)), some (.int a1), some (.int a2), some (.int a3)] rfl (Nat.le_of_ble_eq_true rfl) (fun V hV => ?_)
  unfold f_X8_arrange at h
  refine r_iload_n hV dX8_arrange_0 rfl ?_
  refine r_iflt hV 25 dX8_arrange_1 rfl (fun c1 => ?_) (fun c1 => ?_)
  · have h := (if_pos c1).symm.trans h
    refine r_iconst (v := (-1 : Int32)) hV dX8_arrange_25 rfl ?_
    exact r_iret hV rfl dX8_arrange_26 (ret_r h) (ret_m h)
  · have h := (if_neg c1).symm.trans h
    refine r_iload_n hV dX8_arrange_4 rfl ?_
    refine r_sipush (v := (999 : Int32)) hV dX8_arrange_5 rfl ?_
    refine r_icmpgt hV 25 dX8_arrange_8 rfl (fun c2 => ?_) (fun c2 => ?_)
    · have h := (if_pos c2).symm.trans h
      refine r_iconst (v := (-1 : Int32)) hV dX8_arrange_25 rfl ?_
      exact r_iret hV rfl dX8_arrange_26 (ret_r h) (ret_m h)
    · have h := (if_neg c2).symm.trans h
      refine r_iload_n hV dX8_arrange_11 rfl ?_
      obtain ⟨r3, M4, q5, h⟩ := bnd_some h
      refine r_cSi hV (m_X8_isTopics l D cI cM b a2 FM _ _ q5) ml_X8_179 rfl (by decide) (Nat.le_of_ble_eq_true rfl) rfl dX8_arrange_12 ?_
      refine r_ifeq hV 25 dX8_arrange_15 rfl (fun c6 => ?_) (fun c6 => ?_)
      · have h := (if_pos c6).symm.trans h
        refine r_iconst (v := (-1 : Int32)) hV dX8_arrange_25 rfl ?_
        exact r_iret hV rfl dX8_arrange_26 (ret_r h) (ret_m h)
      · have h := (if_neg c6).symm.trans h
        refine r_iload_n hV dX8_arrange_18 rfl ?_
        obtain ⟨r7, M8, q9, h⟩ := bnd_some h
        refine r_cSi hV (m_X8_isStrength l D cI cM b a3 M4 _ _ q9) ml_X8_182 rfl (by decide) (Nat.le_of_ble_eq_true rfl) rfl dX8_arrange_19 ?_
        refine r_ifne hV 27 dX8_arrange_22 rfl (fun c10 => ?_) (fun c10 => ?_)
        · have h := (if_neg c10).symm.trans h
          refine r_iload_n hV dX8_arrange_27 rfl ?_
          refine r_aload_n hV dX8_arrange_28 rfl ?_
          refine r_geto hV fl_X8_29 ob_0 rfl dX8_arrange_29 ?_
          refine r_geto hV fl_X8_148 ob_21 rfl dX8_arrange_32 ?_
          refine r_icmpge hV 41 dX8_arrange_35 rfl (fun c11 => ?_) (fun c11 => ?_)
          · have h := (if_pos c11).symm.trans h
            refine r_aload_n hV dX8_arrange_41 rfl ?_
            refine r_geto hV fl_X8_29 ob_0 rfl dX8_arrange_42 ?_
            refine r_geto hV fl_X8_130 ob_21 rfl dX8_arrange_45 ?_
            refine r_geto hV fl_X8_185 ob_23 rfl dX8_arrange_48 ?_
            refine r_bipush (v := (9 : Int32)) hV dX8_arrange_51 rfl ?_
            refine r_icmplt hV 59 dX8_arrange_53 rfl (fun c12 => ?_) (fun c12 => ?_)
            · have h := (if_pos c12).symm.trans h
              refine r_aload_n hV dX8_arrange_59 rfl ?_
              refine r_geto hV fl_X8_38 ob_0 rfl dX8_arrange_60 ?_
              refine r_aload_n hV dX8_arrange_63 rfl ?_
              refine r_geto hV fl_X8_29 ob_0 rfl dX8_arrange_64 ?_
              obtain ⟨r13, M14, q15, h⟩ := bnd_some h
              refine r_cVv hV (m_X5_put l D cI cM b 27 8 isSh_27 M8 _ _ q15) ml_X8_150 ob_27 rfl rfl (by decide) (Nat.le_of_ble_eq_true rfl) rfl dX8_arrange_67 ?_
              refine r_aload_n hV dX8_arrange_70 rfl ?_
              refine r_geto hV fl_X8_29 ob_0 rfl dX8_arrange_71 ?_
              refine r_geto hV fl_X8_130 ob_21 rfl dX8_arrange_74 ?_
              refine r_iload_n hV dX8_arrange_77 rfl ?_
              refine r_iload_n hV dX8_arrange_78 rfl ?_
              refine r_iload_n hV dX8_arrange_79 rfl ?_
              obtain ⟨r16, M17, q18, h⟩ := bnd_some h
              refine r_cVi hV (m_X7_add l D cI cM b 23 isTh_23 a1 a2 a3 M14 _ _ q18) ml_X8_188 ob_23 rfl rfl (by decide) (Nat.le_of_ble_eq_true rfl) rfl dX8_arrange_80 ?_
              refine r_pop hV dX8_arrange_83 rfl ?_
              refine r_aload_n hV dX8_arrange_84 rfl ?_
              refine r_geto hV fl_X8_29 ob_0 rfl dX8_arrange_85 ?_
              refine r_geto hV fl_X8_130 ob_21 rfl dX8_arrange_88 ?_
              refine r_geto hV fl_X8_185 ob_23 rfl dX8_arrange_91 ?_
              refine r_iconst (v := (1 : Int32)) hV dX8_arrange_94 rfl ?_
              refine r_isub hV dX8_arrange_95 ?_
              exact r_iret hV rfl dX8_arrange_96 (ret_r h) (ret_m h)
            · have h := (if_neg c12).symm.trans h
              refine r_bipush (v := (-3 : Int32)) hV dX8_arrange_56 rfl ?_
              exact r_iret hV rfl dX8_arrange_58 (ret_r h) (ret_m h)
          · have h := (if_neg c11).symm.trans h
            refine r_bipush (v := (-2 : Int32)) hV dX8_arrange_38 rfl ?_
            exact r_iret hV rfl dX8_arrange_40 (ret_r h) (ret_m h)
        · have h := (if_pos c10).symm.trans h
          refine r_iconst (v := (-1 : Int32)) hV dX8_arrange_25 rfl ?_
          exact r_iret hV rfl dX8_arrange_26 (ret_r h) (ret_m h)
def f_X8_undo (FM : FMem) : Opt :=
  bnd (f_X5_takeInto 27 8 FM) fun r1 M2 =>
  if r1 = 0 then (
    some ((-2 : Int32), M2)
  ) else (
    some ((M2 27 2), M2)
  )
set_option maxHeartbeats 4000000 in
set_option maxRecDepth 100000 in
theorem m_X8_undo (l : Launch) (D : va_G) (cI cM : ClassId) (b : Nat) (FM : FMem) (r0 : Int32) (FR : FMem) (h : f_X8_undo FM = some (r0, FR)) : Mt l (wdC D cI cM b) yX8_undo cX8_undo 1 (some .int) 4 103 [.ref (b + 0)] FM (some (.int r0)) FR := by
  refine Mt.of (by decide) (cat_cons rfl cat_nil) [some (.ref (b + 0))] rfl (Nat.le_of_ble_eq_true rfl) (fun V hV => ?_)
  unfold f_X8_undo at h
  refine r_aload_n hV dX8_undo_0 rfl ?_
  refine r_geto hV fl_X8_38 ob_0 rfl dX8_undo_1 ?_
  refine r_aload_n hV dX8_undo_4 rfl ?_
  refine r_geto hV fl_X8_29 ob_0 rfl dX8_undo_5 ?_
  obtain ⟨r1, M2, q3, h⟩ := bnd_some h
  refine r_cVi hV (m_X5_takeInto l D cI cM b 27 8 isSh_27 FM _ _ q3) ml_X8_192 ob_27 rfl rfl (by decide) (Nat.le_of_ble_eq_true rfl) rfl dX8_undo_8 ?_
  refine r_ifeq hV 24 dX8_undo_11 rfl (fun c4 => ?_) (fun c4 => ?_)
  · have h := (if_pos c4).symm.trans h
    refine r_bipush (v := (-2 : Int32)) hV dX8_undo_24 rfl ?_
    exact r_iret hV rfl dX8_undo_26 (ret_r h) (ret_m h)
  · have h := (if_neg c4).symm.trans h
    refine r_aload_n hV dX8_undo_14 rfl ?_
    refine r_geto hV fl_X8_38 ob_0 rfl dX8_undo_15 ?_
    refine r_geto hV fl_X8_196 ob_27 rfl dX8_undo_18 ?_
    refine r_goto hV 26 dX8_undo_21 rfl ?_
    exact r_iret hV rfl dX8_undo_26 (ret_r h) (ret_m h)
def X8_king_b36s (k36 : Int32 → Int32 → Int32 → FMem → Opt) (x1 : Int32) (x2 : Int32) (x3 : Int32) (FM : FMem) : Opt :=
  if x1 ≤ x3 then (
    bnd (f_X3_reigning FM) fun r16 M17 =>
    bnd (f_X3_ringsOn x1 M17) fun r19 M20 =>
    if x2 = 0 then (
      some (r16, M20)
    ) else (
      some ((M20 98 4), M20)
    )
  ) else (
    bnd (f_X3_live x3 FM) fun r23 M24 =>
    k36 x1 x2 (x3 + (1 : Int32)) M24
  )
def X8_king_b36 : Nat → Int32 → Int32 → Int32 → FMem → Opt
  | 0, _, _, _, _ => none
  | nf + 1, x1, x2, x3, FM => X8_king_b36s (X8_king_b36 nf) x1 x2 x3 FM
def f_X8_king (a1 a2 : Int32) (FM : FMem) : Opt :=
  bnd (f_X8_isDayFromNow a1 FM) fun r1 M2 =>
  if r1 = 0 then (
    some ((-1 : Int32), M2)
  ) else (
    bnd (f_X8_isHalf a2 M2) fun r5 M6 =>
    if r5 = 0 then (
      some ((-1 : Int32), M6)
    ) else (
      bnd (f_X8_lookAhead (a1 + (1 : Int32)) M6) fun r9 M10 =>
      bnd (f_X3_start M10) fun r12 M13 =>
      X8_king_b36 FU a1 a2 (0 : Int32) M13
    )
  )
set_option maxHeartbeats 4000000 in
set_option maxRecDepth 100000 in
theorem m_X8_king (l : Launch) (D : va_G) (cI cM : ClassId) (b : Nat) (a1 a2 : Int32) (FM : FMem) (r0 : Int32) (FR : FMem) (h : f_X8_king a1 a2 FM = some (r0, FR)) : Mt l (wdC D cI cM b) yX8_king cX8_king 4 (some .int) 6 143 [.ref (b + 0), .int a1, .int a2] FM (some (.int r0)) FR := by
  refine Mt.of (by decide) (cat_cons rfl (cat_cons rfl (cat_cons rfl cat_nil))) [some (.ref (b + 0)), some (.int a1), some (.int a2), none] rfl (Nat.le_of_ble_eq_true rfl) (fun V hV => ?_)
  have B36 : ∀ (k36 : Int32 → Int32 → Int32 → FMem → Opt) (hk36 : ∀ (x1 : Int32) (x2 : Int32) (x3 : Int32) (FM : FMem), k36 x1 x2 x3 FM = some (r0, FR) → V FM 36 [some (.ref (b + 0)), some (.int x1), some (.int x2), some (.int x3)] []) (x1 : Int32) (x2 : Int32) (x3 : Int32) (FM : FMem), X8_king_b36s k36 x1 x2 x3 FM = some (r0, FR) → V FM 36 [some (.ref (b + 0)), some (.int x1), some (.int x2), some (.int x3)] [] := by
    intro k36 hk36 x1 x2 x3 FM h
    unfold X8_king_b36s at h
    refine r_iload_n hV dX8_king_36 rfl ?_
    refine r_iload_n hV dX8_king_37 rfl ?_
    refine r_icmpge hV 56 dX8_king_38 rfl (fun c15 => ?_) (fun c15 => ?_)
    · have h := (if_pos c15).symm.trans h
      refine r_aload_n hV dX8_king_56 rfl ?_
      refine r_geto hV fl_X8_66 ob_0 rfl dX8_king_57 ?_
      obtain ⟨r16, M17, q18, h⟩ := bnd_some h
      refine r_cVi hV (m_X3_reigning l D cI cM b FM _ _ q18) ml_X8_160 ob_98 rfl rfl (by decide) (Nat.le_of_ble_eq_true rfl) rfl dX8_king_60 ?_
      refine r_istore_n hV dX8_king_63 (Nat.le_of_ble_eq_true rfl) rfl ?_
      refine r_aload_n hV dX8_king_64 rfl ?_
      refine r_geto hV fl_X8_66 ob_0 rfl dX8_king_65 ?_
      refine r_iload_n hV dX8_king_68 rfl ?_
      obtain ⟨r19, M20, q21, h⟩ := bnd_some h
      refine r_cVi hV (m_X3_ringsOn l D cI cM b x1 M17 _ _ q21) ml_X8_203 ob_98 rfl rfl (by decide) (Nat.le_of_ble_eq_true rfl) rfl dX8_king_69 ?_
      refine r_pop hV dX8_king_72 rfl ?_
      refine r_iload_n hV dX8_king_73 rfl ?_
      refine r_ifne hV 81 dX8_king_74 rfl (fun c22 => ?_) (fun c22 => ?_)
      · have h := (if_neg c22).symm.trans h
        refine r_aload_n hV dX8_king_81 rfl ?_
        refine r_geto hV fl_X8_66 ob_0 rfl dX8_king_82 ?_
        refine r_geto hV fl_X8_172 ob_98 rfl dX8_king_85 ?_
        exact r_iret hV rfl dX8_king_88 (ret_r h) (ret_m h)
      · have h := (if_pos c22).symm.trans h
        refine r_iload_n hV dX8_king_77 rfl ?_
        refine r_goto hV 88 dX8_king_78 rfl ?_
        exact r_iret hV rfl dX8_king_88 (ret_r h) (ret_m h)
    · have h := (if_neg c15).symm.trans h
      refine r_aload_n hV dX8_king_41 rfl ?_
      refine r_geto hV fl_X8_66 ob_0 rfl dX8_king_42 ?_
      refine r_iload_n hV dX8_king_45 rfl ?_
      obtain ⟨r23, M24, q25, h⟩ := bnd_some h
      refine r_cVi hV (m_X3_live l D cI cM b x3 FM _ _ q25) ml_X8_166 ob_98 rfl rfl (by decide) (Nat.le_of_ble_eq_true rfl) rfl dX8_king_46 ?_
      refine r_pop hV dX8_king_49 rfl ?_
      refine r_iinc (v := (1 : Int32)) hV dX8_king_50 rfl rfl rfl ?_
      refine r_goto hV 36 dX8_king_53 rfl ?_
      exact hk36 x1 x2 (x3 + (1 : Int32)) M24 h
  have L36 : ∀ (nf : Nat) (x1 : Int32) (x2 : Int32) (x3 : Int32) (FM : FMem), X8_king_b36 nf x1 x2 x3 FM = some (r0, FR) → V FM 36 [some (.ref (b + 0)), some (.int x1), some (.int x2), some (.int x3)] [] := by
    intro  nf
    induction nf with
    | zero => intro x1 x2 x3 FM h; exact absurd (show (none : Opt) = some (r0, FR) from h) (fun h9 => by cases h9)
    | succ nf ih => intro x1 x2 x3 FM h; exact B36 (X8_king_b36 nf) ih x1 x2 x3 FM h
  unfold f_X8_king at h
  refine r_iload_n hV dX8_king_0 rfl ?_
  obtain ⟨r1, M2, q3, h⟩ := bnd_some h
  refine r_cSi hV (m_X8_isDayFromNow l D cI cM b a1 FM _ _ q3) ml_X8_197 rfl (by decide) (Nat.le_of_ble_eq_true rfl) rfl dX8_king_1 ?_
  refine r_ifeq hV 14 dX8_king_4 rfl (fun c4 => ?_) (fun c4 => ?_)
  · have h := (if_pos c4).symm.trans h
    refine r_iconst (v := (-1 : Int32)) hV dX8_king_14 rfl ?_
    exact r_iret hV rfl dX8_king_15 (ret_r h) (ret_m h)
  · have h := (if_neg c4).symm.trans h
    refine r_iload_n hV dX8_king_7 rfl ?_
    obtain ⟨r5, M6, q7, h⟩ := bnd_some h
    refine r_cSi hV (m_X8_isHalf l D cI cM b a2 M2 _ _ q7) ml_X8_200 rfl (by decide) (Nat.le_of_ble_eq_true rfl) rfl dX8_king_8 ?_
    refine r_ifne hV 16 dX8_king_11 rfl (fun c8 => ?_) (fun c8 => ?_)
    · have h := (if_neg c8).symm.trans h
      refine r_aload_n hV dX8_king_16 rfl ?_
      refine r_iload_n hV dX8_king_17 rfl ?_
      refine r_iconst (v := (1 : Int32)) hV dX8_king_18 rfl ?_
      refine r_iadd hV dX8_king_19 ?_
      obtain ⟨r9, M10, q11, h⟩ := bnd_some h
      refine r_cVv hV (m_X8_lookAhead l D cI cM b (a1 + (1 : Int32)) M6 _ _ q11) ml_X8_154 ob_0 rfl rfl (by decide) (Nat.le_of_ble_eq_true rfl) rfl dX8_king_20 ?_
      refine r_aload_n hV dX8_king_23 rfl ?_
      refine r_geto hV fl_X8_66 ob_0 rfl dX8_king_24 ?_
      refine r_aload_n hV dX8_king_27 rfl ?_
      refine r_geto hV fl_X8_29 ob_0 rfl dX8_king_28 ?_
      obtain ⟨r12, M13, q14, h⟩ := bnd_some h
      refine r_cVv hV (m_X3_start l D cI cM b M10 _ _ q14) ml_X8_157 ob_98 rfl rfl (by decide) (Nat.le_of_ble_eq_true rfl) rfl dX8_king_31 ?_
      refine r_iconst (v := (0 : Int32)) hV dX8_king_34 rfl ?_
      refine r_istore_n hV dX8_king_35 (Nat.le_of_ble_eq_true rfl) rfl ?_
      exact L36 FU a1 a2 (0 : Int32) M13 h
    · have h := (if_pos c8).symm.trans h
      refine r_iconst (v := (-1 : Int32)) hV dX8_king_14 rfl ?_
      exact r_iret hV rfl dX8_king_15 (ret_r h) (ret_m h)
def f_X8_bell (FM : FMem) : Opt :=
  bnd (f_X8_lookAhead (41 : Int32) FM) fun r1 M2 =>
  bnd (f_X8_firstBell M2) fun r4 M5 =>
  if r4 ≤ (40 : Int32) then (
    some (r4, M5)
  ) else (
    some ((-4 : Int32), M5)
  )
set_option maxHeartbeats 4000000 in
set_option maxRecDepth 100000 in
theorem m_X8_bell (l : Launch) (D : va_G) (cI cM : ClassId) (b : Nat) (FM : FMem) (r0 : Int32) (FR : FMem) (h : f_X8_bell FM = some (r0, FR)) : Mt l (wdC D cI cM b) yX8_bell cX8_bell 2 (some .int) 6 143 [.ref (b + 0)] FM (some (.int r0)) FR := by
  refine Mt.of (by decide) (cat_cons rfl cat_nil) [some (.ref (b + 0)), none] rfl (Nat.le_of_ble_eq_true rfl) (fun V hV => ?_)
  unfold f_X8_bell at h
  refine r_aload_n hV dX8_bell_0 rfl ?_
  refine r_bipush (v := (41 : Int32)) hV dX8_bell_1 rfl ?_
  obtain ⟨r1, M2, q3, h⟩ := bnd_some h
  refine r_cVv hV (m_X8_lookAhead l D cI cM b (41 : Int32) FM _ _ q3) ml_X8_154 ob_0 rfl rfl (by decide) (Nat.le_of_ble_eq_true rfl) rfl dX8_bell_3 ?_
  refine r_aload_n hV dX8_bell_6 rfl ?_
  obtain ⟨r4, M5, q6, h⟩ := bnd_some h
  refine r_cVi hV (m_X8_firstBell l D cI cM b M2 _ _ q6) ml_X8_206 ob_0 rfl rfl (by decide) (Nat.le_of_ble_eq_true rfl) rfl dX8_bell_7 ?_
  refine r_istore_n hV dX8_bell_10 (Nat.le_of_ble_eq_true rfl) rfl ?_
  refine r_iload_n hV dX8_bell_11 rfl ?_
  refine r_bipush (v := (40 : Int32)) hV dX8_bell_12 rfl ?_
  refine r_icmple hV 22 dX8_bell_14 rfl (fun c7 => ?_) (fun c7 => ?_)
  · have h := (if_pos c7).symm.trans h
    refine r_iload_n hV dX8_bell_22 rfl ?_
    exact r_iret hV rfl dX8_bell_23 (ret_r h) (ret_m h)
  · have h := (if_neg c7).symm.trans h
    refine r_bipush (v := (-4 : Int32)) hV dX8_bell_17 rfl ?_
    refine r_goto hV 23 dX8_bell_19 rfl ?_
    exact r_iret hV rfl dX8_bell_23 (ret_r h) (ret_m h)
def X8_hides_b81 (k36 : Int32 → Int32 → Int32 → Int32 → Int32 → FMem → Opt) (x1 : Int32) (x2 : Int32) (x3 : Int32) (x4 : Int32) (x5 : Int32) (FM : FMem) : Opt :=
  k36 x1 x2 x3 x4 (x5 + (1 : Int32)) FM
def X8_hides_b36s (k36 : Int32 → Int32 → Int32 → Int32 → Int32 → FMem → Opt) (x1 : Int32) (x2 : Int32) (x3 : Int32) (x4 : Int32) (x5 : Int32) (FM : FMem) : Opt :=
  if x2 < x5 then (
    some (x3, FM)
  ) else (
    if (x5 &&& (x2 ^^^ (-1 : Int32))) = 0 then (
      bnd (f_J6_bitCount_0f7a4 x5 FM) fun r11 M12 =>
      if x4 ≤ r11 then (
        X8_hides_b81 k36 x1 x2 x3 x4 x5 M12
      ) else (
        bnd (f_X8_staysWithout x5 x1 M12) fun r15 M16 =>
        if r15 = 0 then (
          X8_hides_b81 k36 x1 x2 x3 x4 x5 M16
        ) else (
          bnd (f_J6_bitCount_0f7a4 x5 M16) fun r19 M20 =>
          X8_hides_b81 k36 x1 x2 x5 r19 x5 M20
        )
      )
    ) else (
      X8_hides_b81 k36 x1 x2 x3 x4 x5 FM
    )
  )
def X8_hides_b36 : Nat → Int32 → Int32 → Int32 → Int32 → Int32 → FMem → Opt
  | 0, _, _, _, _, _, _ => none
  | nf + 1, x1, x2, x3, x4, x5, FM => X8_hides_b36s (X8_hides_b36 nf) x1 x2 x3 x4 x5 FM
def f_X8_hides (a1 : Int32) (FM : FMem) : Opt :=
  if a1 < (1 : Int32) then (
    some ((-1 : Int32), FM)
  ) else (
    if a1 ≤ (40 : Int32) then (
      bnd (f_X8_lookAhead a1 FM) fun r3 M4 =>
      bnd (f_X2_shownAtAll M4) fun r6 M7 =>
      X8_hides_b36 FU a1 r6 (-4 : Int32) (10 : Int32) (0 : Int32) M7
    ) else (
      some ((-1 : Int32), FM)
    )
  )
set_option maxHeartbeats 4000000 in
set_option maxRecDepth 100000 in
theorem m_X8_hides (l : Launch) (D : va_G) (cI cM : ClassId) (b : Nat) (a1 : Int32) (FM : FMem) (r0 : Int32) (FR : FMem) (h : f_X8_hides a1 FM = some (r0, FR)) : Mt l (wdC D cI cM b) yX8_hides cX8_hides 6 (some .int) 6 143 [.ref (b + 0), .int a1] FM (some (.int r0)) FR := by
  refine Mt.of (by decide) (cat_cons rfl (cat_cons rfl cat_nil)) [some (.ref (b + 0)), some (.int a1), none, none, none, none] rfl (Nat.le_of_ble_eq_true rfl) (fun V hV => ?_)
  have B81 : ∀ (k36 : Int32 → Int32 → Int32 → Int32 → Int32 → FMem → Opt) (hk36 : ∀ (x1 : Int32) (x2 : Int32) (x3 : Int32) (x4 : Int32) (x5 : Int32) (FM : FMem), k36 x1 x2 x3 x4 x5 FM = some (r0, FR) → V FM 36 [some (.ref (b + 0)), some (.int x1), some (.int x2), some (.int x3), some (.int x4), some (.int x5)] []) (x1 : Int32) (x2 : Int32) (x3 : Int32) (x4 : Int32) (x5 : Int32) (FM : FMem), X8_hides_b81 k36 x1 x2 x3 x4 x5 FM = some (r0, FR) → V FM 81 [some (.ref (b + 0)), some (.int x1), some (.int x2), some (.int x3), some (.int x4), some (.int x5)] [] := by
    intro k36 hk36 x1 x2 x3 x4 x5 FM h
    unfold X8_hides_b81 at h
    refine r_iinc (v := (1 : Int32)) hV dX8_hides_81 rfl rfl rfl ?_
    refine r_goto hV 36 dX8_hides_84 rfl ?_
    exact hk36 x1 x2 x3 x4 (x5 + (1 : Int32)) FM h
  have B36 : ∀ (k36 : Int32 → Int32 → Int32 → Int32 → Int32 → FMem → Opt) (hk36 : ∀ (x1 : Int32) (x2 : Int32) (x3 : Int32) (x4 : Int32) (x5 : Int32) (FM : FMem), k36 x1 x2 x3 x4 x5 FM = some (r0, FR) → V FM 36 [some (.ref (b + 0)), some (.int x1), some (.int x2), some (.int x3), some (.int x4), some (.int x5)] []) (x1 : Int32) (x2 : Int32) (x3 : Int32) (x4 : Int32) (x5 : Int32) (FM : FMem), X8_hides_b36s k36 x1 x2 x3 x4 x5 FM = some (r0, FR) → V FM 36 [some (.ref (b + 0)), some (.int x1), some (.int x2), some (.int x3), some (.int x4), some (.int x5)] [] := by
    intro k36 hk36 x1 x2 x3 x4 x5 FM h
    unfold X8_hides_b36s at h
    refine r_iload hV dX8_hides_36 rfl ?_
    refine r_iload_n hV dX8_hides_38 rfl ?_
    refine r_icmpgt hV 87 dX8_hides_39 rfl (fun c9 => ?_) (fun c9 => ?_)
    · have h := (if_pos c9).symm.trans h
      refine r_iload_n hV dX8_hides_87 rfl ?_
      exact r_iret hV rfl dX8_hides_88 (ret_r h) (ret_m h)
    · have h := (if_neg c9).symm.trans h
      refine r_iload hV dX8_hides_42 rfl ?_
      refine r_iload_n hV dX8_hides_44 rfl ?_
      refine r_iconst (v := (-1 : Int32)) hV dX8_hides_45 rfl ?_
      refine r_ixor hV dX8_hides_46 ?_
      refine r_iand hV dX8_hides_47 ?_
      refine r_ifne hV 81 dX8_hides_48 rfl (fun c10 => ?_) (fun c10 => ?_)
      · have h := (if_neg c10).symm.trans h
        exact B81 k36 hk36 x1 x2 x3 x4 x5 FM h
      · have h := (if_pos c10).symm.trans h
        refine r_iload hV dX8_hides_51 rfl ?_
        obtain ⟨r11, M12, q13, h⟩ := bnd_some h
        refine r_cSi hV (m_J6_bitCount_0f7a4 l D cI cM b x5 FM _ _ q13) ml_X8_212 rfl (by decide) (Nat.le_of_ble_eq_true rfl) rfl dX8_hides_53 ?_
        refine r_iload hV dX8_hides_56 rfl ?_
        refine r_icmpge hV 81 dX8_hides_58 rfl (fun c14 => ?_) (fun c14 => ?_)
        · have h := (if_pos c14).symm.trans h
          exact B81 k36 hk36 x1 x2 x3 x4 x5 M12 h
        · have h := (if_neg c14).symm.trans h
          refine r_aload_n hV dX8_hides_61 rfl ?_
          refine r_iload hV dX8_hides_62 rfl ?_
          refine r_iload_n hV dX8_hides_64 rfl ?_
          obtain ⟨r15, M16, q17, h⟩ := bnd_some h
          refine r_cVi hV (m_X8_staysWithout l D cI cM b x5 x1 M12 _ _ q17) ml_X8_217 ob_0 rfl rfl (by decide) (Nat.le_of_ble_eq_true rfl) rfl dX8_hides_65 ?_
          refine r_ifeq hV 81 dX8_hides_68 rfl (fun c18 => ?_) (fun c18 => ?_)
          · have h := (if_pos c18).symm.trans h
            exact B81 k36 hk36 x1 x2 x3 x4 x5 M16 h
          · have h := (if_neg c18).symm.trans h
            refine r_iload hV dX8_hides_71 rfl ?_
            refine r_istore_n hV dX8_hides_73 (Nat.le_of_ble_eq_true rfl) rfl ?_
            refine r_iload hV dX8_hides_74 rfl ?_
            obtain ⟨r19, M20, q21, h⟩ := bnd_some h
            refine r_cSi hV (m_J6_bitCount_0f7a4 l D cI cM b x5 M16 _ _ q21) ml_X8_212 rfl (by decide) (Nat.le_of_ble_eq_true rfl) rfl dX8_hides_76 ?_
            refine r_istore hV dX8_hides_79 (Nat.le_of_ble_eq_true rfl) rfl ?_
            exact B81 k36 hk36 x1 x2 x5 r19 x5 M20 h
  have L36 : ∀ (nf : Nat) (x1 : Int32) (x2 : Int32) (x3 : Int32) (x4 : Int32) (x5 : Int32) (FM : FMem), X8_hides_b36 nf x1 x2 x3 x4 x5 FM = some (r0, FR) → V FM 36 [some (.ref (b + 0)), some (.int x1), some (.int x2), some (.int x3), some (.int x4), some (.int x5)] [] := by
    intro  nf
    induction nf with
    | zero => intro x1 x2 x3 x4 x5 FM h; exact absurd (show (none : Opt) = some (r0, FR) from h) (fun h9 => by cases h9)
    | succ nf ih => intro x1 x2 x3 x4 x5 FM h; exact B36 (X8_hides_b36 nf) ih x1 x2 x3 x4 x5 FM h
  unfold f_X8_hides at h
  refine r_iload_n hV dX8_hides_0 rfl ?_
  refine r_iconst (v := (1 : Int32)) hV dX8_hides_1 rfl ?_
  refine r_icmplt hV 11 dX8_hides_2 rfl (fun c1 => ?_) (fun c1 => ?_)
  · have h := (if_pos c1).symm.trans h
    refine r_iconst (v := (-1 : Int32)) hV dX8_hides_11 rfl ?_
    exact r_iret hV rfl dX8_hides_12 (ret_r h) (ret_m h)
  · have h := (if_neg c1).symm.trans h
    refine r_iload_n hV dX8_hides_5 rfl ?_
    refine r_bipush (v := (40 : Int32)) hV dX8_hides_6 rfl ?_
    refine r_icmple hV 13 dX8_hides_8 rfl (fun c2 => ?_) (fun c2 => ?_)
    · have h := (if_pos c2).symm.trans h
      refine r_aload_n hV dX8_hides_13 rfl ?_
      refine r_iload_n hV dX8_hides_14 rfl ?_
      obtain ⟨r3, M4, q5, h⟩ := bnd_some h
      refine r_cVv hV (m_X8_lookAhead l D cI cM b a1 FM _ _ q5) ml_X8_154 ob_0 rfl rfl (by decide) (Nat.le_of_ble_eq_true rfl) rfl dX8_hides_15 ?_
      refine r_aload_n hV dX8_hides_18 rfl ?_
      refine r_geto hV fl_X8_57 ob_0 rfl dX8_hides_19 ?_
      obtain ⟨r6, M7, q8, h⟩ := bnd_some h
      refine r_cVi hV (m_X2_shownAtAll l D cI cM b M4 _ _ q8) ml_X8_209 ob_94 rfl rfl (by decide) (Nat.le_of_ble_eq_true rfl) rfl dX8_hides_22 ?_
      refine r_istore_n hV dX8_hides_25 (Nat.le_of_ble_eq_true rfl) rfl ?_
      refine r_bipush (v := (-4 : Int32)) hV dX8_hides_26 rfl ?_
      refine r_istore_n hV dX8_hides_28 (Nat.le_of_ble_eq_true rfl) rfl ?_
      refine r_bipush (v := (10 : Int32)) hV dX8_hides_29 rfl ?_
      refine r_istore hV dX8_hides_31 (Nat.le_of_ble_eq_true rfl) rfl ?_
      refine r_iconst (v := (0 : Int32)) hV dX8_hides_33 rfl ?_
      refine r_istore hV dX8_hides_34 (Nat.le_of_ble_eq_true rfl) rfl ?_
      exact L36 FU a1 r6 (-4 : Int32) (10 : Int32) (0 : Int32) M7 h
    · have h := (if_neg c2).symm.trans h
      refine r_iconst (v := (-1 : Int32)) hV dX8_hides_11 rfl ?_
      exact r_iret hV rfl dX8_hides_12 (ret_r h) (ret_m h)
def X8_raise_b109 (k37 : Int32 → Int32 → Int32 → Int32 → Int32 → FMem → Opt) (k47 : Int32 → Int32 → Int32 → Int32 → Int32 → Int32 → FMem → Opt) (x1 : Int32) (x2 : Int32) (x3 : Int32) (x4 : Int32) (x5 : Int32) (x6 : Int32) (FM : FMem) : Opt :=
  k47 x1 x2 x3 x4 x5 (x6 + (1 : Int32)) FM
def X8_raise_b47s (k37 : Int32 → Int32 → Int32 → Int32 → Int32 → FMem → Opt) (k47 : Int32 → Int32 → Int32 → Int32 → Int32 → Int32 → FMem → Opt) (x1 : Int32) (x2 : Int32) (x3 : Int32) (x4 : Int32) (x5 : Int32) (x6 : Int32) (FM : FMem) : Opt :=
  if (5 : Int32) ≤ x6 then (
    k37 x1 x2 x3 x4 (x5 + (1 : Int32)) FM
  ) else (
    bnd (f_X2_add x5 ((1 : Int32) <<< (x6 &&& 31)) (9 : Int32) FM) fun r19 M20 =>
    bnd (f_X8_firstReignOf x1 M20) fun r22 M23 =>
    bnd (f_X2_takeAway x5 ((1 : Int32) <<< (x6 &&& 31)) (9 : Int32) M23) fun r25 M26 =>
    if x3 ≤ r22 then (
      X8_raise_b109 k37 k47 x1 x2 x3 x4 x5 x6 M26
    ) else (
      bindv (((10 : Int32) * x5) + x6) fun v29 =>
      X8_raise_b109 k37 k47 x1 x2 r22 v29 x5 x6 M26
    )
  )
def X8_raise_b47 (k37 : Int32 → Int32 → Int32 → Int32 → Int32 → FMem → Opt) : Nat → Int32 → Int32 → Int32 → Int32 → Int32 → Int32 → FMem → Opt
  | 0, _, _, _, _, _, _, _ => none
  | nf + 1, x1, x2, x3, x4, x5, x6, FM => X8_raise_b47s k37 (X8_raise_b47 k37 nf) x1 x2 x3 x4 x5 x6 FM
def X8_raise_b37s (k37 : Int32 → Int32 → Int32 → Int32 → Int32 → FMem → Opt) (x1 : Int32) (x2 : Int32) (x3 : Int32) (x4 : Int32) (x5 : Int32) (FM : FMem) : Opt :=
  if (20 : Int32) ≤ x5 then (
    if x3 ≤ (40 : Int32) then (
      if x2 = 0 then (
        some (x4, FM)
      ) else (
        some (x3, FM)
      )
    ) else (
      some ((-4 : Int32), FM)
    )
  ) else (
    X8_raise_b47 k37 FU x1 x2 x3 x4 x5 (0 : Int32) FM
  )
def X8_raise_b37 : Nat → Int32 → Int32 → Int32 → Int32 → Int32 → FMem → Opt
  | 0, _, _, _, _, _, _ => none
  | nf + 1, x1, x2, x3, x4, x5, FM => X8_raise_b37s (X8_raise_b37 nf) x1 x2 x3 x4 x5 FM
def f_X8_raise (a1 a2 : Int32) (FM : FMem) : Opt :=
  bnd (f_X8_isPerson a1 FM) fun r1 M2 =>
  if r1 = 0 then (
    some ((-1 : Int32), M2)
  ) else (
    bnd (f_X8_isHalf a2 M2) fun r5 M6 =>
    if r5 = 0 then (
      some ((-1 : Int32), M6)
    ) else (
      bnd (f_X8_lookAhead (40 : Int32) M6) fun r9 M10 =>
      bnd (f_X8_firstReignOf a1 M10) fun r12 M13 =>
      X8_raise_b37 FU a1 a2 r12 (1000 : Int32) (0 : Int32) M13
    )
  )
set_option maxHeartbeats 4000000 in
set_option maxRecDepth 100000 in
theorem m_X8_raise (l : Launch) (D : va_G) (cI cM : ClassId) (b : Nat) (a1 a2 : Int32) (FM : FMem) (r0 : Int32) (FR : FMem) (h : f_X8_raise a1 a2 FM = some (r0, FR)) : Mt l (wdC D cI cM b) yX8_raise cX8_raise 8 (some .int) 6 143 [.ref (b + 0), .int a1, .int a2] FM (some (.int r0)) FR := by
  refine Mt.of (by decide) (cat_cons rfl (cat_cons rfl (cat_cons rfl cat_nil))) [some (.ref (b + 0)), some (.int a1), some (.int a2), none, none, none, none, none] rfl (Nat.le_of_ble_eq_true rfl) (fun V hV => ?_)
  have B109 : ∀ (k37 : Int32 → Int32 → Int32 → Int32 → Int32 → FMem → Opt) (hk37 : ∀ (x1 : Int32) (x2 : Int32) (x3 : Int32) (x4 : Int32) (x5 : Int32) (FM : FMem), k37 x1 x2 x3 x4 x5 FM = some (r0, FR) → V FM 37 [some (.ref (b + 0)), some (.int x1), some (.int x2), some (.int x3), some (.int x4), some (.int x5), none, none] []) (k47 : Int32 → Int32 → Int32 → Int32 → Int32 → Int32 → FMem → Opt) (hk47 : ∀ (x1 : Int32) (x2 : Int32) (x3 : Int32) (x4 : Int32) (x5 : Int32) (x6 : Int32) (FM : FMem), k47 x1 x2 x3 x4 x5 x6 FM = some (r0, FR) → V FM 47 [some (.ref (b + 0)), some (.int x1), some (.int x2), some (.int x3), some (.int x4), some (.int x5), some (.int x6), none] []) (x1 : Int32) (x2 : Int32) (x3 : Int32) (x4 : Int32) (x5 : Int32) (x6 : Int32) (FM : FMem), X8_raise_b109 k37 k47 x1 x2 x3 x4 x5 x6 FM = some (r0, FR) → V FM 109 [some (.ref (b + 0)), some (.int x1), some (.int x2), some (.int x3), some (.int x4), some (.int x5), some (.int x6), none] [] := by
    intro k37 hk37 k47 hk47 x1 x2 x3 x4 x5 x6 FM h
    unfold X8_raise_b109 at h
    refine r_iinc (v := (1 : Int32)) hV dX8_raise_109 rfl rfl rfl ?_
    refine r_goto hV 47 dX8_raise_112 rfl ?_
    exact hk47 x1 x2 x3 x4 x5 (x6 + (1 : Int32)) FM h
  have B47 : ∀ (k37 : Int32 → Int32 → Int32 → Int32 → Int32 → FMem → Opt) (hk37 : ∀ (x1 : Int32) (x2 : Int32) (x3 : Int32) (x4 : Int32) (x5 : Int32) (FM : FMem), k37 x1 x2 x3 x4 x5 FM = some (r0, FR) → V FM 37 [some (.ref (b + 0)), some (.int x1), some (.int x2), some (.int x3), some (.int x4), some (.int x5), none, none] []) (k47 : Int32 → Int32 → Int32 → Int32 → Int32 → Int32 → FMem → Opt) (hk47 : ∀ (x1 : Int32) (x2 : Int32) (x3 : Int32) (x4 : Int32) (x5 : Int32) (x6 : Int32) (FM : FMem), k47 x1 x2 x3 x4 x5 x6 FM = some (r0, FR) → V FM 47 [some (.ref (b + 0)), some (.int x1), some (.int x2), some (.int x3), some (.int x4), some (.int x5), some (.int x6), none] []) (x1 : Int32) (x2 : Int32) (x3 : Int32) (x4 : Int32) (x5 : Int32) (x6 : Int32) (FM : FMem), X8_raise_b47s k37 k47 x1 x2 x3 x4 x5 x6 FM = some (r0, FR) → V FM 47 [some (.ref (b + 0)), some (.int x1), some (.int x2), some (.int x3), some (.int x4), some (.int x5), some (.int x6), none] [] := by
    intro k37 hk37 k47 hk47 x1 x2 x3 x4 x5 x6 FM h
    unfold X8_raise_b47s at h
    refine r_iload hV dX8_raise_47 rfl ?_
    refine r_iconst (v := (5 : Int32)) hV dX8_raise_49 rfl ?_
    refine r_icmpge hV 115 dX8_raise_50 rfl (fun c18 => ?_) (fun c18 => ?_)
    · have h := (if_pos c18).symm.trans h
      refine r_iinc (v := (1 : Int32)) hV dX8_raise_115 rfl rfl rfl ?_
      refine r_goto hV 37 dX8_raise_118 rfl ?_
      refine r_mask hV [true, true, true, true, true, true, false, false] ?_
      exact hk37 x1 x2 x3 x4 (x5 + (1 : Int32)) FM h
    · have h := (if_neg c18).symm.trans h
      refine r_aload_n hV dX8_raise_53 rfl ?_
      refine r_geto hV fl_X8_57 ob_0 rfl dX8_raise_54 ?_
      refine r_iload hV dX8_raise_57 rfl ?_
      refine r_iconst (v := (1 : Int32)) hV dX8_raise_59 rfl ?_
      refine r_iload hV dX8_raise_60 rfl ?_
      refine r_ishl hV dX8_raise_62 ?_
      refine r_bipush (v := (9 : Int32)) hV dX8_raise_63 rfl ?_
      obtain ⟨r19, M20, q21, h⟩ := bnd_some h
      refine r_cVv hV (m_X2_add l D cI cM b x5 ((1 : Int32) <<< (x6 &&& 31)) (9 : Int32) FM _ _ q21) ml_X8_224 ob_94 rfl rfl (by decide) (Nat.le_of_ble_eq_true rfl) rfl dX8_raise_65 ?_
      refine r_aload_n hV dX8_raise_68 rfl ?_
      refine r_iload_n hV dX8_raise_69 rfl ?_
      obtain ⟨r22, M23, q24, h⟩ := bnd_some h
      refine r_cVi hV (m_X8_firstReignOf l D cI cM b x1 M20 _ _ q24) ml_X8_221 ob_0 rfl rfl (by decide) (Nat.le_of_ble_eq_true rfl) rfl dX8_raise_70 ?_
      refine r_istore hV dX8_raise_73 (Nat.le_of_ble_eq_true rfl) rfl ?_
      refine r_aload_n hV dX8_raise_75 rfl ?_
      refine r_geto hV fl_X8_57 ob_0 rfl dX8_raise_76 ?_
      refine r_iload hV dX8_raise_79 rfl ?_
      refine r_iconst (v := (1 : Int32)) hV dX8_raise_81 rfl ?_
      refine r_iload hV dX8_raise_82 rfl ?_
      refine r_ishl hV dX8_raise_84 ?_
      refine r_bipush (v := (9 : Int32)) hV dX8_raise_85 rfl ?_
      obtain ⟨r25, M26, q27, h⟩ := bnd_some h
      refine r_cVv hV (m_X2_takeAway l D cI cM b x5 ((1 : Int32) <<< (x6 &&& 31)) (9 : Int32) M23 _ _ q27) ml_X8_227 ob_94 rfl rfl (by decide) (Nat.le_of_ble_eq_true rfl) rfl dX8_raise_87 ?_
      refine r_iload hV dX8_raise_90 rfl ?_
      refine r_iload_n hV dX8_raise_92 rfl ?_
      refine r_icmpge hV 109 dX8_raise_93 rfl (fun c28 => ?_) (fun c28 => ?_)
      · have h := (if_pos c28).symm.trans h
        refine r_mask hV [true, true, true, true, true, true, true, false] ?_
        exact B109 k37 hk37 k47 hk47 x1 x2 x3 x4 x5 x6 M26 h
      · have h := (if_neg c28).symm.trans h
        refine r_iload hV dX8_raise_96 rfl ?_
        refine r_istore_n hV dX8_raise_98 (Nat.le_of_ble_eq_true rfl) rfl ?_
        refine r_bipush (v := (10 : Int32)) hV dX8_raise_99 rfl ?_
        refine r_iload hV dX8_raise_101 rfl ?_
        refine r_imul hV dX8_raise_103 ?_
        refine r_iload hV dX8_raise_104 rfl ?_
        refine r_iadd hV dX8_raise_106 ?_
        refine r_bv h (fun v29 h => ?_)
        refine r_istore hV dX8_raise_107 (Nat.le_of_ble_eq_true rfl) rfl ?_
        refine r_mask hV [true, true, true, true, true, true, true, false] ?_
        exact B109 k37 hk37 k47 hk47 x1 x2 r22 v29 x5 x6 M26 h
  have L47 : ∀ (k37 : Int32 → Int32 → Int32 → Int32 → Int32 → FMem → Opt) (hk37 : ∀ (x1 : Int32) (x2 : Int32) (x3 : Int32) (x4 : Int32) (x5 : Int32) (FM : FMem), k37 x1 x2 x3 x4 x5 FM = some (r0, FR) → V FM 37 [some (.ref (b + 0)), some (.int x1), some (.int x2), some (.int x3), some (.int x4), some (.int x5), none, none] []) (nf : Nat) (x1 : Int32) (x2 : Int32) (x3 : Int32) (x4 : Int32) (x5 : Int32) (x6 : Int32) (FM : FMem), X8_raise_b47 k37 nf x1 x2 x3 x4 x5 x6 FM = some (r0, FR) → V FM 47 [some (.ref (b + 0)), some (.int x1), some (.int x2), some (.int x3), some (.int x4), some (.int x5), some (.int x6), none] [] := by
    intro k37 hk37 nf
    induction nf with
    | zero => intro x1 x2 x3 x4 x5 x6 FM h; exact absurd (show (none : Opt) = some (r0, FR) from h) (fun h9 => by cases h9)
    | succ nf ih => intro x1 x2 x3 x4 x5 x6 FM h; exact B47 k37 hk37 (X8_raise_b47 k37 nf) ih x1 x2 x3 x4 x5 x6 FM h
  have B37 : ∀ (k37 : Int32 → Int32 → Int32 → Int32 → Int32 → FMem → Opt) (hk37 : ∀ (x1 : Int32) (x2 : Int32) (x3 : Int32) (x4 : Int32) (x5 : Int32) (FM : FMem), k37 x1 x2 x3 x4 x5 FM = some (r0, FR) → V FM 37 [some (.ref (b + 0)), some (.int x1), some (.int x2), some (.int x3), some (.int x4), some (.int x5), none, none] []) (x1 : Int32) (x2 : Int32) (x3 : Int32) (x4 : Int32) (x5 : Int32) (FM : FMem), X8_raise_b37s k37 x1 x2 x3 x4 x5 FM = some (r0, FR) → V FM 37 [some (.ref (b + 0)), some (.int x1), some (.int x2), some (.int x3), some (.int x4), some (.int x5), none, none] [] := by
    intro k37 hk37 x1 x2 x3 x4 x5 FM h
    unfold X8_raise_b37s at h
    refine r_iload hV dX8_raise_37 rfl ?_
    refine r_bipush (v := (20 : Int32)) hV dX8_raise_39 rfl ?_
    refine r_icmpge hV 121 dX8_raise_41 rfl (fun c15 => ?_) (fun c15 => ?_)
    · have h := (if_pos c15).symm.trans h
      refine r_iload_n hV dX8_raise_121 rfl ?_
      refine r_bipush (v := (40 : Int32)) hV dX8_raise_122 rfl ?_
      refine r_icmple hV 130 dX8_raise_124 rfl (fun c16 => ?_) (fun c16 => ?_)
      · have h := (if_pos c16).symm.trans h
        refine r_iload_n hV dX8_raise_130 rfl ?_
        refine r_ifne hV 139 dX8_raise_131 rfl (fun c17 => ?_) (fun c17 => ?_)
        · have h := (if_neg c17).symm.trans h
          refine r_iload_n hV dX8_raise_139 rfl ?_
          exact r_iret hV rfl dX8_raise_140 (ret_r h) (ret_m h)
        · have h := (if_pos c17).symm.trans h
          refine r_iload hV dX8_raise_134 rfl ?_
          refine r_goto hV 140 dX8_raise_136 rfl ?_
          exact r_iret hV rfl dX8_raise_140 (ret_r h) (ret_m h)
      · have h := (if_neg c16).symm.trans h
        refine r_bipush (v := (-4 : Int32)) hV dX8_raise_127 rfl ?_
        exact r_iret hV rfl dX8_raise_129 (ret_r h) (ret_m h)
    · have h := (if_neg c15).symm.trans h
      refine r_iconst (v := (0 : Int32)) hV dX8_raise_44 rfl ?_
      refine r_istore hV dX8_raise_45 (Nat.le_of_ble_eq_true rfl) rfl ?_
      exact L47 k37 hk37 FU x1 x2 x3 x4 x5 (0 : Int32) FM h
  have L37 : ∀ (nf : Nat) (x1 : Int32) (x2 : Int32) (x3 : Int32) (x4 : Int32) (x5 : Int32) (FM : FMem), X8_raise_b37 nf x1 x2 x3 x4 x5 FM = some (r0, FR) → V FM 37 [some (.ref (b + 0)), some (.int x1), some (.int x2), some (.int x3), some (.int x4), some (.int x5), none, none] [] := by
    intro  nf
    induction nf with
    | zero => intro x1 x2 x3 x4 x5 FM h; exact absurd (show (none : Opt) = some (r0, FR) from h) (fun h9 => by cases h9)
    | succ nf ih => intro x1 x2 x3 x4 x5 FM h; exact B37 (X8_raise_b37 nf) ih x1 x2 x3 x4 x5 FM h
  unfold f_X8_raise at h
  refine r_aload_n hV dX8_raise_0 rfl ?_
  refine r_iload_n hV dX8_raise_1 rfl ?_
  obtain ⟨r1, M2, q3, h⟩ := bnd_some h
  refine r_cVi hV (m_X8_isPerson l D cI cM b a1 FM _ _ q3) ml_X8_108 ob_0 rfl rfl (by decide) (Nat.le_of_ble_eq_true rfl) rfl dX8_raise_2 ?_
  refine r_ifeq hV 15 dX8_raise_5 rfl (fun c4 => ?_) (fun c4 => ?_)
  · have h := (if_pos c4).symm.trans h
    refine r_iconst (v := (-1 : Int32)) hV dX8_raise_15 rfl ?_
    exact r_iret hV rfl dX8_raise_16 (ret_r h) (ret_m h)
  · have h := (if_neg c4).symm.trans h
    refine r_iload_n hV dX8_raise_8 rfl ?_
    obtain ⟨r5, M6, q7, h⟩ := bnd_some h
    refine r_cSi hV (m_X8_isHalf l D cI cM b a2 M2 _ _ q7) ml_X8_200 rfl (by decide) (Nat.le_of_ble_eq_true rfl) rfl dX8_raise_9 ?_
    refine r_ifne hV 17 dX8_raise_12 rfl (fun c8 => ?_) (fun c8 => ?_)
    · have h := (if_neg c8).symm.trans h
      refine r_aload_n hV dX8_raise_17 rfl ?_
      refine r_bipush (v := (40 : Int32)) hV dX8_raise_18 rfl ?_
      obtain ⟨r9, M10, q11, h⟩ := bnd_some h
      refine r_cVv hV (m_X8_lookAhead l D cI cM b (40 : Int32) M6 _ _ q11) ml_X8_154 ob_0 rfl rfl (by decide) (Nat.le_of_ble_eq_true rfl) rfl dX8_raise_20 ?_
      refine r_aload_n hV dX8_raise_23 rfl ?_
      refine r_iload_n hV dX8_raise_24 rfl ?_
      obtain ⟨r12, M13, q14, h⟩ := bnd_some h
      refine r_cVi hV (m_X8_firstReignOf l D cI cM b a1 M10 _ _ q14) ml_X8_221 ob_0 rfl rfl (by decide) (Nat.le_of_ble_eq_true rfl) rfl dX8_raise_25 ?_
      refine r_istore_n hV dX8_raise_28 (Nat.le_of_ble_eq_true rfl) rfl ?_
      refine r_sipush (v := (1000 : Int32)) hV dX8_raise_29 rfl ?_
      refine r_istore hV dX8_raise_32 (Nat.le_of_ble_eq_true rfl) rfl ?_
      refine r_iconst (v := (0 : Int32)) hV dX8_raise_34 rfl ?_
      refine r_istore hV dX8_raise_35 (Nat.le_of_ble_eq_true rfl) rfl ?_
      exact L37 FU a1 a2 r12 (1000 : Int32) (0 : Int32) M13 h
    · have h := (if_pos c8).symm.trans h
      refine r_iconst (v := (-1 : Int32)) hV dX8_raise_15 rfl ?_
      exact r_iret hV rfl dX8_raise_16 (ret_r h) (ret_m h)
def X8_order_b111 (x2 : Int32) (x3 : Int32) (FM : FMem) : Opt :=
  if 0 ≤ x2 then (
    grd (inb x2 6) <|
    some ((FM 100 ((x2).toNatClampNeg)), FM)
  ) else (
    some (x3, FM)
  )
def X8_order_b88 (k48 : Int32 → Int32 → Int32 → Int32 → FMem → Opt) (x1 : Int32) (x2 : Int32) (x3 : Int32) (x4 : Int32) (x5 : Int32) (FM : FMem) : Opt :=
  bnd (f_X3_lineUpNext (x5 + (1 : Int32)) FM) fun r20 M21 =>
  if r20 = 0 then (
    X8_order_b111 x2 x3 M21
  ) else (
    k48 x1 x2 x3 (x4 + (1 : Int32)) M21
  )
def X8_order_b48s (k48 : Int32 → Int32 → Int32 → Int32 → FMem → Opt) (x1 : Int32) (x2 : Int32) (x3 : Int32) (x4 : Int32) (FM : FMem) : Opt :=
  if (720 : Int32) ≤ x4 then (
    X8_order_b111 x2 x3 FM
  ) else (
    if x3 ≤ 0 then (
      X8_order_b111 x2 x3 FM
    ) else (
      bnd (f_X8_bellsInOrder x1 x3 FM) fun r16 M17 =>
      if x3 ≤ r16 then (
        X8_order_b88 k48 x1 x2 x3 x4 r16 M17
      ) else (
        bnd (f_X3_copyLine M17) fun r24 M25 =>
        X8_order_b88 k48 x1 x2 r16 x4 r16 M25
      )
    )
  )
def X8_order_b48 : Nat → Int32 → Int32 → Int32 → Int32 → FMem → Opt
  | 0, _, _, _, _, _ => none
  | nf + 1, x1, x2, x3, x4, FM => X8_order_b48s (X8_order_b48 nf) x1 x2 x3 x4 FM
def f_X8_order (a1 a2 : Int32) (FM : FMem) : Opt :=
  if a1 < (1 : Int32) then (
    some ((-1 : Int32), FM)
  ) else (
    if (40 : Int32) < a1 then (
      some ((-1 : Int32), FM)
    ) else (
      if a2 < (-1 : Int32) then (
        some ((-1 : Int32), FM)
      ) else (
        if a2 < (FM 12 3) then (
          bnd (f_X8_lookAhead a1 FM) fun r5 M6 =>
          bnd (f_X3_lineUp M6) fun r8 M9 =>
          bindv (a1 + (1 : Int32)) fun v11 =>
          X8_order_b48 FU a1 a2 v11 (0 : Int32) M9
        ) else (
          some ((-1 : Int32), FM)
        )
      )
    )
  )
set_option maxHeartbeats 4000000 in
set_option maxRecDepth 100000 in
theorem m_X8_order (l : Launch) (D : va_G) (cI cM : ClassId) (b : Nat) (a1 a2 : Int32) (FM : FMem) (r0 : Int32) (FR : FMem) (h : f_X8_order a1 a2 FM = some (r0, FR)) : Mt l (wdC D cI cM b) yX8_order cX8_order 6 (some .int) 6 143 [.ref (b + 0), .int a1, .int a2] FM (some (.int r0)) FR := by
  refine Mt.of (by decide) (cat_cons rfl (cat_cons rfl (cat_cons rfl cat_nil))) [some (.ref (b + 0)), some (.int a1), some (.int a2), none, none, none] rfl (Nat.le_of_ble_eq_true rfl) (fun V hV => ?_)
  have B111 : ∀ (x2 : Int32) (x3 : Int32) (FM : FMem), X8_order_b111 x2 x3 FM = some (r0, FR) → V FM 111 [some (.ref (b + 0)), none, some (.int x2), some (.int x3), none, none] [] := by
    intro  x2 x3 FM h
    unfold X8_order_b111 at h
    refine r_iload_n hV dX8_order_111 rfl ?_
    refine r_ifge hV 119 dX8_order_112 rfl (fun c13 => ?_) (fun c13 => ?_)
    · have h := (if_pos c13).symm.trans h
      refine r_aload_n hV dX8_order_119 rfl ?_
      refine r_geto hV fl_X8_70 ob_0 rfl dX8_order_120 ?_
      refine r_iload_n hV dX8_order_123 rfl ?_
      obtain ⟨g14, h⟩ := grd_some h
      refine r_ald hV ar_100 (inb_in g14) ((x2).toNatClampNeg) rfl dX8_order_124 ?_
      exact r_iret hV rfl dX8_order_125 (ret_r h) (ret_m h)
    · have h := (if_neg c13).symm.trans h
      refine r_iload_n hV dX8_order_115 rfl ?_
      refine r_goto hV 125 dX8_order_116 rfl ?_
      exact r_iret hV rfl dX8_order_125 (ret_r h) (ret_m h)
  have B88 : ∀ (k48 : Int32 → Int32 → Int32 → Int32 → FMem → Opt) (hk48 : ∀ (x1 : Int32) (x2 : Int32) (x3 : Int32) (x4 : Int32) (FM : FMem), k48 x1 x2 x3 x4 FM = some (r0, FR) → V FM 48 [some (.ref (b + 0)), some (.int x1), some (.int x2), some (.int x3), some (.int x4), none] []) (x1 : Int32) (x2 : Int32) (x3 : Int32) (x4 : Int32) (x5 : Int32) (FM : FMem), X8_order_b88 k48 x1 x2 x3 x4 x5 FM = some (r0, FR) → V FM 88 [some (.ref (b + 0)), some (.int x1), some (.int x2), some (.int x3), some (.int x4), some (.int x5)] [] := by
    intro k48 hk48 x1 x2 x3 x4 x5 FM h
    unfold X8_order_b88 at h
    refine r_aload_n hV dX8_order_88 rfl ?_
    refine r_geto hV fl_X8_66 ob_0 rfl dX8_order_89 ?_
    refine r_iload hV dX8_order_92 rfl ?_
    refine r_iconst (v := (1 : Int32)) hV dX8_order_94 rfl ?_
    refine r_iadd hV dX8_order_95 ?_
    obtain ⟨r20, M21, q22, h⟩ := bnd_some h
    refine r_cVi hV (m_X3_lineUpNext l D cI cM b (x5 + (1 : Int32)) FM _ _ q22) ml_X8_241 ob_98 rfl rfl (by decide) (Nat.le_of_ble_eq_true rfl) rfl dX8_order_96 ?_
    refine r_ifne hV 105 dX8_order_99 rfl (fun c23 => ?_) (fun c23 => ?_)
    · have h := (if_neg c23).symm.trans h
      refine r_iinc (v := (1 : Int32)) hV dX8_order_105 rfl rfl rfl ?_
      refine r_goto hV 48 dX8_order_108 rfl ?_
      refine r_mask hV [true, true, true, true, true, false] ?_
      exact hk48 x1 x2 x3 (x4 + (1 : Int32)) M21 h
    · have h := (if_pos c23).symm.trans h
      refine r_goto hV 111 dX8_order_102 rfl ?_
      refine r_mask hV [true, false, true, true, false, false] ?_
      exact B111 x2 x3 M21 h
  have B48 : ∀ (k48 : Int32 → Int32 → Int32 → Int32 → FMem → Opt) (hk48 : ∀ (x1 : Int32) (x2 : Int32) (x3 : Int32) (x4 : Int32) (FM : FMem), k48 x1 x2 x3 x4 FM = some (r0, FR) → V FM 48 [some (.ref (b + 0)), some (.int x1), some (.int x2), some (.int x3), some (.int x4), none] []) (x1 : Int32) (x2 : Int32) (x3 : Int32) (x4 : Int32) (FM : FMem), X8_order_b48s k48 x1 x2 x3 x4 FM = some (r0, FR) → V FM 48 [some (.ref (b + 0)), some (.int x1), some (.int x2), some (.int x3), some (.int x4), none] [] := by
    intro k48 hk48 x1 x2 x3 x4 FM h
    unfold X8_order_b48s at h
    refine r_iload hV dX8_order_48 rfl ?_
    refine r_sipush (v := (720 : Int32)) hV dX8_order_50 rfl ?_
    refine r_icmpge hV 111 dX8_order_53 rfl (fun c12 => ?_) (fun c12 => ?_)
    · have h := (if_pos c12).symm.trans h
      refine r_mask hV [true, false, true, true, false, false] ?_
      exact B111 x2 x3 FM h
    · have h := (if_neg c12).symm.trans h
      refine r_iload_n hV dX8_order_56 rfl ?_
      refine r_ifle hV 111 dX8_order_57 rfl (fun c15 => ?_) (fun c15 => ?_)
      · have h := (if_pos c15).symm.trans h
        refine r_mask hV [true, false, true, true, false, false] ?_
        exact B111 x2 x3 FM h
      · have h := (if_neg c15).symm.trans h
        refine r_aload_n hV dX8_order_60 rfl ?_
        refine r_iload_n hV dX8_order_61 rfl ?_
        refine r_iload_n hV dX8_order_62 rfl ?_
        obtain ⟨r16, M17, q18, h⟩ := bnd_some h
        refine r_cVi hV (m_X8_bellsInOrder l D cI cM b x1 x3 FM _ _ q18) ml_X8_233 ob_0 rfl rfl (by decide) (Nat.le_of_ble_eq_true rfl) rfl dX8_order_63 ?_
        refine r_istore hV dX8_order_66 (Nat.le_of_ble_eq_true rfl) rfl ?_
        refine r_iload hV dX8_order_68 rfl ?_
        refine r_iload_n hV dX8_order_70 rfl ?_
        refine r_icmpge hV 88 dX8_order_71 rfl (fun c19 => ?_) (fun c19 => ?_)
        · have h := (if_pos c19).symm.trans h
          exact B88 k48 hk48 x1 x2 x3 x4 r16 M17 h
        · have h := (if_neg c19).symm.trans h
          refine r_iload hV dX8_order_74 rfl ?_
          refine r_istore_n hV dX8_order_76 (Nat.le_of_ble_eq_true rfl) rfl ?_
          refine r_aload_n hV dX8_order_77 rfl ?_
          refine r_geto hV fl_X8_66 ob_0 rfl dX8_order_78 ?_
          refine r_aload_n hV dX8_order_81 rfl ?_
          refine r_geto hV fl_X8_70 ob_0 rfl dX8_order_82 ?_
          obtain ⟨r24, M25, q26, h⟩ := bnd_some h
          refine r_cVv hV (m_X3_copyLine l D cI cM b M17 _ _ q26) ml_X8_237 ob_98 rfl rfl (by decide) (Nat.le_of_ble_eq_true rfl) rfl dX8_order_85 ?_
          exact B88 k48 hk48 x1 x2 r16 x4 r16 M25 h
  have L48 : ∀ (nf : Nat) (x1 : Int32) (x2 : Int32) (x3 : Int32) (x4 : Int32) (FM : FMem), X8_order_b48 nf x1 x2 x3 x4 FM = some (r0, FR) → V FM 48 [some (.ref (b + 0)), some (.int x1), some (.int x2), some (.int x3), some (.int x4), none] [] := by
    intro  nf
    induction nf with
    | zero => intro x1 x2 x3 x4 FM h; exact absurd (show (none : Opt) = some (r0, FR) from h) (fun h9 => by cases h9)
    | succ nf ih => intro x1 x2 x3 x4 FM h; exact B48 (X8_order_b48 nf) ih x1 x2 x3 x4 FM h
  unfold f_X8_order at h
  refine r_iload_n hV dX8_order_0 rfl ?_
  refine r_iconst (v := (1 : Int32)) hV dX8_order_1 rfl ?_
  refine r_icmplt hV 27 dX8_order_2 rfl (fun c1 => ?_) (fun c1 => ?_)
  · have h := (if_pos c1).symm.trans h
    refine r_iconst (v := (-1 : Int32)) hV dX8_order_27 rfl ?_
    exact r_iret hV rfl dX8_order_28 (ret_r h) (ret_m h)
  · have h := (if_neg c1).symm.trans h
    refine r_iload_n hV dX8_order_5 rfl ?_
    refine r_bipush (v := (40 : Int32)) hV dX8_order_6 rfl ?_
    refine r_icmpgt hV 27 dX8_order_8 rfl (fun c2 => ?_) (fun c2 => ?_)
    · have h := (if_pos c2).symm.trans h
      refine r_iconst (v := (-1 : Int32)) hV dX8_order_27 rfl ?_
      exact r_iret hV rfl dX8_order_28 (ret_r h) (ret_m h)
    · have h := (if_neg c2).symm.trans h
      refine r_iload_n hV dX8_order_11 rfl ?_
      refine r_iconst (v := (-1 : Int32)) hV dX8_order_12 rfl ?_
      refine r_icmplt hV 27 dX8_order_13 rfl (fun c3 => ?_) (fun c3 => ?_)
      · have h := (if_pos c3).symm.trans h
        refine r_iconst (v := (-1 : Int32)) hV dX8_order_27 rfl ?_
        exact r_iret hV rfl dX8_order_28 (ret_r h) (ret_m h)
      · have h := (if_neg c3).symm.trans h
        refine r_iload_n hV dX8_order_16 rfl ?_
        refine r_aload_n hV dX8_order_17 rfl ?_
        refine r_geto hV fl_X8_23 ob_0 rfl dX8_order_18 ?_
        refine r_geto hV fl_X8_103 ob_12 rfl dX8_order_21 ?_
        refine r_icmplt hV 29 dX8_order_24 rfl (fun c4 => ?_) (fun c4 => ?_)
        · have h := (if_pos c4).symm.trans h
          refine r_aload_n hV dX8_order_29 rfl ?_
          refine r_iload_n hV dX8_order_30 rfl ?_
          obtain ⟨r5, M6, q7, h⟩ := bnd_some h
          refine r_cVv hV (m_X8_lookAhead l D cI cM b a1 FM _ _ q7) ml_X8_154 ob_0 rfl rfl (by decide) (Nat.le_of_ble_eq_true rfl) rfl dX8_order_31 ?_
          refine r_aload_n hV dX8_order_34 rfl ?_
          refine r_geto hV fl_X8_66 ob_0 rfl dX8_order_35 ?_
          obtain ⟨r8, M9, q10, h⟩ := bnd_some h
          refine r_cVv hV (m_X3_lineUp l D cI cM b M6 _ _ q10) ml_X8_230 ob_98 rfl rfl (by decide) (Nat.le_of_ble_eq_true rfl) rfl dX8_order_38 ?_
          refine r_iload_n hV dX8_order_41 rfl ?_
          refine r_iconst (v := (1 : Int32)) hV dX8_order_42 rfl ?_
          refine r_iadd hV dX8_order_43 ?_
          refine r_bv h (fun v11 h => ?_)
          refine r_istore_n hV dX8_order_44 (Nat.le_of_ble_eq_true rfl) rfl ?_
          refine r_iconst (v := (0 : Int32)) hV dX8_order_45 rfl ?_
          refine r_istore hV dX8_order_46 (Nat.le_of_ble_eq_true rfl) rfl ?_
          exact L48 FU a1 a2 v11 (0 : Int32) M9 h
        · have h := (if_neg c4).symm.trans h
          refine r_iconst (v := (-1 : Int32)) hV dX8_order_27 rfl ?_
          exact r_iret hV rfl dX8_order_28 (ret_r h) (ret_m h)
def X8_away_b98 (k18 : Int32 → Int32 → Int32 → Int32 → FMem → Opt) (x1 : Int32) (x2 : Int32) (x3 : Int32) (x4 : Int32) (FM : FMem) : Opt :=
  k18 x1 x2 x3 (x4 + (1 : Int32)) FM
def X8_away_b18s (k18 : Int32 → Int32 → Int32 → Int32 → FMem → Opt) (x1 : Int32) (x2 : Int32) (x3 : Int32) (x4 : Int32) (FM : FMem) : Opt :=
  if (FM 23 3) ≤ x4 then (
    if x1 = 0 then (
      some (x2, FM)
    ) else (
      some (x3, FM)
    )
  ) else (
    bnd (f_X1_isHidden 21 x4 FM) fun r7 M8 =>
    if r7 = 0 then (
      bnd (f_X2_look 23 ((M8 21 3) ||| ((1 : Int32) <<< (x4 &&& 31))) (M8 21 0) (41 : Int32) M8) fun r11 M12 =>
      bnd (f_X8_firstBell M12) fun r14 M15 =>
      if r14 ≤ x3 then (
        X8_away_b98 k18 x1 x2 x3 x4 M15
      ) else (
        X8_away_b98 k18 x1 x4 r14 x4 M15
      )
    ) else (
      X8_away_b98 k18 x1 x2 x3 x4 M8
    )
  )
def X8_away_b18 : Nat → Int32 → Int32 → Int32 → Int32 → FMem → Opt
  | 0, _, _, _, _, _ => none
  | nf + 1, x1, x2, x3, x4, FM => X8_away_b18s (X8_away_b18 nf) x1 x2 x3 x4 FM
def f_X8_away (a1 : Int32) (FM : FMem) : Opt :=
  bnd (f_X8_isHalf a1 FM) fun r1 M2 =>
  if r1 = 0 then (
    some ((-1 : Int32), M2)
  ) else (
    X8_away_b18 FU a1 (-4 : Int32) (-4 : Int32) (0 : Int32) M2
  )
set_option maxHeartbeats 4000000 in
set_option maxRecDepth 100000 in
theorem m_X8_away (l : Launch) (D : va_G) (cI cM : ClassId) (b : Nat) (a1 : Int32) (FM : FMem) (r0 : Int32) (FR : FMem) (h : f_X8_away a1 FM = some (r0, FR)) : Mt l (wdC D cI cM b) yX8_away cX8_away 6 (some .int) 5 122 [.ref (b + 0), .int a1] FM (some (.int r0)) FR := by
  refine Mt.of (by decide) (cat_cons rfl (cat_cons rfl cat_nil)) [some (.ref (b + 0)), some (.int a1), none, none, none, none] rfl (Nat.le_of_ble_eq_true rfl) (fun V hV => ?_)
  have B98 : ∀ (k18 : Int32 → Int32 → Int32 → Int32 → FMem → Opt) (hk18 : ∀ (x1 : Int32) (x2 : Int32) (x3 : Int32) (x4 : Int32) (FM : FMem), k18 x1 x2 x3 x4 FM = some (r0, FR) → V FM 18 [some (.ref (b + 0)), some (.int x1), some (.int x2), some (.int x3), some (.int x4), none] []) (x1 : Int32) (x2 : Int32) (x3 : Int32) (x4 : Int32) (FM : FMem), X8_away_b98 k18 x1 x2 x3 x4 FM = some (r0, FR) → V FM 98 [some (.ref (b + 0)), some (.int x1), some (.int x2), some (.int x3), some (.int x4), none] [] := by
    intro k18 hk18 x1 x2 x3 x4 FM h
    unfold X8_away_b98 at h
    refine r_iinc (v := (1 : Int32)) hV dX8_away_98 rfl rfl rfl ?_
    refine r_goto hV 18 dX8_away_101 rfl ?_
    exact hk18 x1 x2 x3 (x4 + (1 : Int32)) FM h
  have B18 : ∀ (k18 : Int32 → Int32 → Int32 → Int32 → FMem → Opt) (hk18 : ∀ (x1 : Int32) (x2 : Int32) (x3 : Int32) (x4 : Int32) (FM : FMem), k18 x1 x2 x3 x4 FM = some (r0, FR) → V FM 18 [some (.ref (b + 0)), some (.int x1), some (.int x2), some (.int x3), some (.int x4), none] []) (x1 : Int32) (x2 : Int32) (x3 : Int32) (x4 : Int32) (FM : FMem), X8_away_b18s k18 x1 x2 x3 x4 FM = some (r0, FR) → V FM 18 [some (.ref (b + 0)), some (.int x1), some (.int x2), some (.int x3), some (.int x4), none] [] := by
    intro k18 hk18 x1 x2 x3 x4 FM h
    unfold X8_away_b18s at h
    refine r_iload hV dX8_away_18 rfl ?_
    refine r_aload_n hV dX8_away_20 rfl ?_
    refine r_geto hV fl_X8_29 ob_0 rfl dX8_away_21 ?_
    refine r_geto hV fl_X8_130 ob_21 rfl dX8_away_24 ?_
    refine r_geto hV fl_X8_185 ob_23 rfl dX8_away_27 ?_
    refine r_icmpge hV 104 dX8_away_30 rfl (fun c5 => ?_) (fun c5 => ?_)
    · have h := (if_pos c5).symm.trans h
      refine r_iload_n hV dX8_away_104 rfl ?_
      refine r_ifne hV 112 dX8_away_105 rfl (fun c6 => ?_) (fun c6 => ?_)
      · have h := (if_neg c6).symm.trans h
        refine r_iload_n hV dX8_away_112 rfl ?_
        exact r_iret hV rfl dX8_away_113 (ret_r h) (ret_m h)
      · have h := (if_pos c6).symm.trans h
        refine r_iload_n hV dX8_away_108 rfl ?_
        refine r_goto hV 113 dX8_away_109 rfl ?_
        exact r_iret hV rfl dX8_away_113 (ret_r h) (ret_m h)
    · have h := (if_neg c5).symm.trans h
      refine r_aload_n hV dX8_away_33 rfl ?_
      refine r_geto hV fl_X8_29 ob_0 rfl dX8_away_34 ?_
      refine r_iload hV dX8_away_37 rfl ?_
      obtain ⟨r7, M8, q9, h⟩ := bnd_some h
      refine r_cVi hV (m_X1_isHidden l D cI cM b 21 isMo_21 x4 FM _ _ q9) ml_X8_145 ob_21 rfl rfl (by decide) (Nat.le_of_ble_eq_true rfl) rfl dX8_away_39 ?_
      refine r_ifne hV 98 dX8_away_42 rfl (fun c10 => ?_) (fun c10 => ?_)
      · have h := (if_neg c10).symm.trans h
        exact B98 k18 hk18 x1 x2 x3 x4 M8 h
      · have h := (if_pos c10).symm.trans h
        refine r_aload_n hV dX8_away_45 rfl ?_
        refine r_geto hV fl_X8_57 ob_0 rfl dX8_away_46 ?_
        refine r_aload_n hV dX8_away_49 rfl ?_
        refine r_geto hV fl_X8_29 ob_0 rfl dX8_away_50 ?_
        refine r_geto hV fl_X8_130 ob_21 rfl dX8_away_53 ?_
        refine r_aload_n hV dX8_away_56 rfl ?_
        refine r_geto hV fl_X8_29 ob_0 rfl dX8_away_57 ?_
        refine r_geto hV fl_X8_176 ob_21 rfl dX8_away_60 ?_
        refine r_iconst (v := (1 : Int32)) hV dX8_away_63 rfl ?_
        refine r_iload hV dX8_away_64 rfl ?_
        refine r_ishl hV dX8_away_66 ?_
        refine r_ior hV dX8_away_67 ?_
        refine r_aload_n hV dX8_away_68 rfl ?_
        refine r_geto hV fl_X8_29 ob_0 rfl dX8_away_69 ?_
        refine r_geto hV fl_X8_148 ob_21 rfl dX8_away_72 ?_
        refine r_bipush (v := (41 : Int32)) hV dX8_away_75 rfl ?_
        obtain ⟨r11, M12, q13, h⟩ := bnd_some h
        refine r_cVv hV (m_X2_look l D cI cM b 23 isTh_23 ((M8 21 3) ||| ((1 : Int32) <<< (x4 &&& 31))) (M8 21 0) (41 : Int32) M8 _ _ q13) ml_X8_244 ob_94 rfl rfl (by decide) (Nat.le_of_ble_eq_true rfl) rfl dX8_away_77 ?_
        refine r_aload_n hV dX8_away_80 rfl ?_
        obtain ⟨r14, M15, q16, h⟩ := bnd_some h
        refine r_cVi hV (m_X8_firstBell l D cI cM b M12 _ _ q16) ml_X8_206 ob_0 rfl rfl (by decide) (Nat.le_of_ble_eq_true rfl) rfl dX8_away_81 ?_
        refine r_istore hV dX8_away_84 (Nat.le_of_ble_eq_true rfl) rfl ?_
        refine r_iload hV dX8_away_86 rfl ?_
        refine r_iload_n hV dX8_away_88 rfl ?_
        refine r_icmple hV 98 dX8_away_89 rfl (fun c17 => ?_) (fun c17 => ?_)
        · have h := (if_pos c17).symm.trans h
          refine r_mask hV [true, true, true, true, true, false] ?_
          exact B98 k18 hk18 x1 x2 x3 x4 M15 h
        · have h := (if_neg c17).symm.trans h
          refine r_iload hV dX8_away_92 rfl ?_
          refine r_istore_n hV dX8_away_94 (Nat.le_of_ble_eq_true rfl) rfl ?_
          refine r_iload hV dX8_away_95 rfl ?_
          refine r_istore_n hV dX8_away_97 (Nat.le_of_ble_eq_true rfl) rfl ?_
          refine r_mask hV [true, true, true, true, true, false] ?_
          exact B98 k18 hk18 x1 x4 r14 x4 M15 h
  have L18 : ∀ (nf : Nat) (x1 : Int32) (x2 : Int32) (x3 : Int32) (x4 : Int32) (FM : FMem), X8_away_b18 nf x1 x2 x3 x4 FM = some (r0, FR) → V FM 18 [some (.ref (b + 0)), some (.int x1), some (.int x2), some (.int x3), some (.int x4), none] [] := by
    intro  nf
    induction nf with
    | zero => intro x1 x2 x3 x4 FM h; exact absurd (show (none : Opt) = some (r0, FR) from h) (fun h9 => by cases h9)
    | succ nf ih => intro x1 x2 x3 x4 FM h; exact B18 (X8_away_b18 nf) ih x1 x2 x3 x4 FM h
  unfold f_X8_away at h
  refine r_iload_n hV dX8_away_0 rfl ?_
  obtain ⟨r1, M2, q3, h⟩ := bnd_some h
  refine r_cSi hV (m_X8_isHalf l D cI cM b a1 FM _ _ q3) ml_X8_200 rfl (by decide) (Nat.le_of_ble_eq_true rfl) rfl dX8_away_1 ?_
  refine r_ifne hV 9 dX8_away_4 rfl (fun c4 => ?_) (fun c4 => ?_)
  · have h := (if_neg c4).symm.trans h
    refine r_bipush (v := (-4 : Int32)) hV dX8_away_9 rfl ?_
    refine r_istore_n hV dX8_away_11 (Nat.le_of_ble_eq_true rfl) rfl ?_
    refine r_bipush (v := (-4 : Int32)) hV dX8_away_12 rfl ?_
    refine r_istore_n hV dX8_away_14 (Nat.le_of_ble_eq_true rfl) rfl ?_
    refine r_iconst (v := (0 : Int32)) hV dX8_away_15 rfl ?_
    refine r_istore hV dX8_away_16 (Nat.le_of_ble_eq_true rfl) rfl ?_
    exact L18 FU a1 (-4 : Int32) (-4 : Int32) (0 : Int32) M2 h
  · have h := (if_pos c4).symm.trans h
    refine r_iconst (v := (-1 : Int32)) hV dX8_away_7 rfl ?_
    exact r_iret hV rfl dX8_away_8 (ret_r h) (ret_m h)
def f_X8_seen (a1 a2 : Int32) (FM : FMem) : Opt :=
  bnd (f_X8_isPerson a1 FM) fun r1 M2 =>
  if r1 = 0 then (
    some ((-1 : Int32), M2)
  ) else (
    if a2 < 0 then (
      some ((-1 : Int32), M2)
    ) else (
      if a2 ≤ (60 : Int32) then (
        bnd (f_X6_add a1 a2 M2) fun r7 M8 =>
        if r7 = 0 then (
          some ((-3 : Int32), M8)
        ) else (
          some ((M8 91 2), M8)
        )
      ) else (
        some ((-1 : Int32), M2)
      )
    )
  )
set_option maxHeartbeats 4000000 in
set_option maxRecDepth 100000 in
theorem m_X8_seen (l : Launch) (D : va_G) (cI cM : ClassId) (b : Nat) (a1 a2 : Int32) (FM : FMem) (r0 : Int32) (FR : FMem) (h : f_X8_seen a1 a2 FM = some (r0, FR)) : Mt l (wdC D cI cM b) yX8_seen cX8_seen 3 (some .int) 1 22 [.ref (b + 0), .int a1, .int a2] FM (some (.int r0)) FR := by
  refine Mt.of (by decide) (cat_cons rfl (cat_cons rfl (cat_cons rfl cat_nil))) [some (.ref (b + 0)), some (.int a1), some (.int a2)] rfl (Nat.le_of_ble_eq_true rfl) (fun V hV => ?_)
  unfold f_X8_seen at h
  refine r_aload_n hV dX8_seen_0 rfl ?_
  refine r_iload_n hV dX8_seen_1 rfl ?_
  obtain ⟨r1, M2, q3, h⟩ := bnd_some h
  refine r_cVi hV (m_X8_isPerson l D cI cM b a1 FM _ _ q3) ml_X8_108 ob_0 rfl rfl (by decide) (Nat.le_of_ble_eq_true rfl) rfl dX8_seen_2 ?_
  refine r_ifeq hV 18 dX8_seen_5 rfl (fun c4 => ?_) (fun c4 => ?_)
  · have h := (if_pos c4).symm.trans h
    refine r_iconst (v := (-1 : Int32)) hV dX8_seen_18 rfl ?_
    exact r_iret hV rfl dX8_seen_19 (ret_r h) (ret_m h)
  · have h := (if_neg c4).symm.trans h
    refine r_iload_n hV dX8_seen_8 rfl ?_
    refine r_iflt hV 18 dX8_seen_9 rfl (fun c5 => ?_) (fun c5 => ?_)
    · have h := (if_pos c5).symm.trans h
      refine r_iconst (v := (-1 : Int32)) hV dX8_seen_18 rfl ?_
      exact r_iret hV rfl dX8_seen_19 (ret_r h) (ret_m h)
    · have h := (if_neg c5).symm.trans h
      refine r_iload_n hV dX8_seen_12 rfl ?_
      refine r_bipush (v := (60 : Int32)) hV dX8_seen_13 rfl ?_
      refine r_icmple hV 20 dX8_seen_15 rfl (fun c6 => ?_) (fun c6 => ?_)
      · have h := (if_pos c6).symm.trans h
        refine r_aload_n hV dX8_seen_20 rfl ?_
        refine r_geto hV fl_X8_48 ob_0 rfl dX8_seen_21 ?_
        refine r_iload_n hV dX8_seen_24 rfl ?_
        refine r_iload_n hV dX8_seen_25 rfl ?_
        obtain ⟨r7, M8, q9, h⟩ := bnd_some h
        refine r_cVi hV (m_X6_add l D cI cM b a1 a2 M2 _ _ q9) ml_X8_248 ob_91 rfl rfl (by decide) (Nat.le_of_ble_eq_true rfl) rfl dX8_seen_26 ?_
        refine r_ifeq hV 42 dX8_seen_29 rfl (fun c10 => ?_) (fun c10 => ?_)
        · have h := (if_pos c10).symm.trans h
          refine r_bipush (v := (-3 : Int32)) hV dX8_seen_42 rfl ?_
          exact r_iret hV rfl dX8_seen_44 (ret_r h) (ret_m h)
        · have h := (if_neg c10).symm.trans h
          refine r_aload_n hV dX8_seen_32 rfl ?_
          refine r_geto hV fl_X8_48 ob_0 rfl dX8_seen_33 ?_
          refine r_geto hV fl_X8_250 ob_91 rfl dX8_seen_36 ?_
          refine r_goto hV 44 dX8_seen_39 rfl ?_
          exact r_iret hV rfl dX8_seen_44 (ret_r h) (ret_m h)
      · have h := (if_neg c6).symm.trans h
        refine r_iconst (v := (-1 : Int32)) hV dX8_seen_18 rfl ?_
        exact r_iret hV rfl dX8_seen_19 (ret_r h) (ret_m h)
def f_X8_forget (FM : FMem) : Opt :=
  bindv (FM 91 2) fun v1 =>
  bnd (f_X6_clear FM) fun r2 M3 =>
  some (v1, M3)
set_option maxHeartbeats 4000000 in
set_option maxRecDepth 100000 in
theorem m_X8_forget (l : Launch) (D : va_G) (cI cM : ClassId) (b : Nat) (FM : FMem) (r0 : Int32) (FR : FMem) (h : f_X8_forget FM = some (r0, FR)) : Mt l (wdC D cI cM b) yX8_forget cX8_forget 2 (some .int) 1 20 [.ref (b + 0)] FM (some (.int r0)) FR := by
  refine Mt.of (by decide) (cat_cons rfl cat_nil) [some (.ref (b + 0)), none] rfl (Nat.le_of_ble_eq_true rfl) (fun V hV => ?_)
  unfold f_X8_forget at h
  refine r_aload_n hV dX8_forget_0 rfl ?_
  refine r_geto hV fl_X8_48 ob_0 rfl dX8_forget_1 ?_
  refine r_geto hV fl_X8_250 ob_91 rfl dX8_forget_4 ?_
  refine r_bv h (fun v1 h => ?_)
  refine r_istore_n hV dX8_forget_7 (Nat.le_of_ble_eq_true rfl) rfl ?_
  refine r_aload_n hV dX8_forget_8 rfl ?_
  refine r_geto hV fl_X8_48 ob_0 rfl dX8_forget_9 ?_
  obtain ⟨r2, M3, q4, h⟩ := bnd_some h
  refine r_cVv hV (m_X6_clear l D cI cM b FM _ _ q4) ml_X8_107 ob_91 rfl rfl (by decide) (Nat.le_of_ble_eq_true rfl) rfl dX8_forget_12 ?_
  refine r_iload_n hV dX8_forget_15 rfl ?_
  exact r_iret hV rfl dX8_forget_16 (ret_r h) (ret_m h)
def X8_tastes_b87 (k44 : Int32 → Int32 → Int32 → Int32 → Int32 → FMem → Opt) (x1 : Int32) (x2 : Int32) (x3 : Int32) (x4 : Int32) (x5 : Int32) (FM : FMem) : Opt :=
  k44 x1 x2 x3 x4 (x5 + (1 : Int32)) FM
def X8_tastes_b85 (k44 : Int32 → Int32 → Int32 → Int32 → Int32 → FMem → Opt) (x1 : Int32) (x2 : Int32) (x3 : Int32) (x5 : Int32) (s0 : Int32) (FM : FMem) : Opt :=
  X8_tastes_b87 k44 x1 x2 x3 s0 x5 FM
def X8_tastes_b44s (k44 : Int32 → Int32 → Int32 → Int32 → Int32 → FMem → Opt) (x1 : Int32) (x2 : Int32) (x3 : Int32) (x4 : Int32) (x5 : Int32) (FM : FMem) : Opt :=
  if (31 : Int32) < x5 then (
    if x2 = 0 then (
      some (x3, FM)
    ) else (
      some (x4, FM)
    )
  ) else (
    bnd (f_X2_weigh x1 x5 FM) fun r14 M15 =>
    bnd (f_X8_wasSo M15) fun r17 M18 =>
    if r17 = 0 then (
      X8_tastes_b87 k44 x1 x2 x3 x4 x5 M18
    ) else (
      if x4 = (-4 : Int32) then (
        X8_tastes_b85 k44 x1 x2 (x3 + (1 : Int32)) x5 x5 M18
      ) else (
        X8_tastes_b85 k44 x1 x2 (x3 + (1 : Int32)) x5 x4 M18
      )
    )
  )
def X8_tastes_b44 : Nat → Int32 → Int32 → Int32 → Int32 → Int32 → FMem → Opt
  | 0, _, _, _, _, _, _ => none
  | nf + 1, x1, x2, x3, x4, x5, FM => X8_tastes_b44s (X8_tastes_b44 nf) x1 x2 x3 x4 x5 FM
def f_X8_tastes (a1 a2 : Int32) (FM : FMem) : Opt :=
  bnd (f_X8_isPerson a1 FM) fun r1 M2 =>
  if r1 = 0 then (
    some ((-1 : Int32), M2)
  ) else (
    bnd (f_X8_isHalf a2 M2) fun r5 M6 =>
    if r5 = 0 then (
      some ((-1 : Int32), M6)
    ) else (
      bnd (f_X2_look 16 (0 : Int32) (0 : Int32) (61 : Int32) M6) fun r9 M10 =>
      X8_tastes_b44 FU a1 a2 (0 : Int32) (-4 : Int32) (0 : Int32) M10
    )
  )
set_option maxHeartbeats 4000000 in
set_option maxRecDepth 100000 in
theorem m_X8_tastes (l : Launch) (D : va_G) (cI cM : ClassId) (b : Nat) (a1 a2 : Int32) (FM : FMem) (r0 : Int32) (FR : FMem) (h : f_X8_tastes a1 a2 FM = some (r0, FR)) : Mt l (wdC D cI cM b) yX8_tastes cX8_tastes 6 (some .int) 5 122 [.ref (b + 0), .int a1, .int a2] FM (some (.int r0)) FR := by
  refine Mt.of (by decide) (cat_cons rfl (cat_cons rfl (cat_cons rfl cat_nil))) [some (.ref (b + 0)), some (.int a1), some (.int a2), none, none, none] rfl (Nat.le_of_ble_eq_true rfl) (fun V hV => ?_)
  have B87 : ∀ (k44 : Int32 → Int32 → Int32 → Int32 → Int32 → FMem → Opt) (hk44 : ∀ (x1 : Int32) (x2 : Int32) (x3 : Int32) (x4 : Int32) (x5 : Int32) (FM : FMem), k44 x1 x2 x3 x4 x5 FM = some (r0, FR) → V FM 44 [some (.ref (b + 0)), some (.int x1), some (.int x2), some (.int x3), some (.int x4), some (.int x5)] []) (x1 : Int32) (x2 : Int32) (x3 : Int32) (x4 : Int32) (x5 : Int32) (FM : FMem), X8_tastes_b87 k44 x1 x2 x3 x4 x5 FM = some (r0, FR) → V FM 87 [some (.ref (b + 0)), some (.int x1), some (.int x2), some (.int x3), some (.int x4), some (.int x5)] [] := by
    intro k44 hk44 x1 x2 x3 x4 x5 FM h
    unfold X8_tastes_b87 at h
    refine r_iinc (v := (1 : Int32)) hV dX8_tastes_87 rfl rfl rfl ?_
    refine r_goto hV 44 dX8_tastes_90 rfl ?_
    exact hk44 x1 x2 x3 x4 (x5 + (1 : Int32)) FM h
  have B85 : ∀ (k44 : Int32 → Int32 → Int32 → Int32 → Int32 → FMem → Opt) (hk44 : ∀ (x1 : Int32) (x2 : Int32) (x3 : Int32) (x4 : Int32) (x5 : Int32) (FM : FMem), k44 x1 x2 x3 x4 x5 FM = some (r0, FR) → V FM 44 [some (.ref (b + 0)), some (.int x1), some (.int x2), some (.int x3), some (.int x4), some (.int x5)] []) (x1 : Int32) (x2 : Int32) (x3 : Int32) (x5 : Int32) (s0 : Int32) (FM : FMem), X8_tastes_b85 k44 x1 x2 x3 x5 s0 FM = some (r0, FR) → V FM 85 [some (.ref (b + 0)), some (.int x1), some (.int x2), some (.int x3), none, some (.int x5)] [.int s0] := by
    intro k44 hk44 x1 x2 x3 x5 s0 FM h
    unfold X8_tastes_b85 at h
    refine r_istore hV dX8_tastes_85 (Nat.le_of_ble_eq_true rfl) rfl ?_
    exact B87 k44 hk44 x1 x2 x3 s0 x5 FM h
  have B44 : ∀ (k44 : Int32 → Int32 → Int32 → Int32 → Int32 → FMem → Opt) (hk44 : ∀ (x1 : Int32) (x2 : Int32) (x3 : Int32) (x4 : Int32) (x5 : Int32) (FM : FMem), k44 x1 x2 x3 x4 x5 FM = some (r0, FR) → V FM 44 [some (.ref (b + 0)), some (.int x1), some (.int x2), some (.int x3), some (.int x4), some (.int x5)] []) (x1 : Int32) (x2 : Int32) (x3 : Int32) (x4 : Int32) (x5 : Int32) (FM : FMem), X8_tastes_b44s k44 x1 x2 x3 x4 x5 FM = some (r0, FR) → V FM 44 [some (.ref (b + 0)), some (.int x1), some (.int x2), some (.int x3), some (.int x4), some (.int x5)] [] := by
    intro k44 hk44 x1 x2 x3 x4 x5 FM h
    unfold X8_tastes_b44s at h
    refine r_iload hV dX8_tastes_44 rfl ?_
    refine r_bipush (v := (31 : Int32)) hV dX8_tastes_46 rfl ?_
    refine r_icmpgt hV 93 dX8_tastes_48 rfl (fun c12 => ?_) (fun c12 => ?_)
    · have h := (if_pos c12).symm.trans h
      refine r_iload_n hV dX8_tastes_93 rfl ?_
      refine r_ifne hV 101 dX8_tastes_94 rfl (fun c13 => ?_) (fun c13 => ?_)
      · have h := (if_neg c13).symm.trans h
        refine r_iload hV dX8_tastes_101 rfl ?_
        exact r_iret hV rfl dX8_tastes_103 (ret_r h) (ret_m h)
      · have h := (if_pos c13).symm.trans h
        refine r_iload_n hV dX8_tastes_97 rfl ?_
        refine r_goto hV 103 dX8_tastes_98 rfl ?_
        exact r_iret hV rfl dX8_tastes_103 (ret_r h) (ret_m h)
    · have h := (if_neg c12).symm.trans h
      refine r_aload_n hV dX8_tastes_51 rfl ?_
      refine r_geto hV fl_X8_57 ob_0 rfl dX8_tastes_52 ?_
      refine r_iload_n hV dX8_tastes_55 rfl ?_
      refine r_iload hV dX8_tastes_56 rfl ?_
      obtain ⟨r14, M15, q16, h⟩ := bnd_some h
      refine r_cVv hV (m_X2_weigh l D cI cM b x1 x5 FM _ _ q16) ml_X8_252 ob_94 rfl rfl (by decide) (Nat.le_of_ble_eq_true rfl) rfl dX8_tastes_58 ?_
      refine r_aload_n hV dX8_tastes_61 rfl ?_
      obtain ⟨r17, M18, q19, h⟩ := bnd_some h
      refine r_cVi hV (m_X8_wasSo l D cI cM b M15 _ _ q19) ml_X8_256 ob_0 rfl rfl (by decide) (Nat.le_of_ble_eq_true rfl) rfl dX8_tastes_62 ?_
      refine r_ifeq hV 87 dX8_tastes_65 rfl (fun c20 => ?_) (fun c20 => ?_)
      · have h := (if_pos c20).symm.trans h
        exact B87 k44 hk44 x1 x2 x3 x4 x5 M18 h
      · have h := (if_neg c20).symm.trans h
        refine r_iinc (v := (1 : Int32)) hV dX8_tastes_68 rfl rfl rfl ?_
        refine r_iload hV dX8_tastes_71 rfl ?_
        refine r_bipush (v := (-4 : Int32)) hV dX8_tastes_73 rfl ?_
        refine r_icmpne hV 83 dX8_tastes_75 rfl (fun c21 => ?_) (fun c21 => ?_)
        · have h := (if_neg c21).symm.trans h
          refine r_iload hV dX8_tastes_83 rfl ?_
          refine r_mask hV [true, true, true, true, false, true] ?_
          exact B85 k44 hk44 x1 x2 (x3 + (1 : Int32)) x5 x4 M18 h
        · have h := (if_pos c21).symm.trans h
          refine r_iload hV dX8_tastes_78 rfl ?_
          refine r_goto hV 85 dX8_tastes_80 rfl ?_
          refine r_mask hV [true, true, true, true, false, true] ?_
          exact B85 k44 hk44 x1 x2 (x3 + (1 : Int32)) x5 x5 M18 h
  have L44 : ∀ (nf : Nat) (x1 : Int32) (x2 : Int32) (x3 : Int32) (x4 : Int32) (x5 : Int32) (FM : FMem), X8_tastes_b44 nf x1 x2 x3 x4 x5 FM = some (r0, FR) → V FM 44 [some (.ref (b + 0)), some (.int x1), some (.int x2), some (.int x3), some (.int x4), some (.int x5)] [] := by
    intro  nf
    induction nf with
    | zero => intro x1 x2 x3 x4 x5 FM h; exact absurd (show (none : Opt) = some (r0, FR) from h) (fun h9 => by cases h9)
    | succ nf ih => intro x1 x2 x3 x4 x5 FM h; exact B44 (X8_tastes_b44 nf) ih x1 x2 x3 x4 x5 FM h
  unfold f_X8_tastes at h
  refine r_aload_n hV dX8_tastes_0 rfl ?_
  refine r_iload_n hV dX8_tastes_1 rfl ?_
  obtain ⟨r1, M2, q3, h⟩ := bnd_some h
  refine r_cVi hV (m_X8_isPerson l D cI cM b a1 FM _ _ q3) ml_X8_108 ob_0 rfl rfl (by decide) (Nat.le_of_ble_eq_true rfl) rfl dX8_tastes_2 ?_
  refine r_ifeq hV 15 dX8_tastes_5 rfl (fun c4 => ?_) (fun c4 => ?_)
  · have h := (if_pos c4).symm.trans h
    refine r_iconst (v := (-1 : Int32)) hV dX8_tastes_15 rfl ?_
    exact r_iret hV rfl dX8_tastes_16 (ret_r h) (ret_m h)
  · have h := (if_neg c4).symm.trans h
    refine r_iload_n hV dX8_tastes_8 rfl ?_
    obtain ⟨r5, M6, q7, h⟩ := bnd_some h
    refine r_cSi hV (m_X8_isHalf l D cI cM b a2 M2 _ _ q7) ml_X8_200 rfl (by decide) (Nat.le_of_ble_eq_true rfl) rfl dX8_tastes_9 ?_
    refine r_ifne hV 17 dX8_tastes_12 rfl (fun c8 => ?_) (fun c8 => ?_)
    · have h := (if_neg c8).symm.trans h
      refine r_aload_n hV dX8_tastes_17 rfl ?_
      refine r_geto hV fl_X8_57 ob_0 rfl dX8_tastes_18 ?_
      refine r_aload_n hV dX8_tastes_21 rfl ?_
      refine r_geto hV fl_X8_23 ob_0 rfl dX8_tastes_22 ?_
      refine r_geto hV fl_X8_251 ob_12 rfl dX8_tastes_25 ?_
      refine r_iconst (v := (0 : Int32)) hV dX8_tastes_28 rfl ?_
      refine r_iconst (v := (0 : Int32)) hV dX8_tastes_29 rfl ?_
      refine r_bipush (v := (61 : Int32)) hV dX8_tastes_30 rfl ?_
      obtain ⟨r9, M10, q11, h⟩ := bnd_some h
      refine r_cVv hV (m_X2_look l D cI cM b 16 isTh_16 (0 : Int32) (0 : Int32) (61 : Int32) M6 _ _ q11) ml_X8_244 ob_94 rfl rfl (by decide) (Nat.le_of_ble_eq_true rfl) rfl dX8_tastes_32 ?_
      refine r_iconst (v := (0 : Int32)) hV dX8_tastes_35 rfl ?_
      refine r_istore_n hV dX8_tastes_36 (Nat.le_of_ble_eq_true rfl) rfl ?_
      refine r_bipush (v := (-4 : Int32)) hV dX8_tastes_37 rfl ?_
      refine r_istore hV dX8_tastes_39 (Nat.le_of_ble_eq_true rfl) rfl ?_
      refine r_iconst (v := (0 : Int32)) hV dX8_tastes_41 rfl ?_
      refine r_istore hV dX8_tastes_42 (Nat.le_of_ble_eq_true rfl) rfl ?_
      exact L44 FU a1 a2 (0 : Int32) (-4 : Int32) (0 : Int32) M10 h
    · have h := (if_pos c8).symm.trans h
      refine r_iconst (v := (-1 : Int32)) hV dX8_tastes_15 rfl ?_
      exact r_iret hV rfl dX8_tastes_16 (ret_r h) (ret_m h)
def X8_lasts_b109 (k57 : Int32 → Int32 → Int32 → Int32 → Int32 → Int32 → Int32 → FMem → Opt) (x1 : Int32) (x2 : Int32) (x3 : Int32) (x4 : Int32) (x5 : Int32) (x6 : Int32) (x7 : Int32) (FM : FMem) : Opt :=
  k57 x1 x2 x3 x4 x5 x6 (x7 + (1 : Int32)) FM
def X8_lasts_b57s (k57 : Int32 → Int32 → Int32 → Int32 → Int32 → Int32 → Int32 → FMem → Opt) (x1 : Int32) (x2 : Int32) (x3 : Int32) (x4 : Int32) (x5 : Int32) (x6 : Int32) (x7 : Int32) (FM : FMem) : Opt :=
  if ((1 : Int32) <<< (x1 &&& 31)) ≤ x7 then (
    bnd (f_X8_power (10 : Int32) x1 FM) fun r21 M22 =>
    bnd (f_X8_greatestDivisor r21 x6 M22) fun r24 M25 =>
    bindv (jmax (1 : Int32) r24) fun v27 =>
    if x5 = 0 then (
      grd (nz v27) <|
      some ((x6 / v27), M25)
    ) else (
      grd (nz v27) <|
      some ((r21 / v27), M25)
    )
  ) else (
    bnd (f_X8_staysWith x2 x3 x7 x1 FM) fun r31 M32 =>
    if r31 = 0 then (
      X8_lasts_b109 k57 x1 x2 x3 x4 x5 x6 x7 M32
    ) else (
      bnd (f_J6_bitCount_0f7a4 x7 M32) fun r35 M36 =>
      bnd (f_X8_power x4 r35 M36) fun r38 M39 =>
      bnd (f_X8_power ((10 : Int32) - x4) (x1 - r35) M39) fun r41 M42 =>
      bindv (x6 + (r38 * r41)) fun v44 =>
      X8_lasts_b109 k57 x1 x2 x3 x4 x5 v44 x7 M42
    )
  )
def X8_lasts_b57 : Nat → Int32 → Int32 → Int32 → Int32 → Int32 → Int32 → Int32 → FMem → Opt
  | 0, _, _, _, _, _, _, _, _ => none
  | nf + 1, x1, x2, x3, x4, x5, x6, x7, FM => X8_lasts_b57s (X8_lasts_b57 nf) x1 x2 x3 x4 x5 x6 x7 FM
def f_X8_lasts (a1 a2 a3 a4 a5 : Int32) (FM : FMem) : Opt :=
  if a1 < 0 then (
    some ((-1 : Int32), FM)
  ) else (
    if (6 : Int32) < a1 then (
      some ((-1 : Int32), FM)
    ) else (
      bnd (f_X8_isTopics a2 FM) fun r3 M4 =>
      if r3 = 0 then (
        some ((-1 : Int32), M4)
      ) else (
        bnd (f_X8_isStrength a3 M4) fun r7 M8 =>
        if r7 = 0 then (
          some ((-1 : Int32), M8)
        ) else (
          if a4 < 0 then (
            some ((-1 : Int32), M8)
          ) else (
            if (10 : Int32) < a4 then (
              some ((-1 : Int32), M8)
            ) else (
              bnd (f_X8_isHalf a5 M8) fun r13 M14 =>
              if r13 = 0 then (
                some ((-1 : Int32), M14)
              ) else (
                bnd (f_X8_lookAhead a1 M14) fun r17 M18 =>
                X8_lasts_b57 FU a1 a2 a3 a4 a5 (0 : Int32) (0 : Int32) M18
              )
            )
          )
        )
      )
    )
  )
set_option maxHeartbeats 4000000 in
set_option maxRecDepth 100000 in
theorem m_X8_lasts (l : Launch) (D : va_G) (cI cM : ClassId) (b : Nat) (a1 a2 a3 a4 a5 : Int32) (FM : FMem) (r0 : Int32) (FR : FMem) (h : f_X8_lasts a1 a2 a3 a4 a5 FM = some (r0, FR)) : Mt l (wdC D cI cM b) yX8_lasts cX8_lasts 9 (some .int) 6 143 [.ref (b + 0), .int a1, .int a2, .int a3, .int a4, .int a5] FM (some (.int r0)) FR := by
  refine Mt.of (by decide) (cat_cons rfl (cat_cons rfl (cat_cons rfl (cat_cons rfl (cat_cons rfl (cat_cons rfl cat_nil)))))) [some (.ref (b + 0)), some (.int a1), some (.int a2), some (.int a3), some (.int a4), some (.int a5), none, none, none] rfl (Nat.le_of_ble_eq_true rfl) (fun V hV => ?_)
  have B109 : ∀ (k57 : Int32 → Int32 → Int32 → Int32 → Int32 → Int32 → Int32 → FMem → Opt) (hk57 : ∀ (x1 : Int32) (x2 : Int32) (x3 : Int32) (x4 : Int32) (x5 : Int32) (x6 : Int32) (x7 : Int32) (FM : FMem), k57 x1 x2 x3 x4 x5 x6 x7 FM = some (r0, FR) → V FM 57 [some (.ref (b + 0)), some (.int x1), some (.int x2), some (.int x3), some (.int x4), some (.int x5), some (.int x6), some (.int x7), none] []) (x1 : Int32) (x2 : Int32) (x3 : Int32) (x4 : Int32) (x5 : Int32) (x6 : Int32) (x7 : Int32) (FM : FMem), X8_lasts_b109 k57 x1 x2 x3 x4 x5 x6 x7 FM = some (r0, FR) → V FM 109 [some (.ref (b + 0)), some (.int x1), some (.int x2), some (.int x3), some (.int x4), some (.int x5), some (.int x6), some (.int x7), none] [] := by
    intro k57 hk57 x1 x2 x3 x4 x5 x6 x7 FM h
    unfold X8_lasts_b109 at h
    refine r_iinc (v := (1 : Int32)) hV dX8_lasts_109 rfl rfl rfl ?_
    refine r_goto hV 57 dX8_lasts_112 rfl ?_
    exact hk57 x1 x2 x3 x4 x5 x6 (x7 + (1 : Int32)) FM h
  have B57 : ∀ (k57 : Int32 → Int32 → Int32 → Int32 → Int32 → Int32 → Int32 → FMem → Opt) (hk57 : ∀ (x1 : Int32) (x2 : Int32) (x3 : Int32) (x4 : Int32) (x5 : Int32) (x6 : Int32) (x7 : Int32) (FM : FMem), k57 x1 x2 x3 x4 x5 x6 x7 FM = some (r0, FR) → V FM 57 [some (.ref (b + 0)), some (.int x1), some (.int x2), some (.int x3), some (.int x4), some (.int x5), some (.int x6), some (.int x7), none] []) (x1 : Int32) (x2 : Int32) (x3 : Int32) (x4 : Int32) (x5 : Int32) (x6 : Int32) (x7 : Int32) (FM : FMem), X8_lasts_b57s k57 x1 x2 x3 x4 x5 x6 x7 FM = some (r0, FR) → V FM 57 [some (.ref (b + 0)), some (.int x1), some (.int x2), some (.int x3), some (.int x4), some (.int x5), some (.int x6), some (.int x7), none] [] := by
    intro k57 hk57 x1 x2 x3 x4 x5 x6 x7 FM h
    unfold X8_lasts_b57s at h
    refine r_iload hV dX8_lasts_57 rfl ?_
    refine r_iconst (v := (1 : Int32)) hV dX8_lasts_59 rfl ?_
    refine r_iload_n hV dX8_lasts_60 rfl ?_
    refine r_ishl hV dX8_lasts_61 ?_
    refine r_icmpge hV 115 dX8_lasts_62 rfl (fun c20 => ?_) (fun c20 => ?_)
    · have h := (if_pos c20).symm.trans h
      refine r_bipush (v := (10 : Int32)) hV dX8_lasts_115 rfl ?_
      refine r_iload_n hV dX8_lasts_117 rfl ?_
      obtain ⟨r21, M22, q23, h⟩ := bnd_some h
      refine r_cSi hV (m_X8_power l D cI cM b (10 : Int32) x1 FM _ _ q23) ml_X8_264 rfl (by decide) (Nat.le_of_ble_eq_true rfl) rfl dX8_lasts_118 ?_
      refine r_istore hV dX8_lasts_121 (Nat.le_of_ble_eq_true rfl) rfl ?_
      refine r_iconst (v := (1 : Int32)) hV dX8_lasts_123 rfl ?_
      refine r_iload hV dX8_lasts_124 rfl ?_
      refine r_iload hV dX8_lasts_126 rfl ?_
      obtain ⟨r24, M25, q26, h⟩ := bnd_some h
      refine r_cSi hV (m_X8_greatestDivisor l D cI cM b r21 x6 M22 _ _ q26) ml_X8_267 rfl (by decide) (Nat.le_of_ble_eq_true rfl) rfl dX8_lasts_128 ?_
      refine r_mmax hV (inT_of 748 (by decide +kernel) (by decide +kernel)) (inT_of 195 (by decide +kernel) (by decide +kernel)) (inT_of 51 (by decide +kernel) (by decide +kernel)) (inT_of 196 (by decide +kernel) (by decide +kernel)) ⟨Nat.le_of_ble_eq_true rfl, Nat.le_of_ble_eq_true rfl⟩ dX8_lasts_131 ?_
      refine r_bv h (fun v27 h => ?_)
      refine r_istore hV dX8_lasts_134 (Nat.le_of_ble_eq_true rfl) rfl ?_
      refine r_iload hV dX8_lasts_136 rfl ?_
      refine r_ifne hV 149 dX8_lasts_138 rfl (fun c28 => ?_) (fun c28 => ?_)
      · have h := (if_neg c28).symm.trans h
        refine r_iload hV dX8_lasts_149 rfl ?_
        refine r_iload hV dX8_lasts_151 rfl ?_
        obtain ⟨g29, h⟩ := grd_some h
        refine r_idiv hV dX8_lasts_153 (nz_ne g29) ?_
        exact r_iret hV rfl dX8_lasts_154 (ret_r h) (ret_m h)
      · have h := (if_pos c28).symm.trans h
        refine r_iload hV dX8_lasts_141 rfl ?_
        refine r_iload hV dX8_lasts_143 rfl ?_
        obtain ⟨g30, h⟩ := grd_some h
        refine r_idiv hV dX8_lasts_145 (nz_ne g30) ?_
        refine r_goto hV 154 dX8_lasts_146 rfl ?_
        exact r_iret hV rfl dX8_lasts_154 (ret_r h) (ret_m h)
    · have h := (if_neg c20).symm.trans h
      refine r_aload_n hV dX8_lasts_65 rfl ?_
      refine r_iload_n hV dX8_lasts_66 rfl ?_
      refine r_iload_n hV dX8_lasts_67 rfl ?_
      refine r_iload hV dX8_lasts_68 rfl ?_
      refine r_iload_n hV dX8_lasts_70 rfl ?_
      obtain ⟨r31, M32, q33, h⟩ := bnd_some h
      refine r_cVi hV (m_X8_staysWith l D cI cM b x2 x3 x7 x1 FM _ _ q33) ml_X8_260 ob_0 rfl rfl (by decide) (Nat.le_of_ble_eq_true rfl) rfl dX8_lasts_71 ?_
      refine r_ifeq hV 109 dX8_lasts_74 rfl (fun c34 => ?_) (fun c34 => ?_)
      · have h := (if_pos c34).symm.trans h
        exact B109 k57 hk57 x1 x2 x3 x4 x5 x6 x7 M32 h
      · have h := (if_neg c34).symm.trans h
        refine r_iload hV dX8_lasts_77 rfl ?_
        obtain ⟨r35, M36, q37, h⟩ := bnd_some h
        refine r_cSi hV (m_J6_bitCount_0f7a4 l D cI cM b x7 M32 _ _ q37) ml_X8_212 rfl (by decide) (Nat.le_of_ble_eq_true rfl) rfl dX8_lasts_79 ?_
        refine r_istore hV dX8_lasts_82 (Nat.le_of_ble_eq_true rfl) rfl ?_
        refine r_iload hV dX8_lasts_84 rfl ?_
        refine r_iload hV dX8_lasts_86 rfl ?_
        refine r_iload hV dX8_lasts_88 rfl ?_
        obtain ⟨r38, M39, q40, h⟩ := bnd_some h
        refine r_cSi hV (m_X8_power l D cI cM b x4 r35 M36 _ _ q40) ml_X8_264 rfl (by decide) (Nat.le_of_ble_eq_true rfl) rfl dX8_lasts_90 ?_
        refine r_bipush (v := (10 : Int32)) hV dX8_lasts_93 rfl ?_
        refine r_iload hV dX8_lasts_95 rfl ?_
        refine r_isub hV dX8_lasts_97 ?_
        refine r_iload_n hV dX8_lasts_98 rfl ?_
        refine r_iload hV dX8_lasts_99 rfl ?_
        refine r_isub hV dX8_lasts_101 ?_
        obtain ⟨r41, M42, q43, h⟩ := bnd_some h
        refine r_cSi hV (m_X8_power l D cI cM b ((10 : Int32) - x4) (x1 - r35) M39 _ _ q43) ml_X8_264 rfl (by decide) (Nat.le_of_ble_eq_true rfl) rfl dX8_lasts_102 ?_
        refine r_imul hV dX8_lasts_105 ?_
        refine r_iadd hV dX8_lasts_106 ?_
        refine r_bv h (fun v44 h => ?_)
        refine r_istore hV dX8_lasts_107 (Nat.le_of_ble_eq_true rfl) rfl ?_
        refine r_mask hV [true, true, true, true, true, true, true, true, false] ?_
        exact B109 k57 hk57 x1 x2 x3 x4 x5 v44 x7 M42 h
  have L57 : ∀ (nf : Nat) (x1 : Int32) (x2 : Int32) (x3 : Int32) (x4 : Int32) (x5 : Int32) (x6 : Int32) (x7 : Int32) (FM : FMem), X8_lasts_b57 nf x1 x2 x3 x4 x5 x6 x7 FM = some (r0, FR) → V FM 57 [some (.ref (b + 0)), some (.int x1), some (.int x2), some (.int x3), some (.int x4), some (.int x5), some (.int x6), some (.int x7), none] [] := by
    intro  nf
    induction nf with
    | zero => intro x1 x2 x3 x4 x5 x6 x7 FM h; exact absurd (show (none : Opt) = some (r0, FR) from h) (fun h9 => by cases h9)
    | succ nf ih => intro x1 x2 x3 x4 x5 x6 x7 FM h; exact B57 (X8_lasts_b57 nf) ih x1 x2 x3 x4 x5 x6 x7 FM h
  unfold f_X8_lasts at h
  refine r_iload_n hV dX8_lasts_0 rfl ?_
  refine r_iflt hV 44 dX8_lasts_1 rfl (fun c1 => ?_) (fun c1 => ?_)
  · have h := (if_pos c1).symm.trans h
    refine r_iconst (v := (-1 : Int32)) hV dX8_lasts_44 rfl ?_
    exact r_iret hV rfl dX8_lasts_45 (ret_r h) (ret_m h)
  · have h := (if_neg c1).symm.trans h
    refine r_iload_n hV dX8_lasts_4 rfl ?_
    refine r_bipush (v := (6 : Int32)) hV dX8_lasts_5 rfl ?_
    refine r_icmpgt hV 44 dX8_lasts_7 rfl (fun c2 => ?_) (fun c2 => ?_)
    · have h := (if_pos c2).symm.trans h
      refine r_iconst (v := (-1 : Int32)) hV dX8_lasts_44 rfl ?_
      exact r_iret hV rfl dX8_lasts_45 (ret_r h) (ret_m h)
    · have h := (if_neg c2).symm.trans h
      refine r_iload_n hV dX8_lasts_10 rfl ?_
      obtain ⟨r3, M4, q5, h⟩ := bnd_some h
      refine r_cSi hV (m_X8_isTopics l D cI cM b a2 FM _ _ q5) ml_X8_179 rfl (by decide) (Nat.le_of_ble_eq_true rfl) rfl dX8_lasts_11 ?_
      refine r_ifeq hV 44 dX8_lasts_14 rfl (fun c6 => ?_) (fun c6 => ?_)
      · have h := (if_pos c6).symm.trans h
        refine r_iconst (v := (-1 : Int32)) hV dX8_lasts_44 rfl ?_
        exact r_iret hV rfl dX8_lasts_45 (ret_r h) (ret_m h)
      · have h := (if_neg c6).symm.trans h
        refine r_iload_n hV dX8_lasts_17 rfl ?_
        obtain ⟨r7, M8, q9, h⟩ := bnd_some h
        refine r_cSi hV (m_X8_isStrength l D cI cM b a3 M4 _ _ q9) ml_X8_182 rfl (by decide) (Nat.le_of_ble_eq_true rfl) rfl dX8_lasts_18 ?_
        refine r_ifeq hV 44 dX8_lasts_21 rfl (fun c10 => ?_) (fun c10 => ?_)
        · have h := (if_pos c10).symm.trans h
          refine r_iconst (v := (-1 : Int32)) hV dX8_lasts_44 rfl ?_
          exact r_iret hV rfl dX8_lasts_45 (ret_r h) (ret_m h)
        · have h := (if_neg c10).symm.trans h
          refine r_iload hV dX8_lasts_24 rfl ?_
          refine r_iflt hV 44 dX8_lasts_26 rfl (fun c11 => ?_) (fun c11 => ?_)
          · have h := (if_pos c11).symm.trans h
            refine r_iconst (v := (-1 : Int32)) hV dX8_lasts_44 rfl ?_
            exact r_iret hV rfl dX8_lasts_45 (ret_r h) (ret_m h)
          · have h := (if_neg c11).symm.trans h
            refine r_iload hV dX8_lasts_29 rfl ?_
            refine r_bipush (v := (10 : Int32)) hV dX8_lasts_31 rfl ?_
            refine r_icmpgt hV 44 dX8_lasts_33 rfl (fun c12 => ?_) (fun c12 => ?_)
            · have h := (if_pos c12).symm.trans h
              refine r_iconst (v := (-1 : Int32)) hV dX8_lasts_44 rfl ?_
              exact r_iret hV rfl dX8_lasts_45 (ret_r h) (ret_m h)
            · have h := (if_neg c12).symm.trans h
              refine r_iload hV dX8_lasts_36 rfl ?_
              obtain ⟨r13, M14, q15, h⟩ := bnd_some h
              refine r_cSi hV (m_X8_isHalf l D cI cM b a5 M8 _ _ q15) ml_X8_200 rfl (by decide) (Nat.le_of_ble_eq_true rfl) rfl dX8_lasts_38 ?_
              refine r_ifne hV 46 dX8_lasts_41 rfl (fun c16 => ?_) (fun c16 => ?_)
              · have h := (if_neg c16).symm.trans h
                refine r_aload_n hV dX8_lasts_46 rfl ?_
                refine r_iload_n hV dX8_lasts_47 rfl ?_
                obtain ⟨r17, M18, q19, h⟩ := bnd_some h
                refine r_cVv hV (m_X8_lookAhead l D cI cM b a1 M14 _ _ q19) ml_X8_154 ob_0 rfl rfl (by decide) (Nat.le_of_ble_eq_true rfl) rfl dX8_lasts_48 ?_
                refine r_iconst (v := (0 : Int32)) hV dX8_lasts_51 rfl ?_
                refine r_istore hV dX8_lasts_52 (Nat.le_of_ble_eq_true rfl) rfl ?_
                refine r_iconst (v := (0 : Int32)) hV dX8_lasts_54 rfl ?_
                refine r_istore hV dX8_lasts_55 (Nat.le_of_ble_eq_true rfl) rfl ?_
                exact L57 FU a1 a2 a3 a4 a5 (0 : Int32) (0 : Int32) M18 h
              · have h := (if_pos c16).symm.trans h
                refine r_iconst (v := (-1 : Int32)) hV dX8_lasts_44 rfl ?_
                exact r_iret hV rfl dX8_lasts_45 (ret_r h) (ret_m h)
def X8_content_b57 (k20 : Int32 → Int32 → Int32 → FMem → Opt) (x1 : Int32) (x2 : Int32) (x3 : Int32) (FM : FMem) : Opt :=
  k20 x1 x2 (x3 + (1 : Int32)) FM
def X8_content_b20s (k20 : Int32 → Int32 → Int32 → FMem → Opt) (x1 : Int32) (x2 : Int32) (x3 : Int32) (FM : FMem) : Opt :=
  if (FM 12 3) ≤ x3 then (
    some (x2, FM)
  ) else (
    bnd (f_X2_gainOf x1 x3 FM) fun r9 M10 =>
    bnd (f_X0_standsOf 12 x3 M10) fun r12 M13 =>
    if r9 < r12 then (
      X8_content_b57 k20 x1 x2 x3 M13
    ) else (
      bindv (x2 ||| ((1 : Int32) <<< (x3 &&& 31))) fun v16 =>
      X8_content_b57 k20 x1 v16 x3 M13
    )
  )
def X8_content_b20 : Nat → Int32 → Int32 → Int32 → FMem → Opt
  | 0, _, _, _, _ => none
  | nf + 1, x1, x2, x3, FM => X8_content_b20s (X8_content_b20 nf) x1 x2 x3 FM
def f_X8_content (a1 : Int32) (FM : FMem) : Opt :=
  bnd (f_X8_isDayFromNow a1 FM) fun r1 M2 =>
  if r1 = 0 then (
    some ((-1 : Int32), M2)
  ) else (
    bnd (f_X8_lookAhead (a1 + (1 : Int32)) M2) fun r5 M6 =>
    X8_content_b20 FU a1 (0 : Int32) (0 : Int32) M6
  )
set_option maxHeartbeats 4000000 in
set_option maxRecDepth 100000 in
theorem m_X8_content (l : Launch) (D : va_G) (cI cM : ClassId) (b : Nat) (a1 : Int32) (FM : FMem) (r0 : Int32) (FR : FMem) (h : f_X8_content a1 FM = some (r0, FR)) : Mt l (wdC D cI cM b) yX8_content cX8_content 4 (some .int) 6 143 [.ref (b + 0), .int a1] FM (some (.int r0)) FR := by
  refine Mt.of (by decide) (cat_cons rfl (cat_cons rfl cat_nil)) [some (.ref (b + 0)), some (.int a1), none, none] rfl (Nat.le_of_ble_eq_true rfl) (fun V hV => ?_)
  have B57 : ∀ (k20 : Int32 → Int32 → Int32 → FMem → Opt) (hk20 : ∀ (x1 : Int32) (x2 : Int32) (x3 : Int32) (FM : FMem), k20 x1 x2 x3 FM = some (r0, FR) → V FM 20 [some (.ref (b + 0)), some (.int x1), some (.int x2), some (.int x3)] []) (x1 : Int32) (x2 : Int32) (x3 : Int32) (FM : FMem), X8_content_b57 k20 x1 x2 x3 FM = some (r0, FR) → V FM 57 [some (.ref (b + 0)), some (.int x1), some (.int x2), some (.int x3)] [] := by
    intro k20 hk20 x1 x2 x3 FM h
    unfold X8_content_b57 at h
    refine r_iinc (v := (1 : Int32)) hV dX8_content_57 rfl rfl rfl ?_
    refine r_goto hV 20 dX8_content_60 rfl ?_
    exact hk20 x1 x2 (x3 + (1 : Int32)) FM h
  have B20 : ∀ (k20 : Int32 → Int32 → Int32 → FMem → Opt) (hk20 : ∀ (x1 : Int32) (x2 : Int32) (x3 : Int32) (FM : FMem), k20 x1 x2 x3 FM = some (r0, FR) → V FM 20 [some (.ref (b + 0)), some (.int x1), some (.int x2), some (.int x3)] []) (x1 : Int32) (x2 : Int32) (x3 : Int32) (FM : FMem), X8_content_b20s k20 x1 x2 x3 FM = some (r0, FR) → V FM 20 [some (.ref (b + 0)), some (.int x1), some (.int x2), some (.int x3)] [] := by
    intro k20 hk20 x1 x2 x3 FM h
    unfold X8_content_b20s at h
    refine r_iload_n hV dX8_content_20 rfl ?_
    refine r_aload_n hV dX8_content_21 rfl ?_
    refine r_geto hV fl_X8_23 ob_0 rfl dX8_content_22 ?_
    refine r_geto hV fl_X8_103 ob_12 rfl dX8_content_25 ?_
    refine r_icmpge hV 63 dX8_content_28 rfl (fun c8 => ?_) (fun c8 => ?_)
    · have h := (if_pos c8).symm.trans h
      refine r_iload_n hV dX8_content_63 rfl ?_
      exact r_iret hV rfl dX8_content_64 (ret_r h) (ret_m h)
    · have h := (if_neg c8).symm.trans h
      refine r_aload_n hV dX8_content_31 rfl ?_
      refine r_geto hV fl_X8_57 ob_0 rfl dX8_content_32 ?_
      refine r_iload_n hV dX8_content_35 rfl ?_
      refine r_iload_n hV dX8_content_36 rfl ?_
      obtain ⟨r9, M10, q11, h⟩ := bnd_some h
      refine r_cVi hV (m_X2_gainOf l D cI cM b x1 x3 FM _ _ q11) ml_X8_275 ob_94 rfl rfl (by decide) (Nat.le_of_ble_eq_true rfl) rfl dX8_content_37 ?_
      refine r_aload_n hV dX8_content_40 rfl ?_
      refine r_geto hV fl_X8_23 ob_0 rfl dX8_content_41 ?_
      refine r_iload_n hV dX8_content_44 rfl ?_
      obtain ⟨r12, M13, q14, h⟩ := bnd_some h
      refine r_cVi hV (m_X0_standsOf l D cI cM b 12 isCo_12 x3 M10 _ _ q14) ml_X8_278 ob_12 rfl rfl (by decide) (Nat.le_of_ble_eq_true rfl) rfl dX8_content_45 ?_
      refine r_icmplt hV 57 dX8_content_48 rfl (fun c15 => ?_) (fun c15 => ?_)
      · have h := (if_pos c15).symm.trans h
        exact B57 k20 hk20 x1 x2 x3 M13 h
      · have h := (if_neg c15).symm.trans h
        refine r_iload_n hV dX8_content_51 rfl ?_
        refine r_iconst (v := (1 : Int32)) hV dX8_content_52 rfl ?_
        refine r_iload_n hV dX8_content_53 rfl ?_
        refine r_ishl hV dX8_content_54 ?_
        refine r_ior hV dX8_content_55 ?_
        refine r_bv h (fun v16 h => ?_)
        refine r_istore_n hV dX8_content_56 (Nat.le_of_ble_eq_true rfl) rfl ?_
        exact B57 k20 hk20 x1 v16 x3 M13 h
  have L20 : ∀ (nf : Nat) (x1 : Int32) (x2 : Int32) (x3 : Int32) (FM : FMem), X8_content_b20 nf x1 x2 x3 FM = some (r0, FR) → V FM 20 [some (.ref (b + 0)), some (.int x1), some (.int x2), some (.int x3)] [] := by
    intro  nf
    induction nf with
    | zero => intro x1 x2 x3 FM h; exact absurd (show (none : Opt) = some (r0, FR) from h) (fun h9 => by cases h9)
    | succ nf ih => intro x1 x2 x3 FM h; exact B20 (X8_content_b20 nf) ih x1 x2 x3 FM h
  unfold f_X8_content at h
  refine r_iload_n hV dX8_content_0 rfl ?_
  obtain ⟨r1, M2, q3, h⟩ := bnd_some h
  refine r_cSi hV (m_X8_isDayFromNow l D cI cM b a1 FM _ _ q3) ml_X8_197 rfl (by decide) (Nat.le_of_ble_eq_true rfl) rfl dX8_content_1 ?_
  refine r_ifne hV 9 dX8_content_4 rfl (fun c4 => ?_) (fun c4 => ?_)
  · have h := (if_neg c4).symm.trans h
    refine r_aload_n hV dX8_content_9 rfl ?_
    refine r_iload_n hV dX8_content_10 rfl ?_
    refine r_iconst (v := (1 : Int32)) hV dX8_content_11 rfl ?_
    refine r_iadd hV dX8_content_12 ?_
    obtain ⟨r5, M6, q7, h⟩ := bnd_some h
    refine r_cVv hV (m_X8_lookAhead l D cI cM b (a1 + (1 : Int32)) M2 _ _ q7) ml_X8_154 ob_0 rfl rfl (by decide) (Nat.le_of_ble_eq_true rfl) rfl dX8_content_13 ?_
    refine r_iconst (v := (0 : Int32)) hV dX8_content_16 rfl ?_
    refine r_istore_n hV dX8_content_17 (Nat.le_of_ble_eq_true rfl) rfl ?_
    refine r_iconst (v := (0 : Int32)) hV dX8_content_18 rfl ?_
    refine r_istore_n hV dX8_content_19 (Nat.le_of_ble_eq_true rfl) rfl ?_
    exact L20 FU a1 (0 : Int32) (0 : Int32) M6 h
  · have h := (if_pos c4).symm.trans h
    refine r_iconst (v := (-1 : Int32)) hV dX8_content_7 rfl ?_
    exact r_iret hV rfl dX8_content_8 (ret_r h) (ret_m h)
def X8_dull_b83 (k37 : Int32 → Int32 → Int32 → Int32 → Int32 → FMem → Opt) (x1 : Int32) (x2 : Int32) (x3 : Int32) (x4 : Int32) (x5 : Int32) (FM : FMem) : Opt :=
  k37 x1 x2 x3 x4 (x5 + (1 : Int32)) FM
def X8_dull_b64 (k37 : Int32 → Int32 → Int32 → Int32 → Int32 → FMem → Opt) (x1 : Int32) (x2 : Int32) (x3 : Int32) (x5 : Int32) (s0 : Int32) (FM : FMem) : Opt :=
  if s0 ≤ x2 then (
    X8_dull_b83 k37 x1 x2 x3 s0 x5 FM
  ) else (
    bindv ((x5 - s0) + (1 : Int32)) fun v18 =>
    X8_dull_b83 k37 x1 s0 v18 s0 x5 FM
  )
def X8_dull_b37s (k37 : Int32 → Int32 → Int32 → Int32 → Int32 → FMem → Opt) (x1 : Int32) (x2 : Int32) (x3 : Int32) (x4 : Int32) (x5 : Int32) (FM : FMem) : Opt :=
  if (40 : Int32) ≤ x5 then (
    if x1 = 0 then (
      some (x2, FM)
    ) else (
      some (x3, FM)
    )
  ) else (
    bnd (f_X3_live x5 FM) fun r13 M14 =>
    if r13 = 0 then (
      X8_dull_b64 k37 x1 x2 x3 x5 (x4 + (1 : Int32)) M14
    ) else (
      X8_dull_b64 k37 x1 x2 x3 x5 (0 : Int32) M14
    )
  )
def X8_dull_b37 : Nat → Int32 → Int32 → Int32 → Int32 → Int32 → FMem → Opt
  | 0, _, _, _, _, _, _ => none
  | nf + 1, x1, x2, x3, x4, x5, FM => X8_dull_b37s (X8_dull_b37 nf) x1 x2 x3 x4 x5 FM
def f_X8_dull (a1 : Int32) (FM : FMem) : Opt :=
  bnd (f_X8_isHalf a1 FM) fun r1 M2 =>
  if r1 = 0 then (
    some ((-1 : Int32), M2)
  ) else (
    bnd (f_X8_lookAhead (40 : Int32) M2) fun r5 M6 =>
    bnd (f_X3_start M6) fun r8 M9 =>
    X8_dull_b37 FU a1 (0 : Int32) (-4 : Int32) (0 : Int32) (0 : Int32) M9
  )
set_option maxHeartbeats 4000000 in
set_option maxRecDepth 100000 in
theorem m_X8_dull (l : Launch) (D : va_G) (cI cM : ClassId) (b : Nat) (a1 : Int32) (FM : FMem) (r0 : Int32) (FR : FMem) (h : f_X8_dull a1 FM = some (r0, FR)) : Mt l (wdC D cI cM b) yX8_dull cX8_dull 6 (some .int) 6 143 [.ref (b + 0), .int a1] FM (some (.int r0)) FR := by
  refine Mt.of (by decide) (cat_cons rfl (cat_cons rfl cat_nil)) [some (.ref (b + 0)), some (.int a1), none, none, none, none] rfl (Nat.le_of_ble_eq_true rfl) (fun V hV => ?_)
  have B83 : ∀ (k37 : Int32 → Int32 → Int32 → Int32 → Int32 → FMem → Opt) (hk37 : ∀ (x1 : Int32) (x2 : Int32) (x3 : Int32) (x4 : Int32) (x5 : Int32) (FM : FMem), k37 x1 x2 x3 x4 x5 FM = some (r0, FR) → V FM 37 [some (.ref (b + 0)), some (.int x1), some (.int x2), some (.int x3), some (.int x4), some (.int x5)] []) (x1 : Int32) (x2 : Int32) (x3 : Int32) (x4 : Int32) (x5 : Int32) (FM : FMem), X8_dull_b83 k37 x1 x2 x3 x4 x5 FM = some (r0, FR) → V FM 83 [some (.ref (b + 0)), some (.int x1), some (.int x2), some (.int x3), some (.int x4), some (.int x5)] [] := by
    intro k37 hk37 x1 x2 x3 x4 x5 FM h
    unfold X8_dull_b83 at h
    refine r_iinc (v := (1 : Int32)) hV dX8_dull_83 rfl rfl rfl ?_
    refine r_goto hV 37 dX8_dull_86 rfl ?_
    exact hk37 x1 x2 x3 x4 (x5 + (1 : Int32)) FM h
  have B64 : ∀ (k37 : Int32 → Int32 → Int32 → Int32 → Int32 → FMem → Opt) (hk37 : ∀ (x1 : Int32) (x2 : Int32) (x3 : Int32) (x4 : Int32) (x5 : Int32) (FM : FMem), k37 x1 x2 x3 x4 x5 FM = some (r0, FR) → V FM 37 [some (.ref (b + 0)), some (.int x1), some (.int x2), some (.int x3), some (.int x4), some (.int x5)] []) (x1 : Int32) (x2 : Int32) (x3 : Int32) (x5 : Int32) (s0 : Int32) (FM : FMem), X8_dull_b64 k37 x1 x2 x3 x5 s0 FM = some (r0, FR) → V FM 64 [some (.ref (b + 0)), some (.int x1), some (.int x2), some (.int x3), none, some (.int x5)] [.int s0] := by
    intro k37 hk37 x1 x2 x3 x5 s0 FM h
    unfold X8_dull_b64 at h
    refine r_istore hV dX8_dull_64 (Nat.le_of_ble_eq_true rfl) rfl ?_
    refine r_iload hV dX8_dull_66 rfl ?_
    refine r_iload_n hV dX8_dull_68 rfl ?_
    refine r_icmple hV 83 dX8_dull_69 rfl (fun c17 => ?_) (fun c17 => ?_)
    · have h := (if_pos c17).symm.trans h
      exact B83 k37 hk37 x1 x2 x3 s0 x5 FM h
    · have h := (if_neg c17).symm.trans h
      refine r_iload hV dX8_dull_72 rfl ?_
      refine r_istore_n hV dX8_dull_74 (Nat.le_of_ble_eq_true rfl) rfl ?_
      refine r_iload hV dX8_dull_75 rfl ?_
      refine r_iload hV dX8_dull_77 rfl ?_
      refine r_isub hV dX8_dull_79 ?_
      refine r_iconst (v := (1 : Int32)) hV dX8_dull_80 rfl ?_
      refine r_iadd hV dX8_dull_81 ?_
      refine r_bv h (fun v18 h => ?_)
      refine r_istore_n hV dX8_dull_82 (Nat.le_of_ble_eq_true rfl) rfl ?_
      exact B83 k37 hk37 x1 s0 v18 s0 x5 FM h
  have B37 : ∀ (k37 : Int32 → Int32 → Int32 → Int32 → Int32 → FMem → Opt) (hk37 : ∀ (x1 : Int32) (x2 : Int32) (x3 : Int32) (x4 : Int32) (x5 : Int32) (FM : FMem), k37 x1 x2 x3 x4 x5 FM = some (r0, FR) → V FM 37 [some (.ref (b + 0)), some (.int x1), some (.int x2), some (.int x3), some (.int x4), some (.int x5)] []) (x1 : Int32) (x2 : Int32) (x3 : Int32) (x4 : Int32) (x5 : Int32) (FM : FMem), X8_dull_b37s k37 x1 x2 x3 x4 x5 FM = some (r0, FR) → V FM 37 [some (.ref (b + 0)), some (.int x1), some (.int x2), some (.int x3), some (.int x4), some (.int x5)] [] := by
    intro k37 hk37 x1 x2 x3 x4 x5 FM h
    unfold X8_dull_b37s at h
    refine r_iload hV dX8_dull_37 rfl ?_
    refine r_bipush (v := (40 : Int32)) hV dX8_dull_39 rfl ?_
    refine r_icmpge hV 89 dX8_dull_41 rfl (fun c11 => ?_) (fun c11 => ?_)
    · have h := (if_pos c11).symm.trans h
      refine r_iload_n hV dX8_dull_89 rfl ?_
      refine r_ifne hV 97 dX8_dull_90 rfl (fun c12 => ?_) (fun c12 => ?_)
      · have h := (if_neg c12).symm.trans h
        refine r_iload_n hV dX8_dull_97 rfl ?_
        exact r_iret hV rfl dX8_dull_98 (ret_r h) (ret_m h)
      · have h := (if_pos c12).symm.trans h
        refine r_iload_n hV dX8_dull_93 rfl ?_
        refine r_goto hV 98 dX8_dull_94 rfl ?_
        exact r_iret hV rfl dX8_dull_98 (ret_r h) (ret_m h)
    · have h := (if_neg c11).symm.trans h
      refine r_aload_n hV dX8_dull_44 rfl ?_
      refine r_geto hV fl_X8_66 ob_0 rfl dX8_dull_45 ?_
      refine r_iload hV dX8_dull_48 rfl ?_
      obtain ⟨r13, M14, q15, h⟩ := bnd_some h
      refine r_cVi hV (m_X3_live l D cI cM b x5 FM _ _ q15) ml_X8_166 ob_98 rfl rfl (by decide) (Nat.le_of_ble_eq_true rfl) rfl dX8_dull_50 ?_
      refine r_ifeq hV 60 dX8_dull_53 rfl (fun c16 => ?_) (fun c16 => ?_)
      · have h := (if_pos c16).symm.trans h
        refine r_iload hV dX8_dull_60 rfl ?_
        refine r_iconst (v := (1 : Int32)) hV dX8_dull_62 rfl ?_
        refine r_iadd hV dX8_dull_63 ?_
        refine r_mask hV [true, true, true, true, false, true] ?_
        exact B64 k37 hk37 x1 x2 x3 x5 (x4 + (1 : Int32)) M14 h
      · have h := (if_neg c16).symm.trans h
        refine r_iconst (v := (0 : Int32)) hV dX8_dull_56 rfl ?_
        refine r_goto hV 64 dX8_dull_57 rfl ?_
        refine r_mask hV [true, true, true, true, false, true] ?_
        exact B64 k37 hk37 x1 x2 x3 x5 (0 : Int32) M14 h
  have L37 : ∀ (nf : Nat) (x1 : Int32) (x2 : Int32) (x3 : Int32) (x4 : Int32) (x5 : Int32) (FM : FMem), X8_dull_b37 nf x1 x2 x3 x4 x5 FM = some (r0, FR) → V FM 37 [some (.ref (b + 0)), some (.int x1), some (.int x2), some (.int x3), some (.int x4), some (.int x5)] [] := by
    intro  nf
    induction nf with
    | zero => intro x1 x2 x3 x4 x5 FM h; exact absurd (show (none : Opt) = some (r0, FR) from h) (fun h9 => by cases h9)
    | succ nf ih => intro x1 x2 x3 x4 x5 FM h; exact B37 (X8_dull_b37 nf) ih x1 x2 x3 x4 x5 FM h
  unfold f_X8_dull at h
  refine r_iload_n hV dX8_dull_0 rfl ?_
  obtain ⟨r1, M2, q3, h⟩ := bnd_some h
  refine r_cSi hV (m_X8_isHalf l D cI cM b a1 FM _ _ q3) ml_X8_200 rfl (by decide) (Nat.le_of_ble_eq_true rfl) rfl dX8_dull_1 ?_
  refine r_ifne hV 9 dX8_dull_4 rfl (fun c4 => ?_) (fun c4 => ?_)
  · have h := (if_neg c4).symm.trans h
    refine r_aload_n hV dX8_dull_9 rfl ?_
    refine r_bipush (v := (40 : Int32)) hV dX8_dull_10 rfl ?_
    obtain ⟨r5, M6, q7, h⟩ := bnd_some h
    refine r_cVv hV (m_X8_lookAhead l D cI cM b (40 : Int32) M2 _ _ q7) ml_X8_154 ob_0 rfl rfl (by decide) (Nat.le_of_ble_eq_true rfl) rfl dX8_dull_12 ?_
    refine r_aload_n hV dX8_dull_15 rfl ?_
    refine r_geto hV fl_X8_66 ob_0 rfl dX8_dull_16 ?_
    refine r_aload_n hV dX8_dull_19 rfl ?_
    refine r_geto hV fl_X8_29 ob_0 rfl dX8_dull_20 ?_
    obtain ⟨r8, M9, q10, h⟩ := bnd_some h
    refine r_cVv hV (m_X3_start l D cI cM b M6 _ _ q10) ml_X8_157 ob_98 rfl rfl (by decide) (Nat.le_of_ble_eq_true rfl) rfl dX8_dull_23 ?_
    refine r_iconst (v := (0 : Int32)) hV dX8_dull_26 rfl ?_
    refine r_istore_n hV dX8_dull_27 (Nat.le_of_ble_eq_true rfl) rfl ?_
    refine r_bipush (v := (-4 : Int32)) hV dX8_dull_28 rfl ?_
    refine r_istore_n hV dX8_dull_30 (Nat.le_of_ble_eq_true rfl) rfl ?_
    refine r_iconst (v := (0 : Int32)) hV dX8_dull_31 rfl ?_
    refine r_istore hV dX8_dull_32 (Nat.le_of_ble_eq_true rfl) rfl ?_
    refine r_iconst (v := (0 : Int32)) hV dX8_dull_34 rfl ?_
    refine r_istore hV dX8_dull_35 (Nat.le_of_ble_eq_true rfl) rfl ?_
    exact L37 FU a1 (0 : Int32) (-4 : Int32) (0 : Int32) (0 : Int32) M9 h
  · have h := (if_pos c4).symm.trans h
    refine r_iconst (v := (-1 : Int32)) hV dX8_dull_7 rfl ?_
    exact r_iret hV rfl dX8_dull_8 (ret_r h) (ret_m h)
def X8_year_b116 (k53 : Int32 → Int32 → Int32 → Int32 → Int32 → FMem → Opt) (x1 : Int32) (x2 : Int32) (x3 : Int32) (x4 : Int32) (x5 : Int32) (FM : FMem) : Opt :=
  k53 x1 x2 x3 x4 (x5 + (1 : Int32)) FM
def X8_year_b101 (k53 : Int32 → Int32 → Int32 → Int32 → Int32 → FMem → Opt) (x1 : Int32) (x2 : Int32) (x3 : Int32) (x4 : Int32) (x5 : Int32) (FM : FMem) : Opt :=
  bnd (f_X3_live x5 FM) fun r24 M25 =>
  if r24 = 0 then (
    X8_year_b116 k53 x1 x2 x3 x4 x5 M25
  ) else (
    X8_year_b116 k53 x1 x2 x3 (x4 + (1 : Int32)) x5 M25
  )
def X8_year_b53s (k53 : Int32 → Int32 → Int32 → Int32 → Int32 → FMem → Opt) (x1 : Int32) (x2 : Int32) (x3 : Int32) (x4 : Int32) (x5 : Int32) (FM : FMem) : Opt :=
  if x2 ≤ x5 then (
    if x3 = 0 then (
      some (x4, FM)
    ) else (
      bnd (f_X3_reigning FM) fun r17 M18 =>
      some (r17, M18)
    )
  ) else (
    bnd (f_X8_draw x1 x5 FM) fun r20 M21 =>
    if (r20 - r20 / (3 : Int32) * (3 : Int32)) = 0 then (
      bnd (f_X2_add x5 ((1 : Int32) <<< (((r20 / (4 : Int32)) - (r20 / (4 : Int32)) / (5 : Int32) * (5 : Int32)) &&& 31)) (((r20 / (32 : Int32)) - (r20 / (32 : Int32)) / (9 : Int32) * (9 : Int32)) + (1 : Int32)) M21) fun r28 M29 =>
      X8_year_b101 k53 x1 x2 x3 x4 x5 M29
    ) else (
      X8_year_b101 k53 x1 x2 x3 x4 x5 M21
    )
  )
def X8_year_b53 : Nat → Int32 → Int32 → Int32 → Int32 → Int32 → FMem → Opt
  | 0, _, _, _, _, _, _ => none
  | nf + 1, x1, x2, x3, x4, x5, FM => X8_year_b53s (X8_year_b53 nf) x1 x2 x3 x4 x5 FM
def f_X8_year (a1 a2 a3 : Int32) (FM : FMem) : Opt :=
  if a1 < 0 then (
    some ((-1 : Int32), FM)
  ) else (
    if (9999 : Int32) < a1 then (
      some ((-1 : Int32), FM)
    ) else (
      if a2 < (1 : Int32) then (
        some ((-1 : Int32), FM)
      ) else (
        if (60 : Int32) < a2 then (
          some ((-1 : Int32), FM)
        ) else (
          bnd (f_X8_isHalf a3 FM) fun r5 M6 =>
          if r5 = 0 then (
            some ((-1 : Int32), M6)
          ) else (
            bnd (f_X8_lookAhead a2 M6) fun r9 M10 =>
            bnd (f_X3_start M10) fun r12 M13 =>
            X8_year_b53 FU a1 a2 a3 (0 : Int32) (0 : Int32) M13
          )
        )
      )
    )
  )
set_option maxHeartbeats 4000000 in
set_option maxRecDepth 100000 in
theorem m_X8_year (l : Launch) (D : va_G) (cI cM : ClassId) (b : Nat) (a1 a2 a3 : Int32) (FM : FMem) (r0 : Int32) (FR : FMem) (h : f_X8_year a1 a2 a3 FM = some (r0, FR)) : Mt l (wdC D cI cM b) yX8_year cX8_year 7 (some .int) 6 143 [.ref (b + 0), .int a1, .int a2, .int a3] FM (some (.int r0)) FR := by
  refine Mt.of (by decide) (cat_cons rfl (cat_cons rfl (cat_cons rfl (cat_cons rfl cat_nil)))) [some (.ref (b + 0)), some (.int a1), some (.int a2), some (.int a3), none, none, none] rfl (Nat.le_of_ble_eq_true rfl) (fun V hV => ?_)
  have B116 : ∀ (k53 : Int32 → Int32 → Int32 → Int32 → Int32 → FMem → Opt) (hk53 : ∀ (x1 : Int32) (x2 : Int32) (x3 : Int32) (x4 : Int32) (x5 : Int32) (FM : FMem), k53 x1 x2 x3 x4 x5 FM = some (r0, FR) → V FM 53 [some (.ref (b + 0)), some (.int x1), some (.int x2), some (.int x3), some (.int x4), some (.int x5), none] []) (x1 : Int32) (x2 : Int32) (x3 : Int32) (x4 : Int32) (x5 : Int32) (FM : FMem), X8_year_b116 k53 x1 x2 x3 x4 x5 FM = some (r0, FR) → V FM 116 [some (.ref (b + 0)), some (.int x1), some (.int x2), some (.int x3), some (.int x4), some (.int x5), none] [] := by
    intro k53 hk53 x1 x2 x3 x4 x5 FM h
    unfold X8_year_b116 at h
    refine r_iinc (v := (1 : Int32)) hV dX8_year_116 rfl rfl rfl ?_
    refine r_goto hV 53 dX8_year_119 rfl ?_
    exact hk53 x1 x2 x3 x4 (x5 + (1 : Int32)) FM h
  have B101 : ∀ (k53 : Int32 → Int32 → Int32 → Int32 → Int32 → FMem → Opt) (hk53 : ∀ (x1 : Int32) (x2 : Int32) (x3 : Int32) (x4 : Int32) (x5 : Int32) (FM : FMem), k53 x1 x2 x3 x4 x5 FM = some (r0, FR) → V FM 53 [some (.ref (b + 0)), some (.int x1), some (.int x2), some (.int x3), some (.int x4), some (.int x5), none] []) (x1 : Int32) (x2 : Int32) (x3 : Int32) (x4 : Int32) (x5 : Int32) (FM : FMem), X8_year_b101 k53 x1 x2 x3 x4 x5 FM = some (r0, FR) → V FM 101 [some (.ref (b + 0)), some (.int x1), some (.int x2), some (.int x3), some (.int x4), some (.int x5), none] [] := by
    intro k53 hk53 x1 x2 x3 x4 x5 FM h
    unfold X8_year_b101 at h
    refine r_aload_n hV dX8_year_101 rfl ?_
    refine r_geto hV fl_X8_66 ob_0 rfl dX8_year_102 ?_
    refine r_iload hV dX8_year_105 rfl ?_
    obtain ⟨r24, M25, q26, h⟩ := bnd_some h
    refine r_cVi hV (m_X3_live l D cI cM b x5 FM _ _ q26) ml_X8_166 ob_98 rfl rfl (by decide) (Nat.le_of_ble_eq_true rfl) rfl dX8_year_107 ?_
    refine r_ifeq hV 116 dX8_year_110 rfl (fun c27 => ?_) (fun c27 => ?_)
    · have h := (if_pos c27).symm.trans h
      exact B116 k53 hk53 x1 x2 x3 x4 x5 M25 h
    · have h := (if_neg c27).symm.trans h
      refine r_iinc (v := (1 : Int32)) hV dX8_year_113 rfl rfl rfl ?_
      exact B116 k53 hk53 x1 x2 x3 (x4 + (1 : Int32)) x5 M25 h
  have B53 : ∀ (k53 : Int32 → Int32 → Int32 → Int32 → Int32 → FMem → Opt) (hk53 : ∀ (x1 : Int32) (x2 : Int32) (x3 : Int32) (x4 : Int32) (x5 : Int32) (FM : FMem), k53 x1 x2 x3 x4 x5 FM = some (r0, FR) → V FM 53 [some (.ref (b + 0)), some (.int x1), some (.int x2), some (.int x3), some (.int x4), some (.int x5), none] []) (x1 : Int32) (x2 : Int32) (x3 : Int32) (x4 : Int32) (x5 : Int32) (FM : FMem), X8_year_b53s k53 x1 x2 x3 x4 x5 FM = some (r0, FR) → V FM 53 [some (.ref (b + 0)), some (.int x1), some (.int x2), some (.int x3), some (.int x4), some (.int x5), none] [] := by
    intro k53 hk53 x1 x2 x3 x4 x5 FM h
    unfold X8_year_b53s at h
    refine r_iload hV dX8_year_53 rfl ?_
    refine r_iload_n hV dX8_year_55 rfl ?_
    refine r_icmpge hV 122 dX8_year_56 rfl (fun c15 => ?_) (fun c15 => ?_)
    · have h := (if_pos c15).symm.trans h
      refine r_iload_n hV dX8_year_122 rfl ?_
      refine r_ifne hV 131 dX8_year_123 rfl (fun c16 => ?_) (fun c16 => ?_)
      · have h := (if_neg c16).symm.trans h
        refine r_aload_n hV dX8_year_131 rfl ?_
        refine r_geto hV fl_X8_66 ob_0 rfl dX8_year_132 ?_
        obtain ⟨r17, M18, q19, h⟩ := bnd_some h
        refine r_cVi hV (m_X3_reigning l D cI cM b FM _ _ q19) ml_X8_160 ob_98 rfl rfl (by decide) (Nat.le_of_ble_eq_true rfl) rfl dX8_year_135 ?_
        exact r_iret hV rfl dX8_year_138 (ret_r h) (ret_m h)
      · have h := (if_pos c16).symm.trans h
        refine r_iload hV dX8_year_126 rfl ?_
        refine r_goto hV 138 dX8_year_128 rfl ?_
        exact r_iret hV rfl dX8_year_138 (ret_r h) (ret_m h)
    · have h := (if_neg c15).symm.trans h
      refine r_iload_n hV dX8_year_59 rfl ?_
      refine r_iload hV dX8_year_60 rfl ?_
      obtain ⟨r20, M21, q22, h⟩ := bnd_some h
      refine r_cSi hV (m_X8_draw l D cI cM b x1 x5 FM _ _ q22) ml_X8_281 rfl (by decide) (Nat.le_of_ble_eq_true rfl) rfl dX8_year_62 ?_
      refine r_istore hV dX8_year_65 (Nat.le_of_ble_eq_true rfl) rfl ?_
      refine r_iload hV dX8_year_67 rfl ?_
      refine r_iconst (v := (3 : Int32)) hV dX8_year_69 rfl ?_
      refine r_irem hV dX8_year_70 (by decide) ?_
      refine r_ifne hV 101 dX8_year_71 rfl (fun c23 => ?_) (fun c23 => ?_)
      · have h := (if_neg c23).symm.trans h
        refine r_mask hV [true, true, true, true, true, true, false] ?_
        exact B101 k53 hk53 x1 x2 x3 x4 x5 M21 h
      · have h := (if_pos c23).symm.trans h
        refine r_aload_n hV dX8_year_74 rfl ?_
        refine r_geto hV fl_X8_57 ob_0 rfl dX8_year_75 ?_
        refine r_iload hV dX8_year_78 rfl ?_
        refine r_iconst (v := (1 : Int32)) hV dX8_year_80 rfl ?_
        refine r_iload hV dX8_year_81 rfl ?_
        refine r_iconst (v := (4 : Int32)) hV dX8_year_83 rfl ?_
        refine r_idiv hV dX8_year_84 (by decide) ?_
        refine r_iconst (v := (5 : Int32)) hV dX8_year_85 rfl ?_
        refine r_irem hV dX8_year_86 (by decide) ?_
        refine r_ishl hV dX8_year_87 ?_
        refine r_iload hV dX8_year_88 rfl ?_
        refine r_bipush (v := (32 : Int32)) hV dX8_year_90 rfl ?_
        refine r_idiv hV dX8_year_92 (by decide) ?_
        refine r_bipush (v := (9 : Int32)) hV dX8_year_93 rfl ?_
        refine r_irem hV dX8_year_95 (by decide) ?_
        refine r_iconst (v := (1 : Int32)) hV dX8_year_96 rfl ?_
        refine r_iadd hV dX8_year_97 ?_
        obtain ⟨r28, M29, q30, h⟩ := bnd_some h
        refine r_cVv hV (m_X2_add l D cI cM b x5 ((1 : Int32) <<< (((r20 / (4 : Int32)) - (r20 / (4 : Int32)) / (5 : Int32) * (5 : Int32)) &&& 31)) (((r20 / (32 : Int32)) - (r20 / (32 : Int32)) / (9 : Int32) * (9 : Int32)) + (1 : Int32)) M21 _ _ q30) ml_X8_224 ob_94 rfl rfl (by decide) (Nat.le_of_ble_eq_true rfl) rfl dX8_year_98 ?_
        refine r_mask hV [true, true, true, true, true, true, false] ?_
        exact B101 k53 hk53 x1 x2 x3 x4 x5 M29 h
  have L53 : ∀ (nf : Nat) (x1 : Int32) (x2 : Int32) (x3 : Int32) (x4 : Int32) (x5 : Int32) (FM : FMem), X8_year_b53 nf x1 x2 x3 x4 x5 FM = some (r0, FR) → V FM 53 [some (.ref (b + 0)), some (.int x1), some (.int x2), some (.int x3), some (.int x4), some (.int x5), none] [] := by
    intro  nf
    induction nf with
    | zero => intro x1 x2 x3 x4 x5 FM h; exact absurd (show (none : Opt) = some (r0, FR) from h) (fun h9 => by cases h9)
    | succ nf ih => intro x1 x2 x3 x4 x5 FM h; exact B53 (X8_year_b53 nf) ih x1 x2 x3 x4 x5 FM h
  unfold f_X8_year at h
  refine r_iload_n hV dX8_year_0 rfl ?_
  refine r_iflt hV 29 dX8_year_1 rfl (fun c1 => ?_) (fun c1 => ?_)
  · have h := (if_pos c1).symm.trans h
    refine r_iconst (v := (-1 : Int32)) hV dX8_year_29 rfl ?_
    exact r_iret hV rfl dX8_year_30 (ret_r h) (ret_m h)
  · have h := (if_neg c1).symm.trans h
    refine r_iload_n hV dX8_year_4 rfl ?_
    refine r_sipush (v := (9999 : Int32)) hV dX8_year_5 rfl ?_
    refine r_icmpgt hV 29 dX8_year_8 rfl (fun c2 => ?_) (fun c2 => ?_)
    · have h := (if_pos c2).symm.trans h
      refine r_iconst (v := (-1 : Int32)) hV dX8_year_29 rfl ?_
      exact r_iret hV rfl dX8_year_30 (ret_r h) (ret_m h)
    · have h := (if_neg c2).symm.trans h
      refine r_iload_n hV dX8_year_11 rfl ?_
      refine r_iconst (v := (1 : Int32)) hV dX8_year_12 rfl ?_
      refine r_icmplt hV 29 dX8_year_13 rfl (fun c3 => ?_) (fun c3 => ?_)
      · have h := (if_pos c3).symm.trans h
        refine r_iconst (v := (-1 : Int32)) hV dX8_year_29 rfl ?_
        exact r_iret hV rfl dX8_year_30 (ret_r h) (ret_m h)
      · have h := (if_neg c3).symm.trans h
        refine r_iload_n hV dX8_year_16 rfl ?_
        refine r_bipush (v := (60 : Int32)) hV dX8_year_17 rfl ?_
        refine r_icmpgt hV 29 dX8_year_19 rfl (fun c4 => ?_) (fun c4 => ?_)
        · have h := (if_pos c4).symm.trans h
          refine r_iconst (v := (-1 : Int32)) hV dX8_year_29 rfl ?_
          exact r_iret hV rfl dX8_year_30 (ret_r h) (ret_m h)
        · have h := (if_neg c4).symm.trans h
          refine r_iload_n hV dX8_year_22 rfl ?_
          obtain ⟨r5, M6, q7, h⟩ := bnd_some h
          refine r_cSi hV (m_X8_isHalf l D cI cM b a3 FM _ _ q7) ml_X8_200 rfl (by decide) (Nat.le_of_ble_eq_true rfl) rfl dX8_year_23 ?_
          refine r_ifne hV 31 dX8_year_26 rfl (fun c8 => ?_) (fun c8 => ?_)
          · have h := (if_neg c8).symm.trans h
            refine r_aload_n hV dX8_year_31 rfl ?_
            refine r_iload_n hV dX8_year_32 rfl ?_
            obtain ⟨r9, M10, q11, h⟩ := bnd_some h
            refine r_cVv hV (m_X8_lookAhead l D cI cM b a2 M6 _ _ q11) ml_X8_154 ob_0 rfl rfl (by decide) (Nat.le_of_ble_eq_true rfl) rfl dX8_year_33 ?_
            refine r_aload_n hV dX8_year_36 rfl ?_
            refine r_geto hV fl_X8_66 ob_0 rfl dX8_year_37 ?_
            refine r_aload_n hV dX8_year_40 rfl ?_
            refine r_geto hV fl_X8_29 ob_0 rfl dX8_year_41 ?_
            obtain ⟨r12, M13, q14, h⟩ := bnd_some h
            refine r_cVv hV (m_X3_start l D cI cM b M10 _ _ q14) ml_X8_157 ob_98 rfl rfl (by decide) (Nat.le_of_ble_eq_true rfl) rfl dX8_year_44 ?_
            refine r_iconst (v := (0 : Int32)) hV dX8_year_47 rfl ?_
            refine r_istore hV dX8_year_48 (Nat.le_of_ble_eq_true rfl) rfl ?_
            refine r_iconst (v := (0 : Int32)) hV dX8_year_50 rfl ?_
            refine r_istore hV dX8_year_51 (Nat.le_of_ble_eq_true rfl) rfl ?_
            exact L53 FU a1 a2 a3 (0 : Int32) (0 : Int32) M13 h
          · have h := (if_pos c8).symm.trans h
            refine r_iconst (v := (-1 : Int32)) hV dX8_year_29 rfl ?_
            exact r_iret hV rfl dX8_year_30 (ret_r h) (ret_m h)
def f_X8_keep (FM : FMem) : Opt :=
  if (FM 77 2) < (2 : Int32) then (
    bnd (f_X5_put 77 2 FM) fun r2 M3 =>
    some ((M3 77 2), M3)
  ) else (
    some ((-3 : Int32), FM)
  )
set_option maxHeartbeats 4000000 in
set_option maxRecDepth 100000 in
theorem m_X8_keep (l : Launch) (D : va_G) (cI cM : ClassId) (b : Nat) (FM : FMem) (r0 : Int32) (FR : FMem) (h : f_X8_keep FM = some (r0, FR)) : Mt l (wdC D cI cM b) yX8_keep cX8_keep 1 (some .int) 4 103 [.ref (b + 0)] FM (some (.int r0)) FR := by
  refine Mt.of (by decide) (cat_cons rfl cat_nil) [some (.ref (b + 0))] rfl (Nat.le_of_ble_eq_true rfl) (fun V hV => ?_)
  unfold f_X8_keep at h
  refine r_aload_n hV dX8_keep_0 rfl ?_
  refine r_geto hV fl_X8_42 ob_0 rfl dX8_keep_1 ?_
  refine r_geto hV fl_X8_196 ob_77 rfl dX8_keep_4 ?_
  refine r_iconst (v := (2 : Int32)) hV dX8_keep_7 rfl ?_
  refine r_icmplt hV 14 dX8_keep_8 rfl (fun c1 => ?_) (fun c1 => ?_)
  · have h := (if_pos c1).symm.trans h
    refine r_aload_n hV dX8_keep_14 rfl ?_
    refine r_geto hV fl_X8_42 ob_0 rfl dX8_keep_15 ?_
    refine r_aload_n hV dX8_keep_18 rfl ?_
    refine r_geto hV fl_X8_29 ob_0 rfl dX8_keep_19 ?_
    obtain ⟨r2, M3, q4, h⟩ := bnd_some h
    refine r_cVv hV (m_X5_put l D cI cM b 77 2 isSh_77 FM _ _ q4) ml_X8_150 ob_77 rfl rfl (by decide) (Nat.le_of_ble_eq_true rfl) rfl dX8_keep_22 ?_
    refine r_aload_n hV dX8_keep_25 rfl ?_
    refine r_geto hV fl_X8_42 ob_0 rfl dX8_keep_26 ?_
    refine r_geto hV fl_X8_196 ob_77 rfl dX8_keep_29 ?_
    exact r_iret hV rfl dX8_keep_32 (ret_r h) (ret_m h)
  · have h := (if_neg c1).symm.trans h
    refine r_bipush (v := (-3 : Int32)) hV dX8_keep_11 rfl ?_
    exact r_iret hV rfl dX8_keep_13 (ret_r h) (ret_m h)
def f_X8_back (FM : FMem) : Opt :=
  bnd (f_X5_takeInto 77 2 FM) fun r1 M2 =>
  if r1 = 0 then (
    some ((-2 : Int32), M2)
  ) else (
    bnd (f_X5_clear 27 8 M2) fun r5 M6 =>
    some ((M6 77 2), M6)
  )
set_option maxHeartbeats 4000000 in
set_option maxRecDepth 100000 in
theorem m_X8_back (l : Launch) (D : va_G) (cI cM : ClassId) (b : Nat) (FM : FMem) (r0 : Int32) (FR : FMem) (h : f_X8_back FM = some (r0, FR)) : Mt l (wdC D cI cM b) yX8_back cX8_back 1 (some .int) 4 103 [.ref (b + 0)] FM (some (.int r0)) FR := by
  refine Mt.of (by decide) (cat_cons rfl cat_nil) [some (.ref (b + 0))] rfl (Nat.le_of_ble_eq_true rfl) (fun V hV => ?_)
  unfold f_X8_back at h
  refine r_aload_n hV dX8_back_0 rfl ?_
  refine r_geto hV fl_X8_42 ob_0 rfl dX8_back_1 ?_
  refine r_aload_n hV dX8_back_4 rfl ?_
  refine r_geto hV fl_X8_29 ob_0 rfl dX8_back_5 ?_
  obtain ⟨r1, M2, q3, h⟩ := bnd_some h
  refine r_cVi hV (m_X5_takeInto l D cI cM b 77 2 isSh_77 FM _ _ q3) ml_X8_192 ob_77 rfl rfl (by decide) (Nat.le_of_ble_eq_true rfl) rfl dX8_back_8 ?_
  refine r_ifne hV 17 dX8_back_11 rfl (fun c4 => ?_) (fun c4 => ?_)
  · have h := (if_neg c4).symm.trans h
    refine r_aload_n hV dX8_back_17 rfl ?_
    refine r_geto hV fl_X8_38 ob_0 rfl dX8_back_18 ?_
    obtain ⟨r5, M6, q7, h⟩ := bnd_some h
    refine r_cVv hV (m_X5_clear l D cI cM b 27 8 isSh_27 M2 _ _ q7) ml_X8_106 ob_27 rfl rfl (by decide) (Nat.le_of_ble_eq_true rfl) rfl dX8_back_21 ?_
    refine r_aload_n hV dX8_back_24 rfl ?_
    refine r_geto hV fl_X8_42 ob_0 rfl dX8_back_25 ?_
    refine r_geto hV fl_X8_196 ob_77 rfl dX8_back_28 ?_
    exact r_iret hV rfl dX8_back_31 (ret_r h) (ret_m h)
  · have h := (if_pos c4).symm.trans h
    refine r_bipush (v := (-2 : Int32)) hV dX8_back_14 rfl ?_
    exact r_iret hV rfl dX8_back_16 (ret_r h) (ret_m h)
def f_X8_count (a1 : Int32) (FM : FMem) : Opt :=
  if a1 = (0 : Int32) then (
    some ((FM 12 3), FM)
  ) else
  if a1 = (1 : Int32) then (
    some ((FM 23 3), FM)
  ) else
  if a1 = (2 : Int32) then (
    some ((FM 21 0), FM)
  ) else
  if a1 = (3 : Int32) then (
    bnd (f_J6_bitCount_0f7a4 (FM 21 3) FM) fun r5 M6 =>
    some (r5, M6)
  ) else
  if a1 = (4 : Int32) then (
    some ((FM 91 2), FM)
  ) else
  if a1 = (5 : Int32) then (
    some ((FM 27 2), FM)
  ) else
  if a1 = (6 : Int32) then (
    some ((FM 77 2), FM)
  ) else
  if a1 = (7 : Int32) then (
    some ((FM 1 1), FM)
  ) else
  if a1 = (8 : Int32) then (
    some ((FM 12 5), FM)
  ) else
  some ((-1 : Int32), FM)
set_option maxHeartbeats 4000000 in
set_option maxRecDepth 100000 in
theorem m_X8_count (l : Launch) (D : va_G) (cI cM : ClassId) (b : Nat) (a1 : Int32) (FM : FMem) (r0 : Int32) (FR : FMem) (h : f_X8_count a1 FM = some (r0, FR)) : Mt l (wdC D cI cM b) yX8_count cX8_count 2 (some .int) 1 20 [.ref (b + 0), .int a1] FM (some (.int r0)) FR := by
  refine Mt.of (by decide) (cat_cons rfl (cat_cons rfl cat_nil)) [some (.ref (b + 0)), some (.int a1)] rfl (Nat.le_of_ble_eq_true rfl) (fun V hV => ?_)
  unfold f_X8_count at h
  refine r_iload_n hV dX8_count_0 rfl ?_
  by_cases e1 : a1 = (0 : Int32)
  · have h := (if_pos e1).symm.trans h
    refine r_tabIn hV 52 dX8_count_1 (by rw [e1]; decide) (by rw [e1]; decide) (by first | (rw [e1]; done) | (rw [e1]; rfl)) rfl ?_
    refine r_aload_n hV dX8_count_52 rfl ?_
    refine r_geto hV fl_X8_23 ob_0 rfl dX8_count_53 ?_
    refine r_geto hV fl_X8_103 ob_12 rfl dX8_count_56 ?_
    exact r_iret hV rfl dX8_count_59 (ret_r h) (ret_m h)
  have h := (if_neg e1).symm.trans h
  by_cases e2 : a1 = (1 : Int32)
  · have h := (if_pos e2).symm.trans h
    refine r_tabIn hV 60 dX8_count_1 (by rw [e2]; decide) (by rw [e2]; decide) (by first | (rw [e2]; done) | (rw [e2]; rfl)) rfl ?_
    refine r_aload_n hV dX8_count_60 rfl ?_
    refine r_geto hV fl_X8_29 ob_0 rfl dX8_count_61 ?_
    refine r_geto hV fl_X8_130 ob_21 rfl dX8_count_64 ?_
    refine r_geto hV fl_X8_185 ob_23 rfl dX8_count_67 ?_
    exact r_iret hV rfl dX8_count_70 (ret_r h) (ret_m h)
  have h := (if_neg e2).symm.trans h
  by_cases e3 : a1 = (2 : Int32)
  · have h := (if_pos e3).symm.trans h
    refine r_tabIn hV 71 dX8_count_1 (by rw [e3]; decide) (by rw [e3]; decide) (by first | (rw [e3]; done) | (rw [e3]; rfl)) rfl ?_
    refine r_aload_n hV dX8_count_71 rfl ?_
    refine r_geto hV fl_X8_29 ob_0 rfl dX8_count_72 ?_
    refine r_geto hV fl_X8_148 ob_21 rfl dX8_count_75 ?_
    exact r_iret hV rfl dX8_count_78 (ret_r h) (ret_m h)
  have h := (if_neg e3).symm.trans h
  by_cases e4 : a1 = (3 : Int32)
  · have h := (if_pos e4).symm.trans h
    refine r_tabIn hV 79 dX8_count_1 (by rw [e4]; decide) (by rw [e4]; decide) (by first | (rw [e4]; done) | (rw [e4]; rfl)) rfl ?_
    refine r_aload_n hV dX8_count_79 rfl ?_
    refine r_geto hV fl_X8_29 ob_0 rfl dX8_count_80 ?_
    refine r_geto hV fl_X8_176 ob_21 rfl dX8_count_83 ?_
    obtain ⟨r5, M6, q7, h⟩ := bnd_some h
    refine r_cSi hV (m_J6_bitCount_0f7a4 l D cI cM b (FM 21 3) FM _ _ q7) ml_X8_212 rfl (by decide) (Nat.le_of_ble_eq_true rfl) rfl dX8_count_86 ?_
    exact r_iret hV rfl dX8_count_89 (ret_r h) (ret_m h)
  have h := (if_neg e4).symm.trans h
  by_cases e8 : a1 = (4 : Int32)
  · have h := (if_pos e8).symm.trans h
    refine r_tabIn hV 90 dX8_count_1 (by rw [e8]; decide) (by rw [e8]; decide) (by first | (rw [e8]; done) | (rw [e8]; rfl)) rfl ?_
    refine r_aload_n hV dX8_count_90 rfl ?_
    refine r_geto hV fl_X8_48 ob_0 rfl dX8_count_91 ?_
    refine r_geto hV fl_X8_250 ob_91 rfl dX8_count_94 ?_
    exact r_iret hV rfl dX8_count_97 (ret_r h) (ret_m h)
  have h := (if_neg e8).symm.trans h
  by_cases e9 : a1 = (5 : Int32)
  · have h := (if_pos e9).symm.trans h
    refine r_tabIn hV 98 dX8_count_1 (by rw [e9]; decide) (by rw [e9]; decide) (by first | (rw [e9]; done) | (rw [e9]; rfl)) rfl ?_
    refine r_aload_n hV dX8_count_98 rfl ?_
    refine r_geto hV fl_X8_38 ob_0 rfl dX8_count_99 ?_
    refine r_geto hV fl_X8_196 ob_27 rfl dX8_count_102 ?_
    exact r_iret hV rfl dX8_count_105 (ret_r h) (ret_m h)
  have h := (if_neg e9).symm.trans h
  by_cases e10 : a1 = (6 : Int32)
  · have h := (if_pos e10).symm.trans h
    refine r_tabIn hV 106 dX8_count_1 (by rw [e10]; decide) (by rw [e10]; decide) (by first | (rw [e10]; done) | (rw [e10]; rfl)) rfl ?_
    refine r_aload_n hV dX8_count_106 rfl ?_
    refine r_geto hV fl_X8_42 ob_0 rfl dX8_count_107 ?_
    refine r_geto hV fl_X8_196 ob_77 rfl dX8_count_110 ?_
    exact r_iret hV rfl dX8_count_113 (ret_r h) (ret_m h)
  have h := (if_neg e10).symm.trans h
  by_cases e11 : a1 = (7 : Int32)
  · have h := (if_pos e11).symm.trans h
    refine r_tabIn hV 114 dX8_count_1 (by rw [e11]; decide) (by rw [e11]; decide) (by first | (rw [e11]; done) | (rw [e11]; rfl)) rfl ?_
    refine r_aload_n hV dX8_count_114 rfl ?_
    refine r_geto hV fl_X8_10 ob_0 rfl dX8_count_115 ?_
    refine r_geto hV fl_X8_100 ob_1 rfl dX8_count_118 ?_
    exact r_iret hV rfl dX8_count_121 (ret_r h) (ret_m h)
  have h := (if_neg e11).symm.trans h
  by_cases e12 : a1 = (8 : Int32)
  · have h := (if_pos e12).symm.trans h
    refine r_tabIn hV 122 dX8_count_1 (by rw [e12]; decide) (by rw [e12]; decide) (by first | (rw [e12]; done) | (rw [e12]; rfl)) rfl ?_
    refine r_aload_n hV dX8_count_122 rfl ?_
    refine r_geto hV fl_X8_23 ob_0 rfl dX8_count_123 ?_
    refine r_geto hV fl_X8_284 ob_12 rfl dX8_count_126 ?_
    exact r_iret hV rfl dX8_count_129 (ret_r h) (ret_m h)
  have h := (if_neg e12).symm.trans h
  have e1t := lv_neT (a := 0) e1 rfl
  have e2t := lv_neT (a := 1) e2 rfl
  have e3t := lv_neT (a := 2) e3 rfl
  have e4t := lv_neT (a := 3) e4 rfl
  have e8t := lv_neT (a := 4) e8 rfl
  have e9t := lv_neT (a := 5) e9 rfl
  have e10t := lv_neT (a := 6) e10 rfl
  have e11t := lv_neT (a := 7) e11 rfl
  have e12t := lv_neT (a := 8) e12 rfl
  refine r_tabOut hV 130 dX8_count_1 (by omega) rfl ?_
  refine r_iconst (v := (-1 : Int32)) hV dX8_count_130 rfl ?_
  exact r_iret hV rfl dX8_count_131 (ret_r h) (ret_m h)
