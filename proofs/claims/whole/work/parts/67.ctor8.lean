abbrev ftS : String := "p0,3,6;p1,5,5;p2,12,9;p3,6,4;t0,1,3;t1,2,4;t2,7,2;t2,8,5;t4,4,6;t5,16,9;t7,3,3;f2;"
def Q8 (w : Wd) (o : Nat) (FR : FMem) : Array Value → State → Outcome → State → Prop := fun _ st oc t => oc = .returned none ∧ va_P (wD w) vwCl (wl w FR) t.heap ∧ va_F (Gr o) st t
def P8 (D : va_G) (cI cM : ClassId) (o k v : Nat) (z : Value) (B0 : Nat) : State → Prop := fun U => Pbx D cI cM o [.inr (8, [.null, .null, .null, .null, .null, .null, .null, .null, .null, .null])] U ∧ SWH (Gr B0) k v z U U.heap ∧ vk_R "BoredKings" 74 ftS k U
theorem P8.blind {As : List Value} {D : va_G} {cI cM : ClassId} {o k v : Nat} {z : Value} {B0 : Nat} : FrameBlind (va_Pc As (P8 D cI cM o k v z B0)) := by
  intro a U g mk h
  obtain ⟨h1, ⟨h2, h3, h4⟩, h5, h6⟩ := h
  exact ⟨h1, ⟨h2, h3, h4.warm (State.WarmedH.refl U)⟩, SWH.moved (u := U) (U := U.calling g mk a) (Vm.Alike.refl U.vm) h5, vk_R.same (u := U) rfl h6⟩
theorem Rg_Gr {w : Wd} {o : Nat} (ho : wB w = o) : ∀ q, Rg w q → Gr o q := fun q h => by rw [← ho]; exact h.1
set_option maxRecDepth 20000 in
theorem c_X8 (l : Launch) (D : va_G) (cI cM : ClassId) (o k v : Nat) (z : Value) (hz : z.category = 1) (B0 : Nat) (hB : B0 ≤ o) {v1 : Int32} {C2 C3 C4 : FMem} (hp1 : f_X0_read 12 (tC 82) = some (v1, C2)) (hp2 : f_X1_begin 21 C2 = some (0, C3)) (hp3 : f_X4_clear C3 = some (0, C4)) :
    Met l yX8_init [.code yX8_init cX8_init 2 none] (rmB 5 117 100 1340) (va_Pc [.ref o] (P8 D cI cM o k v z B0)) (Q8 (wdC D cI cM o) o C4) 100 1340 (Gr o) := by
  refine Met.ofW (cc := cX8_init) (maxL := 2) (ret := none) (by decide +kernel) rfl ?_
  intro p e s m args below meth c s₁ B hml hv
  obtain ⟨rfl, ⟨hP0, hsz, hK⟩, hSW, hvR⟩ := hv
  have hown : s.vm.findClass RX8 = some m.cls := findClass_of_methodNamed B.named
  have hin : meth.name = "<init>" := (name_of_methodNamed B.named B.method).1
  have hx := B.exec
  have hb := B.bytes
  have hr := B.returns
  have hlk := B.notSynchronized
  have hl := lv_entry ([.ref o]) (n := 2) (Nat.le_of_ble_eq_true rfl)
  rw [lg_entry_eq]
  generalize (lg_sl ([.ref o]) ++ List.replicate (2 - (lg_sl ([.ref o])).length) Slot.unset).toArray = ls at hl ⊢
  have hl : LH ls 2 [some (.ref o), none] := by
    refine ⟨rfl, hl.1, hl.2.1, fun i v hi => ?_⟩
    match i, hi with
    | 0, hi => cases hi; exact hl.2.2 (0, .ref o) List.mem_cons_self
    | 1, hi => cases hi
  have hT : TW s := hK.1.2
  have hKu : KU (wdC D cI cM o) s := hK.1
  have hAo : ∀ q, Rg (wdC D cI cM o) q → Gr o q := Rg_Gr rfl
  have hGB : ∀ q, Gr o q → Gr B0 q := fun q h => Nat.le_trans hB h
  have hSWo : SWH (Gr o) k v z s s.heap := hSW.narrow hGB
  have hV : Pb l D cI cM cX8_init 2 RX8 (rmB 5 117 100 1340) o (Q8 (wdC D cI cM o) o C4) 100 1340 (Bj p l e (rmB 5 117 100 1340) s m [Value.ref o].toArray below meth c 2 D o (MQ below (Q8 (wdC D cI cM o) o C4) [Value.ref o].toArray s 100 1340 (Gr o))) := ⟨p, e, s, m, _, below, meth, c, hx, hb, hml, hown, hr, hlk, hin, hsz, hK, rfl⟩
  refine p1_X8 hV ?_ s.heap [] ls hP0 va_S.rf hl
  intro H locs ls hP hS hl
  have hP : va_P D vwCl (wl (wdC D cI cM o) (tC 0)) H := by
    rw [tC_0, ← bw_wl (w := wdC D cI cM o) (o := o) rfl (E8_is D cI cM o)]
    exact hP
  -- behind the text
  have after : ∀ (H : Heap) (locs : List Loc) (ls : Array Slot) (x : Option Value), va_P D vwCl (wl (wdC D cI cM o) (tC 82)) H → va_S (Gr o) s.heap H locs → LH ls 2 [some (.ref o), x] → W p l e (rmB 5 117 100 1340) s m [Value.ref o].toArray below meth c H locs 100 1340 (MQ below (Q8 (wdC D cI cM o) o C4) [Value.ref o].toArray s 100 1340 (Gr o)) (F0 m 157 ls []) := by
    intro H locs ls x hP hS hl
    refine lv_aload_n hx hb dX8_init_157 rfl (hl.at (i := 0) rfl) ?_
    refine gGet (w := wdC D cI cM o) hx hb hown hKu fl_X8_23 (i := 0) rfl ob_0 rfl hP dX8_init_158 ?_
    refine lv_aload_n hx hb dX8_init_161 rfl (hl.at (i := 0) rfl) ?_
    refine gGet (w := wdC D cI cM o) hx hb hown hKu fl_X8_10 (i := 0) rfl ob_0 rfl hP dX8_init_162 ?_
    refine gV (w := wdC D cI cM o) hx hb hml hown hKu (m_X0_read l D cI cM o 12 isCo_12 (tC 82) v1 C2 hp1) ml_X8_90 (i := 12) rfl ob_12 rfl rfl ⟨Nat.le_of_ble_eq_true rfl, Nat.le_of_ble_eq_true rfl⟩ (Nat.le_of_ble_eq_true rfl) rfl hl.2.1 ⟨Nat.le_of_ble_eq_true rfl, Nat.le_of_ble_eq_true rfl⟩ dX8_init_165 hP hAo hS fun H locs hP _ _ hS => ?_
    refine lv_pop hx hb dX8_init_168 rfl ?_
    refine lv_aload_n hx hb dX8_init_169 rfl (hl.at (i := 0) rfl) ?_
    refine gGet (w := wdC D cI cM o) hx hb hown hKu fl_X8_29 (i := 0) rfl ob_0 rfl hP dX8_init_170 ?_
    refine lv_aload_n hx hb dX8_init_173 rfl (hl.at (i := 0) rfl) ?_
    refine gGet (w := wdC D cI cM o) hx hb hown hKu fl_X8_23 (i := 0) rfl ob_0 rfl hP dX8_init_174 ?_
    refine gV (w := wdC D cI cM o) hx hb hml hown hKu (m_X1_begin l D cI cM o 21 isMo_21 C2 0 C3 hp2) ml_X8_94 (i := 21) rfl ob_21 rfl rfl ⟨Nat.le_of_ble_eq_true rfl, Nat.le_of_ble_eq_true rfl⟩ (Nat.le_of_ble_eq_true rfl) rfl hl.2.1 ⟨Nat.le_of_ble_eq_true rfl, Nat.le_of_ble_eq_true rfl⟩ dX8_init_177 hP hAo hS fun H locs hP _ _ hS => ?_
    refine lv_aload_n hx hb dX8_init_180 rfl (hl.at (i := 0) rfl) ?_
    refine gGet (w := wdC D cI cM o) hx hb hown hKu fl_X8_10 (i := 0) rfl ob_0 rfl hP dX8_init_181 ?_
    refine gV (w := wdC D cI cM o) hx hb hml hown hKu (m_X4_clear l D cI cM o C3 0 C4 hp3) ml_X8_97 (i := 1) rfl ob_1 rfl rfl ⟨Nat.le_of_ble_eq_true rfl, Nat.le_of_ble_eq_true rfl⟩ (Nat.le_of_ble_eq_true rfl) rfl hl.2.1 ⟨Nat.le_of_ble_eq_true rfl, Nat.le_of_ble_eq_true rfl⟩ dX8_init_184 hP hAo hS fun H locs hP _ _ hS => ?_
    exact W.vret hx hb hr (fun t ht hW => ⟨rfl, by rw [ht]; exact hP, hS.F ht⟩) hS.2.2 dX8_init_187
  have loop : ∀ (n i : Nat) (H : Heap) (locs : List Loc) (ls : Array Slot), i + n = 82 → va_P D vwCl (wl (wdC D cI cM o) (tC i)) H → va_S (Gr o) s.heap H locs → LH ls 2 [some (.ref o), some (.int (nI i))] → W p l e (rmB 5 117 100 1340) s m [Value.ref o].toArray below meth c H locs 100 1340 (MQ below (Q8 (wdC D cI cM o) o C4) [Value.ref o].toArray s 100 1340 (Gr o)) (F0 m 128 ls []) := by
    intro n
    induction n with
    | zero =>
      intro i H locs ls hi hP hS hl
      have hi : i = 82 := by omega
      subst hi
      refine lv_iload_n hx hb dX8_init_128 rfl (hl.at (i := 1) rfl) ?_
      refine va_ldcS hx hb hown hvR dX8_init_129 ?_
      refine sV hx hb hml hown hT (s_len l k v z) hSWo hS rfl mj_X8_76.1 iw_280 iw_281 iw_282 rfl ⟨Nat.le_of_ble_eq_true rfl, Nat.le_of_ble_eq_true rfl⟩ (Nat.le_of_ble_eq_true rfl) rfl hl.2.1 ⟨Nat.le_of_ble_eq_true rfl, Nat.le_of_ble_eq_true rfl⟩ dX8_init_131 fun H1 locs1 g1 g2 g3 => ?_
      refine lv_icmp_ge hx hb dX8_init_134 (show _ = ((157 : Nat) : Int) by decide) (fun _ => ?_) (fun h => absurd (show (82 : Int32) ≤ nI 82 by decide) h)
      exact after H1 locs1 ls _ (hP.kept fun k2 x2 hx2 => g1 _ (hP k2 x2 hx2).lt) g3 hl
    | succ n ih =>
      intro i H locs ls hi hP hS hl
      refine lv_iload_n hx hb dX8_init_128 rfl (hl.at (i := 1) rfl) ?_
      refine va_ldcS hx hb hown hvR dX8_init_129 ?_
      refine sV hx hb hml hown hT (s_len l k v z) hSWo hS rfl mj_X8_76.1 iw_280 iw_281 iw_282 rfl ⟨Nat.le_of_ble_eq_true rfl, Nat.le_of_ble_eq_true rfl⟩ (Nat.le_of_ble_eq_true rfl) rfl hl.2.1 ⟨Nat.le_of_ble_eq_true rfl, Nat.le_of_ble_eq_true rfl⟩ dX8_init_131 fun H1 locs1 g1 g2 g3 => ?_
      have hP : va_P D vwCl (wl (wdC D cI cM o) (tC i)) H1 := hP.kept fun k2 x2 hx2 => g1 _ (hP k2 x2 hx2).lt
      refine lv_icmp_ge hx hb dX8_init_134 (show _ = ((157 : Nat) : Int) by decide) (fun h => ?_) (fun _ => ?_)
      · have h' : (82 : Int32) ≤ nI i := h
        rw [c_le (by omega) (by omega)] at h'
        omega
      refine lv_aload_n hx hb dX8_init_137 rfl (hl.at (i := 0) rfl) ?_
      refine gGet (w := wdC D cI cM o) hx hb hown hKu fl_X8_10 (i := 0) rfl ob_0 rfl hP dX8_init_138 ?_
      refine va_ldcS hx hb hown hvR dX8_init_141 ?_
      refine lv_iload_n hx hb dX8_init_143 rfl (hl.at (i := 1) rfl) ?_
      refine sV hx hb hml hown hT (s_cha l k v z hz i (by omega)) hSWo g3 rfl mj_X8_82.1 iw_290 iw_291 iw_292 rfl ⟨Nat.le_of_ble_eq_true rfl, Nat.le_of_ble_eq_true rfl⟩ (Nat.le_of_ble_eq_true rfl) rfl hl.2.1 ⟨Nat.le_of_ble_eq_true rfl, Nat.le_of_ble_eq_true rfl⟩ dX8_init_144 fun H2 locs2 g4 g5 g6 => ?_
      have hP : va_P D vwCl (wl (wdC D cI cM o) (tC i)) H2 := hP.kept fun k2 x2 hx2 => g4 _ (hP k2 x2 hx2).lt
      refine gV (w := wdC D cI cM o) hx hb hml hown hKu (m_X4_append l D cI cM o (ftx8 i) (tC i) 1 (tC (i + 1)) (tC_app (by omega))) ml_X8_86 (i := 1) rfl ob_1 rfl rfl ⟨Nat.le_of_ble_eq_true rfl, Nat.le_of_ble_eq_true rfl⟩ (Nat.le_of_ble_eq_true rfl) rfl hl.2.1 ⟨Nat.le_of_ble_eq_true rfl, Nat.le_of_ble_eq_true rfl⟩ dX8_init_147 hP hAo g6 fun H3 locs3 hP _ _ hS => ?_
      refine lv_pop hx hb dX8_init_150 rfl ?_
      obtain ⟨j, hj⟩ := List.getElem?_of_mem (lvL_mem.mpr (show ([some (.ref o), some (.int (nI i))] : List (Option Value))[1]? = some (some (.int (nI i))) from rfl))
      refine lv_iinc hx hb dX8_init_151 hl.has hj (v := nI i + 1) (by rw [show Int32.ofInt 1 = 1 by decide]) (by decide) rfl (fun ls2 h2 => ?_)
      have hl2 := LH.st1 hl.1 rfl h2
      refine lv_goto hx hb dX8_init_154 (show _ = ((128 : Nat) : Int) by decide) ?_
      have hl3 : LH ls2 2 [some (.ref o), some (.int (nI (i + 1)))] := by
        rw [← nI_1]
        exact hl2
      exact ih (i + 1) H3 locs3 ls2 (by omega) hP hS hl3
  refine lv_iconst (v := 0) hx hb dX8_init_126 (by decide) ?_
  refine lv_istore_n hx hb dX8_init_127 rfl hl.has (by decide) rfl (fun ls2 h2 => ?_)
  exact loop 82 0 H locs ls2 (by omega) hP hS (LH.st1 hl.1 rfl h2)
