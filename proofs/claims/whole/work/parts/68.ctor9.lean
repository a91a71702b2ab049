def P9 (D : va_G) (cI cM : ClassId) (o : Nat) : State → Prop := Pbx D cI cM o [.inr (9, [.int 0, .null, .int 0, .null, .null, .int 0, .null, .int 0, .null, .int 0, .null, .null, .int 0, .int 0, .null, .int 0, .null, .int 0, .null, .null, .int 0, .int 0, .null, .null])]
/-- what the reference tells itself first -/
def told0 : Opt :=
  bnd (f_X9_clearTold M0) fun _ M1 => bnd (f_X9_tellsPerson 0 3 6 M1) fun _ M2 => bnd (f_X9_tellsPerson 1 5 5 M2) fun _ M3 => bnd (f_X9_tellsPerson 2 12 9 M3) fun _ M4 => bnd (f_X9_tellsPerson 3 6 4 M4) fun _ M5 =>
  bnd (f_X9_addsThing 10 0 1 3 M5) fun _ M6 => bnd (f_X9_addsThing 10 1 2 4 M6) fun _ M7 => bnd (f_X9_addsThing 10 2 7 2 M7) fun _ M8 => bnd (f_X9_addsThing 10 2 8 5 M8) fun _ M9 => bnd (f_X9_addsThing 10 4 4 6 M9) fun _ M10 => bnd (f_X9_addsThing 10 5 16 9 M10) fun _ M11 => f_X9_addsThing 10 7 3 3 M11
theorem KB.M {D : va_G} {cI cM : ClassId} {o : Nat} {s : State} (h : KB D cI cM s) : KU (wdM D cI o) s := ⟨h.K.sub [0] rfl, h.1.2⟩
set_option maxRecDepth 20000 in
theorem c_X9 (l : Launch) (D : va_G) (cI cM : ClassId) (o : Nat) {r1 r2 : Int32} {MA MB : FMem} (hp1 : told0 = some (r1, MA)) (hp2 : f_X9_settles MA = some (r2, MB)) :
    Met l yX9_init [.code yX9_init cX9_init 1 none] (rmB 2 45 13 911) (va_Pc [.ref o] (P9 D cI cM o)) (Q8 (wdM D cI o) o MB) 13 911 (Gr o) := by
  refine Met.ofW (cc := cX9_init) (maxL := 1) (ret := none) (by decide +kernel) rfl ?_
  intro p e s m args below meth c s₁ B hml hv
  obtain ⟨rfl, hP0, hsz, hK⟩ := hv
  have hown : s.vm.findClass RX9 = some m.cls := findClass_of_methodNamed B.named
  have hin : meth.name = "<init>" := (name_of_methodNamed B.named B.method).1
  have hx := B.exec
  have hb := B.bytes
  have hr := B.returns
  have hlk := B.notSynchronized
  have hl := lv_entry ([.ref o]) (n := 1) (Nat.le_of_ble_eq_true rfl)
  rw [lg_entry_eq]
  generalize (lg_sl ([.ref o]) ++ List.replicate (1 - (lg_sl ([.ref o])).length) Slot.unset).toArray = ls at hl ⊢
  have hl : LH ls 1 [some (.ref o)] := by
    refine ⟨rfl, hl.1, hl.2.1, fun i v hi => ?_⟩
    match i, hi with
    | 0, hi => cases hi; exact hl.2.2 (0, .ref o) List.mem_cons_self
  have hKu : KU (wdM D cI o) s := hK.M
  have hAo : ∀ q, Rg (wdM D cI o) q → Gr o q := Rg_Gr rfl
  have hV : Pb l D cI cM cX9_init 1 RX9 (rmB 2 45 13 911) o (Q8 (wdM D cI o) o MB) 13 911 (Bj p l e (rmB 2 45 13 911) s m [Value.ref o].toArray below meth c 1 D o (MQ below (Q8 (wdM D cI o) o MB) [Value.ref o].toArray s 13 911 (Gr o))) := ⟨p, e, s, m, _, below, meth, c, hx, hb, hml, hown, hr, hlk, hin, hsz, hK, rfl⟩
  refine p1_X9 hV ?_ s.heap [] ls hP0 va_S.rf hl
  intro H locs ls hP hS hl
  have hP : va_P D vwCl (wl (wdM D cI o) M0) H := by
    rw [← bw_wl (w := wdM D cI o) (o := o) rfl (E9_is D cI o)]
    exact hP
  unfold told0 at hp1
  refine lv_aload_n hx hb dX9_init_109 rfl (hl.at (i := 0) rfl) ?_
  obtain ⟨a1, M1, e1, hp1⟩ := bnd_some hp1
  refine gV (w := wdM D cI o) hx hb hml hown hKu (m_X9_clearTold l D cI o M0 a1 M1 e1) ml_X9_49 (i := 0) rfl obM_0 rfl rfl ⟨Nat.le_of_ble_eq_true rfl, Nat.le_of_ble_eq_true rfl⟩ (Nat.le_of_ble_eq_true rfl) rfl hl.2.1 ⟨Nat.le_of_ble_eq_true rfl, Nat.le_of_ble_eq_true rfl⟩ dX9_init_110 hP hAo hS fun H locs hP _ _ hS => ?_
  refine lv_aload_n hx hb dX9_init_113 rfl (hl.at (i := 0) rfl) ?_
  refine lv_iconst (v := 0) hx hb dX9_init_114 (by decide) ?_
  refine lv_iconst (v := 3) hx hb dX9_init_115 (by decide) ?_
  refine lv_bipush (v := 6) hx hb dX9_init_116 (by decide) ?_
  obtain ⟨a2, M2, e2, hp1⟩ := bnd_some hp1
  refine gV (w := wdM D cI o) hx hb hml hown hKu (m_X9_tellsPerson l D cI o 0 3 6 M1 a2 M2 e2) ml_X9_52 (i := 0) rfl obM_0 rfl rfl ⟨Nat.le_of_ble_eq_true rfl, Nat.le_of_ble_eq_true rfl⟩ (Nat.le_of_ble_eq_true rfl) rfl hl.2.1 ⟨Nat.le_of_ble_eq_true rfl, Nat.le_of_ble_eq_true rfl⟩ dX9_init_118 hP hAo hS fun H locs hP _ _ hS => ?_
  refine lv_aload_n hx hb dX9_init_121 rfl (hl.at (i := 0) rfl) ?_
  refine lv_iconst (v := 1) hx hb dX9_init_122 (by decide) ?_
  refine lv_iconst (v := 5) hx hb dX9_init_123 (by decide) ?_
  refine lv_iconst (v := 5) hx hb dX9_init_124 (by decide) ?_
  obtain ⟨a3, M3, e3, hp1⟩ := bnd_some hp1
  refine gV (w := wdM D cI o) hx hb hml hown hKu (m_X9_tellsPerson l D cI o 1 5 5 M2 a3 M3 e3) ml_X9_52 (i := 0) rfl obM_0 rfl rfl ⟨Nat.le_of_ble_eq_true rfl, Nat.le_of_ble_eq_true rfl⟩ (Nat.le_of_ble_eq_true rfl) rfl hl.2.1 ⟨Nat.le_of_ble_eq_true rfl, Nat.le_of_ble_eq_true rfl⟩ dX9_init_125 hP hAo hS fun H locs hP _ _ hS => ?_
  refine lv_aload_n hx hb dX9_init_128 rfl (hl.at (i := 0) rfl) ?_
  refine lv_iconst (v := 2) hx hb dX9_init_129 (by decide) ?_
  refine lv_bipush (v := 12) hx hb dX9_init_130 (by decide) ?_
  refine lv_bipush (v := 9) hx hb dX9_init_132 (by decide) ?_
  obtain ⟨a4, M4, e4, hp1⟩ := bnd_some hp1
  refine gV (w := wdM D cI o) hx hb hml hown hKu (m_X9_tellsPerson l D cI o 2 12 9 M3 a4 M4 e4) ml_X9_52 (i := 0) rfl obM_0 rfl rfl ⟨Nat.le_of_ble_eq_true rfl, Nat.le_of_ble_eq_true rfl⟩ (Nat.le_of_ble_eq_true rfl) rfl hl.2.1 ⟨Nat.le_of_ble_eq_true rfl, Nat.le_of_ble_eq_true rfl⟩ dX9_init_134 hP hAo hS fun H locs hP _ _ hS => ?_
  refine lv_aload_n hx hb dX9_init_137 rfl (hl.at (i := 0) rfl) ?_
  refine lv_iconst (v := 3) hx hb dX9_init_138 (by decide) ?_
  refine lv_bipush (v := 6) hx hb dX9_init_139 (by decide) ?_
  refine lv_iconst (v := 4) hx hb dX9_init_141 (by decide) ?_
  obtain ⟨a5, M5, e5, hp1⟩ := bnd_some hp1
  refine gV (w := wdM D cI o) hx hb hml hown hKu (m_X9_tellsPerson l D cI o 3 6 4 M4 a5 M5 e5) ml_X9_52 (i := 0) rfl obM_0 rfl rfl ⟨Nat.le_of_ble_eq_true rfl, Nat.le_of_ble_eq_true rfl⟩ (Nat.le_of_ble_eq_true rfl) rfl hl.2.1 ⟨Nat.le_of_ble_eq_true rfl, Nat.le_of_ble_eq_true rfl⟩ dX9_init_142 hP hAo hS fun H locs hP _ _ hS => ?_
  refine lv_aload_n hx hb dX9_init_145 rfl (hl.at (i := 0) rfl) ?_
  refine gGet (w := wdM D cI o) hx hb hown hKu fl_X9_37 (i := 0) rfl obM_0 rfl hP dX9_init_146 ?_
  refine lv_iconst (v := 0) hx hb dX9_init_149 (by decide) ?_
  refine lv_iconst (v := 1) hx hb dX9_init_150 (by decide) ?_
  refine lv_iconst (v := 3) hx hb dX9_init_151 (by decide) ?_
  obtain ⟨a6, M6, e6, hp1⟩ := bnd_some hp1
  refine gS (w := wdM D cI o) hx hb hml hown hKu (m_X9_addsThing l D cI o 10 arM_10 0 1 3 M5 a6 M6 e6) ml_X9_56 rfl ⟨Nat.le_of_ble_eq_true rfl, Nat.le_of_ble_eq_true rfl⟩ (Nat.le_of_ble_eq_true rfl) rfl hl.2.1 ⟨Nat.le_of_ble_eq_true rfl, Nat.le_of_ble_eq_true rfl⟩ dX9_init_152 hP hAo hS fun H locs hP _ _ hS => ?_
  refine lv_aload_n hx hb dX9_init_155 rfl (hl.at (i := 0) rfl) ?_
  refine gGet (w := wdM D cI o) hx hb hown hKu fl_X9_37 (i := 0) rfl obM_0 rfl hP dX9_init_156 ?_
  refine lv_iconst (v := 1) hx hb dX9_init_159 (by decide) ?_
  refine lv_iconst (v := 2) hx hb dX9_init_160 (by decide) ?_
  refine lv_iconst (v := 4) hx hb dX9_init_161 (by decide) ?_
  obtain ⟨a7, M7, e7, hp1⟩ := bnd_some hp1
  refine gS (w := wdM D cI o) hx hb hml hown hKu (m_X9_addsThing l D cI o 10 arM_10 1 2 4 M6 a7 M7 e7) ml_X9_56 rfl ⟨Nat.le_of_ble_eq_true rfl, Nat.le_of_ble_eq_true rfl⟩ (Nat.le_of_ble_eq_true rfl) rfl hl.2.1 ⟨Nat.le_of_ble_eq_true rfl, Nat.le_of_ble_eq_true rfl⟩ dX9_init_162 hP hAo hS fun H locs hP _ _ hS => ?_
  refine lv_aload_n hx hb dX9_init_165 rfl (hl.at (i := 0) rfl) ?_
  refine gGet (w := wdM D cI o) hx hb hown hKu fl_X9_37 (i := 0) rfl obM_0 rfl hP dX9_init_166 ?_
  refine lv_iconst (v := 2) hx hb dX9_init_169 (by decide) ?_
  refine lv_bipush (v := 7) hx hb dX9_init_170 (by decide) ?_
  refine lv_iconst (v := 2) hx hb dX9_init_172 (by decide) ?_
  obtain ⟨a8, M8, e8, hp1⟩ := bnd_some hp1
  refine gS (w := wdM D cI o) hx hb hml hown hKu (m_X9_addsThing l D cI o 10 arM_10 2 7 2 M7 a8 M8 e8) ml_X9_56 rfl ⟨Nat.le_of_ble_eq_true rfl, Nat.le_of_ble_eq_true rfl⟩ (Nat.le_of_ble_eq_true rfl) rfl hl.2.1 ⟨Nat.le_of_ble_eq_true rfl, Nat.le_of_ble_eq_true rfl⟩ dX9_init_173 hP hAo hS fun H locs hP _ _ hS => ?_
  refine lv_aload_n hx hb dX9_init_176 rfl (hl.at (i := 0) rfl) ?_
  refine gGet (w := wdM D cI o) hx hb hown hKu fl_X9_37 (i := 0) rfl obM_0 rfl hP dX9_init_177 ?_
  refine lv_iconst (v := 2) hx hb dX9_init_180 (by decide) ?_
  refine lv_bipush (v := 8) hx hb dX9_init_181 (by decide) ?_
  refine lv_iconst (v := 5) hx hb dX9_init_183 (by decide) ?_
  obtain ⟨a9, M9, e9, hp1⟩ := bnd_some hp1
  refine gS (w := wdM D cI o) hx hb hml hown hKu (m_X9_addsThing l D cI o 10 arM_10 2 8 5 M8 a9 M9 e9) ml_X9_56 rfl ⟨Nat.le_of_ble_eq_true rfl, Nat.le_of_ble_eq_true rfl⟩ (Nat.le_of_ble_eq_true rfl) rfl hl.2.1 ⟨Nat.le_of_ble_eq_true rfl, Nat.le_of_ble_eq_true rfl⟩ dX9_init_184 hP hAo hS fun H locs hP _ _ hS => ?_
  refine lv_aload_n hx hb dX9_init_187 rfl (hl.at (i := 0) rfl) ?_
  refine gGet (w := wdM D cI o) hx hb hown hKu fl_X9_37 (i := 0) rfl obM_0 rfl hP dX9_init_188 ?_
  refine lv_iconst (v := 4) hx hb dX9_init_191 (by decide) ?_
  refine lv_iconst (v := 4) hx hb dX9_init_192 (by decide) ?_
  refine lv_bipush (v := 6) hx hb dX9_init_193 (by decide) ?_
  obtain ⟨a10, M10, e10, hp1⟩ := bnd_some hp1
  refine gS (w := wdM D cI o) hx hb hml hown hKu (m_X9_addsThing l D cI o 10 arM_10 4 4 6 M9 a10 M10 e10) ml_X9_56 rfl ⟨Nat.le_of_ble_eq_true rfl, Nat.le_of_ble_eq_true rfl⟩ (Nat.le_of_ble_eq_true rfl) rfl hl.2.1 ⟨Nat.le_of_ble_eq_true rfl, Nat.le_of_ble_eq_true rfl⟩ dX9_init_195 hP hAo hS fun H locs hP _ _ hS => ?_
  refine lv_aload_n hx hb dX9_init_198 rfl (hl.at (i := 0) rfl) ?_
  refine gGet (w := wdM D cI o) hx hb hown hKu fl_X9_37 (i := 0) rfl obM_0 rfl hP dX9_init_199 ?_
  refine lv_iconst (v := 5) hx hb dX9_init_202 (by decide) ?_
  refine lv_bipush (v := 16) hx hb dX9_init_203 (by decide) ?_
  refine lv_bipush (v := 9) hx hb dX9_init_205 (by decide) ?_
  obtain ⟨a11, M11, e11, hp1⟩ := bnd_some hp1
  refine gS (w := wdM D cI o) hx hb hml hown hKu (m_X9_addsThing l D cI o 10 arM_10 5 16 9 M10 a11 M11 e11) ml_X9_56 rfl ⟨Nat.le_of_ble_eq_true rfl, Nat.le_of_ble_eq_true rfl⟩ (Nat.le_of_ble_eq_true rfl) rfl hl.2.1 ⟨Nat.le_of_ble_eq_true rfl, Nat.le_of_ble_eq_true rfl⟩ dX9_init_207 hP hAo hS fun H locs hP _ _ hS => ?_
  refine lv_aload_n hx hb dX9_init_210 rfl (hl.at (i := 0) rfl) ?_
  refine gGet (w := wdM D cI o) hx hb hown hKu fl_X9_37 (i := 0) rfl obM_0 rfl hP dX9_init_211 ?_
  refine lv_bipush (v := 7) hx hb dX9_init_214 (by decide) ?_
  refine lv_iconst (v := 3) hx hb dX9_init_216 (by decide) ?_
  refine lv_iconst (v := 3) hx hb dX9_init_217 (by decide) ?_
  have e12 := hp1
  refine gS (w := wdM D cI o) hx hb hml hown hKu (m_X9_addsThing l D cI o 10 arM_10 7 3 3 M11 r1 MA e12) ml_X9_56 rfl ⟨Nat.le_of_ble_eq_true rfl, Nat.le_of_ble_eq_true rfl⟩ (Nat.le_of_ble_eq_true rfl) rfl hl.2.1 ⟨Nat.le_of_ble_eq_true rfl, Nat.le_of_ble_eq_true rfl⟩ dX9_init_218 hP hAo hS fun H locs hP _ _ hS => ?_
  refine lv_aload_n hx hb dX9_init_221 rfl (hl.at (i := 0) rfl) ?_
  refine gV (w := wdM D cI o) hx hb hml hown hKu (m_X9_settles l D cI o MA r2 MB hp2) ml_X9_60 (i := 0) rfl obM_0 rfl rfl ⟨Nat.le_of_ble_eq_true rfl, Nat.le_of_ble_eq_true rfl⟩ (Nat.le_of_ble_eq_true rfl) rfl hl.2.1 ⟨Nat.le_of_ble_eq_true rfl, Nat.le_of_ble_eq_true rfl⟩ dX9_init_222 hP hAo hS fun H locs hP _ _ hS => ?_
  exact W.vret hx hb hr (fun t ht hW => ⟨rfl, by rw [ht]; exact hP, hS.F ht⟩) hS.2.2 dX9_init_225
