theorem iw_55 : inT (.initialized RJ0) := inT_of 55 (by decide +kernel) (by decide +kernel)
theorem iw_56 : inT (.initialized RJ1) := inT_of 56 (by decide +kernel) (by decide +kernel)
theorem iw_57 : inT (.initialized RJ3) := inT_of 57 (by decide +kernel) (by decide +kernel)
theorem iw_280 : inT (.methodLink RX8 76 yJ0_length_8abf5) := inT_of 280 (by decide +kernel) (by decide +kernel)
theorem iw_281 : inT (.instanceMethod yJ0_length_8abf5) := inT_of 281 (by decide +kernel) (by decide +kernel)
theorem iw_282 : inT (.selects RJ0 yJ0_length_8abf5 yJ0_length_8abf5) := inT_of 282 (by decide +kernel) (by decide +kernel)
theorem iw_283 : inT (.code yJ0_length_8abf5 cJ0_length_8abf5 1 (some .int)) := inT_of 283 (by decide +kernel) (by decide +kernel)
theorem iw_284 : inT (.methodLink RJ0 335 yJ0_coder_7d493) := inT_of 284 (by decide +kernel) (by decide +kernel)
theorem iw_285 : inT (.instanceMethod yJ0_coder_7d493) := inT_of 285 (by decide +kernel) (by decide +kernel)
theorem iw_286 : inT (.selects RJ0 yJ0_coder_7d493 yJ0_coder_7d493) := inT_of 286 (by decide +kernel) (by decide +kernel)
theorem iw_287 : inT (.code yJ0_coder_7d493 cJ0_coder_7d493 1 (some .byte)) := inT_of 287 (by decide +kernel) (by decide +kernel)
theorem iw_288 : inT (.fieldLink RJ0 38 "java/lang/String" "COMPACT_STRINGS" "Z") := inT_of 288 (by decide +kernel) (by decide +kernel)
theorem iw_290 : inT (.methodLink RX8 82 yJ0_charAt_5068e) := inT_of 290 (by decide +kernel) (by decide +kernel)
theorem iw_291 : inT (.instanceMethod yJ0_charAt_5068e) := inT_of 291 (by decide +kernel) (by decide +kernel)
theorem iw_292 : inT (.selects RJ0 yJ0_charAt_5068e yJ0_charAt_5068e) := inT_of 292 (by decide +kernel) (by decide +kernel)
theorem iw_293 : inT (.code yJ0_charAt_5068e cJ0_charAt_5068e 2 (some .char)) := inT_of 293 (by decide +kernel) (by decide +kernel)
theorem iw_294 : inT (.methodLink RJ0 492 yJ0_isLatin1_aae02) := inT_of 294 (by decide +kernel) (by decide +kernel)
theorem iw_295 : inT (.instanceMethod yJ0_isLatin1_aae02) := inT_of 295 (by decide +kernel) (by decide +kernel)
theorem iw_296 : inT (.selects RJ0 yJ0_isLatin1_aae02 yJ0_isLatin1_aae02) := inT_of 296 (by decide +kernel) (by decide +kernel)
theorem iw_297 : inT (.code yJ0_isLatin1_aae02 cJ0_isLatin1_aae02 1 (some .boolean)) := inT_of 297 (by decide +kernel) (by decide +kernel)
theorem iw_298 : inT (.methodLink RJ0 495 yJ1_charAt_3b067) := inT_of 298 (by decide +kernel) (by decide +kernel)
theorem iw_299 : inT (.static yJ1_charAt_3b067) := inT_of 299 (by decide +kernel) (by decide +kernel)
theorem iw_300 : inT (.code yJ1_charAt_3b067 cJ1_charAt_3b067 2 (some .char)) := inT_of 300 (by decide +kernel) (by decide +kernel)
theorem iw_301 : inT (.methodLink RJ1 9 yJ0_checkIndex_df160) := inT_of 301 (by decide +kernel) (by decide +kernel)
theorem iw_302 : inT (.static yJ0_checkIndex_df160) := inT_of 302 (by decide +kernel) (by decide +kernel)
theorem iw_303 : inT (.code yJ0_checkIndex_df160 cJ0_checkIndex_df160 2 none) := inT_of 303 (by decide +kernel) (by decide +kernel)
theorem iw_304 : inT (.fieldLink RJ0 1053 "jdk/internal/util/Preconditions" "SIOOBE_FORMATTER" "Ljava/util/function/BiFunction;") := inT_of 304 (by decide +kernel) (by decide +kernel)
theorem iw_306 : inT (.methodLink RJ0 1059 yJ3_checkIndex_8e157) := inT_of 306 (by decide +kernel) (by decide +kernel)
theorem iw_307 : inT (.static yJ3_checkIndex_8e157) := inT_of 307 (by decide +kernel) (by decide +kernel)
theorem iw_308 : inT (.code yJ3_checkIndex_8e157 cJ3_checkIndex_8e157 3 (some .int)) := inT_of 308 (by decide +kernel) (by decide +kernel)
theorem iw_1074 : inT (.fieldLink RJ0 9 "java/lang/String" "value" "[B") := inT_of 1074 (by decide +kernel) (by decide +kernel)
theorem iw_1075 : inT (.fieldLink RJ0 15 "java/lang/String" "coder" "B") := inT_of 1075 (by decide +kernel) (by decide +kernel)
theorem mj_J0_1059 : MLS RJ0 1059 yJ3_checkIndex_8e157 cJ3_checkIndex_8e157 3 (some .int) 3 := ⟨⟨iw_308, by decide +kernel, iw_57, by decide +kernel, by decide +kernel, by decide +kernel⟩, Or.inl iw_306, iw_307⟩
theorem mj_J1_9 : MLS RJ1 9 yJ0_checkIndex_df160 cJ0_checkIndex_df160 2 none 2 := ⟨⟨iw_303, by decide +kernel, iw_55, by decide +kernel, by decide +kernel, by decide +kernel⟩, Or.inl iw_301, iw_302⟩
theorem mj_J0_495 : MLS RJ0 495 yJ1_charAt_3b067 cJ1_charAt_3b067 2 (some .char) 2 := ⟨⟨iw_300, by decide +kernel, iw_56, by decide +kernel, by decide +kernel, by decide +kernel⟩, Or.inl iw_298, iw_299⟩
theorem mj_J0_492 : MLV RJ0 492 yJ0_isLatin1_aae02 cJ0_isLatin1_aae02 1 (some .boolean) 0 := ⟨⟨iw_297, by decide +kernel, iw_55, by decide +kernel, by decide +kernel, by decide +kernel⟩, Or.inl iw_294, iw_295, iw_296⟩
theorem mj_J0_335 : MLV RJ0 335 yJ0_coder_7d493 cJ0_coder_7d493 1 (some .byte) 0 := ⟨⟨iw_287, by decide +kernel, iw_55, by decide +kernel, by decide +kernel, by decide +kernel⟩, Or.inl iw_284, iw_285, iw_286⟩
theorem mj_X8_76 : MLV RX8 76 yJ0_length_8abf5 cJ0_length_8abf5 1 (some .int) 0 := ⟨⟨iw_283, by decide +kernel, iw_55, by decide +kernel, by decide +kernel, by decide +kernel⟩, Or.inl iw_280, iw_281, iw_282⟩
theorem mj_X8_82 : MLV RX8 82 yJ0_charAt_5068e cJ0_charAt_5068e 2 (some .char) 1 := ⟨⟨iw_293, by decide +kernel, iw_55, by decide +kernel, by decide +kernel, by decide +kernel⟩, Or.inl iw_290, iw_291, iw_292⟩
/-! ===== the text constant, and String's own methods over it ===== -/
def ftx : List Int32 := [112, 48, 44, 51, 44, 54, 59, 112, 49, 44, 53, 44, 53, 59, 112, 50, 44, 49, 50, 44, 57, 59, 112, 51, 44, 54, 44, 52, 59, 116, 48, 44, 49, 44, 51, 59, 116, 49, 44, 50, 44, 52, 59, 116, 50, 44, 55, 44, 50, 59, 116, 50, 44, 56, 44, 53, 59, 116, 52, 44, 52, 44, 54, 59, 116, 53, 44, 49, 54, 44, 57, 59, 116, 55, 44, 51, 44, 51, 59, 102, 50, 59]
def fch (j : Nat) : Int32 := ftx.getD j 0
def nF : Nat → Prop := fun _ => False
/-- the constant at k, its bytes at v, what the tables hold of statics (a formatter at z) -/
def SWH (A : Nat → Prop) (k v : Nat) (z : Value) (U : State) (H : Heap) : Prop :=
  va_O "java/lang/String" k A U H ∧ va_OF "java/lang/String" "coder" "B" (.int 0) k A U H ∧ va_OF "java/lang/String" "value" "[B" (.ref v) k A U H ∧ va_T .byte v 82 (fun j => .int (fch j)) A U H ∧ va_Z "java/lang/String" "COMPACT_STRINGS" "Z" (.int 1) A U H ∧ va_Z "jdk/internal/util/Preconditions" "SIOOBE_FORMATTER" "Ljava/util/function/BiFunction;" z A U H
theorem SWH.moved {A : Nat → Prop} {k v : Nat} {z : Value} {u U : State} {H : Heap} (hvm : u.vm.Alike U.vm) (h : SWH A k v z u H) : SWH A k v z U H := ⟨va_O.moved hvm h.1, va_OF.moved hvm h.2.1, va_OF.moved hvm h.2.2.1, va_T.moved hvm h.2.2.2.1, va_Z.moved hvm h.2.2.2.2.1, va_Z.moved hvm h.2.2.2.2.2⟩
theorem SWH.kept {A : Nat → Prop} {k v : Nat} {z : Value} {U : State} {H H1 : Heap} (h : SWH A k v z U H) (hq : ∀ a : Nat, a < H.size → ¬ A a → H1[a]? = H[a]?) : SWH A k v z U H1 := ⟨h.1.kept hq, h.2.1.kept hq, h.2.2.1.kept hq, h.2.2.2.1.kept hq, h.2.2.2.2.1.kept hq, h.2.2.2.2.2.kept hq⟩
theorem SWH.narrow {A B : Nat → Prop} {k v : Nat} {z : Value} {U : State} {H : Heap} (h : SWH A k v z U H) (hAB : ∀ q, B q → A q) : SWH B k v z U H := ⟨h.1.narrow hAB, h.2.1.narrow hAB, h.2.2.1.narrow hAB, h.2.2.2.1.narrow hAB, h.2.2.2.2.1.narrow hAB, h.2.2.2.2.2.narrow hAB⟩
def Qs (r : Option Value) : Array Value → State → Outcome → State → Prop := fun _ st oc t => oc = .returned r ∧ va_F nF st t
def Sm (l : Launch) (y : MethodName) (cc : ByteArray) (nL : Nat) (ret : Option FieldType) (fr lo : Nat) (As : List Value) (k v : Nat) (z : Value) (r : Option Value) : Prop :=
  Met l y [.code y cc nL ret] (rmOf fr lo) (va_Pc As (fun U => SWH nF k v z U U.heap ∧ TW U)) (Qs r) 0 0 nF
theorem Sm.blind {As : List Value} {k v : Nat} {z : Value} : FrameBlind (va_Pc As (fun U => SWH nF k v z U U.heap ∧ TW U)) := by
  intro a U g mk h
  obtain ⟨h1, h2, h3⟩ := h
  exact ⟨h1, SWH.moved (u := U) (U := U.calling g mk a) (Vm.Alike.refl U.vm) h2, h3.warm (State.WarmedH.refl U)⟩
theorem Sm.of {l : Launch} {y : MethodName} {cc : ByteArray} {nL : Nat} {ret : Option FieldType} {fr lo : Nat} {As : List Value} {k v : Nat} {z : Value} {r : Option Value} (hy : plainName y.cls = true) (hc : ∀ v ∈ As, v.category = 1) (L0 : List (Option Value)) (hL0 : L0 = As.map some ++ List.replicate (nL - As.length) none) (hn : As.length ≤ nL)
    (body : ∀ (p : Program) (e : Env) (s : State) (m : MethodId) (args : Array Value) (below : List Frame) (meth : Method) (c : Code), p.tables.exec = Jvm.exec → c.code = cc → c.maxLocals = nL → s.vm.findClass y.cls = some m.cls → meth.sig.returnType = ret → meth.locks = false → SWH nF k v z s s.heap → TW s → ∀ ls : Array Slot, LH ls nL L0 →
      W p l e (rmOf fr lo) s m args below meth c s.heap [] 0 0 (MQ below (Qs r) args s 0 0 nF) (F0 m 0 ls [])) : Sm l y cc nL ret fr lo As k v z r := by
  refine Met.ofW (cc := cc) (maxL := nL) (ret := ret) hy rfl ?_
  intro p e s m args below meth c s₁ B hml hv
  obtain ⟨rfl, hSW, hT⟩ := hv
  have hown : s.vm.findClass y.cls = some m.cls := findClass_of_methodNamed B.named
  have hlen := lg_sl_cat hc
  have hl := lv_entry As (n := nL) (by rw [hlen]; exact hn)
  rw [lg_entry_eq]
  refine body p e s m _ below meth c B.exec B.bytes hml hown B.returns B.notSynchronized hSW hT _ ?_
  refine ⟨?_, hl.1, hl.2.1, fun i v hi => ?_⟩
  · rw [hL0, List.length_append, List.length_map, List.length_replicate]
    omega
  · refine hl.2.2 (i, v) ?_
    rw [hL0] at hi
    by_cases h9 : i < As.length
    · rw [List.getElem?_append_left (by rw [List.length_map]; exact h9), List.getElem?_map, Option.map_eq_some_iff] at hi
      obtain ⟨v', h1, h2⟩ := hi
      cases h2
      have h3 := lv_args_cat hc 0 i v h1
      rwa [Nat.zero_add] at h3
    · rw [List.getElem?_append_right (by rw [List.length_map]; omega)] at hi
      have := List.eq_of_mem_replicate (List.mem_of_getElem? hi)
      cases this
/-- behind a call that writes nothing -/
theorem Ws.call {p : Program} {l : Launch} {e : Env} {R : Room} {s : State} {m : MethodId} {args : Array Value} {below : List Frame} {meth : Method} {c : Code} {H : Heap} {locs : List Loc} {cells slots : Nat} {Q : State → Prop} {A : Nat → Prop} {pc : Nat} {ls : Array Slot} {rest st0 : List Value} {a : Array Value} {r : Option Value}
    (hr : va_Run p l e R s m args below meth c H locs cells slots 0 0 (F0 m pc ls st0) rest (Qs r a) nF) (hS : va_S A s.heap H locs)
    (kk : ∀ (H1 : Heap) (locs1 : List Loc), (∀ q : Nat, q < H.size → H1[q]? = H[q]?) → H.size ≤ H1.size → va_S A s.heap H1 locs1 → W p l e R s m args below meth c H1 locs1 cells slots Q (F0 m (pc + 3) ls (r.toList ++ rest))) : W p l e R s m args below meth c H locs cells slots Q (F0 m pc ls st0) := by
  intro T hT X
  obtain ⟨v, st₀, t, T', L, h0, X', hL, e1, e2, ⟨hv, hz, hk⟩, st⟩ := hr T hT X
  cases hv
  rw [h0] at hz hk
  obtain ⟨t2, a1, b1⟩ := kk T'.heap (locs ++ L) (fun q hq => by rw [e1]; exact hk q hq (fun z => z)) (by rw [e1]; exact hz)
    ⟨Nat.le_trans hS.1 (by rw [e1]; exact hz), fun q h1 h2 => by rw [e1, hk q (Nat.lt_of_lt_of_le h1 hS.1) (fun z => z)]; exact hS.2.1 q h1 h2, fun q hq => by
      rcases List.mem_append.mp hq with h | h
      · exact hS.2.2 q h
      · exact (hL q h).elim⟩ T' rfl X'
  exact ⟨t2, st t2 a1, b1⟩
section STRCALLS
variable {p : Program} {l : Launch} {e : Env} {R : Room} {s : State} {m : MethodId} {args : Array Value} {below : List Frame} {meth : Method} {c : Code} {H : Heap} {locs : List Loc} {cells slots : Nat} {Q : State → Prop} {A : Nat → Prop} {pc : Nat} {ls : Array Slot} {st stk As : List Value} {r : Option Value}
variable {cc : ByteArray} {nL : Nat} {own : String} {y : MethodName} {bytes : ByteArray} {maxL index n fr lo k v a : Nat} {z : Value} {rt : Option FieldType} {w : Wd}
theorem MLb.cb (hT : TW s) (hb : MLb y bytes maxL rt n) (hl : inT (.methodLink own index y)) (hR : fr + 1 ≤ R.frames ∧ 8 + (maxL + 11) + lo ≤ R.locals) : CallB R s args own index y bytes maxL rt [.code y bytes maxL rt] (rmOf fr lo) 0 0 n := by
  obtain ⟨h1, h2, h3, h4, h5, h6⟩ := hb
  refine ⟨rfl, rfl, hR.1, hR.2, fun x hx a' U hW => ?_, List.mem_cons_self, hT _ h1 _, hT _ h3 _, ⟨h4, h5⟩, fun sig h => ?_, hT _ hl _⟩
  · rw [List.mem_singleton.mp hx]
    exact (hT.warm hW) _ h1 _
  · rw [h] at h6
    exact (Option.some.inj h6).symm
theorem sS (hx : p.tables.exec = Jvm.exec) (hb : c.code = cc) (hml : c.maxLocals = nL) (hown : s.vm.findClass own = some m.cls) (hT : TW s) (hM : Sm l y bytes maxL rt fr lo As k v z r) (hSW : SWH A k v z s s.heap) (hS : va_S A s.heap H locs) (h1 : MLb y bytes maxL rt n) (h2 : inT (.methodLink own index y)) (h3 : inT (.static y)) (hn : As.length = n) (hR : fr + 1 ≤ R.frames ∧ 8 + (maxL + 11) + lo ≤ R.locals) (hst : (st.map fun v => v.category).sum ≤ 8) (hstk : stk = As.reverse ++ st) (hls : ls.size = nL) (hC : cells ≤ R.cells ∧ slots ≤ R.slots) (hd : decode cc pc = .ok (.invokestatic index, 3))
    (kk : ∀ (H1 : Heap) (locs1 : List Loc), (∀ q : Nat, q < H.size → H1[q]? = H[q]?) → H.size ≤ H1.size → va_S A s.heap H1 locs1 → W p l e R s m args below meth c H1 locs1 cells slots Q (F0 m (pc + 3) ls (r.toList ++ st))) : W p l e R s m args below meth c H locs cells slots Q (F0 m pc ls stk) := by
  subst hstk
  have hp : PreS s H (va_Pc As (fun U => SWH nF k v z U U.heap ∧ TW U)) As := ⟨Sm.blind, fun U hU hW => ⟨rfl, by rw [hU]; exact ((hSW.kept hS.2.1).moved hW.alike).narrow (fun _ h => h.elim), hT.warm hW⟩⟩
  have S : CallFix p m c cc nL s args ([] : List Cond) own := ⟨hx, hb, hml, hown, fun _ h => by cases h⟩
  exact Ws.call (va_runS (g := F0 m pc ls (As.reverse ++ st)) S hM ⟨h1.cb hT h2 hR, hT _ h3 _⟩ hp rfl hn hls rfl (lv_room hst) hd hC) hS kk
theorem sV (hx : p.tables.exec = Jvm.exec) (hb : c.code = cc) (hml : c.maxLocals = nL) (hown : s.vm.findClass own = some m.cls) (hT : TW s) (hM : Sm l y bytes maxL rt fr lo (.ref k :: As) k v z r) (hSW : SWH A k v z s s.heap) (hS : va_S A s.heap H locs) (hy : y.cls = "java/lang/String") (h1 : MLb y bytes maxL rt n) (h2 : inT (.methodLink own index y)) (h3 : inT (.instanceMethod y)) (h4 : inT (.selects y.cls y y)) (hn : As.length = n) (hR : fr + 1 ≤ R.frames ∧ 8 + (maxL + 11) + lo ≤ R.locals) (hst : (st.map fun v => v.category).sum ≤ 8) (hstk : stk = As.reverse ++ .ref k :: st) (hls : ls.size = nL) (hC : cells ≤ R.cells ∧ slots ≤ R.slots) (hd : decode cc pc = .ok (.invokevirtual index, 3))
    (kk : ∀ (H1 : Heap) (locs1 : List Loc), (∀ q : Nat, q < H.size → H1[q]? = H[q]?) → H.size ≤ H1.size → va_S A s.heap H1 locs1 → W p l e R s m args below meth c H1 locs1 cells slots Q (F0 m (pc + 3) ls (r.toList ++ st))) : W p l e R s m args below meth c H locs cells slots Q (F0 m pc ls stk) := by
  subst hstk
  have hrec : ∃ cellB : Cell, H[k]? = some cellB ∧ cellB.vm.isStatics = false ∧ s.vm.findClass y.cls = some cellB.cls := by
    obtain ⟨cell, g1, g2, g3, -⟩ := hSW.1.kept hS.2.1
    exact ⟨cell, g1, g2, by rw [hy]; exact g3⟩
  have hp : PreV s H y.cls k (va_Pc (.ref k :: As) (fun U => SWH nF k v z U U.heap ∧ TW U)) As := ⟨Sm.blind, hrec, fun U hU hW => ⟨rfl, by rw [hU]; exact ((hSW.kept hS.2.1).moved hW.alike).narrow (fun _ h => h.elim), hT.warm hW⟩⟩
  have S : CallFix p m c cc nL s args ([] : List Cond) own := ⟨hx, hb, hml, hown, fun _ h => by cases h⟩
  exact Ws.call (va_runV (g := F0 m pc ls (As.reverse ++ .ref k :: st)) S hM ⟨h1.cb hT h2 hR, hT _ h3 _, hT _ h4 _⟩ hp rfl hn hls rfl (lv_room hst) hd hC) hS kk
end STRCALLS
theorem s_pre (l : Launch) (k v : Nat) (z : Value) (hz : z.category = 1) (i n : Nat) (hi : i < n) (hn : n < 2 ^ 31) : Sm l yJ3_checkIndex_8e157 cJ3_checkIndex_8e157 3 (some .int) 0 0 [.int (nI i), .int (nI n), z] k v z (some (.int (nI i))) := by
  refine Sm.of (by decide +kernel) (cat_cons rfl (cat_cons rfl (cat_cons hz cat_nil))) [some (.int (nI i)), some (.int (nI n)), some z] rfl (Nat.le_of_ble_eq_true rfl) fun p e s m args below meth c hx hb hml hown hr hlk hSW hT ls hl => ?_
  refine lv_iload_n hx hb dJ3_checkIndex_8e157_0 rfl (hl.at (i := 0) rfl) ?_
  refine lv_if_lt hx hb dJ3_checkIndex_8e157_1 (show _ = ((9 : Nat) : Int) by decide) (fun h => absurd h (nI_pos (by omega))) (fun _ => ?_)
  refine lv_iload_n hx hb dJ3_checkIndex_8e157_4 rfl (hl.at (i := 0) rfl) ?_
  refine lv_iload_n hx hb dJ3_checkIndex_8e157_5 rfl (hl.at (i := 1) rfl) ?_
  refine lv_icmp_lt hx hb dJ3_checkIndex_8e157_6 (show _ = ((16 : Nat) : Int) by decide) (fun _ => ?_) (fun h => absurd (nI_lt hi hn) h)
  refine lv_iload_n hx hb dJ3_checkIndex_8e157_16 rfl (hl.at (i := 0) rfl) ?_
  exact W.iret hx hb hr (fun t ht hW => ⟨rfl, (va_S.rf (A := nF)).F ht⟩) (fun _ h => by cases h) dJ3_checkIndex_8e157_17
theorem s_chk (l : Launch) (k v : Nat) (z : Value) (hz : z.category = 1) (i n : Nat) (hi : i < n) (hn : n < 2 ^ 31) : Sm l yJ0_checkIndex_df160 cJ0_checkIndex_df160 2 none 1 22 [.int (nI i), .int (nI n)] k v z none := by
  refine Sm.of (by decide +kernel) (cat_cons rfl (cat_cons rfl cat_nil)) [some (.int (nI i)), some (.int (nI n))] rfl (Nat.le_of_ble_eq_true rfl) fun p e s m args below meth c hx hb hml hown hr hlk hSW hT ls hl => ?_
  refine lv_iload_n hx hb dJ0_checkIndex_df160_0 rfl (hl.at (i := 0) rfl) ?_
  refine lv_iload_n hx hb dJ0_checkIndex_df160_1 rfl (hl.at (i := 1) rfl) ?_
  refine va_gets hx hb hSW.2.2.2.2.2 va_S.rf hown (hT _ iw_304 _) (fun _ h => h) dJ0_checkIndex_df160_2 ?_
  refine sS hx hb hml hown hT (s_pre l k v z hz i n hi hn) hSW va_S.rf mj_J0_1059.1 iw_306 iw_307 rfl ⟨by decide, by decide⟩ (Nat.le_of_ble_eq_true rfl) rfl hl.2.1 ⟨Nat.zero_le _, Nat.zero_le _⟩ dJ0_checkIndex_df160_5 fun H1 locs1 g1 g2 g3 => ?_
  refine lv_pop hx hb dJ0_checkIndex_df160_8 rfl ?_
  exact W.vret hx hb hr (fun t ht hW => ⟨rfl, g3.F ht⟩) g3.2.2 dJ0_checkIndex_df160_9
theorem s_c2 (x : Int32) : (((x &&& 255).toUInt32 % 65536).toInt32) = x &&& 255 := by
  obtain ⟨j, hj, e⟩ := and_lt x 255
  have e' : x &&& 255 = nI j := e
  rw [e']
  apply Int32.toBitVec_inj.1
  show (BitVec.ofNat 32 j) % (65536#32) = BitVec.ofNat 32 j
  apply BitVec.eq_of_toNat_eq
  rw [BitVec.toNat_umod, BitVec.toNat_ofNat, BitVec.toNat_ofNat, Nat.mod_eq_of_lt (show j < 2 ^ 32 by omega), show 65536 % 2 ^ 32 = 65536 by decide]
  exact Nat.mod_eq_of_lt (by omega)
theorem s_char (x : Int32) : narrow .char (.int (x &&& 255)) = .int (x &&& 255) := by
  show Value.int ((x &&& 255).toUInt32 % 65536).toInt32 = _
  rw [s_c2]
theorem s_lat (l : Launch) (k v : Nat) (z : Value) (hz : z.category = 1) (i : Nat) (hi : i < 82) : Sm l yJ1_charAt_3b067 cJ1_charAt_3b067 2 (some .char) 2 43 [.ref v, .int (nI i)] k v z (some (.int (fch i &&& 255))) := by
  refine Sm.of (by decide +kernel) (cat_cons rfl (cat_cons rfl cat_nil)) [some (.ref v), some (.int (nI i))] rfl (Nat.le_of_ble_eq_true rfl) fun p e s m args below meth c hx hb hml hown hr hlk hSW hT ls hl => ?_
  refine lv_iload_n hx hb dJ1_charAt_3b067_0 rfl (hl.at (i := 1) rfl) ?_
  refine lv_aload_n hx hb dJ1_charAt_3b067_1 rfl (hl.at (i := 0) rfl) ?_
  refine va_tlen hx hb hSW.2.2.2.1 va_S.rf (v := nI 82) rfl dJ1_charAt_3b067_2 ?_
  refine sS hx hb hml hown hT (s_chk l k v z hz i 82 hi (by decide)) hSW va_S.rf mj_J1_9.1 iw_301 iw_302 rfl ⟨by decide, by decide⟩ (Nat.le_of_ble_eq_true rfl) rfl hl.2.1 ⟨Nat.zero_le _, Nat.zero_le _⟩ dJ1_charAt_3b067_3 fun H1 locs1 g1 g2 g3 => ?_
  refine lv_aload_n hx hb dJ1_charAt_3b067_6 rfl (hl.at (i := 0) rfl) ?_
  refine lv_iload_n hx hb dJ1_charAt_3b067_7 rfl (hl.at (i := 1) rfl) ?_
  refine va_tb hx hb hSW.2.2.2.1 g3 (vp_in_nI hi (by decide)) (v := .int (fch i)) (by rw [nI_clamp (by omega)]) dJ1_charAt_3b067_8 ?_
  refine lv_sipush hx hb (v := 255) dJ1_charAt_3b067_9 (by decide) ?_
  refine lv_iand hx hb dJ1_charAt_3b067_12 ?_
  refine lv_i2c hx hb dJ1_charAt_3b067_13 (s_c2 _) ?_
  exact W.zret hx hb hr (s_char _) (fun t ht hW => ⟨rfl, g3.F ht⟩) g3.2.2 dJ1_charAt_3b067_14
theorem s_isl (l : Launch) (k v : Nat) (z : Value) : Sm l yJ0_isLatin1_aae02 cJ0_isLatin1_aae02 1 (some .boolean) 0 0 [.ref k] k v z (some (.int 1)) := by
  refine Sm.of (by decide +kernel) (cat_cons rfl cat_nil) [some (.ref k)] rfl (Nat.le_of_ble_eq_true rfl) fun p e s m args below meth c hx hb hml hown hr hlk hSW hT ls hl => ?_
  refine va_gets hx hb hSW.2.2.2.2.1 va_S.rf hown (hT _ iw_288 _) (fun _ h => h) dJ0_isLatin1_aae02_0 ?_
  refine lv_if_eq hx hb dJ0_isLatin1_aae02_3 (show _ = ((17 : Nat) : Int) by decide) (fun h => absurd h (by decide)) (fun _ => ?_)
  refine lv_aload_n hx hb dJ0_isLatin1_aae02_6 rfl (hl.at (i := 0) rfl) ?_
  refine vk_getf hx hb hSW.2.1 va_S.rf hown (hT _ iw_1075 _) (fun _ h => h) dJ0_isLatin1_aae02_7 ?_
  refine lv_if_ne hx hb dJ0_isLatin1_aae02_10 (show _ = ((17 : Nat) : Int) by decide) (fun h => absurd rfl h) (fun _ => ?_)
  refine lv_iconst (v := 1) hx hb dJ0_isLatin1_aae02_13 (by decide) ?_
  refine lv_goto hx hb dJ0_isLatin1_aae02_14 (show _ = ((18 : Nat) : Int) by decide) ?_
  exact W.zret hx hb hr rfl (fun t ht hW => ⟨rfl, (va_S.rf (A := nF)).F ht⟩) (fun _ h => by cases h) dJ0_isLatin1_aae02_18
theorem s_cod (l : Launch) (k v : Nat) (z : Value) : Sm l yJ0_coder_7d493 cJ0_coder_7d493 1 (some .byte) 0 0 [.ref k] k v z (some (.int 0)) := by
  refine Sm.of (by decide +kernel) (cat_cons rfl cat_nil) [some (.ref k)] rfl (Nat.le_of_ble_eq_true rfl) fun p e s m args below meth c hx hb hml hown hr hlk hSW hT ls hl => ?_
  refine va_gets hx hb hSW.2.2.2.2.1 va_S.rf hown (hT _ iw_288 _) (fun _ h => h) dJ0_coder_7d493_0 ?_
  refine lv_if_eq hx hb dJ0_coder_7d493_3 (show _ = ((13 : Nat) : Int) by decide) (fun h => absurd h (by decide)) (fun _ => ?_)
  refine lv_aload_n hx hb dJ0_coder_7d493_6 rfl (hl.at (i := 0) rfl) ?_
  refine vk_getf hx hb hSW.2.1 va_S.rf hown (hT _ iw_1075 _) (fun _ h => h) dJ0_coder_7d493_7 ?_
  refine lv_goto hx hb dJ0_coder_7d493_10 (show _ = ((14 : Nat) : Int) by decide) ?_
  exact W.zret hx hb hr rfl (fun t ht hW => ⟨rfl, (va_S.rf (A := nF)).F ht⟩) (fun _ h => by cases h) dJ0_coder_7d493_14
theorem s_len (l : Launch) (k v : Nat) (z : Value) : Sm l yJ0_length_8abf5 cJ0_length_8abf5 1 (some .int) 1 20 [.ref k] k v z (some (.int 82)) := by
  refine Sm.of (by decide +kernel) (cat_cons rfl cat_nil) [some (.ref k)] rfl (Nat.le_of_ble_eq_true rfl) fun p e s m args below meth c hx hb hml hown hr hlk hSW hT ls hl => ?_
  refine lv_aload_n hx hb dJ0_length_8abf5_0 rfl (hl.at (i := 0) rfl) ?_
  refine vk_getf hx hb hSW.2.2.1 va_S.rf hown (hT _ iw_1074 _) (fun _ h => h) dJ0_length_8abf5_1 ?_
  refine va_tlen hx hb hSW.2.2.2.1 va_S.rf (v := 82) (by decide) dJ0_length_8abf5_4 ?_
  refine lv_aload_n hx hb dJ0_length_8abf5_5 rfl (hl.at (i := 0) rfl) ?_
  refine sV hx hb hml hown hT (s_cod l k v z) hSW va_S.rf rfl mj_J0_335.1 iw_284 iw_285 iw_286 rfl ⟨by decide, by decide⟩ (Nat.le_of_ble_eq_true rfl) rfl hl.2.1 ⟨Nat.zero_le _, Nat.zero_le _⟩ dJ0_length_8abf5_6 fun H1 locs1 g1 g2 g3 => ?_
  refine lv_ishr hx hb dJ0_length_8abf5_9 ?_
  exact W.iret hx hb hr (fun t ht hW => ⟨by decide, g3.F ht⟩) g3.2.2 dJ0_length_8abf5_10
theorem s_cha (l : Launch) (k v : Nat) (z : Value) (hz : z.category = 1) (i : Nat) (hi : i < 82) : Sm l yJ0_charAt_5068e cJ0_charAt_5068e 2 (some .char) 3 64 [.ref k, .int (nI i)] k v z (some (.int (fch i &&& 255))) := by
  refine Sm.of (by decide +kernel) (cat_cons rfl (cat_cons rfl cat_nil)) [some (.ref k), some (.int (nI i))] rfl (Nat.le_of_ble_eq_true rfl) fun p e s m args below meth c hx hb hml hown hr hlk hSW hT ls hl => ?_
  refine lv_aload_n hx hb dJ0_charAt_5068e_0 rfl (hl.at (i := 0) rfl) ?_
  refine sV hx hb hml hown hT (s_isl l k v z) hSW va_S.rf rfl mj_J0_492.1 iw_294 iw_295 iw_296 rfl ⟨by decide, by decide⟩ (Nat.le_of_ble_eq_true rfl) rfl hl.2.1 ⟨Nat.zero_le _, Nat.zero_le _⟩ dJ0_charAt_5068e_1 fun H1 locs1 g1 g2 g3 => ?_
  refine lv_if_eq hx hb dJ0_charAt_5068e_4 (show _ = ((16 : Nat) : Int) by decide) (fun h => absurd h (by decide)) (fun _ => ?_)
  refine lv_aload_n hx hb dJ0_charAt_5068e_7 rfl (hl.at (i := 0) rfl) ?_
  refine vk_getf hx hb hSW.2.2.1 g3 hown (hT _ iw_1074 _) (fun _ h => h) dJ0_charAt_5068e_8 ?_
  refine lv_iload_n hx hb dJ0_charAt_5068e_11 rfl (hl.at (i := 1) rfl) ?_
  refine sS hx hb hml hown hT (s_lat l k v z hz i hi) hSW g3 mj_J0_495.1 iw_298 iw_299 rfl ⟨by decide, by decide⟩ (Nat.le_of_ble_eq_true rfl) rfl hl.2.1 ⟨Nat.zero_le _, Nat.zero_le _⟩ dJ0_charAt_5068e_12 fun H2 locs2 g4 g5 g6 => ?_
  exact W.zret hx hb hr (s_char _) (fun t ht hW => ⟨rfl, g6.F ht⟩) g6.2.2 dJ0_charAt_5068e_15
