/-! ===== making: cells come one behind the other from the address o on ===== -/
def bw (o : Nat) (E : List va_E) : va_W := E.mapIdx fun i e => (o + i, e)
theorem bw_get (o : Nat) (E : List va_E) (i : Nat) : (bw o E)[i]? = (E[i]?).map fun e => (o + i, e) := List.getElem?_mapIdx
theorem bw_at {o : Nat} {E : List va_E} {i : Nat} {e : va_E} (h : E[i]? = some e) : (bw o E)[i]? = some (o + i, e) := by rw [bw_get, h]; rfl
theorem bw_of {o : Nat} {E : List va_E} {i : Nat} {q : Nat × va_E} (h : (bw o E)[i]? = some q) : ∃ e, E[i]? = some e ∧ q = (o + i, e) := by
  rw [bw_get, Option.map_eq_some_iff] at h
  obtain ⟨e, h1, h2⟩ := h
  exact ⟨e, h1, h2.symm⟩
theorem bw_set (o : Nat) (E : List va_E) (i : Nat) (x : va_E) : (bw o E).set i (o + i, x) = bw o (E.set i x) := by
  refine List.ext_getElem? fun j => ?_
  rw [List.getElem?_set, bw_get, bw_get, List.getElem?_set]
  have hl : (bw o E).length = E.length := List.length_mapIdx
  rw [hl]
  by_cases h : i = j
  · subst h
    by_cases h2 : i < E.length
    · simp [h2]
    · simp [h2]
  · simp [h]
theorem bw_app (o : Nat) (E E2 : List va_E) : bw o (E ++ E2) = bw o E ++ bw (o + E.length) E2 := by
  refine List.ext_getElem? fun j => ?_
  have hl : (bw o E).length = E.length := List.length_mapIdx
  rw [bw_get]
  by_cases h : j < E.length
  · rw [List.getElem?_append_left h, List.getElem?_append_left (by rw [hl]; exact h), bw_get]
  · rw [List.getElem?_append_right (by omega), List.getElem?_append_right (by rw [hl]; omega), bw_get, hl, show o + E.length + (j - E.length) = o + j by omega]
def Gr (o : Nat) : Nat → Prop := fun q => o ≤ q
theorem bw_D {o : Nat} {E : List va_E} : va_D (Gr o) (bw o E) := by
  refine ⟨fun i j p q hp hq h => ?_, fun k q hk => ?_⟩
  · obtain ⟨_, _, rfl⟩ := bw_of hp
    obtain ⟨_, _, rfl⟩ := bw_of hq
    have h2 : o + i = o + j := h
    omega
  · obtain ⟨_, _, rfl⟩ := bw_of hk
    exact Nat.le_add_right _ _
def KB (D : va_G) (cI cM : ClassId) (U : State) : Prop := KU (wdC D cI cM 0) U ∧ va_AO "BoredKings$Moment" U
theorem KB.warm {D : va_G} {cI cM : ClassId} {s U : State} (h : KB D cI cM s) (hW : s.WarmedH U.vm) : KB D cI cM U := ⟨h.1.warm hW, h.2.moved hW.alike⟩
theorem KB.K {D : va_G} {cI cM : ClassId} {s : State} (h : KB D cI cM s) : va_K D vwCl [(cI, .int), (cM, .object "BoredKings$Moment")] s := h.1.1
theorem KB.W {D : va_G} {cI cM : ClassId} {s : State} (h : KB D cI cM s) {x : Cond} (hx : inT x) (A : Array Value) : x.before A s = true := h.1.2 x hx A
def Pbx (D : va_G) (cI cM : ClassId) (o : Nat) (E : List va_E) : State → Prop := fun U => va_P D vwCl (bw o E) U.heap ∧ U.heap.size = o + 1 ∧ KB D cI cM U
def Qb (D : va_G) (o : Nat) (E : List va_E) : Array Value → State → Outcome → State → Prop := fun _ st oc t => oc = .returned none ∧ va_P D vwCl (bw o E) t.heap ∧ va_F (Gr o) st t
def rmB (fr lo mc ms : Nat) : Room := { frames := fr, cells := mc, slots := ms, locals := lo }
/-- a constructor's contract: of the blank object x0 at o it makes the cells E -/
def Ct (l : Launch) (D : va_G) (cI cM : ClassId) (y : MethodName) (cc : ByteArray) (nL fr lo mc ms : Nat) (As : List Value) (o : Nat) (x0 : va_E) (E : List va_E) : Prop :=
  Met l y [.code y cc nL none] (rmB fr lo mc ms) (va_Pc As (Pbx D cI cM o [x0])) (Qb D o E) mc ms (Gr o)
def Bj (p : Program) (l : Launch) (e : Env) (R : Room) (s : State) (m : MethodId) (args : Array Value) (below : List Frame) (meth : Method) (c : Code) (nL : Nat) (D : va_G) (o : Nat) (Q : State → Prop) (E : List va_E) (ck cs pc : Nat) (L : List (Option Value)) (st : List Value) : Prop :=
  ∀ (H : Heap) (locs : List Loc) (ls : Array Slot), va_P D vwCl (bw o E) H → va_S (Gr o) s.heap H locs → LH ls nL L → W p l e R s m args below meth c H locs ck cs Q (F0 m pc ls st)
def Pb (l : Launch) (D : va_G) (cI cM : ClassId) (cc : ByteArray) (nL : Nat) (own : String) (R : Room) (o : Nat) (Z : (Array Value → State → Outcome → State → Prop)) (mc ms : Nat) (V : List va_E → Nat → Nat → Nat → List (Option Value) → List Value → Prop) : Prop :=
  ∃ (p : Program) (e : Env) (s : State) (m : MethodId) (args : Array Value) (below : List Frame) (meth : Method) (c : Code), p.tables.exec = Jvm.exec ∧ c.code = cc ∧ c.maxLocals = nL ∧ s.vm.findClass own = some m.cls ∧ meth.sig.returnType = none ∧ meth.locks = false ∧ meth.name = "<init>" ∧ s.heap.size = o + 1 ∧ KB D cI cM s ∧ V = Bj p l e R s m args below meth c nL D o (MQ below Z args s mc ms (Gr o))
theorem Pbx.blind {As : List Value} {D : va_G} {cI cM : ClassId} {o : Nat} {E : List va_E} : FrameBlind (va_Pc As (Pbx D cI cM o E)) := by
  intro a U g mk h
  obtain ⟨h1, h2, h3, h4⟩ := h
  exact ⟨h1, h2, h3, h4.warm (State.WarmedH.refl U)⟩
theorem Ct.of {l : Launch} {D : va_G} {cI cM : ClassId} {y : MethodName} {cc : ByteArray} {nL fr lo mc ms : Nat} {As : List Value} {o : Nat} {x0 : va_E} {E : List va_E} (hy : plainName y.cls = true) (hy2 : y.name = "<init>") (hc : ∀ v ∈ As, v.category = 1) (L0 : List (Option Value)) (hL0 : L0 = As.map some ++ List.replicate (nL - As.length) none) (hn : As.length ≤ nL)
    (body : ∀ V, Pb l D cI cM cc nL y.cls (rmB fr lo mc ms) o (Qb D o E) mc ms V → V [x0] 0 0 0 L0 []) : Ct l D cI cM y cc nL fr lo mc ms As o x0 E := by
  refine Met.ofW (cc := cc) (maxL := nL) (ret := none) hy rfl ?_
  intro p e s m args below meth c s₁ B hml hv
  obtain ⟨rfl, hP, hsz, hK⟩ := hv
  have hown : s.vm.findClass y.cls = some m.cls := findClass_of_methodNamed B.named
  have hin : meth.name = "<init>" := by rw [← hy2]; exact (name_of_methodNamed B.named B.method).1
  have hlen := lg_sl_cat hc
  have hl := lv_entry As (n := nL) (by rw [hlen]; exact hn)
  rw [lg_entry_eq]
  refine body _ ⟨p, e, s, m, _, below, meth, c, B.exec, B.bytes, hml, hown, B.returns, B.notSynchronized, hin, hsz, hK, rfl⟩ s.heap [] _ hP va_S.rf ?_
  refine ⟨?_, hl.1, hl.2.1, fun i v hi => ?_⟩
  · rw [hL0, List.length_append, List.length_map, List.length_replicate]
    omega
  · refine hl.2.2 (i, v) ?_
    rw [hL0] at hi
    by_cases h9 : i < As.length
    · rw [List.getElem?_append_left (by rw [List.length_map]; exact h9), List.getElem?_map, Option.map_eq_some_iff] at hi
      obtain ⟨v', h1, h2⟩ := hi
      cases h2
      have h3 := lv_args_cat hc 0 i v h1
      rwa [Nat.zero_add] at h3
    · rw [List.getElem?_append_right (by rw [List.length_map]; omega)] at hi
      have := List.eq_of_mem_replicate (List.mem_of_getElem? hi)
      cases this
theorem W.size {p : Program} {l : Launch} {e : Env} {R : Room} {s : State} {m : MethodId} {args : Array Value} {below : List Frame} {meth : Method} {c : Code} {H : Heap} {locs : List Loc} {cells slots : Nat} {Q : State → Prop} {g : JFrame} (kk : H.size ≤ s.heap.size + cells → W p l e R s m args below meth c H locs cells slots Q g) : W p l e R s m args below meth c H locs cells slots Q g := fun T hT X => kk (by rw [← hT]; exact X.heapSize) T hT X
theorem bw_size {D : va_G} {o : Nat} {E : List va_E} {H : Heap} (hP : va_P D vwCl (bw o E) H) (hne : 0 < E.length) : o + E.length ≤ H.size := by
  obtain ⟨e, he⟩ : ∃ e, E[E.length - 1]? = some e := ⟨E[E.length - 1], List.getElem?_eq_getElem (by omega)⟩
  have := (hP (E.length - 1) _ (bw_at he)).lt
  have h2 : o + (E.length - 1) < H.size := this
  omega
section BROWS
variable {l : Launch} {D : va_G} {cI cM : ClassId} {cc : ByteArray} {nL : Nat} {own : String} {R : Room} {o : Nat} {Z : (Array Value → State → Outcome → State → Prop)} {mc ms : Nat} {V : List va_E → Nat → Nat → Nat → List (Option Value) → List Value → Prop}
variable {E : List va_E} {ck cs pc : Nat} {L : List (Option Value)} {st : List Value}
theorem q_aload_n (hV : Pb l D cI cM cc nL own R o Z mc ms V) {k0 : Fin 4} {x : Nat} (hd : decode cc pc = .ok (.aload_n k0, 1)) (hi : L[(k0 : Nat)]? = some (some (.ref x))) (k : V E ck cs (pc + 1) L (.ref x :: st)) : V E ck cs pc L st := by
  obtain ⟨p, e, s, m, args, below, meth, c, hx, hb, hml, hown, hr, hlk, hin, hsz, hK, rfl⟩ := hV
  intro H locs ls hP hS hl
  exact lv_aload_n hx hb hd rfl (hl.at hi) (k H locs ls hP hS hl)
theorem q_iload_n (hV : Pb l D cI cM cc nL own R o Z mc ms V) {k0 : Fin 4} {x : Int32} (hd : decode cc pc = .ok (.iload_n k0, 1)) (hi : L[(k0 : Nat)]? = some (some (.int x))) (k : V E ck cs (pc + 1) L (.int x :: st)) : V E ck cs pc L st := by
  obtain ⟨p, e, s, m, args, below, meth, c, hx, hb, hml, hown, hr, hlk, hin, hsz, hK, rfl⟩ := hV
  intro H locs ls hP hS hl
  exact lv_iload_n hx hb hd rfl (hl.at hi) (k H locs ls hP hS hl)
theorem q_iconst (hV : Pb l D cI cM cc nL own R o Z mc ms V) {n : Int} {v : Int32} (hd : decode cc pc = .ok (.iconst n, 1)) (hv : Int32.ofInt n = v) (k : V E ck cs (pc + 1) L (.int v :: st)) : V E ck cs pc L st := by
  obtain ⟨p, e, s, m, args, below, meth, c, hx, hb, hml, hown, hr, hlk, hin, hsz, hK, rfl⟩ := hV
  intro H locs ls hP hS hl
  exact lv_iconst hx hb hd hv (k H locs ls hP hS hl)
theorem q_bipush (hV : Pb l D cI cM cc nL own R o Z mc ms V) {n : Int} {v : Int32} (hd : decode cc pc = .ok (.bipush n, 2)) (hv : (Int8.ofInt n).toInt32 = v) (k : V E ck cs (pc + 2) L (.int v :: st)) : V E ck cs pc L st := by
  obtain ⟨p, e, s, m, args, below, meth, c, hx, hb, hml, hown, hr, hlk, hin, hsz, hK, rfl⟩ := hV
  intro H locs ls hP hS hl
  exact lv_bipush hx hb hd hv (k H locs ls hP hS hl)
theorem q_sipush (hV : Pb l D cI cM cc nL own R o Z mc ms V) {n : Int} {v : Int32} (hd : decode cc pc = .ok (.sipush n, 3)) (hv : (Int16.ofInt n).toInt32 = v) (k : V E ck cs (pc + 3) L (.int v :: st)) : V E ck cs pc L st := by
  obtain ⟨p, e, s, m, args, below, meth, c, hx, hb, hml, hown, hr, hlk, hin, hsz, hK, rfl⟩ := hV
  intro H locs ls hP hS hl
  exact lv_sipush hx hb hd hv (k H locs ls hP hS hl)
theorem q_dup (hV : Pb l D cI cM cc nL own R o Z mc ms V) {va : Value} (hd : decode cc pc = .ok (.dup, 1)) (h1 : va.category = 1) (k : V E ck cs (pc + 1) L (va :: va :: st)) : V E ck cs pc L (va :: st) := by
  obtain ⟨p, e, s, m, args, below, meth, c, hx, hb, hml, hown, hr, hlk, hin, hsz, hK, rfl⟩ := hV
  intro H locs ls hP hS hl
  exact lv_dup hx hb hd h1 (k H locs ls hP hS hl)
theorem q_goto (hV : Pb l D cI cM cc nL own R o Z mc ms V) {off : Int} (tgt : Nat) (hd : decode cc pc = .ok (.goto off, 3)) (ht : (pc : Int) + off = (tgt : Int)) (k : V E ck cs tgt L st) : V E ck cs pc L st := by
  obtain ⟨p, e, s, m, args, below, meth, c, hx, hb, hml, hown, hr, hlk, hin, hsz, hK, rfl⟩ := hV
  intro H locs ls hP hS hl
  exact lv_goto hx hb hd ht (k H locs ls hP hS hl)
theorem q_istore_n (hV : Pb l D cI cM cc nL own R o Z mc ms V) {k0 : Fin 4} {x : Int32} (hd : decode cc pc = .ok (.istore_n k0, 1)) (hn : (k0 : Nat) < nL) (hc : chkL L k0 = true) (k : V E ck cs (pc + 1) (L.set k0 (some (.int x))) st) : V E ck cs pc L (.int x :: st) := by
  obtain ⟨p, e, s, m, args, below, meth, c, hx, hb, hml, hown, hr, hlk, hin, hsz, hK, rfl⟩ := hV
  intro H locs ls hP hS hl
  exact lv_istore_n hx hb hd rfl hl.has hn rfl (fun ls2 h2 => k H locs ls2 hP hS (LH.st1 hl.1 hc h2))
theorem q_icmpge (hV : Pb l D cI cM cc nL own R o Z mc ms V) {x y : Int32} {off : Int} (tgt : Nat) (hd : decode cc pc = .ok (.if_icmp .ge off, 3)) (ht : (pc : Int) + off = (tgt : Int)) (kt : y ≤ x → V E ck cs tgt L st) (kf : ¬ y ≤ x → V E ck cs (pc + 3) L st) : V E ck cs pc L (.int y :: .int x :: st) := by
  obtain ⟨p, e, s, m, args, below, meth, c, hx, hb, hml, hown, hr, hlk, hin, hsz, hK, rfl⟩ := hV
  intro H locs ls hP hS hl
  exact lv_icmp_ge hx hb hd ht (fun h => kt h H locs ls hP hS hl) (fun h => kf h H locs ls hP hS hl)
theorem q_objInit (hV : Pb l D cI cM cc nL own R o Z mc ms V) {index a : Nat} (h1 : inT (.methodLink own index objectInit)) (h2 : inT (.instanceMethod objectInit)) (h3 : inT (.code objectInit ⟨#[0xb1]⟩ 1 none)) (hR : 1 ≤ R.frames ∧ (st.map fun v => v.category).sum + 12 ≤ R.locals) (hd : decode cc pc = .ok (.invokespecial index, 3)) (k : V E ck cs (pc + 3) L st) : V E ck cs pc L (.ref a :: st) := by
  obtain ⟨p, e, s, m, args, below, meth, c, hx, hb, hml, hown, hr, hlk, hin, hsz, hK, rfl⟩ := hV
  intro H locs ls hP hS hl
  exact W.objInit hx hb hown (hK.W h1 _) (hK.W h2 _) (hK.W h3 _) rfl (by rw [hml]; exact hl.2.1) rfl hd hR.1 (by show 2 * 0 + _ + 12 ≤ _; omega) (k H locs ls hP hS hl)
/-- new int[n] -/
theorem q_newa (hV : Pb l D cI cM cc nL own R o Z mc ms V) {x : Int32} (N : Nat) (hN : x.toNatClampNeg = N) (hx0 : ¬ x < 0) (h1 : inT (.arrayClass .int)) (hb4 : N * 4 ≤ 536870912) (hck : ck + 1 = E.length) (hR : ck + 1 ≤ R.cells ∧ cs + N ≤ R.slots) (hd : decode cc pc = .ok (.newarray .int, 2)) (k : V (E ++ [.inl (cI, N, .inl (fun _ => 0))]) (ck + 1) (cs + N) (pc + 2) L (.ref (o + E.length) :: st)) : V E ck cs pc L (.int x :: st) := by
  obtain ⟨p, e, s, m, args, below, meth, c, hx, hb, hml, hown, hr, hlk, hin, hsz, hK, rfl⟩ := hV
  intro H locs ls hP hS hl
  refine W.size fun hz => ?_
  have hz2 := bw_size hP (by omega)
  have hH : H.size = o + E.length := by omega
  refine va_newaK (atype := .int) hx hb (hK.W h1 _) rfl hd rfl hx0 hN hb4 hR.1 hR.2 hH fun H1 cA e1 z1 o1 hAr hNm => ?_
  have hcA : cA = cI := by
    have := (hK.K.2 0 _ rfl).2
    have h2 : s.vm.findClass ("[" ++ FieldType.int.toString) = some cI := this
    exact Option.some.inj (hNm.symm.trans h2)
  subst hcA
  refine k H1 locs ls ?_ ⟨by have := hS.1; omega, fun q g1 g2 => (o1 q (by have := hS.1; omega)).trans (hS.2.1 q g1 g2), hS.2.2⟩ hl
  rw [bw_app]
  refine (hP.kept fun k2 x2 hx2 => ?_).app fun k2 x2 hx2 => ?_
  · exact o1 _ (by rw [← hH]; exact (hP k2 x2 hx2).lt)
  · obtain ⟨e2, he2, rfl⟩ := bw_of hx2
    have hk0 : k2 = 0 := by
      have := (List.getElem?_eq_some_iff.mp he2).1
      simp at this
      exact this
    subst hk0
    cases he2
    exact e1
/-- new C -/
theorem q_new (hV : Pb l D cI cM cc nL own R o Z mc ms V) {index ci N : Nat} {C : String} {T : u_T} {fs : List Value} (ty : Nat → FieldType) (hc : vwCl[ci]? = some (C, T, N)) (hw : ∀ x ∈ u_ws C T N, inT x) (hty : ∀ k, k < N → parseFieldDescriptor (T k).2.2.1 = some (ty k)) (h1 : inT (.classLink own index C)) (h2 : inT (.instantiable C N)) (h3 : inT (.initialized C)) (hfs : ∀ j, j < N → defaultValue (ty j) = vp_V fs j) (hck : ck + 1 = E.length) (hR : ck + 1 ≤ R.cells ∧ cs + N ≤ R.slots) (hd : decode cc pc = .ok (.new index, 3)) (k : V (E ++ [.inr (ci, fs)]) (ck + 1) (cs + N) (pc + 3) L (.ref (o + E.length) :: st)) : V E ck cs pc L st := by
  obtain ⟨p, e, s, m, args, below, meth, c, hx, hb, hml, hown, hr, hlk, hin, hsz, hK, rfl⟩ := hV
  intro H locs ls hP hS hl
  refine W.size fun hz => ?_
  have hz2 := bw_size hP (by omega)
  have hH : H.size = o + E.length := by omega
  have hKn := hK.K.1 ci _ hc
  refine W.newcK hx hb hown (hK.W h1 _) (hK.W h2 _) (hK.W h3 _) rfl hd hR.1 hR.2 hKn.2.1 hH fun H1 kC hkC e1 z1 o1 => ?_
  refine k H1 locs ls ?_ ⟨by have := hS.1; omega, fun q g1 g2 => (o1 q (by have := hS.1; omega)).trans (hS.2.1 q g1 g2), hS.2.2⟩ hl
  rw [bw_app]
  refine (hP.kept fun k2 x2 hx2 => ?_).app fun k2 x2 hx2 => ?_
  · exact o1 _ (by rw [← hH]; exact (hP k2 x2 hx2).lt)
  · obtain ⟨e2, he2, rfl⟩ := bw_of hx2
    have hk0 : k2 = 0 := by
      have := (List.getElem?_eq_some_iff.mp he2).1
      simp at this
      exact this
    subst hk0
    cases he2
    exact ⟨_, hc, (u_born ty (ws := u_ws C T N) (args := args) (fun x hx => hK.W (hw x hx) _) (fun _ h => h) hKn hkC e1 hty).to hfs⟩
end BROWS
