/-! ===== a flat memory over the machine: cells by number, each a row of ints; one judgement V for a method's body ===== -/
abbrev FMem : Type := Nat → Nat → Int32
def rset (FM : FMem) (i : Nat) (row : Nat → Int32) : FMem := fun j => if j = i then row else FM j
/-- a world: the tables' numbers, the array classes, how a cell's row is held, how many cells, the first address -/
abbrev Wd : Type := va_G × List (ClassId × FieldType) × (Nat → (Nat → Int32) → va_E) × Nat × Nat
def wD (w : Wd) : va_G := w.1
def wT (w : Wd) : List (ClassId × FieldType) := w.2.1
def wM (w : Wd) : Nat → (Nat → Int32) → va_E := w.2.2.1
def wN (w : Wd) : Nat := w.2.2.2.1
def wB (w : Wd) : Nat := w.2.2.2.2
def wl (w : Wd) (FM : FMem) : va_W := (List.range (wN w)).map (fun i => (wB w + i, wM w i (FM i)))
def Rg (w : Wd) : Nat → Prop := fun q => wB w ≤ q ∧ q < wB w + wN w
theorem wl_get {w : Wd} {FM : FMem} {i : Nat} (hi : i < wN w) : (wl w FM)[i]? = some (wB w + i, wM w i (FM i)) := by
  simp [wl, hi]
theorem wl_of {w : Wd} {FM : FMem} {i : Nat} {q : Nat × va_E} (h : (wl w FM)[i]? = some q) : i < wN w ∧ q = (wB w + i, wM w i (FM i)) := by
  by_cases hi : i < wN w
  · rw [wl_get hi] at h
    exact ⟨hi, (Option.some.inj h).symm⟩
  · simp [wl, hi] at h
theorem wl_set {w : Wd} {FM : FMem} {i : Nat} (row : Nat → Int32) : (wl w FM).set i (wB w + i, wM w i row) = wl w (rset FM i row) := by
  refine List.ext_getElem? fun j => ?_
  rw [List.getElem?_set]
  by_cases hj : j < wN w
  · rw [wl_get hj, wl_get hj]
    by_cases e : i = j
    · subst e
      simp [wl, hj, rset]
    · have e2 : ¬ j = i := fun h => e h.symm
      simp [e, rset, e2]
  · by_cases e : i = j
    · subst e
      simp [wl, hj]
    · simp [wl, hj, e]
theorem wl_D {w : Wd} {FM : FMem} : va_D (Rg w) (wl w FM) := by
  refine ⟨fun i j p q hp hq h => ?_, fun k q hk => ?_⟩
  · obtain ⟨_, rfl⟩ := wl_of hp
    obtain ⟨_, rfl⟩ := wl_of hq
    have h2 : wB w + i = wB w + j := h
    omega
  · obtain ⟨h1, rfl⟩ := wl_of hk
    exact ⟨Nat.le_add_right _ _, Nat.add_lt_add_left h1 _⟩
/-! the tables' words, all of them, at a state -/
def nstW : Cond → Bool
  | .fieldLinkNest _ _ _ _ _ _ => true
  | .methodLinkNest _ _ _ _ => true
  | _ => false
def inT (x : Cond) : Prop := x ∈ lw_tbl ∧ (goodWord x || nstW x) = true
def TW (U : State) : Prop := ∀ x, inT x → ∀ A : Array Value, x.before A U = true
theorem tw_word {s U : State} (hW : s.WarmedH U.vm) {x : Cond} (hk : (goodWord x || nstW x) = true) {A : Array Value} (h : x.before A s = true) (A' : Array Value) : x.before A' U = true := by
  by_cases hg : goodWord x = true
  · exact word_at hW (good_of_word hg) h
  · have hn : nstW x = true := by
      rw [Bool.or_eq_true] at hk
      exact hk.resolve_left hg
    cases x <;> first | exact va_Nw.use rfl (va_Nw.warmF hW (va_Nw.of rfl h)) | exact va_Nw.use rfl (va_Nw.warmM hW (va_Nw.of rfl h)) | exact absurd hn (by simp [nstW])
theorem TW.of {s : State} {A : Array Value} (h : ∀ x ∈ lw_tbl, x.before A s = true) : TW s := fun x hx A' => tw_word (State.WarmedH.refl s) hx.2 (h x hx.1) A'
theorem TW.warm {s U : State} (h : TW s) (hW : s.WarmedH U.vm) : TW U := fun x hx A' => tw_word hW hx.2 (h x hx #[]) A'
def KU (w : Wd) (U : State) : Prop := va_K (wD w) vwCl (wT w) U ∧ TW U
theorem KU.warm {w : Wd} {s U : State} (h : KU w s) (hW : s.WarmedH U.vm) : KU w U := ⟨va_K.moved hW.alike h.1, h.2.warm hW⟩
/-! locals, as a list of places -/
def LH (ls : Array Slot) (nL : Nat) (L : List (Option Value)) : Prop := L.length = nL ∧ ls.size = nL ∧ lv_wf ls ∧ ∀ (i : Nat) (v : Value), L[i]? = some (some v) → ls[i]? = some (.val v)
def lvL (L : List (Option Value)) : List (Nat × Value) := (List.range L.length).filterMap (fun i => (L[i]?.join).map (fun v => (i, v)))
theorem lvL_mem {L : List (Option Value)} {i : Nat} {v : Value} : (i, v) ∈ lvL L ↔ L[i]? = some (some v) := by
  unfold lvL
  rw [List.mem_filterMap]
  constructor
  · rintro ⟨j, hj, h⟩
    rw [Option.map_eq_some_iff] at h
    obtain ⟨v', h1, h2⟩ := h
    cases h2
    rw [Option.join_eq_some_iff] at h1
    exact h1
  · intro h
    refine ⟨i, List.mem_range.mpr (List.getElem?_eq_some_iff.mp h).1, ?_⟩
    rw [h]
    rfl
theorem LH.has {ls : Array Slot} {nL : Nat} {L : List (Option Value)} (h : LH ls nL L) : lv_has ls nL (lvL L) := ⟨h.2.1, h.2.2.1, fun q hq => h.2.2.2 q.1 q.2 (lvL_mem.mp hq)⟩
theorem LH.at {ls : Array Slot} {nL : Nat} {L : List (Option Value)} (h : LH ls nL L) {i : Nat} {v : Value} (hi : L[i]? = some (some v)) : ls[i]? = some (.val v) := h.2.2.2 i v hi
/-- no long stands just ahead of place i -/
def chkL (L : List (Option Value)) : Nat → Bool
  | 0 => true
  | k + 1 => match L[k]? with
    | some (some v) => !(v.category == 2)
    | _ => true
theorem LH.st1 {ls' : Array Slot} {nL i : Nat} {x : Value} {L : List (Option Value)} (hlen : L.length = nL) (hc : chkL L i = true) (h : lv_has ls' nL ((i, x) :: (lvL L).filter (fun q => !(q.1 == i) && !(q.1 + 1 == i && q.2.category == 2)))) : LH ls' nL (L.set i (some x)) := by
  refine ⟨by rw [List.length_set]; exact hlen, h.1, h.2.1, fun j v hj => ?_⟩
  rw [List.getElem?_set] at hj
  by_cases e : i = j
  · subst e
    simp only [if_true] at hj
    split at hj
    · cases hj
      exact h.2.2 (i, x) List.mem_cons_self
    · cases hj
  · rw [if_neg e] at hj
    refine h.2.2 (j, v) (List.mem_cons_of_mem _ (List.mem_filter.mpr ⟨lvL_mem.mpr hj, ?_⟩))
    have e1 : (j == i) = false := by simpa using fun h => e h.symm
    by_cases e2 : j + 1 = i
    · subst e2
      simp only [chkL, hj] at hc
      simp only [e1, Bool.not_false, Bool.true_and, beq_self_eq_true, hc]
    · have e3 : (j + 1 == i) = false := by simpa using e2
      simp only [e1, e3, Bool.not_false, Bool.true_and, Bool.false_and]
theorem LH.st2 {ls' : Array Slot} {nL i : Nat} {x : Value} {L : List (Option Value)} (hlen : L.length = nL) (hc : chkL L i = true) (h : lv_has ls' nL ((i, x) :: (lvL L).filter (fun q => !(q.1 == i) && (!(q.1 == i + 1) && !(q.1 + 1 == i && q.2.category == 2))))) : LH ls' nL ((L.set i (some x)).set (i + 1) none) := by
  refine ⟨by rw [List.length_set, List.length_set]; exact hlen, h.1, h.2.1, fun j v hj => ?_⟩
  rw [List.getElem?_set] at hj
  by_cases e0 : i + 1 = j
  · subst e0
    simp only [if_true] at hj
    split at hj <;> cases hj
  · rw [if_neg e0, List.getElem?_set] at hj
    by_cases e : i = j
    · subst e
      simp only [if_true] at hj
      split at hj
      · cases hj
        exact h.2.2 (i, x) List.mem_cons_self
      · cases hj
    · rw [if_neg e] at hj
      refine h.2.2 (j, v) (List.mem_cons_of_mem _ (List.mem_filter.mpr ⟨lvL_mem.mpr hj, ?_⟩))
      have e1 : (j == i) = false := by simpa using fun h => e h.symm
      have e4 : (j == i + 1) = false := by simpa using fun h => e0 h.symm
      by_cases e2 : j + 1 = i
      · subst e2
        simp only [chkL, hj] at hc
        simp only [e1, e4, Bool.not_false, Bool.true_and, beq_self_eq_true, hc]
      · have e3 : (j + 1 == i) = false := by simpa using e2
        simp only [e1, e3, e4, Bool.not_false, Bool.true_and, Bool.false_and]
theorem lv_args_cat {As : List Value} (hc : ∀ v ∈ As, v.category = 1) : ∀ (k i : Nat) (v : Value), As[i]? = some v → (k + i, v) ∈ lv_args k As := by
  induction As with
  | nil => intro k i v h; cases h
  | cons a As ih =>
    intro k i v h
    unfold lv_args
    cases i with
    | zero => cases h; exact List.mem_cons_self
    | succ i =>
      refine List.mem_cons_of_mem _ ?_
      have h1 : ¬ a.category = 2 := by rw [hc a List.mem_cons_self]; decide
      rw [if_neg h1]
      have h2 := ih (fun v hv => hc v (List.mem_cons_of_mem _ hv)) (k + 1) i v h
      rw [show k + (i + 1) = k + 1 + i by omega]
      exact h2
theorem lg_sl_cat {As : List Value} (hc : ∀ v ∈ As, v.category = 1) : (lg_sl As).length = As.length := by
  induction As with
  | nil => rfl
  | cons a As ih =>
    have h1 : ¬ a.category = 2 := by rw [hc a List.mem_cons_self]; decide
    have h2 := ih (fun v hv => hc v (List.mem_cons_of_mem _ hv))
    unfold lg_sl at h2 ⊢
    simp [h1, h2]
/-! the judgement -/
def Wm (p : Program) (l : Launch) (e : Env) (R : Room) (s : State) (m : MethodId) (args : Array Value) (below : List Frame) (meth : Method) (c : Code) (nL : Nat) (w : Wd) (Q : State → Prop) (FM : FMem) (pc : Nat) (L : List (Option Value)) (st : List Value) : Prop :=
  ∀ (H : Heap) (locs : List Loc) (ls : Array Slot), va_P (wD w) vwCl (wl w FM) H → va_S (Rg w) s.heap H locs → LH ls nL L → W p l e R s m args below meth c H locs 0 0 Q (F0 m pc ls st)
def Qx (w : Wd) (rv : Option Value) (FR : FMem) : Array Value → State → Outcome → State → Prop := fun _ st oc t => oc = .returned rv ∧ va_P (wD w) vwCl (wl w FR) t.heap ∧ va_F (Rg w) st t
def Px (w : Wd) (FM : FMem) : State → Prop := fun U => va_P (wD w) vwCl (wl w FM) U.heap ∧ KU w U
def rmOf (fr lo : Nat) : Room := { frames := fr, cells := 0, slots := 0, locals := lo }
/-- a method's contract: from the memory FM it comes to FR and answers rv -/
def Mt (l : Launch) (w : Wd) (y : MethodName) (cc : ByteArray) (nL : Nat) (ret : Option FieldType) (fr lo : Nat) (As : List Value) (FM : FMem) (rv : Option Value) (FR : FMem) : Prop :=
  Met l y [.code y cc nL ret] (rmOf fr lo) (va_Pc As (Px w FM)) (Qx w rv FR) 0 0 (Rg w)
def Pk (l : Launch) (w : Wd) (cc : ByteArray) (nL : Nat) (own : String) (R : Room) (ret : Option FieldType) (rv : Option Value) (FR : FMem) (V : FMem → Nat → List (Option Value) → List Value → Prop) : Prop :=
  ∃ (p : Program) (e : Env) (s : State) (m : MethodId) (args : Array Value) (below : List Frame) (meth : Method) (c : Code), p.tables.exec = Jvm.exec ∧ c.code = cc ∧ c.maxLocals = nL ∧ s.vm.findClass own = some m.cls ∧ meth.sig.returnType = ret ∧ meth.locks = false ∧ KU w s ∧ V = Wm p l e R s m args below meth c nL w (MQ below (Qx w rv FR) args s 0 0 (Rg w))
theorem Px.blind {As : List Value} {w : Wd} {FM : FMem} : FrameBlind (va_Pc As (Px w FM)) := by
  intro a U g mk h
  obtain ⟨h1, h2, h3⟩ := h
  exact ⟨h1, h2, h3.warm (State.WarmedH.refl U)⟩
theorem Mt.of {l : Launch} {w : Wd} {y : MethodName} {cc : ByteArray} {nL : Nat} {ret : Option FieldType} {fr lo : Nat} {As : List Value} {FM : FMem} {rv : Option Value} {FR : FMem} (hy : plainName y.cls = true) (hc : ∀ v ∈ As, v.category = 1) (L0 : List (Option Value)) (hL0 : L0 = As.map some ++ List.replicate (nL - As.length) none) (hn : As.length ≤ nL)
    (body : ∀ V, Pk l w cc nL y.cls (rmOf fr lo) ret rv FR V → V FM 0 L0 []) : Mt l w y cc nL ret fr lo As FM rv FR := by
  refine Met.ofW (cc := cc) (maxL := nL) (ret := ret) hy rfl ?_
  intro p e s m args below meth c s₁ B hml hv
  obtain ⟨rfl, hP, hK⟩ := hv
  have hown : s.vm.findClass y.cls = some m.cls := findClass_of_methodNamed B.named
  have hlen := lg_sl_cat hc
  have hl := lv_entry As (n := nL) (by rw [hlen]; exact hn)
  rw [lg_entry_eq]
  refine body _ ⟨p, e, s, m, _, below, meth, c, B.exec, B.bytes, hml, hown, B.returns, B.notSynchronized, hK, rfl⟩ s.heap [] _ hP va_S.rf ?_
  refine ⟨?_, hl.1, hl.2.1, fun i v hi => ?_⟩
  · rw [hL0, List.length_append, List.length_map, List.length_replicate]
    omega
  · refine hl.2.2 (i, v) ?_
    rw [hL0] at hi
    by_cases h9 : i < As.length
    · rw [List.getElem?_append_left (by rw [List.length_map]; exact h9), List.getElem?_map, Option.map_eq_some_iff] at hi
      obtain ⟨v', h1, h2⟩ := hi
      cases h2
      have h3 := lv_args_cat hc 0 i v h1
      rwa [Nat.zero_add] at h3
    · rw [List.getElem?_append_right (by rw [List.length_map]; omega)] at hi
      have := List.eq_of_mem_replicate (List.mem_of_getElem? hi)
      cases this
