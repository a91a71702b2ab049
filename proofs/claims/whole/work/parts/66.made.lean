/-! ===== calls out of a body that has made cells ===== -/
theorem Wg.call {p : Program} {l : Launch} {e : Env} {R : Room} {s : State} {m : MethodId} {args : Array Value} {below : List Frame} {meth : Method} {c : Code} {H : Heap} {locs : List Loc} {cells slots : Nat} {Q : State → Prop} {A : Nat → Prop} {w : Wd} {pc : Nat} {ls : Array Slot} {rest st0 : List Value} {a : Array Value} {rv1 : Option Value} {F1 : FMem}
    (hr : va_Run p l e R s m args below meth c H locs cells slots 0 0 (F0 m pc ls st0) rest (Qx w rv1 F1 a) (Rg w)) (hA : ∀ q, Rg w q → A q) (hS : va_S A s.heap H locs)
    (kk : ∀ (H1 : Heap) (locs1 : List Loc), va_P (wD w) vwCl (wl w F1) H1 → H.size ≤ H1.size → (∀ q : Nat, q < H.size → ¬ Rg w q → H1[q]? = H[q]?) → va_S A s.heap H1 locs1 → W p l e R s m args below meth c H1 locs1 cells slots Q (F0 m (pc + 3) ls (rv1.toList ++ rest))) : W p l e R s m args below meth c H locs cells slots Q (F0 m pc ls st0) := by
  intro T hT X
  obtain ⟨v, st₀, t, T', L, h0, X', hL, e1, e2, ⟨hv, hp, hz, hk⟩, st⟩ := hr T hT X
  cases hv
  rw [h0] at hz hk
  obtain ⟨t2, a1, b1⟩ := kk T'.heap (locs ++ L) (by rw [e1]; exact hp) (by rw [e1]; exact hz) (fun q h1 h2 => by rw [e1]; exact hk q h1 h2)
    ⟨Nat.le_trans hS.1 (by rw [e1]; exact hz), fun q h1 h2 => by rw [e1, hk q (Nat.lt_of_lt_of_le h1 hS.1) (fun z => h2 (hA q z))]; exact hS.2.1 q h1 h2, fun q hq => by
      rcases List.mem_append.mp hq with h | h
      · exact hS.2.2 q h
      · exact hA _ (hL q h)⟩ T' rfl X'
  exact ⟨t2, st t2 a1, b1⟩
section GCALLS
variable {p : Program} {l : Launch} {e : Env} {R : Room} {s : State} {m : MethodId} {args : Array Value} {below : List Frame} {meth : Method} {c : Code} {H : Heap} {locs : List Loc} {cells slots : Nat} {Q : State → Prop} {A : Nat → Prop} {pc : Nat} {ls : Array Slot} {st stk As : List Value} {rv1 : Option Value} {FM F1 : FMem}
variable {cc : ByteArray} {nL : Nat} {own : String} {y : MethodName} {bytes : ByteArray} {maxL index n fr lo i ci a kf : Nat} {rt : Option FieldType} {w : Wd} {fs : (Nat → Int32) → List Value}
theorem gV (hx : p.tables.exec = Jvm.exec) (hb : c.code = cc) (hml : c.maxLocals = nL) (hown : s.vm.findClass own = some m.cls) (hK : KU w s) (hM : Mt l w y bytes maxL rt fr lo (.ref a :: As) FM rv1 F1) (hl0 : MLV own index y bytes maxL rt n) (ha : a = wB w + i) (hO : isOb w i ci fs) (hc : (vwCl[ci]?).map (fun q => q.1) = some y.cls) (hn : As.length = n) (hR : fr + 1 ≤ R.frames ∧ 8 + (maxL + 11) + lo ≤ R.locals) (hst : (st.map fun v => v.category).sum ≤ 8) (hstk : stk = As.reverse ++ .ref a :: st) (hls : ls.size = nL) (hC : cells ≤ R.cells ∧ slots ≤ R.slots) (hd : decode cc pc = .ok (.invokevirtual index, 3)) (hP : va_P (wD w) vwCl (wl w FM) H) (hA : ∀ q, Rg w q → A q) (hS : va_S A s.heap H locs)
    (kk : ∀ (H1 : Heap) (locs1 : List Loc), va_P (wD w) vwCl (wl w F1) H1 → H.size ≤ H1.size → (∀ q : Nat, q < H.size → ¬ Rg w q → H1[q]? = H[q]?) → va_S A s.heap H1 locs1 → W p l e R s m args below meth c H1 locs1 cells slots Q (F0 m (pc + 3) ls (rv1.toList ++ st))) : W p l e R s m args below meth c H locs cells slots Q (F0 m pc ls stk) := by
  subst hstk
  subst ha
  obtain ⟨h1, h2, h3, h4⟩ := hl0
  have hrec : ∃ cellB : Cell, H[wB w + i]? = some cellB ∧ cellB.vm.isStatics = false ∧ s.vm.findClass y.cls = some cellB.cls := by
    rw [Option.map_eq_some_iff] at hc
    obtain ⟨q, hq, hq2⟩ := hc
    rw [← hq2]
    exact va_recv hK.1 hP hq (q0 := i) (fs := fs (FM i)) (by rw [wl_get hO.1, hO.2])
  have hp : PreV s H y.cls (wB w + i) (va_Pc (.ref (wB w + i) :: As) (Px w FM)) As := ⟨Px.blind, hrec, fun U hU hW => ⟨rfl, by rw [hU]; exact hP, hK.warm hW⟩⟩
  have S : CallFix p m c cc nL s args ([] : List Cond) own := ⟨hx, hb, hml, hown, fun _ h => by cases h⟩
  rcases h2 with h2 | ⟨host, h2⟩
  · exact Wg.call (va_runV (g := F0 m pc ls (As.reverse ++ .ref (wB w + i) :: st)) S hM ⟨cb_of hK h1 h2 hR, hK.2 _ h3 _, hK.2 _ h4 _⟩ hp rfl hn hls rfl (lv_room hst) hd hC) hA hS kk
  · exact Wg.call (va_runVN (g := F0 m pc ls (As.reverse ++ .ref (wB w + i) :: st)) S hM ⟨cn_of hK h1 h2 hR, hK.2 _ h3 _, hK.2 _ h4 _⟩ hp rfl hn hls rfl (lv_room hst) hd hC) hA hS kk
theorem gS (hx : p.tables.exec = Jvm.exec) (hb : c.code = cc) (hml : c.maxLocals = nL) (hown : s.vm.findClass own = some m.cls) (hK : KU w s) (hM : Mt l w y bytes maxL rt fr lo As FM rv1 F1) (hl0 : MLS own index y bytes maxL rt n) (hn : As.length = n) (hR : fr + 1 ≤ R.frames ∧ 8 + (maxL + 11) + lo ≤ R.locals) (hst : (st.map fun v => v.category).sum ≤ 8) (hstk : stk = As.reverse ++ st) (hls : ls.size = nL) (hC : cells ≤ R.cells ∧ slots ≤ R.slots) (hd : decode cc pc = .ok (.invokestatic index, 3)) (hP : va_P (wD w) vwCl (wl w FM) H) (hA : ∀ q, Rg w q → A q) (hS : va_S A s.heap H locs)
    (kk : ∀ (H1 : Heap) (locs1 : List Loc), va_P (wD w) vwCl (wl w F1) H1 → H.size ≤ H1.size → (∀ q : Nat, q < H.size → ¬ Rg w q → H1[q]? = H[q]?) → va_S A s.heap H1 locs1 → W p l e R s m args below meth c H1 locs1 cells slots Q (F0 m (pc + 3) ls (rv1.toList ++ st))) : W p l e R s m args below meth c H locs cells slots Q (F0 m pc ls stk) := by
  subst hstk
  obtain ⟨h1, h2, h3⟩ := hl0
  have hp : PreS s H (va_Pc As (Px w FM)) As := ⟨Px.blind, fun U hU hW => ⟨rfl, by rw [hU]; exact hP, hK.warm hW⟩⟩
  have S : CallFix p m c cc nL s args ([] : List Cond) own := ⟨hx, hb, hml, hown, fun _ h => by cases h⟩
  rcases h2 with h2 | ⟨host, h2⟩
  · exact Wg.call (va_runS (g := F0 m pc ls (As.reverse ++ st)) S hM ⟨cb_of hK h1 h2 hR, hK.2 _ h3 _⟩ hp rfl hn hls rfl (lv_room hst) hd hC) hA hS kk
  · exact Wg.call (va_runSN (g := F0 m pc ls (As.reverse ++ st)) S hM ⟨cn_of hK h1 h2 hR, hK.2 _ h3 _, trivial⟩ hp rfl hn hls rfl (lv_room hst) hd hC) hA hS kk
theorem gGet (hx : p.tables.exec = Jvm.exec) (hb : c.code = cc) (hown : s.vm.findClass own = some m.cls) (hK : KU w s) {fin : Bool} {ty : FieldType} {v : Value} (hf : FL own index ci kf fin ty) (ha : a = wB w + i) (hO : isOb w i ci fs) (hv : (fs (FM i))[kf]? = some v) (hP : va_P (wD w) vwCl (wl w FM) H) (hd : decode cc pc = .ok (.getfield index, 3)) (kk : W p l e R s m args below meth c H locs cells slots Q (F0 m (pc + 3) ls (v :: st))) : W p l e R s m args below meth c H locs cells slots Q (F0 m pc ls (.ref a :: st)) := by
  subst ha
  obtain ⟨C, T, N, ty0, h1, h2, h3, h4, h5, h6, h7, h8⟩ := hf
  have he : (wl w FM)[i]? = some (wB w + i, .inr (ci, fs (FM i))) := by rw [wl_get hO.1, hO.2]
  rcases h6 with h6 | ⟨host, h6⟩
  · exact va_get (Ts := u_ws C T N) hx hb (fun x hx => hK.2 x (h3 x hx) _) (fun _ h => h) hown hK.1 hP i he h1 kf h2 (hK.2 _ h6 _) (fun _ h => h) hv hd kk
  · exact va_getN (Ts := u_ws C T N) hx hb (fun x hx => hK.2 x (h3 x hx) _) (fun _ h => h) hown hK.1 hP i he h1 kf h2 (hK.2 _ h6 _) (fun _ h => h) hv hd kk
end GCALLS
/-! ===== the memory as it is made ===== -/
def r5 : Nat → Int32 := fun q => if q = 5 then 2 else 0
def C0 : FMem := fun j => if j = 3 then r5 else if j = 12 then r5 else fun _ => 0
def E8 (cI cM : ClassId) (o : Nat) : List va_E := [.inr (8, [.ref (o + 1), .ref (o + 3), .ref (o + 12), .ref (o + 21), .ref (o + 27), .ref (o + 77), .ref (o + 91), .ref (o + 94), .ref (o + 98), .ref (o + 100)]), .inr (4, [.ref (o + 2), .int 0]), .inl (cI, 200, .inl (fun _ => 0)), .inr (0, [.ref (o + 4), .ref (o + 5), .ref (o + 6), .int 0, .ref (o + 7), .int 2, .ref (o + 11)]), .inl (cI, 6, .inl (fun _ => 0)), .inl (cI, 6, .inl (fun _ => 0)), .inl (cI, 6, .inl (fun _ => 0)), .inr (7, [.ref (o + 8), .ref (o + 9), .ref (o + 10), .int 0]), .inl (cI, 9, .inl (fun _ => 0)), .inl (cI, 9, .inl (fun _ => 0)), .inl (cI, 9, .inl (fun _ => 0)), .inl (cI, 3, .inl (fun _ => 0)), .inr (0, [.ref (o + 13), .ref (o + 14), .ref (o + 15), .int 0, .ref (o + 16), .int 2, .ref (o + 20)]), .inl (cI, 6, .inl (fun _ => 0)), .inl (cI, 6, .inl (fun _ => 0)), .inl (cI, 6, .inl (fun _ => 0)), .inr (7, [.ref (o + 17), .ref (o + 18), .ref (o + 19), .int 0]), .inl (cI, 9, .inl (fun _ => 0)), .inl (cI, 9, .inl (fun _ => 0)), .inl (cI, 9, .inl (fun _ => 0)), .inl (cI, 3, .inl (fun _ => 0)), .inr (1, [.int 0, .int 0, .int 0, .int 0, .ref (o + 22), .ref (o + 23)]), .inl (cI, 6, .inl (fun _ => 0)), .inr (7, [.ref (o + 24), .ref (o + 25), .ref (o + 26), .int 0]), .inl (cI, 9, .inl (fun _ => 0)), .inl (cI, 9, .inl (fun _ => 0)), .inl (cI, 9, .inl (fun _ => 0)), .inr (5, [.ref (o + 28), .int 0, .int 0]), .inl (cM, 8, .inr (.inr (.inr (.inr (fun k => some (o + (27 + 2 + 6 * k))))))), .inr (1, [.int 0, .int 0, .int 0, .int 0, .ref (o + 30), .ref (o + 31)]), .inl (cI, 6, .inl (fun _ => 0)), .inr (7, [.ref (o + 32), .ref (o + 33), .ref (o + 34), .int 0]), .inl (cI, 9, .inl (fun _ => 0)), .inl (cI, 9, .inl (fun _ => 0)), .inl (cI, 9, .inl (fun _ => 0)), .inr (1, [.int 0, .int 0, .int 0, .int 0, .ref (o + 36), .ref (o + 37)]), .inl (cI, 6, .inl (fun _ => 0)), .inr (7, [.ref (o + 38), .ref (o + 39), .ref (o + 40), .int 0]), .inl (cI, 9, .inl (fun _ => 0)), .inl (cI, 9, .inl (fun _ => 0)), .inl (cI, 9, .inl (fun _ => 0)), .inr (1, [.int 0, .int 0, .int 0, .int 0, .ref (o + 42), .ref (o + 43)]), .inl (cI, 6, .inl (fun _ => 0)), .inr (7, [.ref (o + 44), .ref (o + 45), .ref (o + 46), .int 0]), .inl (cI, 9, .inl (fun _ => 0)), .inl (cI, 9, .inl (fun _ => 0)), .inl (cI, 9, .inl (fun _ => 0)), .inr (1, [.int 0, .int 0, .int 0, .int 0, .ref (o + 48), .ref (o + 49)]), .inl (cI, 6, .inl (fun _ => 0)), .inr (7, [.ref (o + 50), .ref (o + 51), .ref (o + 52), .int 0]), .inl (cI, 9, .inl (fun _ => 0)), .inl (cI, 9, .inl (fun _ => 0)), .inl (cI, 9, .inl (fun _ => 0)), .inr (1, [.int 0, .int 0, .int 0, .int 0, .ref (o + 54), .ref (o + 55)]), .inl (cI, 6, .inl (fun _ => 0)), .inr (7, [.ref (o + 56), .ref (o + 57), .ref (o + 58), .int 0]), .inl (cI, 9, .inl (fun _ => 0)), .inl (cI, 9, .inl (fun _ => 0)), .inl (cI, 9, .inl (fun _ => 0)), .inr (1, [.int 0, .int 0, .int 0, .int 0, .ref (o + 60), .ref (o + 61)]), .inl (cI, 6, .inl (fun _ => 0)), .inr (7, [.ref (o + 62), .ref (o + 63), .ref (o + 64), .int 0]), .inl (cI, 9, .inl (fun _ => 0)), .inl (cI, 9, .inl (fun _ => 0)), .inl (cI, 9, .inl (fun _ => 0)), .inr (1, [.int 0, .int 0, .int 0, .int 0, .ref (o + 66), .ref (o + 67)]), .inl (cI, 6, .inl (fun _ => 0)), .inr (7, [.ref (o + 68), .ref (o + 69), .ref (o + 70), .int 0]), .inl (cI, 9, .inl (fun _ => 0)), .inl (cI, 9, .inl (fun _ => 0)), .inl (cI, 9, .inl (fun _ => 0)), .inr (1, [.int 0, .int 0, .int 0, .int 0, .ref (o + 72), .ref (o + 73)]), .inl (cI, 6, .inl (fun _ => 0)), .inr (7, [.ref (o + 74), .ref (o + 75), .ref (o + 76), .int 0]), .inl (cI, 9, .inl (fun _ => 0)), .inl (cI, 9, .inl (fun _ => 0)), .inl (cI, 9, .inl (fun _ => 0)), .inr (5, [.ref (o + 78), .int 0, .int 0]), .inl (cM, 2, .inr (.inr (.inr (.inr (fun k => some (o + (77 + 2 + 6 * k))))))), .inr (1, [.int 0, .int 0, .int 0, .int 0, .ref (o + 80), .ref (o + 81)]), .inl (cI, 6, .inl (fun _ => 0)), .inr (7, [.ref (o + 82), .ref (o + 83), .ref (o + 84), .int 0]), .inl (cI, 9, .inl (fun _ => 0)), .inl (cI, 9, .inl (fun _ => 0)), .inl (cI, 9, .inl (fun _ => 0)), .inr (1, [.int 0, .int 0, .int 0, .int 0, .ref (o + 86), .ref (o + 87)]), .inl (cI, 6, .inl (fun _ => 0)), .inr (7, [.ref (o + 88), .ref (o + 89), .ref (o + 90), .int 0]), .inl (cI, 9, .inl (fun _ => 0)), .inl (cI, 9, .inl (fun _ => 0)), .inl (cI, 9, .inl (fun _ => 0)), .inr (6, [.ref (o + 92), .ref (o + 93), .int 0]), .inl (cI, 8, .inl (fun _ => 0)), .inl (cI, 8, .inl (fun _ => 0)), .inr (2, [.ref (o + 12), .null, .int 0, .int 0, .ref (o + 95), .ref (o + 96), .ref (o + 97)]), .inl (cI, 61, .inl (fun _ => 0)), .inl (cI, 61, .inl (fun _ => 0)), .inl (cI, 366, .inl (fun _ => 0)), .inr (3, [.ref (o + 12), .ref (o + 94), .ref (o + 99), .int 0, .int 0]), .inl (cI, 6, .inl (fun _ => 0)), .inl (cI, 6, .inl (fun _ => 0))]
set_option maxRecDepth 100000 in
theorem E8_is (D : va_G) (cI cM : ClassId) (o : Nat) : E8 cI cM o = (List.range 101).map (fun i => wM (wdC D cI cM o) i (C0 i)) := rfl
def M0 : FMem := fun _ _ => 0
def E9 (cI : ClassId) (o : Nat) : List va_E := [.inr (9, [.int 0, .ref (o + 1), .int 0, .ref (o + 2), .ref (o + 3), .int 0, .ref (o + 4), .int 0, .ref (o + 5), .int 0, .ref (o + 6), .ref (o + 7), .int 0, .int 0, .ref (o + 8), .int 0, .ref (o + 9), .int 0, .ref (o + 10), .ref (o + 11), .int 0, .int 0, .ref (o + 12), .ref (o + 13)]), .inl (cI, 18, .inl (fun _ => 0)), .inl (cI, 46, .inl (fun _ => 0)), .inl (cI, 46, .inl (fun _ => 0)), .inl (cI, 368, .inl (fun _ => 0)), .inl (cI, 92, .inl (fun _ => 0)), .inl (cI, 16, .inl (fun _ => 0)), .inl (cI, 200, .inl (fun _ => 0)), .inl (cI, 3, .inl (fun _ => 0)), .inl (cI, 18, .inl (fun _ => 0)), .inl (cI, 46, .inl (fun _ => 0)), .inl (cI, 46, .inl (fun _ => 0)), .inl (cI, 6, .inl (fun _ => 0)), .inl (cI, 6, .inl (fun _ => 0))]
theorem E9_is (D : va_G) (cI : ClassId) (o : Nat) : E9 cI o = (List.range 14).map (fun i => wM (wdM D cI o) i (M0 i)) := rfl
theorem bw_wl {w : Wd} {FM : FMem} {o : Nat} {E : List va_E} (ho : wB w = o) (hE : E = (List.range (wN w)).map (fun i => wM w i (FM i))) : bw o E = wl w FM := by
  subst ho
  subst hE
  refine List.ext_getElem? fun j => ?_
  rw [bw_get]
  by_cases hj : j < wN w
  · rw [wl_get hj]
    simp [hj]
  · simp [wl, hj]
def ftx8 (q : Nat) : Int32 := fch q &&& 255
def tC (i : Nat) : FMem := fun j => if j = 1 then upd (fun _ => 0) 1 (nI i) else if j = 2 then (fun q => if q < i then ftx8 q else 0) else C0 j
theorem tC_0 : tC 0 = C0 := by
  funext j q
  unfold tC
  by_cases h1 : j = 1
  · subst h1
    show upd (fun _ => 0) 1 (nI 0) q = 0
    by_cases hq : q = 1
    · subst hq; rfl
    · rw [upd_ne _ _ hq]
  · rw [if_neg h1]
    by_cases h2 : j = 2
    · subst h2
      show (if q < 0 then ftx8 q else 0) = 0
      rw [if_neg (by omega)]
    · rw [if_neg h2]
theorem tC_app {i : Nat} (hi : i < 82) : f_X4_append (ftx8 i) (tC i) = some (1, tC (i + 1)) := by
  unfold f_X4_append
  have h1 : tC i 1 1 = nI i := rfl
  rw [h1, if_pos (by rw [c_lt (by omega) (by omega)]; omega), grd_ok (inb_t (by omega) (by omega)), nI_clamp (by omega), bindm_ok, bindm_ok, fset_ne _ _ _ (by decide), h1, nI_1]
  congr 2
  funext j q
  by_cases j1 : j = 1
  · subst j1
    rw [fset_same, fset_ne _ _ _ (by decide)]
    by_cases hq : q = 1
    · subst hq; rw [upd_same]; rfl
    · rw [upd_ne _ _ hq]
      show upd (fun _ => 0) 1 (nI i) q = upd (fun _ => 0) 1 (nI (i + 1)) q
      rw [upd_ne _ _ hq, upd_ne _ _ hq]
  · rw [fset_ne _ _ _ j1]
    by_cases j2 : j = 2
    · subst j2
      rw [fset_same]
      by_cases hq : q = i
      · subst hq
        rw [upd_same]
        show _ = if q < q + 1 then ftx8 q else 0
        rw [if_pos (by omega)]
      · rw [upd_ne _ _ hq]
        show (if q < i then ftx8 q else 0) = if q < i + 1 then ftx8 q else 0
        by_cases hlt : q < i
        · rw [if_pos hlt, if_pos (by omega)]
        · rw [if_neg hlt, if_neg (by omega)]
    · rw [fset_ne _ _ _ j2]
      unfold tC
      rw [if_neg j1, if_neg j2, if_neg j1, if_neg j2]
