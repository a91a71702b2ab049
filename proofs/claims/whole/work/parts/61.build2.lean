def FLo (own : String) (index ci kf : Nat) (fin : Bool) (ty : FieldType) : Prop := FLk (fun a b d => inT (.fieldLink own index a b d) ∧ a = own) ci kf fin ty
def MLI (own : String) (index : Nat) (y : MethodName) (bytes : ByteArray) (maxL n : Nat) : Prop := MLb y bytes maxL none n ∧ MLl own index y ∧ inT (.instanceMethod y) ∧ y.name = "<init>"
theorem cb_ofB {R : Room} {s : State} {args : Array Value} {own : String} {index : Nat} {y : MethodName} {bytes : ByteArray} {maxL : Nat} {rt : Option FieldType} {n fr lo mc ms : Nat} {w : Wd} (hK : KU w s) (hb : MLb y bytes maxL rt n) (hl : inT (.methodLink own index y)) (hR : fr + 1 ≤ R.frames ∧ 8 + (maxL + 11) + lo ≤ R.locals) : CallB R s args own index y bytes maxL rt [.code y bytes maxL rt] (rmB fr lo mc ms) mc ms n := by
  obtain ⟨h1, h2, h3, h4, h5, h6⟩ := hb
  refine ⟨rfl, rfl, hR.1, hR.2, fun x hx a' U hW => ?_, List.mem_cons_self, hK.2 _ h1 _, hK.2 _ h3 _, ⟨h4, h5⟩, fun sig h => ?_, hK.2 _ hl _⟩
  · rw [List.mem_singleton.mp hx]
    exact (hK.2.warm hW) _ h1 _
  · rw [h] at h6
    exact (Option.some.inj h6).symm
theorem cn_ofB {R : Room} {s : State} {args : Array Value} {own host : String} {index : Nat} {y : MethodName} {bytes : ByteArray} {maxL : Nat} {rt : Option FieldType} {n fr lo mc ms : Nat} {w : Wd} (hK : KU w s) (hb : MLb y bytes maxL rt n) (hl : inT (.methodLinkNest own index y host)) (hR : fr + 1 ≤ R.frames ∧ 8 + (maxL + 11) + lo ≤ R.locals) : va_CN R s args own index y host bytes maxL rt [.code y bytes maxL rt] (rmB fr lo mc ms) mc ms n := by
  obtain ⟨h1, h2, h3, h4, h5, h6⟩ := hb
  refine ⟨⟨rfl, rfl, hR.1, hR.2, fun x hx a' U hW => ?_, List.mem_cons_self⟩, hK.2 _ h1 _, hK.2 _ h3 _, ⟨h4, h5⟩, fun sig h => ?_, hK.2 _ hl _⟩
  · rw [List.mem_singleton.mp hx]
    exact (hK.2.warm hW) _ h1 _
  · rw [h] at h6
    exact (Option.some.inj h6).symm
/-- behind a constructor's call -/
theorem Bj.call {p : Program} {l : Launch} {e : Env} {R : Room} {s : State} {m : MethodId} {args : Array Value} {below : List Frame} {meth : Method} {c : Code} {H : Heap} {locs : List Loc} {cells slots mc ms : Nat} {Q : State → Prop} {D : va_G} {o o2 : Nat} {E' E2 : List va_E} {x0 : va_E} {pc : Nat} {ls : Array Slot} {rest st0 : List Value} {a : Array Value} (ho : o2 = o + E'.length)
    (hr : va_Run p l e R s m args below meth c H locs cells slots mc ms (F0 m pc ls st0) rest (Qb D o2 E2 a) (Gr o2)) (hP : va_P D vwCl (bw o (E' ++ [x0])) H) (hS : va_S (Gr o) s.heap H locs)
    (kk : ∀ (H1 : Heap) (locs1 : List Loc), va_P D vwCl (bw o (E' ++ E2)) H1 → va_S (Gr o) s.heap H1 locs1 → W p l e R s m args below meth c H1 locs1 (cells + mc) (slots + ms) Q (F0 m (pc + 3) ls rest)) : W p l e R s m args below meth c H locs cells slots Q (F0 m pc ls st0) := by
  intro T hT X
  obtain ⟨v, st₀, t, T', L, h0, X', hL, e1, e2, ⟨hv, hp, hz, hk⟩, st⟩ := hr T hT X
  cases hv
  rw [h0] at hz hk
  have hP1 : va_P D vwCl (bw o E') H := by
    rw [bw_app] at hP
    intro k2 x2 hx2
    exact hP k2 x2 (by rw [List.getElem?_append_left (List.getElem?_eq_some_iff.mp hx2).1]; exact hx2)
  obtain ⟨t2, a1, b1⟩ := kk T'.heap (locs ++ L) (by
      rw [bw_app]
      refine (hP1.kept fun k2 x2 hx2 => ?_).app ?_
      · obtain ⟨e3, he3, rfl⟩ := bw_of hx2
        have hlt := (List.getElem?_eq_some_iff.mp he3).1
        rw [e1]
        refine hk _ (hP1 k2 _ hx2).lt ?_
        show ¬ o2 ≤ o + k2
        omega
      · rw [e1, ← ho]
        exact hp)
    ⟨Nat.le_trans hS.1 (by rw [e1]; exact hz), fun q h1 h2 => by
      rw [e1, hk q (Nat.lt_of_lt_of_le h1 hS.1) (fun z => h2 (by have z' : o2 ≤ q := z; show o ≤ q; omega))]
      exact hS.2.1 q h1 h2, fun q hq => by
      rcases List.mem_append.mp hq with h | h
      · exact hS.2.2 q h
      · have z : o2 ≤ q.base := hL q h
        show o ≤ q.base
        omega⟩ T' rfl X'
  exact ⟨t2, st t2 a1, b1⟩
section BROWS2
variable {l : Launch} {D : va_G} {cI cM : ClassId} {cc : ByteArray} {nL : Nat} {own : String} {R : Room} {o : Nat} {Z : (Array Value → State → Outcome → State → Prop)} {mc ms : Nat} {V : List va_E → Nat → Nat → Nat → List (Option Value) → List Value → Prop}
variable {E : List va_E} {ck cs pc : Nat} {L : List (Option Value)} {st : List Value}
theorem q_putF (hV : Pb l D cI cM cc nL own R o Z mc ms V) {index ci kf i : Nat} {ty : FieldType} {fs : List Value} {v : Value} (hf : FLo own index ci kf true ty) (he : E[i]? = some (.inr (ci, fs))) (hn : narrow ty v = v) (hfit : fits ty v = true) (hlen : kf < fs.length) (hd : decode cc pc = .ok (.putfield index, 3)) {a : Nat} (ha : a = o + i) (E' : List va_E) (hE' : E.set i (.inr (ci, fs.set kf v)) = E') (k : V E' ck cs (pc + 3) L st) : V E ck cs pc L (v :: .ref a :: st) := by
  obtain ⟨p, e, s, m, args, below, meth, c, hx, hb, hml, hown, hr, hlk, hin, hsz, hK, rfl⟩ := hV
  intro H locs ls hP hS hl
  subst ha
  obtain ⟨C, T, N, ty0, h1, h2, h3, h4, h5, ⟨h6, h6'⟩, h7, h8⟩ := hf
  refine va_putF (Ts := u_ws C T N) hx hb (fun x hx => hK.W (h3 x hx) _) (fun _ h => h) ty0 h4 h5 hown hK.K hP bw_D hS i (bw_at he) h1 kf h2 (hK.W h6 _) (fun _ h => h) h7 hin h6' h8 hn hfit hlen hd fun H1 locs1 g1 _ g3 => ?_
  rw [bw_set, hE'] at g1
  exact k H1 locs1 ls g1 g3 hl
theorem q_puti (hV : Pb l D cI cM cc nL own R o Z mc ms V) {index ci kf i : Nat} {fs : List Value} {x : Int32} (hf : FLo own index ci kf false .int) (he : E[i]? = some (.inr (ci, fs))) (hlen : kf < fs.length) (hd : decode cc pc = .ok (.putfield index, 3)) {a : Nat} (ha : a = o + i) (E' : List va_E) (hE' : E.set i (.inr (ci, fs.set kf (.int x))) = E') (k : V E' ck cs (pc + 3) L st) : V E ck cs pc L (.int x :: .ref a :: st) := by
  obtain ⟨p, e, s, m, args, below, meth, c, hx, hb, hml, hown, hr, hlk, hin, hsz, hK, rfl⟩ := hV
  intro H locs ls hP hS hl
  subst ha
  obtain ⟨C, T, N, ty0, h1, h2, h3, h4, h5, ⟨h6, h6'⟩, h7, h8⟩ := hf
  refine va_put (Ts := u_ws C T N) hx hb (fun x hx => hK.W (h3 x hx) _) (fun _ h => h) ty0 h4 h5 hown hK.K hP bw_D hS i (bw_at he) h1 kf h2 (hK.W h6 _) (fun _ h => h) h7 h8 rfl rfl hlen hd fun H1 locs1 g1 _ g3 => ?_
  rw [bw_set, hE'] at g1
  exact k H1 locs1 ls g1 g3 hl
theorem q_get (hV : Pb l D cI cM cc nL own R o Z mc ms V) {index ci kf i : Nat} {fin : Bool} {ty : FieldType} {fs : List Value} {v : Value} (hf : FLo own index ci kf fin ty) (he : E[i]? = some (.inr (ci, fs))) (hv : fs[kf]? = some v) (hd : decode cc pc = .ok (.getfield index, 3)) {a : Nat} (ha : a = o + i) (k : V E ck cs (pc + 3) L (v :: st)) : V E ck cs pc L (.ref a :: st) := by
  obtain ⟨p, e, s, m, args, below, meth, c, hx, hb, hml, hown, hr, hlk, hin, hsz, hK, rfl⟩ := hV
  intro H locs ls hP hS hl
  subst ha
  obtain ⟨C, T, N, ty0, h1, h2, h3, h4, h5, ⟨h6, h6'⟩, h7, h8⟩ := hf
  exact va_get (Ts := u_ws C T N) hx hb (fun x hx => hK.W (h3 x hx) _) (fun _ h => h) hown hK.K hP i (bw_at he) h1 kf h2 (hK.W h6 _) (fun _ h => h) hv hd (k H locs ls hP hS hl)
theorem q_callI (hV : Pb l D cI cM cc nL own R o Z mc ms V) {index n fr lo mc2 ms2 maxL a : Nat} {y : MethodName} {bytes : ByteArray} {As stk : List Value} {x0 : va_E} {E2 : List va_E} (E' : List va_E) (hE : E = E' ++ [x0]) (ha : a = o + E'.length) (hM : Ct l D cI cM y bytes maxL fr lo mc2 ms2 (.ref a :: As) a x0 E2) (hl0 : MLI own index y bytes maxL n) (hn : As.length = n) (hR : fr + 1 ≤ R.frames ∧ 8 + (maxL + 11) + lo ≤ R.locals) (hst : (st.map fun v => v.category).sum ≤ 8) (hstk : stk = As.reverse ++ .ref a :: st) (hck : ck = E'.length) (hC : ck + mc2 ≤ R.cells ∧ cs + ms2 ≤ R.slots) (hd : decode cc pc = .ok (.invokespecial index, 3)) (E3 : List va_E) (hE3 : E' ++ E2 = E3) (k : V E3 (ck + mc2) (cs + ms2) (pc + 3) L st) : V E ck cs pc L stk := by
  obtain ⟨p, e, s, m, args, below, meth, c, hx, hb, hml, hown, hr, hlk, hin, hsz, hK, rfl⟩ := hV
  intro H locs ls hP hS hl
  subst hstk
  subst hE
  subst hE3
  obtain ⟨h1, h2, h3, h4⟩ := hl0
  refine W.size fun hz => ?_
  have hz2 := bw_size hP (by rw [List.length_append]; show 0 < _ + 1; omega)
  have hH : H.size = a + 1 := by
    rw [List.length_append] at hz2
    have : ([x0] : List va_E).length = 1 := rfl
    omega
  have hPc : va_P D vwCl (bw a [x0]) H := by
    rw [bw_app, ← ha] at hP
    intro k2 x2 hx2
    have hlb : (bw o E').length = E'.length := List.length_mapIdx
    exact hP ((bw o E').length + k2) x2 (by rw [List.getElem?_append_right (by omega), show (bw o E').length + k2 - (bw o E').length = k2 by omega]; exact hx2)
  have hp : PreS s H (va_Pc (.ref a :: As) (Pbx D cI cM a [x0])) (.ref a :: As) := ⟨Pbx.blind, fun U hU hW => ⟨rfl, by rw [hU]; exact hPc, by rw [hU]; exact hH, hK.warm hW⟩⟩
  have S : CallFix p m c cc nL s args ([] : List Cond) own := ⟨hx, hb, hml, hown, fun _ h => by cases h⟩
  rcases h2 with h2 | ⟨host, h2⟩
  · exact Bj.call ha (va_runI (g := F0 m pc ls (As.reverse ++ .ref a :: st)) S hM ⟨cb_ofB hK.1 h1 h2 hR, h4, hK.W h3 _⟩ hp rfl hn hl.2.1 rfl (lv_room hst) hd hC) hP hS (fun H1 locs1 g1 g2 => k H1 locs1 ls g1 g2 hl)
  · exact Bj.call ha (va_runIN (g := F0 m pc ls (As.reverse ++ .ref a :: st)) S hM ⟨cn_ofB hK.1 h1 h2 hR, h4, hK.W h3 _⟩ hp rfl hn hl.2.1 rfl (lv_room hst) hd hC) hP hS (fun H1 locs1 g1 g2 => k H1 locs1 ls g1 g2 hl)
theorem q_mmax (hV : Pb l D cI cM cc nL own R o Z mc ms V) {index : Nat} {x y2 : Int32} (h1 : inT (.methodLink own index Lib.Math.max.name)) (h2 : inT (.static Lib.Math.max.name)) (h3 : inT (.initialized "java/lang/Math")) (h4 : inT (.code Lib.Math.max.name Lib.Math.max.code 2 (some .int))) (hR : 1 ≤ R.frames ∧ (st.map fun v => v.category).sum + 13 ≤ R.locals) (hC : ck ≤ R.cells ∧ cs ≤ R.slots) (hd : decode cc pc = .ok (.invokestatic index, 3)) (k : V E ck cs (pc + 3) L (.int (if x < y2 then y2 else x) :: st)) : V E ck cs pc L (.int y2 :: .int x :: st) := by
  obtain ⟨p, e, s, m, args, below, meth, c, hx, hb, hml, hown, hr, hlk, hin, hsz, hK, rfl⟩ := hV
  intro H locs ls hP hS hl
  exact va_mmax hx hb (hml.trans hl.2.1.symm) hown (hK.W h1 _) (hK.W h2 _) (hK.W h3 _) (hK.W h4 _) hR.1 hR.2 hC.1 hC.2 hd (k H locs ls hP hS hl)
theorem q_iinc (hV : Pb l D cI cM cc nL own R o Z mc ms V) {i : Nat} {n : Int} {x v : Int32} (hd : decode cc pc = .ok (.iinc i n, 3)) (hi : L[i]? = some (some (.int x))) (hv : Int32.ofInt n = v) (hc : chkL L i = true) (k : V E ck cs (pc + 3) (L.set i (some (.int (x + v)))) st) : V E ck cs pc L st := by
  obtain ⟨p, e, s, m, args, below, meth, c, hx, hb, hml, hown, hr, hlk, hin, hsz, hK, rfl⟩ := hV
  intro H locs ls hP hS hl
  obtain ⟨j, hj⟩ := List.getElem?_of_mem (lvL_mem.mpr hi)
  have hn : i < nL := by rw [← hl.1]; exact (List.getElem?_eq_some_iff.mp hi).1
  exact lv_iinc hx hb hd hl.has hj (by rw [hv]) hn rfl (fun ls2 h2 => k H locs ls2 hP hS (LH.st1 hl.1 hc h2))
/-- new Moment[n] -/
theorem q_anew (hV : Pb l D cI cM cc nL own R o Z mc ms V) {index : Nat} {x : Int32} (N : Nat) (hN : x.toNatClampNeg = N) (hx0 : ¬ x < 0) (h1 : inT (.classLink own index "BoredKings$Moment")) (hb4 : N * 4 ≤ 536870912) (hck : ck + 1 = E.length) (hR : ck + 1 ≤ R.cells ∧ cs + N ≤ R.slots) (hd : decode cc pc = .ok (.anewarray index, 3)) (k : V (E ++ [.inl (cM, N, .inr (.inr (.inr (.inr (fun _ => none)))))]) (ck + 1) (cs + N) (pc + 3) L (.ref (o + E.length) :: st)) : V E ck cs pc L (.int x :: st) := by
  obtain ⟨p, e, s, m, args, below, meth, c, hx, hb, hml, hown, hr, hlk, hin, hsz, hK, rfl⟩ := hV
  intro H locs ls hP hS hl
  subst hN
  refine W.size fun hz => ?_
  have hz2 := bw_size hP (by omega)
  have hH : H.size = o + E.length := by omega
  refine W.anew hx hb hown (hK.W h1 _) (va_AO.use hK.2) rfl hd rfl hx0 hb4 hR.1 hR.2 fun cA kA comp f1 f2 f3 f4 => ?_
  have hcA : cA = cM := by
    obtain ⟨_, _, _, _, _, h2⟩ := (hK.K.2 1 _ rfl).2
    exact Option.some.inj (f1.symm.trans h2)
  subst hcA
  generalize hH1 : H.push ({ cls := cA, slots := Array.replicate x.toNatClampNeg .null, vm := .none } : Cell) = H1
  have e1 : H1[H.size]? = some (arrV cA x.toNatClampNeg (fun _ => .null)) := by rw [← hH1, Array.getElem?_push_size, ← arrV_new]
  have z1 : H1.size = H.size + 1 := by rw [← hH1, Array.size_push]
  have o1 : ∀ q : Nat, q < H.size → H1[q]? = H[q]? := fun q hq => by rw [← hH1, Array.getElem?_push, if_neg (Nat.ne_of_lt hq)]
  refine W.eq (g2 := F0 m (pc + 3) ls (.ref (o + E.length) :: st)) (by rw [← hH]) ?_
  refine k H1 locs ls ?_ ⟨by have := hS.1; omega, fun q g1 g2 => (o1 q (by have := hS.1; omega)).trans (hS.2.1 q g1 g2), hS.2.2⟩ hl
  rw [bw_app]
  refine (hP.kept fun k2 x2 hx2 => ?_).app fun k2 x2 hx2 => ?_
  · exact o1 _ (hP k2 x2 hx2).lt
  · obtain ⟨e2, he2, rfl⟩ := bw_of hx2
    have hk0 : k2 = 0 := by
      have := (List.getElem?_eq_some_iff.mp he2).1
      simp at this
      exact this
    subst hk0
    cases he2
    show H1[o + E.length]? = some (vp_cell _ _)
    rw [vp_cell_q, ← hH]
    exact e1
theorem q_aast (hV : Pb l D cI cM cc nL own R o Z mc ms V) {i n j v : Nat} {x : Int32} {f : Nat → Option Nat} {vs : List Value} (he : E[i]? = some (.inl (cM, n, .inr (.inr (.inr (.inr f)))))) (hj : E[j]? = some (.inr (1, vs))) (hv : v = o + j) (hin2 : vp_in x n) (hd : decode cc pc = .ok (.aastore, 1)) {a : Nat} (ha : a = o + i) (E' : List va_E) (hE' : E.set i (.inl (cM, n, .inr (.inr (.inr (.inr (va_up f x.toNatClampNeg (some v))))))) = E') (k : V E' ck cs (pc + 1) L st) : V E ck cs pc L (.ref v :: .int x :: .ref a :: st) := by
  obtain ⟨p, e, s, m, args, below, meth, c, hx, hb, hml, hown, hr, hlk, hin, hsz, hK, rfl⟩ := hV
  intro H locs ls hP hS hl
  subst ha
  subst hv
  refine va_astq hx hb hK.K hP bw_D hS i 1 j 1 (r := (RX1, TX1, 6)) (bw_at he) rfl (bw_at hj) rfl hin2 hd fun H1 locs1 g1 _ g3 => ?_
  rw [bw_set, hE'] at g1
  exact k H1 locs1 ls g1 g3 hl
theorem q_alen (hV : Pb l D cI cM cc nL own R o Z mc ms V) {i n : Nat} {v : Int32} {f : Nat → Option Nat} (he : E[i]? = some (.inl (cM, n, .inr (.inr (.inr (.inr f)))))) (hv : Int32.ofNat n = v) (hd : decode cc pc = .ok (.arraylength, 1)) {a : Nat} (ha : a = o + i) (k : V E ck cs (pc + 1) L (.int v :: st)) : V E ck cs pc L (.ref a :: st) := by
  obtain ⟨p, e, s, m, args, below, meth, c, hx, hb, hml, hown, hr, hlk, hin, hsz, hK, rfl⟩ := hV
  intro H locs ls hP hS hl
  subst ha
  exact va_alen hx hb hK.K hP i 1 (bw_at he) rfl hv hd (k H locs ls hP hS hl)
/-- the cells as they are held, however they are told -/
theorem q_tell (hV : Pb l D cI cM cc nL own R o Z mc ms V) (E' : List va_E) (h : ∀ H, va_P D vwCl (bw o E) H → va_P D vwCl (bw o E') H) (k : V E' ck cs pc L st) : V E ck cs pc L st := by
  obtain ⟨p, e, s, m, args, below, meth, c, hx, hb, hml, hown, hr, hlk, hin, hsz, hK, rfl⟩ := hV
  intro H locs ls hP hS hl
  exact k H locs ls (h H hP) hS hl
end BROWS2
theorem q_vret {l : Launch} {D : va_G} {cI cM : ClassId} {cc : ByteArray} {nL : Nat} {own : String} {R : Room} {o mc ms pc : Nat} {E E1 : List va_E} {L : List (Option Value)} {V : List va_E → Nat → Nat → Nat → List (Option Value) → List Value → Prop} (hV : Pb l D cI cM cc nL own R o (Qb D o E1) mc ms V) (hd : decode cc pc = .ok (.return_, 1)) (hE : E = E1) : V E mc ms pc L [] := by
  obtain ⟨p, e, s, m, args, below, meth, c, hx, hb, hml, hown, hr, hlk, hin, hsz, hK, rfl⟩ := hV
  intro H locs ls hP hS hl
  subst hE
  exact W.vret hx hb hr (fun t ht hW => ⟨rfl, by rw [ht]; exact hP, hS.F ht⟩) hS.2.2 hd
