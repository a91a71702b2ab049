/-! ===== the words of the functional programs ===== -/
abbrev Opt : Type := Option (Int32 × FMem)
def fset (FM : FMem) (i k : Nat) (v : Int32) : FMem := rset FM i (upd (FM i) k v)
def fcpy (FM : FMem) (i j n : Nat) : FMem := rset FM j (va_cpy (FM i) (FM j) 0 0 n)
def grd (c : Bool) (k : Opt) : Opt := if c = true then k else none
def bnd (o : Opt) (k : Int32 → FMem → Opt) : Opt := match o with
  | none => none
  | some q => k q.1 q.2
def bindv (x : Int32) (k : Int32 → Opt) : Opt := k x
def bindl (x : Int64) (k : Int64 → Opt) : Opt := k x
def bindm (m : FMem) (k : FMem → Opt) : Opt := k m
def inb (x : Int32) (n : Nat) : Bool := decide (0 ≤ x.toInt) && decide (x.toInt < n)
def nz (x : Int32) : Bool := decide (¬ x = 0)
def isB (x : Int32) : Bool := decide (x = 0) || decide (x = 1)
def jmax (x y : Int32) : Int32 := if x < y then y else x
def jmin (x y : Int32) : Int32 := if y < x then y else x
def FU : Nat := 100000
theorem grd_some {c : Bool} {k : Opt} {r : Int32 × FMem} (h : grd c k = some r) : c = true ∧ k = some r := by
  unfold grd at h
  split at h
  · exact ⟨by assumption, h⟩
  · cases h
theorem bnd_some {o : Opt} {k : Int32 → FMem → Opt} {r : Int32 × FMem} (h : bnd o k = some r) : ∃ (a : Int32) (M : FMem), o = some (a, M) ∧ k a M = some r := by
  cases o with
  | none => cases h
  | some q => exact ⟨q.1, q.2, rfl, h⟩
theorem inb_in {x : Int32} {n : Nat} (h : inb x n = true) : vp_in x n := by
  simp only [inb, Bool.and_eq_true, decide_eq_true_eq] at h
  exact vp_in_iff.mpr h
theorem nz_ne {x : Int32} (h : nz x = true) : ¬ x = 0 := by simpa [nz] using h
theorem isB_or {x : Int32} (h : isB x = true) : x = 0 ∨ x = 1 := by simpa [isB] using h
theorem ret_r {x r : Int32} {M F : FMem} (h : some (x, M) = some (r, F)) : some (Value.int r) = some (.int x) := by cases h; rfl
theorem ret_m {x r : Int32} {M F : FMem} (h : some (x, M) = some (r, F)) : F = M := by cases h; rfl
theorem ret_e {x r : Int32} {M F : FMem} (h : some (x, M) = some (r, F)) : r = x := by cases h; rfl
theorem cat_nil : ∀ v ∈ ([] : List Value), v.category = 1 := fun _ h => by cases h
theorem cat_cons {a : Value} {As : List Value} (h : a.category = 1) (h2 : ∀ v ∈ As, v.category = 1) : ∀ v ∈ a :: As, v.category = 1 := List.forall_mem_cons.mpr ⟨h, h2⟩
def nrv (b : Nat) (e : Int32) : Value := if e = 0 then .null else .ref (b + e.toNatClampNeg)
theorem nrv_0 {b : Nat} {e : Int32} (h : e = 0) : nrv b e = .null := if_pos h
theorem nrv_n {b : Nat} {e : Int32} (h : ¬ e = 0) : nrv b e = .ref (b + e.toNatClampNeg) := if_neg h
theorem nrv_id {b k : Nat} (h0 : 0 < k) (h : k < 2 ^ 31) : nrv b (Int32.ofNat k) = .ref (b + k) := by
  have h1 : ¬ Int32.ofNat k = 0 := nI_ne0 h0 h
  have h2 : (Int32.ofNat k).toNatClampNeg = k := nI_clamp h
  rw [nrv_n h1, h2]
def maskL : List Bool → List (Option Value) → List (Option Value)
  | c :: cs, x :: xs => (match c with | true => x | false => none) :: maskL cs xs
  | _, xs => xs
theorem maskL_len : ∀ (cs : List Bool) (xs : List (Option Value)), (maskL cs xs).length = xs.length
  | [], _ => rfl
  | _ :: _, [] => rfl
  | _ :: cs, _ :: xs => by simp [maskL, maskL_len cs xs]
theorem maskL_at : ∀ (cs : List Bool) (xs : List (Option Value)) (i : Nat) (v : Value), (maskL cs xs)[i]? = some (some v) → xs[i]? = some (some v)
  | [], _, _, _, h => h
  | _ :: _, [], _, _, h => h
  | c :: cs, x :: xs, 0, v, h => by
    cases c with
    | true => exact h
    | false => cases h
  | c :: cs, x :: xs, i + 1, v, h => maskL_at cs xs i v h
/-- an object of the world, an int array of it -/
def isOb (w : Wd) (i ci : Nat) (fs : (Nat → Int32) → List Value) : Prop := i < wN w ∧ ∀ r, wM w i r = .inr (ci, fs r)
def isAr (w : Wd) (cA : ClassId) (i n : Nat) : Prop := i < wN w ∧ (wT w)[0]? = some (cA, .int) ∧ ∀ r, wM w i r = .inl (cA, n, .inl r)
section DROWS
variable {l : Launch} {w : Wd} {cc : ByteArray} {nL : Nat} {own : String} {R : Room} {ret : Option FieldType} {rv : Option Value} {FR : FMem} {V : FMem → Nat → List (Option Value) → List Value → Prop} {FM : FMem} {pc : Nat} {L : List (Option Value)} {st : List Value}
variable {index i ci n fr lo maxL kf : Nat} {y : MethodName} {bytes : ByteArray} {rt : Option FieldType} {As : List Value} {F1 : FMem} {fs : (Nat → Int32) → List Value} {cA : ClassId}
theorem r_bv {e : Int32} {K : Int32 → Opt} {r : Int32 × FMem} (h : bindv e K = some r) (k : ∀ v, K v = some r → V FM pc L (.int v :: st)) : V FM pc L (.int e :: st) := k e h
theorem r_bl {e : Int64} {K : Int64 → Opt} {r : Int32 × FMem} (h : bindl e K = some r) (k : ∀ v, K v = some r → V FM pc L (.long v :: st)) : V FM pc L (.long e :: st) := k e h
theorem r_bm {m : FMem} {K : FMem → Opt} {r : Int32 × FMem} (h : bindm m K = some r) (k : ∀ M, K M = some r → V M pc L st) : V m pc L st := k m h
theorem r_mask (hV : Pk l w cc nL own R ret rv FR V) (cs : List Bool) (k : V FM pc (maskL cs L) st) : V FM pc L st := by
  obtain ⟨p, e, s, m, args, below, meth, c, hx, hb, hml, hown, hr, hlk, hK, rfl⟩ := hV
  intro H locs ls hP hS hl
  exact k H locs ls hP hS ⟨by rw [maskL_len]; exact hl.1, hl.2.1, hl.2.2.1, fun i v h => hl.2.2.2 i v (maskL_at cs L i v h)⟩
theorem r_aload_nN (hV : Pk l w cc nL own R ret rv FR V) {k0 : Fin 4} (hd : decode cc pc = .ok (.aload_n k0, 1)) (hi : L[(k0 : Nat)]? = some (some .null)) (k : V FM (pc + 1) L (.null :: st)) : V FM pc L st := by
  obtain ⟨p, e, s, m, args, below, meth, c, hx, hb, hml, hown, hr, hlk, hK, rfl⟩ := hV
  intro H locs ls hP hS hl
  exact lv_aload_nN hx hb hd rfl (hl.at hi) (k H locs ls hP hS hl)
theorem r_astore_nN (hV : Pk l w cc nL own R ret rv FR V) {k0 : Fin 4} (hd : decode cc pc = .ok (.astore_n k0, 1)) (hn : (k0 : Nat) < nL) (hc : chkL L k0 = true) (k : V FM (pc + 1) (L.set k0 (some .null)) st) : V FM pc L (.null :: st) := by
  obtain ⟨p, e, s, m, args, below, meth, c, hx, hb, hml, hown, hr, hlk, hK, rfl⟩ := hV
  intro H locs ls hP hS hl
  exact lv_astore_nN hx hb hd rfl hl.has hn rfl (fun ls2 h2 => k H locs ls2 hP hS (LH.st1 hl.1 hc h2))
theorem r_geto (hV : Pk l w cc nL own R ret rv FR V) {fin : Bool} {ty : FieldType} {v : Value} (hf : FL own index ci kf fin ty) (hO : isOb w i ci fs) (hv : (fs (FM i))[kf]? = some v) (hd : decode cc pc = .ok (.getfield index, 3)) (k : V FM (pc + 3) L (v :: st)) : V FM pc L (.ref (wB w + i) :: st) :=
  r_get hV hf hO.1 (hO.2 _) hv hd k
theorem r_puti (hV : Pk l w cc nL own R ret rv FR V) {x : Int32} (hf : FL own index ci kf false .int) (hO : isOb w i ci fs) (hs : ∀ r z, fs (upd r kf z) = (fs r).set kf (.int z)) (hlen : kf < (fs (FM i)).length) (hd : decode cc pc = .ok (.putfield index, 3)) (k : V (fset FM i kf x) (pc + 3) L st) : V FM pc L (.int x :: .ref (wB w + i) :: st) :=
  r_put hV (upd (FM i) kf x) hf hO.1 (hO.2 _) (by rw [hO.2, hs]) rfl rfl hlen hd k
theorem r_ald (hV : Pk l w cc nL own R ret rv FR V) {x : Int32} (hA : isAr w cA i n) (hin : vp_in x n) (kk : Nat) (hk : x.toNatClampNeg = kk) (hd : decode cc pc = .ok (.iaload, 1)) (k : V FM (pc + 1) L (.int (FM i kk) :: st)) : V FM pc L (.int x :: .ref (wB w + i) :: st) := by
  subst hk
  exact r_iald hV hA.1 (hA.2.2 _) hA.2.1 hin hd k
theorem r_ast (hV : Pk l w cc nL own R ret rv FR V) {x v : Int32} (hA : isAr w cA i n) (hin : vp_in x n) (kk : Nat) (hk : x.toNatClampNeg = kk) (hd : decode cc pc = .ok (.iastore, 1)) (k : V (fset FM i kk v) (pc + 1) L st) : V FM pc L (.int v :: .int x :: .ref (wB w + i) :: st) := by
  subst hk
  exact r_iast hV hA.1 hA.2.2 hA.2.1 hin hd k
theorem r_len (hV : Pk l w cc nL own R ret rv FR V) (hA : isAr w cA i n) {v : Int32} (hv : Int32.ofNat n = v) (hd : decode cc pc = .ok (.arraylength, 1)) (k : V FM (pc + 1) L (.int v :: st)) : V FM pc L (.ref (wB w + i) :: st) :=
  r_alen hV 0 hA.1 (hA.2.2 _) hA.2.1 hv hd k
theorem r_cpy (hV : Pk l w cc nL own R ret rv FR V) {j n0 n1 : Nat} {len : Int32} (kk : Nat) (h1 : inT (.methodLink own index arraycopyName)) (h2 : inT (.native arraycopyName)) (h3 : inT (.static arraycopyName)) (h4 : inT (.initialized "java/lang/System")) (hi : isAr w cA i n0) (hj : isAr w cA j n1) (hk : len.toNatClampNeg = kk) (g3 : ¬ len < 0) (g4 : kk ≤ n0) (g5 : kk ≤ n1) (hR : 1 ≤ R.frames ∧ (st.map fun v => v.category).sum + (nativeFrameWords "java/lang/System" "arraycopy" 5 + 11) ≤ R.locals) (hd : decode cc pc = .ok (.invokestatic index, 3)) (k : V (fcpy FM i j kk) (pc + 3) L st) : V FM pc L (.int len :: .int 0 :: .ref (wB w + j) :: .int 0 :: .ref (wB w + i) :: st) := by
  subst hk
  refine r_copy hV h1 h2 h3 h4 hi.1 hj.1 hi.2.2 hj.2.2 hi.2.1 (by decide) (by decide) g3 ?_ ?_ hR hd ?_
  · rw [sb_cl0, Nat.zero_add]; exact g4
  · rw [sb_cl0, Nat.zero_add]; exact g5
  · rw [sb_cl0]; exact k
theorem r_cVi (hV : Pk l w cc nL own R ret rv FR V) {stk : List Value} {v : Value} (hM : Mt l w y bytes maxL rt fr lo (.ref (wB w + i) :: As) FM (some v) F1) (hl0 : MLV own index y bytes maxL rt n) (hO : isOb w i ci fs) (hc : (vwCl[ci]?).map (fun q => q.1) = some y.cls) (hn : As.length = n) (hR : fr + 1 ≤ R.frames ∧ 8 + (maxL + 11) + lo ≤ R.locals) (hst : (st.map fun v => v.category).sum ≤ 8) (hstk : stk = As.reverse ++ .ref (wB w + i) :: st) (hd : decode cc pc = .ok (.invokevirtual index, 3)) (k : V F1 (pc + 3) L (v :: st)) : V FM pc L stk :=
  r_callV hV hM hl0 hO.1 (hO.2 _) hc hn hR hst hstk hd k
theorem r_cVv (hV : Pk l w cc nL own R ret rv FR V) {stk : List Value} (hM : Mt l w y bytes maxL rt fr lo (.ref (wB w + i) :: As) FM none F1) (hl0 : MLV own index y bytes maxL rt n) (hO : isOb w i ci fs) (hc : (vwCl[ci]?).map (fun q => q.1) = some y.cls) (hn : As.length = n) (hR : fr + 1 ≤ R.frames ∧ 8 + (maxL + 11) + lo ≤ R.locals) (hst : (st.map fun v => v.category).sum ≤ 8) (hstk : stk = As.reverse ++ .ref (wB w + i) :: st) (hd : decode cc pc = .ok (.invokevirtual index, 3)) (k : V F1 (pc + 3) L st) : V FM pc L stk :=
  r_callV hV hM hl0 hO.1 (hO.2 _) hc hn hR hst hstk hd k
theorem r_cSi (hV : Pk l w cc nL own R ret rv FR V) {stk : List Value} {v : Value} (hM : Mt l w y bytes maxL rt fr lo As FM (some v) F1) (hl0 : MLS own index y bytes maxL rt n) (hn : As.length = n) (hR : fr + 1 ≤ R.frames ∧ 8 + (maxL + 11) + lo ≤ R.locals) (hst : (st.map fun v => v.category).sum ≤ 8) (hstk : stk = As.reverse ++ st) (hd : decode cc pc = .ok (.invokestatic index, 3)) (k : V F1 (pc + 3) L (v :: st)) : V FM pc L stk :=
  r_callS hV hM hl0 hn hR hst hstk hd k
theorem r_cSv (hV : Pk l w cc nL own R ret rv FR V) {stk : List Value} (hM : Mt l w y bytes maxL rt fr lo As FM none F1) (hl0 : MLS own index y bytes maxL rt n) (hn : As.length = n) (hR : fr + 1 ≤ R.frames ∧ 8 + (maxL + 11) + lo ≤ R.locals) (hst : (st.map fun v => v.category).sum ≤ 8) (hstk : stk = As.reverse ++ st) (hd : decode cc pc = .ok (.invokestatic index, 3)) (k : V F1 (pc + 3) L st) : V FM pc L stk :=
  r_callS hV hM hl0 hn hR hst hstk hd k
end DROWS
/-! ===== the class's memory: 101 cells; the reference's: 14 ===== -/
def cellsC (cI cM : ClassId) (b : Nat) (r : Nat → Int32) : List va_E := [.inr (8, [.ref (b + 1), .ref (b + 3), .ref (b + 12), .ref (b + 21), .ref (b + 27), .ref (b + 77), .ref (b + 91), .ref (b + 94), .ref (b + 98), .ref (b + 100)]),
  .inr (4, [.ref (b + 2), .int (r 1)]),
  .inl (cI, 200, .inl r),
  .inr (0, [.ref (b + 4), .ref (b + 5), .ref (b + 6), .int (r 3), .ref (b + 7), .int (r 5), .ref (b + 11)]),
  .inl (cI, 6, .inl r),
  .inl (cI, 6, .inl r),
  .inl (cI, 6, .inl r),
  .inr (7, [.ref (b + 8), .ref (b + 9), .ref (b + 10), .int (r 3)]),
  .inl (cI, 9, .inl r),
  .inl (cI, 9, .inl r),
  .inl (cI, 9, .inl r),
  .inl (cI, 3, .inl r),
  .inr (0, [.ref (b + 13), .ref (b + 14), .ref (b + 15), .int (r 3), .ref (b + 16), .int (r 5), .ref (b + 20)]),
  .inl (cI, 6, .inl r),
  .inl (cI, 6, .inl r),
  .inl (cI, 6, .inl r),
  .inr (7, [.ref (b + 17), .ref (b + 18), .ref (b + 19), .int (r 3)]),
  .inl (cI, 9, .inl r),
  .inl (cI, 9, .inl r),
  .inl (cI, 9, .inl r),
  .inl (cI, 3, .inl r),
  .inr (1, [.int (r 0), .int (r 1), .int (r 2), .int (r 3), .ref (b + 22), .ref (b + 23)]),
  .inl (cI, 6, .inl r),
  .inr (7, [.ref (b + 24), .ref (b + 25), .ref (b + 26), .int (r 3)]),
  .inl (cI, 9, .inl r),
  .inl (cI, 9, .inl r),
  .inl (cI, 9, .inl r),
  .inr (5, [.ref (b + 28), .int (r 1), .int (r 2)]),
  .inl (cM, 8, .inr (.inr (.inr (.inr (fun k => some (b + (27 + 2 + 6 * k))))))),
  .inr (1, [.int (r 0), .int (r 1), .int (r 2), .int (r 3), .ref (b + 30), .ref (b + 31)]),
  .inl (cI, 6, .inl r),
  .inr (7, [.ref (b + 32), .ref (b + 33), .ref (b + 34), .int (r 3)]),
  .inl (cI, 9, .inl r),
  .inl (cI, 9, .inl r),
  .inl (cI, 9, .inl r),
  .inr (1, [.int (r 0), .int (r 1), .int (r 2), .int (r 3), .ref (b + 36), .ref (b + 37)]),
  .inl (cI, 6, .inl r),
  .inr (7, [.ref (b + 38), .ref (b + 39), .ref (b + 40), .int (r 3)]),
  .inl (cI, 9, .inl r),
  .inl (cI, 9, .inl r),
  .inl (cI, 9, .inl r),
  .inr (1, [.int (r 0), .int (r 1), .int (r 2), .int (r 3), .ref (b + 42), .ref (b + 43)]),
  .inl (cI, 6, .inl r),
  .inr (7, [.ref (b + 44), .ref (b + 45), .ref (b + 46), .int (r 3)]),
  .inl (cI, 9, .inl r),
  .inl (cI, 9, .inl r),
  .inl (cI, 9, .inl r),
  .inr (1, [.int (r 0), .int (r 1), .int (r 2), .int (r 3), .ref (b + 48), .ref (b + 49)]),
  .inl (cI, 6, .inl r),
  .inr (7, [.ref (b + 50), .ref (b + 51), .ref (b + 52), .int (r 3)]),
  .inl (cI, 9, .inl r),
  .inl (cI, 9, .inl r),
  .inl (cI, 9, .inl r),
  .inr (1, [.int (r 0), .int (r 1), .int (r 2), .int (r 3), .ref (b + 54), .ref (b + 55)]),
  .inl (cI, 6, .inl r),
  .inr (7, [.ref (b + 56), .ref (b + 57), .ref (b + 58), .int (r 3)]),
  .inl (cI, 9, .inl r),
  .inl (cI, 9, .inl r),
  .inl (cI, 9, .inl r),
  .inr (1, [.int (r 0), .int (r 1), .int (r 2), .int (r 3), .ref (b + 60), .ref (b + 61)]),
  .inl (cI, 6, .inl r),
  .inr (7, [.ref (b + 62), .ref (b + 63), .ref (b + 64), .int (r 3)]),
  .inl (cI, 9, .inl r),
  .inl (cI, 9, .inl r),
  .inl (cI, 9, .inl r),
  .inr (1, [.int (r 0), .int (r 1), .int (r 2), .int (r 3), .ref (b + 66), .ref (b + 67)]),
  .inl (cI, 6, .inl r),
  .inr (7, [.ref (b + 68), .ref (b + 69), .ref (b + 70), .int (r 3)]),
  .inl (cI, 9, .inl r),
  .inl (cI, 9, .inl r),
  .inl (cI, 9, .inl r),
  .inr (1, [.int (r 0), .int (r 1), .int (r 2), .int (r 3), .ref (b + 72), .ref (b + 73)]),
  .inl (cI, 6, .inl r),
  .inr (7, [.ref (b + 74), .ref (b + 75), .ref (b + 76), .int (r 3)]),
  .inl (cI, 9, .inl r),
  .inl (cI, 9, .inl r),
  .inl (cI, 9, .inl r),
  .inr (5, [.ref (b + 78), .int (r 1), .int (r 2)]),
  .inl (cM, 2, .inr (.inr (.inr (.inr (fun k => some (b + (77 + 2 + 6 * k))))))),
  .inr (1, [.int (r 0), .int (r 1), .int (r 2), .int (r 3), .ref (b + 80), .ref (b + 81)]),
  .inl (cI, 6, .inl r),
  .inr (7, [.ref (b + 82), .ref (b + 83), .ref (b + 84), .int (r 3)]),
  .inl (cI, 9, .inl r),
  .inl (cI, 9, .inl r),
  .inl (cI, 9, .inl r),
  .inr (1, [.int (r 0), .int (r 1), .int (r 2), .int (r 3), .ref (b + 86), .ref (b + 87)]),
  .inl (cI, 6, .inl r),
  .inr (7, [.ref (b + 88), .ref (b + 89), .ref (b + 90), .int (r 3)]),
  .inl (cI, 9, .inl r),
  .inl (cI, 9, .inl r),
  .inl (cI, 9, .inl r),
  .inr (6, [.ref (b + 92), .ref (b + 93), .int (r 2)]),
  .inl (cI, 8, .inl r),
  .inl (cI, 8, .inl r),
  .inr (2, [.ref (b + 12), nrv b (r 1), .int (r 2), .int (r 3), .ref (b + 95), .ref (b + 96), .ref (b + 97)]),
  .inl (cI, 61, .inl r),
  .inl (cI, 61, .inl r),
  .inl (cI, 366, .inl r),
  .inr (3, [.ref (b + 12), .ref (b + 94), .ref (b + 99), .int (r 3), .int (r 4)]),
  .inl (cI, 6, .inl r),
  .inl (cI, 6, .inl r)]
def cellsM (cI : ClassId) (b : Nat) (r : Nat → Int32) : List va_E := [.inr (9, [.int (r 0), .ref (b + 1), .int (r 2), .ref (b + 2), .ref (b + 3), .int (r 5), .ref (b + 4), .int (r 7), .ref (b + 5), .int (r 9), .ref (b + 6), .ref (b + 7), .int (r 12), .int (r 13), .ref (b + 8), .int (r 15), .ref (b + 9), .int (r 17), .ref (b + 10), .ref (b + 11), .int (r 20), .int (r 21), .ref (b + 12), .ref (b + 13)]),
  .inl (cI, 18, .inl r),
  .inl (cI, 46, .inl r),
  .inl (cI, 46, .inl r),
  .inl (cI, 368, .inl r),
  .inl (cI, 92, .inl r),
  .inl (cI, 16, .inl r),
  .inl (cI, 200, .inl r),
  .inl (cI, 3, .inl r),
  .inl (cI, 18, .inl r),
  .inl (cI, 46, .inl r),
  .inl (cI, 46, .inl r),
  .inl (cI, 6, .inl r),
  .inl (cI, 6, .inl r)]
def wdC (D : va_G) (cI cM : ClassId) (b : Nat) : Wd := (D, [(cI, .int), (cM, .object "BoredKings$Moment")], (fun i r => ((cellsC cI cM b r)[i]?).getD (.inr (0, []))), 101, b)
def wdM (D : va_G) (cI : ClassId) (b : Nat) : Wd := (D, [(cI, .int)], (fun i r => ((cellsM cI b r)[i]?).getD (.inr (0, []))), 14, b)
section SHAPES
variable {D : va_G} {cI cM : ClassId} {b : Nat}
def isTh (D : va_G) (cI cM : ClassId) (b t : Nat) : Prop := 0 < t ∧ t < 101 ∧ isOb (wdC D cI cM b) t 7 (fun r => [.ref (b + (t + 1)), .ref (b + (t + 2)), .ref (b + (t + 3)), .int (r 3)]) ∧ isAr (wdC D cI cM b) cI (t + 1) 9 ∧ isAr (wdC D cI cM b) cI (t + 2) 9 ∧ isAr (wdC D cI cM b) cI (t + 3) 9
def isMo (D : va_G) (cI cM : ClassId) (b t : Nat) : Prop := 0 < t ∧ t < 101 ∧ isOb (wdC D cI cM b) t 1 (fun r => [.int (r 0), .int (r 1), .int (r 2), .int (r 3), .ref (b + (t + 1)), .ref (b + (t + 2))]) ∧ isAr (wdC D cI cM b) cI (t + 1) 6 ∧ isTh D cI cM b (t + 2)
def isCo (D : va_G) (cI cM : ClassId) (b t : Nat) : Prop := isOb (wdC D cI cM b) t 0 (fun r => [.ref (b + (t + 1)), .ref (b + (t + 2)), .ref (b + (t + 3)), .int (r 3), .ref (b + (t + 4)), .int (r 5), .ref (b + (t + 8))]) ∧ isAr (wdC D cI cM b) cI (t + 1) 6 ∧ isAr (wdC D cI cM b) cI (t + 2) 6 ∧ isAr (wdC D cI cM b) cI (t + 3) 6 ∧ isTh D cI cM b (t + 4) ∧ isAr (wdC D cI cM b) cI (t + 8) 3
def isRa (D : va_G) (cI cM : ClassId) (b t n : Nat) : Prop := t + 1 < 101 ∧ ∀ r, wM (wdC D cI cM b) (t + 1) r = .inl (cM, n, .inr (.inr (.inr (.inr (fun k => some (b + (t + 2 + 6 * k)))))))
def isSh (D : va_G) (cI cM : ClassId) (b t n : Nat) : Prop := isOb (wdC D cI cM b) t 5 (fun r => [.ref (b + (t + 1)), .int (r 1), .int (r 2)]) ∧ isRa D cI cM b t n ∧ t + 2 + 6 * n < 101
theorem ob_0 : isOb (wdC D cI cM b) 0 8 (fun r => [.ref (b + 1), .ref (b + 3), .ref (b + 12), .ref (b + 21), .ref (b + 27), .ref (b + 77), .ref (b + 91), .ref (b + 94), .ref (b + 98), .ref (b + 100)]) := ⟨Nat.le_of_ble_eq_true rfl, fun _ => rfl⟩
theorem ob_1 : isOb (wdC D cI cM b) 1 4 (fun r => [.ref (b + 2), .int (r 1)]) := ⟨Nat.le_of_ble_eq_true rfl, fun _ => rfl⟩
theorem ar_2 : isAr (wdC D cI cM b) cI 2 200 := ⟨Nat.le_of_ble_eq_true rfl, rfl, fun _ => rfl⟩
theorem ob_3 : isOb (wdC D cI cM b) 3 0 (fun r => [.ref (b + 4), .ref (b + 5), .ref (b + 6), .int (r 3), .ref (b + 7), .int (r 5), .ref (b + 11)]) := ⟨Nat.le_of_ble_eq_true rfl, fun _ => rfl⟩
theorem ar_4 : isAr (wdC D cI cM b) cI 4 6 := ⟨Nat.le_of_ble_eq_true rfl, rfl, fun _ => rfl⟩
theorem ar_5 : isAr (wdC D cI cM b) cI 5 6 := ⟨Nat.le_of_ble_eq_true rfl, rfl, fun _ => rfl⟩
theorem ar_6 : isAr (wdC D cI cM b) cI 6 6 := ⟨Nat.le_of_ble_eq_true rfl, rfl, fun _ => rfl⟩
theorem ob_7 : isOb (wdC D cI cM b) 7 7 (fun r => [.ref (b + 8), .ref (b + 9), .ref (b + 10), .int (r 3)]) := ⟨Nat.le_of_ble_eq_true rfl, fun _ => rfl⟩
theorem ar_8 : isAr (wdC D cI cM b) cI 8 9 := ⟨Nat.le_of_ble_eq_true rfl, rfl, fun _ => rfl⟩
theorem ar_9 : isAr (wdC D cI cM b) cI 9 9 := ⟨Nat.le_of_ble_eq_true rfl, rfl, fun _ => rfl⟩
theorem ar_10 : isAr (wdC D cI cM b) cI 10 9 := ⟨Nat.le_of_ble_eq_true rfl, rfl, fun _ => rfl⟩
theorem ar_11 : isAr (wdC D cI cM b) cI 11 3 := ⟨Nat.le_of_ble_eq_true rfl, rfl, fun _ => rfl⟩
theorem ob_12 : isOb (wdC D cI cM b) 12 0 (fun r => [.ref (b + 13), .ref (b + 14), .ref (b + 15), .int (r 3), .ref (b + 16), .int (r 5), .ref (b + 20)]) := ⟨Nat.le_of_ble_eq_true rfl, fun _ => rfl⟩
theorem ar_13 : isAr (wdC D cI cM b) cI 13 6 := ⟨Nat.le_of_ble_eq_true rfl, rfl, fun _ => rfl⟩
theorem ar_14 : isAr (wdC D cI cM b) cI 14 6 := ⟨Nat.le_of_ble_eq_true rfl, rfl, fun _ => rfl⟩
theorem ar_15 : isAr (wdC D cI cM b) cI 15 6 := ⟨Nat.le_of_ble_eq_true rfl, rfl, fun _ => rfl⟩
theorem ob_16 : isOb (wdC D cI cM b) 16 7 (fun r => [.ref (b + 17), .ref (b + 18), .ref (b + 19), .int (r 3)]) := ⟨Nat.le_of_ble_eq_true rfl, fun _ => rfl⟩
theorem ar_17 : isAr (wdC D cI cM b) cI 17 9 := ⟨Nat.le_of_ble_eq_true rfl, rfl, fun _ => rfl⟩
theorem ar_18 : isAr (wdC D cI cM b) cI 18 9 := ⟨Nat.le_of_ble_eq_true rfl, rfl, fun _ => rfl⟩
theorem ar_19 : isAr (wdC D cI cM b) cI 19 9 := ⟨Nat.le_of_ble_eq_true rfl, rfl, fun _ => rfl⟩
theorem ar_20 : isAr (wdC D cI cM b) cI 20 3 := ⟨Nat.le_of_ble_eq_true rfl, rfl, fun _ => rfl⟩
theorem ob_21 : isOb (wdC D cI cM b) 21 1 (fun r => [.int (r 0), .int (r 1), .int (r 2), .int (r 3), .ref (b + 22), .ref (b + 23)]) := ⟨Nat.le_of_ble_eq_true rfl, fun _ => rfl⟩
theorem ar_22 : isAr (wdC D cI cM b) cI 22 6 := ⟨Nat.le_of_ble_eq_true rfl, rfl, fun _ => rfl⟩
theorem ob_23 : isOb (wdC D cI cM b) 23 7 (fun r => [.ref (b + 24), .ref (b + 25), .ref (b + 26), .int (r 3)]) := ⟨Nat.le_of_ble_eq_true rfl, fun _ => rfl⟩
theorem ar_24 : isAr (wdC D cI cM b) cI 24 9 := ⟨Nat.le_of_ble_eq_true rfl, rfl, fun _ => rfl⟩
theorem ar_25 : isAr (wdC D cI cM b) cI 25 9 := ⟨Nat.le_of_ble_eq_true rfl, rfl, fun _ => rfl⟩
theorem ar_26 : isAr (wdC D cI cM b) cI 26 9 := ⟨Nat.le_of_ble_eq_true rfl, rfl, fun _ => rfl⟩
theorem ob_27 : isOb (wdC D cI cM b) 27 5 (fun r => [.ref (b + 28), .int (r 1), .int (r 2)]) := ⟨Nat.le_of_ble_eq_true rfl, fun _ => rfl⟩
theorem ob_29 : isOb (wdC D cI cM b) 29 1 (fun r => [.int (r 0), .int (r 1), .int (r 2), .int (r 3), .ref (b + 30), .ref (b + 31)]) := ⟨Nat.le_of_ble_eq_true rfl, fun _ => rfl⟩
theorem ar_30 : isAr (wdC D cI cM b) cI 30 6 := ⟨Nat.le_of_ble_eq_true rfl, rfl, fun _ => rfl⟩
theorem ob_31 : isOb (wdC D cI cM b) 31 7 (fun r => [.ref (b + 32), .ref (b + 33), .ref (b + 34), .int (r 3)]) := ⟨Nat.le_of_ble_eq_true rfl, fun _ => rfl⟩
theorem ar_32 : isAr (wdC D cI cM b) cI 32 9 := ⟨Nat.le_of_ble_eq_true rfl, rfl, fun _ => rfl⟩
theorem ar_33 : isAr (wdC D cI cM b) cI 33 9 := ⟨Nat.le_of_ble_eq_true rfl, rfl, fun _ => rfl⟩
theorem ar_34 : isAr (wdC D cI cM b) cI 34 9 := ⟨Nat.le_of_ble_eq_true rfl, rfl, fun _ => rfl⟩
theorem ob_35 : isOb (wdC D cI cM b) 35 1 (fun r => [.int (r 0), .int (r 1), .int (r 2), .int (r 3), .ref (b + 36), .ref (b + 37)]) := ⟨Nat.le_of_ble_eq_true rfl, fun _ => rfl⟩
theorem ar_36 : isAr (wdC D cI cM b) cI 36 6 := ⟨Nat.le_of_ble_eq_true rfl, rfl, fun _ => rfl⟩
theorem ob_37 : isOb (wdC D cI cM b) 37 7 (fun r => [.ref (b + 38), .ref (b + 39), .ref (b + 40), .int (r 3)]) := ⟨Nat.le_of_ble_eq_true rfl, fun _ => rfl⟩
theorem ar_38 : isAr (wdC D cI cM b) cI 38 9 := ⟨Nat.le_of_ble_eq_true rfl, rfl, fun _ => rfl⟩
theorem ar_39 : isAr (wdC D cI cM b) cI 39 9 := ⟨Nat.le_of_ble_eq_true rfl, rfl, fun _ => rfl⟩
theorem ar_40 : isAr (wdC D cI cM b) cI 40 9 := ⟨Nat.le_of_ble_eq_true rfl, rfl, fun _ => rfl⟩
theorem ob_41 : isOb (wdC D cI cM b) 41 1 (fun r => [.int (r 0), .int (r 1), .int (r 2), .int (r 3), .ref (b + 42), .ref (b + 43)]) := ⟨Nat.le_of_ble_eq_true rfl, fun _ => rfl⟩
theorem ar_42 : isAr (wdC D cI cM b) cI 42 6 := ⟨Nat.le_of_ble_eq_true rfl, rfl, fun _ => rfl⟩
theorem ob_43 : isOb (wdC D cI cM b) 43 7 (fun r => [.ref (b + 44), .ref (b + 45), .ref (b + 46), .int (r 3)]) := ⟨Nat.le_of_ble_eq_true rfl, fun _ => rfl⟩
theorem ar_44 : isAr (wdC D cI cM b) cI 44 9 := ⟨Nat.le_of_ble_eq_true rfl, rfl, fun _ => rfl⟩
theorem ar_45 : isAr (wdC D cI cM b) cI 45 9 := ⟨Nat.le_of_ble_eq_true rfl, rfl, fun _ => rfl⟩
theorem ar_46 : isAr (wdC D cI cM b) cI 46 9 := ⟨Nat.le_of_ble_eq_true rfl, rfl, fun _ => rfl⟩
theorem ob_47 : isOb (wdC D cI cM b) 47 1 (fun r => [.int (r 0), .int (r 1), .int (r 2), .int (r 3), .ref (b + 48), .ref (b + 49)]) := ⟨Nat.le_of_ble_eq_true rfl, fun _ => rfl⟩
theorem ar_48 : isAr (wdC D cI cM b) cI 48 6 := ⟨Nat.le_of_ble_eq_true rfl, rfl, fun _ => rfl⟩
theorem ob_49 : isOb (wdC D cI cM b) 49 7 (fun r => [.ref (b + 50), .ref (b + 51), .ref (b + 52), .int (r 3)]) := ⟨Nat.le_of_ble_eq_true rfl, fun _ => rfl⟩
theorem ar_50 : isAr (wdC D cI cM b) cI 50 9 := ⟨Nat.le_of_ble_eq_true rfl, rfl, fun _ => rfl⟩
theorem ar_51 : isAr (wdC D cI cM b) cI 51 9 := ⟨Nat.le_of_ble_eq_true rfl, rfl, fun _ => rfl⟩
theorem ar_52 : isAr (wdC D cI cM b) cI 52 9 := ⟨Nat.le_of_ble_eq_true rfl, rfl, fun _ => rfl⟩
theorem ob_53 : isOb (wdC D cI cM b) 53 1 (fun r => [.int (r 0), .int (r 1), .int (r 2), .int (r 3), .ref (b + 54), .ref (b + 55)]) := ⟨Nat.le_of_ble_eq_true rfl, fun _ => rfl⟩
theorem ar_54 : isAr (wdC D cI cM b) cI 54 6 := ⟨Nat.le_of_ble_eq_true rfl, rfl, fun _ => rfl⟩
theorem ob_55 : isOb (wdC D cI cM b) 55 7 (fun r => [.ref (b + 56), .ref (b + 57), .ref (b + 58), .int (r 3)]) := ⟨Nat.le_of_ble_eq_true rfl, fun _ => rfl⟩
theorem ar_56 : isAr (wdC D cI cM b) cI 56 9 := ⟨Nat.le_of_ble_eq_true rfl, rfl, fun _ => rfl⟩
theorem ar_57 : isAr (wdC D cI cM b) cI 57 9 := ⟨Nat.le_of_ble_eq_true rfl, rfl, fun _ => rfl⟩
theorem ar_58 : isAr (wdC D cI cM b) cI 58 9 := ⟨Nat.le_of_ble_eq_true rfl, rfl, fun _ => rfl⟩
theorem ob_59 : isOb (wdC D cI cM b) 59 1 (fun r => [.int (r 0), .int (r 1), .int (r 2), .int (r 3), .ref (b + 60), .ref (b + 61)]) := ⟨Nat.le_of_ble_eq_true rfl, fun _ => rfl⟩
theorem ar_60 : isAr (wdC D cI cM b) cI 60 6 := ⟨Nat.le_of_ble_eq_true rfl, rfl, fun _ => rfl⟩
theorem ob_61 : isOb (wdC D cI cM b) 61 7 (fun r => [.ref (b + 62), .ref (b + 63), .ref (b + 64), .int (r 3)]) := ⟨Nat.le_of_ble_eq_true rfl, fun _ => rfl⟩
theorem ar_62 : isAr (wdC D cI cM b) cI 62 9 := ⟨Nat.le_of_ble_eq_true rfl, rfl, fun _ => rfl⟩
theorem ar_63 : isAr (wdC D cI cM b) cI 63 9 := ⟨Nat.le_of_ble_eq_true rfl, rfl, fun _ => rfl⟩
theorem ar_64 : isAr (wdC D cI cM b) cI 64 9 := ⟨Nat.le_of_ble_eq_true rfl, rfl, fun _ => rfl⟩
theorem ob_65 : isOb (wdC D cI cM b) 65 1 (fun r => [.int (r 0), .int (r 1), .int (r 2), .int (r 3), .ref (b + 66), .ref (b + 67)]) := ⟨Nat.le_of_ble_eq_true rfl, fun _ => rfl⟩
theorem ar_66 : isAr (wdC D cI cM b) cI 66 6 := ⟨Nat.le_of_ble_eq_true rfl, rfl, fun _ => rfl⟩
theorem ob_67 : isOb (wdC D cI cM b) 67 7 (fun r => [.ref (b + 68), .ref (b + 69), .ref (b + 70), .int (r 3)]) := ⟨Nat.le_of_ble_eq_true rfl, fun _ => rfl⟩
theorem ar_68 : isAr (wdC D cI cM b) cI 68 9 := ⟨Nat.le_of_ble_eq_true rfl, rfl, fun _ => rfl⟩
theorem ar_69 : isAr (wdC D cI cM b) cI 69 9 := ⟨Nat.le_of_ble_eq_true rfl, rfl, fun _ => rfl⟩
theorem ar_70 : isAr (wdC D cI cM b) cI 70 9 := ⟨Nat.le_of_ble_eq_true rfl, rfl, fun _ => rfl⟩
theorem ob_71 : isOb (wdC D cI cM b) 71 1 (fun r => [.int (r 0), .int (r 1), .int (r 2), .int (r 3), .ref (b + 72), .ref (b + 73)]) := ⟨Nat.le_of_ble_eq_true rfl, fun _ => rfl⟩
theorem ar_72 : isAr (wdC D cI cM b) cI 72 6 := ⟨Nat.le_of_ble_eq_true rfl, rfl, fun _ => rfl⟩
theorem ob_73 : isOb (wdC D cI cM b) 73 7 (fun r => [.ref (b + 74), .ref (b + 75), .ref (b + 76), .int (r 3)]) := ⟨Nat.le_of_ble_eq_true rfl, fun _ => rfl⟩
theorem ar_74 : isAr (wdC D cI cM b) cI 74 9 := ⟨Nat.le_of_ble_eq_true rfl, rfl, fun _ => rfl⟩
theorem ar_75 : isAr (wdC D cI cM b) cI 75 9 := ⟨Nat.le_of_ble_eq_true rfl, rfl, fun _ => rfl⟩
theorem ar_76 : isAr (wdC D cI cM b) cI 76 9 := ⟨Nat.le_of_ble_eq_true rfl, rfl, fun _ => rfl⟩
theorem ob_77 : isOb (wdC D cI cM b) 77 5 (fun r => [.ref (b + 78), .int (r 1), .int (r 2)]) := ⟨Nat.le_of_ble_eq_true rfl, fun _ => rfl⟩
theorem ob_79 : isOb (wdC D cI cM b) 79 1 (fun r => [.int (r 0), .int (r 1), .int (r 2), .int (r 3), .ref (b + 80), .ref (b + 81)]) := ⟨Nat.le_of_ble_eq_true rfl, fun _ => rfl⟩
theorem ar_80 : isAr (wdC D cI cM b) cI 80 6 := ⟨Nat.le_of_ble_eq_true rfl, rfl, fun _ => rfl⟩
theorem ob_81 : isOb (wdC D cI cM b) 81 7 (fun r => [.ref (b + 82), .ref (b + 83), .ref (b + 84), .int (r 3)]) := ⟨Nat.le_of_ble_eq_true rfl, fun _ => rfl⟩
theorem ar_82 : isAr (wdC D cI cM b) cI 82 9 := ⟨Nat.le_of_ble_eq_true rfl, rfl, fun _ => rfl⟩
theorem ar_83 : isAr (wdC D cI cM b) cI 83 9 := ⟨Nat.le_of_ble_eq_true rfl, rfl, fun _ => rfl⟩
theorem ar_84 : isAr (wdC D cI cM b) cI 84 9 := ⟨Nat.le_of_ble_eq_true rfl, rfl, fun _ => rfl⟩
theorem ob_85 : isOb (wdC D cI cM b) 85 1 (fun r => [.int (r 0), .int (r 1), .int (r 2), .int (r 3), .ref (b + 86), .ref (b + 87)]) := ⟨Nat.le_of_ble_eq_true rfl, fun _ => rfl⟩
theorem ar_86 : isAr (wdC D cI cM b) cI 86 6 := ⟨Nat.le_of_ble_eq_true rfl, rfl, fun _ => rfl⟩
theorem ob_87 : isOb (wdC D cI cM b) 87 7 (fun r => [.ref (b + 88), .ref (b + 89), .ref (b + 90), .int (r 3)]) := ⟨Nat.le_of_ble_eq_true rfl, fun _ => rfl⟩
theorem ar_88 : isAr (wdC D cI cM b) cI 88 9 := ⟨Nat.le_of_ble_eq_true rfl, rfl, fun _ => rfl⟩
theorem ar_89 : isAr (wdC D cI cM b) cI 89 9 := ⟨Nat.le_of_ble_eq_true rfl, rfl, fun _ => rfl⟩
theorem ar_90 : isAr (wdC D cI cM b) cI 90 9 := ⟨Nat.le_of_ble_eq_true rfl, rfl, fun _ => rfl⟩
theorem ob_91 : isOb (wdC D cI cM b) 91 6 (fun r => [.ref (b + 92), .ref (b + 93), .int (r 2)]) := ⟨Nat.le_of_ble_eq_true rfl, fun _ => rfl⟩
theorem ar_92 : isAr (wdC D cI cM b) cI 92 8 := ⟨Nat.le_of_ble_eq_true rfl, rfl, fun _ => rfl⟩
theorem ar_93 : isAr (wdC D cI cM b) cI 93 8 := ⟨Nat.le_of_ble_eq_true rfl, rfl, fun _ => rfl⟩
theorem ob_94 : isOb (wdC D cI cM b) 94 2 (fun r => [.ref (b + 12), nrv b (r 1), .int (r 2), .int (r 3), .ref (b + 95), .ref (b + 96), .ref (b + 97)]) := ⟨Nat.le_of_ble_eq_true rfl, fun _ => rfl⟩
theorem ar_95 : isAr (wdC D cI cM b) cI 95 61 := ⟨Nat.le_of_ble_eq_true rfl, rfl, fun _ => rfl⟩
theorem ar_96 : isAr (wdC D cI cM b) cI 96 61 := ⟨Nat.le_of_ble_eq_true rfl, rfl, fun _ => rfl⟩
theorem ar_97 : isAr (wdC D cI cM b) cI 97 366 := ⟨Nat.le_of_ble_eq_true rfl, rfl, fun _ => rfl⟩
theorem ob_98 : isOb (wdC D cI cM b) 98 3 (fun r => [.ref (b + 12), .ref (b + 94), .ref (b + 99), .int (r 3), .int (r 4)]) := ⟨Nat.le_of_ble_eq_true rfl, fun _ => rfl⟩
theorem ar_99 : isAr (wdC D cI cM b) cI 99 6 := ⟨Nat.le_of_ble_eq_true rfl, rfl, fun _ => rfl⟩
theorem ar_100 : isAr (wdC D cI cM b) cI 100 6 := ⟨Nat.le_of_ble_eq_true rfl, rfl, fun _ => rfl⟩
theorem obM_0 : isOb (wdM D cI b) 0 9 (fun r => [.int (r 0), .ref (b + 1), .int (r 2), .ref (b + 2), .ref (b + 3), .int (r 5), .ref (b + 4), .int (r 7), .ref (b + 5), .int (r 9), .ref (b + 6), .ref (b + 7), .int (r 12), .int (r 13), .ref (b + 8), .int (r 15), .ref (b + 9), .int (r 17), .ref (b + 10), .ref (b + 11), .int (r 20), .int (r 21), .ref (b + 12), .ref (b + 13)]) := ⟨Nat.le_of_ble_eq_true rfl, fun _ => rfl⟩
theorem arM_1 : isAr (wdM D cI b) cI 1 18 := ⟨Nat.le_of_ble_eq_true rfl, rfl, fun _ => rfl⟩
theorem arM_2 : isAr (wdM D cI b) cI 2 46 := ⟨Nat.le_of_ble_eq_true rfl, rfl, fun _ => rfl⟩
theorem arM_3 : isAr (wdM D cI b) cI 3 46 := ⟨Nat.le_of_ble_eq_true rfl, rfl, fun _ => rfl⟩
theorem arM_4 : isAr (wdM D cI b) cI 4 368 := ⟨Nat.le_of_ble_eq_true rfl, rfl, fun _ => rfl⟩
theorem arM_5 : isAr (wdM D cI b) cI 5 92 := ⟨Nat.le_of_ble_eq_true rfl, rfl, fun _ => rfl⟩
theorem arM_6 : isAr (wdM D cI b) cI 6 16 := ⟨Nat.le_of_ble_eq_true rfl, rfl, fun _ => rfl⟩
theorem arM_7 : isAr (wdM D cI b) cI 7 200 := ⟨Nat.le_of_ble_eq_true rfl, rfl, fun _ => rfl⟩
theorem arM_8 : isAr (wdM D cI b) cI 8 3 := ⟨Nat.le_of_ble_eq_true rfl, rfl, fun _ => rfl⟩
theorem arM_9 : isAr (wdM D cI b) cI 9 18 := ⟨Nat.le_of_ble_eq_true rfl, rfl, fun _ => rfl⟩
theorem arM_10 : isAr (wdM D cI b) cI 10 46 := ⟨Nat.le_of_ble_eq_true rfl, rfl, fun _ => rfl⟩
theorem arM_11 : isAr (wdM D cI b) cI 11 46 := ⟨Nat.le_of_ble_eq_true rfl, rfl, fun _ => rfl⟩
theorem arM_12 : isAr (wdM D cI b) cI 12 6 := ⟨Nat.le_of_ble_eq_true rfl, rfl, fun _ => rfl⟩
theorem arM_13 : isAr (wdM D cI b) cI 13 6 := ⟨Nat.le_of_ble_eq_true rfl, rfl, fun _ => rfl⟩
theorem isTh_7 : isTh D cI cM b 7 := ⟨Nat.le_of_ble_eq_true rfl, Nat.le_of_ble_eq_true rfl, ob_7, ar_8, ar_9, ar_10⟩
theorem isTh_16 : isTh D cI cM b 16 := ⟨Nat.le_of_ble_eq_true rfl, Nat.le_of_ble_eq_true rfl, ob_16, ar_17, ar_18, ar_19⟩
theorem isTh_23 : isTh D cI cM b 23 := ⟨Nat.le_of_ble_eq_true rfl, Nat.le_of_ble_eq_true rfl, ob_23, ar_24, ar_25, ar_26⟩
theorem isTh_31 : isTh D cI cM b 31 := ⟨Nat.le_of_ble_eq_true rfl, Nat.le_of_ble_eq_true rfl, ob_31, ar_32, ar_33, ar_34⟩
theorem isTh_37 : isTh D cI cM b 37 := ⟨Nat.le_of_ble_eq_true rfl, Nat.le_of_ble_eq_true rfl, ob_37, ar_38, ar_39, ar_40⟩
theorem isTh_43 : isTh D cI cM b 43 := ⟨Nat.le_of_ble_eq_true rfl, Nat.le_of_ble_eq_true rfl, ob_43, ar_44, ar_45, ar_46⟩
theorem isTh_49 : isTh D cI cM b 49 := ⟨Nat.le_of_ble_eq_true rfl, Nat.le_of_ble_eq_true rfl, ob_49, ar_50, ar_51, ar_52⟩
theorem isTh_55 : isTh D cI cM b 55 := ⟨Nat.le_of_ble_eq_true rfl, Nat.le_of_ble_eq_true rfl, ob_55, ar_56, ar_57, ar_58⟩
theorem isTh_61 : isTh D cI cM b 61 := ⟨Nat.le_of_ble_eq_true rfl, Nat.le_of_ble_eq_true rfl, ob_61, ar_62, ar_63, ar_64⟩
theorem isTh_67 : isTh D cI cM b 67 := ⟨Nat.le_of_ble_eq_true rfl, Nat.le_of_ble_eq_true rfl, ob_67, ar_68, ar_69, ar_70⟩
theorem isTh_73 : isTh D cI cM b 73 := ⟨Nat.le_of_ble_eq_true rfl, Nat.le_of_ble_eq_true rfl, ob_73, ar_74, ar_75, ar_76⟩
theorem isTh_81 : isTh D cI cM b 81 := ⟨Nat.le_of_ble_eq_true rfl, Nat.le_of_ble_eq_true rfl, ob_81, ar_82, ar_83, ar_84⟩
theorem isTh_87 : isTh D cI cM b 87 := ⟨Nat.le_of_ble_eq_true rfl, Nat.le_of_ble_eq_true rfl, ob_87, ar_88, ar_89, ar_90⟩
theorem isMo_21 : isMo D cI cM b 21 := ⟨Nat.le_of_ble_eq_true rfl, Nat.le_of_ble_eq_true rfl, ob_21, ar_22, isTh_23⟩
theorem isMo_29 : isMo D cI cM b 29 := ⟨Nat.le_of_ble_eq_true rfl, Nat.le_of_ble_eq_true rfl, ob_29, ar_30, isTh_31⟩
theorem isMo_35 : isMo D cI cM b 35 := ⟨Nat.le_of_ble_eq_true rfl, Nat.le_of_ble_eq_true rfl, ob_35, ar_36, isTh_37⟩
theorem isMo_41 : isMo D cI cM b 41 := ⟨Nat.le_of_ble_eq_true rfl, Nat.le_of_ble_eq_true rfl, ob_41, ar_42, isTh_43⟩
theorem isMo_47 : isMo D cI cM b 47 := ⟨Nat.le_of_ble_eq_true rfl, Nat.le_of_ble_eq_true rfl, ob_47, ar_48, isTh_49⟩
theorem isMo_53 : isMo D cI cM b 53 := ⟨Nat.le_of_ble_eq_true rfl, Nat.le_of_ble_eq_true rfl, ob_53, ar_54, isTh_55⟩
theorem isMo_59 : isMo D cI cM b 59 := ⟨Nat.le_of_ble_eq_true rfl, Nat.le_of_ble_eq_true rfl, ob_59, ar_60, isTh_61⟩
theorem isMo_65 : isMo D cI cM b 65 := ⟨Nat.le_of_ble_eq_true rfl, Nat.le_of_ble_eq_true rfl, ob_65, ar_66, isTh_67⟩
theorem isMo_71 : isMo D cI cM b 71 := ⟨Nat.le_of_ble_eq_true rfl, Nat.le_of_ble_eq_true rfl, ob_71, ar_72, isTh_73⟩
theorem isMo_79 : isMo D cI cM b 79 := ⟨Nat.le_of_ble_eq_true rfl, Nat.le_of_ble_eq_true rfl, ob_79, ar_80, isTh_81⟩
theorem isMo_85 : isMo D cI cM b 85 := ⟨Nat.le_of_ble_eq_true rfl, Nat.le_of_ble_eq_true rfl, ob_85, ar_86, isTh_87⟩
theorem isCo_3 : isCo D cI cM b 3 := ⟨ob_3, ar_4, ar_5, ar_6, isTh_7, ar_11⟩
theorem isCo_12 : isCo D cI cM b 12 := ⟨ob_12, ar_13, ar_14, ar_15, isTh_16, ar_20⟩
theorem isSh_27 : isSh D cI cM b 27 8 := ⟨ob_27, ⟨Nat.le_of_ble_eq_true rfl, fun _ => rfl⟩, Nat.le_of_ble_eq_true rfl⟩
theorem isSh_77 : isSh D cI cM b 77 2 := ⟨ob_77, ⟨Nat.le_of_ble_eq_true rfl, fun _ => rfl⟩, Nat.le_of_ble_eq_true rfl⟩
def mOK (e : Int32) : Bool := [21, 29, 35, 41, 47, 53, 59, 65, 71, 79, 85].contains e.toNatClampNeg
def tOK (e : Int32) : Bool := decide (¬ e = 0) && [16, 23].contains e.toNatClampNeg
theorem mOK_is {e : Int32} (h : mOK e = true) : isMo D cI cM b e.toNatClampNeg := by
  unfold mOK at h
  generalize e.toNatClampNeg = k at h ⊢
  simp only [List.contains_cons, List.contains_nil, Bool.or_eq_true, beq_iff_eq, Bool.false_eq_true, or_false] at h
  rcases h with rfl | rfl | rfl | rfl | rfl | rfl | rfl | rfl | rfl | rfl | rfl
  · exact isMo_21
  · exact isMo_29
  · exact isMo_35
  · exact isMo_41
  · exact isMo_47
  · exact isMo_53
  · exact isMo_59
  · exact isMo_65
  · exact isMo_71
  · exact isMo_79
  · exact isMo_85
theorem tOK_ne {e : Int32} (h : tOK e = true) : ¬ e = 0 := by
  simp only [tOK, Bool.and_eq_true, decide_eq_true_eq] at h
  exact h.1
theorem tOK_is {e : Int32} (h : tOK e = true) : isTh D cI cM b e.toNatClampNeg := by
  simp only [tOK, Bool.and_eq_true] at h
  obtain ⟨-, h⟩ := h
  generalize e.toNatClampNeg = k at h ⊢
  simp only [List.contains_cons, List.contains_nil, Bool.or_eq_true, beq_iff_eq, Bool.false_eq_true, or_false] at h
  rcases h with rfl | rfl
  · exact isTh_16
  · exact isTh_23
end SHAPES
