/-! ===== rows of the law's body ===== -/
def LL (b o o2 i : Nat) : List (Option Value) := [some (.ref b), some (.ref o), some (.ref o2), some (.int (nI i))]
def LwJ (p : Program) (l : Launch) (e : Env) (s : State) (m : MethodId) (below : List Frame) (meth : Method) (c : Code) (D : va_G) (cI cM : ClassId) (b o o2 : Nat) (Q : State → Prop) (C M : FMem) (pc i : Nat) (st : List Value) : Prop :=
  ∀ (H : Heap) (locs : List Loc) (ls : Array Slot), va_P D vwCl (wl (wdC D cI cM o) C) H → va_P D vwCl (wl (wdM D cI o2) M) H → va_S (Gr s.heap.size) s.heap H locs → LH ls 4 (LL b o o2 i) → W p l e room_1 s m #[Value.ref b] below meth c H locs 115 2285 Q (F0 m pc ls st)
def LwP (l : Launch) (D : va_G) (cI cM : ClassId) (b L o o2 : Nat) (xs : Nat → Int32) (V : FMem → FMem → Nat → Nat → List Value → Prop) : Prop :=
  ∃ (p : Program) (e : Env) (s : State) (m : MethodId) (below : List Frame) (meth : Method) (c : Code) (Q : State → Prop), p.tables.exec = Jvm.exec ∧ c.code = code ∧ c.maxLocals = 4 ∧ s.vm.findClass RL = some m.cls ∧ KB D cI cM s ∧ va_X b L xs s s.heap ∧ b < s.heap.size ∧ s.heap.size ≤ o ∧ o + 101 ≤ o2 ∧ L ≤ 384 ∧ V = LwJ p l e s m below meth c D cI cM b o o2 Q
theorem nGr {n b : Nat} (h : b < n) : ¬ Gr n b := fun h' => by have h'' : n ≤ b := h'; omega
section LROWS
variable {l : Launch} {D : va_G} {cI cM : ClassId} {b L o o2 : Nat} {xs : Nat → Int32} {V : FMem → FMem → Nat → Nat → List Value → Prop} {C M : FMem} {pc i : Nat} {st : List Value}
theorem w_aload (hV : LwP l D cI cM b L o o2 xs V) {k0 : Fin 4} {x : Nat} (hd : decode code pc = .ok (.aload_n k0, 1)) (hi : (LL b o o2 i)[(k0 : Nat)]? = some (some (.ref x))) (k : V C M (pc + 1) i (.ref x :: st)) : V C M pc i st := by
  obtain ⟨p, e, s, m, below, meth, c, Q, hx, hb, hml, hown, hK, hX, hbl, ho, ho2, hL, rfl⟩ := hV
  intro H locs ls hP hN hS hl
  exact lv_aload_n hx hb hd rfl (hl.at hi) (k H locs ls hP hN hS hl)
theorem w_arg (hV : LwP l D cI cM b L o o2 xs V) (kk : Nat) (hk : i + kk < L) {kI : Int} (hkI : Int32.ofInt kI = nI kk) (h0 : decode code pc = .ok (.aload_n 0, 1)) (h1 : decode code (pc + 1) = .ok (.iload_n 3, 1)) (h2 : decode code (pc + 2) = .ok (.iconst kI, 1)) (h3 : decode code (pc + 3) = .ok (.iadd, 1)) (h4 : decode code (pc + 4) = .ok (.iaload, 1)) (k : V C M (pc + 5) i (.int (xs (i + kk)) :: st)) : V C M pc i st := by
  obtain ⟨p, e, s, m, below, meth, c, Q, hx, hb, hml, hown, hK, hX, hbl, ho, ho2, hL, rfl⟩ := hV
  intro H locs ls hP hN hS hl
  refine lv_aload_n hx hb h0 rfl (hl.at (i := 0) rfl) ?_
  refine lv_iload_n hx hb h1 rfl (hl.at (i := 3) rfl) ?_
  refine lv_iconst hx hb h2 hkI ?_
  refine lv_iadd hx hb h3 ?_
  rw [nI_add]
  refine va_sld hx hb hX hbl (nGr hbl) hS (vp_in_nI hk (by omega)) h4 ?_
  rw [nI_clamp (by omega)]
  exact k H locs ls hP hN hS hl
theorem w_icmpeq (hV : LwP l D cI cM b L o o2 xs V) {x y : Int32} {off : Int} (tgt : Nat) (hd : decode code pc = .ok (.if_icmp .eq off, 3)) (ht : (pc : Int) + off = (tgt : Int)) (kt : x = y → V C M tgt i st) (kf : ¬ x = y → V C M (pc + 3) i st) : V C M pc i (.int y :: .int x :: st) := by
  obtain ⟨p, e, s, m, below, meth, c, Q, hx, hb, hml, hown, hK, hX, hbl, ho, ho2, hL, rfl⟩ := hV
  intro H locs ls hP hN hS hl
  exact lv_icmp_eq hx hb hd ht (fun h => kt h H locs ls hP hN hS hl) (fun h => kf h H locs ls hP hN hS hl)
theorem w_call8 (hV : LwP l D cI cM b L o o2 xs V) {y : MethodName} {bytes : ByteArray} {maxL fr lo index n : Nat} {As stk : List Value} {r : Int32} {C' : FMem} (hM : Mt l (wdC D cI cM o) y bytes maxL (some .int) fr lo (.ref (o + 0) :: As) C (some (.int r)) C') (hl0 : MLV RL index y bytes maxL (some .int) n) (hc : y.cls = RX8) (hn : As.length = n) (hR : fr + 1 ≤ room_1.frames ∧ 8 + (maxL + 11) + lo ≤ room_1.locals) (hstk : stk = As.reverse ++ [.ref o]) (hd : decode code pc = .ok (.invokevirtual index, 3)) (k : V C' M (pc + 3) i [.int r]) : V C M pc i stk := by
  obtain ⟨p, e, s, m, below, meth, c, Q, hx, hb, hml, hown, hK, hX, hbl, ho, ho2, hL, rfl⟩ := hV
  intro H locs ls hP hN hS hl
  refine gV (w := wdC D cI cM o) (st := []) hx hb hml hown hK.1 hM hl0 (i := 0) rfl ob_0 (by rw [hc]; rfl) hn hR (Nat.le_of_ble_eq_true rfl) hstk hl.2.1 ⟨by decide, by decide⟩ hd hP (fun q h => Nat.le_trans ho h.1) hS fun H1 locs1 hP1 hz hk hS1 => ?_
  refine k H1 locs1 ls hP1 (hN.kept fun k2 x2 hx2 => ?_) hS1 hl
  obtain ⟨h1, rfl⟩ := wl_of hx2
  refine hk _ (hN k2 _ hx2).lt (fun h => ?_)
  have h' : o2 + k2 < o + 101 := h.2
  omega
theorem w_call9 (hV : LwP l D cI cM b L o o2 xs V) {y : MethodName} {bytes : ByteArray} {maxL fr lo index n : Nat} {As stk : List Value} {r r1 : Int32} {M' : FMem} (hM : Mt l (wdM D cI o2) y bytes maxL (some .int) fr lo (.ref (o2 + 0) :: As) M (some (.int r)) M') (hl0 : MLV RL index y bytes maxL (some .int) n) (hc : y.cls = RX9) (hn : As.length = n) (hR : fr + 1 ≤ room_1.frames ∧ 8 + (maxL + 11) + lo ≤ room_1.locals) (hstk : stk = As.reverse ++ [.ref o2, .int r1]) (hd : decode code pc = .ok (.invokevirtual index, 3)) (k : V C M' (pc + 3) i [.int r, .int r1]) : V C M pc i stk := by
  obtain ⟨p, e, s, m, below, meth, c, Q, hx, hb, hml, hown, hK, hX, hbl, ho, ho2, hL, rfl⟩ := hV
  intro H locs ls hP hN hS hl
  refine gV (w := wdM D cI o2) (st := [.int r1]) hx hb hml hown hK.M hM hl0 (i := 0) rfl obM_0 (by rw [hc]; rfl) hn hR (Nat.le_of_ble_eq_true rfl) hstk hl.2.1 ⟨by decide, by decide⟩ hd hN (fun q h => by have h' : o2 ≤ q := h.1; show s.heap.size ≤ q; omega) hS fun H1 locs1 hN1 hz hk hS1 => ?_
  refine k H1 locs1 ls (hP.kept fun k2 x2 hx2 => ?_) hN1 hS1 hl
  obtain ⟨h1, rfl⟩ := wl_of hx2
  refine hk _ (hP k2 _ hx2).lt (fun h => ?_)
  have h' : o2 ≤ o + k2 := h.1
  have h'' : k2 < 101 := h1
  omega
end LROWS
