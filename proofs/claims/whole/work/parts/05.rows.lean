section ROWS
variable {l : Launch} {w : Wd} {cc : ByteArray} {nL : Nat} {own : String} {R : Room} {ret : Option FieldType} {rv : Option Value} {FR : FMem} {V : FMem → Nat → List (Option Value) → List Value → Prop} {FM : FMem} {pc : Nat} {L : List (Option Value)} {st : List Value}
theorem r_iadd (hV : Pk l w cc nL own R ret rv FR V) {x y : Int32} (hd : decode cc pc = .ok (.iadd, 1)) (k : V FM (pc + 1) L (.int (x + y) :: st)) : V FM pc L (.int y :: .int x :: st) := by
  obtain ⟨p, e, s, m, args, below, meth, c, hx, hb, hml, hown, hr, hlk, hK, rfl⟩ := hV
  intro H locs ls hP hS hl
  exact lv_iadd hx hb hd (k H locs ls hP hS hl)
theorem r_isub (hV : Pk l w cc nL own R ret rv FR V) {x y : Int32} (hd : decode cc pc = .ok (.isub, 1)) (k : V FM (pc + 1) L (.int (x - y) :: st)) : V FM pc L (.int y :: .int x :: st) := by
  obtain ⟨p, e, s, m, args, below, meth, c, hx, hb, hml, hown, hr, hlk, hK, rfl⟩ := hV
  intro H locs ls hP hS hl
  exact lv_isub hx hb hd (k H locs ls hP hS hl)
theorem r_imul (hV : Pk l w cc nL own R ret rv FR V) {x y : Int32} (hd : decode cc pc = .ok (.imul, 1)) (k : V FM (pc + 1) L (.int (x * y) :: st)) : V FM pc L (.int y :: .int x :: st) := by
  obtain ⟨p, e, s, m, args, below, meth, c, hx, hb, hml, hown, hr, hlk, hK, rfl⟩ := hV
  intro H locs ls hP hS hl
  exact lv_imul hx hb hd (k H locs ls hP hS hl)
theorem r_iand (hV : Pk l w cc nL own R ret rv FR V) {x y : Int32} (hd : decode cc pc = .ok (.iand, 1)) (k : V FM (pc + 1) L (.int (x &&& y) :: st)) : V FM pc L (.int y :: .int x :: st) := by
  obtain ⟨p, e, s, m, args, below, meth, c, hx, hb, hml, hown, hr, hlk, hK, rfl⟩ := hV
  intro H locs ls hP hS hl
  exact lv_iand hx hb hd (k H locs ls hP hS hl)
theorem r_ior (hV : Pk l w cc nL own R ret rv FR V) {x y : Int32} (hd : decode cc pc = .ok (.ior, 1)) (k : V FM (pc + 1) L (.int (x ||| y) :: st)) : V FM pc L (.int y :: .int x :: st) := by
  obtain ⟨p, e, s, m, args, below, meth, c, hx, hb, hml, hown, hr, hlk, hK, rfl⟩ := hV
  intro H locs ls hP hS hl
  exact lv_ior hx hb hd (k H locs ls hP hS hl)
theorem r_ixor (hV : Pk l w cc nL own R ret rv FR V) {x y : Int32} (hd : decode cc pc = .ok (.ixor, 1)) (k : V FM (pc + 1) L (.int (x ^^^ y) :: st)) : V FM pc L (.int y :: .int x :: st) := by
  obtain ⟨p, e, s, m, args, below, meth, c, hx, hb, hml, hown, hr, hlk, hK, rfl⟩ := hV
  intro H locs ls hP hS hl
  exact lv_ixor hx hb hd (k H locs ls hP hS hl)
theorem r_ishl (hV : Pk l w cc nL own R ret rv FR V) {x y : Int32} (hd : decode cc pc = .ok (.ishl, 1)) (k : V FM (pc + 1) L (.int (x <<< (y &&& 31)) :: st)) : V FM pc L (.int y :: .int x :: st) := by
  obtain ⟨p, e, s, m, args, below, meth, c, hx, hb, hml, hown, hr, hlk, hK, rfl⟩ := hV
  intro H locs ls hP hS hl
  exact lv_ishl hx hb hd (k H locs ls hP hS hl)
theorem r_ishr (hV : Pk l w cc nL own R ret rv FR V) {x y : Int32} (hd : decode cc pc = .ok (.ishr, 1)) (k : V FM (pc + 1) L (.int (x >>> (y &&& 31)) :: st)) : V FM pc L (.int y :: .int x :: st) := by
  obtain ⟨p, e, s, m, args, below, meth, c, hx, hb, hml, hown, hr, hlk, hK, rfl⟩ := hV
  intro H locs ls hP hS hl
  exact lv_ishr hx hb hd (k H locs ls hP hS hl)
theorem r_idiv (hV : Pk l w cc nL own R ret rv FR V) {x y : Int32} (hd : decode cc pc = .ok (.idiv, 1)) (hne : ¬ y = 0) (k : V FM (pc + 1) L (.int (x / y) :: st)) : V FM pc L (.int y :: .int x :: st) := by
  obtain ⟨p, e, s, m, args, below, meth, c, hx, hb, hml, hown, hr, hlk, hK, rfl⟩ := hV
  intro H locs ls hP hS hl
  exact lv_idiv hx hb hd hne (k H locs ls hP hS hl)
theorem r_irem (hV : Pk l w cc nL own R ret rv FR V) {x y : Int32} (hd : decode cc pc = .ok (.irem, 1)) (hne : ¬ y = 0) (k : V FM (pc + 1) L (.int (x - x / y * y) :: st)) : V FM pc L (.int y :: .int x :: st) := by
  obtain ⟨p, e, s, m, args, below, meth, c, hx, hb, hml, hown, hr, hlk, hK, rfl⟩ := hV
  intro H locs ls hP hS hl
  exact lv_irem hx hb hd hne (k H locs ls hP hS hl)
theorem r_ladd (hV : Pk l w cc nL own R ret rv FR V) {x y : Int64} (hd : decode cc pc = .ok (.ladd, 1)) (k : V FM (pc + 1) L (.long (x + y) :: st)) : V FM pc L (.long y :: .long x :: st) := by
  obtain ⟨p, e, s, m, args, below, meth, c, hx, hb, hml, hown, hr, hlk, hK, rfl⟩ := hV
  intro H locs ls hP hS hl
  exact lv_ladd hx hb hd (k H locs ls hP hS hl)
theorem r_lmul (hV : Pk l w cc nL own R ret rv FR V) {x y : Int64} (hd : decode cc pc = .ok (.lmul, 1)) (k : V FM (pc + 1) L (.long (x * y) :: st)) : V FM pc L (.long y :: .long x :: st) := by
  obtain ⟨p, e, s, m, args, below, meth, c, hx, hb, hml, hown, hr, hlk, hK, rfl⟩ := hV
  intro H locs ls hP hS hl
  exact lv_lmul hx hb hd (k H locs ls hP hS hl)
theorem r_ldiv (hV : Pk l w cc nL own R ret rv FR V) {x y : Int64} (hd : decode cc pc = .ok (.ldiv, 1)) (hne : ¬ y = 0) (k : V FM (pc + 1) L (.long (x / y) :: st)) : V FM pc L (.long y :: .long x :: st) := by
  obtain ⟨p, e, s, m, args, below, meth, c, hx, hb, hml, hown, hr, hlk, hK, rfl⟩ := hV
  intro H locs ls hP hS hl
  exact lv_ldiv hx hb hd hne (k H locs ls hP hS hl)
theorem r_lrem (hV : Pk l w cc nL own R ret rv FR V) {x y : Int64} (hd : decode cc pc = .ok (.lrem, 1)) (hne : ¬ y = 0) (k : V FM (pc + 1) L (.long (x - x / y * y) :: st)) : V FM pc L (.long y :: .long x :: st) := by
  obtain ⟨p, e, s, m, args, below, meth, c, hx, hb, hml, hown, hr, hlk, hK, rfl⟩ := hV
  intro H locs ls hP hS hl
  exact lv_lrem hx hb hd hne (k H locs ls hP hS hl)
theorem r_iushr (hV : Pk l w cc nL own R ret rv FR V) {x y : Int32} (hd : decode cc pc = .ok (.iushr, 1)) (k : V FM (pc + 1) L (.int ((x.toUInt32 >>> (y.toUInt32 &&& Int32.toUInt32 31)).toInt32) :: st)) : V FM pc L (.int y :: .int x :: st) := by
  obtain ⟨p, e, s, m, args, below, meth, c, hx, hb, hml, hown, hr, hlk, hK, rfl⟩ := hV
  intro H locs ls hP hS hl
  exact lv_iushr hx hb hd rfl (k H locs ls hP hS hl)
theorem r_i2l (hV : Pk l w cc nL own R ret rv FR V) {x : Int32} (hd : decode cc pc = .ok (.i2l, 1)) (k : V FM (pc + 1) L (.long x.toInt64 :: st)) : V FM pc L (.int x :: st) := by
  obtain ⟨p, e, s, m, args, below, meth, c, hx, hb, hml, hown, hr, hlk, hK, rfl⟩ := hV
  intro H locs ls hP hS hl
  exact lv_i2l hx hb hd rfl (k H locs ls hP hS hl)
theorem r_l2i (hV : Pk l w cc nL own R ret rv FR V) {x : Int64} (hd : decode cc pc = .ok (.l2i, 1)) (k : V FM (pc + 1) L (.int x.toInt32 :: st)) : V FM pc L (.long x :: st) := by
  obtain ⟨p, e, s, m, args, below, meth, c, hx, hb, hml, hown, hr, hlk, hK, rfl⟩ := hV
  intro H locs ls hP hS hl
  exact lv_l2i hx hb hd rfl (k H locs ls hP hS hl)
theorem r_iconst (hV : Pk l w cc nL own R ret rv FR V) {n : Int} {v : Int32} (hd : decode cc pc = .ok (.iconst n, 1)) (hv : Int32.ofInt n = v) (k : V FM (pc + 1) L (.int v :: st)) : V FM pc L (st) := by
  obtain ⟨p, e, s, m, args, below, meth, c, hx, hb, hml, hown, hr, hlk, hK, rfl⟩ := hV
  intro H locs ls hP hS hl
  exact lv_iconst hx hb hd hv (k H locs ls hP hS hl)
theorem r_bipush (hV : Pk l w cc nL own R ret rv FR V) {n : Int} {v : Int32} (hd : decode cc pc = .ok (.bipush n, 2)) (hv : (Int8.ofInt n).toInt32 = v) (k : V FM (pc + 2) L (.int v :: st)) : V FM pc L (st) := by
  obtain ⟨p, e, s, m, args, below, meth, c, hx, hb, hml, hown, hr, hlk, hK, rfl⟩ := hV
  intro H locs ls hP hS hl
  exact lv_bipush hx hb hd hv (k H locs ls hP hS hl)
theorem r_sipush (hV : Pk l w cc nL own R ret rv FR V) {n : Int} {v : Int32} (hd : decode cc pc = .ok (.sipush n, 3)) (hv : (Int16.ofInt n).toInt32 = v) (k : V FM (pc + 3) L (.int v :: st)) : V FM pc L (st) := by
  obtain ⟨p, e, s, m, args, below, meth, c, hx, hb, hml, hown, hr, hlk, hK, rfl⟩ := hV
  intro H locs ls hP hS hl
  exact lv_sipush hx hb hd hv (k H locs ls hP hS hl)
theorem r_lconst (hV : Pk l w cc nL own R ret rv FR V) {n : Fin 2} {v : Int64} (hd : decode cc pc = .ok (.lconst n, 1)) (hv : Int64.ofNat (n : Nat) = v) (k : V FM (pc + 1) L (.long v :: st)) : V FM pc L (st) := by
  obtain ⟨p, e, s, m, args, below, meth, c, hx, hb, hml, hown, hr, hlk, hK, rfl⟩ := hV
  intro H locs ls hP hS hl
  exact lv_lconst hx hb hd hv (k H locs ls hP hS hl)
theorem r_null (hV : Pk l w cc nL own R ret rv FR V)  (hd : decode cc pc = .ok (.aconst_null, 1)) (k : V FM (pc + 1) L (.null :: st)) : V FM pc L (st) := by
  obtain ⟨p, e, s, m, args, below, meth, c, hx, hb, hml, hown, hr, hlk, hK, rfl⟩ := hV
  intro H locs ls hP hS hl
  exact lv_null hx hb hd (k H locs ls hP hS hl)
theorem r_ldc2 (hV : Pk l w cc nL own R ret rv FR V) {index : Nat} {v : Int64} (hc : inT (.constantLong own index v)) (hd : decode cc pc = .ok (.ldc2_w index, 3)) (k : V FM (pc + 3) L (.long v :: st)) : V FM pc L (st) := by
  obtain ⟨p, e, s, m, args, below, meth, c, hx, hb, hml, hown, hr, hlk, hK, rfl⟩ := hV
  intro H locs ls hP hS hl
  exact lv_ldc2 hx hb hown (hK.2 _ hc _) hd (k H locs ls hP hS hl)
theorem r_ldcw (hV : Pk l w cc nL own R ret rv FR V) {index : Nat} {v : Int32} (hc : inT (.constant own index v)) (hd : decode cc pc = .ok (.ldc_w index, 3)) (k : V FM (pc + 3) L (.int v :: st)) : V FM pc L (st) := by
  obtain ⟨p, e, s, m, args, below, meth, c, hx, hb, hml, hown, hr, hlk, hK, rfl⟩ := hV
  intro H locs ls hP hS hl
  exact lv_ldcw hx hb hown (hK.2 _ hc _) hd (k H locs ls hP hS hl)
theorem r_iload_n (hV : Pk l w cc nL own R ret rv FR V) {k0 : Fin 4} {x : Int32} (hd : decode cc pc = .ok (.iload_n k0, 1)) (hi : L[(k0 : Nat)]? = some (some (.int x))) (k : V FM (pc + 1) L (.int x :: st)) : V FM pc L (st) := by
  obtain ⟨p, e, s, m, args, below, meth, c, hx, hb, hml, hown, hr, hlk, hK, rfl⟩ := hV
  intro H locs ls hP hS hl
  exact lv_iload_n hx hb hd rfl (hl.at hi) (k H locs ls hP hS hl)
theorem r_iload (hV : Pk l w cc nL own R ret rv FR V) {i : Nat} {x : Int32} (hd : decode cc pc = .ok (.iload i, 2)) (hi : L[i]? = some (some (.int x))) (k : V FM (pc + 2) L (.int x :: st)) : V FM pc L (st) := by
  obtain ⟨p, e, s, m, args, below, meth, c, hx, hb, hml, hown, hr, hlk, hK, rfl⟩ := hV
  intro H locs ls hP hS hl
  exact lv_iload hx hb hd (hl.at hi) (k H locs ls hP hS hl)
theorem r_lload_n (hV : Pk l w cc nL own R ret rv FR V) {k0 : Fin 4} {x : Int64} (hd : decode cc pc = .ok (.lload_n k0, 1)) (hi : L[(k0 : Nat)]? = some (some (.long x))) (k : V FM (pc + 1) L (.long x :: st)) : V FM pc L (st) := by
  obtain ⟨p, e, s, m, args, below, meth, c, hx, hb, hml, hown, hr, hlk, hK, rfl⟩ := hV
  intro H locs ls hP hS hl
  exact lv_lload_n hx hb hd rfl (hl.at hi) (k H locs ls hP hS hl)
theorem r_lload (hV : Pk l w cc nL own R ret rv FR V) {i : Nat} {x : Int64} (hd : decode cc pc = .ok (.lload i, 2)) (hi : L[i]? = some (some (.long x))) (k : V FM (pc + 2) L (.long x :: st)) : V FM pc L (st) := by
  obtain ⟨p, e, s, m, args, below, meth, c, hx, hb, hml, hown, hr, hlk, hK, rfl⟩ := hV
  intro H locs ls hP hS hl
  exact lv_lload hx hb hd (hl.at hi) (k H locs ls hP hS hl)
theorem r_aload_n (hV : Pk l w cc nL own R ret rv FR V) {k0 : Fin 4} {x : Nat} (hd : decode cc pc = .ok (.aload_n k0, 1)) (hi : L[(k0 : Nat)]? = some (some (.ref x))) (k : V FM (pc + 1) L (.ref x :: st)) : V FM pc L (st) := by
  obtain ⟨p, e, s, m, args, below, meth, c, hx, hb, hml, hown, hr, hlk, hK, rfl⟩ := hV
  intro H locs ls hP hS hl
  exact lv_aload_n hx hb hd rfl (hl.at hi) (k H locs ls hP hS hl)
theorem r_aload (hV : Pk l w cc nL own R ret rv FR V) {i : Nat} {x : Nat} (hd : decode cc pc = .ok (.aload i, 2)) (hi : L[i]? = some (some (.ref x))) (k : V FM (pc + 2) L (.ref x :: st)) : V FM pc L (st) := by
  obtain ⟨p, e, s, m, args, below, meth, c, hx, hb, hml, hown, hr, hlk, hK, rfl⟩ := hV
  intro H locs ls hP hS hl
  exact lv_aload hx hb hd (hl.at hi) (k H locs ls hP hS hl)
theorem r_istore_n (hV : Pk l w cc nL own R ret rv FR V) {k0 : Fin 4} {x : Int32} (hd : decode cc pc = .ok (.istore_n k0, 1)) (hn : (k0 : Nat) < nL) (hc : chkL L k0 = true) (k : V FM (pc + 1) (L.set k0 (some (.int x))) (st)) : V FM pc L (.int x :: st) := by
  obtain ⟨p, e, s, m, args, below, meth, c, hx, hb, hml, hown, hr, hlk, hK, rfl⟩ := hV
  intro H locs ls hP hS hl
  exact lv_istore_n hx hb hd rfl hl.has hn rfl (fun ls2 h2 => k H locs ls2 hP hS (LH.st1 hl.1 hc h2))
theorem r_istore (hV : Pk l w cc nL own R ret rv FR V) {i : Nat} {x : Int32} (hd : decode cc pc = .ok (.istore i, 2)) (hn : i < nL) (hc : chkL L i = true) (k : V FM (pc + 2) (L.set i (some (.int x))) (st)) : V FM pc L (.int x :: st) := by
  obtain ⟨p, e, s, m, args, below, meth, c, hx, hb, hml, hown, hr, hlk, hK, rfl⟩ := hV
  intro H locs ls hP hS hl
  exact lv_istore hx hb hd hl.has hn rfl (fun ls2 h2 => k H locs ls2 hP hS (LH.st1 hl.1 hc h2))
theorem r_astore_n (hV : Pk l w cc nL own R ret rv FR V) {k0 : Fin 4} {x : Nat} (hd : decode cc pc = .ok (.astore_n k0, 1)) (hn : (k0 : Nat) < nL) (hc : chkL L k0 = true) (k : V FM (pc + 1) (L.set k0 (some (.ref x))) (st)) : V FM pc L (.ref x :: st) := by
  obtain ⟨p, e, s, m, args, below, meth, c, hx, hb, hml, hown, hr, hlk, hK, rfl⟩ := hV
  intro H locs ls hP hS hl
  exact lv_astore_n hx hb hd rfl hl.has hn rfl (fun ls2 h2 => k H locs ls2 hP hS (LH.st1 hl.1 hc h2))
theorem r_astore (hV : Pk l w cc nL own R ret rv FR V) {i : Nat} {x : Nat} (hd : decode cc pc = .ok (.astore i, 2)) (hn : i < nL) (hc : chkL L i = true) (k : V FM (pc + 2) (L.set i (some (.ref x))) (st)) : V FM pc L (.ref x :: st) := by
  obtain ⟨p, e, s, m, args, below, meth, c, hx, hb, hml, hown, hr, hlk, hK, rfl⟩ := hV
  intro H locs ls hP hS hl
  exact lv_astore hx hb hd hl.has hn rfl (fun ls2 h2 => k H locs ls2 hP hS (LH.st1 hl.1 hc h2))
theorem r_lstore_n (hV : Pk l w cc nL own R ret rv FR V) {k0 : Fin 4} {x : Int64} (hd : decode cc pc = .ok (.lstore_n k0, 1)) (hn : (k0 : Nat) + 1 < nL) (hc : chkL L k0 = true) (k : V FM (pc + 1) ((L.set k0 (some (.long x))).set (k0 + 1) none) (st)) : V FM pc L (.long x :: st) := by
  obtain ⟨p, e, s, m, args, below, meth, c, hx, hb, hml, hown, hr, hlk, hK, rfl⟩ := hV
  intro H locs ls hP hS hl
  exact lv_lstore_n hx hb hd rfl hl.has hn rfl (fun ls2 h2 => k H locs ls2 hP hS (LH.st2 hl.1 hc h2))
theorem r_lstore (hV : Pk l w cc nL own R ret rv FR V) {i : Nat} {x : Int64} (hd : decode cc pc = .ok (.lstore i, 2)) (hn : i + 1 < nL) (hc : chkL L i = true) (k : V FM (pc + 2) ((L.set i (some (.long x))).set (i + 1) none) (st)) : V FM pc L (.long x :: st) := by
  obtain ⟨p, e, s, m, args, below, meth, c, hx, hb, hml, hown, hr, hlk, hK, rfl⟩ := hV
  intro H locs ls hP hS hl
  exact lv_lstore hx hb hd hl.has hn rfl (fun ls2 h2 => k H locs ls2 hP hS (LH.st2 hl.1 hc h2))
theorem r_iinc (hV : Pk l w cc nL own R ret rv FR V) {i : Nat} {n : Int} {x v : Int32} (hd : decode cc pc = .ok (.iinc i n, 3)) (hi : L[i]? = some (some (.int x))) (hv : Int32.ofInt n = v) (hc : chkL L i = true) (k : V FM (pc + 3) (L.set i (some (.int (x + v)))) st) : V FM pc L st := by
  obtain ⟨p, e, s, m, args, below, meth, c, hx, hb, hml, hown, hr, hlk, hK, rfl⟩ := hV
  intro H locs ls hP hS hl
  obtain ⟨j, hj⟩ := List.getElem?_of_mem (lvL_mem.mpr hi)
  have hn : i < nL := by rw [← hl.1]; exact (List.getElem?_eq_some_iff.mp hi).1
  exact lv_iinc hx hb hd hl.has hj (by rw [hv]) hn rfl (fun ls2 h2 => k H locs ls2 hP hS (LH.st1 hl.1 hc h2))
theorem r_dup (hV : Pk l w cc nL own R ret rv FR V) {va : Value} (hd : decode cc pc = .ok (.dup, 1)) (h1 : va.category = 1) (k : V FM (pc + 1) L (va :: va :: st)) : V FM pc L (va :: st) := by
  obtain ⟨p, e, s, m, args, below, meth, c, hx, hb, hml, hown, hr, hlk, hK, rfl⟩ := hV
  intro H locs ls hP hS hl
  exact lv_dup hx hb hd h1 (k H locs ls hP hS hl)
theorem r_pop (hV : Pk l w cc nL own R ret rv FR V) {va : Value} (hd : decode cc pc = .ok (.pop, 1)) (h1 : va.category = 1) (k : V FM (pc + 1) L (st)) : V FM pc L (va :: st) := by
  obtain ⟨p, e, s, m, args, below, meth, c, hx, hb, hml, hown, hr, hlk, hK, rfl⟩ := hV
  intro H locs ls hP hS hl
  exact lv_pop hx hb hd h1 (k H locs ls hP hS hl)
theorem r_dup_x1 (hV : Pk l w cc nL own R ret rv FR V) {va vb : Value} (hd : decode cc pc = .ok (.dup_x1, 1)) (h1 : va.category = 1) (h2 : vb.category = 1) (k : V FM (pc + 1) L (va :: vb :: va :: st)) : V FM pc L (va :: vb :: st) := by
  obtain ⟨p, e, s, m, args, below, meth, c, hx, hb, hml, hown, hr, hlk, hK, rfl⟩ := hV
  intro H locs ls hP hS hl
  exact lv_dup_x1 hx hb hd h1 h2 (k H locs ls hP hS hl)
theorem r_dup2 (hV : Pk l w cc nL own R ret rv FR V) {va vb : Value} (hd : decode cc pc = .ok (.dup2, 1)) (h1 : va.category = 1) (h2 : vb.category = 1) (k : V FM (pc + 1) L (va :: vb :: va :: vb :: st)) : V FM pc L (va :: vb :: st) := by
  obtain ⟨p, e, s, m, args, below, meth, c, hx, hb, hml, hown, hr, hlk, hK, rfl⟩ := hV
  intro H locs ls hP hS hl
  exact lv_dup2_11 hx hb hd h1 h2 (k H locs ls hP hS hl)
theorem r_ifeq (hV : Pk l w cc nL own R ret rv FR V) {x : Int32} {off : Int} (tgt : Nat) (hd : decode cc pc = .ok (.ifCond .eq off, 3)) (ht : (pc : Int) + off = (tgt : Int)) (kt : x = 0 → V FM tgt L st) (kf : ¬ x = 0 → V FM (pc + 3) L st) : V FM pc L (.int x :: st) := by
  obtain ⟨p, e, s, m, args, below, meth, c, hx, hb, hml, hown, hr, hlk, hK, rfl⟩ := hV
  intro H locs ls hP hS hl
  exact lv_if_eq hx hb hd ht (fun h => kt h H locs ls hP hS hl) (fun h => kf h H locs ls hP hS hl)
theorem r_iflt (hV : Pk l w cc nL own R ret rv FR V) {x : Int32} {off : Int} (tgt : Nat) (hd : decode cc pc = .ok (.ifCond .lt off, 3)) (ht : (pc : Int) + off = (tgt : Int)) (kt : x < 0 → V FM tgt L st) (kf : ¬ x < 0 → V FM (pc + 3) L st) : V FM pc L (.int x :: st) := by
  obtain ⟨p, e, s, m, args, below, meth, c, hx, hb, hml, hown, hr, hlk, hK, rfl⟩ := hV
  intro H locs ls hP hS hl
  exact lv_if_lt hx hb hd ht (fun h => kt h H locs ls hP hS hl) (fun h => kf h H locs ls hP hS hl)
theorem r_ifge (hV : Pk l w cc nL own R ret rv FR V) {x : Int32} {off : Int} (tgt : Nat) (hd : decode cc pc = .ok (.ifCond .ge off, 3)) (ht : (pc : Int) + off = (tgt : Int)) (kt : 0 ≤ x → V FM tgt L st) (kf : ¬ 0 ≤ x → V FM (pc + 3) L st) : V FM pc L (.int x :: st) := by
  obtain ⟨p, e, s, m, args, below, meth, c, hx, hb, hml, hown, hr, hlk, hK, rfl⟩ := hV
  intro H locs ls hP hS hl
  exact lv_if_ge hx hb hd ht (fun h => kt h H locs ls hP hS hl) (fun h => kf h H locs ls hP hS hl)
theorem r_ifgt (hV : Pk l w cc nL own R ret rv FR V) {x : Int32} {off : Int} (tgt : Nat) (hd : decode cc pc = .ok (.ifCond .gt off, 3)) (ht : (pc : Int) + off = (tgt : Int)) (kt : 0 < x → V FM tgt L st) (kf : ¬ 0 < x → V FM (pc + 3) L st) : V FM pc L (.int x :: st) := by
  obtain ⟨p, e, s, m, args, below, meth, c, hx, hb, hml, hown, hr, hlk, hK, rfl⟩ := hV
  intro H locs ls hP hS hl
  exact lv_if_gt hx hb hd ht (fun h => kt h H locs ls hP hS hl) (fun h => kf h H locs ls hP hS hl)
theorem r_ifle (hV : Pk l w cc nL own R ret rv FR V) {x : Int32} {off : Int} (tgt : Nat) (hd : decode cc pc = .ok (.ifCond .le off, 3)) (ht : (pc : Int) + off = (tgt : Int)) (kt : x ≤ 0 → V FM tgt L st) (kf : ¬ x ≤ 0 → V FM (pc + 3) L st) : V FM pc L (.int x :: st) := by
  obtain ⟨p, e, s, m, args, below, meth, c, hx, hb, hml, hown, hr, hlk, hK, rfl⟩ := hV
  intro H locs ls hP hS hl
  exact lv_if_le hx hb hd ht (fun h => kt h H locs ls hP hS hl) (fun h => kf h H locs ls hP hS hl)
theorem r_ifne (hV : Pk l w cc nL own R ret rv FR V) {x : Int32} {off : Int} (tgt : Nat) (hd : decode cc pc = .ok (.ifCond .ne off, 3)) (ht : (pc : Int) + off = (tgt : Int)) (kt : ¬ x = 0 → V FM tgt L st) (kf : x = 0 → V FM (pc + 3) L st) : V FM pc L (.int x :: st) := by
  obtain ⟨p, e, s, m, args, below, meth, c, hx, hb, hml, hown, hr, hlk, hK, rfl⟩ := hV
  intro H locs ls hP hS hl
  exact lv_if_ne hx hb hd ht (fun h => kt h H locs ls hP hS hl) (fun h => kf h H locs ls hP hS hl)
theorem r_icmpeq (hV : Pk l w cc nL own R ret rv FR V) {x y : Int32} {off : Int} (tgt : Nat) (hd : decode cc pc = .ok (.if_icmp .eq off, 3)) (ht : (pc : Int) + off = (tgt : Int)) (kt : x = y → V FM tgt L st) (kf : ¬ x = y → V FM (pc + 3) L st) : V FM pc L (.int y :: .int x :: st) := by
  obtain ⟨p, e, s, m, args, below, meth, c, hx, hb, hml, hown, hr, hlk, hK, rfl⟩ := hV
  intro H locs ls hP hS hl
  exact lv_icmp_eq hx hb hd ht (fun h => kt h H locs ls hP hS hl) (fun h => kf h H locs ls hP hS hl)
theorem r_icmplt (hV : Pk l w cc nL own R ret rv FR V) {x y : Int32} {off : Int} (tgt : Nat) (hd : decode cc pc = .ok (.if_icmp .lt off, 3)) (ht : (pc : Int) + off = (tgt : Int)) (kt : x < y → V FM tgt L st) (kf : ¬ x < y → V FM (pc + 3) L st) : V FM pc L (.int y :: .int x :: st) := by
  obtain ⟨p, e, s, m, args, below, meth, c, hx, hb, hml, hown, hr, hlk, hK, rfl⟩ := hV
  intro H locs ls hP hS hl
  exact lv_icmp_lt hx hb hd ht (fun h => kt h H locs ls hP hS hl) (fun h => kf h H locs ls hP hS hl)
theorem r_icmpge (hV : Pk l w cc nL own R ret rv FR V) {x y : Int32} {off : Int} (tgt : Nat) (hd : decode cc pc = .ok (.if_icmp .ge off, 3)) (ht : (pc : Int) + off = (tgt : Int)) (kt : y ≤ x → V FM tgt L st) (kf : ¬ y ≤ x → V FM (pc + 3) L st) : V FM pc L (.int y :: .int x :: st) := by
  obtain ⟨p, e, s, m, args, below, meth, c, hx, hb, hml, hown, hr, hlk, hK, rfl⟩ := hV
  intro H locs ls hP hS hl
  exact lv_icmp_ge hx hb hd ht (fun h => kt h H locs ls hP hS hl) (fun h => kf h H locs ls hP hS hl)
theorem r_icmpgt (hV : Pk l w cc nL own R ret rv FR V) {x y : Int32} {off : Int} (tgt : Nat) (hd : decode cc pc = .ok (.if_icmp .gt off, 3)) (ht : (pc : Int) + off = (tgt : Int)) (kt : y < x → V FM tgt L st) (kf : ¬ y < x → V FM (pc + 3) L st) : V FM pc L (.int y :: .int x :: st) := by
  obtain ⟨p, e, s, m, args, below, meth, c, hx, hb, hml, hown, hr, hlk, hK, rfl⟩ := hV
  intro H locs ls hP hS hl
  exact lv_icmp_gt hx hb hd ht (fun h => kt h H locs ls hP hS hl) (fun h => kf h H locs ls hP hS hl)
theorem r_icmple (hV : Pk l w cc nL own R ret rv FR V) {x y : Int32} {off : Int} (tgt : Nat) (hd : decode cc pc = .ok (.if_icmp .le off, 3)) (ht : (pc : Int) + off = (tgt : Int)) (kt : x ≤ y → V FM tgt L st) (kf : ¬ x ≤ y → V FM (pc + 3) L st) : V FM pc L (.int y :: .int x :: st) := by
  obtain ⟨p, e, s, m, args, below, meth, c, hx, hb, hml, hown, hr, hlk, hK, rfl⟩ := hV
  intro H locs ls hP hS hl
  exact lv_icmp_le hx hb hd ht (fun h => kt h H locs ls hP hS hl) (fun h => kf h H locs ls hP hS hl)
theorem r_icmpne (hV : Pk l w cc nL own R ret rv FR V) {x y : Int32} {off : Int} (tgt : Nat) (hd : decode cc pc = .ok (.if_icmp .ne off, 3)) (ht : (pc : Int) + off = (tgt : Int)) (kt : ¬ x = y → V FM tgt L st) (kf : x = y → V FM (pc + 3) L st) : V FM pc L (.int y :: .int x :: st) := by
  obtain ⟨p, e, s, m, args, below, meth, c, hx, hb, hml, hown, hr, hlk, hK, rfl⟩ := hV
  intro H locs ls hP hS hl
  exact lv_icmp_ne hx hb hd ht (fun h => kt h H locs ls hP hS hl) (fun h => kf h H locs ls hP hS hl)
theorem r_goto (hV : Pk l w cc nL own R ret rv FR V) {off : Int} (tgt : Nat) (hd : decode cc pc = .ok (.goto off, 3)) (ht : (pc : Int) + off = (tgt : Int)) (k : V FM tgt L st) : V FM pc L st := by
  obtain ⟨p, e, s, m, args, below, meth, c, hx, hb, hml, hown, hr, hlk, hK, rfl⟩ := hV
  intro H locs ls hP hS hl
  exact lv_goto hx hb hd ht (k H locs ls hP hS hl)
theorem r_ifnull (hV : Pk l w cc nL own R ret rv FR V) {a : Nat} {off : Int} (hd : decode cc pc = .ok (.ifnull off, 3)) (k : V FM (pc + 3) L st) : V FM pc L (.ref a :: st) := by
  obtain ⟨p, e, s, m, args, below, meth, c, hx, hb, hml, hown, hr, hlk, hK, rfl⟩ := hV
  intro H locs ls hP hS hl
  exact lv_ifnull hx hb hd (k H locs ls hP hS hl)
theorem r_ifnullN (hV : Pk l w cc nL own R ret rv FR V) {off : Int} (tgt : Nat) (hd : decode cc pc = .ok (.ifnull off, 3)) (ht : (pc : Int) + off = (tgt : Int)) (k : V FM tgt L st) : V FM pc L (.null :: st) := by
  obtain ⟨p, e, s, m, args, below, meth, c, hx, hb, hml, hown, hr, hlk, hK, rfl⟩ := hV
  intro H locs ls hP hS hl
  exact lv_ifnullN hx hb hd ht (k H locs ls hP hS hl)
theorem r_ifnonnull (hV : Pk l w cc nL own R ret rv FR V) {a : Nat} {off : Int} (tgt : Nat) (hd : decode cc pc = .ok (.ifnonnull off, 3)) (ht : (pc : Int) + off = (tgt : Int)) (k : V FM tgt L st) : V FM pc L (.ref a :: st) := by
  obtain ⟨p, e, s, m, args, below, meth, c, hx, hb, hml, hown, hr, hlk, hK, rfl⟩ := hV
  intro H locs ls hP hS hl
  exact lv_ifnonnull hx hb hd ht (k H locs ls hP hS hl)
theorem r_ifnonnullN (hV : Pk l w cc nL own R ret rv FR V) {off : Int} (hd : decode cc pc = .ok (.ifnonnull off, 3)) (k : V FM (pc + 3) L st) : V FM pc L (.null :: st) := by
  obtain ⟨p, e, s, m, args, below, meth, c, hx, hb, hml, hown, hr, hlk, hK, rfl⟩ := hV
  intro H locs ls hP hS hl
  exact lv_ifnonnullN hx hb hd (k H locs ls hP hS hl)
theorem r_tabIn (hV : Pk l w cc nL own R ret rv FR V) {dflt lo hi : Int} {offs : Array Int} {len : Nat} {x : Int32} {off : Int} (tgt : Nat) (hd : decode cc pc = .ok (.tableswitch dflt lo hi offs, len)) (h1 : ¬ x.toInt < lo) (h2 : ¬ hi < x.toInt) (ho : offs[(x.toInt - lo).toNat]? = some off) (ht : (pc : Int) + off = (tgt : Int)) (k : V FM tgt L st) : V FM pc L (.int x :: st) := by
  obtain ⟨p, e, s, m, args, below, meth, c, hx, hb, hml, hown, hr, hlk, hK, rfl⟩ := hV
  intro H locs ls hP hS hl
  exact lv_tableIn hx hb hd h1 h2 ho ht (k H locs ls hP hS hl)
theorem r_tabOut (hV : Pk l w cc nL own R ret rv FR V) {dflt lo hi : Int} {offs : Array Int} {len : Nat} {x : Int32} (tgt : Nat) (hd : decode cc pc = .ok (.tableswitch dflt lo hi offs, len)) (h : x.toInt < lo ∨ hi < x.toInt) (ht : (pc : Int) + dflt = (tgt : Int)) (k : V FM tgt L st) : V FM pc L (.int x :: st) := by
  obtain ⟨p, e, s, m, args, below, meth, c, hx, hb, hml, hown, hr, hlk, hK, rfl⟩ := hV
  intro H locs ls hP hS hl
  exact lv_tableOut hx hb hd h ht (k H locs ls hP hS hl)
theorem r_look (hV : Pk l w cc nL own R ret rv FR V) {dflt : Int} {ps : Array (Int × Int)} {len : Nat} {x : Int32} {off : Int} (tgt : Nat) (hd : decode cc pc = .ok (.lookupswitch dflt ps, len)) (hp : (ps.toList.zip (ps.toList.drop 1)).all (fun (a, next) => a.1 < next.1) = true) (ho : Op.lookupswitch.offset ps.toList dflt x.toInt = off) (ht : (pc : Int) + off = (tgt : Int)) (k : V FM tgt L st) : V FM pc L (.int x :: st) := by
  obtain ⟨p, e, s, m, args, below, meth, c, hx, hb, hml, hown, hr, hlk, hK, rfl⟩ := hV
  intro H locs ls hP hS hl
  exact lv_lookup hx hb hd hp ho ht (k H locs ls hP hS hl)
/-- a field's link: which class of the world, which slot -/
def FLk (lk : String → String → String → Prop) (ci kf : Nat) (fin : Bool) (ty : FieldType) : Prop := ∃ (C : String) (T : u_T) (N : Nat) (ty0 : Nat → FieldType), vwCl[ci]? = some (C, T, N) ∧ kf < N ∧ (∀ x ∈ u_ws C T N, inT x) ∧ (∀ k, k < N → parseFieldDescriptor (T k).2.2.1 = some (ty0 k)) ∧ (∀ a, a < N → ∀ b, b < N → a ≠ b → (T a).2.1 ≠ (T b).2.1) ∧ lk (T kf).1 (T kf).2.1 (T kf).2.2.1 ∧ (T kf).2.2.2 = fin ∧ parseFieldDescriptor (T kf).2.2.1 = some ty
def FL (own : String) (index ci kf : Nat) (fin : Bool) (ty : FieldType) : Prop := FLk (fun a b d => inT (.fieldLink own index a b d) ∨ ∃ h, inT (.fieldLinkNest own index a b d h)) ci kf fin ty
theorem r_get (hV : Pk l w cc nL own R ret rv FR V) {index ci kf i : Nat} {fin : Bool} {ty : FieldType} {fs : List Value} {v : Value} (hf : FL own index ci kf fin ty) (hi : i < wN w) (hm : wM w i (FM i) = .inr (ci, fs)) (hv : fs[kf]? = some v) (hd : decode cc pc = .ok (.getfield index, 3)) (k : V FM (pc + 3) L (v :: st)) : V FM pc L (.ref (wB w + i) :: st) := by
  obtain ⟨p, e, s, m, args, below, meth, c, hx, hb, hml, hown, hr, hlk, hK, rfl⟩ := hV
  intro H locs ls hP hS hl
  obtain ⟨C, T, N, ty0, h1, h2, h3, h4, h5, h6, h7, h8⟩ := hf
  have he : (wl w FM)[i]? = some (wB w + i, .inr (ci, fs)) := by rw [wl_get hi, hm]
  rcases h6 with h6 | ⟨host, h6⟩
  · exact va_get (Ts := u_ws C T N) hx hb (fun x hx => hK.2 x (h3 x hx) _) (fun _ h => h) hown hK.1 hP i he h1 kf h2 (hK.2 _ h6 _) (fun _ h => h) hv hd (k H locs ls hP hS hl)
  · exact va_getN (Ts := u_ws C T N) hx hb (fun x hx => hK.2 x (h3 x hx) _) (fun _ h => h) hown hK.1 hP i he h1 kf h2 (hK.2 _ h6 _) (fun _ h => h) hv hd (k H locs ls hP hS hl)
theorem r_put (hV : Pk l w cc nL own R ret rv FR V) {index ci kf i : Nat} {ty : FieldType} {fs : List Value} {v : Value} (row : Nat → Int32) (hf : FL own index ci kf false ty) (hi : i < wN w) (hm : wM w i (FM i) = .inr (ci, fs)) (hm2 : wM w i row = .inr (ci, fs.set kf v)) (hn : narrow ty v = v) (hfit : fits ty v = true) (hlen : kf < fs.length) (hd : decode cc pc = .ok (.putfield index, 3)) (k : V (rset FM i row) (pc + 3) L st) : V FM pc L (v :: .ref (wB w + i) :: st) := by
  obtain ⟨p, e, s, m, args, below, meth, c, hx, hb, hml, hown, hr, hlk, hK, rfl⟩ := hV
  intro H locs ls hP hS hl
  obtain ⟨C, T, N, ty0, h1, h2, h3, h4, h5, h6, h7, h8⟩ := hf
  have he : (wl w FM)[i]? = some (wB w + i, .inr (ci, fs)) := by rw [wl_get hi, hm]
  have kk : ∀ (H1 : Heap) (locs1 : List Loc), va_P (wD w) vwCl ((wl w FM).set i (wB w + i, .inr (ci, fs.set kf v))) H1 → va_D (Rg w) ((wl w FM).set i (wB w + i, .inr (ci, fs.set kf v))) → va_S (Rg w) s.heap H1 locs1 → W p l e R s m args below meth c H1 locs1 0 0 (MQ below (Qx w rv FR) args s 0 0 (Rg w)) (F0 m (pc + 3) ls st) := by
    intro H1 locs1 g1 _ g3
    rw [← hm2, wl_set] at g1
    exact k H1 locs1 ls g1 g3 hl
  rcases h6 with h6 | ⟨host, h6⟩
  · exact va_put (Ts := u_ws C T N) hx hb (fun x hx => hK.2 x (h3 x hx) _) (fun _ h => h) ty0 h4 h5 hown hK.1 hP wl_D hS i he h1 kf h2 (hK.2 _ h6 _) (fun _ h => h) h7 h8 hn hfit hlen hd kk
  · exact va_putN (Ts := u_ws C T N) hx hb (fun x hx => hK.2 x (h3 x hx) _) (fun _ h => h) ty0 h4 h5 hown hK.1 hP wl_D hS i he h1 kf h2 (hK.2 _ h6 _) (fun _ h => h) h7 h8 hn hfit hlen hd kk
theorem r_iald (hV : Pk l w cc nL own R ret rv FR V) {i n : Nat} {cA : ClassId} {x : Int32} (hi : i < wN w) (hm : wM w i (FM i) = .inl (cA, n, .inl (FM i))) (ht : (wT w)[0]? = some (cA, .int)) (hin : vp_in x n) (hd : decode cc pc = .ok (.iaload, 1)) (k : V FM (pc + 1) L (.int (FM i x.toNatClampNeg) :: st)) : V FM pc L (.int x :: .ref (wB w + i) :: st) := by
  obtain ⟨p, e, s, m, args, below, meth, c, hx, hb, hml, hown, hr, hlk, hK, rfl⟩ := hV
  intro H locs ls hP hS hl
  exact va_iald hx hb hK.1 hP i 0 (by rw [wl_get hi, hm]) ht hin hd (k H locs ls hP hS hl)
theorem r_iast (hV : Pk l w cc nL own R ret rv FR V) {i n : Nat} {cA : ClassId} {x v : Int32} (hi : i < wN w) (hm : ∀ row, wM w i row = .inl (cA, n, .inl row)) (ht : (wT w)[0]? = some (cA, .int)) (hin : vp_in x n) (hd : decode cc pc = .ok (.iastore, 1)) (k : V (rset FM i (upd (FM i) x.toNatClampNeg v)) (pc + 1) L st) : V FM pc L (.int v :: .int x :: .ref (wB w + i) :: st) := by
  obtain ⟨p, e, s, m, args, below, meth, c, hx, hb, hml, hown, hr, hlk, hK, rfl⟩ := hV
  intro H locs ls hP hS hl
  refine va_iast hx hb hK.1 hP wl_D hS i 0 (by rw [wl_get hi, hm]) ht hin hd (fun H1 locs1 g1 _ g3 => ?_)
  rw [← hm, wl_set] at g1
  exact k H1 locs1 ls g1 g3 hl
theorem r_alen (hV : Pk l w cc nL own R ret rv FR V) {i : Nat} {cA : ClassId} {x : vp_A} {ty : FieldType} (t0 : Nat) {v : Int32} (hi : i < wN w) (hm : wM w i (FM i) = .inl (cA, x)) (ht : (wT w)[t0]? = some (cA, ty)) (hv : Int32.ofNat x.1 = v) (hd : decode cc pc = .ok (.arraylength, 1)) (k : V FM (pc + 1) L (.int v :: st)) : V FM pc L (.ref (wB w + i) :: st) := by
  obtain ⟨p, e, s, m, args, below, meth, c, hx, hb, hml, hown, hr, hlk, hK, rfl⟩ := hV
  intro H locs ls hP hS hl
  exact va_alen hx hb hK.1 hP i t0 (by rw [wl_get hi, hm]) ht hv hd (k H locs ls hP hS hl)
theorem r_aald (hV : Pk l w cc nL own R ret rv FR V) {i n : Nat} {cA : ClassId} {C : String} {f : Nat → Option Nat} (t0 : Nat) {x : Int32} (hi : i < wN w) (hm : wM w i (FM i) = .inl (cA, n, .inr (.inr (.inr (.inr f))))) (ht : (wT w)[t0]? = some (cA, .object C)) (hin : vp_in x n) (hd : decode cc pc = .ok (.aaload, 1)) (k : V FM (pc + 1) L (va_rf (f x.toNatClampNeg) :: st)) : V FM pc L (.int x :: .ref (wB w + i) :: st) := by
  obtain ⟨p, e, s, m, args, below, meth, c, hx, hb, hml, hown, hr, hlk, hK, rfl⟩ := hV
  intro H locs ls hP hS hl
  exact va_aldq hx hb hK.1 hP i t0 (by rw [wl_get hi, hm]) ht hin hd (k H locs ls hP hS hl)
theorem r_iret (hV : Pk l w cc nL own R ret rv FR V) {x : Int32} (hret : ret = some .int) (hd : decode cc pc = .ok (.ireturn, 1)) (h1 : rv = some (.int x)) (h2 : FR = FM) : V FM pc L [.int x] := by
  obtain ⟨p, e, s, m, args, below, meth, c, hx, hb, hml, hown, hr, hlk, hK, rfl⟩ := hV
  intro H locs ls hP hS hl
  subst h1; subst h2; subst hret
  exact W.iret hx hb hr (fun t ht hW => ⟨rfl, by rw [ht]; exact hP, hS.F ht⟩) hS.2.2 hd
theorem r_zret (hV : Pk l w cc nL own R ret rv FR V) {x : Int32} (hret : ret = some .boolean) (hbo : x = 0 ∨ x = 1) (hd : decode cc pc = .ok (.ireturn, 1)) (h1 : rv = some (.int x)) (h2 : FR = FM) : V FM pc L [.int x] := by
  obtain ⟨p, e, s, m, args, below, meth, c, hx, hb, hml, hown, hr, hlk, hK, rfl⟩ := hV
  intro H locs ls hP hS hl
  subst h1; subst h2; subst hret
  exact W.zret hx hb hr (by rcases hbo with rfl | rfl <;> rfl) (fun t ht hW => ⟨rfl, by rw [ht]; exact hP, hS.F ht⟩) hS.2.2 hd
theorem r_vret (hV : Pk l w cc nL own R ret rv FR V) (hret : ret = none) (hd : decode cc pc = .ok (.return_, 1)) (h1 : rv = none) (h2 : FR = FM) : V FM pc L [] := by
  obtain ⟨p, e, s, m, args, below, meth, c, hx, hb, hml, hown, hr, hlk, hK, rfl⟩ := hV
  intro H locs ls hP hS hl
  subst h1; subst h2; subst hret
  exact W.vret hx hb hr (fun t ht hW => ⟨rfl, by rw [ht]; exact hP, hS.F ht⟩) hS.2.2 hd
theorem r_aret (hV : Pk l w cc nL own R ret rv FR V) {v : Value} {C : String} (hret : ret = some (.object C)) (hv : v = .null ∨ ∃ a, v = .ref a) (hd : decode cc pc = .ok (.areturn, 1)) (h1 : rv = some v) (h2 : FR = FM) : V FM pc L [v] := by
  obtain ⟨p, e, s, m, args, below, meth, c, hx, hb, hml, hown, hr, hlk, hK, rfl⟩ := hV
  intro H locs ls hP hS hl
  subst h1; subst h2; subst hret
  exact W.aret hx hb hr (Or.inl ⟨_, rfl⟩) hv (fun t ht hW => ⟨rfl, by rw [ht]; exact hP, hS.F ht⟩) hS.2.2 hd
def MLb (y : MethodName) (bytes : ByteArray) (maxL : Nat) (rt : Option FieldType) (n : Nat) : Prop := inT (.code y bytes maxL rt) ∧ goodWord (.code y bytes maxL rt) = true ∧ inT (.initialized y.cls) ∧ y.cls ≠ "java/lang/invoke/MethodHandle" ∧ y.cls ≠ "java/lang/invoke/VarHandle" ∧ (parseMethodDescriptor y.desc).map (fun d => d.parameters.length) = some n
def MLl (own : String) (index : Nat) (y : MethodName) : Prop := inT (.methodLink own index y) ∨ ∃ h, inT (.methodLinkNest own index y h)
def MLV (own : String) (index : Nat) (y : MethodName) (bytes : ByteArray) (maxL : Nat) (rt : Option FieldType) (n : Nat) : Prop := MLb y bytes maxL rt n ∧ MLl own index y ∧ inT (.instanceMethod y) ∧ inT (.selects y.cls y y)
def MLS (own : String) (index : Nat) (y : MethodName) (bytes : ByteArray) (maxL : Nat) (rt : Option FieldType) (n : Nat) : Prop := MLb y bytes maxL rt n ∧ MLl own index y ∧ inT (.static y)
end ROWS
/-- behind a call: the memory that the callee leaves, its answer on the stack -/
theorem Wm.call {p : Program} {l : Launch} {e : Env} {R : Room} {s : State} {m : MethodId} {args : Array Value} {below : List Frame} {meth : Method} {c : Code} {H : Heap} {locs : List Loc} {Q : State → Prop} {w : Wd} {pc : Nat} {ls : Array Slot} {rest st0 : List Value} {a : Array Value} {rv1 : Option Value} {F1 : FMem}
    (hr : va_Run p l e R s m args below meth c H locs 0 0 0 0 (F0 m pc ls st0) rest (Qx w rv1 F1 a) (Rg w)) (hS : va_S (Rg w) s.heap H locs)
    (kk : ∀ (H1 : Heap) (locs1 : List Loc), va_P (wD w) vwCl (wl w F1) H1 → va_S (Rg w) s.heap H1 locs1 → W p l e R s m args below meth c H1 locs1 0 0 Q (F0 m (pc + 3) ls (rv1.toList ++ rest))) : W p l e R s m args below meth c H locs 0 0 Q (F0 m pc ls st0) := by
  intro T hT X
  obtain ⟨v, st₀, t, T', L, h0, X', hL, e1, e2, ⟨hv, hp, hz, hk⟩, st⟩ := hr T hT X
  cases hv
  rw [h0] at hz hk
  obtain ⟨t2, a1, b1⟩ := kk T'.heap (locs ++ L) (by rw [e1]; exact hp)
    ⟨Nat.le_trans hS.1 (by rw [e1]; exact hz), fun q h1 h2 => by rw [e1, hk q (Nat.lt_of_lt_of_le h1 hS.1) h2]; exact hS.2.1 q h1 h2, fun q hq => by
      rcases List.mem_append.mp hq with h | h
      · exact hS.2.2 q h
      · exact hL q h⟩ T' rfl X'
  exact ⟨t2, st t2 a1, b1⟩
theorem cb_of {R : Room} {s : State} {args : Array Value} {own : String} {index : Nat} {y : MethodName} {bytes : ByteArray} {maxL : Nat} {rt : Option FieldType} {n fr lo : Nat} {w : Wd} (hK : KU w s) (hb : MLb y bytes maxL rt n) (hl : inT (.methodLink own index y)) (hR : fr + 1 ≤ R.frames ∧ 8 + (maxL + 11) + lo ≤ R.locals) : CallB R s args own index y bytes maxL rt [.code y bytes maxL rt] (rmOf fr lo) 0 0 n := by
  obtain ⟨h1, h2, h3, h4, h5, h6⟩ := hb
  refine ⟨rfl, rfl, hR.1, hR.2, fun x hx a' U hW => ?_, List.mem_cons_self, hK.2 _ h1 _, hK.2 _ h3 _, ⟨h4, h5⟩, fun sig h => ?_, hK.2 _ hl _⟩
  · rw [List.mem_singleton.mp hx]
    exact (hK.2.warm hW) _ h1 _
  · rw [h] at h6
    exact (Option.some.inj h6).symm
theorem cn_of {R : Room} {s : State} {args : Array Value} {own host : String} {index : Nat} {y : MethodName} {bytes : ByteArray} {maxL : Nat} {rt : Option FieldType} {n fr lo : Nat} {w : Wd} (hK : KU w s) (hb : MLb y bytes maxL rt n) (hl : inT (.methodLinkNest own index y host)) (hR : fr + 1 ≤ R.frames ∧ 8 + (maxL + 11) + lo ≤ R.locals) : va_CN R s args own index y host bytes maxL rt [.code y bytes maxL rt] (rmOf fr lo) 0 0 n := by
  obtain ⟨h1, h2, h3, h4, h5, h6⟩ := hb
  refine ⟨⟨rfl, rfl, hR.1, hR.2, fun x hx a' U hW => ?_, List.mem_cons_self⟩, hK.2 _ h1 _, hK.2 _ h3 _, ⟨h4, h5⟩, fun sig h => ?_, hK.2 _ hl _⟩
  · rw [List.mem_singleton.mp hx]
    exact (hK.2.warm hW) _ h1 _
  · rw [h] at h6
    exact (Option.some.inj h6).symm
section CALLS
variable {l : Launch} {w : Wd} {cc : ByteArray} {nL : Nat} {own : String} {R : Room} {ret : Option FieldType} {rv : Option Value} {FR : FMem} {V : FMem → Nat → List (Option Value) → List Value → Prop} {FM : FMem} {pc : Nat} {L : List (Option Value)} {st : List Value}
variable {index i ci n fr lo maxL : Nat} {y : MethodName} {bytes : ByteArray} {rt : Option FieldType} {As : List Value} {F1 : FMem} {rv1 : Option Value} {fs : List Value}
theorem r_callV (hV : Pk l w cc nL own R ret rv FR V) {stk : List Value} (hM : Mt l w y bytes maxL rt fr lo (.ref (wB w + i) :: As) FM rv1 F1) (hl0 : MLV own index y bytes maxL rt n) (hi : i < wN w) (hm : wM w i (FM i) = .inr (ci, fs)) (hc : (vwCl[ci]?).map (fun q => q.1) = some y.cls) (hn : As.length = n) (hR : fr + 1 ≤ R.frames ∧ 8 + (maxL + 11) + lo ≤ R.locals) (hst : (st.map fun v => v.category).sum ≤ 8) (hstk : stk = As.reverse ++ .ref (wB w + i) :: st) (hd : decode cc pc = .ok (.invokevirtual index, 3)) (k : V F1 (pc + 3) L (rv1.toList ++ st)) : V FM pc L stk := by
  obtain ⟨p, e, s, m, args, below, meth, c, hx, hb, hml, hown, hr, hlk, hK, rfl⟩ := hV
  intro H locs ls hP hS hl
  subst hstk
  obtain ⟨h1, h2, h3, h4⟩ := hl0
  have hrec : ∃ cellB : Cell, H[wB w + i]? = some cellB ∧ cellB.vm.isStatics = false ∧ s.vm.findClass y.cls = some cellB.cls := by
    rw [Option.map_eq_some_iff] at hc
    obtain ⟨q, hq, hq2⟩ := hc
    rw [← hq2]
    exact va_recv hK.1 hP hq (q0 := i) (fs := fs) (by rw [wl_get hi, hm])
  have hp : PreV s H y.cls (wB w + i) (va_Pc (.ref (wB w + i) :: As) (Px w FM)) As := ⟨Px.blind, hrec, fun U hU hW => ⟨rfl, by rw [hU]; exact hP, hK.warm hW⟩⟩
  have S : CallFix p m c cc nL s args ([] : List Cond) own := ⟨hx, hb, hml, hown, fun _ h => by cases h⟩
  rcases h2 with h2 | ⟨host, h2⟩
  · exact Wm.call (va_runV (g := F0 m pc ls (As.reverse ++ .ref (wB w + i) :: st)) S hM ⟨cb_of hK h1 h2 hR, hK.2 _ h3 _, hK.2 _ h4 _⟩ hp rfl hn hl.2.1 rfl (lv_room hst) hd ⟨Nat.zero_le _, Nat.zero_le _⟩) hS (fun H1 locs1 g1 g2 => k H1 locs1 ls g1 g2 hl)
  · exact Wm.call (va_runVN (g := F0 m pc ls (As.reverse ++ .ref (wB w + i) :: st)) S hM ⟨cn_of hK h1 h2 hR, hK.2 _ h3 _, hK.2 _ h4 _⟩ hp rfl hn hl.2.1 rfl (lv_room hst) hd ⟨Nat.zero_le _, Nat.zero_le _⟩) hS (fun H1 locs1 g1 g2 => k H1 locs1 ls g1 g2 hl)
theorem r_callS (hV : Pk l w cc nL own R ret rv FR V) {stk : List Value} (hM : Mt l w y bytes maxL rt fr lo As FM rv1 F1) (hl0 : MLS own index y bytes maxL rt n) (hn : As.length = n) (hR : fr + 1 ≤ R.frames ∧ 8 + (maxL + 11) + lo ≤ R.locals) (hst : (st.map fun v => v.category).sum ≤ 8) (hstk : stk = As.reverse ++ st) (hd : decode cc pc = .ok (.invokestatic index, 3)) (k : V F1 (pc + 3) L (rv1.toList ++ st)) : V FM pc L stk := by
  obtain ⟨p, e, s, m, args, below, meth, c, hx, hb, hml, hown, hr, hlk, hK, rfl⟩ := hV
  intro H locs ls hP hS hl
  subst hstk
  obtain ⟨h1, h2, h3⟩ := hl0
  have hp : PreS s H (va_Pc As (Px w FM)) As := ⟨Px.blind, fun U hU hW => ⟨rfl, by rw [hU]; exact hP, hK.warm hW⟩⟩
  have S : CallFix p m c cc nL s args ([] : List Cond) own := ⟨hx, hb, hml, hown, fun _ h => by cases h⟩
  rcases h2 with h2 | ⟨host, h2⟩
  · exact Wm.call (va_runS (g := F0 m pc ls (As.reverse ++ st)) S hM ⟨cb_of hK h1 h2 hR, hK.2 _ h3 _⟩ hp rfl hn hl.2.1 rfl (lv_room hst) hd ⟨Nat.zero_le _, Nat.zero_le _⟩) hS (fun H1 locs1 g1 g2 => k H1 locs1 ls g1 g2 hl)
  · exact Wm.call (va_runSN (g := F0 m pc ls (As.reverse ++ st)) S hM ⟨cn_of hK h1 h2 hR, hK.2 _ h3 _, trivial⟩ hp rfl hn hl.2.1 rfl (lv_room hst) hd ⟨Nat.zero_le _, Nat.zero_le _⟩) hS (fun H1 locs1 g1 g2 => k H1 locs1 ls g1 g2 hl)
theorem r_mmax (hV : Pk l w cc nL own R ret rv FR V) {x y2 : Int32} (h1 : inT (.methodLink own index Lib.Math.max.name)) (h2 : inT (.static Lib.Math.max.name)) (h3 : inT (.initialized "java/lang/Math")) (h4 : inT (.code Lib.Math.max.name Lib.Math.max.code 2 (some .int))) (hR : 1 ≤ R.frames ∧ (st.map fun v => v.category).sum + 13 ≤ R.locals) (hd : decode cc pc = .ok (.invokestatic index, 3)) (k : V FM (pc + 3) L (.int (if x < y2 then y2 else x) :: st)) : V FM pc L (.int y2 :: .int x :: st) := by
  obtain ⟨p, e, s, m, args, below, meth, c, hx, hb, hml, hown, hr, hlk, hK, rfl⟩ := hV
  intro H locs ls hP hS hl
  exact va_mmax hx hb (hml.trans hl.2.1.symm) hown (hK.2 _ h1 _) (hK.2 _ h2 _) (hK.2 _ h3 _) (hK.2 _ h4 _) hR.1 hR.2 (Nat.zero_le _) (Nat.zero_le _) hd (k H locs ls hP hS hl)
theorem r_mmin (hV : Pk l w cc nL own R ret rv FR V) {x y2 : Int32} (h1 : inT (.methodLink own index Lib.Math.min.name)) (h2 : inT (.static Lib.Math.min.name)) (h3 : inT (.initialized "java/lang/Math")) (h4 : inT (.code Lib.Math.min.name Lib.Math.min.code 2 (some .int))) (hR : 1 ≤ R.frames ∧ (st.map fun v => v.category).sum + 13 ≤ R.locals) (hd : decode cc pc = .ok (.invokestatic index, 3)) (k : V FM (pc + 3) L (.int (if y2 < x then y2 else x) :: st)) : V FM pc L (.int y2 :: .int x :: st) := by
  obtain ⟨p, e, s, m, args, below, meth, c, hx, hb, hml, hown, hr, hlk, hK, rfl⟩ := hV
  intro H locs ls hP hS hl
  exact va_mmin hx hb (hml.trans hl.2.1.symm) hown (hK.2 _ h1 _) (hK.2 _ h2 _) (hK.2 _ h3 _) (hK.2 _ h4 _) hR.1 hR.2 (Nat.zero_le _) (Nat.zero_le _) hd (k H locs ls hP hS hl)
theorem r_copy (hV : Pk l w cc nL own R ret rv FR V) {j n0 n1 : Nat} {cA : ClassId} {sp dp len : Int32} (h1 : inT (.methodLink own index arraycopyName)) (h2 : inT (.native arraycopyName)) (h3 : inT (.static arraycopyName)) (h4 : inT (.initialized "java/lang/System")) (hi : i < wN w) (hj : j < wN w) (hm : ∀ row, wM w i row = .inl (cA, n0, .inl row)) (hm2 : ∀ row, wM w j row = .inl (cA, n1, .inl row)) (ht : (wT w)[0]? = some (cA, .int)) (g1 : ¬ sp < 0) (g2 : ¬ dp < 0) (g3 : ¬ len < 0) (g4 : sp.toNatClampNeg + len.toNatClampNeg ≤ n0) (g5 : dp.toNatClampNeg + len.toNatClampNeg ≤ n1) (hR : 1 ≤ R.frames ∧ (st.map fun v => v.category).sum + (nativeFrameWords "java/lang/System" "arraycopy" 5 + 11) ≤ R.locals) (hd : decode cc pc = .ok (.invokestatic index, 3)) (k : V (rset FM j (va_cpy (FM i) (FM j) sp.toNatClampNeg dp.toNatClampNeg len.toNatClampNeg)) (pc + 3) L st) : V FM pc L (.int len :: .int dp :: .ref (wB w + j) :: .int sp :: .ref (wB w + i) :: st) := by
  obtain ⟨p, e, s, m, args, below, meth, c, hx, hb, hml, hown, hr, hlk, hK, rfl⟩ := hV
  intro H locs ls hP hS hl
  refine va_copyi hx hb (hml.trans hl.2.1.symm) hown (hK.2 _ h1 _) (hK.2 _ h2 _) (hK.2 _ h3 _) (hK.2 _ h4 _) hK.1 hP wl_D hS i j 0 0 (by rw [wl_get hi, hm]) (by rw [wl_get hj, hm2]) ht ht rfl g1 g2 g3 g4 g5 (fun _ _ => rfl) hR.1 hR.2 hd (fun H1 locs1 q1 _ q3 => ?_)
  rw [← hm2, wl_set] at q1
  exact k H1 locs1 ls q1 q3 hl
end CALLS
