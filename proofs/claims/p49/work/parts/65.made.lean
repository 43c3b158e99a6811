/-! the walk of constructors: cells in a list, a new one put in front -/
def WDs (κ : KX) (ws : va_W) (H : Heap) : Prop := va_P κ.1 vwCl ws H ∧ va_D (kA κ) ws
def L (g : GX) (a b : Nat) (T : va_W) (pc : Nat) (lo : List (Nat × Value)) (st : List Value) : Prop :=
  ∀ (H : Heap) (locs : List Loc) (ls : Array Slot), WDs (gκ g) T H → va_S (kA (gκ g)) g.2.2.2.2.1.heap H locs → lv_has ls g.2.2.2.2.2.2.2.2.2.1.maxLocals lo →
    W g.1 g.2.1 g.2.2.1 g.2.2.2.1 g.2.2.2.2.1 g.2.2.2.2.2.1 g.2.2.2.2.2.2.1 g.2.2.2.2.2.2.2.1 g.2.2.2.2.2.2.2.2.1 g.2.2.2.2.2.2.2.2.2.1 H locs a b g.2.2.2.2.2.2.2.2.2.2.2 (F0 g.2.2.2.2.2.1 pc ls st)
/-- as CX, of a body that makes cells: its room, and the classes of references in arrays -/
def CL (g : GX) (own : String) (cc : ByteArray) (nL FR LO RC RS : Nat) : Prop :=
  g.1.tables.exec = Jvm.exec ∧ g.2.2.2.2.2.2.2.2.2.1.code = cc ∧ g.2.2.2.2.2.2.2.2.2.1.maxLocals = nL ∧ g.2.2.2.2.1.vm.findClass own = some g.2.2.2.2.2.1.cls ∧ (∀ w ∈ WG, w.before g.2.2.2.2.2.2.1 g.2.2.2.2.1 = true) ∧ KxS (gκ g) (gs g) ∧ (g.2.2.2.1.cells = RC ∧ g.2.2.2.1.slots = RS ∧ va_AO RX0 (gs g) ∧ va_AO RX5 (gs g)) ∧ Str (gκ g) (gs g) (gs g).heap ∧ g.2.2.2.1.frames = FR ∧ g.2.2.2.1.locals = LO ∧ (∀ q, (gs g).heap.size ≤ q → kA (gκ g) q) ∧ g.2.1.stackTraces = false ∧ g.2.2.2.2.2.2.2.2.1.locks = false
section
variable {g : GX} {a b : Nat} {T : va_W} {pc : Nat} {lo : List (Nat × Value)} {st : List Value} {own : String} {cc : ByteArray} {nL FR LO RC RS : Nat}
theorem L_sub (ks : List Nat) {lo' : List (Nat × Value)} (hl : lv_pick lo ks = lo') (k : L g a b T pc lo' st) : L g a b T pc lo st := fun H locs ls hP hS h => k H locs ls hP hS (lv_sub h ks hl)
theorem L_T {T' : va_W} (h : T' = T) (k : L g a b T' pc lo st) : L g a b T pc lo st := h ▸ k
theorem L_widen {a' b' : Nat} (h1 : a ≤ a') (h2 : b ≤ b') (k : L g a' b' T pc lo st) : L g a b T pc lo st := fun H locs ls hP hS h => W.widen h1 h2 (k H locs ls hP hS h)
theorem L_iconst (X : CL g own cc nL FR LO RC RS) {n : Int} {v : Int32} (hd : decode cc pc = .ok (.iconst n, 1)) (hv : Int32.ofInt n = v) (k : L g a b T (pc + 1) lo (.int v :: st)) : L g a b T pc lo (st) := fun H locs ls hP hS hl => lv_iconst X.1 X.2.1 hd hv (k H locs ls hP hS hl)
theorem L_bipush (X : CL g own cc nL FR LO RC RS) {n : Int} {v : Int32} (hd : decode cc pc = .ok (.bipush n, 2)) (hv : (Int8.ofInt n).toInt32 = v) (k : L g a b T (pc + 2) lo (.int v :: st)) : L g a b T pc lo (st) := fun H locs ls hP hS hl => lv_bipush X.1 X.2.1 hd hv (k H locs ls hP hS hl)
theorem L_sipush (X : CL g own cc nL FR LO RC RS) {n : Int} {v : Int32} (hd : decode cc pc = .ok (.sipush n, 3)) (hv : (Int16.ofInt n).toInt32 = v) (k : L g a b T (pc + 3) lo (.int v :: st)) : L g a b T pc lo (st) := fun H locs ls hP hS hl => lv_sipush X.1 X.2.1 hd hv (k H locs ls hP hS hl)
theorem L_lconst (X : CL g own cc nL FR LO RC RS) {n : Fin 2} {v : Int64} (hd : decode cc pc = .ok (.lconst n, 1)) (hv : Int64.ofNat (n : Nat) = v) (k : L g a b T (pc + 1) lo (.long v :: st)) : L g a b T pc lo (st) := fun H locs ls hP hS hl => lv_lconst X.1 X.2.1 hd hv (k H locs ls hP hS hl)
theorem L_iload_n (X : CL g own cc nL FR LO RC RS) {n : Fin 4} {i : Nat} {x : Int32} (q : Nat) (hd : decode cc pc = .ok (.iload_n n, 1)) (hi : (n : Nat) = i) (hq : lo[q]? = some (i, .int x)) (k : L g a b T (pc + 1) lo (.int x :: st)) : L g a b T pc lo (st) := fun H locs ls hP hS hl => lv_iload_n X.1 X.2.1 hd hi (lv_at hl q hq) (k H locs ls hP hS hl)
theorem L_iload (X : CL g own cc nL FR LO RC RS) {i : Nat} {x : Int32} (q : Nat) (hd : decode cc pc = .ok (.iload i, 2)) (hq : lo[q]? = some (i, .int x)) (k : L g a b T (pc + 2) lo (.int x :: st)) : L g a b T pc lo (st) := fun H locs ls hP hS hl => lv_iload X.1 X.2.1 hd (lv_at hl q hq) (k H locs ls hP hS hl)
theorem L_lload_n (X : CL g own cc nL FR LO RC RS) {n : Fin 4} {i : Nat} {x : Int64} (q : Nat) (hd : decode cc pc = .ok (.lload_n n, 1)) (hi : (n : Nat) = i) (hq : lo[q]? = some (i, .long x)) (k : L g a b T (pc + 1) lo (.long x :: st)) : L g a b T pc lo (st) := fun H locs ls hP hS hl => lv_lload_n X.1 X.2.1 hd hi (lv_at hl q hq) (k H locs ls hP hS hl)
theorem L_lload (X : CL g own cc nL FR LO RC RS) {i : Nat} {x : Int64} (q : Nat) (hd : decode cc pc = .ok (.lload i, 2)) (hq : lo[q]? = some (i, .long x)) (k : L g a b T (pc + 2) lo (.long x :: st)) : L g a b T pc lo (st) := fun H locs ls hP hS hl => lv_lload X.1 X.2.1 hd (lv_at hl q hq) (k H locs ls hP hS hl)
theorem L_aload_n (X : CL g own cc nL FR LO RC RS) {n : Fin 4} {i : Nat} {x : Nat} (q : Nat) (hd : decode cc pc = .ok (.aload_n n, 1)) (hi : (n : Nat) = i) (hq : lo[q]? = some (i, .ref x)) (k : L g a b T (pc + 1) lo (.ref x :: st)) : L g a b T pc lo (st) := fun H locs ls hP hS hl => lv_aload_n X.1 X.2.1 hd hi (lv_at hl q hq) (k H locs ls hP hS hl)
theorem L_aload (X : CL g own cc nL FR LO RC RS) {i : Nat} {x : Nat} (q : Nat) (hd : decode cc pc = .ok (.aload i, 2)) (hq : lo[q]? = some (i, .ref x)) (k : L g a b T (pc + 2) lo (.ref x :: st)) : L g a b T pc lo (st) := fun H locs ls hP hS hl => lv_aload X.1 X.2.1 hd (lv_at hl q hq) (k H locs ls hP hS hl)
theorem L_dload (X : CL g own cc nL FR LO RC RS) {i : Nat} {x : UInt64} (q : Nat) (hd : decode cc pc = .ok (.dload i, 2)) (hq : lo[q]? = some (i, .double x)) (k : L g a b T (pc + 2) lo (.double x :: st)) : L g a b T pc lo (st) := fun H locs ls hP hS hl => lv_dload X.1 X.2.1 hd (lv_at hl q hq) (k H locs ls hP hS hl)
theorem L_istore_n (X : CL g own cc nL FR LO RC RS) {n : Fin 4} {i : Nat} {x : Int32} {lv' : List (Nat × Value)} (hd : decode cc pc = .ok (.istore_n n, 1)) (hi : (n : Nat) = i) (hn : i < nL) (hv : (i, .int x) :: lo.filter (fun q => !(q.1 == i) && !(q.1 + 1 == i && q.2.category == 2)) = lv') (k : L g a b T (pc + 1) lv' st) : L g a b T pc lo (.int x :: st) := fun H locs ls hP hS hl => lv_istore_n X.1 X.2.1 hd hi hl (by rw [X.2.2.1]; exact hn) hv (fun ls2 h2 => k H locs ls2 hP hS h2)
theorem L_istore (X : CL g own cc nL FR LO RC RS) {i : Nat} {x : Int32} {lv' : List (Nat × Value)} (hd : decode cc pc = .ok (.istore i, 2)) (hn : i < nL) (hv : (i, .int x) :: lo.filter (fun q => !(q.1 == i) && !(q.1 + 1 == i && q.2.category == 2)) = lv') (k : L g a b T (pc + 2) lv' st) : L g a b T pc lo (.int x :: st) := fun H locs ls hP hS hl => lv_istore X.1 X.2.1 hd hl (by rw [X.2.2.1]; exact hn) hv (fun ls2 h2 => k H locs ls2 hP hS h2)
theorem L_astore_n (X : CL g own cc nL FR LO RC RS) {n : Fin 4} {i : Nat} {x : Nat} {lv' : List (Nat × Value)} (hd : decode cc pc = .ok (.astore_n n, 1)) (hi : (n : Nat) = i) (hn : i < nL) (hv : (i, .ref x) :: lo.filter (fun q => !(q.1 == i) && !(q.1 + 1 == i && q.2.category == 2)) = lv') (k : L g a b T (pc + 1) lv' st) : L g a b T pc lo (.ref x :: st) := fun H locs ls hP hS hl => lv_astore_n X.1 X.2.1 hd hi hl (by rw [X.2.2.1]; exact hn) hv (fun ls2 h2 => k H locs ls2 hP hS h2)
theorem L_astore (X : CL g own cc nL FR LO RC RS) {i : Nat} {x : Nat} {lv' : List (Nat × Value)} (hd : decode cc pc = .ok (.astore i, 2)) (hn : i < nL) (hv : (i, .ref x) :: lo.filter (fun q => !(q.1 == i) && !(q.1 + 1 == i && q.2.category == 2)) = lv') (k : L g a b T (pc + 2) lv' st) : L g a b T pc lo (.ref x :: st) := fun H locs ls hP hS hl => lv_astore X.1 X.2.1 hd hl (by rw [X.2.2.1]; exact hn) hv (fun ls2 h2 => k H locs ls2 hP hS h2)
theorem L_lstore_n (X : CL g own cc nL FR LO RC RS) {n : Fin 4} {i : Nat} {x : Int64} {lv' : List (Nat × Value)} (hd : decode cc pc = .ok (.lstore_n n, 1)) (hi : (n : Nat) = i) (hn : i + 1 < nL) (hv : (i, .long x) :: lo.filter (fun q => !(q.1 == i) && (!(q.1 == i + 1) && !(q.1 + 1 == i && q.2.category == 2))) = lv') (k : L g a b T (pc + 1) lv' st) : L g a b T pc lo (.long x :: st) := fun H locs ls hP hS hl => lv_lstore_n X.1 X.2.1 hd hi hl (by rw [X.2.2.1]; exact hn) hv (fun ls2 h2 => k H locs ls2 hP hS h2)
theorem L_lstore (X : CL g own cc nL FR LO RC RS) {i : Nat} {x : Int64} {lv' : List (Nat × Value)} (hd : decode cc pc = .ok (.lstore i, 2)) (hn : i + 1 < nL) (hv : (i, .long x) :: lo.filter (fun q => !(q.1 == i) && (!(q.1 == i + 1) && !(q.1 + 1 == i && q.2.category == 2))) = lv') (k : L g a b T (pc + 2) lv' st) : L g a b T pc lo (.long x :: st) := fun H locs ls hP hS hl => lv_lstore X.1 X.2.1 hd hl (by rw [X.2.2.1]; exact hn) hv (fun ls2 h2 => k H locs ls2 hP hS h2)
theorem L_dstore (X : CL g own cc nL FR LO RC RS) {i : Nat} {x : UInt64} {lv' : List (Nat × Value)} (hd : decode cc pc = .ok (.dstore i, 2)) (hn : i + 1 < nL) (hv : (i, .double x) :: lo.filter (fun q => !(q.1 == i) && (!(q.1 == i + 1) && !(q.1 + 1 == i && q.2.category == 2))) = lv') (k : L g a b T (pc + 2) lv' st) : L g a b T pc lo (.double x :: st) := fun H locs ls hP hS hl => lv_dstore X.1 X.2.1 hd hl (by rw [X.2.2.1]; exact hn) hv (fun ls2 h2 => k H locs ls2 hP hS h2)
theorem L_iinc (X : CL g own cc nL FR LO RC RS) {i : Nat} {n : Int} {x v : Int32} {lv' : List (Nat × Value)} (q : Nat) (hd : decode cc pc = .ok (.iinc i n, 3)) (hq : lo[q]? = some (i, .int x)) (hv : x + Int32.ofInt n = v) (hn : i < nL) (hw : (i, Value.int v) :: lo.filter (fun q => !(q.1 == i) && !(q.1 + 1 == i && q.2.category == 2)) = lv') (k : L g a b T (pc + 3) lv' st) : L g a b T pc lo st := fun H locs ls hP hS hl => lv_iinc X.1 X.2.1 hd hl hq hv (by rw [X.2.2.1]; exact hn) hw (fun ls2 h2 => k H locs ls2 hP hS h2)
theorem L_iadd (X : CL g own cc nL FR LO RC RS) {x y : Int32} (hd : decode cc pc = .ok (.iadd, 1)) (k : L g a b T (pc + 1) lo (.int (x + y) :: st)) : L g a b T pc lo (.int y :: .int x :: st) := fun H locs ls hP hS hl => lv_iadd X.1 X.2.1 hd (k H locs ls hP hS hl)
theorem L_isub (X : CL g own cc nL FR LO RC RS) {x y : Int32} (hd : decode cc pc = .ok (.isub, 1)) (k : L g a b T (pc + 1) lo (.int (x - y) :: st)) : L g a b T pc lo (.int y :: .int x :: st) := fun H locs ls hP hS hl => lv_isub X.1 X.2.1 hd (k H locs ls hP hS hl)
theorem L_imul (X : CL g own cc nL FR LO RC RS) {x y : Int32} (hd : decode cc pc = .ok (.imul, 1)) (k : L g a b T (pc + 1) lo (.int (x * y) :: st)) : L g a b T pc lo (.int y :: .int x :: st) := fun H locs ls hP hS hl => lv_imul X.1 X.2.1 hd (k H locs ls hP hS hl)
theorem L_iand (X : CL g own cc nL FR LO RC RS) {x y : Int32} (hd : decode cc pc = .ok (.iand, 1)) (k : L g a b T (pc + 1) lo (.int (x &&& y) :: st)) : L g a b T pc lo (.int y :: .int x :: st) := fun H locs ls hP hS hl => lv_iand X.1 X.2.1 hd (k H locs ls hP hS hl)
theorem L_ior (X : CL g own cc nL FR LO RC RS) {x y : Int32} (hd : decode cc pc = .ok (.ior, 1)) (k : L g a b T (pc + 1) lo (.int (x ||| y) :: st)) : L g a b T pc lo (.int y :: .int x :: st) := fun H locs ls hP hS hl => lv_ior X.1 X.2.1 hd (k H locs ls hP hS hl)
theorem L_ixor (X : CL g own cc nL FR LO RC RS) {x y : Int32} (hd : decode cc pc = .ok (.ixor, 1)) (k : L g a b T (pc + 1) lo (.int (x ^^^ y) :: st)) : L g a b T pc lo (.int y :: .int x :: st) := fun H locs ls hP hS hl => lv_ixor X.1 X.2.1 hd (k H locs ls hP hS hl)
theorem L_ishl (X : CL g own cc nL FR LO RC RS) {x y : Int32} (hd : decode cc pc = .ok (.ishl, 1)) (k : L g a b T (pc + 1) lo (.int (x <<< (y &&& 31)) :: st)) : L g a b T pc lo (.int y :: .int x :: st) := fun H locs ls hP hS hl => lv_ishl X.1 X.2.1 hd (k H locs ls hP hS hl)
theorem L_ishr (X : CL g own cc nL FR LO RC RS) {x y : Int32} (hd : decode cc pc = .ok (.ishr, 1)) (k : L g a b T (pc + 1) lo (.int (x >>> (y &&& 31)) :: st)) : L g a b T pc lo (.int y :: .int x :: st) := fun H locs ls hP hS hl => lv_ishr X.1 X.2.1 hd (k H locs ls hP hS hl)
theorem L_idiv (X : CL g own cc nL FR LO RC RS) {x y : Int32} (hd : decode cc pc = .ok (.idiv, 1)) (hy : ¬ y = 0) (k : L g a b T (pc + 1) lo (.int (x / y) :: st)) : L g a b T pc lo (.int y :: .int x :: st) := fun H locs ls hP hS hl => lv_idiv X.1 X.2.1 hd hy (k H locs ls hP hS hl)
theorem L_irem (X : CL g own cc nL FR LO RC RS) {x y : Int32} (hd : decode cc pc = .ok (.irem, 1)) (hy : ¬ y = 0) (k : L g a b T (pc + 1) lo (.int (x - x / y * y) :: st)) : L g a b T pc lo (.int y :: .int x :: st) := fun H locs ls hP hS hl => lv_irem X.1 X.2.1 hd hy (k H locs ls hP hS hl)
theorem L_ineg (X : CL g own cc nL FR LO RC RS) {x : Int32} (hd : decode cc pc = .ok (.ineg, 1)) (k : L g a b T (pc + 1) lo (.int (-x) :: st)) : L g a b T pc lo (.int x :: st) := fun H locs ls hP hS hl => lv_ineg X.1 X.2.1 hd (k H locs ls hP hS hl)
theorem L_ladd (X : CL g own cc nL FR LO RC RS) {x y : Int64} (hd : decode cc pc = .ok (.ladd, 1)) (k : L g a b T (pc + 1) lo (.long (x + y) :: st)) : L g a b T pc lo (.long y :: .long x :: st) := fun H locs ls hP hS hl => lv_ladd X.1 X.2.1 hd (k H locs ls hP hS hl)
theorem L_lsub (X : CL g own cc nL FR LO RC RS) {x y : Int64} (hd : decode cc pc = .ok (.lsub, 1)) (k : L g a b T (pc + 1) lo (.long (x - y) :: st)) : L g a b T pc lo (.long y :: .long x :: st) := fun H locs ls hP hS hl => lv_lsub X.1 X.2.1 hd (k H locs ls hP hS hl)
theorem L_land (X : CL g own cc nL FR LO RC RS) {x y : Int64} (hd : decode cc pc = .ok (.land, 1)) (k : L g a b T (pc + 1) lo (.long (x &&& y) :: st)) : L g a b T pc lo (.long y :: .long x :: st) := fun H locs ls hP hS hl => lv_land X.1 X.2.1 hd (k H locs ls hP hS hl)
theorem L_lor (X : CL g own cc nL FR LO RC RS) {x y : Int64} (hd : decode cc pc = .ok (.lor, 1)) (k : L g a b T (pc + 1) lo (.long (x ||| y) :: st)) : L g a b T pc lo (.long y :: .long x :: st) := fun H locs ls hP hS hl => lv_lor X.1 X.2.1 hd (k H locs ls hP hS hl)
theorem L_iushr (X : CL g own cc nL FR LO RC RS) {x y : Int32} (hd : decode cc pc = .ok (.iushr, 1)) (k : L g a b T (pc + 1) lo (.int ((x.toUInt32 >>> (y.toUInt32 &&& Int32.toUInt32 31)).toInt32) :: st)) : L g a b T pc lo (.int y :: .int x :: st) := fun H locs ls hP hS hl => lv_iushr X.1 X.2.1 hd rfl (k H locs ls hP hS hl)
theorem L_lshl (X : CL g own cc nL FR LO RC RS) {x : Int64} {y : Int32} (hd : decode cc pc = .ok (.lshl, 1)) (k : L g a b T (pc + 1) lo (.long (x <<< (y.toInt64 &&& 63)) :: st)) : L g a b T pc lo (.int y :: .long x :: st) := fun H locs ls hP hS hl => lv_lshl X.1 X.2.1 hd rfl (k H locs ls hP hS hl)
theorem L_lshr (X : CL g own cc nL FR LO RC RS) {x : Int64} {y : Int32} (hd : decode cc pc = .ok (.lshr, 1)) (k : L g a b T (pc + 1) lo (.long (x >>> (y.toInt64 &&& 63)) :: st)) : L g a b T pc lo (.int y :: .long x :: st) := fun H locs ls hP hS hl => lv_lshr X.1 X.2.1 hd rfl (k H locs ls hP hS hl)
theorem L_lushr (X : CL g own cc nL FR LO RC RS) {x : Int64} {y : Int32} (hd : decode cc pc = .ok (.lushr, 1)) (k : L g a b T (pc + 1) lo (.long ((x.toUInt64 >>> (y.toInt64.toUInt64 &&& Int64.toUInt64 63)).toInt64) :: st)) : L g a b T pc lo (.int y :: .long x :: st) := fun H locs ls hP hS hl => lv_lushr X.1 X.2.1 hd rfl (k H locs ls hP hS hl)
theorem L_i2l (X : CL g own cc nL FR LO RC RS) {x : Int32} (hd : decode cc pc = .ok (.i2l, 1)) (k : L g a b T (pc + 1) lo (.long x.toInt64 :: st)) : L g a b T pc lo (.int x :: st) := fun H locs ls hP hS hl => lv_i2l X.1 X.2.1 hd rfl (k H locs ls hP hS hl)
theorem L_l2i (X : CL g own cc nL FR LO RC RS) {x : Int64} (hd : decode cc pc = .ok (.l2i, 1)) (k : L g a b T (pc + 1) lo (.int x.toInt32 :: st)) : L g a b T pc lo (.long x :: st) := fun H locs ls hP hS hl => lv_l2i X.1 X.2.1 hd rfl (k H locs ls hP hS hl)
theorem L_i2b (X : CL g own cc nL FR LO RC RS) {x : Int32} (hd : decode cc pc = .ok (.i2b, 1)) (k : L g a b T (pc + 1) lo (.int x.toInt8.toInt32 :: st)) : L g a b T pc lo (.int x :: st) := fun H locs ls hP hS hl => lv_i2b X.1 X.2.1 hd rfl (k H locs ls hP hS hl)
theorem L_lcmp (X : CL g own cc nL FR LO RC RS) {x y : Int64} (hd : decode cc pc = .ok (.lcmp, 1)) (k : L g a b T (pc + 1) lo (.int (lg_cmp x y) :: st)) : L g a b T pc lo (.long y :: .long x :: st) := fun H locs ls hP hS hl => W.lcmp X.1 X.2.1 hd (k H locs ls hP hS hl)
theorem L_dup (X : CL g own cc nL FR LO RC RS) {v : Value} (hd : decode cc pc = .ok (.dup, 1)) (hv : v.category = 1) (k : L g a b T (pc + 1) lo (v :: v :: st)) : L g a b T pc lo (v :: st) := fun H locs ls hP hS hl => lv_dup X.1 X.2.1 hd hv (k H locs ls hP hS hl)
theorem L_pop (X : CL g own cc nL FR LO RC RS) {v : Value} (hd : decode cc pc = .ok (.pop, 1)) (hv : v.category = 1) (k : L g a b T (pc + 1) lo (st)) : L g a b T pc lo (v :: st) := fun H locs ls hP hS hl => lv_pop X.1 X.2.1 hd hv (k H locs ls hP hS hl)
theorem L_dup2 (X : CL g own cc nL FR LO RC RS) {v w : Value} (hd : decode cc pc = .ok (.dup2, 1)) (hv : v.category = 1) (hw : w.category = 1) (k : L g a b T (pc + 1) lo (v :: w :: v :: w :: st)) : L g a b T pc lo (v :: w :: st) := fun H locs ls hP hS hl => lv_dup2_11 X.1 X.2.1 hd hv hw (k H locs ls hP hS hl)
theorem L_i2f (X : CL g own cc nL FR LO RC RS) {x : Int32} (hd : decode cc pc = .ok (.i2f, 1)) (k : L g a b T (pc + 1) lo (.float (FP.i2f x) :: st)) : L g a b T pc lo (.int x :: st) := fun H locs ls hP hS hl => lv_i2f X.1 X.2.1 hd (k H locs ls hP hS hl)
theorem L_i2d (X : CL g own cc nL FR LO RC RS) {x : Int32} (hd : decode cc pc = .ok (.i2d, 1)) (k : L g a b T (pc + 1) lo (.double (FP.i2d x) :: st)) : L g a b T pc lo (.int x :: st) := fun H locs ls hP hS hl => lv_i2d X.1 X.2.1 hd (k H locs ls hP hS hl)
theorem L_ldc (X : CL g own cc nL FR LO RC RS) {index : Nat} {v : Int32} (hd : decode cc pc = .ok (.ldc index, 2)) (hw : Cond.constant own index v ∈ WG) (k : L g a b T (pc + 2) lo (.int v :: st)) : L g a b T pc lo (st) := fun H locs ls hP hS hl => lv_ldc X.1 X.2.1 X.2.2.2.1 (X.2.2.2.2.1 _ hw) hd (k H locs ls hP hS hl)
theorem L_ldc_w (X : CL g own cc nL FR LO RC RS) {index : Nat} {v : Int32} (hd : decode cc pc = .ok (.ldc_w index, 3)) (hw : Cond.constant own index v ∈ WG) (k : L g a b T (pc + 3) lo (.int v :: st)) : L g a b T pc lo (st) := fun H locs ls hP hS hl => lv_ldcw X.1 X.2.1 X.2.2.2.1 (X.2.2.2.2.1 _ hw) hd (k H locs ls hP hS hl)
theorem L_ldc2_w (X : CL g own cc nL FR LO RC RS) {index : Nat} {v : Int64} (hd : decode cc pc = .ok (.ldc2_w index, 3)) (hw : Cond.constantLong own index v ∈ WG) (k : L g a b T (pc + 3) lo (.long v :: st)) : L g a b T pc lo (st) := fun H locs ls hP hS hl => lv_ldc2 X.1 X.2.1 X.2.2.2.1 (X.2.2.2.2.1 _ hw) hd (k H locs ls hP hS hl)
theorem L_if_eq (X : CL g own cc nL FR LO RC RS) {x : Int32} {off : Int} {tgt : Nat} (hd : decode cc pc = .ok (.ifCond .eq off, 3)) (ht : (pc : Int) + off = (tgt : Int)) (kt : x = 0 → L g a b T tgt lo st) (kf : ¬ (x = 0) → L g a b T (pc + 3) lo st) : L g a b T pc lo (.int x :: st) := fun H locs ls hP hS hl => lv_if_eq X.1 X.2.1 hd ht (fun c => kt c H locs ls hP hS hl) (fun c => kf c H locs ls hP hS hl)
theorem L_if_ne (X : CL g own cc nL FR LO RC RS) {x : Int32} {off : Int} {tgt : Nat} (hd : decode cc pc = .ok (.ifCond .ne off, 3)) (ht : (pc : Int) + off = (tgt : Int)) (kt : ¬ x = 0 → L g a b T tgt lo st) (kf : x = 0 → L g a b T (pc + 3) lo st) : L g a b T pc lo (.int x :: st) := fun H locs ls hP hS hl => lv_if_ne X.1 X.2.1 hd ht (fun c => kt c H locs ls hP hS hl) (fun c => kf c H locs ls hP hS hl)
theorem L_if_lt (X : CL g own cc nL FR LO RC RS) {x : Int32} {off : Int} {tgt : Nat} (hd : decode cc pc = .ok (.ifCond .lt off, 3)) (ht : (pc : Int) + off = (tgt : Int)) (kt : x < 0 → L g a b T tgt lo st) (kf : ¬ (x < 0) → L g a b T (pc + 3) lo st) : L g a b T pc lo (.int x :: st) := fun H locs ls hP hS hl => lv_if_lt X.1 X.2.1 hd ht (fun c => kt c H locs ls hP hS hl) (fun c => kf c H locs ls hP hS hl)
theorem L_if_ge (X : CL g own cc nL FR LO RC RS) {x : Int32} {off : Int} {tgt : Nat} (hd : decode cc pc = .ok (.ifCond .ge off, 3)) (ht : (pc : Int) + off = (tgt : Int)) (kt : 0 ≤ x → L g a b T tgt lo st) (kf : ¬ (0 ≤ x) → L g a b T (pc + 3) lo st) : L g a b T pc lo (.int x :: st) := fun H locs ls hP hS hl => lv_if_ge X.1 X.2.1 hd ht (fun c => kt c H locs ls hP hS hl) (fun c => kf c H locs ls hP hS hl)
theorem L_if_gt (X : CL g own cc nL FR LO RC RS) {x : Int32} {off : Int} {tgt : Nat} (hd : decode cc pc = .ok (.ifCond .gt off, 3)) (ht : (pc : Int) + off = (tgt : Int)) (kt : 0 < x → L g a b T tgt lo st) (kf : ¬ (0 < x) → L g a b T (pc + 3) lo st) : L g a b T pc lo (.int x :: st) := fun H locs ls hP hS hl => lv_if_gt X.1 X.2.1 hd ht (fun c => kt c H locs ls hP hS hl) (fun c => kf c H locs ls hP hS hl)
theorem L_if_le (X : CL g own cc nL FR LO RC RS) {x : Int32} {off : Int} {tgt : Nat} (hd : decode cc pc = .ok (.ifCond .le off, 3)) (ht : (pc : Int) + off = (tgt : Int)) (kt : x ≤ 0 → L g a b T tgt lo st) (kf : ¬ (x ≤ 0) → L g a b T (pc + 3) lo st) : L g a b T pc lo (.int x :: st) := fun H locs ls hP hS hl => lv_if_le X.1 X.2.1 hd ht (fun c => kt c H locs ls hP hS hl) (fun c => kf c H locs ls hP hS hl)
theorem L_icmp_eq (X : CL g own cc nL FR LO RC RS) {x y : Int32} {off : Int} {tgt : Nat} (hd : decode cc pc = .ok (.if_icmp .eq off, 3)) (ht : (pc : Int) + off = (tgt : Int)) (kt : x = y → L g a b T tgt lo st) (kf : ¬ (x = y) → L g a b T (pc + 3) lo st) : L g a b T pc lo (.int y :: .int x :: st) := fun H locs ls hP hS hl => lv_icmp_eq X.1 X.2.1 hd ht (fun c => kt c H locs ls hP hS hl) (fun c => kf c H locs ls hP hS hl)
theorem L_icmp_ne (X : CL g own cc nL FR LO RC RS) {x y : Int32} {off : Int} {tgt : Nat} (hd : decode cc pc = .ok (.if_icmp .ne off, 3)) (ht : (pc : Int) + off = (tgt : Int)) (kt : ¬ x = y → L g a b T tgt lo st) (kf : x = y → L g a b T (pc + 3) lo st) : L g a b T pc lo (.int y :: .int x :: st) := fun H locs ls hP hS hl => lv_icmp_ne X.1 X.2.1 hd ht (fun c => kt c H locs ls hP hS hl) (fun c => kf c H locs ls hP hS hl)
theorem L_icmp_lt (X : CL g own cc nL FR LO RC RS) {x y : Int32} {off : Int} {tgt : Nat} (hd : decode cc pc = .ok (.if_icmp .lt off, 3)) (ht : (pc : Int) + off = (tgt : Int)) (kt : x < y → L g a b T tgt lo st) (kf : ¬ (x < y) → L g a b T (pc + 3) lo st) : L g a b T pc lo (.int y :: .int x :: st) := fun H locs ls hP hS hl => lv_icmp_lt X.1 X.2.1 hd ht (fun c => kt c H locs ls hP hS hl) (fun c => kf c H locs ls hP hS hl)
theorem L_icmp_ge (X : CL g own cc nL FR LO RC RS) {x y : Int32} {off : Int} {tgt : Nat} (hd : decode cc pc = .ok (.if_icmp .ge off, 3)) (ht : (pc : Int) + off = (tgt : Int)) (kt : y ≤ x → L g a b T tgt lo st) (kf : ¬ (y ≤ x) → L g a b T (pc + 3) lo st) : L g a b T pc lo (.int y :: .int x :: st) := fun H locs ls hP hS hl => lv_icmp_ge X.1 X.2.1 hd ht (fun c => kt c H locs ls hP hS hl) (fun c => kf c H locs ls hP hS hl)
theorem L_icmp_gt (X : CL g own cc nL FR LO RC RS) {x y : Int32} {off : Int} {tgt : Nat} (hd : decode cc pc = .ok (.if_icmp .gt off, 3)) (ht : (pc : Int) + off = (tgt : Int)) (kt : y < x → L g a b T tgt lo st) (kf : ¬ (y < x) → L g a b T (pc + 3) lo st) : L g a b T pc lo (.int y :: .int x :: st) := fun H locs ls hP hS hl => lv_icmp_gt X.1 X.2.1 hd ht (fun c => kt c H locs ls hP hS hl) (fun c => kf c H locs ls hP hS hl)
theorem L_icmp_le (X : CL g own cc nL FR LO RC RS) {x y : Int32} {off : Int} {tgt : Nat} (hd : decode cc pc = .ok (.if_icmp .le off, 3)) (ht : (pc : Int) + off = (tgt : Int)) (kt : x ≤ y → L g a b T tgt lo st) (kf : ¬ (x ≤ y) → L g a b T (pc + 3) lo st) : L g a b T pc lo (.int y :: .int x :: st) := fun H locs ls hP hS hl => lv_icmp_le X.1 X.2.1 hd ht (fun c => kt c H locs ls hP hS hl) (fun c => kf c H locs ls hP hS hl)
theorem L_goto (X : CL g own cc nL FR LO RC RS) {off : Int} {tgt : Nat} (hd : decode cc pc = .ok (.goto off, 3)) (ht : (pc : Int) + off = (tgt : Int)) (k : L g a b T tgt lo st) : L g a b T pc lo st := fun H locs ls hP hS hl => lv_goto X.1 X.2.1 hd ht (k H locs ls hP hS hl)
theorem L_tabIn (X : CL g own cc nL FR LO RC RS) {dflt lw hg : Int} {offs : Array Int} {len : Nat} {x : Int32} {off : Int} {tgt : Nat} (hd : decode cc pc = .ok (.tableswitch dflt lw hg offs, len)) (h1 : ¬ x.toInt < lw) (h2 : ¬ hg < x.toInt) (ho : offs[(x.toInt - lw).toNat]? = some off) (ht : (pc : Int) + off = (tgt : Int)) (k : L g a b T tgt lo st) : L g a b T pc lo (.int x :: st) := fun H locs ls hP hS hl => lv_tableIn X.1 X.2.1 hd h1 h2 ho ht (k H locs ls hP hS hl)
theorem L_tabOut (X : CL g own cc nL FR LO RC RS) {dflt lw hg : Int} {offs : Array Int} {len : Nat} {x : Int32} {tgt : Nat} (hd : decode cc pc = .ok (.tableswitch dflt lw hg offs, len)) (h1 : x.toInt < lw ∨ hg < x.toInt) (ht : (pc : Int) + dflt = (tgt : Int)) (k : L g a b T tgt lo st) : L g a b T pc lo (.int x :: st) := fun H locs ls hP hS hl => lv_tableOut X.1 X.2.1 hd h1 ht (k H locs ls hP hS hl)
theorem L_look (X : CL g own cc nL FR LO RC RS) {dflt : Int} {ps : Array (Int × Int)} {len : Nat} {x : Int32} {off : Int} {tgt : Nat} (hd : decode cc pc = .ok (.lookupswitch dflt ps, len)) (hp : (ps.toList.zip (ps.toList.drop 1)).all (fun (a, next) => a.1 < next.1) = true) (ho : Op.lookupswitch.offset ps.toList dflt x.toInt = off) (ht : (pc : Int) + off = (tgt : Int)) (k : L g a b T tgt lo st) : L g a b T pc lo (.int x :: st) := fun H locs ls hP hS hl => lv_lookup X.1 X.2.1 hd hp ho ht (k H locs ls hP hS hl)
end

/-! lists of cells: their order doesn't count -/
theorem vP_mem {D : va_G} {cl : List vw_C} {ws : va_W} {H : Heap} : va_P D cl ws H ↔ ∀ q ∈ ws, va_at D cl q H :=
  ⟨fun h q hq => by obtain ⟨k, hk⟩ := List.getElem?_of_mem hq; exact h k q hk, fun h k q hq => h q (List.mem_of_getElem? hq)⟩
theorem vD_nd {A : Nat → Prop} {ws : va_W} : va_D A ws ↔ (ws.map fun q => q.1).Nodup ∧ ∀ q ∈ ws, A q.1 := by
  constructor
  · intro h
    refine ⟨?_, fun q hq => by obtain ⟨k, hk⟩ := List.getElem?_of_mem hq; exact h.2 k q hk⟩
    show List.Pairwise (· ≠ ·) _
    rw [List.pairwise_map, List.pairwise_iff_getElem]
    intro i j hi hj hij e
    have := h.1 i j _ _ (List.getElem?_eq_getElem hi) (List.getElem?_eq_getElem hj) e
    omega
  · intro h
    refine ⟨fun i j p q hi hj e => ?_, fun k q hq => h.2 q (List.mem_of_getElem? hq)⟩
    have hn : List.Pairwise (· ≠ ·) (ws.map fun q => q.1) := h.1
    rw [List.pairwise_map, List.pairwise_iff_getElem] at hn
    obtain ⟨l1, e1⟩ := List.getElem?_eq_some_iff.mp hi
    obtain ⟨l2, e2⟩ := List.getElem?_eq_some_iff.mp hj
    rcases Nat.lt_trichotomy i j with c | c | c
    · exact absurd (by rw [e1, e2]; exact e) (hn i j l1 l2 c)
    · exact c
    · exact absurd (by rw [e1, e2]; exact e.symm) (hn j i l2 l1 c)
theorem WDs.perm {κ : KX} {ws ws' : va_W} {H : Heap} (h : WDs κ ws H) (e : ws.Perm ws') : WDs κ ws' H := by
  refine ⟨vP_mem.mpr fun q hq => vP_mem.mp h.1 q (e.mem_iff.mpr hq), vD_nd.mpr ⟨?_, fun q hq => (vD_nd.mp h.2).2 q (e.mem_iff.mpr hq)⟩⟩
  exact (e.map fun q => q.1).nodup_iff.mp (vD_nd.mp h.2).1
theorem va_RA_one {U : State} {c1 c2 : ClassId} {ty : FieldType} (h1 : va_RA U c1 ty) (h2 : va_RA U c2 ty) : c1 = c2 := by
  cases ty with
  | object C =>
    obtain ⟨_, _, _, _, _, e1⟩ := h1
    obtain ⟨_, _, _, _, _, e2⟩ := h2
    exact Option.some.inj (e1.symm.trans e2)
  | _ => exact Option.some.inj (Eq.trans (Eq.symm h1) h2)
section
variable {g : GX} {a b : Nat} {T : va_W} {pc : Nat} {lo : List (Nat × Value)} {st : List Value} {own : String} {cc : ByteArray} {nL FR LO RC RS : Nat}
theorem CL_A (X : CL g own cc nL FR LO RC RS) : ∀ q : Nat, (gs g).heap.size ≤ q → kA (gκ g) q := X.2.2.2.2.2.2.2.2.2.2.1
theorem L_perm {T' : va_W} (e : T.Perm T') (k : L g a b T' pc lo st) : L g a b T pc lo st := fun H locs ls hP hS hl => k H locs ls (hP.perm e) hS hl
theorem L_new (X : CL g own cc nL FR LO RC RS) {C : String} {Tf : u_T} {N ci index : Nat} {ty0 : Nat → FieldType} (hc : vwCl[ci]? = some (C, Tf, N)) (hin : ∀ w ∈ u_ws C Tf N, w ∈ WG) (hty : ∀ k, k < N → parseFieldDescriptor (Tf k).2.2.1 = some (ty0 k)) (hcl : Cond.classLink own index C ∈ WG) (hinst : Cond.instantiable C N ∈ WG) (hini : Cond.initialized C ∈ WG) {fs : List Value} (hfs : ∀ j, j < N → defaultValue (ty0 j) = vp_V fs j) (hcells : a + 1 ≤ RC) (hslots : b + N ≤ RS) (hd : decode cc pc = .ok (.new index, 3))
    (k : ∀ q : Nat, L g (a + 1) (b + N) ((q, .inr (ci, fs)) :: T) (pc + 3) lo (.ref q :: st)) : L g a b T pc lo st := by
  intro H locs ls hP hS hl
  refine va_new X.1 X.2.1 X.2.2.2.2.1 hin ty0 hty X.2.2.2.1 (X.2.2.2.2.1 _ hcl) (X.2.2.2.2.1 _ hinst) (X.2.2.2.2.1 _ hini) X.2.2.2.2.2.1.1 hP.1 hP.2 hS (CL_A X) hc hfs (by rw [X.2.2.2.2.2.2.1.1]; exact hcells) (by rw [X.2.2.2.2.2.2.1.2.1]; exact hslots) hd (fun q H1 hP1 hD1 hS1 => ?_)
  exact k q H1 locs ls (WDs.perm ⟨hP1, hD1⟩ (List.perm_append_singleton _ _)) hS1 hl
theorem L_newa (X : CL g own cc nL FR LO RC RS) {atype : ArrayType} {ty : FieldType} {cA : ClassId} {t N : Nat} {n : Int32} {a0 : vp_A} (hty : newarray.typeOf atype = ty) (hw : Cond.arrayClass ty ∈ WG) (ht : (tysK (gκ g))[t]? = some (cA, ty)) (ha : ∀ cA : ClassId, vp_cell cA a0 = arrV cA N (fun _ => defaultValue ty)) (hn : ¬ n < 0) (hN : n.toNatClampNeg = N) (hbytes : N * componentBytes ty ≤ 536870912) (hcells : a + 1 ≤ RC) (hslots : b + N ≤ RS) (hd : decode cc pc = .ok (.newarray atype, 2))
    (k : ∀ q : Nat, L g (a + 1) (b + N) ((q, .inl (cA, a0)) :: T) (pc + 2) lo (.ref q :: st)) : L g a b T pc lo (.int n :: st) := by
  intro H locs ls hP hS hl
  subst hty
  refine va_newa (atype := atype) X.1 X.2.1 (X.2.2.2.2.1 _ hw) rfl X.2.2.2.2.2.1.1 hP.1 hP.2 hS (CL_A X) ha hn hN hbytes (by rw [X.2.2.2.2.2.2.1.1]; exact hcells) (by rw [X.2.2.2.2.2.2.1.2.1]; exact hslots) hd (fun q cA' H1 hK1 hP1 hD1 hS1 => ?_)
  have e1 := (hK1.2 8 (cA', newarray.typeOf atype) rfl).2
  have e2 := (X.2.2.2.2.2.1.1.2 t _ ht).2
  have e := va_RA_one e1 e2
  subst e
  exact k q H1 locs ls (WDs.perm ⟨hP1, hD1⟩ (List.perm_append_singleton _ _)) hS1 hl
theorem L_newq (X : CL g own cc nL FR LO RC RS) {C : String} {cA : ClassId} {t N index : Nat} {n : Int32} (hcl : Cond.classLink own index C ∈ WG) (hov : va_AO C (gs g)) (ht : (tysK (gκ g))[t]? = some (cA, .object C)) (hn : ¬ n < 0) (hN : n.toNatClampNeg = N) (hbytes : N * 4 ≤ 536870912) (hcells : a + 1 ≤ RC) (hslots : b + N ≤ RS) (hd : decode cc pc = .ok (.anewarray index, 3))
    (k : ∀ q : Nat, L g (a + 1) (b + N) ((q, .inl (cA, N, .inr (.inr (.inr (.inr (fun _ => none)))))) :: T) (pc + 3) lo (.ref q :: st)) : L g a b T pc lo (.int n :: st) := by
  intro H locs ls hP hS hl
  refine va_newq X.1 X.2.1 X.2.2.2.1 (X.2.2.2.2.1 _ hcl) hov X.2.2.2.2.2.1.1 hP.1 hP.2 hS (CL_A X) hn hN hbytes (by rw [X.2.2.2.2.2.2.1.1]; exact hcells) (by rw [X.2.2.2.2.2.2.1.2.1]; exact hslots) hd (fun q cA' H1 hK1 hP1 hD1 hS1 => ?_)
  have e1 := (hK1.2 8 (cA', .object C) rfl).2
  have e2 := (X.2.2.2.2.2.1.1.2 t _ ht).2
  have e := va_RA_one e1 e2
  subst e
  exact k q H1 locs ls (WDs.perm ⟨hP1, hD1⟩ (List.perm_append_singleton _ _)) hS1 hl
theorem L_get (X : CL g own cc nL FR LO RC RS) {ref C : String} {Tf : u_T} {N c index k x : Nat} {fs : List Value} {v : Value} (hc : vwCl[c]? = some (C, Tf, N)) (hin : ∀ w ∈ u_ws C Tf N, w ∈ WG) (hk : k < N) (href : (Tf k).1 = ref) (hw : Cond.fieldLink own index ref (Tf k).2.1 (Tf k).2.2.1 ∈ WG) (i : Nat) (he : T[i]? = some (x, .inr (c, fs))) (hv : fs[k]? = some v) (hd : decode cc pc = .ok (.getfield index, 3)) (kk : L g a b T (pc + 3) lo (v :: st)) : L g a b T pc lo (.ref x :: st) := by
  intro H locs ls hP hS hl
  exact va_get X.1 X.2.1 X.2.2.2.2.1 hin X.2.2.2.1 X.2.2.2.2.2.1.1 hP.1 i he hc k hk (X.2.2.2.2.1 _ hw) (fun _ h => by rw [← href]; exact h) hv hd (kk H locs ls hP hS hl)
theorem L_put (X : CL g own cc nL FR LO RC RS) {ref C : String} {Tf : u_T} {N c index k x : Nat} {fs : List Value} {v : Value} {ty : FieldType} {ty0 : Nat → FieldType} {T' : va_W} (hc : vwCl[c]? = some (C, Tf, N)) (hin : ∀ w ∈ u_ws C Tf N, w ∈ WG) (hty : ∀ k, k < N → parseFieldDescriptor (Tf k).2.2.1 = some (ty0 k)) (hnm : ∀ a, a < N → ∀ b, b < N → a ≠ b → (Tf a).2.1 ≠ (Tf b).2.1) (hk : k < N) (href : (Tf k).1 = ref) (hfin : (Tf k).2.2.2 = false) (hd' : parseFieldDescriptor (Tf k).2.2.1 = some ty) (hw : Cond.fieldLink own index ref (Tf k).2.1 (Tf k).2.2.1 ∈ WG)
    (i : Nat) (he : T[i]? = some (x, .inr (c, fs))) (hn : narrow ty v = v) (hf : fits ty v = true) (hl0 : k < fs.length) (hT : T.set i (x, .inr (c, fs.set k v)) = T') (hd : decode cc pc = .ok (.putfield index, 3)) (kk : L g a b T' (pc + 3) lo st) : L g a b T pc lo (v :: .ref x :: st) := by
  intro H locs ls hP hS hl
  subst hT
  exact va_put X.1 X.2.1 X.2.2.2.2.1 hin ty0 hty hnm X.2.2.2.1 X.2.2.2.2.2.1.1 hP.1 hP.2 hS i he hc k hk (X.2.2.2.2.1 _ hw) (fun _ h => by rw [← href]; exact h) hfin hd' hn hf hl0 hd (fun H1 locs1 hP1 hD1 hS1 => kk H1 locs1 ls ⟨hP1, hD1⟩ hS1 hl)
/-- a final field, in its constructor -/
theorem L_putF (X : CL g own cc nL FR LO RC RS) (hini : g.2.2.2.2.2.2.2.2.1.name = "<init>") {ref C : String} {Tf : u_T} {N c index k x : Nat} {fs : List Value} {v : Value} {ty : FieldType} {ty0 : Nat → FieldType} {T' : va_W} (hc : vwCl[c]? = some (C, Tf, N)) (hin : ∀ w ∈ u_ws C Tf N, w ∈ WG) (hty : ∀ k, k < N → parseFieldDescriptor (Tf k).2.2.1 = some (ty0 k)) (hnm : ∀ a, a < N → ∀ b, b < N → a ≠ b → (Tf a).2.1 ≠ (Tf b).2.1) (hk : k < N) (href : (Tf k).1 = ref) (hfin : (Tf k).2.2.2 = true) (hdecl : (Tf k).1 = own) (hd' : parseFieldDescriptor (Tf k).2.2.1 = some ty) (hw : Cond.fieldLink own index ref (Tf k).2.1 (Tf k).2.2.1 ∈ WG)
    (i : Nat) (he : T[i]? = some (x, .inr (c, fs))) (hn : narrow ty v = v) (hf : fits ty v = true) (hl0 : k < fs.length) (hT : T.set i (x, .inr (c, fs.set k v)) = T') (hd : decode cc pc = .ok (.putfield index, 3)) (kk : L g a b T' (pc + 3) lo st) : L g a b T pc lo (v :: .ref x :: st) := by
  intro H locs ls hP hS hl
  subst hT
  exact va_putF X.1 X.2.1 X.2.2.2.2.1 hin ty0 hty hnm X.2.2.2.1 X.2.2.2.2.2.1.1 hP.1 hP.2 hS i he hc k hk (X.2.2.2.2.1 _ hw) (fun _ h => by rw [← href]; exact h) hfin hini hdecl hd' hn hf hl0 hd (fun H1 locs1 hP1 hD1 hS1 => kk H1 locs1 ls ⟨hP1, hD1⟩ hS1 hl)
theorem L_iast (X : CL g own cc nL FR LO RC RS) {n x : Nat} {f : Nat → Int32} {i v : Int32} {T' : va_W} (q : Nat) (he : T[q]? = some (x, .inl ((gκ g).2.1 1, n, .inl f))) (hi : inb i n = true) (hT : T.set q (x, .inl ((gκ g).2.1 1, n, .inl (upd f i.toNatClampNeg v))) = T') (hd : decode cc pc = .ok (.iastore, 1)) (kk : L g a b T' (pc + 1) lo st) : L g a b T pc lo (.int v :: .int i :: .ref x :: st) := by
  intro H locs ls hP hS hl
  subst hT
  exact va_iast X.1 X.2.1 X.2.2.2.2.2.1.1 hP.1 hP.2 hS q 0 he rfl (inb_vp hi) hd (fun H1 locs1 hP1 hD1 hS1 => kk H1 locs1 ls ⟨hP1, hD1⟩ hS1 hl)
theorem L_last (X : CL g own cc nL FR LO RC RS) {n x : Nat} {f : Nat → Int64} {i : Int32} {v : Int64} {T' : va_W} (q : Nat) (he : T[q]? = some (x, .inl ((gκ g).2.1 3, n, .inr (.inl f)))) (hi : inb i n = true) (hT : T.set q (x, .inl ((gκ g).2.1 3, n, .inr (.inl (vp_updL f i.toNatClampNeg v)))) = T') (hd : decode cc pc = .ok (.lastore, 1)) (kk : L g a b T' (pc + 1) lo st) : L g a b T pc lo (.long v :: .int i :: .ref x :: st) := by
  intro H locs ls hP hS hl
  subst hT
  exact va_last X.1 X.2.1 X.2.2.2.2.2.1.1 hP.1 hP.2 hS q 2 he rfl (inb_vp hi) hd (fun H1 locs1 hP1 hD1 hS1 => kk H1 locs1 ls ⟨hP1, hD1⟩ hS1 hl)
/-- an object into an array of references -/
theorem L_aast (X : CL g own cc nL FR LO RC RS) {n x t v ci : Nat} {vs : List Value} {r : vw_C} {cA : ClassId} {f : Nat → Option Nat} {i : Int32} {T' : va_W} (q qk : Nat) (he : T[q]? = some (x, .inl (cA, n, .inr (.inr (.inr (.inr f)))))) (ht : (tysK (gκ g))[t]? = some (cA, .object r.1)) (hv : T[qk]? = some (v, .inr (ci, vs))) (hc : vwCl[ci]? = some r) (hi : inb i n = true) (hT : T.set q (x, .inl (cA, n, .inr (.inr (.inr (.inr (va_up f i.toNatClampNeg (some v))))))) = T') (hd : decode cc pc = .ok (.aastore, 1)) (kk : L g a b T' (pc + 1) lo st) : L g a b T pc lo (.ref v :: .int i :: .ref x :: st) := by
  intro H locs ls hP hS hl
  subst hT
  exact va_astq X.1 X.2.1 X.2.2.2.2.2.1.1 hP.1 hP.2 hS q t qk ci he ht hv hc (inb_vp hi) hd (fun H1 locs1 hP1 hD1 hS1 => kk H1 locs1 ls ⟨hP1, hD1⟩ hS1 hl)
/-- Object.<init> -/
theorem L_obj (X : CL g own cc nL FR LO RC RS) {index x : Nat} (hl0 : Cond.methodLink own index ⟨"java/lang/Object", "<init>", "()V"⟩ ∈ WG) (hi : Cond.instanceMethod Lib.objectInit ∈ WG) (hco : Cond.code Lib.objectInit ⟨#[0xb1]⟩ 1 none ∈ WG) (hR : 1 ≤ FR ∧ 12 ≤ LO) (hd : decode cc pc = .ok (.invokespecial index, 3)) (k : L g a b T (pc + 3) lo []) : L g a b T pc lo [.ref x] := by
  intro H locs ls hP hS hl
  refine W.objInit X.1 X.2.1 X.2.2.2.1 (X.2.2.2.2.1 _ hl0) (X.2.2.2.2.1 _ hi) (X.2.2.2.2.1 _ hco) rfl hl.1 rfl hd (by rw [X.2.2.2.2.2.2.2.2.1]; exact hR.1) (by rw [X.2.2.2.2.2.2.2.2.2.1]; exact hR.2) ?_
  exact k H locs ls hP hS hl
end
/-! contracts of constructors -/
def PreN (κ : KX) (ws : va_W) (U : State) : Prop := WDs κ ws U.heap ∧ KxS κ U ∧ Str κ U U.heap ∧ (∀ q, U.heap.size ≤ q → kA κ q) ∧ va_AO RX0 U ∧ va_AO RX5 U
def QcN (κ : KX) (post : va_W → Prop) : Array Value → State → Outcome → State → Prop := fun _ st o t => (o = .returned none ∧ ∃ ws, post ws ∧ WDs κ ws t.heap) ∧ va_F (kA κ) st t
abbrev rmN (fr lo dc ds : Nat) : Room := { frames := fr, cells := dc, slots := ds, locals := lo }
def CtN (l : Launch) (κ : KX) (y : MethodName) (cc : ByteArray) (mx fr lo dc ds : Nat) (av : List Value) (ws : va_W) (post : va_W → Prop) : Prop :=
  l.stackTraces = false → Met l y (wsK y cc mx none) (rmN fr lo dc ds) (va_Pc av (PreN κ ws)) (QcN κ post) dc ds (kA κ)
def FinN (g : GX) (cc : ByteArray) (post : va_W → Prop) (dc ds : Nat) : Prop := ∀ pc lo T, decode cc pc = .ok (.return_, 1) → post T → L g dc ds T pc lo []
theorem va_AO_call {C : String} {U : State} {g : JFrame} {mk : MethodId} {a : Array Value} (h : va_AO C U) : va_AO C (U.calling g mk a) := va_AO.moved (u := U) (U := U.calling g mk a) (Vm.Alike.refl U.vm) h
theorem PreN.blind {κ : KX} {av : List Value} {ws : va_W} : FrameBlind (va_Pc av (PreN κ ws)) := fun a U g mk h => ⟨h.1, h.2.1, KxS.call h.2.2.1, Str.move (Vm.Alike.refl U.vm) h.2.2.2.1, h.2.2.2.2.1, va_AO_call h.2.2.2.2.2.1, va_AO_call h.2.2.2.2.2.2⟩
theorem CtN_of {l : Launch} {κ : KX} {y : MethodName} {cc : ByteArray} {mx fr lo dc ds : Nat} {av : List Value} {ws : va_W} {post : va_W → Prop} (own : String) (ho : y.cls = own) (hy : plainName y.cls = true) (hn : (lg_sl av).length ≤ mx)
    (k : ∀ g : GX, g.2.1 = l → gκ g = κ → CL g own cc mx fr lo dc ds → g.2.2.2.2.2.2.2.2.1.name = y.name → FinN g cc post dc ds → L g 0 0 ws 0 (lv_args 0 av) []) : CtN l κ y cc mx fr lo dc ds av ws post := by
  intro hl
  subst ho
  refine Met.ofW (cc := cc) (maxL := mx) (ret := none) hy rfl ?_
  intro p e s m args below meth c s₁ B hml hv
  obtain ⟨rfl, hv⟩ := hv
  rw [lg_entry_eq]
  have X : ∀ Q : State → Prop, CL (p, l, e, rmN fr lo dc ds, s, m, av.toArray, below, meth, c, κ, Q) y.cls cc mx fr lo dc ds := fun Q =>
    ⟨B.exec, B.bytes, hml, findClass_of_methodNamed B.named, fun w hw => atoms_spec (ws := wsK y cc mx none) B.pre w (List.mem_cons_of_mem _ hw), hv.2.1, ⟨rfl, rfl, hv.2.2.2.2.1, hv.2.2.2.2.2⟩, hv.2.2.1, rfl, rfl, hv.2.2.2.1, hl, B.notSynchronized⟩
  refine k (p, l, e, rmN fr lo dc ds, s, m, av.toArray, below, meth, c, κ, _) rfl rfl (X _) (name_of_methodNamed B.named B.method).1 ?_ s.heap [] _ hv.1 va_S.rf (by show lv_has _ c.maxLocals _; rw [hml]; exact lv_entry av hn)
  intro pc lo2 T hd hpost H locs ls hP hS hls
  exact W.vret (hlocks := B.notSynchronized) B.exec B.bytes B.returns (fun t ht _ => ⟨⟨rfl, T, hpost, by rw [ht]; exact hP⟩, hS.F ht⟩) (fun q hq => hS.2.2 q hq) hd
section
variable {p : Program} {l : Launch} {e : Env} {R : Room} {s : State} {m : MethodId} {args : Array Value} {below : List Frame} {meth : Method} {c : Code} {H : Heap} {locs : List Loc} {a b : Nat} {Q : State → Prop}
theorem run_L {κ : KX} {post : va_W → Prop} {pc dc ds : Nat} {ls : Array Slot} {st0 rest : List Value} {av : Array Value} {H0 : Heap} (hr : va_Run p l e R s m args below meth c H locs a b dc ds (F0 m pc ls st0) rest (QcN κ post av) (kA κ)) (hS : va_S (kA κ) H0 H locs)
    (kk : ∀ (T1 : va_W) (H1 : Heap) (locs1 : List Loc), post T1 → WDs κ T1 H1 → va_S (kA κ) H0 H1 locs1 → W p l e R s m args below meth c H1 locs1 (a + dc) (b + ds) Q (F0 m (pc + 3) ls rest)) : W p l e R s m args below meth c H locs a b Q (F0 m pc ls st0) := by
  intro T hT X
  obtain ⟨v, st₀, t, T', L, h0, X', hL, e1, e2, ⟨⟨hv, T1, hp, hP⟩, hF⟩, st⟩ := hr T hT X
  cases hv
  obtain ⟨-, -, k3⟩ := vx_keep h0 e1 hS (fun q _ h => h) (fun q h => h) hL hF
  obtain ⟨t2, a1, b1⟩ := kk T1 T'.heap (locs ++ L) hp (by rw [e1]; exact hP) k3 T' rfl X'
  exact ⟨t2, st t2 a1, b1⟩
end
section
variable {g : GX} {a b : Nat} {T : va_W} {pc : Nat} {lo : List (Nat × Value)} {own : String} {cc : ByteArray} {nL FR LO RC RS : Nat}
variable {index : Nat} {y : MethodName} {bytes : ByteArray} {mx fr lo2 dc ds n : Nat} {As rest : List Value} {post : va_W → Prop}
theorem CL_pre (X : CL g own cc nL FR LO RC RS) {H : Heap} {locs : List Loc} {U : State} (hP : WDs (gκ g) T H) (hS : va_S (kA (gκ g)) (gs g).heap H locs) (hU : U.heap = H) (hW : (gs g).WarmedH U.vm) : PreN (gκ g) T U := by
  subst hU
  exact ⟨hP, KxS.warm hW X.2.2.2.2.2.1, Str.kept (Str.move hW.alike X.2.2.2.2.2.2.2.1) hS.2.1, fun q hq => X.2.2.2.2.2.2.2.2.2.2.1 q (Nat.le_trans hS.1 hq), va_AO.moved hW.alike X.2.2.2.2.2.2.1.2.2.1, va_AO.moved hW.alike X.2.2.2.2.2.2.1.2.2.2⟩
theorem CL_fix (X : CL g own cc nL FR LO RC RS) : CallFix g.1 g.2.2.2.2.2.1 g.2.2.2.2.2.2.2.2.2.1 cc nL (gs g) g.2.2.2.2.2.2.1 WG own := ⟨X.1, X.2.1, X.2.2.1, X.2.2.2.1, X.2.2.2.2.1⟩
/-- a constructor of a nest mate -/
theorem L_initN (X : CL g own cc nL FR LO RC RS) {host : String} {x : Nat} (hM : CtN g.2.1 (gκ g) y bytes mx fr lo2 dc ds (.ref x :: As) T post) (cal : Cal y bytes mx none n) (hl : Cond.methodLinkNest own index y host ∈ NW) (hy : y.name = "<init>") (hi : Cond.instanceMethod y ∈ WG) (hR : fr + 1 ≤ FR ∧ 8 + (mx + 11) + lo2 ≤ LO) (hn : As.length = n) {st : List Value} (hst : st = As.reverse ++ .ref x :: rest) (hc : (rest.map fun v => v.category).sum ≤ 8) (hab : a + dc ≤ RC ∧ b + ds ≤ RS)
    (hd : decode cc pc = .ok (.invokespecial index, 3)) (k : ∀ T1, post T1 → L g (a + dc) (b + ds) T1 (pc + 3) lo rest) : L g a b T pc lo st := by
  intro H locs ls hP hS hls
  refine run_L (va_runIN (CL_fix X) (hM X.2.2.2.2.2.2.2.2.2.2.2.1) ⟨va_cnB n X.2.2.2.2.1 (wsK_in cal.1) rfl rfl rfl (X.2.2.2.2.2.1.2.1 _ hl) (X.2.2.2.2.1 _ cal.2.1) cal.2.2 (by rw [X.2.2.2.2.2.2.2.2.1, X.2.2.2.2.2.2.2.2.2.1]; exact hR), hy, X.2.2.2.2.1 _ hi⟩ ⟨PreN.blind, fun U hU hW => ⟨rfl, CL_pre X hP hS hU hW⟩⟩ rfl hn (hls.1.trans X.2.2.1) hst (lv_room hc) hd (by rw [X.2.2.2.2.2.2.1.1, X.2.2.2.2.2.2.1.2.1]; exact hab)) hS (fun T1 H1 locs1 hp hP1 hS1 => k T1 hp H1 locs1 ls hP1 hS1 hls)
/-- a public constructor -/
theorem L_initP (X : CL g own cc nL FR LO RC RS) {x : Nat} (hM : CtN g.2.1 (gκ g) y bytes mx fr lo2 dc ds (.ref x :: As) T post) (cal : Cal y bytes mx none n) (hl : Cond.methodLink own index y ∈ WG) (hy : y.name = "<init>") (hi : Cond.instanceMethod y ∈ WG) (hR : fr + 1 ≤ FR ∧ 8 + (mx + 11) + lo2 ≤ LO) (hn : As.length = n) {st : List Value} (hst : st = As.reverse ++ .ref x :: rest) (hc : (rest.map fun v => v.category).sum ≤ 8) (hab : a + dc ≤ RC ∧ b + ds ≤ RS)
    (hd : decode cc pc = .ok (.invokespecial index, 3)) (k : ∀ T1, post T1 → L g (a + dc) (b + ds) T1 (pc + 3) lo rest) : L g a b T pc lo st := by
  intro H locs ls hP hS hls
  refine run_L (va_runI (CL_fix X) (hM X.2.2.2.2.2.2.2.2.2.2.2.1) ⟨callB_of n X.2.2.2.2.1 (wsK_in cal.1) rfl rfl rfl (X.2.2.2.2.1 _ cal.2.1) (X.2.2.2.2.1 _ hl) cal.2.2 (by rw [X.2.2.2.2.2.2.2.2.1, X.2.2.2.2.2.2.2.2.2.1]; exact hR), hy, X.2.2.2.2.1 _ hi⟩ ⟨PreN.blind, fun U hU hW => ⟨rfl, CL_pre X hP hS hU hW⟩⟩ rfl hn (hls.1.trans X.2.2.1) hst (lv_room hc) hd (by rw [X.2.2.2.2.2.2.1.1, X.2.2.2.2.2.2.1.2.1]; exact hab)) hS (fun T1 H1 locs1 hp hP1 hS1 => k T1 hp H1 locs1 ls hP1 hS1 hls)
/-- a void method of this class -/
theorem L_callV (X : CL g own cc nL FR LO RC RS) {x ci : Nat} {fs : List Value} {q : vw_C} (hM : CtN g.2.1 (gκ g) y bytes mx fr lo2 dc ds (.ref x :: As) T post) (cal : Cal y bytes mx none n) (hl : Cond.methodLink own index y ∈ WG) (hi : Cond.instanceMethod y ∈ WG) (hse : Cond.selects q.1 y y ∈ WG) (i : Nat) (he : T[i]? = some (x, .inr (ci, fs))) (hq : vwCl[ci]? = some q) (hR : fr + 1 ≤ FR ∧ 8 + (mx + 11) + lo2 ≤ LO) (hn : As.length = n) {st : List Value} (hst : st = As.reverse ++ .ref x :: rest) (hc : (rest.map fun v => v.category).sum ≤ 8) (hab : a + dc ≤ RC ∧ b + ds ≤ RS)
    (hd : decode cc pc = .ok (.invokevirtual index, 3)) (k : ∀ T1, post T1 → L g (a + dc) (b + ds) T1 (pc + 3) lo rest) : L g a b T pc lo st := by
  intro H locs ls hP hS hls
  refine run_L (va_runV (CL_fix X) (hM X.2.2.2.2.2.2.2.2.2.2.2.1) ⟨callB_of n X.2.2.2.2.1 (wsK_in cal.1) rfl rfl rfl (X.2.2.2.2.1 _ cal.2.1) (X.2.2.2.2.1 _ hl) cal.2.2 (by rw [X.2.2.2.2.2.2.2.2.1, X.2.2.2.2.2.2.2.2.2.1]; exact hR), X.2.2.2.2.1 _ hi, X.2.2.2.2.1 _ hse⟩ ⟨PreN.blind, va_recv X.2.2.2.2.2.1.1 hP.1 hq he, fun U hU hW => ⟨rfl, CL_pre X hP hS hU hW⟩⟩ rfl hn (hls.1.trans X.2.2.1) hst (lv_room hc) hd (by rw [X.2.2.2.2.2.2.1.1, X.2.2.2.2.2.2.1.2.1]; exact hab)) hS (fun T1 H1 locs1 hp hP1 hS1 => k T1 hp H1 locs1 ls hP1 hS1 hls)
end
