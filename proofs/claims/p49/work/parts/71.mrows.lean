/-! more rows of the walk over cells -/
section
variable {g : GX} {ξ : XI} {a b : Nat} {T : va_W} {pc : Nat} {lo : List (Nat × Value)} {st : List Value} {own : String} {cc : ByteArray} {nL FR LO RC RS : Nat}
theorem L_i2c (X : CL g own cc nL FR LO RC RS) {x v : Int32} (hd : decode cc pc = .ok (.i2c, 1)) (hv : (x.toUInt32 % 65536).toInt32 = v) (k : L g a b T (pc + 1) lo (.int v :: st)) : L g a b T pc lo (.int x :: st) := fun H locs ls hP hS hls => lv_i2c X.1 X.2.1 hd hv (k H locs ls hP hS hls)
theorem L_null (X : CL g own cc nL FR LO RC RS) (hd : decode cc pc = .ok (.aconst_null, 1)) (k : L g a b T (pc + 1) lo (.null :: st)) : L g a b T pc lo st := fun H locs ls hP hS hls => lv_null X.1 X.2.1 hd (k H locs ls hP hS hls)
theorem L_ifnn (X : CL g own cc nL FR LO RC RS) {x : Nat} {off : Int} {tgt : Nat} (hd : decode cc pc = .ok (.ifnonnull off, 3)) (ht : (pc : Int) + off = (tgt : Int)) (k : L g a b T tgt lo st) : L g a b T pc lo (.ref x :: st) := fun H locs ls hP hS hls => lv_ifnonnull X.1 X.2.1 hd ht (k H locs ls hP hS hls)
theorem L_dup_x1 (X : CL g own cc nL FR LO RC RS) {va vb : Value} (hd : decode cc pc = .ok (.dup_x1, 1)) (hva : va.category = 1) (hvb : vb.category = 1) (k : L g a b T (pc + 1) lo (va :: vb :: va :: st)) : L g a b T pc lo (va :: vb :: st) := fun H locs ls hP hS hls => lv_dup_x1 X.1 X.2.1 hd hva hvb (k H locs ls hP hS hls)
theorem L_acmp_eq (X : CL g own cc nL FR LO RC RS) {x y : Nat} {off : Int} {tgt : Nat} (hd : decode cc pc = .ok (.if_acmp .eq off, 3)) (ht : (pc : Int) + off = (tgt : Int)) (kt : x = y → L g a b T tgt lo st) (kf : ¬ x = y → L g a b T (pc + 3) lo st) : L g a b T pc lo (.ref y :: .ref x :: st) :=
  fun H locs ls hP hS hls => lv_acmp_eq (rx := some x) (ry := some y) X.1 X.2.1 hd ht (fun e => kt (Option.some.inj e) H locs ls hP hS hls) (fun e => kf (fun h => e (congrArg some h)) H locs ls hP hS hls)
theorem L_acmp_ne (X : CL g own cc nL FR LO RC RS) {x y : Nat} {off : Int} {tgt : Nat} (hd : decode cc pc = .ok (.if_acmp .ne off, 3)) (ht : (pc : Int) + off = (tgt : Int)) (kt : ¬ x = y → L g a b T tgt lo st) (kf : x = y → L g a b T (pc + 3) lo st) : L g a b T pc lo (.ref y :: .ref x :: st) :=
  fun H locs ls hP hS hls => lv_acmp_ne (rx := some x) (ry := some y) X.1 X.2.1 hd ht (fun e => kt (fun h => e (congrArg some h)) H locs ls hP hS hls) (fun e => kf (Option.some.inj e) H locs ls hP hS hls)
theorem L_nmi {v e : Int32} (hv : v = e) (k : L g a b T pc lo (.int v :: st)) : L g a b T pc lo (.int e :: st) := hv ▸ k
theorem L_mmin (X : CL g own cc nL FR LO RC RS) {index : Nat} {x y : Int32} (hl : Cond.methodLink own index Lib.Math.min.name ∈ WG) (hR : 1 ≤ FR ∧ 21 ≤ LO) (hc : (st.map fun v => v.category).sum ≤ 8) (hab : a ≤ RC ∧ b ≤ RS) (hd : decode cc pc = .ok (.invokestatic index, 3)) (k : L g a b T (pc + 3) lo (.int (if y < x then y else x) :: st)) : L g a b T pc lo (.int y :: .int x :: st) := by
  intro H locs ls hP hS hls
  exact va_mmin X.1 X.2.1 (X.2.2.1.trans (hls.1.trans X.2.2.1).symm) X.2.2.2.1 (X.2.2.2.2.1 _ hl) (X.2.2.2.2.1 _ wT_J9_min_7cf53) (X.2.2.2.2.1 _ w0_J9) (X.2.2.2.2.1 _ wmin) (by rw [X.2.2.2.2.2.2.2.2.1]; exact hR.1) (by rw [X.2.2.2.2.2.2.2.2.2.1]; omega) (by rw [X.2.2.2.2.2.2.1.1]; exact hab.1) (by rw [X.2.2.2.2.2.2.1.2.1]; exact hab.2) hd (k H locs ls hP hS hls)
theorem L_mmax (X : CL g own cc nL FR LO RC RS) {index : Nat} {x y : Int32} (hl : Cond.methodLink own index Lib.Math.max.name ∈ WG) (hR : 1 ≤ FR ∧ 21 ≤ LO) (hc : (st.map fun v => v.category).sum ≤ 8) (hab : a ≤ RC ∧ b ≤ RS) (hd : decode cc pc = .ok (.invokestatic index, 3)) (k : L g a b T (pc + 3) lo (.int (if x < y then y else x) :: st)) : L g a b T pc lo (.int y :: .int x :: st) := by
  intro H locs ls hP hS hls
  exact va_mmax X.1 X.2.1 (X.2.2.1.trans (hls.1.trans X.2.2.1).symm) X.2.2.2.1 (X.2.2.2.2.1 _ hl) (X.2.2.2.2.1 _ wT_J9_max_7cf53) (X.2.2.2.2.1 _ w0_J9) (X.2.2.2.2.1 _ wmax) (by rw [X.2.2.2.2.2.2.2.2.1]; exact hR.1) (by rw [X.2.2.2.2.2.2.2.2.2.1]; omega) (by rw [X.2.2.2.2.2.2.1.1]; exact hab.1) (by rw [X.2.2.2.2.2.2.1.2.1]; exact hab.2) hd (k H locs ls hP hS hls)
theorem L_ldcS (X : CL g own cc nL FR LO RC RS) {index i : Nat} {tx : String} (hm : (own, index, tx, i) ∈ SR) (hd : decode cc pc = .ok (.ldc index, 2)) (k : L g a b T (pc + 2) lo (.ref ((gκ g).2.2.2.2.1 i) :: st)) : L g a b T pc lo st := by
  intro H locs ls hP hS hls
  exact va_ldcS X.1 X.2.1 X.2.2.2.1 (X.2.2.2.2.2.1.2.2 _ hm) hd (k H locs ls hP hS hls)
theorem L_alen (X : CL g own cc nL FR LO RC RS) {x n : Nat} {cA : ClassId} {ty : FieldType} {v : Int32} {p : vp_A} (q t : Nat) (he : T[q]? = some (x, .inl (cA, p))) (ht : (tysK (gκ g))[t]? = some (cA, ty)) (hn : p.1 = n) (hv : nI n = v) (hd : decode cc pc = .ok (.arraylength, 1)) (k : L g a b T (pc + 1) lo (.int v :: st)) : L g a b T pc lo (.ref x :: st) := by
  intro H locs ls hP hS hls
  subst hn
  exact va_alen X.1 X.2.1 X.2.2.2.2.2.1.1 hP.1 q t he ht hv hd (k H locs ls hP hS hls)
theorem L_iald (X : CL g own cc nL FR LO RC RS) {x n : Nat} {f : Nat → Int32} {i : Int32} (q : Nat) (he : T[q]? = some (x, .inl ((gκ g).2.1 1, n, .inl f))) (hi : inb i n = true) (hd : decode cc pc = .ok (.iaload, 1)) (k : L g a b T (pc + 1) lo (.int (f (ix i)) :: st)) : L g a b T pc lo (.int i :: .ref x :: st) := by
  intro H locs ls hP hS hls
  exact va_iald X.1 X.2.1 X.2.2.2.2.2.1.1 hP.1 q 0 he rfl (inb_vp hi) hd (k H locs ls hP hS hls)
theorem L_bald (X : CL g own cc nL FR LO RC RS) {x n : Nat} {f : Nat → Int32} {i : Int32} (q : Nat) (he : T[q]? = some (x, .inl ((gκ g).2.1 2, n, .inl f))) (hi : inb i n = true) (hd : decode cc pc = .ok (.baload, 1)) (k : L g a b T (pc + 1) lo (.int (f (ix i)) :: st)) : L g a b T pc lo (.int i :: .ref x :: st) := by
  intro H locs ls hP hS hls
  exact va_bald X.1 X.2.1 X.2.2.2.2.2.1.1 hP.1 q 1 he rfl (inb_vp hi) hd (k H locs ls hP hS hls)
theorem L_zald (X : CL g own cc nL FR LO RC RS) {x n : Nat} {f : Nat → Int32} {i : Int32} (q : Nat) (he : T[q]? = some (x, .inl ((gκ g).2.1 6, n, .inl f))) (hi : inb i n = true) (hd : decode cc pc = .ok (.baload, 1)) (k : L g a b T (pc + 1) lo (.int (f (ix i)) :: st)) : L g a b T pc lo (.int i :: .ref x :: st) := by
  intro H locs ls hP hS hls
  exact va_zald X.1 X.2.1 X.2.2.2.2.2.1.1 hP.1 q 5 he rfl (inb_vp hi) hd (k H locs ls hP hS hls)
theorem L_bast (X : CL g own cc nL FR LO RC RS) {n x : Nat} {f : Nat → Int32} {i v : Int32} {T' : va_W} (q : Nat) (he : T[q]? = some (x, .inl ((gκ g).2.1 2, n, .inl f))) (hi : inb i n = true) (hT : T.set q (x, .inl ((gκ g).2.1 2, n, .inl (upd f (ix i) v.toInt8.toInt32))) = T') (hd : decode cc pc = .ok (.bastore, 1)) (kk : L g a b T' (pc + 1) lo st) : L g a b T pc lo (.int v :: .int i :: .ref x :: st) := by
  intro H locs ls hP hS hl
  subst hT
  exact va_bast X.1 X.2.1 X.2.2.2.2.2.1.1 hP.1 hP.2 hS q 1 he rfl (inb_vp hi) hd (fun H1 locs1 hP1 hD1 hS1 => kk H1 locs1 ls ⟨by rw [vp_nar_byte] at hP1; exact hP1, by rw [vp_nar_byte] at hD1; exact hD1⟩ hS1 hl)
theorem L_zast (X : CL g own cc nL FR LO RC RS) {n x : Nat} {f : Nat → Int32} {i v : Int32} {T' : va_W} (q : Nat) (he : T[q]? = some (x, .inl ((gκ g).2.1 6, n, .inl f))) (hi : inb i n = true) (hv : v = 0 ∨ v = 1) (hT : T.set q (x, .inl ((gκ g).2.1 6, n, .inl (upd f (ix i) v))) = T') (hd : decode cc pc = .ok (.bastore, 1)) (kk : L g a b T' (pc + 1) lo st) : L g a b T pc lo (.int v :: .int i :: .ref x :: st) := by
  intro H locs ls hP hS hl
  subst hT
  have e : vp_nar .boolean v = v := by rcases hv with rfl | rfl <;> rfl
  exact va_zast X.1 X.2.1 X.2.2.2.2.2.1.1 hP.1 hP.2 hS q 5 he rfl (inb_vp hi) hd (fun H1 locs1 hP1 hD1 hS1 => kk H1 locs1 ls ⟨by rw [e] at hP1; exact hP1, by rw [e] at hD1; exact hD1⟩ hS1 hl)
/-- an object out of an array of Objects -/
theorem L_oald (X : CL g own cc nL FR LO RC RS) {x n y : Nat} {f : Nat → Option Nat} {i : Int32} (q : Nat) (he : T[q]? = some (x, .inl ((gκ g).2.1 8, n, .inr (.inr (.inr (.inr f)))))) (hi : inb i n = true) (hy : f (ix i) = some y) (hd : decode cc pc = .ok (.aaload, 1)) (k : L g a b T (pc + 1) lo (.ref y :: st)) : L g a b T pc lo (.int i :: .ref x :: st) := by
  intro H locs ls hP hS hls
  refine va_aldq X.1 X.2.1 X.2.2.2.2.2.1.1 hP.1 q 7 he rfl (inb_vp hi) hd ?_
  rw [show f i.toNatClampNeg = some y from hy]
  exact k H locs ls hP hS hls
/-- a Beacon of the law into an array of Objects -/
theorem L_oast (X : CL g own cc nL FR LO RC RS) (E : XE g ξ) {x n v : Nat} {vs : List Value} {f : Nat → Option Nat} {i : Int32} {T' : va_W} (q qk : Nat) (he : T[q]? = some (x, .inl ((gκ g).2.1 8, n, .inr (.inr (.inr (.inr f)))))) (hv : T[qk]? = some (v, .inr (7, vs))) (hi : inb i n = true) (hT : T.set q (x, .inl ((gκ g).2.1 8, n, .inr (.inr (.inr (.inr (va_up f (ix i) (some v))))))) = T') (hd : decode cc pc = .ok (.aastore, 1)) (kk : L g a b T' (pc + 1) lo st) : L g a b T pc lo (.ref v :: .int i :: .ref x :: st) := by
  intro H locs ls hP hS hl
  subst hT
  exact va_astqO X.1 X.2.1 X.2.2.2.2.2.1.1 hP.1 hP.2 hS q 7 qk 7 (r := (RX7, TX7, 16)) he rfl E.2.2.2.2.2.2.2.2.1 hv rfl (inb_vp hi) hd (fun H1 locs1 hP1 hD1 hS1 => kk H1 locs1 ls ⟨hP1, hD1⟩ hS1 hl)
/-- a row out of an array of rows -/
theorem L_rald (X : CL g own cc nL FR LO RC RS) {x n y : Nat} {f : Nat → Option Nat} {i : Int32} (q : Nat) (he : T[q]? = some (x, .inl ((gκ g).2.1 7, n, .inr (.inr (.inr (.inr f)))))) (hi : inb i n = true) (hy : f (ix i) = some y) (hd : decode cc pc = .ok (.aaload, 1)) (k : L g a b T (pc + 1) lo (.ref y :: st)) : L g a b T pc lo (.int i :: .ref x :: st) := by
  intro H locs ls hP hS hls
  have hin := inb_vp hi
  have hlt : i.toNatClampNeg < n := Nat.not_le.mp fun z => hin (Or.inr z)
  have e : f i.toNatClampNeg = some y := hy
  exact W.aald (v := va_rf (f i.toNatClampNeg)) (ty := .array .boolean) X.1 X.2.1 (hP.1 q _ he) ((X.2.2.2.2.2.1.1.2 6 _ rfl).1 n (fun j => va_rf (f j))) rfl (fun z => by cases z) (by show ¬ (i < 0 ∨ (arrV _ _ _).slots.size ≤ _); rw [arrV_size]; exact hin) (by show (arrV _ _ _).slots[_]? = _; rw [arrV_read _ _ hlt]) rfl rfl hd (by rw [e]; exact k H locs ls hP hS hls)
theorem L_castS (X : CL g own cc nL FR LO RC RS) {x ci index : Nat} {fs : List Value} {q : vw_C} (hl : Cond.classLink own index q.1 ∈ WG) (i : Nat) (he : T[i]? = some (x, .inr (ci, fs))) (hq : vwCl[ci]? = some q) (hd : decode cc pc = .ok (.checkcast index, 3)) (k : L g a b T (pc + 3) lo (.ref x :: st)) : L g a b T pc lo (.ref x :: st) := by
  intro H locs ls hP hS hls
  exact va_castS X.1 X.2.1 X.2.2.2.1 (X.2.2.2.2.1 _ hl) (X.2.2.2.2.2.1.1.1 ci q hq).2 (va_recv X.2.2.2.2.2.1.1 hP.1 hq he) hd (k H locs ls hP hS hls)
theorem L_gets (X : CL g own cc nL FR LO RC RS) {index : Nat} {C n d ref : String} {v : Value} (hZ : va_Z C n d v (kA (gκ g)) (gs g) (gs g).heap) (href : C = ref) (hl : Cond.fieldLink own index ref n d ∈ WG) (hd : decode cc pc = .ok (.getstatic index, 3)) (k : L g a b T (pc + 3) lo (v :: st)) : L g a b T pc lo st := by
  intro H locs ls hP hS hls
  subst href
  exact va_gets X.1 X.2.1 hZ hS X.2.2.2.1 (X.2.2.2.2.1 _ hl) (fun _ h => h) hd (k H locs ls hP hS hls)
theorem L_tb (X : CL g own cc nL FR LO RC RS) {t N : Nat} {f : Nat → Value} {i : Int32} {v : Value} (hT : va_T .byte t N f (kA (gκ g)) (gs g) (gs g).heap) (hi : inb i N = true) (hv : f (ix i) = v) (hd : decode cc pc = .ok (.baload, 1)) (k : L g a b T (pc + 1) lo (v :: st)) : L g a b T pc lo (.int i :: .ref t :: st) := by
  intro H locs ls hP hS hls
  exact va_tb X.1 X.2.1 hT hS (inb_vp hi) hv hd (k H locs ls hP hS hls)
theorem L_tlen (X : CL g own cc nL FR LO RC RS) {t N : Nat} {f : Nat → Value} {ty : FieldType} {v : Int32} (hT : va_T ty t N f (kA (gκ g)) (gs g) (gs g).heap) (hv : nI N = v) (hd : decode cc pc = .ok (.arraylength, 1)) (k : L g a b T (pc + 1) lo (.int v :: st)) : L g a b T pc lo (.ref t :: st) := by
  intro H locs ls hP hS hls
  exact va_tlen X.1 X.2.1 hT hS hv hd (k H locs ls hP hS hls)
theorem L_sld (X : CL g own cc nL FR LO RC RS) (E : XE g ξ) {i : Int32} (hi : inb i ξ.1.2.1 = true) (hd : decode cc pc = .ok (.iaload, 1)) (k : L g a b T (pc + 1) lo (.int (ξ.1.2.2 (ix i)) :: st)) : L g a b T pc lo (.int i :: .ref ξ.1.1 :: st) := by
  intro H locs ls hP hS hls
  exact va_sld X.1 X.2.1 E.1.1 E.1.2.2 E.1.2.1 hS (inb_vp hi) hd (k H locs ls hP hS hls)
theorem L_slen (X : CL g own cc nL FR LO RC RS) (E : XE g ξ) (hd : decode cc pc = .ok (.arraylength, 1)) (k : L g a b T (pc + 1) lo (.int (nI ξ.1.2.1) :: st)) : L g a b T pc lo (.ref ξ.1.1 :: st) := by
  intro H locs ls hP hS hls
  exact va_slen X.1 X.2.1 E.1.1 E.1.2.2 E.1.2.1 hS hd (k H locs ls hP hS hls)
/-- System.arraycopy of ints or bytes between two cells -/
theorem L_copy (X : CL g own cc nL FR LO RC RS) {index a0 x t n0 n1 : Nat} {c1 : ClassId} {ty : FieldType} {f h : Nat → Int32} {sp dp n : Int32} {T' : va_W} (hl : Cond.methodLink own index arraycopyName ∈ WG) (q0 q1 : Nat) (he0 : T[q0]? = some (a0, .inl (c1, n0, .inl f))) (he1 : T[q1]? = some (x, .inl (c1, n1, .inl h))) (ht : (tysK (gκ g))[t]? = some (c1, ty)) (hp : refKind ty = false) (h1 : ¬ sp < 0) (h2 : ¬ dp < 0) (h3 : ¬ n < 0) (h4 : ix sp + ix n ≤ n0) (h5 : ix dp + ix n ≤ n1) (hfit : ∀ i, i < ix n → fits ty (.int (f (ix sp + i))) = true)
    (hR : 1 ≤ FR ∧ (st.map fun v => v.category).sum + (nativeFrameWords "java/lang/System" "arraycopy" 5 + 11) ≤ LO) (hT : T.set q1 (x, .inl (c1, n1, .inl (va_cpy f h (ix sp) (ix dp) (ix n)))) = T') (hd : decode cc pc = .ok (.invokestatic index, 3)) (k : L g a b T' (pc + 3) lo st) : L g a b T pc lo (.int n :: .int dp :: .ref x :: .int sp :: .ref a0 :: st) := by
  intro H locs ls hP hS hls
  subst hT
  exact va_copyi X.1 X.2.1 (X.2.2.1.trans (hls.1.trans X.2.2.1).symm) X.2.2.2.1 (X.2.2.2.2.1 _ hl) (X.2.2.2.2.1 _ wV_acopy) (X.2.2.2.2.1 _ wT_acopy) (X.2.2.2.2.1 _ w0_J10) X.2.2.2.2.2.1.1 hP.1 hP.2 hS q0 q1 t t he0 he1 ht ht hp h1 h2 h3 h4 h5 hfit (by rw [X.2.2.2.2.2.2.2.2.1]; exact hR.1) (by rw [X.2.2.2.2.2.2.2.2.2.1]; exact hR.2) hd (fun H1 locs1 hP1 hD1 hS1 => k H1 locs1 ls ⟨hP1, hD1⟩ hS1 hls)
theorem L_getN (X : CL g own cc nL FR LO RC RS) {ref C host : String} {Tf : u_T} {N c index k x : Nat} {fs : List Value} {v : Value} (hc : vwCl[c]? = some (C, Tf, N)) (hin : ∀ w ∈ u_ws C Tf N, w ∈ WG) (hk : k < N) (href : (Tf k).1 = ref) (hw : Cond.fieldLinkNest own index ref (Tf k).2.1 (Tf k).2.2.1 host ∈ NW) (i : Nat) (he : T[i]? = some (x, .inr (c, fs))) (hv : fs[k]? = some v) (hd : decode cc pc = .ok (.getfield index, 3)) (kk : L g a b T (pc + 3) lo (v :: st)) : L g a b T pc lo (.ref x :: st) := by
  intro H locs ls hP hS hl
  exact va_getN X.1 X.2.1 X.2.2.2.2.1 hin X.2.2.2.1 X.2.2.2.2.2.1.1 hP.1 i he hc k hk (va_Nw.use rfl (X.2.2.2.2.2.1.2.1 _ hw)) (fun _ h => by rw [← href]; exact h) hv hd (kk H locs ls hP hS hl)
theorem iJx4a65c : ∀ w ∈ u_ws RJx4a65c TJx4a65c 3, w ∈ WG := List.forall_mem_cons.mpr ⟨wL_Jx4a65c_modCount, List.forall_mem_cons.mpr ⟨wL_Jx4a65c_elementData, List.forall_mem_cons.mpr ⟨wL_Jx4a65c_size, fun _ h => absurd h List.not_mem_nil⟩⟩⟩
theorem E_mc (E : XE g ξ) : ∀ x, (gs g).fieldFound? RJxc12de "modCount" "I" = some x → (gs g).fieldFound? RJx4a65c "modCount" "I" = some x :=
  u_same (E.2.2.2.2.2.2.2.1 _ (List.mem_of_getElem? (i := 4) rfl))
theorem L_getmc (X : CL g own cc nL FR LO RC RS) (E : XE g ξ) {index x : Nat} {v : Value} {fs : List Value} (hw : Cond.fieldLink own index RJx4a65c "modCount" "I" ∈ WG) (i : Nat) (he : T[i]? = some (x, .inr (9, v :: fs))) (hd : decode cc pc = .ok (.getfield index, 3)) (kk : L g a b T (pc + 3) lo (v :: st)) : L g a b T pc lo (.ref x :: st) := by
  intro H locs ls hP hS hl
  exact va_get (k := 0) (T := TJx4a65c) (N := 3) (C := RJx4a65c) X.1 X.2.1 X.2.2.2.2.1 iJx4a65c X.2.2.2.1 X.2.2.2.2.2.1.1 hP.1 i he rfl (by decide) (X.2.2.2.2.1 _ hw) (E_mc E) rfl hd (kk H locs ls hP hS hl)
theorem L_putmc (X : CL g own cc nL FR LO RC RS) (E : XE g ξ) {index x : Nat} {v w : Value} {n : Int32} {fs : List Value} {T' : va_W} (hw : Cond.fieldLink own index RJx4a65c "modCount" "I" ∈ WG) (i : Nat) (he : T[i]? = some (x, .inr (9, w :: fs))) (hv : v = .int n) (hT : T.set i (x, .inr (9, v :: fs)) = T') (hd : decode cc pc = .ok (.putfield index, 3)) (kk : L g a b T' (pc + 3) lo st) : L g a b T pc lo (v :: .ref x :: st) := by
  intro H locs ls hP hS hl
  subst hT; subst hv
  exact va_put (k := 0) (T := TJx4a65c) (N := 3) (C := RJx4a65c) (ty := .int) X.1 X.2.1 X.2.2.2.2.1 iJx4a65c tyJx4a65c tyJx4a65c_ok nmJx4a65c X.2.2.2.1 X.2.2.2.2.2.1.1 hP.1 hP.2 hS i he rfl (by decide) (X.2.2.2.2.1 _ hw) (E_mc E) rfl rfl rfl rfl (by simp) hd (fun H1 locs1 hP1 hD1 hS1 => kk H1 locs1 ls ⟨hP1, hD1⟩ hS1 hl)
/-- an inherited method -/
theorem L_cU (X : CL g own cc nL FR LO RC RS) (E : XE g ξ) {index : Nat} {xm y : MethodName} {bytes : ByteArray} {mx fr lo2 dc ds n : Nat} {ret : Option FieldType} {As rest : List Value} {post : Option Value → va_W → Prop} {owner : String} {x ci : Nat} {fs : List Value} {q : vw_C} (hM : CtM g.2.1 (gκ g) ξ y bytes mx ret fr lo2 dc ds (.ref x :: As) T post) (cal : Cal y bytes mx ret n) (hl : Cond.methodLink own index xm ∈ WG) (hsm : Cond.sameMethod xm.cls owner xm.name xm.desc ∈ WG) (hi : Cond.instanceMethod y ∈ WG) (hse : Cond.selects q.1 xm y ∈ WG ++ SPw) (hyx : y = ⟨owner, xm.name, xm.desc⟩) (i : Nat) (he : T[i]? = some (x, .inr (ci, fs))) (hq : vwCl[ci]? = some q) (hR : Rm FR LO RC RS fr mx lo2 a b dc ds) (hn : As.length = n) {st : List Value} (hst : st = As.reverse ++ .ref x :: rest) (hc : (rest.map fun v => v.category).sum ≤ 8)
    (hd : decode cc pc = .ok (.invokevirtual index, 3)) (k : ∀ rv T1, post rv T1 → L g (a + dc) (b + ds) T1 (pc + 3) lo (rv.toList ++ rest)) : L g a b T pc lo st := by
  intro H locs ls hP hS hls
  have hTs : ∀ w ∈ WG ++ SPw, w.before g.2.2.2.2.2.2.1 (gs g) = true := fun w hw => by
    rcases List.mem_append.mp hw with h | h
    · exact X.2.2.2.2.1 w h
    · have hg := SPw_good w h
      simp only [Bool.and_eq_true] at hg
      exact va_any hg.1 (E.2.2.2.2.2.2.2.1 w h)
  have hG : ∀ w ∈ WG ++ SPw, w ∈ WG ++ SPw ∧ ((w.onTables && w.keeps) = true ∨ ∃ ty, w = .arrayClass ty) := fun w hw => by
    refine ⟨hw, ?_⟩
    rcases List.mem_append.mp hw with h | h
    · exact (WG_ok h).2
    · exact Or.inl (SPw_good w h)
  have hL : ∀ {w : Cond}, w ∈ WG → w ∈ WG ++ SPw := fun h => List.mem_append_left _ h
  exact run_M (va_runU (CL_fix X) (hM X.2.2.2.2.2.2.2.2.2.2.2.1) (va_cwU (Ts := WG ++ SPw) n hTs (fun w hw => by
      rcases List.mem_append.mp hw with hw | hw
      · rcases List.mem_cons.mp hw with rfl | hw
        · exact hG _ (hL hl)
        rcases List.mem_cons.mp hw with rfl | hw
        · exact hG _ (hL hsm)
        rcases List.mem_cons.mp hw with rfl | hw
        · exact hG _ hse
        rcases List.mem_cons.mp hw with rfl | hw
        · exact hG _ (hL hi)
        rcases List.mem_cons.mp hw with rfl | hw
        · exact hG _ (hL cal.2.1)
        · exact absurd hw List.not_mem_nil
      · exact hG _ (hL (wsK_in cal.1 w hw).1)) rfl rfl rfl hyx ⟨by rw [hyx] at cal; exact cal.2.2.1, by rw [hyx] at cal; exact cal.2.2.2.1, by rw [hyx] at cal; exact cal.2.2.2.2⟩ (by rw [X.2.2.2.2.2.2.2.2.1, X.2.2.2.2.2.2.2.2.2.1]; exact hR.1)) ⟨PreM.blind, va_recv X.2.2.2.2.2.1.1 hP.1 hq he, fun U hU hW => ⟨rfl, XE_pre X E hP hS hU hW⟩⟩ rfl hn (hls.1.trans X.2.2.1) hst (lv_room hc) hd (by rw [X.2.2.2.2.2.2.1.1, X.2.2.2.2.2.2.1.2.1]; exact hR.2)) hS (fun rv T1 H1 locs1 hp hP1 hS1 => k rv T1 hp H1 locs1 ls hP1 hS1 hls)
/-- a method of the superclass -/
theorem L_cSU (X : CL g own cc nL FR LO RC RS) (E : XE g ξ) {index : Nat} {y : MethodName} {bytes : ByteArray} {mx fr lo2 dc ds n : Nat} {ret : Option FieldType} {As rest : List Value} {post : Option Value → va_W → Prop} {x ci : Nat} {fs : List Value} {q : vw_C} (hM : CtM g.2.1 (gκ g) ξ y bytes mx ret fr lo2 dc ds (.ref x :: As) T post) (cal : Cal y bytes mx ret n) (hl : Cond.methodLink own index y ∈ WG) (hsm : Cond.sameMethod y.cls y.cls y.name y.desc ∈ WG) (hsu : Cond.superclass own y.cls ∈ WG) (hi : Cond.instanceMethod y ∈ WG) (hyn : y.name ≠ "<init>") (i : Nat) (he : T[i]? = some (x, .inr (ci, fs))) (hq : vwCl[ci]? = some q) (hR : Rm FR LO RC RS fr mx lo2 a b dc ds) (hn : As.length = n) {st : List Value} (hst : st = As.reverse ++ .ref x :: rest) (hc : (rest.map fun v => v.category).sum ≤ 8)
    (hd : decode cc pc = .ok (.invokespecial index, 3)) (k : ∀ rv T1, post rv T1 → L g (a + dc) (b + ds) T1 (pc + 3) lo (rv.toList ++ rest)) : L g a b T pc lo st := by
  intro H locs ls hP hS hls
  exact run_M (va_runSU (X.2.2.2.2.2.1.1.1 ci q hq).2 (CL_fix X) (hM X.2.2.2.2.2.2.2.2.2.2.2.1) (va_cwSU n X.2.2.2.2.1 (fun w hw => by
      rcases List.mem_append.mp hw with hw | hw
      · rcases List.mem_cons.mp hw with rfl | hw
        · exact WG_ok hl
        rcases List.mem_cons.mp hw with rfl | hw
        · exact WG_ok hsm
        rcases List.mem_cons.mp hw with rfl | hw
        · exact WG_ok hsu
        rcases List.mem_cons.mp hw with rfl | hw
        · exact WG_ok hi
        rcases List.mem_cons.mp hw with rfl | hw
        · exact WG_ok cal.2.1
        · exact absurd hw List.not_mem_nil
      · exact wsK_in cal.1 w hw) rfl rfl rfl ⟨hyn, cal.2.2.2.2⟩ (by rw [X.2.2.2.2.2.2.2.2.1, X.2.2.2.2.2.2.2.2.2.1]; exact hR.1)) ⟨PreM.blind, va_recv X.2.2.2.2.2.1.1 hP.1 hq he, fun U hU hW => ⟨rfl, XE_pre X E hP hS hU hW⟩⟩ rfl hn (hls.1.trans X.2.2.1) hst (lv_room hc) hd (by rw [X.2.2.2.2.2.2.1.1, X.2.2.2.2.2.2.1.2.1]; exact hR.2)) hS (fun rv T1 H1 locs1 hp hP1 hS1 => k rv T1 hp H1 locs1 ls hP1 hS1 hls)
end
