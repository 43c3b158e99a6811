/-! methods that may draw a NaN -/
section
variable {g : GX} {a b : Nat} {T : TT} {pc : Nat} {lo : List (Nat × Value)} {st : List Value} {own : String} {cc : ByteArray} {nL FR LO : Nat}
theorem G_fconst (X : CX g own cc nL FR LO) (hd : decode cc pc = .ok (.fconst 0, 1)) (k : G g a b T (pc + 1) lo (.float FP.fconst0 :: st)) : G g a b T pc lo st := fun H locs ls hP hS hls => lv_fconst0 X.1 X.2.1 hd (k H locs ls hP hS hls)
theorem G_dconst (X : CX g own cc nL FR LO) (hd : decode cc pc = .ok (.dconst 0, 1)) (k : G g a b T (pc + 1) lo (.double FP.dconst0 :: st)) : G g a b T pc lo st := fun H locs ls hP hS hls => lv_dconst0 X.1 X.2.1 hd (k H locs ls hP hS hls)
end
def FinF (g : GX) (cc : ByteArray) (T' : TT) : Unit ⊕ (Int32 × Int32) → Prop
  | .inl _ => ∀ pc lo, decode cc pc = .ok (.freturn, 1) → G g 0 0 T' pc lo [.float FP.fconst0]
  | .inr q => ∀ pc lo, decode cc pc = .ok (.fdiv, 1) → decode cc (pc + 1) = .ok (.freturn, 1) → G g 0 0 T' pc lo [.float (FP.i2f q.2), .float (FP.i2f q.1)]
def FinD (g : GX) (cc : ByteArray) (T' : TT) : Unit ⊕ (Int32 × Int32) → Prop
  | .inl _ => ∀ pc lo, decode cc pc = .ok (.dreturn, 1) → G g 0 0 T' pc lo [.double FP.dconst0]
  | .inr q => ∀ pc lo, decode cc pc = .ok (.ddiv, 1) → decode cc (pc + 1) = .ok (.dreturn, 1) → G g 0 0 T' pc lo [.double (FP.i2d q.2), .double (FP.i2d q.1)]
def alF : Unit ⊕ (Int32 × Int32) → UInt32 → Prop
  | .inl _, r => r = FP.fconst0
  | .inr q, r => alike32 r (FP.fdiv (FP.i2f q.1) (FP.i2f q.2)) = true
def alD : Unit ⊕ (Int32 × Int32) → UInt64 → Prop
  | .inl _, r => r = FP.dconst0
  | .inr q, r => alike64 r (FP.ddiv (FP.i2d q.1) (FP.i2d q.2)) = true
def CtF (l : Launch) (κ : KX) (y : MethodName) (cc : ByteArray) (mx fr lo : Nat) (av : List Value) (T T' : TT) (q : Unit ⊕ (Int32 × Int32)) : Prop :=
  l.stackTraces = false → KOK κ → MetD lw_cs l y (wsK y cc mx (some .float)) (rmK fr lo) (va_Pc av (PreK κ T)) (va_Qf (fun r (_ : Unit) => alF q r) (fun _ t => va_P κ.1 vwCl (wsO κ T') t.heap) (kA κ)) 0 0 (kA κ)
def CtD (l : Launch) (κ : KX) (y : MethodName) (cc : ByteArray) (mx fr lo : Nat) (av : List Value) (T T' : TT) (q : Unit ⊕ (Int32 × Int32)) : Prop :=
  l.stackTraces = false → KOK κ → MetD lw_cs l y (wsK y cc mx (some .double)) (rmK fr lo) (va_Pc av (PreK κ T)) (va_Qd (fun r (_ : Unit) => alD q r) (fun _ t => va_P κ.1 vwCl (wsO κ T') t.heap) (kA κ)) 0 0 (kA κ)
theorem KxS.dr {κ : KX} {s : State} (h : KxS κ s) (d : Drawn) : KxS κ (s.setDrawn d) := ⟨h.1, fun w hw => by
  have := h.2.1 w hw
  unfold va_Nw at this ⊢
  rw [Cond.before_setDrawn]; exact this, fun q hq => vk_R.same (u := s) (U := s.setDrawn d) rfl (h.2.2 q hq)⟩
theorem CX.dr {p : Program} {l : Launch} {e : Env} {R : Room} {s : State} {m : MethodId} {args : Array Value} {below : List Frame} {meth : Method} {c : Code} {κ : KX} {Q : State → Prop} {own : String} {cc : ByteArray} {nL FR LO : Nat} (X : CX (p, l, e, R, s, m, args, below, meth, c, κ, Q) own cc nL FR LO) (d : Drawn) : CX (p, l, e, R, s.setDrawn d, m, args, below, meth, c, κ, Q) own cc nL FR LO :=
  ⟨X.1, X.2.1, X.2.2.1, X.2.2.2.1, dr_words X.2.2.2.2.1 d, X.2.2.2.2.2.1.dr d, X.2.2.2.2.2.2.1, Str.move (Vm.Alike.refl s.vm) X.2.2.2.2.2.2.2.1, X.2.2.2.2.2.2.2.2⟩
theorem CtF_of {l : Launch} {κ : KX} {y : MethodName} {cc : ByteArray} {mx fr lo : Nat} {av : List Value} {T T' : TT} {q : Unit ⊕ (Int32 × Int32)} (own : String) (ho : y.cls = own) (hy : plainName y.cls = true) (hn : (lg_sl av).length ≤ mx)
    (k : ∀ g : GX, g.2.1 = l → gκ g = κ → CX g own cc mx fr lo → FinF g cc T' q → G g 0 0 T 0 (lv_args 0 av) []) : CtF l κ y cc mx fr lo av T T' q := by
  intro hl hK
  subst ho
  refine MetD.ofW (cc := cc) (maxL := mx) (ret := some .float) hy rfl ?_
  intro p e s m args below meth c0 s₁ B hml hv hd0
  obtain ⟨rfl, hv⟩ := hv
  rw [lg_entry_eq]
  have X0 := Pre_CX (Q := MQD lw_cs below (va_Qf (fun r (_ : Unit) => alF q r) (fun _ t => va_P κ.1 vwCl (wsO κ T') t.heap) (kA κ)) av.toArray s 0 0 (kA κ)) hl hK B hml hv
  refine k (p, l, e, rmK fr lo, s.setDrawn s.drawn, m, av.toArray, below, meth, c0, κ, _) rfl rfl (X0.dr s.drawn) ?_ s.heap [] _ hv.1 va_S.rf (by show lv_has _ c0.maxLocals _; rw [hml]; exact lv_entry av hn)
  cases q with
  | inl u =>
    intro pc lo2 hd H locs ls hP hS hls
    refine W.endD hd0 ?_
    exact W.fret (hlocks := B.notSynchronized) B.exec B.bytes B.returns (fun t ht _ => ⟨⟨_, (), rfl, rfl, by show va_P _ _ _ t.heap; rw [ht]; exact hP⟩, hS.F ht⟩) (fun q hq => hS.2.2 q hq) hd
  | inr q =>
    intro pc lo2 hd hd2 H locs ls hP hS hls
    refine lv_fdiv_any hd0 lw_bits B.exec B.bytes hd (fun r d1 hal hd1 => ?_)
    refine W.endD hd1 ?_
    exact W.fret (hlocks := B.notSynchronized) B.exec B.bytes B.returns (fun t ht _ => ⟨⟨r, (), rfl, hal, by show va_P _ _ _ t.heap; rw [ht]; exact hP⟩, hS.F ht⟩) (fun q hq => hS.2.2 q hq) hd2
theorem CtD_of {l : Launch} {κ : KX} {y : MethodName} {cc : ByteArray} {mx fr lo : Nat} {av : List Value} {T T' : TT} {q : Unit ⊕ (Int32 × Int32)} (own : String) (ho : y.cls = own) (hy : plainName y.cls = true) (hn : (lg_sl av).length ≤ mx)
    (k : ∀ g : GX, g.2.1 = l → gκ g = κ → CX g own cc mx fr lo → FinD g cc T' q → G g 0 0 T 0 (lv_args 0 av) []) : CtD l κ y cc mx fr lo av T T' q := by
  intro hl hK
  subst ho
  refine MetD.ofW (cc := cc) (maxL := mx) (ret := some .double) hy rfl ?_
  intro p e s m args below meth c0 s₁ B hml hv hd0
  obtain ⟨rfl, hv⟩ := hv
  rw [lg_entry_eq]
  have X0 := Pre_CX (Q := MQD lw_cs below (va_Qd (fun r (_ : Unit) => alD q r) (fun _ t => va_P κ.1 vwCl (wsO κ T') t.heap) (kA κ)) av.toArray s 0 0 (kA κ)) hl hK B hml hv
  refine k (p, l, e, rmK fr lo, s.setDrawn s.drawn, m, av.toArray, below, meth, c0, κ, _) rfl rfl (X0.dr s.drawn) ?_ s.heap [] _ hv.1 va_S.rf (by show lv_has _ c0.maxLocals _; rw [hml]; exact lv_entry av hn)
  cases q with
  | inl u =>
    intro pc lo2 hd H locs ls hP hS hls
    refine W.endD hd0 ?_
    exact W.dret (hlocks := B.notSynchronized) B.exec B.bytes B.returns (fun t ht _ => ⟨⟨_, (), rfl, rfl, by show va_P _ _ _ t.heap; rw [ht]; exact hP⟩, hS.F ht⟩) (fun q hq => hS.2.2 q hq) hd
  | inr q =>
    intro pc lo2 hd hd2 H locs ls hP hS hls
    refine lv_ddiv_any hd0 lw_bits B.exec B.bytes hd (fun r d1 hal hd1 => ?_)
    refine W.endD hd1 ?_
    exact W.dret (hlocks := B.notSynchronized) B.exec B.bytes B.returns (fun t ht _ => ⟨⟨r, (), rfl, hal, by show va_P _ _ _ t.heap; rw [ht]; exact hP⟩, hS.F ht⟩) (fun q hq => hS.2.2 q hq) hd2
/-! two draws of one number: they are the same, or neither is a number -/
theorem nan32 {b : UInt32} (h : isNaN32 b = true) : FP.Core.fIsNaN b = true := by
  rw [isNaN32_iff] at h
  rw [show (0x7fffffff : Nat) = 2 ^ 31 - 1 from rfl, Nat.and_two_pow_sub_one_eq_mod] at h
  have hE : FP.Core.fieldE FP.Core.b32 b.toNat = FP.Core.b32.exps - 1 := by show b.toNat / 8388608 % 256 = 255; omega
  have hT : ¬ FP.Core.fieldT FP.Core.b32 b.toNat = 0 := by show ¬ b.toNat % 8388608 = 0; omega
  refine decide_eq_true ?_
  unfold FP.Core.decode
  rw [if_pos hE, if_neg hT]
theorem nan64 {b : UInt64} (h : isNaN64 b = true) : FP.Core.decode FP.Core.b64 b.toNat = .nan := by
  rw [isNaN64_iff] at h
  rw [show (0x7fffffffffffffff : Nat) = 2 ^ 63 - 1 from rfl, Nat.and_two_pow_sub_one_eq_mod] at h
  have hE : FP.Core.fieldE FP.Core.b64 b.toNat = FP.Core.b64.exps - 1 := by show b.toNat / 4503599627370496 % 2048 = 2047; omega
  have hT : ¬ FP.Core.fieldT FP.Core.b64 b.toNat = 0 := by show ¬ b.toNat % 4503599627370496 = 0; omega
  unfold FP.Core.decode
  rw [if_pos hE, if_neg hT]
theorem nan_f2d {x : UInt32} (h : isNaN32 x = true) : isNaN64 (FP.f2d x) = true := by
  unfold FP.f2d
  rw [if_pos (nan32 h)]
  unfold FP.nanF2D
  exact isNaN64_or_left (isNaN64_or_right (by decide))
def eqN (p q : UInt64) : Prop := p = q ∨ (isNaN64 p = true ∧ isNaN64 q = true)
theorem al64 {p q : UInt64} (h : alike64 p q = true) : p = q ∨ (isNaN64 p = true ∧ isNaN64 q = true) := by
  simp only [alike64, Bool.or_eq_true, decide_eq_true_eq, Bool.and_eq_true] at h
  exact h
theorem al32 {p q : UInt32} (h : alike32 p q = true) : p = q ∨ (isNaN32 p = true ∧ isNaN32 q = true) := by
  simp only [alike32, Bool.or_eq_true, decide_eq_true_eq, Bool.and_eq_true] at h
  exact h
theorem al_mid {p q r : UInt64} (h3 : alike64 p r = true) (h4 : alike64 q r = true) : eqN p q := by
  rcases al64 h3 with a | ⟨a1, a2⟩ <;> rcases al64 h4 with b | ⟨b1, b2⟩
  · exact Or.inl (a.trans b.symm)
  · exact Or.inr ⟨by rw [a]; exact b2, b1⟩
  · exact Or.inr ⟨a1, by rw [b]; exact a2⟩
  · exact Or.inr ⟨a1, b1⟩
theorem eqN_D {v : Unit ⊕ (Int32 × Int32)} {p q : UInt64} (h1 : alD v p) (h2 : alD v q) : eqN p q := by
  cases v with
  | inl u => exact Or.inl (Eq.trans h1 (Eq.symm h2))
  | inr v => exact al_mid h1 h2
theorem eqN_F {v : Unit ⊕ (Int32 × Int32)} {x y : UInt32} {p q : UInt64} (h1 : alF v x) (h2 : alF v y) (h3 : alike64 p (FP.f2d x) = true) (h4 : alike64 q (FP.f2d y) = true) : eqN p q := by
  have key : x = y ∨ (isNaN32 x = true ∧ isNaN32 y = true) := by
    cases v with
    | inl u => exact Or.inl (Eq.trans h1 (Eq.symm h2))
    | inr v =>
      rcases al32 h1 with a | ⟨a1, a2⟩ <;> rcases al32 h2 with b | ⟨b1, b2⟩
      · exact Or.inl (a.trans b.symm)
      · exact Or.inr ⟨by rw [a]; exact b2, b1⟩
      · exact Or.inr ⟨a1, by rw [b]; exact a2⟩
      · exact Or.inr ⟨a1, b1⟩
  rcases key with rfl | ⟨hx, hy⟩
  · exact al_mid h3 h4
  · refine Or.inr ⟨?_, ?_⟩
    · rcases al64 h3 with a | ⟨a1, a2⟩
      · rw [a]; exact nan_f2d hx
      · exact a1
    · rcases al64 h4 with a | ⟨a1, a2⟩
      · rw [a]; exact nan_f2d hy
      · exact a1
theorem nan_cmp {p q : UInt64} (h : isNaN64 p = true) : ¬ Op.cmpValue (FP.dcmp p q) CmpOp.l = 0 := by
  have : FP.dcmp p q = none := by
    show FP.Core.order (FP.Core.decode FP.Core.b64 p.toNat) (FP.Core.decode FP.Core.b64 q.toNat) = none
    rw [nan64 h]; rfl
  rw [this]; decide
