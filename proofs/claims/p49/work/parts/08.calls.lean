/-! contracts, said of stores -/
def PreK (κ : KX) (T : TT) (U : State) : Prop := va_P κ.1 vwCl (wsO κ T) U.heap ∧ KxS κ U ∧ Str κ U U.heap ∧ (∀ q, U.heap.size ≤ q → kA κ q)
def QcK (κ : KX) (T' : TT) (rv : Option Value) : Array Value → State → Outcome → State → Prop := fun _ st o t => (o = .returned rv ∧ va_P κ.1 vwCl (wsO κ T') t.heap) ∧ va_F (kA κ) st t
abbrev rmK (fr lo : Nat) : Room := { frames := fr, cells := 0, slots := 0, locals := lo }
abbrev wsK (y : MethodName) (cc : ByteArray) (mx : Nat) (ret : Option FieldType) : List Cond := Cond.code y cc mx ret :: WG
/-- a method's contract: from the stores T to the stores T', answering rv -/
def Ct (l : Launch) (κ : KX) (y : MethodName) (cc : ByteArray) (mx : Nat) (ret : Option FieldType) (fr lo : Nat) (av : List Value) (T T' : TT) (rv : Option Value) : Prop :=
  l.stackTraces = false → KOK κ → Met l y (wsK y cc mx ret) (rmK fr lo) (va_Pc av (PreK κ T)) (QcK κ T' rv) 0 0 (kA κ)
theorem PreK.blind {κ : KX} {av : List Value} {T : TT} : FrameBlind (va_Pc av (PreK κ T)) := fun a U g mk h => ⟨h.1, h.2.1, KxS.call h.2.2.1, Str.move (Vm.Alike.refl U.vm) h.2.2.2.1, h.2.2.2.2⟩
/-- what the end of a body must be able to do -/
def FinI (g : GX) (cc : ByteArray) (ty : FieldType) (T' : TT) (v : Int32) : Prop := ∀ pc lo, decode cc pc = .ok (.ireturn, 1) → narrow ty (.int v) = .int v → G g 0 0 T' pc lo [.int v]
def FinL (g : GX) (cc : ByteArray) (T' : TT) (v : Int64) : Prop := ∀ pc lo, decode cc pc = .ok (.lreturn, 1) → G g 0 0 T' pc lo [.long v]
def FinV (g : GX) (cc : ByteArray) (T' : TT) : Prop := ∀ pc lo, decode cc pc = .ok (.return_, 1) → G g 0 0 T' pc lo []
def FinA (g : GX) (cc : ByteArray) (T' : TT) (v : Nat) : Prop := ∀ pc lo, decode cc pc = .ok (.areturn, 1) → G g 0 0 T' pc lo [.ref v]
theorem Pre_CX {l : Launch} {κ : KX} {y : MethodName} {cc : ByteArray} {mx fr lo : Nat} {ret : Option FieldType} {T : TT} {p : Program} {e : Env} {s : State} {m : MethodId} {args : Array Value} {below : List Frame} {meth : Method} {c : Code} {s₁ : State} {Q : State → Prop}
    (hl : l.stackTraces = false) (hK : KOK κ) (B : BodyLoose p l y (headSpec (wsK y cc mx ret) (rmK fr lo)) cc mx ret e s m args below meth c s₁) (hml : c.maxLocals = mx) (h : PreK κ T s) :
    CX (p, l, e, rmK fr lo, s, m, args, below, meth, c, κ, Q) y.cls cc mx fr lo :=
  ⟨B.exec, B.bytes, hml, findClass_of_methodNamed B.named, fun w hw => atoms_spec (ws := wsK y cc mx ret) B.pre w (List.mem_cons_of_mem _ hw), h.2.1, hK, h.2.2.1, rfl, rfl, h.2.2.2, hl, B.notSynchronized⟩
/-- the entry of a body -/
theorem G_entry {κ : KX} {y : MethodName} {cc : ByteArray} {mx fr lo : Nat} {ret : Option FieldType} {av : List Value} {T : TT} {p : Program} {l : Launch} {e : Env} {s : State} {m : MethodId} {below : List Frame} {meth : Method} {c : Code} {Q : State → Prop} (hml : c.maxLocals = mx) (hn : (lg_sl av).length ≤ mx) (hP : va_P κ.1 vwCl (wsO κ T) s.heap)
    (k : G (p, l, e, rmK fr lo, s, m, av.toArray, below, meth, c, κ, Q) 0 0 T 0 (lv_args 0 av) []) : W p l e (headSpec (wsK y cc mx ret) (rmK fr lo)).room s m av.toArray below meth c s.heap [] 0 0 Q (entryFrame m av.toArray mx) := by
  rw [lg_entry_eq]
  exact k s.heap [] _ hP va_S.rf (by rw [show (p, l, e, rmK fr lo, s, m, av.toArray, below, meth, c, κ, Q).2.2.2.2.2.2.2.2.2.1.maxLocals = mx from hml]; exact lv_entry av hn)
theorem Ct_i {l : Launch} {κ : KX} {y : MethodName} {cc : ByteArray} {mx fr lo : Nat} {ty : FieldType} {av : List Value} {T T' : TT} {v : Int32} (own : String) (ho : y.cls = own) (hy : plainName y.cls = true) (hn : (lg_sl av).length ≤ mx)
    (k : ∀ g : GX, g.2.1 = l → gκ g = κ → CX g own cc mx fr lo → FinI g cc ty T' v → G g 0 0 T 0 (lv_args 0 av) []) : Ct l κ y cc mx (some ty) fr lo av T T' (some (.int v)) := by
  intro hl hK
  subst ho
  refine Met.ofW (cc := cc) (maxL := mx) (ret := some ty) hy rfl ?_
  intro p e s m args below meth c s₁ B hml hv
  obtain ⟨rfl, hv⟩ := hv
  refine G_entry (fr := fr) (lo := lo) hml hn hv.1 (k _ rfl rfl (Pre_CX hl hK B hml hv) ?_)
  intro pc lo hd hnw H locs ls hP hS hls
  exact W.zret (hlocks := B.notSynchronized) B.exec B.bytes B.returns hnw (fun t ht _ => ⟨⟨rfl, by rw [ht]; exact hP⟩, hS.F ht⟩) (fun q hq => hS.2.2 q hq) hd
theorem Ct_v {l : Launch} {κ : KX} {y : MethodName} {cc : ByteArray} {mx fr lo : Nat} {av : List Value} {T T' : TT} (own : String) (ho : y.cls = own) (hy : plainName y.cls = true) (hn : (lg_sl av).length ≤ mx)
    (k : ∀ g : GX, g.2.1 = l → gκ g = κ → CX g own cc mx fr lo → FinV g cc T' → G g 0 0 T 0 (lv_args 0 av) []) : Ct l κ y cc mx none fr lo av T T' none := by
  intro hl hK
  subst ho
  refine Met.ofW (cc := cc) (maxL := mx) (ret := none) hy rfl ?_
  intro p e s m args below meth c s₁ B hml hv
  obtain ⟨rfl, hv⟩ := hv
  refine G_entry (fr := fr) (lo := lo) hml hn hv.1 (k _ rfl rfl (Pre_CX hl hK B hml hv) ?_)
  intro pc lo hd H locs ls hP hS hls
  exact W.vret (hlocks := B.notSynchronized) B.exec B.bytes B.returns (fun t ht _ => ⟨⟨rfl, by rw [ht]; exact hP⟩, hS.F ht⟩) (fun q hq => hS.2.2 q hq) hd
theorem Ct_l {l : Launch} {κ : KX} {y : MethodName} {cc : ByteArray} {mx fr lo : Nat} {av : List Value} {T T' : TT} {v : Int64} (own : String) (ho : y.cls = own) (hy : plainName y.cls = true) (hn : (lg_sl av).length ≤ mx)
    (k : ∀ g : GX, g.2.1 = l → gκ g = κ → CX g own cc mx fr lo → FinL g cc T' v → G g 0 0 T 0 (lv_args 0 av) []) : Ct l κ y cc mx (some .long) fr lo av T T' (some (.long v)) := by
  intro hl hK
  subst ho
  refine Met.ofW (cc := cc) (maxL := mx) (ret := some .long) hy rfl ?_
  intro p e s m args below meth c s₁ B hml hv
  obtain ⟨rfl, hv⟩ := hv
  refine G_entry (fr := fr) (lo := lo) hml hn hv.1 (k _ rfl rfl (Pre_CX hl hK B hml hv) ?_)
  intro pc lo hd H locs ls hP hS hls
  exact W.lret (hlocks := B.notSynchronized) B.exec B.bytes B.returns (fun t ht _ => ⟨⟨rfl, by rw [ht]; exact hP⟩, hS.F ht⟩) (fun q hq => hS.2.2 q hq) hd
theorem Ct_a {l : Launch} {κ : KX} {y : MethodName} {cc : ByteArray} {mx fr lo : Nat} {C : String} {av : List Value} {T T' : TT} {v : Nat} (own : String) (ho : y.cls = own) (hy : plainName y.cls = true) (hn : (lg_sl av).length ≤ mx)
    (k : ∀ g : GX, g.2.1 = l → gκ g = κ → CX g own cc mx fr lo → FinA g cc T' v → G g 0 0 T 0 (lv_args 0 av) []) : Ct l κ y cc mx (some (.object C)) fr lo av T T' (some (.ref v)) := by
  intro hl hK
  subst ho
  refine Met.ofW (cc := cc) (maxL := mx) (ret := some (.object C)) hy rfl ?_
  intro p e s m args below meth c s₁ B hml hv
  obtain ⟨rfl, hv⟩ := hv
  refine G_entry (fr := fr) (lo := lo) hml hn hv.1 (k _ rfl rfl (Pre_CX hl hK B hml hv) ?_)
  intro pc lo hd H locs ls hP hS hls
  exact W.aret (hlocks := B.notSynchronized) B.exec B.bytes B.returns (Or.inl ⟨_, rfl⟩) (Or.inr ⟨_, rfl⟩) (fun t ht _ => ⟨⟨rfl, by rw [ht]; exact hP⟩, hS.F ht⟩) (fun q hq => hS.2.2 q hq) hd
theorem WG_ok {w : Cond} (h : w ∈ WG) : w ∈ WG ∧ ((w.onTables && w.keeps) = true ∨ ∃ ty, w = .arrayClass ty) := ⟨h, (WG_good w h).2⟩
theorem WG_all : GoodIn WG WG := fun w h => WG_ok h
theorem wsK_in {y : MethodName} {cc : ByteArray} {mx : Nat} {ret : Option FieldType} (h : Cond.code y cc mx ret ∈ WG) : GoodIn WG (wsK y cc mx ret) := fun w hw => by
  rcases List.mem_cons.mp hw with e | hw
  · rw [e]; exact WG_ok h
  · exact WG_ok hw
/-- what the tables say of a callee: its code, its class, its parameters -/
def Cal (y : MethodName) (cc : ByteArray) (mx : Nat) (ret : Option FieldType) (n : Nat) : Prop := Cond.code y cc mx ret ∈ WG ∧ Cond.initialized y.cls ∈ WG ∧ (y.cls ≠ "java/lang/invoke/MethodHandle" ∧ y.cls ≠ "java/lang/invoke/VarHandle" ∧ (parseMethodDescriptor y.desc).map (fun d => d.parameters.length) = some n)
section
variable {p : Program} {l : Launch} {e : Env} {R : Room} {s : State} {m : MethodId} {args : Array Value} {below : List Frame} {meth : Method} {c : Code} {H : Heap} {locs : List Loc} {a b : Nat} {Q : State → Prop}
theorem run_G {κ : KX} {T' : TT} {rv : Option Value} {pc : Nat} {ls : Array Slot} {st0 rest : List Value} {av : Array Value} {H0 : Heap} (hr : va_Run p l e R s m args below meth c H locs a b 0 0 (F0 m pc ls st0) rest (QcK κ T' rv av) (kA κ)) (hS : va_S (kA κ) H0 H locs)
    (kk : ∀ (H1 : Heap) (locs1 : List Loc), va_P κ.1 vwCl (wsO κ T') H1 → va_S (kA κ) H0 H1 locs1 → W p l e R s m args below meth c H1 locs1 a b Q (F0 m (pc + 3) ls (rv.toList ++ rest))) : W p l e R s m args below meth c H locs a b Q (F0 m pc ls st0) := by
  intro T hT X
  obtain ⟨v, st₀, t, T', L, h0, X', hL, e1, e2, ⟨⟨hv, hP⟩, hF⟩, st⟩ := hr T hT X
  cases hv
  obtain ⟨-, -, k3⟩ := vx_keep h0 e1 hS (fun q _ h => h) (fun q h => h) hL hF
  obtain ⟨t2, a1, b1⟩ := kk T'.heap (locs ++ L) (by rw [e1]; exact hP) k3 T' rfl X'
  exact ⟨t2, st t2 a1, b1⟩
end
section
variable {g : GX} {a b : Nat} {T : TT} {pc : Nat} {lo : List (Nat × Value)} {own : String} {cc : ByteArray} {nL FR LO : Nat}
variable {index : Nat} {y : MethodName} {bytes : ByteArray} {mx fr lo2 n : Nat} {ret : Option FieldType} {As rest : List Value} {T' : TT} {rv : Option Value}
theorem CX_pre (X : CX g own cc nL FR LO) {H : Heap} {locs : List Loc} {U : State} (hP : va_P (gκ g).1 vwCl (wsO (gκ g) T) H) (hS : va_S (kA (gκ g)) (gs g).heap H locs) (hU : U.heap = H) (hW : (gs g).WarmedH U.vm) : PreK (gκ g) T U := by
  subst hU
  exact ⟨hP, KxS.warm hW X.2.2.2.2.2.1, Str.kept (Str.move hW.alike X.2.2.2.2.2.2.2.1) hS.2.1, fun q hq => X.2.2.2.2.2.2.2.2.2.2.1 q (Nat.le_trans hS.1 hq)⟩
theorem CX_fix (X : CX g own cc nL FR LO) : CallFix g.1 g.2.2.2.2.2.1 g.2.2.2.2.2.2.2.2.2.1 cc nL (gs g) g.2.2.2.2.2.2.1 WG own := ⟨X.1, X.2.1, X.2.2.1, X.2.2.2.1, X.2.2.2.2.1⟩
theorem CX_callB (X : CX g own cc nL FR LO) (cal : Cal y bytes mx ret n) (hl : Cond.methodLink own index y ∈ WG) (hR : fr + 1 ≤ FR ∧ 8 + (mx + 11) + lo2 ≤ LO) : CallB g.2.2.2.1 (gs g) g.2.2.2.2.2.2.1 own index y bytes mx ret (wsK y bytes mx ret) (rmK fr lo2) 0 0 n :=
  callB_of n X.2.2.2.2.1 (wsK_in cal.1) rfl rfl rfl (X.2.2.2.2.1 _ cal.2.1) (X.2.2.2.2.1 _ hl) cal.2.2 (by rw [X.2.2.2.2.2.2.2.2.1, X.2.2.2.2.2.2.2.2.2.1]; exact hR)
theorem CX_callN (X : CX g own cc nL FR LO) {host : String} (cal : Cal y bytes mx ret n) (hl : Cond.methodLinkNest own index y host ∈ NW) (hR : fr + 1 ≤ FR ∧ 8 + (mx + 11) + lo2 ≤ LO) : va_CN g.2.2.2.1 (gs g) g.2.2.2.2.2.2.1 own index y host bytes mx ret (wsK y bytes mx ret) (rmK fr lo2) 0 0 n :=
  va_cnB n X.2.2.2.2.1 (wsK_in cal.1) rfl rfl rfl (X.2.2.2.2.2.1.2.1 _ hl) (X.2.2.2.2.1 _ cal.2.1) cal.2.2 (by rw [X.2.2.2.2.2.2.2.2.1, X.2.2.2.2.2.2.2.2.2.1]; exact hR)
/-- a static method of this class, or a public one -/
theorem G_callS (X : CX g own cc nL FR LO) (hM : Ct g.2.1 (gκ g) y bytes mx ret fr lo2 As T T' rv) (cal : Cal y bytes mx ret n) (hl : Cond.methodLink own index y ∈ WG) (hs : Cond.static y ∈ WG) (hR : fr + 1 ≤ FR ∧ 8 + (mx + 11) + lo2 ≤ LO) (hn : As.length = n) {st : List Value} (hst : st = As.reverse ++ rest) (hc : (rest.map fun v => v.category).sum ≤ 8) (hab : a ≤ g.2.2.2.1.cells ∧ b ≤ g.2.2.2.1.slots)
    (hd : decode cc pc = .ok (.invokestatic index, 3)) {st2 : List Value} (h2 : rv.toList ++ rest = st2) (k : G g a b T' (pc + 3) lo st2) : G g a b T pc lo st := by
  intro H locs ls hP hS hls
  refine run_G (va_runS (CX_fix X) (hM X.2.2.2.2.2.2.2.2.2.2.2.1 X.2.2.2.2.2.2.1) ⟨CX_callB X cal hl hR, X.2.2.2.2.1 _ hs⟩ ⟨PreK.blind, fun U hU hW => ⟨rfl, CX_pre X hP hS hU hW⟩⟩ rfl hn (hls.1.trans X.2.2.1) hst (lv_room hc) hd hab) hS (fun H1 locs1 hP1 hS1 => by subst h2; exact k H1 locs1 ls hP1 hS1 hls)
theorem G_callSN (X : CX g own cc nL FR LO) {host : String} (hM : Ct g.2.1 (gκ g) y bytes mx ret fr lo2 As T T' rv) (cal : Cal y bytes mx ret n) (hl : Cond.methodLinkNest own index y host ∈ NW) (hs : Cond.static y ∈ WG) (hR : fr + 1 ≤ FR ∧ 8 + (mx + 11) + lo2 ≤ LO) (hn : As.length = n) {st : List Value} (hst : st = As.reverse ++ rest) (hc : (rest.map fun v => v.category).sum ≤ 8) (hab : a ≤ g.2.2.2.1.cells ∧ b ≤ g.2.2.2.1.slots)
    (hd : decode cc pc = .ok (.invokestatic index, 3)) {st2 : List Value} (h2 : rv.toList ++ rest = st2) (k : G g a b T' (pc + 3) lo st2) : G g a b T pc lo st := by
  intro H locs ls hP hS hls
  refine run_G (va_runSN (CX_fix X) (hM X.2.2.2.2.2.2.2.2.2.2.2.1 X.2.2.2.2.2.2.1) ⟨CX_callN X cal hl hR, X.2.2.2.2.1 _ hs, trivial⟩ ⟨PreK.blind, fun U hU hW => ⟨rfl, CX_pre X hP hS hU hW⟩⟩ rfl hn (hls.1.trans X.2.2.1) hst (lv_room hc) hd hab) hS (fun H1 locs1 hP1 hS1 => by subst h2; exact k H1 locs1 ls hP1 hS1 hls)
theorem CX_recv (X : CX g own cc nL FR LO) {r o ci : Nat} {q : vw_C} (hkd : kd r o 0 = some (0, ci)) (hc : vwCl[ci]? = some q) {H : Heap} (hP : va_P (gκ g).1 vwCl (wsO (gκ g) T) H) : ∃ cell : Cell, H[xE (gκ g) r o 0]? = some cell ∧ cell.vm.isStatics = false ∧ (gs g).vm.findClass q.1 = some cell.cls := by
  obtain ⟨i, hi, he⟩ := wsO_at (gκ g) T hkd
  rw [cE_obj hkd rfl] at he
  exact va_recv X.2.2.2.2.2.1.1 hP hc he
theorem G_callV (X : CX g own cc nL FR LO) {r o ci : Nat} {q : vw_C} (hM : Ct g.2.1 (gκ g) y bytes mx ret fr lo2 (.ref (xE (gκ g) r o 0) :: As) T T' rv) (cal : Cal y bytes mx ret n) (hl : Cond.methodLink own index y ∈ WG) (hi : Cond.instanceMethod y ∈ WG) (hse : Cond.selects q.1 y y ∈ WG) (hkd : kd r o 0 = some (0, ci)) (hq : vwCl[ci]? = some q) (hR : fr + 1 ≤ FR ∧ 8 + (mx + 11) + lo2 ≤ LO) (hn : As.length = n) {st : List Value} (hst : st = As.reverse ++ .ref (xE (gκ g) r o 0) :: rest) (hc : (rest.map fun v => v.category).sum ≤ 8) (hab : a ≤ g.2.2.2.1.cells ∧ b ≤ g.2.2.2.1.slots)
    (hd : decode cc pc = .ok (.invokevirtual index, 3)) {st2 : List Value} (h2 : rv.toList ++ rest = st2) (k : G g a b T' (pc + 3) lo st2) : G g a b T pc lo st := by
  intro H locs ls hP hS hls
  refine run_G (va_runV (CX_fix X) (hM X.2.2.2.2.2.2.2.2.2.2.2.1 X.2.2.2.2.2.2.1) ⟨CX_callB X cal hl hR, X.2.2.2.2.1 _ hi, X.2.2.2.2.1 _ hse⟩ ⟨PreK.blind, CX_recv X hkd hq hP, fun U hU hW => ⟨rfl, CX_pre X hP hS hU hW⟩⟩ rfl hn (hls.1.trans X.2.2.1) hst (lv_room hc) hd hab) hS (fun H1 locs1 hP1 hS1 => by subst h2; exact k H1 locs1 ls hP1 hS1 hls)
theorem G_callVN (X : CX g own cc nL FR LO) {host : String} {r o ci : Nat} {q : vw_C} (hM : Ct g.2.1 (gκ g) y bytes mx ret fr lo2 (.ref (xE (gκ g) r o 0) :: As) T T' rv) (cal : Cal y bytes mx ret n) (hl : Cond.methodLinkNest own index y host ∈ NW) (hi : Cond.instanceMethod y ∈ WG) (hse : Cond.selects q.1 y y ∈ WG) (hkd : kd r o 0 = some (0, ci)) (hq : vwCl[ci]? = some q) (hR : fr + 1 ≤ FR ∧ 8 + (mx + 11) + lo2 ≤ LO) (hn : As.length = n) {st : List Value} (hst : st = As.reverse ++ .ref (xE (gκ g) r o 0) :: rest) (hc : (rest.map fun v => v.category).sum ≤ 8) (hab : a ≤ g.2.2.2.1.cells ∧ b ≤ g.2.2.2.1.slots)
    (hd : decode cc pc = .ok (.invokevirtual index, 3)) {st2 : List Value} (h2 : rv.toList ++ rest = st2) (k : G g a b T' (pc + 3) lo st2) : G g a b T pc lo st := by
  intro H locs ls hP hS hls
  refine run_G (va_runVN (CX_fix X) (hM X.2.2.2.2.2.2.2.2.2.2.2.1 X.2.2.2.2.2.2.1) ⟨CX_callN X cal hl hR, X.2.2.2.2.1 _ hi, X.2.2.2.2.1 _ hse⟩ ⟨PreK.blind, CX_recv X hkd hq hP, fun U hU hW => ⟨rfl, CX_pre X hP hS hU hW⟩⟩ rfl hn (hls.1.trans X.2.2.1) hst (lv_room hc) hd hab) hS (fun H1 locs1 hP1 hS1 => by subst h2; exact k H1 locs1 ls hP1 hS1 hls)
end
