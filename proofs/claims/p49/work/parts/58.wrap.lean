/-! the law's own small methods: they catch -/
theorem Met_ofWH {l : Launch} {y : MethodName} {ws ws' : List Cond} {rm : Room} {Pc : Array Value → State → Prop} {Qc : Array Value → State → Outcome → State → Prop} {mc ms : Nat} {free : Addr → Prop} {cc : ByteArray} {maxL : Nat} {ret : Option FieldType} {hh : List (Nat × Nat × Nat × Nat)}
    (hy : plainName y.cls = true) (hw : ws = Cond.codeWith y cc maxL ret hh :: ws')
    (body : ∀ p e s m args below meth c s₁, BodyLoose p l y (headSpec ws rm) cc maxL ret e s m args below meth c s₁ → c.maxLocals = maxL → Pc args s →
      W p l e (headSpec ws rm).room s m args below meth c s.heap [] 0 0 (MQ below Qc args s mc ms free) (entryFrame m args maxL)) : Met l y ws rm Pc Qc mc ms free := by
  refine MetFree.of_bodyS (code := cc) (maxLocals := maxL) (ret := ret) hy ?_ ?_
  · intro args s m h hn
    obtain ⟨m9, meth, c, hn9, h1, h2, h3, h4, -, h5, h6, -⟩ := Cond.codeWith_spec (atoms_spec (ws := ws) h _ (by rw [hw]; exact List.mem_cons_self))
    cases hn.symm.trans hn9
    exact ⟨meth, c, h1, h2, h3, h4, h5, h6⟩
  · intro p e s m args below meth c s₁ B hml hP _
    have hh0 : s₁.heap = s.heap := by rw [B.state]; rfl
    obtain ⟨t, a1, o, b1, b2, b3⟩ := body p e s m args below meth c s₁ B hml hP s₁ hh0 (Stand.of_body B)
    exact ⟨t, o, a1, b1, b2, ⟨b3.1, b3.2⟩⟩
/-- the exceptions that are not one another -/
def NCs (U : State) : Prop := ∀ a ∈ [1, 2, 3], ∀ b ∈ [1, 2, 3], a ≠ b → va_Nc (exN a) (exN b) U
def PreW (κ : KX) (T : TT) (U : State) : Prop := PreE κ T U ∧ NCs U
theorem NCs.move {s U : State} (hv : s.vm.Alike U.vm) (h : NCs s) : NCs U := fun a ha b hb hn => (h a ha b hb hn).moved hv
theorem PreW.blind {κ : KX} {av : List Value} {T : TT} : FrameBlind (va_Pc av (PreW κ T)) := fun a U g mk h => ⟨h.1, (PreE.blind a U g mk ⟨h.1, h.2.1⟩).2, h.2.2.move (Vm.Alike.refl U.vm)⟩
/-- what a body that catches stands on beside CX -/
def XF (g : GX) (hh : List (Nat × Nat × Nat × Nat)) : Prop := (∀ w ∈ WE, w.before g.2.2.2.2.2.2.1 (gs g) = true) ∧ (∀ w ∈ WD, va_Nw w (gs g)) ∧ NCs (gs g) ∧ g.2.2.2.2.2.2.2.2.2.1.exceptionTable.toList = tableOf hh ∧ 1 ≤ g.2.2.2.1.cells ∧ 6 ≤ g.2.2.2.1.slots
abbrev wsW (y : MethodName) (cc : ByteArray) (mx : Nat) (hh : List (Nat × Nat × Nat × Nat)) : List Cond := Cond.codeWith y cc mx (some .int) hh :: (WG ++ WE)
def CtW (l : Launch) (κ : KX) (y : MethodName) (cc : ByteArray) (mx : Nat) (hh : List (Nat × Nat × Nat × Nat)) (fr lo : Nat) (av : List Value) (T T' : TT) (v : Int32) : Prop :=
  l.stackTraces = false → KOK κ → Met l y (wsW y cc mx hh) (rmE fr lo) (va_Pc av (PreW κ T)) (QcK κ T' (some (.int v))) 1 6 (kA κ)
/-- the end: with at most one new cell -/
def FinW (g : GX) (cc : ByteArray) (T' : TT) (v : Int32) : Prop := ∀ a b pc lo, a ≤ 1 → b ≤ 6 → decode cc pc = .ok (.ireturn, 1) → G g a b T' pc lo [.int v]
theorem CtW_of {l : Launch} {κ : KX} {y : MethodName} {cc : ByteArray} {mx fr lo : Nat} {hh : List (Nat × Nat × Nat × Nat)} {av : List Value} {T T' : TT} {v : Int32} (own : String) (ho : y.cls = own) (hy : plainName y.cls = true) (hn : (lg_sl av).length ≤ mx)
    (k : ∀ g : GX, g.2.1 = l → gκ g = κ → CX g own cc mx fr lo → XF g hh → FinW g cc T' v → G g 0 0 T 0 (lv_args 0 av) []) : CtW l κ y cc mx hh fr lo av T T' v := by
  intro hl hK
  subst ho
  refine Met_ofWH (cc := cc) (maxL := mx) (ret := some .int) (hh := hh) hy rfl ?_
  intro p e s m args below meth c0 s₁ B hml hv
  obtain ⟨rfl, hv⟩ := hv
  have hts : ∀ w ∈ WG ++ WE, w.before av.toArray s = true := fun w hw => atoms_spec (ws := wsW y cc mx hh) B.pre w (List.mem_cons_of_mem _ hw)
  have hG : ∀ w ∈ WG, w.before av.toArray s = true := fun w hw => hts w (List.mem_append_left _ hw)
  have hE : ∀ w ∈ WE, w.before av.toArray s = true := fun w hw => hts w (List.mem_append_right _ hw)
  have hT : c0.exceptionTable.toList = tableOf hh := vx_table (x := y) B (atoms_spec (ws := wsW y cc mx hh) B.pre _ List.mem_cons_self)
  rw [lg_entry_eq]
  refine k (p, l, e, rmE fr lo, s, m, av.toArray, below, meth, c0, κ, _) rfl rfl ⟨B.exec, B.bytes, hml, findClass_of_methodNamed B.named, hG, hv.1.1.2.1, hK, hv.1.1.2.2.1, rfl, rfl, hv.1.1.2.2.2, hl, B.notSynchronized⟩ ⟨hE, hv.1.2, hv.2, hT, Nat.le_refl 1, Nat.le_refl 6⟩ ?_ s.heap [] _ hv.1.1.1 va_S.rf (by show lv_has _ c0.maxLocals _; rw [hml]; exact lv_entry av hn)
  intro a b pc lo2 ha hb hd H locs ls hP hS hls
  refine W.widen (k := 1) (n := 6) ha hb ?_
  exact W.zret (hlocks := B.notSynchronized) B.exec B.bytes B.returns rfl (fun t ht _ => ⟨⟨rfl, by rw [ht]; exact hP⟩, hS.F ht⟩) (fun q hq => hS.2.2 q hq) hd
section
variable {g : GX} {T : TT} {pc : Nat} {lo : List (Nat × Value)} {own : String} {cc : ByteArray} {nL FR LO : Nat}
variable {index : Nat} {y : MethodName} {bytes : ByteArray} {mx fr lo2 n : Nat} {ret : Option FieldType} {As rest : List Value} {T' : TT} {c : Nat}
theorem CX_callBX (X : CX g own cc nL FR LO) {hh : List (Nat × Nat × Nat × Nat)} (hf : XF g hh) (cal : Cal y bytes mx ret n) (hl : Cond.methodLink own index y ∈ WG) (hR : fr + 1 ≤ FR ∧ 8 + (mx + 11) + lo2 ≤ LO) : CallB g.2.2.2.1 (gs g) g.2.2.2.2.2.2.1 own index y bytes mx ret (wsE y bytes mx ret) (rmE fr lo2) 1 6 n :=
  callB_of (Ts := WG ++ WE) n (fun w hw => (List.mem_append.mp hw).elim (X.2.2.2.2.1 w) (hf.1 w)) (wsE_in cal.1) rfl rfl rfl (X.2.2.2.2.1 _ cal.2.1) (X.2.2.2.2.1 _ hl) cal.2.2 (by rw [X.2.2.2.2.2.2.2.2.1, X.2.2.2.2.2.2.2.2.2.1]; exact hR)
theorem ex_cast (c : Nat) : Cond.castable (exN c) (exN c) ∈ WA := by
  have h : ∀ ic cls, Cond.castable cls cls ∈ vx_at0 RX6 ic cls exS := by
    intro ic cls
    refine List.mem_filter.mpr ⟨by simp [Bundle.ownAtoms0], by simp [vx_no]⟩
  exact WA_at c _ (h _ _)
/-- a call that throws, caught here -/
theorem G_callVX (X : CX g own cc nL FR LO) {hh : List (Nat × Nat × Nat × Nat)} (hf : XF g hh) {r o ci : Nat} {q : vw_C} (hM : CtE g.2.1 (gκ g) y bytes mx ret fr lo2 (.ref (xE (gκ g) r o 0) :: As) T T' c) (cal : Cal y bytes mx ret n) (hl : Cond.methodLink own index y ∈ WG) (hi : Cond.instanceMethod y ∈ WG) (hse : Cond.selects q.1 y y ∈ WG) (hkd : kd r o 0 = some (0, ci)) (hq : vwCl[ci]? = some q) (hR : fr + 1 ≤ FR ∧ 8 + (mx + 11) + lo2 ≤ LO) (hn : As.length = n) {st : List Value} (hst : st = As.reverse ++ .ref (xE (gκ g) r o 0) :: rest) (hc : (rest.map fun v => v.category).sum ≤ 8)
    (hd : decode cc pc = .ok (.invokevirtual index, 3)) (pre : List ExceptionTableEntry) (x : ExceptionTableEntry) (suf : List ExceptionTableEntry) (hsplit : tableOf hh = pre ++ x :: suf) (hpass : ∀ z ∈ pre, z.catchType ≠ 0 ∧ ∃ b ∈ [1, 2, 3], c ≠ b ∧ Cond.classLink own z.catchType (exN b) ∈ WG) (hx : covers x pc = true) (h0 : x.catchType ≠ 0) (hcl : Cond.classLink own x.catchType (exN c) ∈ WG) (hc3 : c ∈ [1, 2, 3])
    (k : ∀ q9 : Nat, G g 1 6 T' x.handlerPc lo [.ref q9]) : G g 0 0 T pc lo st := by
  intro H locs ls hP hS hls T0 hT0 X0
  rcases vx_runV (CX_fix X) (hM X.2.2.2.2.2.2.2.2.2.2.2.1 X.2.2.2.2.2.2.1) ⟨CX_callBX X hf cal hl hR, X.2.2.2.2.1 _ hi, X.2.2.2.2.1 _ hse⟩ ⟨PreE.blind, CX_recv X hkd hq hP, fun U hU hW => ⟨rfl, CX_pre X hP hS hU hW, WD_warm hW hf.2.1⟩⟩ (g := F0 g.2.2.2.2.2.1 pc ls st) rfl hn (hls.1.trans X.2.2.1) hst (lv_room (pc := pc) (ls := ls) (rest := st) hc) hd ⟨by simpa using hf.2.2.2.2.1, by simpa using hf.2.2.2.2.2⟩ T0 hT0 X0 with ⟨v, st₀, t, T1, L, h0, X', hL, e1, e2, hF, st1⟩ | ⟨q9, st₀, t, T1, L, E, ce, h09, X', hL, e1, e2, ⟨hE, hP1, hF⟩, hce, hcv, hclE, st1⟩
  · exact hF.elim
  · subst hE
    obtain ⟨-, -, k3⟩ := vx_keep h09 e1 hS (fun q _ h => h) (fun q h => h) hL hF
    have hW9 := vx_catch (H := T1.heap) (locs := locs ++ L) (cells := 0 + 1) (slots := 0 + 6) (ls := ls) (rest := rest) (Q := g.2.2.2.2.2.2.2.2.2.2.2) (name := exN c) (q := q9) X.2.2.2.1 pre x suf (hf.2.2.2.1.trans hsplit)
      (fun z hz => Or.inr ⟨(hpass z hz).1, by
        obtain ⟨b, hb, hne, hw⟩ := (hpass z hz).2
        exact ⟨exN b, X.2.2.2.2.1 _ hw, hf.2.2.1 c hc3 b hb hne⟩⟩) hx h0 (X.2.2.2.2.1 _ hcl) (WA_all hf.1 hf.2.1 _ (ex_cast c)) (by rw [e1]; exact hce) hcv hclE
      (k q9 T1.heap (locs ++ L) ls (by rw [e1]; exact hP1) k3 hls)
    obtain ⟨t2, a1, b1⟩ := hW9 T1 rfl X'
    exact ⟨t2, st1.trans a1, b1⟩
end
