/-! the law's frame: contracts over lists of cells, with answers -/
abbrev XI : Type := (Nat × Nat × (Nat → Int32)) × (Nat × Nat × Nat)
def FWs : List (String × MethodName × MethodName) := [(RJx4a65c, ⟨"java/util/List", "add", "(Ljava/lang/Object;)Z"⟩, yJx4a65c_add_9ea2d), (RJx4a65c, ⟨"java/util/List", "size", "()I"⟩, yJx4a65c_size_8abf5), (RJx4a65c, ⟨"java/util/List", "get", "(I)Ljava/lang/Object;"⟩, yJx4a65c_get_915e3), (RJx4a65c, ⟨"java/util/List", "iterator", "()Ljava/util/Iterator;"⟩, yJx4a65c_iterator_32c93), (RJx4a65c, ⟨"java/util/List", "isEmpty", "()Z"⟩, yJx4a65c_isEmpty_aae02), (RJx35411, ⟨"java/util/Iterator", "hasNext", "()Z"⟩, yJx35411_hasNext_aae02), (RJx35411, ⟨"java/util/Iterator", "next", "()Ljava/lang/Object;"⟩, yJx35411_next_0502b)]
/-- private methods of AbstractStringBuilder, on a StringBuilder -/
def SPw : List Cond := [.selects RJ4 yJ5_ensureCapacityInternal_d00df yJ5_ensureCapacityInternal_d00df, .selects RJ4 yJ5_newCapacity_0f7a4 yJ5_newCapacity_0f7a4, .selects RJ4 yJ5_putStringAt_47b60 yJ5_putStringAt_47b60, .selects RJ4 yJ5_inflateIfNeededFor_a7421 yJ5_inflateIfNeededFor_a7421, .sameField RJx4a65c RJxc12de "modCount" "I", .sameMethod "[B" "java/lang/Object" "clone" "()Ljava/lang/Object;", .native ⟨"java/lang/Object", "clone", "()Ljava/lang/Object;"⟩, .instanceMethod ⟨"java/lang/Object", "clone", "()Ljava/lang/Object;"⟩, .selects "[B" ⟨"[B", "clone", "()Ljava/lang/Object;"⟩ ⟨"java/lang/Object", "clone", "()Ljava/lang/Object;"⟩]
theorem SPw_good : ∀ w ∈ SPw, (w.onTables && w.keeps) = true := by
  intro w hw
  simp only [SPw, List.mem_cons, List.not_mem_nil, or_false] at hw
  rcases hw with rfl | rfl | rfl | rfl | rfl | rfl | rfl | rfl | rfl <;> rfl
/-- the script, the interfaces' words, the statics that the law's code reads -/
def Ext (κ : KX) (ξ : XI) (U : State) (H : Heap) : Prop :=
  (va_X ξ.1.1 ξ.1.2.1 ξ.1.2.2 U H ∧ ¬ kA κ ξ.1.1 ∧ ξ.1.1 < H.size) ∧ (∀ q ∈ FWs, va_Fw q.1 q.2.1 q.2.2 U) ∧
  (va_Z "java/util/ArrayList" "DEFAULTCAPACITY_EMPTY_ELEMENTDATA" "[Ljava/lang/Object;" (.ref ξ.2.1) (kA κ) U H ∧ va_T (.object "java/lang/Object") ξ.2.1 0 (fun _ => .null) (kA κ) U H) ∧
  (va_Z "java/lang/Integer" "DigitOnes" "[B" (.ref ξ.2.2.1) (kA κ) U H ∧ va_T .byte ξ.2.2.1 100 (fun k => .int (nI (48 + k % 10))) (kA κ) U H) ∧
  (va_Z "java/lang/Integer" "DigitTens" "[B" (.ref ξ.2.2.2) (kA κ) U H ∧ va_T .byte ξ.2.2.2 100 (fun k => .int (nI (48 + k / 10))) (kA κ) U H) ∧
  va_AOA .boolean U ∧ va_AO "java/lang/Object" U ∧ (∀ w ∈ SPw, w.before #[] U = true) ∧ va_Nw (.castable RX7 "java/lang/Object") U ∧ va_Nw (.castable "[B" "java/lang/Cloneable") U
theorem va_AOA.moved {ty : FieldType} {u U : State} (hvm : u.vm.Alike U.vm) (h : va_AOA ty u) : va_AOA ty U := by
  have h2 : (Cond.arrayOver (.array ty)).before #[] (u.setVm U.vm) = true := by rw [Cond.arrayOver_setVmC hvm]; exact h
  exact h2
theorem FWs_ok : ∀ q ∈ FWs, q.2.1.cls ≠ "java/lang/invoke/MethodHandle" ∧ q.2.1.cls ≠ "java/lang/invoke/VarHandle" := by decide
theorem ext_a {κ : KX} {ξ : XI} {s U : State} {H : Heap} (hv : s.vm.Alike U.vm) (hw : (∀ w ∈ SPw, w.before #[] s = true) → ∀ w ∈ SPw, w.before #[] U = true) (h : Ext κ ξ s H) : Ext κ ξ U H :=
  ⟨⟨h.1.1.moved hv, h.1.2⟩, fun q hq => (h.2.1 q hq).moved (FWs_ok q hq) hv, ⟨va_Z.moved hv h.2.2.1.1, va_T.moved hv h.2.2.1.2⟩, ⟨va_Z.moved hv h.2.2.2.1.1, va_T.moved hv h.2.2.2.1.2⟩, ⟨va_Z.moved hv h.2.2.2.2.1.1, va_T.moved hv h.2.2.2.2.1.2⟩, h.2.2.2.2.2.1.moved hv, h.2.2.2.2.2.2.1.moved hv, hw h.2.2.2.2.2.2.2.1, va_tabs rfl (rfl : (s.setVm U.vm).vm = U.vm) (by rw [Cond.castable_setVm hv]; exact h.2.2.2.2.2.2.2.2.1), va_tabs rfl (rfl : (s.setVm U.vm).vm = U.vm) (by rw [Cond.castable_setVm hv]; exact h.2.2.2.2.2.2.2.2.2)⟩
theorem Ext.warm {κ : KX} {ξ : XI} {s U : State} {H : Heap} (hW : s.WarmedH U.vm) (h : Ext κ ξ s H) : Ext κ ξ U H := ext_a hW.alike (fun k w hw => word_at hW (Or.inl (SPw_good w hw)) (k w hw)) h
theorem Ext.call {κ : KX} {ξ : XI} {U : State} {H : Heap} {g : JFrame} {mk : MethodId} {a : Array Value} (h : Ext κ ξ U H) : Ext κ ξ (U.calling g mk a) H :=
  ext_a (s := U) (U := U.calling g mk a) (Vm.Alike.refl U.vm) (fun k w hw => by
    have hg := SPw_good w hw
    simp only [Bool.and_eq_true] at hg
    have e := Cond.onTables_vm (A := #[]) (A' := #[]) (U := U) (U' := U.calling g mk a) U.vm w hg.1
    exact e ▸ k w hw) h
theorem Ext.kept {κ : KX} {ξ : XI} {U : State} {H H1 : Heap} (h : Ext κ ξ U H) (hz : H.size ≤ H1.size) (hq : ∀ a : Nat, a < H.size → ¬ kA κ a → H1[a]? = H[a]?) : Ext κ ξ U H1 :=
  ⟨⟨h.1.1.kept (hq _ h.1.2.2 h.1.2.1), h.1.2.1, Nat.lt_of_lt_of_le h.1.2.2 hz⟩, h.2.1, ⟨h.2.2.1.1.kept hq, h.2.2.1.2.kept hq⟩, ⟨h.2.2.2.1.1.kept hq, h.2.2.2.1.2.kept hq⟩, ⟨h.2.2.2.2.1.1.kept hq, h.2.2.2.2.1.2.kept hq⟩, h.2.2.2.2.2⟩
def XE (g : GX) (ξ : XI) : Prop := Ext (gκ g) ξ (gs g) (gs g).heap
def PreM (κ : KX) (ξ : XI) (ws : va_W) (U : State) : Prop := PreN κ ws U ∧ Ext κ ξ U U.heap
def QcM (κ : KX) (post : Option Value → va_W → Prop) : Array Value → State → Outcome → State → Prop := fun _ st o t => (∃ (rv : Option Value) (ws : va_W), o = .returned rv ∧ post rv ws ∧ WDs κ ws t.heap) ∧ va_F (kA κ) st t
theorem PreM.blind {κ : KX} {ξ : XI} {av : List Value} {ws : va_W} : FrameBlind (va_Pc av (PreM κ ξ ws)) := fun a U g mk h =>
  have h1 := PreN.blind (κ := κ) (av := av) (ws := ws) a U g mk ⟨h.1, h.2.1⟩
  ⟨h1.1, h1.2, Ext.call h.2.2⟩
/-- a method's contract over cells: what it answers and the cells that it leaves, with at most dc new ones of ds slots -/
def CtM (l : Launch) (κ : KX) (ξ : XI) (y : MethodName) (cc : ByteArray) (mx : Nat) (ret : Option FieldType) (fr lo dc ds : Nat) (av : List Value) (ws : va_W) (post : Option Value → va_W → Prop) : Prop :=
  l.stackTraces = false → Met l y (wsK y cc mx ret) (rmN fr lo dc ds) (va_Pc av (PreM κ ξ ws)) (QcM κ post) dc ds (kA κ)
def FinMi (g : GX) (cc : ByteArray) (ty : FieldType) (post : Option Value → va_W → Prop) (dc ds : Nat) : Prop := ∀ pc lo T v, decode cc pc = .ok (.ireturn, 1) → narrow ty (.int v) = .int v → post (some (.int v)) T → L g dc ds T pc lo [.int v]
def FinMa (g : GX) (cc : ByteArray) (post : Option Value → va_W → Prop) (dc ds : Nat) : Prop := ∀ pc lo T v, decode cc pc = .ok (.areturn, 1) → post (some (.ref v)) T → L g dc ds T pc lo [.ref v]
def FinMv (g : GX) (cc : ByteArray) (post : Option Value → va_W → Prop) (dc ds : Nat) : Prop := ∀ pc lo T, decode cc pc = .ok (.return_, 1) → post none T → L g dc ds T pc lo []
theorem CtM_CL {l : Launch} {κ : KX} {ξ : XI} {y : MethodName} {cc : ByteArray} {mx fr lo dc ds : Nat} {ret : Option FieldType} {ws : va_W} {p : Program} {e : Env} {s : State} {m : MethodId} {args : Array Value} {below : List Frame} {meth : Method} {c : Code} {s₁ : State} {Q : State → Prop}
    (hl : l.stackTraces = false) (B : BodyLoose p l y (headSpec (wsK y cc mx ret) (rmN fr lo dc ds)) cc mx ret e s m args below meth c s₁) (hml : c.maxLocals = mx) (hv : PreM κ ξ ws s) :
    CL (p, l, e, rmN fr lo dc ds, s, m, args, below, meth, c, κ, Q) y.cls cc mx fr lo dc ds :=
  ⟨B.exec, B.bytes, hml, findClass_of_methodNamed B.named, fun w hw => atoms_spec (ws := wsK y cc mx ret) B.pre w (List.mem_cons_of_mem _ hw), hv.1.2.1, ⟨rfl, rfl, hv.1.2.2.2.2.1, hv.1.2.2.2.2.2⟩, hv.1.2.2.1, rfl, rfl, hv.1.2.2.2.1, hl, B.notSynchronized⟩
section
variable {l : Launch} {κ : KX} {ξ : XI} {y : MethodName} {cc : ByteArray} {mx fr lo dc ds : Nat} {av : List Value} {ws : va_W} {post : Option Value → va_W → Prop}
theorem CtM_i {ty : FieldType} (own : String) (ho : y.cls = own) (hy : plainName y.cls = true) (hn : (lg_sl av).length ≤ mx)
    (k : ∀ g : GX, g.2.1 = l → gκ g = κ → CL g own cc mx fr lo dc ds → XE g ξ → FinMi g cc ty post dc ds → L g 0 0 ws 0 (lv_args 0 av) []) : CtM l κ ξ y cc mx (some ty) fr lo dc ds av ws post := by
  intro hl
  subst ho
  refine Met.ofW (cc := cc) (maxL := mx) (ret := some ty) hy rfl ?_
  intro p e s m args below meth c s₁ B hml hv
  obtain ⟨rfl, hv⟩ := hv
  rw [lg_entry_eq]
  refine k (p, l, e, rmN fr lo dc ds, s, m, av.toArray, below, meth, c, κ, _) rfl rfl (CtM_CL hl B hml hv) hv.2 ?_ s.heap [] _ hv.1.1 va_S.rf (by show lv_has _ c.maxLocals _; rw [hml]; exact lv_entry av hn)
  intro pc lo2 T v hd hnw hpost H locs ls hP hS hls
  exact W.zret (hlocks := B.notSynchronized) B.exec B.bytes B.returns hnw (fun t ht _ => ⟨⟨_, T, rfl, hpost, by rw [ht]; exact hP⟩, hS.F ht⟩) (fun q hq => hS.2.2 q hq) hd
theorem CtM_v (own : String) (ho : y.cls = own) (hy : plainName y.cls = true) (hn : (lg_sl av).length ≤ mx)
    (k : ∀ g : GX, g.2.1 = l → gκ g = κ → CL g own cc mx fr lo dc ds → XE g ξ → g.2.2.2.2.2.2.2.2.1.name = y.name → FinMv g cc post dc ds → L g 0 0 ws 0 (lv_args 0 av) []) : CtM l κ ξ y cc mx none fr lo dc ds av ws post := by
  intro hl
  subst ho
  refine Met.ofW (cc := cc) (maxL := mx) (ret := none) hy rfl ?_
  intro p e s m args below meth c s₁ B hml hv
  obtain ⟨rfl, hv⟩ := hv
  rw [lg_entry_eq]
  refine k (p, l, e, rmN fr lo dc ds, s, m, av.toArray, below, meth, c, κ, _) rfl rfl (CtM_CL hl B hml hv) hv.2 (name_of_methodNamed B.named B.method).1 ?_ s.heap [] _ hv.1.1 va_S.rf (by show lv_has _ c.maxLocals _; rw [hml]; exact lv_entry av hn)
  intro pc lo2 T hd hpost H locs ls hP hS hls
  exact W.vret (hlocks := B.notSynchronized) B.exec B.bytes B.returns (fun t ht _ => ⟨⟨_, T, rfl, hpost, by rw [ht]; exact hP⟩, hS.F ht⟩) (fun q hq => hS.2.2 q hq) hd
theorem CtM_a {ty : FieldType} (own : String) (ho : y.cls = own) (hy : plainName y.cls = true) (hty : ty.isReference = true) (hn : (lg_sl av).length ≤ mx)
    (k : ∀ g : GX, g.2.1 = l → gκ g = κ → CL g own cc mx fr lo dc ds → XE g ξ → FinMa g cc post dc ds → L g 0 0 ws 0 (lv_args 0 av) []) : CtM l κ ξ y cc mx (some ty) fr lo dc ds av ws post := by
  intro hl
  subst ho
  refine Met.ofW (cc := cc) (maxL := mx) (ret := some ty) hy rfl ?_
  intro p e s m args below meth c s₁ B hml hv
  obtain ⟨rfl, hv⟩ := hv
  rw [lg_entry_eq]
  refine k (p, l, e, rmN fr lo dc ds, s, m, av.toArray, below, meth, c, κ, _) rfl rfl (CtM_CL hl B hml hv) hv.2 ?_ s.heap [] _ hv.1.1 va_S.rf (by show lv_has _ c.maxLocals _; rw [hml]; exact lv_entry av hn)
  intro pc lo2 T v hd hpost H locs ls hP hS hls
  have hret : meth.sig.returnType = some ty := B.returns
  cases ty <;> first | (exact absurd hty (by decide)) | exact W.aret (hlocks := B.notSynchronized) B.exec B.bytes B.returns (by first | exact Or.inl ⟨_, rfl⟩ | exact Or.inr ⟨_, rfl⟩) (Or.inr ⟨_, rfl⟩) (fun t ht _ => ⟨⟨_, T, rfl, hpost, by rw [ht]; exact hP⟩, hS.F ht⟩) (fun q hq => hS.2.2 q hq) hd
end
section
variable {p : Program} {l : Launch} {e : Env} {R : Room} {s : State} {m : MethodId} {args : Array Value} {below : List Frame} {meth : Method} {c : Code} {H : Heap} {locs : List Loc} {a b : Nat} {Q : State → Prop}
theorem run_M {κ : KX} {post : Option Value → va_W → Prop} {pc dc ds : Nat} {ls : Array Slot} {st0 rest : List Value} {av : Array Value} {H0 : Heap} (hr : va_Run p l e R s m args below meth c H locs a b dc ds (F0 m pc ls st0) rest (QcM κ post av) (kA κ)) (hS : va_S (kA κ) H0 H locs)
    (kk : ∀ (rv : Option Value) (T1 : va_W) (H1 : Heap) (locs1 : List Loc), post rv T1 → WDs κ T1 H1 → va_S (kA κ) H0 H1 locs1 → W p l e R s m args below meth c H1 locs1 (a + dc) (b + ds) Q (F0 m (pc + 3) ls (rv.toList ++ rest))) : W p l e R s m args below meth c H locs a b Q (F0 m pc ls st0) := by
  intro T hT X
  obtain ⟨v, st₀, t, T', L, h0, X', hL, e1, e2, ⟨⟨rv, T1, hv, hp, hP⟩, hF⟩, st⟩ := hr T hT X
  cases hv
  obtain ⟨-, -, k3⟩ := vx_keep h0 e1 hS (fun q _ h => h) (fun q h => h) hL hF
  obtain ⟨t2, a1, b1⟩ := kk v T1 T'.heap (locs ++ L) hp (by rw [e1]; exact hP) k3 T' rfl X'
  exact ⟨t2, st t2 a1, b1⟩
theorem run_M5 {κ : KX} {post : Option Value → va_W → Prop} {pc dc ds : Nat} {ls : Array Slot} {st0 rest : List Value} {av : Array Value} {H0 : Heap} (hr : va_Run5 p l e R s m args below meth c H locs a b dc ds (F0 m pc ls st0) rest (QcM κ post av) (kA κ)) (hS : va_S (kA κ) H0 H locs)
    (kk : ∀ (rv : Option Value) (T1 : va_W) (H1 : Heap) (locs1 : List Loc), post rv T1 → WDs κ T1 H1 → va_S (kA κ) H0 H1 locs1 → W p l e R s m args below meth c H1 locs1 (a + dc) (b + ds) Q (F0 m (pc + 5) ls (rv.toList ++ rest))) : W p l e R s m args below meth c H locs a b Q (F0 m pc ls st0) := by
  intro T hT X
  obtain ⟨v, st₀, t, T', L, h0, X', hL, e1, e2, ⟨⟨rv, T1, hv, hp, hP⟩, hF⟩, st⟩ := hr T hT X
  cases hv
  obtain ⟨-, -, k3⟩ := vx_keep h0 e1 hS (fun q _ h => h) (fun q h => h) hL hF
  obtain ⟨t2, a1, b1⟩ := kk v T1 T'.heap (locs ++ L) hp (by rw [e1]; exact hP) k3 T' rfl X'
  exact ⟨t2, st t2 a1, b1⟩
end
section
variable {g : GX} {ξ : XI} {a b : Nat} {T : va_W} {pc : Nat} {lo : List (Nat × Value)} {own : String} {cc : ByteArray} {nL FR LO RC RS : Nat}
variable {index : Nat} {y : MethodName} {bytes : ByteArray} {mx fr lo2 dc ds n : Nat} {ret : Option FieldType} {As rest : List Value} {post : Option Value → va_W → Prop}
theorem XE_pre (X : CL g own cc nL FR LO RC RS) (E : XE g ξ) {H : Heap} {locs : List Loc} {U : State} (hP : WDs (gκ g) T H) (hS : va_S (kA (gκ g)) (gs g).heap H locs) (hU : U.heap = H) (hW : (gs g).WarmedH U.vm) : PreM (gκ g) ξ T U := by
  refine ⟨CL_pre X hP hS hU hW, ?_⟩
  subst hU
  exact Ext.kept (Ext.warm hW E) hS.1 hS.2.1
/-- room: frames, locals, cells, slots -/
abbrev Rm (FR LO RC RS fr mx lo2 a b dc ds : Nat) : Prop := (fr + 1 ≤ FR ∧ 8 + (mx + 11) + lo2 ≤ LO) ∧ (a + dc ≤ RC ∧ b + ds ≤ RS)
theorem L_cS (X : CL g own cc nL FR LO RC RS) (E : XE g ξ) (hM : CtM g.2.1 (gκ g) ξ y bytes mx ret fr lo2 dc ds As T post) (cal : Cal y bytes mx ret n) (hl : Cond.methodLink own index y ∈ WG) (hs : Cond.static y ∈ WG) (hR : Rm FR LO RC RS fr mx lo2 a b dc ds) (hn : As.length = n) {st : List Value} (hst : st = As.reverse ++ rest) (hc : (rest.map fun v => v.category).sum ≤ 8)
    (hd : decode cc pc = .ok (.invokestatic index, 3)) (k : ∀ rv T1, post rv T1 → L g (a + dc) (b + ds) T1 (pc + 3) lo (rv.toList ++ rest)) : L g a b T pc lo st := by
  intro H locs ls hP hS hls
  exact run_M (va_runS (CL_fix X) (hM X.2.2.2.2.2.2.2.2.2.2.2.1) ⟨callB_of n X.2.2.2.2.1 (wsK_in cal.1) rfl rfl rfl (X.2.2.2.2.1 _ cal.2.1) (X.2.2.2.2.1 _ hl) cal.2.2 (by rw [X.2.2.2.2.2.2.2.2.1, X.2.2.2.2.2.2.2.2.2.1]; exact hR.1), X.2.2.2.2.1 _ hs⟩ ⟨PreM.blind, fun U hU hW => ⟨rfl, XE_pre X E hP hS hU hW⟩⟩ rfl hn (hls.1.trans X.2.2.1) hst (lv_room hc) hd (by rw [X.2.2.2.2.2.2.1.1, X.2.2.2.2.2.2.1.2.1]; exact hR.2)) hS (fun rv T1 H1 locs1 hp hP1 hS1 => k rv T1 hp H1 locs1 ls hP1 hS1 hls)
theorem L_cSN (X : CL g own cc nL FR LO RC RS) (E : XE g ξ) {host : String} (hM : CtM g.2.1 (gκ g) ξ y bytes mx ret fr lo2 dc ds As T post) (cal : Cal y bytes mx ret n) (hl : Cond.methodLinkNest own index y host ∈ NW) (hs : Cond.static y ∈ WG) (hR : Rm FR LO RC RS fr mx lo2 a b dc ds) (hn : As.length = n) {st : List Value} (hst : st = As.reverse ++ rest) (hc : (rest.map fun v => v.category).sum ≤ 8)
    (hd : decode cc pc = .ok (.invokestatic index, 3)) (k : ∀ rv T1, post rv T1 → L g (a + dc) (b + ds) T1 (pc + 3) lo (rv.toList ++ rest)) : L g a b T pc lo st := by
  intro H locs ls hP hS hls
  exact run_M (va_runSN (CL_fix X) (hM X.2.2.2.2.2.2.2.2.2.2.2.1) ⟨va_cnB n X.2.2.2.2.1 (wsK_in cal.1) rfl rfl rfl (X.2.2.2.2.2.1.2.1 _ hl) (X.2.2.2.2.1 _ cal.2.1) cal.2.2 (by rw [X.2.2.2.2.2.2.2.2.1, X.2.2.2.2.2.2.2.2.2.1]; exact hR.1), X.2.2.2.2.1 _ hs, trivial⟩ ⟨PreM.blind, fun U hU hW => ⟨rfl, XE_pre X E hP hS hU hW⟩⟩ rfl hn (hls.1.trans X.2.2.1) hst (lv_room hc) hd (by rw [X.2.2.2.2.2.2.1.1, X.2.2.2.2.2.2.1.2.1]; exact hR.2)) hS (fun rv T1 H1 locs1 hp hP1 hS1 => k rv T1 hp H1 locs1 ls hP1 hS1 hls)
theorem L_cV (X : CL g own cc nL FR LO RC RS) (E : XE g ξ) {x ci : Nat} {fs : List Value} {q : vw_C} (hM : CtM g.2.1 (gκ g) ξ y bytes mx ret fr lo2 dc ds (.ref x :: As) T post) (cal : Cal y bytes mx ret n) (hl : Cond.methodLink own index y ∈ WG) (hi : Cond.instanceMethod y ∈ WG) (hse : Cond.selects q.1 y y ∈ WG) (i : Nat) (he : T[i]? = some (x, .inr (ci, fs))) (hq : vwCl[ci]? = some q) (hR : Rm FR LO RC RS fr mx lo2 a b dc ds) (hn : As.length = n) {st : List Value} (hst : st = As.reverse ++ .ref x :: rest) (hc : (rest.map fun v => v.category).sum ≤ 8)
    (hd : decode cc pc = .ok (.invokevirtual index, 3)) (k : ∀ rv T1, post rv T1 → L g (a + dc) (b + ds) T1 (pc + 3) lo (rv.toList ++ rest)) : L g a b T pc lo st := by
  intro H locs ls hP hS hls
  exact run_M (va_runV (CL_fix X) (hM X.2.2.2.2.2.2.2.2.2.2.2.1) ⟨callB_of n X.2.2.2.2.1 (wsK_in cal.1) rfl rfl rfl (X.2.2.2.2.1 _ cal.2.1) (X.2.2.2.2.1 _ hl) cal.2.2 (by rw [X.2.2.2.2.2.2.2.2.1, X.2.2.2.2.2.2.2.2.2.1]; exact hR.1), X.2.2.2.2.1 _ hi, X.2.2.2.2.1 _ hse⟩ ⟨PreM.blind, va_recv X.2.2.2.2.2.1.1 hP.1 hq he, fun U hU hW => ⟨rfl, XE_pre X E hP hS hU hW⟩⟩ rfl hn (hls.1.trans X.2.2.1) hst (lv_room hc) hd (by rw [X.2.2.2.2.2.2.1.1, X.2.2.2.2.2.2.1.2.1]; exact hR.2)) hS (fun rv T1 H1 locs1 hp hP1 hS1 => k rv T1 hp H1 locs1 ls hP1 hS1 hls)
theorem L_cVN (X : CL g own cc nL FR LO RC RS) (E : XE g ξ) {host : String} {x ci : Nat} {fs : List Value} {q : vw_C} (hM : CtM g.2.1 (gκ g) ξ y bytes mx ret fr lo2 dc ds (.ref x :: As) T post) (cal : Cal y bytes mx ret n) (hl : Cond.methodLinkNest own index y host ∈ NW) (hi : Cond.instanceMethod y ∈ WG) (hse : Cond.selects q.1 y y ∈ WG) (i : Nat) (he : T[i]? = some (x, .inr (ci, fs))) (hq : vwCl[ci]? = some q) (hR : Rm FR LO RC RS fr mx lo2 a b dc ds) (hn : As.length = n) {st : List Value} (hst : st = As.reverse ++ .ref x :: rest) (hc : (rest.map fun v => v.category).sum ≤ 8)
    (hd : decode cc pc = .ok (.invokevirtual index, 3)) (k : ∀ rv T1, post rv T1 → L g (a + dc) (b + ds) T1 (pc + 3) lo (rv.toList ++ rest)) : L g a b T pc lo st := by
  intro H locs ls hP hS hls
  exact run_M (va_runVN (CL_fix X) (hM X.2.2.2.2.2.2.2.2.2.2.2.1) ⟨va_cnB n X.2.2.2.2.1 (wsK_in cal.1) rfl rfl rfl (X.2.2.2.2.2.1.2.1 _ hl) (X.2.2.2.2.1 _ cal.2.1) cal.2.2 (by rw [X.2.2.2.2.2.2.2.2.1, X.2.2.2.2.2.2.2.2.2.1]; exact hR.1), X.2.2.2.2.1 _ hi, X.2.2.2.2.1 _ hse⟩ ⟨PreM.blind, va_recv X.2.2.2.2.2.1.1 hP.1 hq he, fun U hU hW => ⟨rfl, XE_pre X E hP hS hU hW⟩⟩ rfl hn (hls.1.trans X.2.2.1) hst (lv_room hc) hd (by rw [X.2.2.2.2.2.2.1.1, X.2.2.2.2.2.2.1.2.1]; exact hR.2)) hS (fun rv T1 H1 locs1 hp hP1 hS1 => k rv T1 hp H1 locs1 ls hP1 hS1 hls)
/-- a public or own constructor -/
theorem L_cI (X : CL g own cc nL FR LO RC RS) (E : XE g ξ) {x : Nat} (hM : CtM g.2.1 (gκ g) ξ y bytes mx none fr lo2 dc ds (.ref x :: As) T post) (cal : Cal y bytes mx none n) (hl : Cond.methodLink own index y ∈ WG) (hy : y.name = "<init>") (hi : Cond.instanceMethod y ∈ WG) (hR : Rm FR LO RC RS fr mx lo2 a b dc ds) (hn : As.length = n) {st : List Value} (hst : st = As.reverse ++ .ref x :: rest) (hc : (rest.map fun v => v.category).sum ≤ 8)
    (hd : decode cc pc = .ok (.invokespecial index, 3)) (k : ∀ rv T1, post rv T1 → L g (a + dc) (b + ds) T1 (pc + 3) lo (rv.toList ++ rest)) : L g a b T pc lo st := by
  intro H locs ls hP hS hls
  exact run_M (va_runI (CL_fix X) (hM X.2.2.2.2.2.2.2.2.2.2.2.1) ⟨callB_of n X.2.2.2.2.1 (wsK_in cal.1) rfl rfl rfl (X.2.2.2.2.1 _ cal.2.1) (X.2.2.2.2.1 _ hl) cal.2.2 (by rw [X.2.2.2.2.2.2.2.2.1, X.2.2.2.2.2.2.2.2.2.1]; exact hR.1), hy, X.2.2.2.2.1 _ hi⟩ ⟨PreM.blind, fun U hU hW => ⟨rfl, XE_pre X E hP hS hU hW⟩⟩ rfl hn (hls.1.trans X.2.2.1) hst (lv_room hc) hd (by rw [X.2.2.2.2.2.2.1.1, X.2.2.2.2.2.2.1.2.1]; exact hR.2)) hS (fun rv T1 H1 locs1 hp hP1 hS1 => k rv T1 hp H1 locs1 ls hP1 hS1 hls)
theorem L_cIN (X : CL g own cc nL FR LO RC RS) (E : XE g ξ) {host : String} {x : Nat} (hM : CtM g.2.1 (gκ g) ξ y bytes mx none fr lo2 dc ds (.ref x :: As) T post) (cal : Cal y bytes mx none n) (hl : Cond.methodLinkNest own index y host ∈ NW) (hy : y.name = "<init>") (hi : Cond.instanceMethod y ∈ WG) (hR : Rm FR LO RC RS fr mx lo2 a b dc ds) (hn : As.length = n) {st : List Value} (hst : st = As.reverse ++ .ref x :: rest) (hc : (rest.map fun v => v.category).sum ≤ 8)
    (hd : decode cc pc = .ok (.invokespecial index, 3)) (k : ∀ rv T1, post rv T1 → L g (a + dc) (b + ds) T1 (pc + 3) lo (rv.toList ++ rest)) : L g a b T pc lo st := by
  intro H locs ls hP hS hls
  exact run_M (va_runIN (CL_fix X) (hM X.2.2.2.2.2.2.2.2.2.2.2.1) ⟨va_cnB n X.2.2.2.2.1 (wsK_in cal.1) rfl rfl rfl (X.2.2.2.2.2.1.2.1 _ hl) (X.2.2.2.2.1 _ cal.2.1) cal.2.2 (by rw [X.2.2.2.2.2.2.2.2.1, X.2.2.2.2.2.2.2.2.2.1]; exact hR.1), hy, X.2.2.2.2.1 _ hi⟩ ⟨PreM.blind, fun U hU hW => ⟨rfl, XE_pre X E hP hS hU hW⟩⟩ rfl hn (hls.1.trans X.2.2.1) hst (lv_room hc) hd (by rw [X.2.2.2.2.2.2.1.1, X.2.2.2.2.2.2.1.2.1]; exact hR.2)) hS (fun rv T1 H1 locs1 hp hP1 hS1 => k rv T1 hp H1 locs1 ls hP1 hS1 hls)
/-- through an interface -/
theorem L_cF (X : CL g own cc nL FR LO RC RS) (E : XE g ξ) {xm : MethodName} {count x ci : Nat} {fs : List Value} {q : vw_C} (hM : CtM g.2.1 (gκ g) ξ y bytes mx ret fr lo2 dc ds (.ref x :: As) T post) (cal : Cal y bytes mx ret n) (hl : Cond.methodLink own index xm ∈ WG) (hi : Cond.instanceMethod y ∈ WG) (hse : Cond.selects q.1 xm y ∈ WG) (hF : (q.1, xm, y) ∈ FWs) (hxd : xm.desc = y.desc) (i : Nat) (he : T[i]? = some (x, .inr (ci, fs))) (hq : vwCl[ci]? = some q) (hR : Rm FR LO RC RS fr mx lo2 a b dc ds) (hn : As.length = n) {st : List Value} (hst : st = As.reverse ++ .ref x :: rest) (hc : (rest.map fun v => v.category).sum ≤ 8)
    (hd : decode cc pc = .ok (.invokeinterface index count, 5)) (k : ∀ rv T1, post rv T1 → L g (a + dc) (b + ds) T1 (pc + 5) lo (rv.toList ++ rest)) : L g a b T pc lo st := by
  intro H locs ls hP hS hls
  have hcl := X.2.2.2.2.2.1.1.1 ci q hq
  obtain ⟨cell, hr1, hr2, hr3⟩ := va_recv X.2.2.2.2.2.1.1 hP.1 hq he
  exact run_M5 (va_runF hcl.2 (CL_fix X) (hM X.2.2.2.2.2.2.2.2.2.2.2.1) (va_cwF n X.2.2.2.2.1 (fun w hw => by
      rcases List.mem_append.mp hw with hw | hw
      · rcases List.mem_cons.mp hw with rfl | hw
        · exact WG_ok hl
        rcases List.mem_cons.mp hw with rfl | hw
        · exact WG_ok hse
        rcases List.mem_cons.mp hw with rfl | hw
        · exact WG_ok hi
        rcases List.mem_cons.mp hw with rfl | hw
        · exact WG_ok cal.2.1
        · exact absurd hw List.not_mem_nil
      · exact wsK_in cal.1 w hw) rfl rfl rfl (E.2.1 _ hF) ⟨(FWs_ok _ hF).1, (FWs_ok _ hF).2, by rw [hxd]; exact cal.2.2.2.2⟩ (by rw [X.2.2.2.2.2.2.2.2.1, X.2.2.2.2.2.2.2.2.2.1]; exact hR.1)) ⟨PreM.blind, ⟨cell, hr1, hr2, hr3⟩, fun U hU hW => ⟨rfl, XE_pre X E hP hS hU hW⟩⟩ rfl hn (hls.1.trans X.2.2.1) hst (lv_room hc) hd (by rw [X.2.2.2.2.2.2.1.1, X.2.2.2.2.2.2.1.2.1]; exact hR.2)) hS (fun rv T1 H1 locs1 hp hP1 hS1 => k rv T1 hp H1 locs1 ls hP1 hS1 hls)
end

theorem sel_priv {C : String} {y y0 : MethodName} {s : State} {args : Array Value} {n : Nat} (hy : y.cls ≠ "java/lang/invoke/MethodHandle" ∧ y.cls ≠ "java/lang/invoke/VarHandle")
    (hins : (Cond.instantiable C n).before args s = true) (hpriv : (Cond.privateMethod y).before args s = true) (hinst : (Cond.instanceMethod y).before args s = true)
    (h0 : (Cond.selects C y0 y0).before args s = true) (hi0 : (Cond.instanceMethod y0).before args s = true) (he : y0.cls = y.cls) :
    (Cond.selects C y y).before args s = true := by
  obtain ⟨c, k, hc, hk, -, hniab, -, -⟩ := Cond.instantiable_spec hins
  obtain ⟨mk, methM, hnamed, hmethM, -, -⟩ := Cond.instanceMethod_spec hinst
  obtain ⟨mk0, methM0, hnamed0, hmethM0, -, -⟩ := Cond.instanceMethod_spec hi0
  have hfound : s.methodFound? y.cls y.name y.desc = some mk := State.methodFound?_of_named hnamed hy
  have hfound0 : s.methodFound? y0.cls y0.name y0.desc = some mk0 := State.methodFound?_of_named hnamed0 (by rw [he]; exact hy)
  have hcc : mk0.cls = mk.cls := Option.some.inj ((findClass_of_methodNamed hnamed0).symm.trans (by rw [he]; exact findClass_of_methodNamed hnamed))
  have hsel : selectMethod {} s.vm c mk = .method mk := selectMethod_private hmethM (Cond.privateMethod_at hpriv mk methM hnamed hmethM)
  simp only [Cond.before, Cond.holds, Cond.value, hc, hfound0, hnamed0] at h0
  simp only [Cond.before, Cond.holds, Cond.value, hc, hfound, hnamed, hsel]
  rw [hcc] at h0
  have h9 : Option.any (fun x => !x.isInterface) s.vm.classes[mk.cls]? = true := by
    split at h0
    · simp at h0
      first | exact h0.2 | simp_all
    · simp at h0
  simp
  exact h9
