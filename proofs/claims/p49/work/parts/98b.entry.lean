/-! THE CLAIM OUT OF ONE WALK OF THE LAW'S BODY. Your part is whole_start (and what it stands on); all else here is the same for every law, but numbers. -/
def R_law : String := "RadioBeaconsLaw"
def lw_P (b : Addr) (xs : List Int32) (args : Array Value) (s : State) : Prop := args = #[.ref b] ∧ s.IntsAt b xs ∧ xs.length ≤ 260 ∧ (Jvm.Cond.and given_1 narrow_1).before args s = true
def lw_Q (_ : Array Value) (s : State) (o : Outcome) (t : State) : Prop := o = .returned (some (.int 1)) ∧ Framed s o t [] 600086 7301442
def lw_Z (below : List Frame) (a : Array Value) (s : State) : State → Prop := fun t => ∃ o, t.status = .running ∧ Ended t below o ∧ lw_Q a s o t
/-- the law's own end, with 1 on the stack, nothing written that was there before, its room as the claim has it -/
theorem lw_ret {p : Program} {l : Launch} {e : Env} {s : State} {m : MethodId} {below : List Frame} {meth : Method} {c : Code} {b : Nat} (hx : p.tables.exec = Jvm.exec) (hb : c.code = code) (hr : meth.sig.returnType = ret) (hlocks : meth.locks = false) {pc : Nat} {H : Heap} {ls : Array Slot} (hdg : decode code pc = .ok (.ireturn, 1)) : W p l e room_1 s m #[Value.ref b] below meth c H [] 600086 7301442 (lw_Z below #[Value.ref b] s) (F0 m pc ls [.int 1]) := by
  intro T hT X
  obtain ⟨fs, hret, hrun, hended, hW, hframe⟩ := X.leave (v := some (.int 1)) (hlocks := hlocks) (fun h => by rw [hr] at h; cases h)
  have hmeth' : T.vm.method? m = some meth := X.method'
  refine ⟨T.setFrames fs, ?_, .returned (some (.int 1)), hrun, hended, rfl, ⟨_, rfl⟩, hW, hframe⟩
  jvm_step X.here [X.here.top, hx, hb, hdg, hmeth', hr, ret, narrow_b1]
  (try refine ⟨rfl, ?_⟩); (try refine ⟨rfl, ?_⟩)
  first | (intro acts; rw [hret _ acts rfl rfl rfl]) | rw [hret _ _ rfl rfl rfl]
  exact Steps.refl _
/-- what holds at the law's entry: the machine, the code, the tables' words (any of lw_tbl by 'hts w (by decide +kernel)'), the script of L ints xs at the cell b, what the Statement gives of the start (any of its parts by flat_of_before) -/
def lw_At (p : Program) (s : State) (m : MethodId) (meth : Method) (c : Code) (b L : Nat) (xs : Nat → Int32) : Prop :=
  p.tables.exec = Jvm.exec ∧ c.code = code ∧ meth.sig.returnType = ret ∧ c.maxLocals = 4 ∧ s.vm.findClass R_law = some m.cls ∧ (∀ w ∈ lw_tbl, w.before #[Value.ref b] s = true) ∧ va_X b L xs s s.heap ∧ b < s.heap.size ∧ meth.locks = false ∧ (Jvm.Cond.and given_1 narrow_1).before #[Value.ref b] s = true

/-! what the law's code reads of the JDK, at the entry -/
theorem x_dg : (Cond.arrayOf (.static "java/lang/Integer" "DigitOnes" "[B") .byte ∈ FL ∧ Cond.eq (.length (.static "java/lang/Integer" "DigitOnes" "[B")) (.int (Int32.ofNat 100)) ∈ FL) ∧ (Cond.arrayOf (.static "java/lang/Integer" "DigitTens" "[B") .byte ∈ FL ∧ Cond.eq (.length (.static "java/lang/Integer" "DigitTens" "[B")) (.int (Int32.ofNat 100)) ∈ FL) ∧ (Cond.arrayOf (.static "java/util/ArrayList" "DEFAULTCAPACITY_EMPTY_ELEMENTDATA" "[Ljava/lang/Object;") (.object "java/lang/Object") ∈ FL ∧ Cond.eq (.length (.static "java/util/ArrayList" "DEFAULTCAPACITY_EMPTY_ELEMENTDATA" "[Ljava/lang/Object;")) (.int (Int32.ofNat 0)) ∈ FL) := by decide +kernel
theorem x_ls : (Cond.laysStatic "java/lang/Integer" "DigitOnes" "[B" ∈ lw_tbl ∧ Cond.laysStatic "java/lang/Integer" "DigitTens" "[B" ∈ lw_tbl ∧ Cond.initialized "java/lang/Integer" ∈ lw_tbl) ∧ (Cond.laysStatic "java/util/ArrayList" "DEFAULTCAPACITY_EMPTY_ELEMENTDATA" "[Ljava/lang/Object;" ∈ lw_tbl ∧ Cond.initialized "java/util/ArrayList" ∈ lw_tbl) := by decide +kernel
theorem x_fw : ∀ q ∈ FWs, Cond.declares q.2.1 ∈ lw_tbl ∧ Cond.interfaceMethod q.2.1.cls q.2.1.cls q.2.1.name q.2.1.desc ∈ lw_tbl ∧ Cond.publicMethod q.2.2 ∈ lw_tbl ∧ Cond.unhidden q.1 q.2.1.name q.2.1.desc ∈ lw_tbl ∧ Cond.castable q.1 q.2.1.cls ∈ lw_tbl := by decide +kernel
theorem x_pv : ∀ y ∈ [yJ5_ensureCapacityInternal_d00df, yJ5_newCapacity_0f7a4, yJ5_putStringAt_47b60, yJ5_inflateIfNeededFor_a7421], Cond.privateMethod y ∈ lw_tbl ∧ Cond.instanceMethod y ∈ lw_tbl := by decide +kernel
theorem x_sp : Cond.sameField RJx4a65c RJxc12de "modCount" "I" ∈ lw_tbl ∧ Cond.sameMethod "[B" "java/lang/Object" "clone" "()Ljava/lang/Object;" ∈ lw_tbl ∧ Cond.native ⟨"java/lang/Object", "clone", "()Ljava/lang/Object;"⟩ ∈ lw_tbl ∧ Cond.instanceMethod ⟨"java/lang/Object", "clone", "()Ljava/lang/Object;"⟩ ∈ lw_tbl ∧ Cond.selects "[B" ⟨"[B", "clone", "()Ljava/lang/Object;"⟩ ⟨"java/lang/Object", "clone", "()Ljava/lang/Object;"⟩ ∈ lw_tbl := by decide +kernel
theorem x_ca : Cond.castable RX7 "java/lang/Object" ∈ lw_tbl ∧ Cond.castable "[B" "java/lang/Cloneable" ∈ lw_tbl := by decide +kernel
theorem ext_all {s : State} {b Ln : Nat} {xs : Nat → Int32} {κ : KX} (hk : kA κ = fun q => s.heap.size ≤ q) (hts : ∀ w ∈ lw_tbl, w.before #[Value.ref b] s = true) (hn : (Jvm.Cond.and given_1 narrow_1).before #[Value.ref b] s = true) (hX : va_X b Ln xs s s.heap) (hbl : b < s.heap.size) : ∃ e3 : Nat × Nat × Nat, Ext κ ((b, Ln, xs), e3) s s.heap := by
  have hs : ∀ c ∈ FL, c.before #[Value.ref b] s = true := flat_of_before _ hn
  have hA : ∀ a : Nat, a < s.heap.size → ¬ s.heap.size ≤ a := fun a h => by omega
  obtain ⟨e0, h1, h2⟩ := va_Tof (N := 0) (f := fun _ => .null) (A := fun q => s.heap.size ≤ q) (by decide) (hs _ x_dg.2.2.1) (va_eqt (hs _ x_dg.2.2.2)) (fun j hj => absurd hj (Nat.not_lt_zero _)) hA
  obtain ⟨t1, h3, h4⟩ := va_Tof (N := 100) (f := fun k => .int (nI (48 + k % 10))) (A := fun q => s.heap.size ≤ q) (by decide) (hs _ x_dg.1.1) (va_eqt (hs _ x_dg.1.2)) (fun j hj => va_eqt (hs _ (DO_in hj))) hA
  obtain ⟨t2, h5, h6⟩ := va_Tof (N := 100) (f := fun k => .int (nI (48 + k / 10))) (A := fun q => s.heap.size ≤ q) (by decide) (hs _ x_dg.2.1.1) (va_eqt (hs _ x_dg.2.1.2)) (fun j hj => va_eqt (hs _ (DT_in hj))) hA
  have hwg : ∀ w ∈ WG, w.before #[Value.ref b] s = true := fun w hw => hts w (WG_good w hw).1
  have hp : ∀ y ∈ [yJ5_ensureCapacityInternal_d00df, yJ5_newCapacity_0f7a4, yJ5_putStringAt_47b60, yJ5_inflateIfNeededFor_a7421], y.cls = RJ5 → (Cond.selects RJ4 y y).before #[Value.ref b] s = true := fun y hy hc =>
    sel_priv (y0 := yJ5_isLatin1_aae02) (by rw [hc]; exact ⟨by decide, by decide⟩) (hwg _ wN_J4) (hts _ (x_pv y hy).1) (hts _ (x_pv y hy).2) (hwg _ wO_J5_isLatin1_aae02) (hwg _ wI_J5_isLatin1_aae02) hc.symm
  refine ⟨(e0, t1, t2), ⟨hX, (by rw [hk]; show ¬ s.heap.size ≤ b; omega), hbl⟩, fun q hq => ?_, ?_, ?_, ?_, va_AOA.of (hts _ w_ao.2.2.2), va_AO.of (hts _ w_ao.2.2.1), fun w hw => ?_, va_Nw.of rfl (hts _ x_ca.1), va_Nw.of rfl (hts _ x_ca.2)⟩
  · obtain ⟨a1, a2, a3, a4, a5⟩ := x_fw q hq
    exact va_Fw.of (hts _ a1) (hts _ a2) (hts _ a3) (hts _ a4) (hts _ a5)
  · rw [hk]; exact ⟨va_Zref (hts _ x_ls.2.1) (hts _ x_ls.2.2) h1 hA, h2⟩
  · rw [hk]; exact ⟨va_Zref (hts _ x_ls.1.1) (hts _ x_ls.1.2.2) h3 hA, h4⟩
  · rw [hk]; exact ⟨va_Zref (hts _ x_ls.1.2.1) (hts _ x_ls.1.2.2) h5 hA, h6⟩
  · have hg := SPw_good w hw
    simp only [Bool.and_eq_true] at hg
    refine va_tabs hg.1 (rfl : s.vm = s.vm) (A := #[Value.ref b]) ?_
    simp only [SPw, List.mem_cons, List.not_mem_nil, or_false] at hw
    rcases hw with rfl | rfl | rfl | rfl | rfl | rfl | rfl | rfl | rfl
    · exact hp _ (by simp) rfl
    · exact hp _ (by simp) rfl
    · exact hp _ (by simp) rfl
    · exact hp _ (by simp) rfl
    · exact hts _ x_sp.1
    · exact hts _ x_sp.2.1
    · exact hts _ x_sp.2.2.1
    · exact hts _ x_sp.2.2.2.1
    · exact hts _ x_sp.2.2.2.2
/-! from the entry to the end, if the pure law ends well -/
theorem NW_tbl : ∀ w ∈ NW, w ∈ lw_tbl := by
  have h : NW.all (fun w => decide (w ∈ lw_tbl)) = true := by decide +kernel
  exact fun w hw => of_decide_eq_true (List.all_eq_true.mp h w hw)
theorem nest_on {w : Cond} (h : isNest w = true) : w.onTables = true := by
  cases w <;> first | rfl | cases h
theorem start_of {p : Program} {e : Env} {s : State} {m : MethodId} {below : List Frame} {meth : Method} {c : Code} (l : Launch) (hst : l.stackTraces = false) {b L9 : Nat} {xs : Nat → Int32} (hB : sL_law L9 xs = some ()) (C0 : lw_At p s m meth c b L9 xs) : W p l e room_1 s m #[Value.ref b] below meth c s.heap [] 0 0 (lw_Z below #[Value.ref b] s) (entryFrame m ([Value.ref b] : List Value).toArray 4) := by
  obtain ⟨hx, hb, hr, hml, hown, hts, hX, hbl, hlk, hgv⟩ := C0
  have hWG : ∀ w ∈ WG, w.before #[Value.ref b] s = true := fun w hw => hts w (WG_good w hw).1
  have ho : va_AO RX0 s := va_AO.of (hts _ w_ao.1)
  have ho5 : va_AO RX5 s := va_AO.of (hts _ w_ao.2.1)
  obtain ⟨D, cs, hK⟩ := k_all hWG ho ho5 (va_AO.of (hts _ w_ao.2.2.1)) (va_AOA.of (hts _ w_ao.2.2.2))
  obtain ⟨adK, adV, h1, h2, h3, h4, h5, h6⟩ := str_all hts hgv
  obtain ⟨e3, hE⟩ := ext_all (κ := (D, cs, fun _ _ _ => 0, (fun q => s.heap.size ≤ q), adK, adV)) rfl hts hgv hX hbl
  have hNW : ∀ w ∈ NW, va_Nw w s := fun w hw => va_Nw.of (nest_on (List.all_eq_true.mp NW_nest w hw)) (hts w (NW_tbl w hw))
  have X : CL (p, l, e, room_1, s, m, #[Value.ref b], below, meth, c, (D, cs, fun _ _ _ => 0, (fun q => s.heap.size ≤ q), adK, adV), lw_Z below #[Value.ref b] s) RL cL_law 4 13 496 600086 7301442 :=
    ⟨hx, hb, hml, hown, hWG, ⟨hK, hNW, h6⟩, ⟨rfl, rfl, ho, ho5⟩, ⟨h1, h2, h3, h4, h5⟩, rfl, rfl, fun _ h => h, hst, hlk⟩
  rw [lg_entry_eq]
  refine law_start (ξ := ((b, L9, xs), e3)) X hE rfl (fun ad T pc lo hd => ?_) hB s.heap [] _ ⟨fun k q hq => (by cases hq), fun i j q1 q2 hq => (by cases hq), fun k q hq => (by cases hq)⟩ va_S.rf (by show lv_has _ c.maxLocals _; rw [hml]; exact lv_entry [.ref b] (Nat.le_of_ble_eq_true rfl))
  intro H locs ls hP hS hl
  refine va_forget (fun q hq => hS.2.2 q hq) ?_
  exact lw_ret hx hb hr hlk hd
/-! the launch's flags -/
theorem st_off (l : Launch) (hflags : l.flags = flags0) : l.stackTraces = false := by
  unfold Launch.stackTraces
  rw [hflags]
  decide +kernel
