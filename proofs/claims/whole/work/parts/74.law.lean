/-! THE CLAIM OUT OF ONE WALK OF THE LAW'S BODY. Your part is whole_start (and what it stands on); all else here is the same for every law, but numbers. -/
def R_law : String := "RadioBeaconsLaw"
def lw_P (b : Addr) (xs : List Int32) (args : Array Value) (s : State) : Prop := args = #[.ref b] ∧ s.IntsAt b xs ∧ xs.length ≤ 3072 ∧ (Jvm.Cond.and given_1 narrow_1).before args s = true
/-- what a walk over the start with the record d0 says of its end, said of the start itself -/
theorem lw_closed {s t : State} {o : Outcome} {d0 : Drawn} {L : List Loc} {k n : Nat} (hd0 : s.drawn.sameBut d0 lw_cs) (hv : ∃ v, o = .returned v) (hW : (s.setDrawn d0).WarmedH t.vm) (hs : (s.setDrawn d0).sameButNew ({ t with vm := s.vm } : State) L k n) : State.butDraws s t lw_cs (fun t1 => Framed s o t1 L k n) := by
  have h2 : t.drawn = d0 := congrArg State.drawn hs.1
  refine ⟨⟨hv, hW, State.sameButNew.setDrawn hs s.drawn⟩, ?_, by decide⟩
  rw [h2]
  exact hd0
def lw_Q (_ : Array Value) (s : State) (o : Outcome) (t : State) : Prop := o = .returned (some (.int 1)) ∧ State.butDraws s t lw_cs (fun t1 => Framed s o t1 [] 601024 7293034)
def lw_Z (below : List Frame) (a : Array Value) (s : State) : State → Prop := fun t => ∃ o, t.status = .running ∧ Ended t below o ∧ lw_Q a s o t
/-- the law's own end, with 1 on the stack, nothing written that was there before, its room as the claim has it; d0: the record of draws at this point (at the entry s.drawn: begin with 'refine W.base ?_' and 'have hd0 := Drawn.sameBut.refl s.drawn lw_cs') -/
theorem lw_ret {p : Program} {l : Launch} {e : Env} {s : State} {m : MethodId} {below : List Frame} {meth : Method} {c : Code} {b : Nat} {d0 : Drawn} (hd0 : s.drawn.sameBut d0 lw_cs) (hx : p.tables.exec = Jvm.exec) (hb : c.code = code) (hr : meth.sig.returnType = ret) (hlocks : meth.locks = false) {pc : Nat} {H : Heap} {ls : Array Slot} (hdg : decode code pc = .ok (.ireturn, 1)) : W p l e room_1 (s.setDrawn d0) m #[Value.ref b] below meth c H [] 601024 7293034 (lw_Z below #[Value.ref b] s) (F0 m pc ls [.int 1]) := by
  intro T hT X
  obtain ⟨fs, hret, hrun, hended, hW, hframe⟩ := X.leave (v := some (.int 1)) (hlocks := hlocks) (fun h => by rw [hr] at h; cases h)
  have hmeth' : T.vm.method? m = some meth := X.method'
  refine ⟨T.setFrames fs, ?_, .returned (some (.int 1)), hrun, hended, rfl, lw_closed hd0 ⟨_, rfl⟩ hW hframe⟩
  jvm_step X.here [X.here.top, hx, hb, hdg, hmeth', hr, ret, narrow_b1]
  (try refine ⟨rfl, ?_⟩); (try refine ⟨rfl, ?_⟩)
  first | (intro acts; rw [hret _ acts rfl rfl rfl]) | rw [hret _ _ rfl rfl rfl]
  exact Steps.refl _
/-- what holds at the law's entry: the machine, the code, the tables' words (any of lw_tbl by 'hts w (by decide +kernel)'), the script of L ints xs at the cell b, what the Statement gives of the start (any of its parts by flat_of_before) -/
def lw_At (p : Program) (s : State) (m : MethodId) (meth : Method) (c : Code) (b L : Nat) (xs : Nat → Int32) : Prop :=
  p.tables.exec = Jvm.exec ∧ c.code = code ∧ meth.sig.returnType = ret ∧ c.maxLocals = 9 ∧ s.vm.findClass R_law = some m.cls ∧ (∀ w ∈ lw_tbl, w.before #[Value.ref b] s = true) ∧ va_X b L xs s s.heap ∧ b < s.heap.size ∧ meth.locks = false ∧ (Jvm.Cond.and given_1 narrow_1).before #[Value.ref b] s = true

/-! from the entry to the end, if the pure loop ends well -/
theorem NW_tbl : ∀ w ∈ NW, w ∈ lw_tbl := by
  have h : NW.all (fun w => decide (w ∈ lw_tbl)) = true := by decide +kernel
  exact fun w hw => of_decide_eq_true (List.all_eq_true.mp h w hw)
theorem nest_on {w : Cond} (h : isNest w = true) : w.onTables = true := by
  cases w <;> first | rfl | cases h
theorem decl_on {w : Cond} (h : isDecl w = true) : w.onTables = true := by
  cases w <;> first | rfl | cases h
theorem start_of {p : Program} {e : Env} {s : State} {m : MethodId} {below : List Frame} {meth : Method} {c : Code} (l : Launch) (hst : l.stackTraces = false) {b L : Nat} {xs : Nat → Int32} (hL : L ≤ 3072) (hB : sL_loop xs L FU T0 0 = some 1) (C0 : lw_At p s m meth c b L xs) : W p l e room_1 s m #[Value.ref b] below meth c s.heap [] 0 0 (lw_Z below #[Value.ref b] s) (entryFrame m ([Value.ref b] : List Value).toArray 9) := by
  obtain ⟨hx, hb, hr, hml, hown, hts, hX, hbl, hlk, hgv⟩ := C0
  have hWG : ∀ w ∈ WG, w.before #[Value.ref b] s = true := fun w hw => hts w (WG_good w hw).1
  have ho : va_AO RX0 s := va_AO.of (hts _ w_ao.1)
  have ho5 : va_AO RX5 s := va_AO.of (hts _ w_ao.2)
  obtain ⟨D, cs, hK⟩ := k_all hWG ho ho5
  obtain ⟨adK, adV, h1, h2, h3, h4, h5, h6, hNC⟩ := str_all hts hgv
  have hNW : ∀ w ∈ NW, va_Nw w s := fun w hw => va_Nw.of (nest_on (List.all_eq_true.mp NW_nest w hw)) (hts w (NW_tbl w hw))
  have X : CL (p, l, e, room_1, s, m, #[Value.ref b], below, meth, c, (D, cs, fun _ _ _ => 0, s.heap.size, adK, adV), lw_Z below #[Value.ref b] s) RL cL_law 9 14 538 601024 7293034 :=
    ⟨hx, hb, hml, hown, hWG, ⟨hK, hNW, h6⟩, ⟨rfl, rfl, ho, ho5⟩, ⟨h1, h2, h3, h4, h5⟩, rfl, rfl, Nat.le_refl _, hst, hlk⟩
  rw [lg_entry_eq]
  refine law_start X (b0 := b) (fun ad hKO => ?_) s.heap [] _ ⟨fun k q hq => (by cases hq), fun i j q1 q2 hq => (by cases hq), fun k q hq => (by cases hq)⟩ va_S.rf (by show lv_has _ c.maxLocals _; rw [hml]; exact lv_entry [.ref b] (Nat.le_of_ble_eq_true rfl))
  have X2 : CX (p, l, e, room_1, s, m, #[Value.ref b], below, meth, c, (D, cs, ad, s.heap.size, adK, adV), lw_Z below #[Value.ref b] s) RL cL_law 9 14 538 :=
    ⟨hx, hb, hml, hown, hWG, ⟨hK, hNW, h6⟩, hKO, ⟨h1, h2, h3, h4, h5⟩, rfl, rfl, Nat.le_refl _, hst, hlk⟩
  have XL : XLaw (p, l, e, room_1, s, m, #[Value.ref b], below, meth, c, (D, cs, ad, s.heap.size, adK, adV), lw_Z below #[Value.ref b] s) b L xs :=
    ⟨hts, ⟨hX, (by show ¬ s.heap.size ≤ b; omega), hbl⟩, ⟨fun w hw => va_Nw.of (decl_on (List.all_eq_true.mp WD_decl w hw)) (hts w (WD_tbl w hw)), hNC⟩, fun ha hb => ⟨ha, hb⟩⟩
  refine gL_loop (s := s) hL X2 XL ?_ FU 0 T0 1000 30000 s.drawn (Drawn.sameBut.refl _ _) (Nat.zero_le _) (Nat.le_of_ble_eq_true rfl) (Nat.le_of_ble_eq_true rfl) hB
  intro d9 T1 a1 b1 pc lo hd9 ha hb1 hdc H locs ls hP hS hl
  refine va_forget (fun q hq => hS.2.2 q hq) ?_
  refine W.widen ha hb1 ?_
  exact lw_ret hd9 hx hb hr hlk hdc
