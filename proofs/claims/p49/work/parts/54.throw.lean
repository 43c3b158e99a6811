/-! methods that may throw: a contract for the runs that throw -/
def exN : Nat → String
  | 1 => "java/lang/IllegalStateException"
  | 2 => "java/lang/IllegalArgumentException"
  | _ => "java/lang/IndexOutOfBoundsException"
def exK : Nat → Nat
  | 1 => 58
  | 2 => 65
  | _ => 299
def exC : Nat → Nat
  | 1 => 60
  | 2 => 67
  | _ => 301
abbrev exS : List String := ["java/lang/RuntimeException", "java/lang/Exception"]
def isDecl : Cond → Bool
  | .declares _ => true
  | .castable _ _ => true
  | _ => false
theorem Nw_warmC {x y : String} {s U : State} (hW : s.WarmedH U.vm) (hZ : va_Nw (.castable x y) s) : va_Nw (.castable x y) U := va_tabs rfl (rfl : (s.setVm U.vm).vm = U.vm) (by rw [Cond.castable_setVm hW.alike]; exact hZ)
def WA : List Cond := vx_at0 RX6 60 "java/lang/IllegalStateException" exS ++ (vx_at0 RX6 67 "java/lang/IllegalArgumentException" exS ++ vx_at0 RX6 301 "java/lang/IndexOutOfBoundsException" exS)
/-- the good ones; and the others, which are all of one kind -/
def WE : List Cond := WA.filter goodWord
def WD : List Cond := WA.filter (fun w => !goodWord w)
theorem WD_decl : WD.all isDecl = true := by decide +kernel
theorem WE_good : WE.all goodWord = true := List.all_eq_true.mpr fun w h => (List.mem_filter.mp h).2
theorem WD_warm {s U : State} (hW : s.WarmedH U.vm) (h : ∀ w ∈ WD, va_Nw w s) : ∀ w ∈ WD, va_Nw w U := by
  intro w hw
  have h1 := List.all_eq_true.mp WD_decl w hw
  have h2 := h w hw
  cases w <;> first | exact va_Nw.warmD hW h2 | exact Nw_warmC hW h2 | cases h1
theorem WD_call {U : State} {g : JFrame} {mk : MethodId} {a : Array Value} (h : ∀ w ∈ WD, va_Nw w U) : ∀ w ∈ WD, va_Nw w (U.calling g mk a) := fun w hw => va_Nw.same (by
  have h1 := List.all_eq_true.mp WD_decl w hw
  cases w <;> first | rfl | cases h1) (u := U) rfl (h w hw)
theorem WA_all {args : Array Value} {s : State} (hE : ∀ w ∈ WE, w.before args s = true) (hD : ∀ w ∈ WD, va_Nw w s) : ∀ w ∈ WA, w.before args s = true := by
  intro w hw
  by_cases hg : goodWord w = true
  · exact hE w (List.mem_filter.mpr ⟨hw, hg⟩)
  · have hd : w ∈ WD := List.mem_filter.mpr ⟨hw, by simp [hg]⟩
    have h1 := List.all_eq_true.mp WD_decl w hd
    exact va_Nw.use (by cases w <;> first | rfl | cases h1) (hD w hd)
theorem WA_ot : ∀ w ∈ WA, vx_ot w = true := by
  intro w hw
  by_cases hg : goodWord w = true
  · simp [vx_ot, hg]
  · have hd : w ∈ WD := List.mem_filter.mpr ⟨hw, by simp [hg]⟩
    have h1 := List.all_eq_true.mp WD_decl w hd
    cases w <;> first | rfl | cases h1
def PreE (κ : KX) (T : TT) (U : State) : Prop := PreK κ T U ∧ ∀ w ∈ WD, va_Nw w U
theorem PreE.blind {κ : KX} {av : List Value} {T : TT} : FrameBlind (va_Pc av (PreE κ T)) := fun a U g mk h => ⟨h.1, ⟨h.2.1.1, KxS.call h.2.1.2.1, Str.move (Vm.Alike.refl U.vm) h.2.1.2.2.1, h.2.1.2.2.2⟩, WD_call h.2.2⟩
theorem WA_at (c : Nat) : ∀ w ∈ vx_at0 RX6 (exC c) (exN c) exS, w ∈ WA := by
  match c with
  | 0 => exact fun w h => List.mem_append_right _ (List.mem_append_right _ h)
  | 1 => exact fun w h => List.mem_append_left _ h
  | 2 => exact fun w h => List.mem_append_right _ (List.mem_append_left _ h)
  | c + 3 => exact fun w h => List.mem_append_right _ (List.mem_append_right _ h)
theorem ex_k (c : Nat) : Cond.classLink RX6 (exK c) (exN c) ∈ WG := by
  match c with
  | 0 => exact wCl_X6_299
  | 1 => exact wCl_X6_58
  | 2 => exact wCl_X6_65
  | c + 3 => exact wCl_X6_299
theorem ex_0 (c : Nat) : Cond.initialized (exN c) ∈ WG := by
  match c with
  | 0 => exact w0_IndexOutOfBoundsException
  | 1 => exact w0_IllegalStateException
  | 2 => exact w0_IllegalArgumentException
  | c + 3 => exact w0_IndexOutOfBoundsException
theorem ex_fit (c : Nat) : Bundle.fit (exN c) = true := by
  match c with
  | 0 | 1 | 2 => decide +kernel
  | c + 3 => exact (by decide +kernel : Bundle.fit "java/lang/IndexOutOfBoundsException" = true)
theorem ex_sfit : ∀ n ∈ exS, Bundle.fit n = true := by decide +kernel
def sm {α β γ : Type} (q : α ⊕ β) (f : α → γ) (k : β → γ) : γ := match q with
  | .inl a => f a
  | .inr b => k b
theorem sm_l {α β γ : Type} {a : α} {f : α → Option γ} {k : β → Option γ} {r : γ} (h : sm (.inl a) f k = some r) : f a = some r := h
theorem sm_r {α β γ : Type} {a : β} {f : α → Option γ} {k : β → Option γ} {r : γ} (h : sm (.inr a) f k = some r) : k a = some r := h
def XCK (κ : KX) (T' : TT) (c : Nat) : String → State → State → Prop := fun E st t => E = exN c ∧ va_P κ.1 vwCl (wsO κ T') t.heap ∧ va_F (kA κ) st t
abbrev rmE (fr lo : Nat) : Room := { frames := fr, cells := 1, slots := 6, locals := lo }
abbrev wsE (y : MethodName) (cc : ByteArray) (mx : Nat) (ret : Option FieldType) : List Cond := Cond.code y cc mx ret :: (WG ++ WE)
/-- a run that throws the exception c, over T' -/
def CtE (l : Launch) (κ : KX) (y : MethodName) (cc : ByteArray) (mx : Nat) (ret : Option FieldType) (fr lo : Nat) (av : List Value) (T T' : TT) (c : Nat) : Prop :=
  l.stackTraces = false → KOK κ → vx_Met l y (wsE y cc mx ret) (rmE fr lo) (va_Pc av (PreE κ T)) (fun _ _ _ _ => False) (XCK κ T' c) 1 6 (kA κ)
/-- what a body must be able to do where it throws, or where a callee has thrown -/
def FinE (g : GX) (cc : ByteArray) (T' : TT) (c : Nat) : Prop :=
  (∀ pc lo st, decode cc pc = .ok (.new (exK c), 3) → decode cc (pc + 3) = .ok (.dup, 1) → decode cc (pc + 4) = .ok (.invokespecial (exC c), 3) → decode cc (pc + 7) = .ok (.athrow, 1) → (st.map fun v => v.category).sum ≤ 8 → G g 0 0 T' pc lo st) ∧
  (∀ (H : Heap) (locs : List Loc) (ls : Array Slot) (pc : Nat) (rest : List Value) (ce : Cell) (q : Addr), va_P (gκ g).1 vwCl (wsO (gκ g) T') H → va_S (kA (gκ g)) (gs g).heap H locs → H[q]? = some ce → ce.vm = .none → (gs g).vm.findClass (exN c) = some ce.cls → vx_W g.1 g.2.1 g.2.2.1 g.2.2.2.1 g.2.2.2.2.1 g.2.2.2.2.2.1 g.2.2.2.2.2.2.1 g.2.2.2.2.2.2.2.1 g.2.2.2.2.2.2.2.2.1 g.2.2.2.2.2.2.2.2.2.1 H locs 1 6 g.2.2.2.2.2.2.2.2.2.2.2 (F0 g.2.2.2.2.2.1 pc ls rest) q) ∧
  (∀ w ∈ WE, w.before g.2.2.2.2.2.2.1 g.2.2.2.2.1 = true) ∧ (∀ w ∈ WD, va_Nw w (gs g)) ∧ 1 ≤ g.2.2.2.1.cells ∧ 6 ≤ g.2.2.2.1.slots
def FinX (g : GX) (cc : ByteArray) (ty : FieldType) (T' : TT) : Int32 ⊕ Nat → Prop
  | .inl v => FinI g cc ty T' v
  | .inr c => FinE g cc T' c
def FinU (g : GX) (cc : ByteArray) (T' : TT) : Unit ⊕ Nat → Prop
  | .inl _ => FinV g cc T'
  | .inr c => FinE g cc T' c
theorem va_P_keep {κ : KX} {ws : va_W} {H H1 : Heap} (h : va_P κ.1 vwCl ws H) (hk : ∀ q : Nat, q < H.size → H1[q]? = H[q]?) : va_P κ.1 vwCl ws H1 := fun k q hq => (h k q hq).kept (hk q.1 (h k q hq).lt)
theorem CtE_of {l : Launch} {κ : KX} {y : MethodName} {cc : ByteArray} {mx fr lo : Nat} {ret : Option FieldType} {av : List Value} {T T' : TT} {c : Nat} (own : String) (ho : y.cls = own) (ho2 : own = RX6) (hy : plainName y.cls = true) (hn : (lg_sl av).length ≤ mx) (hR : 5 < fr ∧ 89 ≤ lo)
    (k : ∀ g : GX, g.2.1 = l → gκ g = κ → CX g own cc mx fr lo → FinE g cc T' c → G g 0 0 T 0 (lv_args 0 av) []) : CtE l κ y cc mx ret fr lo av T T' c := by
  intro hl hK
  subst ho
  refine vx_ofW (cc := cc) (maxL := mx) (ret := ret) hy rfl ?_
  intro p e s m args below meth c0 s₁ B hml ht hv
  obtain ⟨rfl, hv⟩ := hv
  have hts : ∀ w ∈ WG ++ WE, w.before av.toArray s = true := fun w hw => atoms_spec (ws := wsE y cc mx ret) B.pre w (List.mem_cons_of_mem _ hw)
  have hG : ∀ w ∈ WG, w.before av.toArray s = true := fun w hw => hts w (List.mem_append_left _ hw)
  have hE : ∀ w ∈ WE, w.before av.toArray s = true := fun w hw => hts w (List.mem_append_right _ hw)
  rw [lg_entry_eq]
  refine k (p, l, e, rmE fr lo, s, m, av.toArray, below, meth, c0, κ, _) rfl rfl ⟨B.exec, B.bytes, hml, findClass_of_methodNamed B.named, hG, hv.1.2.1, hK, hv.1.2.2.1, rfl, rfl, hv.1.2.2.2, hl, B.notSynchronized⟩ ⟨?_, ?_, hE, hv.2, Nat.le_refl 1, Nat.le_refl 6⟩ s.heap [] _ hv.1.1 va_S.rf (by show lv_has _ c0.maxLocals _; rw [hml]; exact lv_entry av hn)
  · intro pc lo2 st d0 d3 d4 d7 hst H locs ls hP hS hls
    refine vx_throw0 (own := RX6) (cls := exN c) (names := exS) (ik := exK c) (ic := exC c) (A := kA κ) B.exec B.bytes hl (by rw [← ho2]; exact findClass_of_methodNamed B.named) (ex_fit c) ex_sfit (hG _ (ex_k c)) (hG _ (ex_0 c)) (fun w hw => WA_all hE hv.2 w (WA_at c w hw)) ?_ hv.1.2.2.1.2.2.1 hv.1.2.2.1.2.2.2.1 hS hls.1 d0 d3 d4 d7 (fun x hx => (ht x hx).elim) hR.1 ?_ (Nat.le_refl 1) (Nat.le_refl 6) B.notSynchronized ?_ (fun z hz => hS.2.2 z hz) (Nat.le_refl 1) (Nat.le_refl 6)
    · intro w hw
      have hg : ∀ w ∈ WG, vx_ot w = true := fun w h => by
        have := (WG_good w h).2
        rcases this with h1 | ⟨ty, rfl⟩
        · simp only [Bool.and_eq_true] at h1
          simp [vx_ot, h1.1]
        · rfl
      rcases List.mem_cons.mp hw with rfl | hw
      · exact hg _ (ex_k c)
      rcases List.mem_cons.mp hw with rfl | hw
      · exact hg _ (ex_0 c)
      · exact WA_ot w (WA_at c w hw)
    · show (st.map fun v => v.category).sum + (13 * (2 + 1) + 42) ≤ lo
      omega
    · intro t hal hsz hk
      refine ⟨rfl, va_P_keep hP hk, ⟨Nat.le_trans hS.1 hsz, fun q h1 h2 => ?_⟩⟩
      rw [hk q (Nat.lt_of_lt_of_le h1 hS.1)]
      exact hS.2.1 q h1 h2
  · intro H locs ls pc rest ce q hP hS hce hcv hcl
    exact vx_out (fun x hx => (ht x hx).elim) B.notSynchronized hce hcv hcl (fun t ht2 hal => ⟨rfl, by rw [ht2]; exact hP, hS.F ht2⟩) (fun z hz => hS.2.2 z hz) (Nat.le_refl 1) (Nat.le_refl 6)
section
variable {g : GX} {T : TT} {pc : Nat} {lo : List (Nat × Value)} {own : String} {cc : ByteArray} {nL FR LO : Nat}
variable {index : Nat} {y : MethodName} {bytes : ByteArray} {mx fr lo2 n : Nat} {ret : Option FieldType} {As rest : List Value} {T' : TT} {c : Nat}
theorem wsE_in (h : Cond.code y bytes mx ret ∈ WG) : GoodIn (WG ++ WE) (wsE y bytes mx ret) := by
  have hE : ∀ w ∈ WE, w ∈ WG ++ WE ∧ ((w.onTables && w.keeps) = true ∨ ∃ ty, w = .arrayClass ty) := fun w h => ⟨List.mem_append_right _ h, good_of_word (List.all_eq_true.mp WE_good w h)⟩
  have hG : ∀ w ∈ WG, w ∈ WG ++ WE ∧ ((w.onTables && w.keeps) = true ∨ ∃ ty, w = .arrayClass ty) := fun w h => ⟨List.mem_append_left _ h, (WG_good w h).2⟩
  intro w hw
  rcases List.mem_cons.mp hw with rfl | hw
  · exact hG _ h
  · rcases List.mem_append.mp hw with h1 | h1
    · exact hG w h1
    · exact hE w h1
theorem CX_callBE (X : CX g own cc nL FR LO) (hf : FinE g cc T' c) (cal : Cal y bytes mx ret n) (hl : Cond.methodLink own index y ∈ WG) (hR : fr + 1 ≤ FR ∧ 8 + (mx + 11) + lo2 ≤ LO) : CallB g.2.2.2.1 (gs g) g.2.2.2.2.2.2.1 own index y bytes mx ret (wsE y bytes mx ret) (rmE fr lo2) 1 6 n :=
  callB_of (Ts := WG ++ WE) n (fun w hw => (List.mem_append.mp hw).elim (X.2.2.2.2.1 w) (hf.2.2.1 w)) (wsE_in cal.1) rfl rfl rfl (X.2.2.2.2.1 _ cal.2.1) (X.2.2.2.2.1 _ hl) cal.2.2 (by rw [X.2.2.2.2.2.2.2.2.1, X.2.2.2.2.2.2.2.2.2.1]; exact hR)
theorem G_callVE (X : CX g own cc nL FR LO) {r o ci : Nat} {q : vw_C} (hM : CtE g.2.1 (gκ g) y bytes mx ret fr lo2 (.ref (xE (gκ g) r o 0) :: As) T T' c) (cal : Cal y bytes mx ret n) (hl : Cond.methodLink own index y ∈ WG) (hi : Cond.instanceMethod y ∈ WG) (hse : Cond.selects q.1 y y ∈ WG) (hkd : kd r o 0 = some (0, ci)) (hq : vwCl[ci]? = some q) (hR : fr + 1 ≤ FR ∧ 8 + (mx + 11) + lo2 ≤ LO) (hn : As.length = n) {st : List Value} (hst : st = As.reverse ++ .ref (xE (gκ g) r o 0) :: rest) (hc : (rest.map fun v => v.category).sum ≤ 8)
    (hd : decode cc pc = .ok (.invokevirtual index, 3)) (hf : FinE g cc T' c) : G g 0 0 T pc lo st := by
  intro H locs ls hP hS hls T0 hT0 X0
  rcases vx_runV (CX_fix X) (hM X.2.2.2.2.2.2.2.2.2.2.2.1 X.2.2.2.2.2.2.1) ⟨CX_callBE X hf cal hl hR, X.2.2.2.2.1 _ hi, X.2.2.2.2.1 _ hse⟩ ⟨PreE.blind, CX_recv X hkd hq hP, fun U hU hW => ⟨rfl, CX_pre X hP hS hU hW, WD_warm hW hf.2.2.2.1⟩⟩ (g := F0 g.2.2.2.2.2.1 pc ls st) rfl hn (hls.1.trans X.2.2.1) hst (lv_room (pc := pc) (ls := ls) (rest := st) hc) hd ⟨by simpa using hf.2.2.2.2.1, by simpa using hf.2.2.2.2.2⟩ T0 hT0 X0 with ⟨v, st₀, t, T1, L, h0, X', hL, e1, e2, hF, st1⟩ | ⟨q9, st₀, t, T1, L, E, ce, h0, X', hL, e1, e2, ⟨hE, hP1, hF⟩, hce, hcv, hcl, st1⟩
  · exact hF.elim
  · subst hE
    obtain ⟨-, -, k3⟩ := vx_keep h0 e1 hS (fun q _ h => h) (fun q h => h) hL hF
    obtain ⟨t2, a1, b1⟩ := hf.2.1 T1.heap (locs ++ L) ls pc rest ce q9 (by rw [e1]; exact hP1) k3 (by rw [e1]; exact hce) hcv hcl T1 rfl X'
    exact ⟨t2, st1.trans a1, b1⟩
theorem G_callSE (X : CX g own cc nL FR LO) (hM : CtE g.2.1 (gκ g) y bytes mx ret fr lo2 As T T' c) (cal : Cal y bytes mx ret n) (hl : Cond.methodLink own index y ∈ WG) (hs : Cond.static y ∈ WG) (hR : fr + 1 ≤ FR ∧ 8 + (mx + 11) + lo2 ≤ LO) (hn : As.length = n) {st : List Value} (hst : st = As.reverse ++ rest) (hc : (rest.map fun v => v.category).sum ≤ 8)
    (hd : decode cc pc = .ok (.invokestatic index, 3)) (hf : FinE g cc T' c) : G g 0 0 T pc lo st := by
  intro H locs ls hP hS hls T0 hT0 X0
  rcases vx_runS (CX_fix X) (hM X.2.2.2.2.2.2.2.2.2.2.2.1 X.2.2.2.2.2.2.1) ⟨CX_callBE X hf cal hl hR, X.2.2.2.2.1 _ hs⟩ ⟨PreE.blind, fun U hU hW => ⟨rfl, CX_pre X hP hS hU hW, WD_warm hW hf.2.2.2.1⟩⟩ (g := F0 g.2.2.2.2.2.1 pc ls st) rfl hn (hls.1.trans X.2.2.1) hst (lv_room (pc := pc) (ls := ls) (rest := st) hc) hd ⟨by simpa using hf.2.2.2.2.1, by simpa using hf.2.2.2.2.2⟩ T0 hT0 X0 with ⟨v, st₀, t, T1, L, h0, X', hL, e1, e2, hF, st1⟩ | ⟨q9, st₀, t, T1, L, E, ce, h0, X', hL, e1, e2, ⟨hE, hP1, hF⟩, hce, hcv, hcl, st1⟩
  · exact hF.elim
  · subst hE
    obtain ⟨-, -, k3⟩ := vx_keep h0 e1 hS (fun q _ h => h) (fun q h => h) hL hF
    obtain ⟨t2, a1, b1⟩ := hf.2.1 T1.heap (locs ++ L) ls pc rest ce q9 (by rw [e1]; exact hP1) k3 (by rw [e1]; exact hce) hcv hcl T1 rfl X'
    exact ⟨t2, st1.trans a1, b1⟩
end
theorem tok_rg {x0 x1 x2 : St} {ps : Nat → St} {ta tb d S pg c m ot y : St} {t : Nat} (h : (t = 3 ∧ y = ta) ∨ (t = 4 ∧ y = tb)) : rg (x0, x1, x2, ps, ta, tb, d, S, pg, c, m, ot) t = y := by
  rcases h with ⟨rfl, rfl⟩ | ⟨rfl, rfl⟩ <;> rfl
theorem tok_kd {ta tb y : St} {t : Nat} (h : (t = 3 ∧ y = ta) ∨ (t = 4 ∧ y = tb)) : kd t = kd 3 := by
  rcases h with ⟨rfl, rfl⟩ | ⟨rfl, rfl⟩ <;> rfl
