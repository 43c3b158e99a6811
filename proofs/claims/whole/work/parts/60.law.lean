theorem wCW_L_feed : Cond.codeWith yL_feed cL_feed 8 (some .int) [(0, 16, 19, 13)] ∈ lw_tbl := List.mem_of_getElem? (i := 792) (by decide +kernel)
theorem wCW_L_truncate : Cond.codeWith yL_truncate cL_truncate 4 (some .int) [(0, 9, 12, 19)] ∈ lw_tbl := List.mem_of_getElem? (i := 867) (by decide +kernel)
theorem wCW_L_readText : Cond.codeWith yL_readText cL_readText 3 (some .int) [(0, 8, 11, 19)] ∈ lw_tbl := List.mem_of_getElem? (i := 890) (by decide +kernel)
theorem wCW_L_runScript : Cond.codeWith yL_runScript cL_runScript 3 (some .int) [(0, 8, 11, 19)] ∈ lw_tbl := List.mem_of_getElem? (i := 1033) (by decide +kernel)
theorem wCW_L_setting : Cond.codeWith yL_setting cL_setting 4 (some .int) [(0, 9, 12, 19)] ∈ lw_tbl := List.mem_of_getElem? (i := 1145) (by decide +kernel)
theorem wCW_L_beacon : Cond.codeWith yL_beacon cL_beacon 5 (some .int) [(0, 10, 13, 35), (0, 10, 17, 19)] ∈ lw_tbl := List.mem_of_getElem? (i := 1156) (by decide +kernel)
theorem wCW_L_slots : Cond.codeWith yL_slots cL_slots 5 (some .int) [(0, 10, 13, 35), (0, 10, 17, 19)] ∈ lw_tbl := List.mem_of_getElem? (i := 1183) (by decide +kernel)
theorem wCW_L_reckoned : Cond.codeWith yL_reckoned cL_reckoned 4 (some .int) [(0, 9, 12, 35)] ∈ lw_tbl := List.mem_of_getElem? (i := 1190) (by decide +kernel)
theorem wCW_L_letter : Cond.codeWith yL_letter cL_letter 5 (some .int) [(0, 10, 13, 35)] ∈ lw_tbl := List.mem_of_getElem? (i := 1197) (by decide +kernel)
theorem wCW_L_heard : Cond.codeWith yL_heard cL_heard 5 (some .int) [(0, 10, 13, 35)] ∈ lw_tbl := List.mem_of_getElem? (i := 1205) (by decide +kernel)
theorem wCW_L_knows : Cond.codeWith yL_knows cL_knows 5 (some .int) [(0, 17, 20, 35)] ∈ lw_tbl := List.mem_of_getElem? (i := 1212) (by decide +kernel)
theorem wCW_L_why : Cond.codeWith yL_why cL_why 4 (some .int) [(0, 9, 12, 35)] ∈ lw_tbl := List.mem_of_getElem? (i := 1219) (by decide +kernel)
theorem wCW_L_whyNot : Cond.codeWith yL_whyNot cL_whyNot 5 (some .int) [(0, 10, 13, 35)] ∈ lw_tbl := List.mem_of_getElem? (i := 1227) (by decide +kernel)
theorem wCW_L_dueIn : Cond.codeWith yL_dueIn cL_dueIn 4 (some .int) [(0, 9, 12, 35)] ∈ lw_tbl := List.mem_of_getElem? (i := 1234) (by decide +kernel)
theorem wCW_L_hidden : Cond.codeWith yL_hidden cL_hidden 4 (some .int) [(0, 9, 12, 35)] ∈ lw_tbl := List.mem_of_getElem? (i := 1241) (by decide +kernel)
theorem wCW_L_hops : Cond.codeWith yL_hops cL_hops 5 (some .int) [(0, 10, 13, 35)] ∈ lw_tbl := List.mem_of_getElem? (i := 1248) (by decide +kernel)
theorem wCW_L_ears : Cond.codeWith yL_ears cL_ears 4 (some .int) [(0, 9, 12, 35)] ∈ lw_tbl := List.mem_of_getElem? (i := 1256) (by decide +kernel)
theorem wCW_L_window : Cond.codeWith yL_window cL_window 4 (some .int) [(0, 9, 12, 35)] ∈ lw_tbl := List.mem_of_getElem? (i := 1264) (by decide +kernel)
theorem wCW_L_stateIn : Cond.codeWith yL_stateIn cL_stateIn 5 (some .int) [(0, 10, 13, 35), (0, 10, 17, 19)] ∈ lw_tbl := List.mem_of_getElem? (i := 1272) (by decide +kernel)
theorem wCW_L_energyIn : Cond.codeWith yL_energyIn cL_energyIn 5 (some .int) [(0, 10, 13, 35), (0, 10, 17, 19)] ∈ lw_tbl := List.mem_of_getElem? (i := 1282) (by decide +kernel)
theorem wCW_L_collisionsIn : Cond.codeWith yL_collisionsIn cL_collisionsIn 4 (some .int) [(0, 9, 12, 19)] ∈ lw_tbl := List.mem_of_getElem? (i := 1289) (by decide +kernel)
theorem wCW_L_knowsIn : Cond.codeWith yL_knowsIn cL_knowsIn 5 (some .int) [(0, 10, 13, 35)] ∈ lw_tbl := List.mem_of_getElem? (i := 1296) (by decide +kernel)
theorem wCW_L_outIn : Cond.codeWith yL_outIn cL_outIn 4 (some .int) [(0, 9, 12, 35)] ∈ lw_tbl := List.mem_of_getElem? (i := 1303) (by decide +kernel)
theorem wCW_L_sendsIn : Cond.codeWith yL_sendsIn cL_sendsIn 4 (some .int) [(0, 9, 12, 35)] ∈ lw_tbl := List.mem_of_getElem? (i := 1310) (by decide +kernel)
theorem wCW_L_wellIn : Cond.codeWith yL_wellIn cL_wellIn 4 (some .int) [(0, 9, 12, 35)] ∈ lw_tbl := List.mem_of_getElem? (i := 1317) (by decide +kernel)
theorem wCW_L_bestAt : Cond.codeWith yL_bestAt cL_bestAt 4 (some .int) [(0, 9, 12, 35)] ∈ lw_tbl := List.mem_of_getElem? (i := 1324) (by decide +kernel)
theorem wCW_L_bestEvery : Cond.codeWith yL_bestEvery cL_bestEvery 4 (some .int) [(0, 9, 12, 35)] ∈ lw_tbl := List.mem_of_getElem? (i := 1331) (by decide +kernel)
theorem wCW_L_run : Cond.codeWith yL_run cL_run 4 (some .int) [(0, 9, 12, 19), (0, 9, 15, 13)] ∈ lw_tbl := List.mem_of_getElem? (i := 1341) (by decide +kernel)
theorem wCW_L_wake : Cond.codeWith yL_wake cL_wake 4 (some .int) [(0, 9, 12, 35), (0, 9, 15, 13)] ∈ lw_tbl := List.mem_of_getElem? (i := 1349) (by decide +kernel)
theorem wCW_L_setEvery : Cond.codeWith yL_setEvery cL_setEvery 5 (some .int) [(0, 10, 13, 35), (0, 10, 17, 19)] ∈ lw_tbl := List.mem_of_getElem? (i := 1357) (by decide +kernel)
theorem wCW_L_setAt : Cond.codeWith yL_setAt cL_setAt 5 (some .int) [(0, 10, 13, 35), (0, 10, 17, 19)] ∈ lw_tbl := List.mem_of_getElem? (i := 1365) (by decide +kernel)
theorem wCW_L_charge : Cond.codeWith yL_charge cL_charge 5 (some .int) [(0, 10, 13, 35), (0, 10, 17, 19)] ∈ lw_tbl := List.mem_of_getElem? (i := 1373) (by decide +kernel)
theorem wCW_L_setNear : Cond.codeWith yL_setNear cL_setNear 6 (some .int) [(0, 19, 22, 35), (0, 19, 26, 19)] ∈ lw_tbl := List.mem_of_getElem? (i := 1382) (by decide +kernel)
theorem wCW_L_setTries : Cond.codeWith yL_setTries cL_setTries 4 (some .int) [(0, 9, 12, 19)] ∈ lw_tbl := List.mem_of_getElem? (i := 1390) (by decide +kernel)
theorem wCW_L_reportByte : Cond.codeWith yL_reportByte cL_reportByte 4 (some .int) [(0, 9, 12, 35)] ∈ lw_tbl := List.mem_of_getElem? (i := 1397) (by decide +kernel)
theorem wCW_L_restore : Cond.codeWith yL_restore cL_restore 3 (some .int) [(0, 8, 11, 13)] ∈ lw_tbl := List.mem_of_getElem? (i := 1404) (by decide +kernel)
/-! the law's body: what it stands on -/

theorem WE_tbl : ∀ w ∈ WE, w ∈ lw_tbl := by
  have h : WE.all (fun w => decide (w ∈ lw_tbl)) = true := by decide +kernel
  exact fun w hw => of_decide_eq_true (List.all_eq_true.mp h w hw)
theorem WD_tbl : ∀ w ∈ WD, w ∈ lw_tbl := by
  have h : WD.all (fun w => decide (w ∈ lw_tbl)) = true := by decide +kernel
  exact fun w hw => of_decide_eq_true (List.all_eq_true.mp h w hw)
def XLaw (g : GX) (b0 L : Nat) (xs : Nat → Int32) : Prop := (∀ w ∈ lw_tbl, w.before g.2.2.2.2.2.2.1 (gs g) = true) ∧ (va_X b0 L xs (gs g) (gs g).heap ∧ ¬ kA (gκ g) b0 ∧ b0 < (gs g).heap.size) ∧ ((∀ w ∈ WD, va_Nw w (gs g)) ∧ NCs (gs g)) ∧ (∀ {a b : Nat}, a ≤ 601024 → b ≤ 7293034 → a ≤ g.2.2.2.1.cells ∧ b ≤ g.2.2.2.1.slots)
def CalW (y : MethodName) (cc : ByteArray) (mx : Nat) (hh : List (Nat × Nat × Nat × Nat)) (n : Nat) : Prop := Cond.codeWith y cc mx (some .int) hh ∈ lw_tbl ∧ Cond.initialized y.cls ∈ WG ∧ (y.cls ≠ "java/lang/invoke/MethodHandle" ∧ y.cls ≠ "java/lang/invoke/VarHandle" ∧ (parseMethodDescriptor y.desc).map (fun d => d.parameters.length) = some n)
section
variable {p : Program} {l : Launch} {e : Env} {R : Room} {s : State} {m : MethodId} {args : Array Value} {below : List Frame} {meth : Method} {c : Code} {H : Heap} {locs : List Loc} {a b mc ms : Nat} {Q : State → Prop}
theorem run_G2 {κ : KX} {T' : TT} {rv : Option Value} {pc : Nat} {ls : Array Slot} {st0 rest : List Value} {av : Array Value} {H0 : Heap} (hr : va_Run p l e R s m args below meth c H locs a b mc ms (F0 m pc ls st0) rest (QcK κ T' rv av) (kA κ)) (hS : va_S (kA κ) H0 H locs)
    (kk : ∀ (H1 : Heap) (locs1 : List Loc), va_P κ.1 vwCl (wsO κ T') H1 → va_S (kA κ) H0 H1 locs1 → W p l e R s m args below meth c H1 locs1 (a + mc) (b + ms) Q (F0 m (pc + 3) ls (rv.toList ++ rest))) : W p l e R s m args below meth c H locs a b Q (F0 m pc ls st0) := by
  intro T hT X
  obtain ⟨v, st₀, t, T', L, h0, X', hL, e1, e2, ⟨⟨hv, hP⟩, hF⟩, st⟩ := hr T hT X
  cases hv
  obtain ⟨-, -, k3⟩ := vx_keep h0 e1 hS (fun q _ h => h) (fun q h => h) hL hF
  obtain ⟨t2, a1, b1⟩ := kk T'.heap (locs ++ L) (by rw [e1]; exact hP) k3 T' rfl X'
  exact ⟨t2, st t2 a1, b1⟩
end
section
variable {g : GX} {a b b0 L : Nat} {xs : Nat → Int32} {T : TT} {pc : Nat} {lo : List (Nat × Value)} {st : List Value} {own : String} {cc : ByteArray} {nL FR LO : Nat}
theorem G_sld (X : CX g own cc nL FR LO) (XL : XLaw g b0 L xs) {i : Int32} (hi : inb i L = true) (hd : decode cc pc = .ok (.iaload, 1)) (k : G g a b T (pc + 1) lo (.int (xs (ix i)) :: st)) : G g a b T pc lo (.int i :: .ref b0 :: st) := by
  intro H locs ls hP hS hls
  exact va_sld X.1 X.2.1 XL.2.1.1 XL.2.1.2.2 XL.2.1.2.1 hS (inb_vp hi) hd (k H locs ls hP hS hls)
theorem G_sln (X : CX g own cc nL FR LO) (XL : XLaw g b0 L xs) (hd : decode cc pc = .ok (.arraylength, 1)) (k : G g a b T (pc + 1) lo (.int (nI L) :: st)) : G g a b T pc lo (.ref b0 :: st) := by
  intro H locs ls hP hS hls
  exact va_slen X.1 X.2.1 XL.2.1.1 XL.2.1.2.2 XL.2.1.2.1 hS hd (k H locs ls hP hS hls)
variable {index : Nat} {y : MethodName} {bytes : ByteArray} {mx fr lo2 n : Nat} {hh : List (Nat × Nat × Nat × Nat)} {As rest : List Value} {T' : TT} {v : Int32}
theorem G_callW (X : CX g RL cc nL FR LO) (XL : XLaw g b0 L xs) (hM : CtW g.2.1 (gκ g) y bytes mx hh fr lo2 As T T' v) (cal : CalW y bytes mx hh n) (hl : Cond.methodLink RL index y ∈ WG) (hs : Cond.static y ∈ WG) (hR : fr + 1 ≤ FR ∧ 8 + (mx + 11) + lo2 ≤ LO) (hn : As.length = n) {st : List Value} (hst : st = As.reverse ++ rest) (hc : (rest.map fun v => v.category).sum ≤ 8) (ha : a + 1 ≤ 601024) (hb : b + 6 ≤ 7293034)
    (hd : decode cc pc = .ok (.invokestatic index, 3)) {st2 : List Value} (h2 : (some (Value.int v)).toList ++ rest = st2) (k : G g (a + 1) (b + 6) T' (pc + 3) lo st2) : G g a b T pc lo st := by
  intro H locs ls hP hS hls
  have hgood : GoodIn lw_tbl (va_wsS RL index y (wsW y bytes mx hh)) := by
    intro w hw
    have hWG : ∀ w ∈ WG, w ∈ lw_tbl ∧ ((w.onTables && w.keeps) = true ∨ ∃ ty, w = .arrayClass ty) := WG_good
    unfold va_wsS at hw
    rcases List.mem_append.mp hw with h | h
    · simp only [List.mem_cons, List.not_mem_nil, or_false] at h
      rcases h with rfl | rfl | rfl
      · exact hWG _ hl
      · exact hWG _ hs
      · exact hWG _ cal.2.1
    · rcases List.mem_cons.mp h with rfl | h
      · exact ⟨cal.1, Or.inl rfl⟩
      · rcases List.mem_append.mp h with h1 | h1
        · exact hWG w h1
        · exact ⟨WE_tbl w h1, good_of_word (List.all_eq_true.mp WE_good w h1)⟩
  refine run_G2 (vx_runSW ⟨X.1, X.2.1, X.2.2.1, X.2.2.2.1, XL.1⟩ (hM X.2.2.2.2.2.2.2.2.2.2.2.1 X.2.2.2.2.2.2.1) (vx_cwSW n XL.1 hgood rfl rfl rfl cal.2.2 (by rw [X.2.2.2.2.2.2.2.2.1, X.2.2.2.2.2.2.2.2.2.1]; exact hR)) ⟨PreW.blind, fun U hU hW => ⟨rfl, ⟨CX_pre X hP hS hU hW, WD_warm hW XL.2.2.1.1⟩, XL.2.2.1.2.move hW.alike⟩⟩ rfl hn (hls.1.trans X.2.2.1) hst (lv_room hc) hd (XL.2.2.2 ha hb)) hS (fun H1 locs1 hP1 hS1 => by subst h2; exact k H1 locs1 ls hP1 hS1 hls)
end
