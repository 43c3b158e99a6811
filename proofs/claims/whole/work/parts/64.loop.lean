/-! the law's loop -/
section
variable {p : Program} {l : Launch} {e : Env} {R : Room} {s : State} {mi : MethodId} {args : Array Value} {below : List Frame} {meth : Method} {c0 : Code} {κ : KX} {Q : State → Prop} {d0 : Drawn}
variable {a b b0 L : Nat} {xs : Nat → Int32} {T : TT} {pc : Nat} {lo : List (Nat × Value)} {st : List Value} {own : String} {cc : ByteArray} {nL FR LO : Nat}
theorem XLaw.dr (XL : XLaw (p, l, e, R, s, mi, args, below, meth, c0, κ, Q) b0 L xs) (d : Drawn) : XLaw (p, l, e, R, s.setDrawn d, mi, args, below, meth, c0, κ, Q) b0 L xs :=
  ⟨dr_words XL.1 d, XL.2.1, ⟨fun w hw => by
    have := XL.2.2.1.1 w hw
    unfold va_Nw at this ⊢
    rw [Cond.before_setDrawn]; exact this, XL.2.2.1.2.move (U := s.setDrawn d) (Vm.Alike.refl s.vm)⟩, XL.2.2.2⟩
theorem G_f2dA (X : CX (p, l, e, R, s.setDrawn d0, mi, args, below, meth, c0, κ, Q) own cc nL FR LO) (hd0 : s.drawn.sameBut d0 lw_cs) {x : UInt32} (hd : decode cc pc = .ok (.f2d, 1)) (k : ∀ (r : UInt64) (d1 : Drawn), alike64 r (FP.f2d x) = true → s.drawn.sameBut d1 lw_cs → G (p, l, e, R, s.setDrawn d1, mi, args, below, meth, c0, κ, Q) a b T (pc + 1) lo (.double r :: st)) : G (p, l, e, R, s.setDrawn d0, mi, args, below, meth, c0, κ, Q) a b T pc lo (.float x :: st) := by
  intro H locs ls hP hS hls
  exact lv_f2d_any hd0 lw_bits X.1 X.2.1 hd (fun r d1 hal hd1 => k r d1 hal hd1 H locs ls hP hS hls)
theorem G_dcmp {g : GX} (X : CX g own cc nL FR LO) {x y : UInt64} {op : CmpOp} (hd : decode cc pc = .ok (.dcmp op, 1)) (k : G g a b T (pc + 1) lo (.int (Op.cmpValue (FP.dcmp x y) op) :: st)) : G g a b T pc lo (.double y :: .double x :: st) := fun H locs ls hP hS hls => lv_dcmp X.1 X.2.1 hd (k H locs ls hP hS hls)
variable {index : Nat} {y : MethodName} {bytes : ByteArray} {mx fr lo2 : Nat} {rest : List Value} {T' : TT} {v : Unit ⊕ (Int32 × Int32)}
theorem G_callFD (X : CX (p, l, e, R, s.setDrawn d0, mi, args, below, meth, c0, κ, Q) own cc nL FR LO) (hd0 : s.drawn.sameBut d0 lw_cs) {r o ci : Nat} {q : vw_C} (hM : CtF l κ y bytes mx fr lo2 [.ref (xE κ r o 0)] T T' v) (cal : Cal y bytes mx (some .float) 0) (hl : Cond.methodLink own index y ∈ WG) (hi : Cond.instanceMethod y ∈ WG) (hse : Cond.selects q.1 y y ∈ WG) (hkd : kd r o 0 = some (0, ci)) (hq : vwCl[ci]? = some q) (hR : fr + 1 ≤ FR ∧ 8 + (mx + 11) + lo2 ≤ LO) (hc : (rest.map fun v => v.category).sum ≤ 8) (hab : a ≤ R.cells ∧ b ≤ R.slots)
    (hd : decode cc pc = .ok (.invokevirtual index, 3)) (k : ∀ (w : UInt32) (d1 : Drawn), alF v w → s.drawn.sameBut d1 lw_cs → G (p, l, e, R, s.setDrawn d1, mi, args, below, meth, c0, κ, Q) a b T' (pc + 3) lo (.float w :: rest)) : G (p, l, e, R, s.setDrawn d0, mi, args, below, meth, c0, κ, Q) a b T pc lo (.ref (xE κ r o 0) :: rest) := by
  intro H locs ls hP hS hls
  exact va_callfD hd0 (va_runV_D (As := []) (CX_fix X) (hM X.2.2.2.2.2.2.2.2.2.2.2.1 X.2.2.2.2.2.2.1) ⟨CX_callB X cal hl hR, X.2.2.2.2.1 _ hi, X.2.2.2.2.1 _ hse⟩ ⟨PreK.blind, CX_recv X hkd hq hP, fun U hU hW => ⟨rfl, CX_pre X hP hS hU hW⟩⟩ rfl rfl (hls.1.trans X.2.2.1) rfl (lv_room hc) hd hab) hS (fun q _ h => h) (fun q h => h) (fun w u t H1 locs1 ht hal hp hB hz hk2 hS1 d1 hd1 => k w d1 hp hd1 H1 locs1 ls (by rw [← ht]; exact hB) hS1 hls)
theorem G_callDD (X : CX (p, l, e, R, s.setDrawn d0, mi, args, below, meth, c0, κ, Q) own cc nL FR LO) (hd0 : s.drawn.sameBut d0 lw_cs) {r o ci : Nat} {q : vw_C} (hM : CtD l κ y bytes mx fr lo2 [.ref (xE κ r o 0)] T T' v) (cal : Cal y bytes mx (some .double) 0) (hl : Cond.methodLink own index y ∈ WG) (hi : Cond.instanceMethod y ∈ WG) (hse : Cond.selects q.1 y y ∈ WG) (hkd : kd r o 0 = some (0, ci)) (hq : vwCl[ci]? = some q) (hR : fr + 1 ≤ FR ∧ 8 + (mx + 11) + lo2 ≤ LO) (hc : (rest.map fun v => v.category).sum ≤ 8) (hab : a ≤ R.cells ∧ b ≤ R.slots)
    (hd : decode cc pc = .ok (.invokevirtual index, 3)) (k : ∀ (w : UInt64) (d1 : Drawn), alD v w → s.drawn.sameBut d1 lw_cs → G (p, l, e, R, s.setDrawn d1, mi, args, below, meth, c0, κ, Q) a b T' (pc + 3) lo (.double w :: rest)) : G (p, l, e, R, s.setDrawn d0, mi, args, below, meth, c0, κ, Q) a b T pc lo (.ref (xE κ r o 0) :: rest) := by
  intro H locs ls hP hS hls
  exact va_calldD hd0 (va_runV_D (As := []) (CX_fix X) (hM X.2.2.2.2.2.2.2.2.2.2.2.1 X.2.2.2.2.2.2.1) ⟨CX_callB X cal hl hR, X.2.2.2.2.1 _ hi, X.2.2.2.2.1 _ hse⟩ ⟨PreK.blind, CX_recv X hkd hq hP, fun U hU hW => ⟨rfl, CX_pre X hP hS hU hW⟩⟩ rfl rfl (hls.1.trans X.2.2.1) rfl (lv_room hc) hd hab) hS (fun q _ h => h) (fun q h => h) (fun w u t H1 locs1 ht hal hp hB hz hk2 hS1 d1 hd1 => k w d1 hp hd1 H1 locs1 ls (by rw [← ht]; exact hB) hS1 hls)

theorem cal_X6_drain : Cal yX6_drain cX6_drain 3 (some .float) 0 := ⟨wC_X6_drain, w0_X6, by decide +kernel⟩
theorem cal_X7_drain : Cal yX7_drain cX7_drain 3 (some .float) 0 := ⟨wC_X7_drain, w0_X7, by decide +kernel⟩
theorem cal_X6_knowledge : Cal yX6_knowledge cX6_knowledge 4 (some .double) 0 := ⟨wC_X6_knowledge, w0_X6, by decide +kernel⟩
theorem cal_X7_knowledge : Cal yX7_knowledge cX7_knowledge 3 (some .double) 0 := ⟨wC_X7_knowledge, w0_X7, by decide +kernel⟩
def sL_c13 (k : TT → Option Int32) (TT0 : TT) : Option Int32 := match TT0 with
  | (x0, x1, x2, ps, ta, tb, d, S, pg, c, m, ot) => bd (sX6_drain x0) fun u => bd (sX7_drain m) fun v => if u = v.2 then k (x0, x1, x2, ps, ta, tb, d, S, pg, c, v.1, ot) else none
set_option maxRecDepth 20000 in
theorem gL_c13 {k : TT → Option Int32} {x0 x1 x2 ta tb d S pg c m ot : St} {ps : Nat → St} {a4 : Int32} (X : CX (p, l, e, R, s, mi, args, below, meth, c0, κ, Q) RL cL_law 9 14 538) (XL : XLaw (p, l, e, R, s, mi, args, below, meth, c0, κ, Q) b0 L xs) (hd0 : s.drawn.sameBut d0 lw_cs) (ha : a < 601024) (hb : b + 6 ≤ 7293034) (hk : ∀ (d9 : Drawn) (T1 : TT), s.drawn.sameBut d9 lw_cs → ∀ (a1 b1 : Nat), a1 ≤ a + 1 → b1 ≤ b + 6 → k T1 = some 1 → G (p, l, e, R, s.setDrawn d9, mi, args, below, meth, c0, κ, Q) a1 b1 T1 2666 [(0, .ref b0), (1, .ref (xE κ 8 0 0)), (2, .ref (xE κ 9 0 0)), (3, .ref (xE κ 10 0 0)), (4, .int a4)] []) (h : sL_c13 k (x0, x1, x2, ps, ta, tb, d, S, pg, c, m, ot) = some 1) : G (p, l, e, R, s.setDrawn d0, mi, args, below, meth, c0, κ, Q) a b (x0, x1, x2, ps, ta, tb, d, S, pg, c, m, ot) 973 [(0, .ref b0), (1, .ref (xE κ 8 0 0)), (2, .ref (xE κ 9 0 0)), (3, .ref (xE κ 10 0 0)), (4, .int a4)] [] := by
  unfold sL_c13 at h
  dsimp only at h
  obtain ⟨u, hu, h⟩ := bd_some h
  obtain ⟨v, hv, h⟩ := bd_some h
  by_cases huv : u = v.2
  · have h := it_t huv h
    refine G_aload_n (X.dr d0) 1 dL_law_973 rfl rfl ?_
    refine G_callFD (T' := (x0, x1, x2, ps, ta, tb, d, S, pg, c, m, ot)) (X.dr d0) hd0 (ct_X6_drain hu) cal_X6_drain wM_L_183 wI_X6_drain wS_X6_drain rfl rfl (by decide) (Nat.le_of_ble_eq_true rfl) (XL.2.2.2 (by omega) (by omega)) dL_law_974 (fun w1 d1 hw1 hd1 => ?_)
    refine G_f2dA (X.dr d1) hd1 dL_law_977 (fun p1 d2 hp1 hd2 => ?_)
    refine G_dstore (X.dr d2) (lv' := [(5, .double p1), (0, .ref b0), (1, .ref (xE κ 8 0 0)), (2, .ref (xE κ 9 0 0)), (3, .ref (xE κ 10 0 0)), (4, .int a4)]) dL_law_978 (by decide) rfl ?_
    refine G_aload_n (X.dr d2) 3 dL_law_980 rfl rfl ?_
    refine G_callFD (T' := (x0, x1, x2, ps, ta, tb, d, S, pg, c, v.1, ot)) (X.dr d2) hd2 (ct_X7_drain (T := (x0, x1, x2, ps, ta, tb, d, S, pg, c, m, ot)) (m := m) hv) cal_X7_drain wM_L_187 wI_X7_drain wS_X7_drain rfl rfl (by decide) (Nat.le_of_ble_eq_true rfl) (XL.2.2.2 (by omega) (by omega)) dL_law_981 (fun w2 d3 hw2 hd3 => ?_)
    refine G_f2dA (X.dr d3) hd3 dL_law_984 (fun p2 d4 hp2 hd4 => ?_)
    refine G_dstore (X.dr d4) (lv' := [(7, .double p2), (5, .double p1), (0, .ref b0), (1, .ref (xE κ 8 0 0)), (2, .ref (xE κ 9 0 0)), (3, .ref (xE κ 10 0 0)), (4, .int a4)]) dL_law_985 (by decide) rfl ?_
    have he : eqN p1 p2 := eqN_F hw1 (by rw [huv]; exact hw2) hp1 hp2
    have hend : G (p, l, e, R, s.setDrawn d4, mi, args, below, meth, c0, κ, Q) a b (x0, x1, x2, ps, ta, tb, d, S, pg, c, v.1, ot) 1013 [(7, .double p2), (5, .double p1), (0, .ref b0), (1, .ref (xE κ 8 0 0)), (2, .ref (xE κ 9 0 0)), (3, .ref (xE κ 10 0 0)), (4, .int a4)] [] := by
      refine G_goto (X.dr d4) (tgt := 2666) dL_law_1013 (by decide) ?_
      refine G_sub [2, 3, 4, 5, 6] rfl ?_
      exact hk d4 _ hd4 a b (by omega) (by omega) h
    refine G_dload (X.dr d4) 1 dL_law_987 rfl ?_
    refine G_dload (X.dr d4) 0 dL_law_989 rfl ?_
    refine G_dcmp (X.dr d4) dL_law_991 ?_
    refine G_if_eq (X.dr d4) (tgt := 1013) dL_law_992 (by decide) (fun _ => hend) (fun hz => ?_)
    have hz2 : ¬ Op.cmpValue (FP.dcmp p1 p1) CmpOp.l = 0 ∧ ¬ Op.cmpValue (FP.dcmp p2 p2) CmpOp.l = 0 := by
      rcases he with e | ⟨e1, e2⟩
      · subst e; exact ⟨hz, hz⟩
      · exact ⟨nan_cmp e1, nan_cmp e2⟩
    refine G_dload (X.dr d4) 1 dL_law_995 rfl ?_
    refine G_dload (X.dr d4) 1 dL_law_997 rfl ?_
    refine G_dcmp (X.dr d4) dL_law_999 ?_
    refine G_if_eq (X.dr d4) (tgt := 1011) dL_law_1000 (by decide) (fun e => absurd e hz2.1) (fun _ => ?_)
    refine G_dload (X.dr d4) 0 dL_law_1003 rfl ?_
    refine G_dload (X.dr d4) 0 dL_law_1005 rfl ?_
    refine G_dcmp (X.dr d4) dL_law_1007 ?_
    exact G_if_ne (X.dr d4) (tgt := 1013) dL_law_1008 (by decide) (fun _ => hend) (fun e => absurd e hz2.2)
  · have h := it_f huv h
    cases h
def sL_c14 (k : TT → Option Int32) (TT0 : TT) : Option Int32 := match TT0 with
  | (x0, x1, x2, ps, ta, tb, d, S, pg, c, m, ot) => bd (sX6_knowledge x0) fun u => bd (sX7_knowledge m) fun v => if u = v.2 then k (x0, x1, x2, ps, ta, tb, d, S, pg, c, v.1, ot) else none
set_option maxRecDepth 20000 in
theorem gL_c14 {k : TT → Option Int32} {x0 x1 x2 ta tb d S pg c m ot : St} {ps : Nat → St} {a4 : Int32} (X : CX (p, l, e, R, s, mi, args, below, meth, c0, κ, Q) RL cL_law 9 14 538) (XL : XLaw (p, l, e, R, s, mi, args, below, meth, c0, κ, Q) b0 L xs) (hd0 : s.drawn.sameBut d0 lw_cs) (ha : a < 601024) (hb : b + 6 ≤ 7293034) (hk : ∀ (d9 : Drawn) (T1 : TT), s.drawn.sameBut d9 lw_cs → ∀ (a1 b1 : Nat), a1 ≤ a + 1 → b1 ≤ b + 6 → k T1 = some 1 → G (p, l, e, R, s.setDrawn d9, mi, args, below, meth, c0, κ, Q) a1 b1 T1 2666 [(0, .ref b0), (1, .ref (xE κ 8 0 0)), (2, .ref (xE κ 9 0 0)), (3, .ref (xE κ 10 0 0)), (4, .int a4)] []) (h : sL_c14 k (x0, x1, x2, ps, ta, tb, d, S, pg, c, m, ot) = some 1) : G (p, l, e, R, s.setDrawn d0, mi, args, below, meth, c0, κ, Q) a b (x0, x1, x2, ps, ta, tb, d, S, pg, c, m, ot) 1016 [(0, .ref b0), (1, .ref (xE κ 8 0 0)), (2, .ref (xE κ 9 0 0)), (3, .ref (xE κ 10 0 0)), (4, .int a4)] [] := by
  unfold sL_c14 at h
  dsimp only at h
  obtain ⟨u, hu, h⟩ := bd_some h
  obtain ⟨v, hv, h⟩ := bd_some h
  by_cases huv : u = v.2
  · have h := it_t huv h
    refine G_aload_n (X.dr d0) 1 dL_law_1016 rfl rfl ?_
    refine G_callDD (T' := (x0, x1, x2, ps, ta, tb, d, S, pg, c, m, ot)) (X.dr d0) hd0 (ct_X6_knowledge hu) cal_X6_knowledge wM_L_188 wI_X6_knowledge wS_X6_knowledge rfl rfl (by decide) (Nat.le_of_ble_eq_true rfl) (XL.2.2.2 (by omega) (by omega)) dL_law_1017 (fun w1 d1 hw1 hd1 => ?_)
    refine G_dstore (X.dr d1) (lv' := [(5, .double w1), (0, .ref b0), (1, .ref (xE κ 8 0 0)), (2, .ref (xE κ 9 0 0)), (3, .ref (xE κ 10 0 0)), (4, .int a4)]) dL_law_1020 (by decide) rfl ?_
    refine G_aload_n (X.dr d1) 3 dL_law_1022 rfl rfl ?_
    refine G_callDD (T' := (x0, x1, x2, ps, ta, tb, d, S, pg, c, v.1, ot)) (X.dr d1) hd1 (ct_X7_knowledge (T := (x0, x1, x2, ps, ta, tb, d, S, pg, c, m, ot)) (m := m) hv) cal_X7_knowledge wM_L_192 wI_X7_knowledge wS_X7_knowledge rfl rfl (by decide) (Nat.le_of_ble_eq_true rfl) (XL.2.2.2 (by omega) (by omega)) dL_law_1023 (fun w2 d3 hw2 hd3 => ?_)
    refine G_dstore (X.dr d3) (lv' := [(7, .double w2), (5, .double w1), (0, .ref b0), (1, .ref (xE κ 8 0 0)), (2, .ref (xE κ 9 0 0)), (3, .ref (xE κ 10 0 0)), (4, .int a4)]) dL_law_1026 (by decide) rfl ?_
    have he : eqN w1 w2 := eqN_D hw1 (by rw [huv]; exact hw2)
    have hend : G (p, l, e, R, s.setDrawn d3, mi, args, below, meth, c0, κ, Q) a b (x0, x1, x2, ps, ta, tb, d, S, pg, c, v.1, ot) 1054 [(7, .double w2), (5, .double w1), (0, .ref b0), (1, .ref (xE κ 8 0 0)), (2, .ref (xE κ 9 0 0)), (3, .ref (xE κ 10 0 0)), (4, .int a4)] [] := by
      refine G_goto (X.dr d3) (tgt := 2666) dL_law_1054 (by decide) ?_
      refine G_sub [2, 3, 4, 5, 6] rfl ?_
      exact hk d3 _ hd3 a b (by omega) (by omega) h
    refine G_dload (X.dr d3) 1 dL_law_1028 rfl ?_
    refine G_dload (X.dr d3) 0 dL_law_1030 rfl ?_
    refine G_dcmp (X.dr d3) dL_law_1032 ?_
    refine G_if_eq (X.dr d3) (tgt := 1054) dL_law_1033 (by decide) (fun _ => hend) (fun hz => ?_)
    have hz2 : ¬ Op.cmpValue (FP.dcmp w1 w1) CmpOp.l = 0 ∧ ¬ Op.cmpValue (FP.dcmp w2 w2) CmpOp.l = 0 := by
      rcases he with e | ⟨e1, e2⟩
      · subst e; exact ⟨hz, hz⟩
      · exact ⟨nan_cmp e1, nan_cmp e2⟩
    refine G_dload (X.dr d3) 1 dL_law_1036 rfl ?_
    refine G_dload (X.dr d3) 1 dL_law_1038 rfl ?_
    refine G_dcmp (X.dr d3) dL_law_1040 ?_
    refine G_if_eq (X.dr d3) (tgt := 1052) dL_law_1041 (by decide) (fun e => absurd e hz2.1) (fun _ => ?_)
    refine G_dload (X.dr d3) 0 dL_law_1044 rfl ?_
    refine G_dload (X.dr d3) 0 dL_law_1046 rfl ?_
    refine G_dcmp (X.dr d3) dL_law_1048 ?_
    exact G_if_ne (X.dr d3) (tgt := 1054) dL_law_1049 (by decide) (fun _ => hend) (fun e => absurd e hz2.2)
  · have h := it_f huv h
    cases h
def sL_sw (k : TT → Option Int32) (xs : Nat → Int32) (L : Nat) (T : TT) (i v : Int32) : Option Int32 :=
  if v = (0 : Int32) then sL_c0 k xs L T i else if v = (1 : Int32) then sL_c1 k xs L T i else if v = (2 : Int32) then sL_c2 k xs L T i else if v = (3 : Int32) then sL_c3 k xs L T i else if v = (4 : Int32) then sL_c4 k xs L T i else if v = (5 : Int32) then sL_c5 k xs L T i else if v = (6 : Int32) then sL_c6 k xs L T i else if v = (7 : Int32) then sL_c7 k xs L T i else if v = (8 : Int32) then sL_c8 k xs L T i else if v = (9 : Int32) then sL_c9 k xs L T i else if v = (10 : Int32) then sL_c10 k xs L T i else if v = (11 : Int32) then sL_c11 k xs L T i else if v = (12 : Int32) then sL_c12 k xs L T i else if v = (13 : Int32) then sL_c13 k T else if v = (14 : Int32) then sL_c14 k T else if v = (15 : Int32) then sL_c15 k xs L T i else if v = (16 : Int32) then sL_c16 k xs L T i else if v = (17 : Int32) then sL_c17 k xs L T i else if v = (18 : Int32) then sL_c18 k xs L T i else if v = (19 : Int32) then sL_c19 k xs L T i else if v = (20 : Int32) then sL_c20 k xs L T i else if v = (21 : Int32) then sL_c21 k xs L T i else if v = (22 : Int32) then sL_c22 k xs L T i else if v = (23 : Int32) then sL_c23 k xs L T i else if v = (24 : Int32) then sL_c24 k xs L T i else if v = (25 : Int32) then sL_c25 k xs L T i else if v = (26 : Int32) then sL_c26 k xs L T i else if v = (27 : Int32) then sL_c27 k xs L T i else if v = (28 : Int32) then sL_c28 k xs L T i else if v = (29 : Int32) then sL_c29 k xs L T i else if v = (30 : Int32) then sL_c30 k xs L T i else if v = (31 : Int32) then sL_c31 k xs L T i else if v = (32 : Int32) then sL_c32 k xs L T i else if v = (33 : Int32) then sL_c33 k xs L T i else if v = (34 : Int32) then sL_c34 k xs L T i else if v = (35 : Int32) then sL_c35 k xs L T i else if v = (36 : Int32) then sL_c36 k xs L T i else if v = (37 : Int32) then sL_c37 k xs L T i else if v = (38 : Int32) then sL_c38 k xs L T i else if v = (39 : Int32) then sL_c39 k xs L T i else if v = (40 : Int32) then sL_c40 k xs L T i else if v = (41 : Int32) then sL_c41 k xs L T i else if v = (42 : Int32) then sL_c42 k xs L T i else if v = (43 : Int32) then sL_c43 k xs L T i else if v = (44 : Int32) then sL_c44 k xs L T i else if v = (45 : Int32) then sL_c45 k xs L T i else k T
def sL_loop (xs : Nat → Int32) (L : Nat) : Nat → TT → Int32 → Option Int32
  | 0, _, _ => none
  | n + 1, T, i => if nI L - (6 : Int32) < i then some 1 else gd (inb i L) (sL_sw (fun T1 => sL_loop xs L n T1 (i + (6 : Int32))) xs L T i (xs (ix i) &&& (63 : Int32)))
set_option maxRecDepth 20000 in
set_option maxHeartbeats 4000000 in
theorem gL_sw {k : TT → Option Int32} {x0 x1 x2 ta tb d S pg c m ot : St} {ps : Nat → St} {a4 v : Int32} (X : CX (p, l, e, R, s, mi, args, below, meth, c0, κ, Q) RL cL_law 9 14 538) (XL : XLaw (p, l, e, R, s, mi, args, below, meth, c0, κ, Q) b0 L xs) (hd0 : s.drawn.sameBut d0 lw_cs) (ha : a < 601024) (hb : b + 6 ≤ 7293034) (hk : ∀ (d9 : Drawn) (T1 : TT), s.drawn.sameBut d9 lw_cs → ∀ (a1 b1 : Nat), a1 ≤ a + 1 → b1 ≤ b + 6 → k T1 = some 1 → G (p, l, e, R, s.setDrawn d9, mi, args, below, meth, c0, κ, Q) a1 b1 T1 2666 [(0, .ref b0), (1, .ref (xE κ 8 0 0)), (2, .ref (xE κ 9 0 0)), (3, .ref (xE κ 10 0 0)), (4, .int a4)] []) (h : sL_sw k xs L (x0, x1, x2, ps, ta, tb, d, S, pg, c, m, ot) a4 v = some 1) : G (p, l, e, R, s.setDrawn d0, mi, args, below, meth, c0, κ, Q) a b (x0, x1, x2, ps, ta, tb, d, S, pg, c, m, ot) 40 [(0, .ref b0), (1, .ref (xE κ 8 0 0)), (2, .ref (xE κ 9 0 0)), (3, .ref (xE κ 10 0 0)), (4, .int a4)] [.int v] := by
  unfold sL_sw at h
  by_cases c0 : v = (0 : Int32)
  · have h := it_t c0 h
    rw [c0]
    refine G_tabIn (X.dr d0) (off := 200) (tgt := 240) dL_law_40 (by decide) (by decide) (by decide) (by decide) ?_
    exact gL_c0 (X.dr d0) (XL.dr d0) ha hb (fun T1 a1 b1 h1 h2 h3 => hk d0 T1 hd0 a1 b1 h1 h2 h3) h
  have h := it_f c0 h
  by_cases c1 : v = (1 : Int32)
  · have h := it_t c1 h
    rw [c1]
    refine G_tabIn (X.dr d0) (off := 304) (tgt := 344) dL_law_40 (by decide) (by decide) (by decide) (by decide) ?_
    exact gL_c1 (X.dr d0) (XL.dr d0) ha hb (fun T1 a1 b1 h1 h2 h3 => hk d0 T1 hd0 a1 b1 h1 h2 h3) h
  have h := it_f c1 h
  by_cases c2 : v = (2 : Int32)
  · have h := it_t c2 h
    rw [c2]
    refine G_tabIn (X.dr d0) (off := 360) (tgt := 400) dL_law_40 (by decide) (by decide) (by decide) (by decide) ?_
    exact gL_c2 (X.dr d0) (XL.dr d0) ha hb (fun T1 a1 b1 h1 h2 h3 => hk d0 T1 hd0 a1 b1 h1 h2 h3) h
  have h := it_f c2 h
  by_cases c3 : v = (3 : Int32)
  · have h := it_t c3 h
    rw [c3]
    refine G_tabIn (X.dr d0) (off := 404) (tgt := 444) dL_law_40 (by decide) (by decide) (by decide) (by decide) ?_
    exact gL_c3 (X.dr d0) (XL.dr d0) ha hb (fun T1 a1 b1 h1 h2 h3 => hk d0 T1 hd0 a1 b1 h1 h2 h3) h
  have h := it_f c3 h
  by_cases c4 : v = (4 : Int32)
  · have h := it_t c4 h
    rw [c4]
    refine G_tabIn (X.dr d0) (off := 448) (tgt := 488) dL_law_40 (by decide) (by decide) (by decide) (by decide) ?_
    exact gL_c4 (X.dr d0) (XL.dr d0) ha hb (fun T1 a1 b1 h1 h2 h3 => hk d0 T1 hd0 a1 b1 h1 h2 h3) h
  have h := it_f c4 h
  by_cases c5 : v = (5 : Int32)
  · have h := it_t c5 h
    rw [c5]
    refine G_tabIn (X.dr d0) (off := 461) (tgt := 501) dL_law_40 (by decide) (by decide) (by decide) (by decide) ?_
    exact gL_c5 (X.dr d0) (XL.dr d0) ha hb (fun T1 a1 b1 h1 h2 h3 => hk d0 T1 hd0 a1 b1 h1 h2 h3) h
  have h := it_f c5 h
  by_cases c6 : v = (6 : Int32)
  · have h := it_t c6 h
    rw [c6]
    refine G_tabIn (X.dr d0) (off := 474) (tgt := 514) dL_law_40 (by decide) (by decide) (by decide) (by decide) ?_
    exact gL_c6 (X.dr d0) (XL.dr d0) ha hb (fun T1 a1 b1 h1 h2 h3 => hk d0 T1 hd0 a1 b1 h1 h2 h3) h
  have h := it_f c6 h
  by_cases c7 : v = (7 : Int32)
  · have h := it_t c7 h
    rw [c7]
    refine G_tabIn (X.dr d0) (off := 530) (tgt := 570) dL_law_40 (by decide) (by decide) (by decide) (by decide) ?_
    exact gL_c7 (X.dr d0) (XL.dr d0) ha hb (fun T1 a1 b1 h1 h2 h3 => hk d0 T1 hd0 a1 b1 h1 h2 h3) h
  have h := it_f c7 h
  by_cases c8 : v = (8 : Int32)
  · have h := it_t c8 h
    rw [c8]
    refine G_tabIn (X.dr d0) (off := 598) (tgt := 638) dL_law_40 (by decide) (by decide) (by decide) (by decide) ?_
    exact gL_c8 (X.dr d0) (XL.dr d0) ha hb (fun T1 a1 b1 h1 h2 h3 => hk d0 T1 hd0 a1 b1 h1 h2 h3) h
  have h := it_f c8 h
  by_cases c9 : v = (9 : Int32)
  · have h := it_t c9 h
    rw [c9]
    refine G_tabIn (X.dr d0) (off := 666) (tgt := 706) dL_law_40 (by decide) (by decide) (by decide) (by decide) ?_
    exact gL_c9 (X.dr d0) (XL.dr d0) ha hb (fun T1 a1 b1 h1 h2 h3 => hk d0 T1 hd0 a1 b1 h1 h2 h3) h
  have h := it_f c9 h
  by_cases c10 : v = (10 : Int32)
  · have h := it_t c10 h
    rw [c10]
    refine G_tabIn (X.dr d0) (off := 722) (tgt := 762) dL_law_40 (by decide) (by decide) (by decide) (by decide) ?_
    exact gL_c10 (X.dr d0) (XL.dr d0) ha hb (fun T1 a1 b1 h1 h2 h3 => hk d0 T1 hd0 a1 b1 h1 h2 h3) h
  have h := it_f c10 h
  by_cases c11 : v = (11 : Int32)
  · have h := it_t c11 h
    rw [c11]
    refine G_tabIn (X.dr d0) (off := 790) (tgt := 830) dL_law_40 (by decide) (by decide) (by decide) (by decide) ?_
    exact gL_c11 (X.dr d0) (XL.dr d0) ha hb (fun T1 a1 b1 h1 h2 h3 => hk d0 T1 hd0 a1 b1 h1 h2 h3) h
  have h := it_f c11 h
  by_cases c12 : v = (12 : Int32)
  · have h := it_t c12 h
    rw [c12]
    refine G_tabIn (X.dr d0) (off := 858) (tgt := 898) dL_law_40 (by decide) (by decide) (by decide) (by decide) ?_
    exact gL_c12 (X.dr d0) (XL.dr d0) ha hb (fun T1 a1 b1 h1 h2 h3 => hk d0 T1 hd0 a1 b1 h1 h2 h3) h
  have h := it_f c12 h
  by_cases c13 : v = (13 : Int32)
  · have h := it_t c13 h
    rw [c13]
    refine G_tabIn (X.dr d0) (off := 933) (tgt := 973) dL_law_40 (by decide) (by decide) (by decide) (by decide) ?_
    exact gL_c13 X XL hd0 ha hb hk h
  have h := it_f c13 h
  by_cases c14 : v = (14 : Int32)
  · have h := it_t c14 h
    rw [c14]
    refine G_tabIn (X.dr d0) (off := 976) (tgt := 1016) dL_law_40 (by decide) (by decide) (by decide) (by decide) ?_
    exact gL_c14 X XL hd0 ha hb hk h
  have h := it_f c14 h
  by_cases c15 : v = (15 : Int32)
  · have h := it_t c15 h
    rw [c15]
    refine G_tabIn (X.dr d0) (off := 1017) (tgt := 1057) dL_law_40 (by decide) (by decide) (by decide) (by decide) ?_
    exact gL_c15 (X.dr d0) (XL.dr d0) ha hb (fun T1 a1 b1 h1 h2 h3 => hk d0 T1 hd0 a1 b1 h1 h2 h3) h
  have h := it_f c15 h
  by_cases c16 : v = (16 : Int32)
  · have h := it_t c16 h
    rw [c16]
    refine G_tabIn (X.dr d0) (off := 1073) (tgt := 1113) dL_law_40 (by decide) (by decide) (by decide) (by decide) ?_
    exact gL_c16 (X.dr d0) (XL.dr d0) ha hb (fun T1 a1 b1 h1 h2 h3 => hk d0 T1 hd0 a1 b1 h1 h2 h3) h
  have h := it_f c16 h
  by_cases c17 : v = (17 : Int32)
  · have h := it_t c17 h
    rw [c17]
    refine G_tabIn (X.dr d0) (off := 1141) (tgt := 1181) dL_law_40 (by decide) (by decide) (by decide) (by decide) ?_
    exact gL_c17 (X.dr d0) (XL.dr d0) ha hb (fun T1 a1 b1 h1 h2 h3 => hk d0 T1 hd0 a1 b1 h1 h2 h3) h
  have h := it_f c17 h
  by_cases c18 : v = (18 : Int32)
  · have h := it_t c18 h
    rw [c18]
    refine G_tabIn (X.dr d0) (off := 1197) (tgt := 1237) dL_law_40 (by decide) (by decide) (by decide) (by decide) ?_
    exact gL_c18 (X.dr d0) (XL.dr d0) ha hb (fun T1 a1 b1 h1 h2 h3 => hk d0 T1 hd0 a1 b1 h1 h2 h3) h
  have h := it_f c18 h
  by_cases c19 : v = (19 : Int32)
  · have h := it_t c19 h
    rw [c19]
    refine G_tabIn (X.dr d0) (off := 1253) (tgt := 1293) dL_law_40 (by decide) (by decide) (by decide) (by decide) ?_
    exact gL_c19 (X.dr d0) (XL.dr d0) ha hb (fun T1 a1 b1 h1 h2 h3 => hk d0 T1 hd0 a1 b1 h1 h2 h3) h
  have h := it_f c19 h
  by_cases c20 : v = (20 : Int32)
  · have h := it_t c20 h
    rw [c20]
    refine G_tabIn (X.dr d0) (off := 1321) (tgt := 1361) dL_law_40 (by decide) (by decide) (by decide) (by decide) ?_
    exact gL_c20 (X.dr d0) (XL.dr d0) ha hb (fun T1 a1 b1 h1 h2 h3 => hk d0 T1 hd0 a1 b1 h1 h2 h3) h
  have h := it_f c20 h
  by_cases c21 : v = (21 : Int32)
  · have h := it_t c21 h
    rw [c21]
    refine G_tabIn (X.dr d0) (off := 1334) (tgt := 1374) dL_law_40 (by decide) (by decide) (by decide) (by decide) ?_
    exact gL_c21 (X.dr d0) (XL.dr d0) ha hb (fun T1 a1 b1 h1 h2 h3 => hk d0 T1 hd0 a1 b1 h1 h2 h3) h
  have h := it_f c21 h
  by_cases c22 : v = (22 : Int32)
  · have h := it_t c22 h
    rw [c22]
    refine G_tabIn (X.dr d0) (off := 1390) (tgt := 1430) dL_law_40 (by decide) (by decide) (by decide) (by decide) ?_
    exact gL_c22 (X.dr d0) (XL.dr d0) ha hb (fun T1 a1 b1 h1 h2 h3 => hk d0 T1 hd0 a1 b1 h1 h2 h3) h
  have h := it_f c22 h
  by_cases c23 : v = (23 : Int32)
  · have h := it_t c23 h
    rw [c23]
    refine G_tabIn (X.dr d0) (off := 1403) (tgt := 1443) dL_law_40 (by decide) (by decide) (by decide) (by decide) ?_
    exact gL_c23 (X.dr d0) (XL.dr d0) ha hb (fun T1 a1 b1 h1 h2 h3 => hk d0 T1 hd0 a1 b1 h1 h2 h3) h
  have h := it_f c23 h
  by_cases c24 : v = (24 : Int32)
  · have h := it_t c24 h
    rw [c24]
    refine G_tabIn (X.dr d0) (off := 1459) (tgt := 1499) dL_law_40 (by decide) (by decide) (by decide) (by decide) ?_
    exact gL_c24 (X.dr d0) (XL.dr d0) ha hb (fun T1 a1 b1 h1 h2 h3 => hk d0 T1 hd0 a1 b1 h1 h2 h3) h
  have h := it_f c24 h
  by_cases c25 : v = (25 : Int32)
  · have h := it_t c25 h
    rw [c25]
    refine G_tabIn (X.dr d0) (off := 1527) (tgt := 1567) dL_law_40 (by decide) (by decide) (by decide) (by decide) ?_
    exact gL_c25 (X.dr d0) (XL.dr d0) ha hb (fun T1 a1 b1 h1 h2 h3 => hk d0 T1 hd0 a1 b1 h1 h2 h3) h
  have h := it_f c25 h
  by_cases c26 : v = (26 : Int32)
  · have h := it_t c26 h
    rw [c26]
    refine G_tabIn (X.dr d0) (off := 1595) (tgt := 1635) dL_law_40 (by decide) (by decide) (by decide) (by decide) ?_
    exact gL_c26 (X.dr d0) (XL.dr d0) ha hb (fun T1 a1 b1 h1 h2 h3 => hk d0 T1 hd0 a1 b1 h1 h2 h3) h
  have h := it_f c26 h
  by_cases c27 : v = (27 : Int32)
  · have h := it_t c27 h
    rw [c27]
    refine G_tabIn (X.dr d0) (off := 1651) (tgt := 1691) dL_law_40 (by decide) (by decide) (by decide) (by decide) ?_
    exact gL_c27 (X.dr d0) (XL.dr d0) ha hb (fun T1 a1 b1 h1 h2 h3 => hk d0 T1 hd0 a1 b1 h1 h2 h3) h
  have h := it_f c27 h
  by_cases c28 : v = (28 : Int32)
  · have h := it_t c28 h
    rw [c28]
    refine G_tabIn (X.dr d0) (off := 1719) (tgt := 1759) dL_law_40 (by decide) (by decide) (by decide) (by decide) ?_
    exact gL_c28 (X.dr d0) (XL.dr d0) ha hb (fun T1 a1 b1 h1 h2 h3 => hk d0 T1 hd0 a1 b1 h1 h2 h3) h
  have h := it_f c28 h
  by_cases c29 : v = (29 : Int32)
  · have h := it_t c29 h
    rw [c29]
    refine G_tabIn (X.dr d0) (off := 1732) (tgt := 1772) dL_law_40 (by decide) (by decide) (by decide) (by decide) ?_
    exact gL_c29 (X.dr d0) (XL.dr d0) ha hb (fun T1 a1 b1 h1 h2 h3 => hk d0 T1 hd0 a1 b1 h1 h2 h3) h
  have h := it_f c29 h
  by_cases c30 : v = (30 : Int32)
  · have h := it_t c30 h
    rw [c30]
    refine G_tabIn (X.dr d0) (off := 1788) (tgt := 1828) dL_law_40 (by decide) (by decide) (by decide) (by decide) ?_
    exact gL_c30 (X.dr d0) (XL.dr d0) ha hb (fun T1 a1 b1 h1 h2 h3 => hk d0 T1 hd0 a1 b1 h1 h2 h3) h
  have h := it_f c30 h
  by_cases c31 : v = (31 : Int32)
  · have h := it_t c31 h
    rw [c31]
    refine G_tabIn (X.dr d0) (off := 1844) (tgt := 1884) dL_law_40 (by decide) (by decide) (by decide) (by decide) ?_
    exact gL_c31 (X.dr d0) (XL.dr d0) ha hb (fun T1 a1 b1 h1 h2 h3 => hk d0 T1 hd0 a1 b1 h1 h2 h3) h
  have h := it_f c31 h
  by_cases c32 : v = (32 : Int32)
  · have h := it_t c32 h
    rw [c32]
    refine G_tabIn (X.dr d0) (off := 1900) (tgt := 1940) dL_law_40 (by decide) (by decide) (by decide) (by decide) ?_
    exact gL_c32 (X.dr d0) (XL.dr d0) ha hb (fun T1 a1 b1 h1 h2 h3 => hk d0 T1 hd0 a1 b1 h1 h2 h3) h
  have h := it_f c32 h
  by_cases c33 : v = (33 : Int32)
  · have h := it_t c33 h
    rw [c33]
    refine G_tabIn (X.dr d0) (off := 1956) (tgt := 1996) dL_law_40 (by decide) (by decide) (by decide) (by decide) ?_
    exact gL_c33 (X.dr d0) (XL.dr d0) ha hb (fun T1 a1 b1 h1 h2 h3 => hk d0 T1 hd0 a1 b1 h1 h2 h3) h
  have h := it_f c33 h
  by_cases c34 : v = (34 : Int32)
  · have h := it_t c34 h
    rw [c34]
    refine G_tabIn (X.dr d0) (off := 2012) (tgt := 2052) dL_law_40 (by decide) (by decide) (by decide) (by decide) ?_
    exact gL_c34 (X.dr d0) (XL.dr d0) ha hb (fun T1 a1 b1 h1 h2 h3 => hk d0 T1 hd0 a1 b1 h1 h2 h3) h
  have h := it_f c34 h
  by_cases c35 : v = (35 : Int32)
  · have h := it_t c35 h
    rw [c35]
    refine G_tabIn (X.dr d0) (off := 2068) (tgt := 2108) dL_law_40 (by decide) (by decide) (by decide) (by decide) ?_
    exact gL_c35 (X.dr d0) (XL.dr d0) ha hb (fun T1 a1 b1 h1 h2 h3 => hk d0 T1 hd0 a1 b1 h1 h2 h3) h
  have h := it_f c35 h
  by_cases c36 : v = (36 : Int32)
  · have h := it_t c36 h
    rw [c36]
    refine G_tabIn (X.dr d0) (off := 2124) (tgt := 2164) dL_law_40 (by decide) (by decide) (by decide) (by decide) ?_
    exact gL_c36 (X.dr d0) (XL.dr d0) ha hb (fun T1 a1 b1 h1 h2 h3 => hk d0 T1 hd0 a1 b1 h1 h2 h3) h
  have h := it_f c36 h
  by_cases c37 : v = (37 : Int32)
  · have h := it_t c37 h
    rw [c37]
    refine G_tabIn (X.dr d0) (off := 2192) (tgt := 2232) dL_law_40 (by decide) (by decide) (by decide) (by decide) ?_
    exact gL_c37 (X.dr d0) (XL.dr d0) ha hb (fun T1 a1 b1 h1 h2 h3 => hk d0 T1 hd0 a1 b1 h1 h2 h3) h
  have h := it_f c37 h
  by_cases c38 : v = (38 : Int32)
  · have h := it_t c38 h
    rw [c38]
    refine G_tabIn (X.dr d0) (off := 2260) (tgt := 2300) dL_law_40 (by decide) (by decide) (by decide) (by decide) ?_
    exact gL_c38 (X.dr d0) (XL.dr d0) ha hb (fun T1 a1 b1 h1 h2 h3 => hk d0 T1 hd0 a1 b1 h1 h2 h3) h
  have h := it_f c38 h
  by_cases c39 : v = (39 : Int32)
  · have h := it_t c39 h
    rw [c39]
    refine G_tabIn (X.dr d0) (off := 2328) (tgt := 2368) dL_law_40 (by decide) (by decide) (by decide) (by decide) ?_
    exact gL_c39 (X.dr d0) (XL.dr d0) ha hb (fun T1 a1 b1 h1 h2 h3 => hk d0 T1 hd0 a1 b1 h1 h2 h3) h
  have h := it_f c39 h
  by_cases c40 : v = (40 : Int32)
  · have h := it_t c40 h
    rw [c40]
    refine G_tabIn (X.dr d0) (off := 2431) (tgt := 2471) dL_law_40 (by decide) (by decide) (by decide) (by decide) ?_
    exact gL_c40 (X.dr d0) (XL.dr d0) ha hb (fun T1 a1 b1 h1 h2 h3 => hk d0 T1 hd0 a1 b1 h1 h2 h3) h
  have h := it_f c40 h
  by_cases c41 : v = (41 : Int32)
  · have h := it_t c41 h
    rw [c41]
    refine G_tabIn (X.dr d0) (off := 2487) (tgt := 2527) dL_law_40 (by decide) (by decide) (by decide) (by decide) ?_
    exact gL_c41 (X.dr d0) (XL.dr d0) ha hb (fun T1 a1 b1 h1 h2 h3 => hk d0 T1 hd0 a1 b1 h1 h2 h3) h
  have h := it_f c41 h
  by_cases c42 : v = (42 : Int32)
  · have h := it_t c42 h
    rw [c42]
    refine G_tabIn (X.dr d0) (off := 2500) (tgt := 2540) dL_law_40 (by decide) (by decide) (by decide) (by decide) ?_
    exact gL_c42 (X.dr d0) (XL.dr d0) ha hb (fun T1 a1 b1 h1 h2 h3 => hk d0 T1 hd0 a1 b1 h1 h2 h3) h
  have h := it_f c42 h
  by_cases c43 : v = (43 : Int32)
  · have h := it_t c43 h
    rw [c43]
    refine G_tabIn (X.dr d0) (off := 2556) (tgt := 2596) dL_law_40 (by decide) (by decide) (by decide) (by decide) ?_
    exact gL_c43 (X.dr d0) (XL.dr d0) ha hb (fun T1 a1 b1 h1 h2 h3 => hk d0 T1 hd0 a1 b1 h1 h2 h3) h
  have h := it_f c43 h
  by_cases c44 : v = (44 : Int32)
  · have h := it_t c44 h
    rw [c44]
    refine G_tabIn (X.dr d0) (off := 2569) (tgt := 2609) dL_law_40 (by decide) (by decide) (by decide) (by decide) ?_
    exact gL_c44 (X.dr d0) (XL.dr d0) ha hb (fun T1 a1 b1 h1 h2 h3 => hk d0 T1 hd0 a1 b1 h1 h2 h3) h
  have h := it_f c44 h
  by_cases c45 : v = (45 : Int32)
  · have h := it_t c45 h
    rw [c45]
    refine G_tabIn (X.dr d0) (off := 2582) (tgt := 2622) dL_law_40 (by decide) (by decide) (by decide) (by decide) ?_
    exact gL_c45 (X.dr d0) (XL.dr d0) ha hb (fun T1 a1 b1 h1 h2 h3 => hk d0 T1 hd0 a1 b1 h1 h2 h3) h
  have h := it_f c45 h
  refine G_tabOut (X.dr d0) (tgt := 2666) dL_law_40 (sw_out 0 45 [(0 : Int32), (1 : Int32), (2 : Int32), (3 : Int32), (4 : Int32), (5 : Int32), (6 : Int32), (7 : Int32), (8 : Int32), (9 : Int32), (10 : Int32), (11 : Int32), (12 : Int32), (13 : Int32), (14 : Int32), (15 : Int32), (16 : Int32), (17 : Int32), (18 : Int32), (19 : Int32), (20 : Int32), (21 : Int32), (22 : Int32), (23 : Int32), (24 : Int32), (25 : Int32), (26 : Int32), (27 : Int32), (28 : Int32), (29 : Int32), (30 : Int32), (31 : Int32), (32 : Int32), (33 : Int32), (34 : Int32), (35 : Int32), (36 : Int32), (37 : Int32), (38 : Int32), (39 : Int32), (40 : Int32), (41 : Int32), (42 : Int32), (43 : Int32), (44 : Int32), (45 : Int32)] (by decide) (by simp [c0, c1, c2, c3, c4, c5, c6, c7, c8, c9, c10, c11, c12, c13, c14, c15, c16, c17, c18, c19, c20, c21, c22, c23, c24, c25, c26, c27, c28, c29, c30, c31, c32, c33, c34, c35, c36, c37, c38, c39, c40, c41, c42, c43, c44, c45])) (by decide) ?_
  exact hk d0 _ hd0 a b (by omega) (by omega) h
set_option maxRecDepth 20000 in
theorem gL_loop (hL : L ≤ 3072) (X : CX (p, l, e, R, s, mi, args, below, meth, c0, κ, Q) RL cL_law 9 14 538) (XL : XLaw (p, l, e, R, s, mi, args, below, meth, c0, κ, Q) b0 L xs) (hf : ∀ (d9 : Drawn) (T1 : TT) (a1 b1 pc : Nat) (lo : List (Nat × Value)), s.drawn.sameBut d9 lw_cs → a1 ≤ 601024 → b1 ≤ 7293034 → decode cL_law pc = .ok (.ireturn, 1) → G (p, l, e, R, s.setDrawn d9, mi, args, below, meth, c0, κ, Q) a1 b1 T1 pc lo [.int 1]) :
    ∀ (n j : Nat) (T : TT) (a b : Nat) (d0 : Drawn), s.drawn.sameBut d0 lw_cs → j ≤ 3078 → a ≤ 5000 + j → b ≤ 200000 + 6 * j → sL_loop xs L n T (nI j) = some 1 → G (p, l, e, R, s.setDrawn d0, mi, args, below, meth, c0, κ, Q) a b T 23 [(0, .ref b0), (1, .ref (xE κ 8 0 0)), (2, .ref (xE κ 9 0 0)), (3, .ref (xE κ 10 0 0)), (4, .int (nI j))] [] := by
  intro n
  induction n with
  | zero => intro j T a b d0 hd0 hj ha hb h; cases h
  | succ n ih =>
    intro j T a b d0 hd0 hj ha hb h
    unfold sL_loop at h
    refine G_iload (X.dr d0) 4 dL_law_23 rfl ?_
    refine G_aload_n (X.dr d0) 0 dL_law_25 rfl rfl ?_
    refine G_sln (X.dr d0) (XL.dr d0) dL_law_26 ?_
    refine G_bipush (X.dr d0) (v := 6) dL_law_27 (by decide) ?_
    refine G_isub (X.dr d0) dL_law_29 ?_
    refine G_icmp_gt (X.dr d0) (tgt := 2672) dL_law_30 (by decide) (fun c => ?_) (fun c => ?_)
    · refine G_iconst (X.dr d0) (v := 1) dL_law_2672 (by decide) ?_
      exact hf d0 T a b _ _ hd0 (by omega) (by omega) dL_law_2673
    · have h := it_f c h
      obtain ⟨hi, h⟩ := gd_some h
      have hj2 := inb_lt hi
      rw [show ix (nI j) = j from nI_clamp (by omega)] at hj2
      refine G_aload_n (X.dr d0) 0 dL_law_33 rfl rfl ?_
      refine G_iload (X.dr d0) 4 dL_law_34 rfl ?_
      refine G_sld (X.dr d0) (XL.dr d0) hi dL_law_36 ?_
      refine G_bipush (X.dr d0) (v := 63) dL_law_37 (by decide) ?_
      refine G_iand (X.dr d0) dL_law_39 ?_
      obtain ⟨x0, x1, x2, ps, ta, tb, d, S, pg, c, m, ot⟩ := T
      refine gL_sw X XL hd0 (by omega) (by omega) (fun d9 T1 hd9 a1 b1 h1 h2 h3 => ?_) h
      refine G_iinc (X.dr d9) (v := nI (j + 6)) (lv' := [(4, .int (nI (j + 6))), (0, .ref b0), (1, .ref (xE κ 8 0 0)), (2, .ref (xE κ 9 0 0)), (3, .ref (xE κ 10 0 0))]) 4 dL_law_2666 rfl (by rw [← nI_add]; rfl) (by decide) rfl ?_
      refine G_goto (X.dr d9) (tgt := 23) dL_law_2669 (by decide) ?_
      refine G_sub [1, 2, 3, 4, 0] rfl ?_
      exact ih (j + 6) T1 a1 b1 d9 hd9 (by omega) (by omega) (by omega) (by rw [← nI_add]; exact h3)
end
