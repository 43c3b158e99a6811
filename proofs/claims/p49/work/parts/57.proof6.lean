set_option maxRecDepth 20000 in
theorem gX6_append_b3 {g : GX}  {x0 : St} {x1 : St} {x2 : St} {ps : Nat → St} {ta : St} {tb : St} {d : St} {S : St} {pg : St} {m : St} {ot : St} {res : St}  (X : CX g RX6 cX6_append 3 0 0)  (hf : FinV g cX6_append ((x0, x1, x2, ps, ta, tb, d, S, pg, res, m, ot)))  : ∀ (n : Nat) (c : St) (a1 : Int32) (a2 : Int32) (h : sX6_append_b3 n  c a1 a2 = some res), G g 0 0 ((x0, x1, x2, ps, ta, tb, d, S, pg, c, m, ot)) 3 [(0, .ref (xE (gκ g) 8 0 0)), (1, .int a1), (2, .int a2)] [] := by
  intro n
  induction n with
  | zero => intro c a1 a2 h; unfold sX6_append_b3 at h; cases h
  | succ n ih =>
    intro c a1 a2 h
    unfold sX6_append_b3 at h
    refine G_iload_n X 2 dX6_append_3 rfl rfl ?_
    refine G_if_lt X (tgt := 46) dX6_append_4 (by decide) (fun c1 => ?_) (fun c1 => ?_)
    · have h := it_t c1 h
      obtain rfl := Option.some.inj h
      exact hf _ _ dX6_append_46
    · have h := it_f c1 h
      refine G_aload_n X 0 dX6_append_7 rfl rfl ?_
      refine f_X6_55 X rfl rfl dX6_append_8 ?_
      refine G_sipush X (v := (700 : Int32)) dX6_append_11 (by decide) ?_
      refine G_icmp_ge X (tgt := 46) dX6_append_14 (by decide) (fun c2 => ?_) (fun c2 => ?_)
      · have h := it_t c2 h
        obtain rfl := Option.some.inj h
        exact hf _ _ dX6_append_46
      · have h := it_f c2 h
        refine G_aload_n X 0 dX6_append_17 rfl rfl ?_
        refine f_X6_9 X rfl rfl dX6_append_18 ?_
        refine G_aload_n X 0 dX6_append_21 rfl rfl ?_
        refine f_X6_55 X rfl rfl dX6_append_22 ?_
        refine G_iload_n X 1 dX6_append_25 rfl rfl ?_
        refine G_iload_n X 2 dX6_append_26 rfl rfl ?_
        refine G_iushr X dX6_append_27 ?_
        refine G_i2b X dX6_append_28 ?_
        obtain ⟨v3, ev3, h⟩ := nm_some h
        refine G_nmi ev3 ?_
        obtain ⟨g4, h⟩ := gd_some h
        obtain ⟨z5, ez5, h⟩ := nm_some h
        refine G_bast X (T' := (x0, x1, x2, ps, ta, tb, d, S, pg, z5, m, ot)) rfl rfl g4 (by rw [ez5]; rfl) dX6_append_29 ?_
        refine G_aload_n X 0 dX6_append_30 rfl rfl ?_
        refine G_dup X dX6_append_31 rfl ?_
        refine f_X6_55 X rfl rfl dX6_append_32 ?_
        refine G_iconst X (v := (1 : Int32)) dX6_append_35 (by decide) ?_
        refine G_iadd X dX6_append_36 ?_
        obtain ⟨z6, ez6, h⟩ := nm_some h
        refine p_X6_55 X (T' := (x0, x1, x2, ps, ta, tb, d, S, pg, z6, m, ot)) rfl rfl  (by rw [ez6]; rfl) dX6_append_37 ?_
        obtain ⟨v7, ev7, h⟩ := nm_some h
        refine G_iinc X (v := v7) (lv' := [(2, .int v7), (0, .ref (xE (gκ g) 8 0 0)), (1, .int a1)]) 2 dX6_append_40 rfl (by rw [ev7]; rfl) (by decide) rfl ?_
        refine G_goto X (tgt := 3) dX6_append_43 (by decide) ?_
        refine G_sub [1, 2, 0] rfl ?_
        exact ih _ _ _ h
set_option maxRecDepth 20000 in
theorem gX6_append {g : GX}  {x0 : St} {x1 : St} {x2 : St} {ps : Nat → St} {ta : St} {tb : St} {d : St} {S : St} {pg : St} {c : St} {m : St} {ot : St} {a1 : Int32} {res : St} (X : CX g RX6 cX6_append 3 0 0)  (hf : FinV g cX6_append ((x0, x1, x2, ps, ta, tb, d, S, pg, res, m, ot))) (h : sX6_append c a1 = some res) : G g 0 0 ((x0, x1, x2, ps, ta, tb, d, S, pg, c, m, ot)) 0 [(0, .ref (xE (gκ g) 8 0 0)), (1, .int a1)] [] := by
  unfold sX6_append at h
  refine G_bipush X (v := (24 : Int32)) dX6_append_0 (by decide) ?_
  refine G_istore_n X (lv' := [(2, .int ((24 : Int32))), (0, .ref (xE (gκ g) 8 0 0)), (1, .int a1)]) dX6_append_2 rfl (by decide) rfl ?_
  refine G_sub [1, 2, 0] rfl ?_
  exact gX6_append_b3 X hf FU _ _ _ h
set_option maxRecDepth 20000 in
theorem ct_X6_append {l : Launch} {κ : KX}  {x0 : St} {x1 : St} {x2 : St} {ps : Nat → St} {ta : St} {tb : St} {d : St} {S : St} {pg : St} {c : St} {m : St} {ot : St} {a1 : Int32} {res : St}  (h : sX6_append c a1 = some res) : Ct l κ yX6_append cX6_append 3 none 0 0 [.ref (xE κ 8 0 0), .int a1] ((x0, x1, x2, ps, ta, tb, d, S, pg, c, m, ot)) ((x0, x1, x2, ps, ta, tb, d, S, pg, res, m, ot)) none := by
  refine Ct_v RX6 rfl (by decide +kernel) (Nat.le_of_ble_eq_true rfl) (fun g hl hκ X hf => ?_)
  subst hl; subst hκ
  exact gX6_append X  hf h
set_option maxRecDepth 20000 in
theorem gX6_feed {g : GX}  {x0 : St} {x1 : St} {x2 : St} {ps : Nat → St} {ta : St} {tb : St} {d : St} {S : St} {pg : St} {c : St} {m : St} {ot : St} {a1 : Int32} {a2 : Int32} {a3 : Int32} {a4 : Int32} {a5 : Int32} {res : St × (Int32 ⊕ Nat)} (X : CX g RX6 cX6_feed 6 6 89)  (hf : FinX g cX6_feed .int ((x0, x1, x2, ps, ta, tb, d, S, pg, res.1, m, ot)) (res.2)) (h : sX6_feed c a1 a2 a3 a4 a5 = some res) : G g 0 0 ((x0, x1, x2, ps, ta, tb, d, S, pg, c, m, ot)) 0 [(0, .ref (xE (gκ g) 8 0 0)), (1, .int a1), (2, .int a2), (3, .int a3), (4, .int a4), (5, .int a5)] [] := by
  unfold sX6_feed at h
  refine G_aload_n X 0 dX6_feed_0 rfl rfl ?_
  refine f_X6_55 X rfl rfl dX6_feed_1 ?_
  refine G_bipush X (v := (20 : Int32)) dX6_feed_4 (by decide) ?_
  refine G_iadd X dX6_feed_6 ?_
  refine G_sipush X (v := (700 : Int32)) dX6_feed_7 (by decide) ?_
  refine G_icmp_le X (tgt := 21) dX6_feed_10 (by decide) (fun c1 => ?_) (fun c1 => ?_)
  · have h := it_t c1 h
    refine G_aload_n X 0 dX6_feed_21 rfl rfl ?_
    refine G_iload_n X 1 dX6_feed_22 rfl rfl ?_
    obtain ⟨q2, hq2, h⟩ := bd_some h
    refine G_callV X (As := [.int a1]) (rest := []) (T' := (x0, x1, x2, ps, ta, tb, d, S, pg, q2, m, ot)) (st2 := []) (ct_X6_append (l := g.2.1) (κ := gκ g)   hq2) cal_X6_append wM_X6_61 wI_X6_append wS_X6_append rfl rfl (by decide) rfl rfl (Nat.le_of_ble_eq_true rfl) ⟨Nat.zero_le _, Nat.zero_le _⟩ dX6_feed_23 rfl ?_
    refine G_aload_n X 0 dX6_feed_26 rfl rfl ?_
    refine G_iload_n X 2 dX6_feed_27 rfl rfl ?_
    obtain ⟨q3, hq3, h⟩ := bd_some h
    refine G_callV X (As := [.int a2]) (rest := []) (T' := (x0, x1, x2, ps, ta, tb, d, S, pg, q3, m, ot)) (st2 := []) (ct_X6_append (l := g.2.1) (κ := gκ g)   hq3) cal_X6_append wM_X6_61 wI_X6_append wS_X6_append rfl rfl (by decide) rfl rfl (Nat.le_of_ble_eq_true rfl) ⟨Nat.zero_le _, Nat.zero_le _⟩ dX6_feed_28 rfl ?_
    refine G_aload_n X 0 dX6_feed_31 rfl rfl ?_
    refine G_iload_n X 3 dX6_feed_32 rfl rfl ?_
    obtain ⟨q4, hq4, h⟩ := bd_some h
    refine G_callV X (As := [.int a3]) (rest := []) (T' := (x0, x1, x2, ps, ta, tb, d, S, pg, q4, m, ot)) (st2 := []) (ct_X6_append (l := g.2.1) (κ := gκ g)   hq4) cal_X6_append wM_X6_61 wI_X6_append wS_X6_append rfl rfl (by decide) rfl rfl (Nat.le_of_ble_eq_true rfl) ⟨Nat.zero_le _, Nat.zero_le _⟩ dX6_feed_33 rfl ?_
    refine G_aload_n X 0 dX6_feed_36 rfl rfl ?_
    refine G_iload X 4 dX6_feed_37 rfl ?_
    obtain ⟨q5, hq5, h⟩ := bd_some h
    refine G_callV X (As := [.int a4]) (rest := []) (T' := (x0, x1, x2, ps, ta, tb, d, S, pg, q5, m, ot)) (st2 := []) (ct_X6_append (l := g.2.1) (κ := gκ g)   hq5) cal_X6_append wM_X6_61 wI_X6_append wS_X6_append rfl rfl (by decide) rfl rfl (Nat.le_of_ble_eq_true rfl) ⟨Nat.zero_le _, Nat.zero_le _⟩ dX6_feed_39 rfl ?_
    refine G_aload_n X 0 dX6_feed_42 rfl rfl ?_
    refine G_iload X 5 dX6_feed_43 rfl ?_
    obtain ⟨q6, hq6, h⟩ := bd_some h
    refine G_callV X (As := [.int a5]) (rest := []) (T' := (x0, x1, x2, ps, ta, tb, d, S, pg, q6, m, ot)) (st2 := []) (ct_X6_append (l := g.2.1) (κ := gκ g)   hq6) cal_X6_append wM_X6_61 wI_X6_append wS_X6_append rfl rfl (by decide) rfl rfl (Nat.le_of_ble_eq_true rfl) ⟨Nat.zero_le _, Nat.zero_le _⟩ dX6_feed_45 rfl ?_
    refine G_aload_n X 0 dX6_feed_48 rfl rfl ?_
    refine f_X6_55 X rfl rfl dX6_feed_49 ?_
    obtain rfl := Option.some.inj h
    exact (show FinI g cX6_feed _ _ _ from hf) _ _ dX6_feed_52 rfl
  · have h := it_f c1 h
    obtain rfl := Option.some.inj h
    exact (show FinE g cX6_feed _ 1 from hf).1 _ _ _ dX6_feed_13 dX6_feed_16 dX6_feed_17 dX6_feed_20 (Nat.le_of_ble_eq_true rfl)
set_option maxRecDepth 20000 in
theorem ct_X6_feed {l : Launch} {κ : KX}  {x0 : St} {x1 : St} {x2 : St} {ps : Nat → St} {ta : St} {tb : St} {d : St} {S : St} {pg : St} {c : St} {m : St} {ot : St} {a1 : Int32} {a2 : Int32} {a3 : Int32} {a4 : Int32} {a5 : Int32} {e0 : St} {v : Int32}  (h : sX6_feed c a1 a2 a3 a4 a5 = some (e0, .inl v)) : Ct l κ yX6_feed cX6_feed 6 (some .int) 6 89 [.ref (xE κ 8 0 0), .int a1, .int a2, .int a3, .int a4, .int a5] ((x0, x1, x2, ps, ta, tb, d, S, pg, c, m, ot)) ((x0, x1, x2, ps, ta, tb, d, S, pg, e0, m, ot)) (some (.int v)) := by
  refine Ct_i RX6 rfl (by decide +kernel) (Nat.le_of_ble_eq_true rfl) (fun g hl hκ X hf => ?_)
  subst hl; subst hκ
  exact gX6_feed (res := (e0, .inl v)) X  hf h
set_option maxRecDepth 20000 in
theorem ce_X6_feed {l : Launch} {κ : KX}  {x0 : St} {x1 : St} {x2 : St} {ps : Nat → St} {ta : St} {tb : St} {d : St} {S : St} {pg : St} {c : St} {m : St} {ot : St} {a1 : Int32} {a2 : Int32} {a3 : Int32} {a4 : Int32} {a5 : Int32} {e0 : St} {c9 : Nat}  (h : sX6_feed c a1 a2 a3 a4 a5 = some (e0, .inr c9)) : CtE l κ yX6_feed cX6_feed 6 (some .int) 6 89 [.ref (xE κ 8 0 0), .int a1, .int a2, .int a3, .int a4, .int a5] ((x0, x1, x2, ps, ta, tb, d, S, pg, c, m, ot)) ((x0, x1, x2, ps, ta, tb, d, S, pg, e0, m, ot)) c9 := by
  refine CtE_of RX6 rfl rfl (by decide +kernel) (Nat.le_of_ble_eq_true rfl) (by decide) (fun g hl hκ X hf => ?_)
  subst hl; subst hκ
  exact gX6_feed (res := (e0, .inr c9)) X  hf h
set_option maxRecDepth 20000 in
theorem gX6_truncate_b12 {g : GX}  {x0 : St} {x1 : St} {x2 : St} {ps : Nat → St} {ta : St} {tb : St} {d : St} {S : St} {pg : St} {c : St} {m : St} {ot : St}  {res : St × (Int32 ⊕ Nat)}  (X : CX g RX6 cX6_truncate 2 6 89)  (hf : FinX g cX6_truncate .int ((x0, x1, x2, ps, ta, tb, d, S, pg, res.1, m, ot)) (res.2))   (h : sX6_truncate_b12  c = some res) : G g 0 0 ((x0, x1, x2, ps, ta, tb, d, S, pg, c, m, ot)) 12 [] [] := by
  unfold sX6_truncate_b12 at h
  obtain rfl := Option.some.inj h
  exact (show FinE g cX6_truncate _ 2 from hf).1 _ _ _ dX6_truncate_12 dX6_truncate_15 dX6_truncate_16 dX6_truncate_19 (Nat.le_of_ble_eq_true rfl)
set_option maxRecDepth 20000 in
theorem gX6_truncate {g : GX}  {x0 : St} {x1 : St} {x2 : St} {ps : Nat → St} {ta : St} {tb : St} {d : St} {S : St} {pg : St} {c : St} {m : St} {ot : St} {a1 : Int32} {res : St × (Int32 ⊕ Nat)} (X : CX g RX6 cX6_truncate 2 6 89)  (hf : FinX g cX6_truncate .int ((x0, x1, x2, ps, ta, tb, d, S, pg, res.1, m, ot)) (res.2)) (h : sX6_truncate c a1 = some res) : G g 0 0 ((x0, x1, x2, ps, ta, tb, d, S, pg, c, m, ot)) 0 [(0, .ref (xE (gκ g) 8 0 0)), (1, .int a1)] [] := by
  unfold sX6_truncate at h
  refine G_iload_n X 1 dX6_truncate_0 rfl rfl ?_
  refine G_if_lt X (tgt := 12) dX6_truncate_1 (by decide) (fun c1 => ?_) (fun c1 => ?_)
  · have h := it_t c1 h
    refine G_sub [] rfl ?_
    exact gX6_truncate_b12 X hf h
  · have h := it_f c1 h
    refine G_iload_n X 1 dX6_truncate_4 rfl rfl ?_
    refine G_aload_n X 0 dX6_truncate_5 rfl rfl ?_
    refine f_X6_55 X rfl rfl dX6_truncate_6 ?_
    refine G_icmp_le X (tgt := 20) dX6_truncate_9 (by decide) (fun c2 => ?_) (fun c2 => ?_)
    · have h := it_t c2 h
      refine G_aload_n X 0 dX6_truncate_20 rfl rfl ?_
      refine G_iload_n X 1 dX6_truncate_21 rfl rfl ?_
      obtain ⟨z3, ez3, h⟩ := nm_some h
      refine p_X6_55 X (T' := (x0, x1, x2, ps, ta, tb, d, S, pg, z3, m, ot)) rfl rfl  (by rw [ez3]; rfl) dX6_truncate_22 ?_
      refine G_iload_n X 1 dX6_truncate_25 rfl rfl ?_
      obtain rfl := Option.some.inj h
      exact (show FinI g cX6_truncate _ _ _ from hf) _ _ dX6_truncate_26 rfl
    · have h := it_f c2 h
      refine G_sub [] rfl ?_
      exact gX6_truncate_b12 X hf h
set_option maxRecDepth 20000 in
theorem ct_X6_truncate {l : Launch} {κ : KX}  {x0 : St} {x1 : St} {x2 : St} {ps : Nat → St} {ta : St} {tb : St} {d : St} {S : St} {pg : St} {c : St} {m : St} {ot : St} {a1 : Int32} {e0 : St} {v : Int32}  (h : sX6_truncate c a1 = some (e0, .inl v)) : Ct l κ yX6_truncate cX6_truncate 2 (some .int) 6 89 [.ref (xE κ 8 0 0), .int a1] ((x0, x1, x2, ps, ta, tb, d, S, pg, c, m, ot)) ((x0, x1, x2, ps, ta, tb, d, S, pg, e0, m, ot)) (some (.int v)) := by
  refine Ct_i RX6 rfl (by decide +kernel) (Nat.le_of_ble_eq_true rfl) (fun g hl hκ X hf => ?_)
  subst hl; subst hκ
  exact gX6_truncate (res := (e0, .inl v)) X  hf h
set_option maxRecDepth 20000 in
theorem ce_X6_truncate {l : Launch} {κ : KX}  {x0 : St} {x1 : St} {x2 : St} {ps : Nat → St} {ta : St} {tb : St} {d : St} {S : St} {pg : St} {c : St} {m : St} {ot : St} {a1 : Int32} {e0 : St} {c9 : Nat}  (h : sX6_truncate c a1 = some (e0, .inr c9)) : CtE l κ yX6_truncate cX6_truncate 2 (some .int) 6 89 [.ref (xE κ 8 0 0), .int a1] ((x0, x1, x2, ps, ta, tb, d, S, pg, c, m, ot)) ((x0, x1, x2, ps, ta, tb, d, S, pg, e0, m, ot)) c9 := by
  refine CtE_of RX6 rfl rfl (by decide +kernel) (Nat.le_of_ble_eq_true rfl) (by decide) (fun g hl hκ X hf => ?_)
  subst hl; subst hκ
  exact gX6_truncate (res := (e0, .inr c9)) X  hf h
set_option maxRecDepth 20000 in
theorem gX6_endReading {g : GX} {y : St} {t1 : Nat} {x0 : St} {x1 : St} {x2 : St} {ps : Nat → St} {ta : St} {tb : St} {d : St} {S : St} {pg : St} {c : St} {m : St} {ot : St}  {res : St} (X : CX g RX6 cX6_endReading 2 0 0) (ht1 : (t1 = 3 ∧ y = ta) ∨ (t1 = 4 ∧ y = tb)) (hf : FinV g cX6_endReading ((x0, x1, x2, ps, ta, tb, d, S, pg, res, m, ot))) (h : sX6_endReading y t1 c = some res) : G g 0 0 ((x0, x1, x2, ps, ta, tb, d, S, pg, c, m, ot)) 0 [(0, .ref (xE (gκ g) 8 0 0)), (1, .ref (xE (gκ g) t1 0 0))] [] := by
  unfold sX6_endReading at h
  refine G_aload_n X 0 dX6_endReading_0 rfl rfl ?_
  refine G_iconst X (v := (0 : Int32)) dX6_endReading_1 (by decide) ?_
  obtain ⟨z1, ez1, h⟩ := nm_some h
  refine p_X6_55 X (T' := (x0, x1, x2, ps, ta, tb, d, S, pg, z1, m, ot)) rfl rfl  (by rw [ez1]; rfl) dX6_endReading_2 ?_
  refine G_aload_n X 0 dX6_endReading_5 rfl rfl ?_
  refine G_aload_n X 1 dX6_endReading_6 rfl rfl ?_
  refine f_X6_105 X (congrFun (congrFun (tok_kd ht1) 0) 0) (tok_rg ht1) dX6_endReading_7 ?_
  obtain ⟨z2, ez2, h⟩ := nm_some h
  refine p_X6_108 X (T' := (x0, x1, x2, ps, ta, tb, d, S, pg, z2, m, ot)) rfl rfl  (by rw [ez2]; rfl) dX6_endReading_10 ?_
  refine G_aload_n X 0 dX6_endReading_13 rfl rfl ?_
  refine G_aload_n X 1 dX6_endReading_14 rfl rfl ?_
  refine f_X6_109 X (congrFun (congrFun (tok_kd ht1) 0) 0) (tok_rg ht1) dX6_endReading_15 ?_
  obtain ⟨z3, ez3, h⟩ := nm_some h
  refine p_X6_13 X (T' := (x0, x1, x2, ps, ta, tb, d, S, pg, z3, m, ot)) rfl rfl  (by rw [ez3]; rfl) dX6_endReading_18 ?_
  obtain rfl := Option.some.inj h
  exact hf _ _ dX6_endReading_21
set_option maxRecDepth 20000 in
theorem ct_X6_endReading {l : Launch} {κ : KX} {y : St} {t1 : Nat} {x0 : St} {x1 : St} {x2 : St} {ps : Nat → St} {ta : St} {tb : St} {d : St} {S : St} {pg : St} {c : St} {m : St} {ot : St}  {res : St} (ht1 : (t1 = 3 ∧ y = ta) ∨ (t1 = 4 ∧ y = tb)) (h : sX6_endReading y t1 c = some res) : Ct l κ yX6_endReading cX6_endReading 2 none 0 0 [.ref (xE κ 8 0 0), .ref (xE κ t1 0 0)] ((x0, x1, x2, ps, ta, tb, d, S, pg, c, m, ot)) ((x0, x1, x2, ps, ta, tb, d, S, pg, res, m, ot)) none := by
  refine Ct_v RX6 rfl (by decide +kernel) (Nat.le_of_ble_eq_true rfl) (fun g hl hκ X hf => ?_)
  subst hl; subst hκ
  exact gX6_endReading X ht1 hf h
set_option maxRecDepth 20000 in
theorem gX6_readText {g : GX}  {x0 : St} {x1 : St} {x2 : St} {ps : Nat → St} {ta : St} {tb : St} {d : St} {S : St} {pg : St} {c : St} {m : St} {ot : St}  {res : St × St × St × St × St × (Int32 ⊕ Nat)} (X : CX g RX6 cX6_readText 2 9 201)  (hf : FinX g cX6_readText .int ((res.1, res.2.1, x2, ps, res.2.2.1, tb, res.2.2.2.1, S, pg, res.2.2.2.2.1, m, ot)) (res.2.2.2.2.2)) (h : sX6_readText x0 x1 ta d c = some res) : G g 0 0 ((x0, x1, x2, ps, ta, tb, d, S, pg, c, m, ot)) 0 [(0, .ref (xE (gκ g) 8 0 0))] [] := by
  unfold sX6_readText at h
  refine G_aload_n X 0 dX6_readText_0 rfl rfl ?_
  refine f_X6_44 X rfl rfl dX6_readText_1 ?_
  refine f_X6_68 X rfl rfl dX6_readText_4 ?_
  refine G_aload_n X 0 dX6_readText_7 rfl rfl ?_
  refine f_X6_9 X rfl rfl dX6_readText_8 ?_
  refine G_aload_n X 0 dX6_readText_11 rfl rfl ?_
  refine f_X6_55 X rfl rfl dX6_readText_12 ?_
  obtain ⟨q1, hq1, h⟩ := bd_some h
  refine G_callVN X (As := [.ref (xE (gκ g) 8 0 1), .int (gI c 0 0 1)]) (rest := []) (T' := (x0, x1, x2, ps, q1, tb, d, S, pg, c, m, ot)) (st2 := []) (ct_X4_begin (l := g.2.1) (κ := gκ g) (T := ((x0, x1, x2, ps, ta, tb, d, S, pg, c, m, ot))) (r := 3) (t := ta) rfl (by decide) rfl hq1) cal_X4_begin nM_X6_72 wI_X4_begin wS_X4_begin rfl rfl (by decide) rfl rfl (Nat.le_of_ble_eq_true rfl) ⟨Nat.zero_le _, Nat.zero_le _⟩ dX6_readText_15 rfl ?_
  refine G_aload_n X 0 dX6_readText_18 rfl rfl ?_
  refine f_X6_44 X rfl rfl dX6_readText_19 ?_
  refine G_aload_n X 0 dX6_readText_22 rfl rfl ?_
  refine f_X6_24 X rfl rfl dX6_readText_23 ?_
  obtain ⟨q2, hq2, h⟩ := bd_some h
  refine G_callVN X (As := [.ref (xE (gκ g) 1 0 0)]) (rest := []) (T' := (x0, q2.1, x2, ps, q2.2.1, tb, q2.2.2.1, S, pg, c, m, ot)) (st2 := [.int q2.2.2.2]) (ct_X3_readAll (l := g.2.1) (κ := gκ g)   hq2) cal_X3_readAll nM_X6_78 wI_X3_readAll wS_X3_readAll rfl rfl (by decide) rfl rfl (Nat.le_of_ble_eq_true rfl) ⟨Nat.zero_le _, Nat.zero_le _⟩ dX6_readText_26 rfl ?_
  refine G_istore_n X (lv' := [(1, .int q2.2.2.2), (0, .ref (xE (gκ g) 8 0 0))]) dX6_readText_29 rfl (by decide) rfl ?_
  refine G_aload_n X 1 dX6_readText_30 rfl rfl ?_
  refine G_aload_n X 1 dX6_readText_31 rfl rfl ?_
  refine f_X6_44 X rfl rfl dX6_readText_32 ?_
  refine f_X6_68 X rfl rfl dX6_readText_35 ?_
  obtain ⟨q3, hq3, h⟩ := bd_some h
  refine G_callV X (As := [.ref (xE (gκ g) 3 0 0)]) (rest := []) (T' := (x0, q2.1, x2, ps, q2.2.1, tb, q2.2.2.1, S, pg, q3, m, ot)) (st2 := []) (ct_X6_endReading (l := g.2.1) (κ := gκ g)  (Or.inl ⟨rfl, rfl⟩) hq3) cal_X6_endReading wM_X6_82 wI_X6_endReading wS_X6_endReading rfl rfl (by decide) rfl rfl (Nat.le_of_ble_eq_true rfl) ⟨Nat.zero_le _, Nat.zero_le _⟩ dX6_readText_38 rfl ?_
  refine G_iload_n X 0 dX6_readText_41 rfl rfl ?_
  refine G_if_ne X (tgt := 53) dX6_readText_42 (by decide) (fun c4 => ?_) (fun c4 => ?_)
  · have h := it_t c4 h
    refine G_aload_n X 1 dX6_readText_53 rfl rfl ?_
    refine f_X6_20 X rfl rfl dX6_readText_54 ?_
    refine G_aload_n X 1 dX6_readText_57 rfl rfl ?_
    refine f_X6_24 X rfl rfl dX6_readText_58 ?_
    obtain ⟨q5, hq5, h⟩ := bd_some h
    refine G_callVN X (As := [.ref (xE (gκ g) 1 0 0)]) (rest := []) (T' := (q5, q2.1, x2, ps, q2.2.1, tb, q2.2.2.1, S, pg, q3, m, ot)) (st2 := []) (ct_X5_copyFrom (l := g.2.1) (κ := gκ g) (T := ((x0, q2.1, x2, ps, q2.2.1, tb, q2.2.2.1, S, pg, q3, m, ot))) (r := 0) (x := x0) (r2 := 1) (Or.inl (by decide)) (Or.inl (by decide)) (by decide) rfl hq5) cal_X5_copyFrom nM_X6_86 wI_X5_copyFrom wS_X5_copyFrom (kd_w0 (Or.inl (by decide))) rfl (by decide) rfl rfl (Nat.le_of_ble_eq_true rfl) ⟨Nat.zero_le _, Nat.zero_le _⟩ dX6_readText_61 rfl ?_
    refine G_aload_n X 1 dX6_readText_64 rfl rfl ?_
    refine G_iconst X (v := (0 : Int32)) dX6_readText_65 (by decide) ?_
    obtain ⟨z6, ez6, h⟩ := nm_some h
    refine p_X6_90 X (T' := (q5, q2.1, x2, ps, q2.2.1, tb, q2.2.2.1, S, pg, z6, m, ot)) rfl rfl  (by rw [ez6]; rfl) dX6_readText_66 ?_
    refine G_aload_n X 1 dX6_readText_69 rfl rfl ?_
    refine f_X6_20 X rfl rfl dX6_readText_70 ?_
    refine f_X6_93 X (kd_w0 (Or.inl (by decide))) rfl dX6_readText_73 ?_
    obtain rfl := Option.some.inj h
    exact (show FinI g cX6_readText _ _ _ from hf) _ _ dX6_readText_76 rfl
  · have h := it_f (fun k => k c4) h
    obtain rfl := Option.some.inj h
    exact (show FinE g cX6_readText _ 2 from hf).1 _ _ _ dX6_readText_45 dX6_readText_48 dX6_readText_49 dX6_readText_52 (Nat.le_of_ble_eq_true rfl)
set_option maxRecDepth 20000 in
theorem ct_X6_readText {l : Launch} {κ : KX}  {x0 : St} {x1 : St} {x2 : St} {ps : Nat → St} {ta : St} {tb : St} {d : St} {S : St} {pg : St} {c : St} {m : St} {ot : St}  {e0 : St} {e1 : St} {e2 : St} {e3 : St} {e4 : St} {v : Int32}  (h : sX6_readText x0 x1 ta d c = some (e0, e1, e2, e3, e4, .inl v)) : Ct l κ yX6_readText cX6_readText 2 (some .int) 9 201 [.ref (xE κ 8 0 0)] ((x0, x1, x2, ps, ta, tb, d, S, pg, c, m, ot)) ((e0, e1, x2, ps, e2, tb, e3, S, pg, e4, m, ot)) (some (.int v)) := by
  refine Ct_i RX6 rfl (by decide +kernel) (Nat.le_of_ble_eq_true rfl) (fun g hl hκ X hf => ?_)
  subst hl; subst hκ
  exact gX6_readText (res := (e0, e1, e2, e3, e4, .inl v)) X  hf h
set_option maxRecDepth 20000 in
theorem ce_X6_readText {l : Launch} {κ : KX}  {x0 : St} {x1 : St} {x2 : St} {ps : Nat → St} {ta : St} {tb : St} {d : St} {S : St} {pg : St} {c : St} {m : St} {ot : St}  {e0 : St} {e1 : St} {e2 : St} {e3 : St} {e4 : St} {c9 : Nat}  (h : sX6_readText x0 x1 ta d c = some (e0, e1, e2, e3, e4, .inr c9)) : CtE l κ yX6_readText cX6_readText 2 (some .int) 9 201 [.ref (xE κ 8 0 0)] ((x0, x1, x2, ps, ta, tb, d, S, pg, c, m, ot)) ((e0, e1, x2, ps, e2, tb, e3, S, pg, e4, m, ot)) c9 := by
  refine CtE_of RX6 rfl rfl (by decide +kernel) (Nat.le_of_ble_eq_true rfl) (by decide) (fun g hl hκ X hf => ?_)
  subst hl; subst hκ
  exact gX6_readText (res := (e0, e1, e2, e3, e4, .inr c9)) X  hf h
set_option maxRecDepth 20000 in
theorem gX6_setting {g : GX}  {x0 : St} {x1 : St} {x2 : St} {ps : Nat → St} {ta : St} {tb : St} {d : St} {S : St} {pg : St} {c : St} {m : St} {ot : St} {a1 : Int32} {res : (Int32 ⊕ Nat)} (X : CX g RX6 cX6_setting 2 6 89)  (hf : FinX g cX6_setting .int ((x0, x1, x2, ps, ta, tb, d, S, pg, c, m, ot)) (res)) (h : sX6_setting x0 c a1 = some res) : G g 0 0 ((x0, x1, x2, ps, ta, tb, d, S, pg, c, m, ot)) 0 [(0, .ref (xE (gκ g) 8 0 0)), (1, .int a1)] [] := by
  unfold sX6_setting at h
  refine G_iload_n X 1 dX6_setting_0 rfl rfl ?_
  by_cases c1 : a1 = (0 : Int32)
  · have h := it_t c1 h
    rw [c1]
    refine G_tabIn X (off := 59) (tgt := 60) dX6_setting_1 (by decide) (by decide) (by decide) (by decide) ?_
    refine G_aload_n X 0 dX6_setting_60 rfl rfl ?_
    refine f_X6_20 X rfl rfl dX6_setting_61 ?_
    refine f_X6_93 X (kd_w0 (Or.inl (by decide))) rfl dX6_setting_64 ?_
    obtain rfl := Option.some.inj h
    exact (show FinI g cX6_setting _ _ _ from hf) _ _ dX6_setting_67 rfl
  have h := it_f c1 h
  by_cases c2 : a1 = (1 : Int32)
  · have h := it_t c2 h
    rw [c2]
    refine G_tabIn X (off := 67) (tgt := 68) dX6_setting_1 (by decide) (by decide) (by decide) (by decide) ?_
    refine G_aload_n X 0 dX6_setting_68 rfl rfl ?_
    refine f_X6_20 X rfl rfl dX6_setting_69 ?_
    obtain ⟨q3, hq3, h⟩ := bd_some h
    refine G_callVN X (As := []) (rest := []) (T' := (x0, x1, x2, ps, ta, tb, d, S, pg, c, m, ot)) (st2 := [.int q3]) (ct_X5_nearPairs (l := g.2.1) (κ := gκ g) (T := ((x0, x1, x2, ps, ta, tb, d, S, pg, c, m, ot))) (r := 0) (x := x0) (Or.inl (by decide)) hq3) cal_X5_nearPairs nM_X6_110 wI_X5_nearPairs wS_X5_nearPairs (kd_w0 (Or.inl (by decide))) rfl (by decide) rfl rfl (Nat.le_of_ble_eq_true rfl) ⟨Nat.zero_le _, Nat.zero_le _⟩ dX6_setting_72 rfl ?_
    refine G_iconst X (v := (2 : Int32)) dX6_setting_75 (by decide) ?_
    refine G_idiv X dX6_setting_76 (by decide) ?_
    obtain rfl := Option.some.inj h
    exact (show FinI g cX6_setting _ _ _ from hf) _ _ dX6_setting_77 rfl
  have h := it_f c2 h
  by_cases c4 : a1 = (2 : Int32)
  · have h := it_t c4 h
    rw [c4]
    refine G_tabIn X (off := 77) (tgt := 78) dX6_setting_1 (by decide) (by decide) (by decide) (by decide) ?_
    refine G_aload_n X 0 dX6_setting_78 rfl rfl ?_
    refine f_X6_20 X rfl rfl dX6_setting_79 ?_
    refine f_X6_114 X (kd_w0 (Or.inl (by decide))) rfl dX6_setting_82 ?_
    obtain rfl := Option.some.inj h
    exact (show FinI g cX6_setting _ _ _ from hf) _ _ dX6_setting_85 rfl
  have h := it_f c4 h
  by_cases c5 : a1 = (3 : Int32)
  · have h := it_t c5 h
    rw [c5]
    refine G_tabIn X (off := 85) (tgt := 86) dX6_setting_1 (by decide) (by decide) (by decide) (by decide) ?_
    refine G_aload_n X 0 dX6_setting_86 rfl rfl ?_
    refine f_X6_20 X rfl rfl dX6_setting_87 ?_
    refine f_X6_117 X (kd_w0 (Or.inl (by decide))) rfl dX6_setting_90 ?_
    obtain rfl := Option.some.inj h
    exact (show FinI g cX6_setting _ _ _ from hf) _ _ dX6_setting_93 rfl
  have h := it_f c5 h
  by_cases c6 : a1 = (4 : Int32)
  · have h := it_t c6 h
    rw [c6]
    refine G_tabIn X (off := 93) (tgt := 94) dX6_setting_1 (by decide) (by decide) (by decide) (by decide) ?_
    refine G_aload_n X 0 dX6_setting_94 rfl rfl ?_
    refine f_X6_20 X rfl rfl dX6_setting_95 ?_
    refine f_X6_120 X (kd_w0 (Or.inl (by decide))) rfl dX6_setting_98 ?_
    obtain rfl := Option.some.inj h
    exact (show FinI g cX6_setting _ _ _ from hf) _ _ dX6_setting_101 rfl
  have h := it_f c6 h
  by_cases c7 : a1 = (5 : Int32)
  · have h := it_t c7 h
    rw [c7]
    refine G_tabIn X (off := 101) (tgt := 102) dX6_setting_1 (by decide) (by decide) (by decide) (by decide) ?_
    refine G_aload_n X 0 dX6_setting_102 rfl rfl ?_
    refine f_X6_20 X rfl rfl dX6_setting_103 ?_
    refine f_X6_123 X (kd_w0 (Or.inl (by decide))) rfl dX6_setting_106 ?_
    obtain rfl := Option.some.inj h
    exact (show FinI g cX6_setting _ _ _ from hf) _ _ dX6_setting_109 rfl
  have h := it_f c7 h
  by_cases c8 : a1 = (6 : Int32)
  · have h := it_t c8 h
    rw [c8]
    refine G_tabIn X (off := 109) (tgt := 110) dX6_setting_1 (by decide) (by decide) (by decide) (by decide) ?_
    refine G_aload_n X 0 dX6_setting_110 rfl rfl ?_
    refine f_X6_20 X rfl rfl dX6_setting_111 ?_
    refine f_X6_126 X (kd_w0 (Or.inl (by decide))) rfl dX6_setting_114 ?_
    obtain rfl := Option.some.inj h
    exact (show FinI g cX6_setting _ _ _ from hf) _ _ dX6_setting_117 rfl
  have h := it_f c8 h
  by_cases c9 : a1 = (7 : Int32)
  · have h := it_t c9 h
    rw [c9]
    refine G_tabIn X (off := 117) (tgt := 118) dX6_setting_1 (by decide) (by decide) (by decide) (by decide) ?_
    refine G_aload_n X 0 dX6_setting_118 rfl rfl ?_
    refine f_X6_20 X rfl rfl dX6_setting_119 ?_
    refine f_X6_129 X (kd_w0 (Or.inl (by decide))) rfl dX6_setting_122 ?_
    obtain rfl := Option.some.inj h
    exact (show FinI g cX6_setting _ _ _ from hf) _ _ dX6_setting_125 rfl
  have h := it_f c9 h
  by_cases c10 : a1 = (8 : Int32)
  · have h := it_t c10 h
    rw [c10]
    refine G_tabIn X (off := 125) (tgt := 126) dX6_setting_1 (by decide) (by decide) (by decide) (by decide) ?_
    refine G_aload_n X 0 dX6_setting_126 rfl rfl ?_
    refine f_X6_20 X rfl rfl dX6_setting_127 ?_
    obtain ⟨q11, hq11, h⟩ := bd_some h
    refine G_callVN X (As := []) (rest := []) (T' := (x0, x1, x2, ps, ta, tb, d, S, pg, c, m, ot)) (st2 := [.int q11]) (ct_X5_outCount (l := g.2.1) (κ := gκ g) (T := ((x0, x1, x2, ps, ta, tb, d, S, pg, c, m, ot))) (r := 0) (x := x0) (Or.inl (by decide)) hq11) cal_X5_outCount nM_X6_132 wI_X5_outCount wS_X5_outCount (kd_w0 (Or.inl (by decide))) rfl (by decide) rfl rfl (Nat.le_of_ble_eq_true rfl) ⟨Nat.zero_le _, Nat.zero_le _⟩ dX6_setting_130 rfl ?_
    obtain rfl := Option.some.inj h
    exact (show FinI g cX6_setting _ _ _ from hf) _ _ dX6_setting_133 rfl
  have h := it_f c10 h
  by_cases c12 : a1 = (9 : Int32)
  · have h := it_t c12 h
    rw [c12]
    refine G_tabIn X (off := 133) (tgt := 134) dX6_setting_1 (by decide) (by decide) (by decide) (by decide) ?_
    refine G_aload_n X 0 dX6_setting_134 rfl rfl ?_
    refine f_X6_20 X rfl rfl dX6_setting_135 ?_
    refine f_X6_135 X (kd_w0 (Or.inl (by decide))) rfl dX6_setting_138 ?_
    obtain rfl := Option.some.inj h
    exact (show FinI g cX6_setting _ _ _ from hf) _ _ dX6_setting_141 rfl
  have h := it_f c12 h
  by_cases c13 : a1 = (10 : Int32)
  · have h := it_t c13 h
    rw [c13]
    refine G_tabIn X (off := 141) (tgt := 142) dX6_setting_1 (by decide) (by decide) (by decide) (by decide) ?_
    refine G_aload_n X 0 dX6_setting_142 rfl rfl ?_
    refine f_X6_90 X rfl rfl dX6_setting_143 ?_
    obtain rfl := Option.some.inj h
    exact (show FinI g cX6_setting _ _ _ from hf) _ _ dX6_setting_146 rfl
  have h := it_f c13 h
  refine G_tabOut X (tgt := 147) dX6_setting_1 (sw_out 0 10 [(0 : Int32), (1 : Int32), (2 : Int32), (3 : Int32), (4 : Int32), (5 : Int32), (6 : Int32), (7 : Int32), (8 : Int32), (9 : Int32), (10 : Int32)] (by decide) (by simp [c1, c2, c4, c5, c6, c7, c8, c9, c10, c12, c13])) (by decide) ?_
  obtain rfl := Option.some.inj h
  exact (show FinE g cX6_setting _ 2 from hf).1 _ _ _ dX6_setting_147 dX6_setting_150 dX6_setting_151 dX6_setting_154 (Nat.le_of_ble_eq_true rfl)
set_option maxRecDepth 20000 in
theorem ct_X6_setting {l : Launch} {κ : KX}  {x0 : St} {x1 : St} {x2 : St} {ps : Nat → St} {ta : St} {tb : St} {d : St} {S : St} {pg : St} {c : St} {m : St} {ot : St} {a1 : Int32}  {v : Int32}  (h : sX6_setting x0 c a1 = some (.inl v)) : Ct l κ yX6_setting cX6_setting 2 (some .int) 6 89 [.ref (xE κ 8 0 0), .int a1] ((x0, x1, x2, ps, ta, tb, d, S, pg, c, m, ot)) ((x0, x1, x2, ps, ta, tb, d, S, pg, c, m, ot)) (some (.int v)) := by
  refine Ct_i RX6 rfl (by decide +kernel) (Nat.le_of_ble_eq_true rfl) (fun g hl hκ X hf => ?_)
  subst hl; subst hκ
  exact gX6_setting (res := (.inl v)) X  hf h
set_option maxRecDepth 20000 in
theorem ce_X6_setting {l : Launch} {κ : KX}  {x0 : St} {x1 : St} {x2 : St} {ps : Nat → St} {ta : St} {tb : St} {d : St} {S : St} {pg : St} {c : St} {m : St} {ot : St} {a1 : Int32}  {c9 : Nat}  (h : sX6_setting x0 c a1 = some (.inr c9)) : CtE l κ yX6_setting cX6_setting 2 (some .int) 6 89 [.ref (xE κ 8 0 0), .int a1] ((x0, x1, x2, ps, ta, tb, d, S, pg, c, m, ot)) ((x0, x1, x2, ps, ta, tb, d, S, pg, c, m, ot)) c9 := by
  refine CtE_of RX6 rfl rfl (by decide +kernel) (Nat.le_of_ble_eq_true rfl) (by decide) (fun g hl hκ X hf => ?_)
  subst hl; subst hκ
  exact gX6_setting (res := (.inr c9)) X  hf h
set_option maxRecDepth 20000 in
theorem gX6_requireBeacon_b15 {g : GX}  {x0 : St} {x1 : St} {x2 : St} {ps : Nat → St} {ta : St} {tb : St} {d : St} {S : St} {pg : St} {c : St} {m : St} {ot : St}  {res : (Unit ⊕ Nat)}  (X : CX g RX6 cX6_requireBeacon 2 6 89)  (hf : FinU g cX6_requireBeacon ((x0, x1, x2, ps, ta, tb, d, S, pg, c, m, ot)) (res))   (h : sX6_requireBeacon_b15  x0 = some res) : G g 0 0 ((x0, x1, x2, ps, ta, tb, d, S, pg, c, m, ot)) 15 [] [] := by
  unfold sX6_requireBeacon_b15 at h
  obtain rfl := Option.some.inj h
  exact (show FinE g cX6_requireBeacon _ 3 from hf).1 _ _ _ dX6_requireBeacon_15 dX6_requireBeacon_18 dX6_requireBeacon_19 dX6_requireBeacon_22 (Nat.le_of_ble_eq_true rfl)
set_option maxRecDepth 20000 in
theorem gX6_requireBeacon {g : GX}  {x0 : St} {x1 : St} {x2 : St} {ps : Nat → St} {ta : St} {tb : St} {d : St} {S : St} {pg : St} {c : St} {m : St} {ot : St} {a1 : Int32} {res : (Unit ⊕ Nat)} (X : CX g RX6 cX6_requireBeacon 2 6 89)  (hf : FinU g cX6_requireBeacon ((x0, x1, x2, ps, ta, tb, d, S, pg, c, m, ot)) (res)) (h : sX6_requireBeacon x0 a1 = some res) : G g 0 0 ((x0, x1, x2, ps, ta, tb, d, S, pg, c, m, ot)) 0 [(0, .ref (xE (gκ g) 8 0 0)), (1, .int a1)] [] := by
  unfold sX6_requireBeacon at h
  refine G_iload_n X 1 dX6_requireBeacon_0 rfl rfl ?_
  refine G_if_lt X (tgt := 15) dX6_requireBeacon_1 (by decide) (fun c1 => ?_) (fun c1 => ?_)
  · have h := it_t c1 h
    refine G_sub [] rfl ?_
    exact gX6_requireBeacon_b15 X hf h
  · have h := it_f c1 h
    refine G_iload_n X 1 dX6_requireBeacon_4 rfl rfl ?_
    refine G_aload_n X 0 dX6_requireBeacon_5 rfl rfl ?_
    refine f_X6_20 X rfl rfl dX6_requireBeacon_6 ?_
    refine f_X6_93 X (kd_w0 (Or.inl (by decide))) rfl dX6_requireBeacon_9 ?_
    refine G_icmp_lt X (tgt := 23) dX6_requireBeacon_12 (by decide) (fun c2 => ?_) (fun c2 => ?_)
    · have h := it_t c2 h
      obtain rfl := Option.some.inj h
      exact (show FinV g cX6_requireBeacon _ from hf) _ _ dX6_requireBeacon_23
    · have h := it_f c2 h
      refine G_sub [] rfl ?_
      exact gX6_requireBeacon_b15 X hf h
set_option maxRecDepth 20000 in
theorem ct_X6_requireBeacon {l : Launch} {κ : KX}  {x0 : St} {x1 : St} {x2 : St} {ps : Nat → St} {ta : St} {tb : St} {d : St} {S : St} {pg : St} {c : St} {m : St} {ot : St} {a1 : Int32}  {v : Unit}  (h : sX6_requireBeacon x0 a1 = some (.inl v)) : Ct l κ yX6_requireBeacon cX6_requireBeacon 2 none 6 89 [.ref (xE κ 8 0 0), .int a1] ((x0, x1, x2, ps, ta, tb, d, S, pg, c, m, ot)) ((x0, x1, x2, ps, ta, tb, d, S, pg, c, m, ot)) none := by
  refine Ct_v RX6 rfl (by decide +kernel) (Nat.le_of_ble_eq_true rfl) (fun g hl hκ X hf => ?_)
  subst hl; subst hκ
  exact gX6_requireBeacon (res := (.inl v)) X  hf h
set_option maxRecDepth 20000 in
theorem ce_X6_requireBeacon {l : Launch} {κ : KX}  {x0 : St} {x1 : St} {x2 : St} {ps : Nat → St} {ta : St} {tb : St} {d : St} {S : St} {pg : St} {c : St} {m : St} {ot : St} {a1 : Int32}  {c9 : Nat}  (h : sX6_requireBeacon x0 a1 = some (.inr c9)) : CtE l κ yX6_requireBeacon cX6_requireBeacon 2 none 6 89 [.ref (xE κ 8 0 0), .int a1] ((x0, x1, x2, ps, ta, tb, d, S, pg, c, m, ot)) ((x0, x1, x2, ps, ta, tb, d, S, pg, c, m, ot)) c9 := by
  refine CtE_of RX6 rfl rfl (by decide +kernel) (Nat.le_of_ble_eq_true rfl) (by decide) (fun g hl hκ X hf => ?_)
  subst hl; subst hκ
  exact gX6_requireBeacon (res := (.inr c9)) X  hf h
set_option maxRecDepth 20000 in
theorem gX6_beacon {g : GX}  {x0 : St} {x1 : St} {x2 : St} {ps : Nat → St} {ta : St} {tb : St} {d : St} {S : St} {pg : St} {c : St} {m : St} {ot : St} {a1 : Int32} {a2 : Int32} {res : (Int32 ⊕ Nat)} (X : CX g RX6 cX6_beacon 4 7 110)  (hf : FinX g cX6_beacon .int ((x0, x1, x2, ps, ta, tb, d, S, pg, c, m, ot)) (res)) (h : sX6_beacon x0 a1 a2 = some res) : G g 0 0 ((x0, x1, x2, ps, ta, tb, d, S, pg, c, m, ot)) 0 [(0, .ref (xE (gκ g) 8 0 0)), (1, .int a1), (2, .int a2)] [] := by
  unfold sX6_beacon at h
  refine G_aload_n X 0 dX6_beacon_0 rfl rfl ?_
  refine G_iload_n X 1 dX6_beacon_1 rfl rfl ?_
  obtain ⟨q1, hq1, h⟩ := bd_some h
  rcases q1 with uq1 | xq1
  rotate_left
  · have h := sm_r h
    obtain rfl := Option.some.inj h
    exact G_callVE X (As := [.int a1]) (rest := []) (ce_X6_requireBeacon (l := g.2.1) (κ := gκ g)   hq1) cal_X6_requireBeacon wM_X6_138 wI_X6_requireBeacon wS_X6_requireBeacon rfl rfl (by decide) rfl rfl (Nat.le_of_ble_eq_true rfl) dX6_beacon_2 hf
  have h := sm_l h
  refine G_callV X (As := [.int a1]) (rest := []) (T' := (x0, x1, x2, ps, ta, tb, d, S, pg, c, m, ot)) (st2 := []) (ct_X6_requireBeacon (l := g.2.1) (κ := gκ g)   hq1) cal_X6_requireBeacon wM_X6_138 wI_X6_requireBeacon wS_X6_requireBeacon rfl rfl (by decide) rfl rfl (Nat.le_of_ble_eq_true rfl) ⟨Nat.zero_le _, Nat.zero_le _⟩ dX6_beacon_2 rfl ?_
  refine G_aload_n X 0 dX6_beacon_5 rfl rfl ?_
  refine f_X6_20 X rfl rfl dX6_beacon_6 ?_
  refine f_X6_141 X (kd_w0 (Or.inl (by decide))) rfl dX6_beacon_9 ?_
  refine G_iload_n X 1 dX6_beacon_12 rfl rfl ?_
  obtain ⟨g2, h⟩ := gd_some h
  refine G_aaldB X (kd_w2 (Or.inl (by decide))) g2 dX6_beacon_13 ?_
  refine G_astore_n X (lv' := [(3, .ref (xE (gκ g) 0 (ix a1 + 1) 0)), (0, .ref (xE (gκ g) 8 0 0)), (1, .int a1), (2, .int a2)]) dX6_beacon_14 rfl (by decide) rfl ?_
  refine G_iload_n X 3 dX6_beacon_15 rfl rfl ?_
  by_cases c3 : a2 = (0 : Int32)
  · have h := it_t c3 h
    rw [c3]
    refine G_tabIn X (off := 72) (tgt := 88) dX6_beacon_16 (by decide) (by decide) (by decide) (by decide) ?_
    refine G_aload_n X 0 dX6_beacon_88 rfl rfl ?_
    refine f_X6_145 X (kd_o0 (Or.inl (by decide)) (inb_isO (by decide) g2)) rfl dX6_beacon_89 ?_
    obtain rfl := Option.some.inj h
    exact (show FinI g cX6_beacon _ _ _ from hf) _ _ dX6_beacon_92 rfl
  have h := it_f c3 h
  by_cases c4 : a2 = (1 : Int32)
  · have h := it_t c4 h
    rw [c4]
    refine G_tabIn X (off := 77) (tgt := 93) dX6_beacon_16 (by decide) (by decide) (by decide) (by decide) ?_
    refine G_aload_n X 0 dX6_beacon_93 rfl rfl ?_
    refine f_X6_150 X (kd_o0 (Or.inl (by decide)) (inb_isO (by decide) g2)) rfl dX6_beacon_94 ?_
    obtain rfl := Option.some.inj h
    exact (show FinI g cX6_beacon _ _ _ from hf) _ _ dX6_beacon_97 rfl
  have h := it_f c4 h
  by_cases c5 : a2 = (2 : Int32)
  · have h := it_t c5 h
    rw [c5]
    refine G_tabIn X (off := 82) (tgt := 98) dX6_beacon_16 (by decide) (by decide) (by decide) (by decide) ?_
    refine G_aload_n X 0 dX6_beacon_98 rfl rfl ?_
    refine f_X6_153 X (kd_o0 (Or.inl (by decide)) (inb_isO (by decide) g2)) rfl dX6_beacon_99 ?_
    obtain rfl := Option.some.inj h
    exact (show FinI g cX6_beacon _ _ _ from hf) _ _ dX6_beacon_102 rfl
  have h := it_f c5 h
  by_cases c6 : a2 = (3 : Int32)
  · have h := it_t c6 h
    rw [c6]
    refine G_tabIn X (off := 87) (tgt := 103) dX6_beacon_16 (by decide) (by decide) (by decide) (by decide) ?_
    refine G_aload_n X 0 dX6_beacon_103 rfl rfl ?_
    refine f_X6_156 X (kd_o0 (Or.inl (by decide)) (inb_isO (by decide) g2)) rfl dX6_beacon_104 ?_
    obtain rfl := Option.some.inj h
    exact (show FinI g cX6_beacon _ _ _ from hf) _ _ dX6_beacon_107 rfl
  have h := it_f c6 h
  by_cases c7 : a2 = (4 : Int32)
  · have h := it_t c7 h
    rw [c7]
    refine G_tabIn X (off := 92) (tgt := 108) dX6_beacon_16 (by decide) (by decide) (by decide) (by decide) ?_
    refine G_aload_n X 0 dX6_beacon_108 rfl rfl ?_
    refine f_X6_159 X (kd_o0 (Or.inl (by decide)) (inb_isO (by decide) g2)) rfl dX6_beacon_109 ?_
    obtain rfl := Option.some.inj h
    exact (show FinI g cX6_beacon _ _ _ from hf) _ _ dX6_beacon_112 rfl
  have h := it_f c7 h
  by_cases c8 : a2 = (5 : Int32)
  · have h := it_t c8 h
    rw [c8]
    refine G_tabIn X (off := 97) (tgt := 113) dX6_beacon_16 (by decide) (by decide) (by decide) (by decide) ?_
    refine G_aload_n X 0 dX6_beacon_113 rfl rfl ?_
    refine f_X6_162 X (kd_o0 (Or.inl (by decide)) (inb_isO (by decide) g2)) rfl dX6_beacon_114 ?_
    obtain rfl := Option.some.inj h
    exact (show FinI g cX6_beacon _ _ _ from hf) _ _ dX6_beacon_117 rfl
  have h := it_f c8 h
  by_cases c9 : a2 = (6 : Int32)
  · have h := it_t c9 h
    rw [c9]
    refine G_tabIn X (off := 102) (tgt := 118) dX6_beacon_16 (by decide) (by decide) (by decide) (by decide) ?_
    refine G_aload_n X 0 dX6_beacon_118 rfl rfl ?_
    refine f_X6_165 X (kd_o0 (Or.inl (by decide)) (inb_isO (by decide) g2)) rfl dX6_beacon_119 ?_
    obtain rfl := Option.some.inj h
    exact (show FinI g cX6_beacon _ _ _ from hf) _ _ dX6_beacon_122 rfl
  have h := it_f c9 h
  by_cases c10 : a2 = (7 : Int32)
  · have h := it_t c10 h
    rw [c10]
    refine G_tabIn X (off := 107) (tgt := 123) dX6_beacon_16 (by decide) (by decide) (by decide) (by decide) ?_
    refine G_aload_n X 0 dX6_beacon_123 rfl rfl ?_
    refine f_X6_168 X (kd_o0 (Or.inl (by decide)) (inb_isO (by decide) g2)) rfl dX6_beacon_124 ?_
    obtain rfl := Option.some.inj h
    exact (show FinI g cX6_beacon _ _ _ from hf) _ _ dX6_beacon_127 rfl
  have h := it_f c10 h
  by_cases c11 : a2 = (8 : Int32)
  · have h := it_t c11 h
    rw [c11]
    refine G_tabIn X (off := 112) (tgt := 128) dX6_beacon_16 (by decide) (by decide) (by decide) (by decide) ?_
    refine G_aload_n X 0 dX6_beacon_128 rfl rfl ?_
    refine f_X6_171 X (kd_o0 (Or.inl (by decide)) (inb_isO (by decide) g2)) rfl dX6_beacon_129 ?_
    refine G_if_eq X (tgt := 139) dX6_beacon_132 (by decide) (fun c12 => ?_) (fun c12 => ?_)
    · have h := it_t c12 h
      refine G_iconst X (v := (0 : Int32)) dX6_beacon_139 (by decide) ?_
      obtain rfl := Option.some.inj h
      exact (show FinI g cX6_beacon _ _ _ from hf) _ _ dX6_beacon_140 rfl
    · have h := it_f c12 h
      refine G_iconst X (v := (1 : Int32)) dX6_beacon_135 (by decide) ?_
      refine G_goto X (tgt := 140) dX6_beacon_136 (by decide) ?_
      obtain rfl := Option.some.inj h
      exact (show FinI g cX6_beacon _ _ _ from hf) _ _ dX6_beacon_140 rfl
  have h := it_f c11 h
  by_cases c13 : a2 = (9 : Int32)
  · have h := it_t c13 h
    rw [c13]
    refine G_tabIn X (off := 125) (tgt := 141) dX6_beacon_16 (by decide) (by decide) (by decide) (by decide) ?_
    refine G_aload_n X 0 dX6_beacon_141 rfl rfl ?_
    refine f_X6_175 X (kd_o0 (Or.inl (by decide)) (inb_isO (by decide) g2)) rfl dX6_beacon_142 ?_
    obtain rfl := Option.some.inj h
    exact (show FinI g cX6_beacon _ _ _ from hf) _ _ dX6_beacon_145 rfl
  have h := it_f c13 h
  by_cases c14 : a2 = (10 : Int32)
  · have h := it_t c14 h
    rw [c14]
    refine G_tabIn X (off := 130) (tgt := 146) dX6_beacon_16 (by decide) (by decide) (by decide) (by decide) ?_
    refine G_aload_n X 1 dX6_beacon_146 rfl rfl ?_
    refine f_X6_20 X rfl rfl dX6_beacon_147 ?_
    refine G_aload_n X 0 dX6_beacon_150 rfl rfl ?_
    obtain ⟨q15, hq15, h⟩ := bd_some h
    refine G_callVN X (As := [.ref (xE (gκ g) 0 (ix a1 + 1) 0)]) (rest := []) (T' := (x0, x1, x2, ps, ta, tb, d, S, pg, c, m, ot)) (st2 := [.int q15]) (ct_X5_knownTo (l := g.2.1) (κ := gκ g) (T := ((x0, x1, x2, ps, ta, tb, d, S, pg, c, m, ot))) (r := 0) (x := x0) (Or.inl (by decide)) (inb_isO (by decide) g2) hq15) cal_X5_knownTo nM_X6_178 wI_X5_knownTo wS_X5_knownTo (kd_w0 (Or.inl (by decide))) rfl (by decide) rfl rfl (Nat.le_of_ble_eq_true rfl) ⟨Nat.zero_le _, Nat.zero_le _⟩ dX6_beacon_151 rfl ?_
    obtain rfl := Option.some.inj h
    exact (show FinI g cX6_beacon _ _ _ from hf) _ _ dX6_beacon_154 rfl
  have h := it_f c14 h
  by_cases c16 : a2 = (11 : Int32)
  · have h := it_t c16 h
    rw [c16]
    refine G_tabIn X (off := 139) (tgt := 155) dX6_beacon_16 (by decide) (by decide) (by decide) (by decide) ?_
    refine G_aload_n X 0 dX6_beacon_155 rfl rfl ?_
    refine f_X6_182 X (kd_o0 (Or.inl (by decide)) (inb_isO (by decide) g2)) rfl dX6_beacon_156 ?_
    obtain rfl := Option.some.inj h
    exact (show FinI g cX6_beacon _ _ _ from hf) _ _ dX6_beacon_159 rfl
  have h := it_f c16 h
  by_cases c17 : a2 = (12 : Int32)
  · have h := it_t c17 h
    rw [c17]
    refine G_tabIn X (off := 144) (tgt := 160) dX6_beacon_16 (by decide) (by decide) (by decide) (by decide) ?_
    refine G_aload_n X 0 dX6_beacon_160 rfl rfl ?_
    refine f_X6_183 X (kd_o0 (Or.inl (by decide)) (inb_isO (by decide) g2)) rfl dX6_beacon_161 ?_
    obtain rfl := Option.some.inj h
    exact (show FinI g cX6_beacon _ _ _ from hf) _ _ dX6_beacon_164 rfl
  have h := it_f c17 h
  by_cases c18 : a2 = (13 : Int32)
  · have h := it_t c18 h
    rw [c18]
    refine G_tabIn X (off := 149) (tgt := 165) dX6_beacon_16 (by decide) (by decide) (by decide) (by decide) ?_
    refine G_aload_n X 0 dX6_beacon_165 rfl rfl ?_
    refine f_X6_184 X (kd_o0 (Or.inl (by decide)) (inb_isO (by decide) g2)) rfl dX6_beacon_166 ?_
    obtain rfl := Option.some.inj h
    exact (show FinI g cX6_beacon _ _ _ from hf) _ _ dX6_beacon_169 rfl
  have h := it_f c18 h
  refine G_tabOut X (tgt := 170) dX6_beacon_16 (sw_out 0 13 [(0 : Int32), (1 : Int32), (2 : Int32), (3 : Int32), (4 : Int32), (5 : Int32), (6 : Int32), (7 : Int32), (8 : Int32), (9 : Int32), (10 : Int32), (11 : Int32), (12 : Int32), (13 : Int32)] (by decide) (by simp [c3, c4, c5, c6, c7, c8, c9, c10, c11, c13, c14, c16, c17, c18])) (by decide) ?_
  obtain rfl := Option.some.inj h
  exact (show FinE g cX6_beacon _ 2 from hf).1 _ _ _ dX6_beacon_170 dX6_beacon_173 dX6_beacon_174 dX6_beacon_177 (Nat.le_of_ble_eq_true rfl)
set_option maxRecDepth 20000 in
theorem ct_X6_beacon {l : Launch} {κ : KX}  {x0 : St} {x1 : St} {x2 : St} {ps : Nat → St} {ta : St} {tb : St} {d : St} {S : St} {pg : St} {c : St} {m : St} {ot : St} {a1 : Int32} {a2 : Int32}  {v : Int32}  (h : sX6_beacon x0 a1 a2 = some (.inl v)) : Ct l κ yX6_beacon cX6_beacon 4 (some .int) 7 110 [.ref (xE κ 8 0 0), .int a1, .int a2] ((x0, x1, x2, ps, ta, tb, d, S, pg, c, m, ot)) ((x0, x1, x2, ps, ta, tb, d, S, pg, c, m, ot)) (some (.int v)) := by
  refine Ct_i RX6 rfl (by decide +kernel) (Nat.le_of_ble_eq_true rfl) (fun g hl hκ X hf => ?_)
  subst hl; subst hκ
  exact gX6_beacon (res := (.inl v)) X  hf h
set_option maxRecDepth 20000 in
theorem ce_X6_beacon {l : Launch} {κ : KX}  {x0 : St} {x1 : St} {x2 : St} {ps : Nat → St} {ta : St} {tb : St} {d : St} {S : St} {pg : St} {c : St} {m : St} {ot : St} {a1 : Int32} {a2 : Int32}  {c9 : Nat}  (h : sX6_beacon x0 a1 a2 = some (.inr c9)) : CtE l κ yX6_beacon cX6_beacon 4 (some .int) 7 110 [.ref (xE κ 8 0 0), .int a1, .int a2] ((x0, x1, x2, ps, ta, tb, d, S, pg, c, m, ot)) ((x0, x1, x2, ps, ta, tb, d, S, pg, c, m, ot)) c9 := by
  refine CtE_of RX6 rfl rfl (by decide +kernel) (Nat.le_of_ble_eq_true rfl) (by decide) (fun g hl hκ X hf => ?_)
  subst hl; subst hκ
  exact gX6_beacon (res := (.inr c9)) X  hf h
set_option maxRecDepth 20000 in
theorem gX6_slots_b14 {g : GX}  {x0 : St} {x1 : St} {x2 : St} {ps : Nat → St} {ta : St} {tb : St} {d : St} {S : St} {pg : St} {c : St} {m : St} {ot : St}  {res : (Int32 ⊕ Nat)}  (X : CX g RX6 cX6_slots 3 7 110)  (hf : FinX g cX6_slots .int ((x0, x1, x2, ps, ta, tb, d, S, pg, c, m, ot)) (res))   (h : sX6_slots_b14  x0 = some res) : G g 0 0 ((x0, x1, x2, ps, ta, tb, d, S, pg, c, m, ot)) 14 [] [] := by
  unfold sX6_slots_b14 at h
  obtain rfl := Option.some.inj h
  exact (show FinE g cX6_slots _ 2 from hf).1 _ _ _ dX6_slots_14 dX6_slots_17 dX6_slots_18 dX6_slots_21 (Nat.le_of_ble_eq_true rfl)
set_option maxRecDepth 20000 in
theorem gX6_slots {g : GX}  {x0 : St} {x1 : St} {x2 : St} {ps : Nat → St} {ta : St} {tb : St} {d : St} {S : St} {pg : St} {c : St} {m : St} {ot : St} {a1 : Int32} {a2 : Int32} {res : (Int32 ⊕ Nat)} (X : CX g RX6 cX6_slots 3 7 110)  (hf : FinX g cX6_slots .int ((x0, x1, x2, ps, ta, tb, d, S, pg, c, m, ot)) (res)) (h : sX6_slots x0 a1 a2 = some res) : G g 0 0 ((x0, x1, x2, ps, ta, tb, d, S, pg, c, m, ot)) 0 [(0, .ref (xE (gκ g) 8 0 0)), (1, .int a1), (2, .int a2)] [] := by
  unfold sX6_slots at h
  refine G_aload_n X 0 dX6_slots_0 rfl rfl ?_
  refine G_iload_n X 1 dX6_slots_1 rfl rfl ?_
  obtain ⟨q1, hq1, h⟩ := bd_some h
  rcases q1 with uq1 | xq1
  rotate_left
  · have h := sm_r h
    obtain rfl := Option.some.inj h
    exact G_callVE X (As := [.int a1]) (rest := []) (ce_X6_requireBeacon (l := g.2.1) (κ := gκ g)   hq1) cal_X6_requireBeacon wM_X6_138 wI_X6_requireBeacon wS_X6_requireBeacon rfl rfl (by decide) rfl rfl (Nat.le_of_ble_eq_true rfl) dX6_slots_2 hf
  have h := sm_l h
  refine G_callV X (As := [.int a1]) (rest := []) (T' := (x0, x1, x2, ps, ta, tb, d, S, pg, c, m, ot)) (st2 := []) (ct_X6_requireBeacon (l := g.2.1) (κ := gκ g)   hq1) cal_X6_requireBeacon wM_X6_138 wI_X6_requireBeacon wS_X6_requireBeacon rfl rfl (by decide) rfl rfl (Nat.le_of_ble_eq_true rfl) ⟨Nat.zero_le _, Nat.zero_le _⟩ dX6_slots_2 rfl ?_
  refine G_iload_n X 2 dX6_slots_5 rfl rfl ?_
  refine G_if_lt X (tgt := 14) dX6_slots_6 (by decide) (fun c2 => ?_) (fun c2 => ?_)
  · have h := it_t c2 h
    refine G_sub [] rfl ?_
    exact gX6_slots_b14 X hf h
  · have h := it_f c2 h
    refine G_iload_n X 2 dX6_slots_9 rfl rfl ?_
    refine G_iconst X (v := (4 : Int32)) dX6_slots_10 (by decide) ?_
    refine G_icmp_lt X (tgt := 22) dX6_slots_11 (by decide) (fun c3 => ?_) (fun c3 => ?_)
    · have h := it_t c3 h
      refine G_aload_n X 0 dX6_slots_22 rfl rfl ?_
      refine f_X6_20 X rfl rfl dX6_slots_23 ?_
      refine f_X6_141 X (kd_w0 (Or.inl (by decide))) rfl dX6_slots_26 ?_
      refine G_iload_n X 1 dX6_slots_29 rfl rfl ?_
      obtain ⟨g4, h⟩ := gd_some h
      refine G_aaldB X (kd_w2 (Or.inl (by decide))) g4 dX6_slots_30 ?_
      refine f_X6_187 X (kd_o0 (Or.inl (by decide)) (inb_isO (by decide) g4)) rfl dX6_slots_31 ?_
      refine G_iload_n X 2 dX6_slots_34 rfl rfl ?_
      obtain ⟨g5, h⟩ := gd_some h
      refine G_iald X (kd_o1 (Or.inl (by decide)) (inb_isO (by decide) g4)) rfl g5 dX6_slots_35 ?_
      obtain rfl := Option.some.inj h
      exact (show FinI g cX6_slots _ _ _ from hf) _ _ dX6_slots_36 rfl
    · have h := it_f c3 h
      refine G_sub [] rfl ?_
      exact gX6_slots_b14 X hf h
set_option maxRecDepth 20000 in
theorem ct_X6_slots {l : Launch} {κ : KX}  {x0 : St} {x1 : St} {x2 : St} {ps : Nat → St} {ta : St} {tb : St} {d : St} {S : St} {pg : St} {c : St} {m : St} {ot : St} {a1 : Int32} {a2 : Int32}  {v : Int32}  (h : sX6_slots x0 a1 a2 = some (.inl v)) : Ct l κ yX6_slots cX6_slots 3 (some .int) 7 110 [.ref (xE κ 8 0 0), .int a1, .int a2] ((x0, x1, x2, ps, ta, tb, d, S, pg, c, m, ot)) ((x0, x1, x2, ps, ta, tb, d, S, pg, c, m, ot)) (some (.int v)) := by
  refine Ct_i RX6 rfl (by decide +kernel) (Nat.le_of_ble_eq_true rfl) (fun g hl hκ X hf => ?_)
  subst hl; subst hκ
  exact gX6_slots (res := (.inl v)) X  hf h
set_option maxRecDepth 20000 in
theorem ce_X6_slots {l : Launch} {κ : KX}  {x0 : St} {x1 : St} {x2 : St} {ps : Nat → St} {ta : St} {tb : St} {d : St} {S : St} {pg : St} {c : St} {m : St} {ot : St} {a1 : Int32} {a2 : Int32}  {c9 : Nat}  (h : sX6_slots x0 a1 a2 = some (.inr c9)) : CtE l κ yX6_slots cX6_slots 3 (some .int) 7 110 [.ref (xE κ 8 0 0), .int a1, .int a2] ((x0, x1, x2, ps, ta, tb, d, S, pg, c, m, ot)) ((x0, x1, x2, ps, ta, tb, d, S, pg, c, m, ot)) c9 := by
  refine CtE_of RX6 rfl rfl (by decide +kernel) (Nat.le_of_ble_eq_true rfl) (by decide) (fun g hl hκ X hf => ?_)
  subst hl; subst hκ
  exact gX6_slots (res := (.inr c9)) X  hf h
set_option maxRecDepth 20000 in
theorem gX6_reckoned_b9 {g : GX}  {x0 : St} {x1 : St} {x2 : St} {ps : Nat → St} {ta : St} {tb : St} {d : St} {S : St} {pg : St} {c : St} {m : St} {ot : St} {res : (Int32 ⊕ Nat)}  (X : CX g RX6 cX6_reckoned 4 7 110)  (hf : FinX g cX6_reckoned .int ((x0, x1, x2, ps, ta, tb, d, S, pg, c, m, ot)) (res))  : ∀ (n : Nat) (a1 : Int32) (a2 : Int32) (a3 : Int32) (h : sX6_reckoned_b9 n  x0 a1 a2 a3 = some res), G g 0 0 ((x0, x1, x2, ps, ta, tb, d, S, pg, c, m, ot)) 9 [(0, .ref (xE (gκ g) 8 0 0)), (1, .int a1), (2, .int a2), (3, .int a3)] [] := by
  intro n
  induction n with
  | zero => intro a1 a2 a3 h; unfold sX6_reckoned_b9 at h; cases h
  | succ n ih =>
    intro a1 a2 a3 h
    unfold sX6_reckoned_b9 at h
    refine G_iload_n X 3 dX6_reckoned_9 rfl rfl ?_
    refine G_iconst X (v := (4 : Int32)) dX6_reckoned_10 (by decide) ?_
    refine G_icmp_ge X (tgt := 47) dX6_reckoned_11 (by decide) (fun c2 => ?_) (fun c2 => ?_)
    · have h := it_t c2 h
      refine G_iload_n X 2 dX6_reckoned_47 rfl rfl ?_
      obtain rfl := Option.some.inj h
      exact (show FinI g cX6_reckoned _ _ _ from hf) _ _ dX6_reckoned_48 rfl
    · have h := it_f c2 h
      refine G_iload_n X 2 dX6_reckoned_14 rfl rfl ?_
      refine G_aload_n X 0 dX6_reckoned_15 rfl rfl ?_
      refine f_X6_20 X rfl rfl dX6_reckoned_16 ?_
      refine f_X6_141 X (kd_w0 (Or.inl (by decide))) rfl dX6_reckoned_19 ?_
      refine G_iload_n X 1 dX6_reckoned_22 rfl rfl ?_
      obtain ⟨g3, h⟩ := gd_some h
      refine G_aaldB X (kd_w2 (Or.inl (by decide))) g3 dX6_reckoned_23 ?_
      refine f_X6_187 X (kd_o0 (Or.inl (by decide)) (inb_isO (by decide) g3)) rfl dX6_reckoned_24 ?_
      refine G_iload_n X 3 dX6_reckoned_27 rfl rfl ?_
      obtain ⟨g4, h⟩ := gd_some h
      refine G_iald X (kd_o1 (Or.inl (by decide)) (inb_isO (by decide) g3)) rfl g4 dX6_reckoned_28 ?_
      refine G_aload_n X 0 dX6_reckoned_29 rfl rfl ?_
      refine f_X6_20 X rfl rfl dX6_reckoned_30 ?_
      refine f_X6_191 X (kd_w0 (Or.inl (by decide))) rfl dX6_reckoned_33 ?_
      refine G_iload_n X 3 dX6_reckoned_36 rfl rfl ?_
      obtain ⟨g5, h⟩ := gd_some h
      refine G_iald X (kd_w1 (Or.inl (by decide))) rfl g5 dX6_reckoned_37 ?_
      refine G_imul X dX6_reckoned_38 ?_
      refine G_iadd X dX6_reckoned_39 ?_
      obtain ⟨v6, ev6, h⟩ := nm_some h
      refine G_nmi ev6 ?_
      refine G_istore_n X (lv' := [(2, .int v6), (0, .ref (xE (gκ g) 8 0 0)), (1, .int a1), (3, .int a3)]) dX6_reckoned_40 rfl (by decide) rfl ?_
      obtain ⟨v7, ev7, h⟩ := nm_some h
      refine G_iinc X (v := v7) (lv' := [(3, .int v7), (2, .int v6), (0, .ref (xE (gκ g) 8 0 0)), (1, .int a1)]) 3 dX6_reckoned_41 rfl (by rw [ev7]; rfl) (by decide) rfl ?_
      refine G_goto X (tgt := 9) dX6_reckoned_44 (by decide) ?_
      refine G_sub [2, 3, 1, 0] rfl ?_
      exact ih _ _ _ h
set_option maxRecDepth 20000 in
theorem gX6_reckoned {g : GX}  {x0 : St} {x1 : St} {x2 : St} {ps : Nat → St} {ta : St} {tb : St} {d : St} {S : St} {pg : St} {c : St} {m : St} {ot : St} {a1 : Int32} {res : (Int32 ⊕ Nat)} (X : CX g RX6 cX6_reckoned 4 7 110)  (hf : FinX g cX6_reckoned .int ((x0, x1, x2, ps, ta, tb, d, S, pg, c, m, ot)) (res)) (h : sX6_reckoned x0 a1 = some res) : G g 0 0 ((x0, x1, x2, ps, ta, tb, d, S, pg, c, m, ot)) 0 [(0, .ref (xE (gκ g) 8 0 0)), (1, .int a1)] [] := by
  unfold sX6_reckoned at h
  refine G_aload_n X 0 dX6_reckoned_0 rfl rfl ?_
  refine G_iload_n X 1 dX6_reckoned_1 rfl rfl ?_
  obtain ⟨q1, hq1, h⟩ := bd_some h
  rcases q1 with uq1 | xq1
  rotate_left
  · have h := sm_r h
    obtain rfl := Option.some.inj h
    exact G_callVE X (As := [.int a1]) (rest := []) (ce_X6_requireBeacon (l := g.2.1) (κ := gκ g)   hq1) cal_X6_requireBeacon wM_X6_138 wI_X6_requireBeacon wS_X6_requireBeacon rfl rfl (by decide) rfl rfl (Nat.le_of_ble_eq_true rfl) dX6_reckoned_2 hf
  have h := sm_l h
  refine G_callV X (As := [.int a1]) (rest := []) (T' := (x0, x1, x2, ps, ta, tb, d, S, pg, c, m, ot)) (st2 := []) (ct_X6_requireBeacon (l := g.2.1) (κ := gκ g)   hq1) cal_X6_requireBeacon wM_X6_138 wI_X6_requireBeacon wS_X6_requireBeacon rfl rfl (by decide) rfl rfl (Nat.le_of_ble_eq_true rfl) ⟨Nat.zero_le _, Nat.zero_le _⟩ dX6_reckoned_2 rfl ?_
  refine G_iconst X (v := (0 : Int32)) dX6_reckoned_5 (by decide) ?_
  refine G_istore_n X (lv' := [(2, .int ((0 : Int32))), (0, .ref (xE (gκ g) 8 0 0)), (1, .int a1)]) dX6_reckoned_6 rfl (by decide) rfl ?_
  refine G_iconst X (v := (0 : Int32)) dX6_reckoned_7 (by decide) ?_
  refine G_istore_n X (lv' := [(3, .int ((0 : Int32))), (2, .int ((0 : Int32))), (0, .ref (xE (gκ g) 8 0 0)), (1, .int a1)]) dX6_reckoned_8 rfl (by decide) rfl ?_
  refine G_sub [2, 3, 1, 0] rfl ?_
  exact gX6_reckoned_b9 X hf FU _ _ _ h
set_option maxRecDepth 20000 in
theorem ct_X6_reckoned {l : Launch} {κ : KX}  {x0 : St} {x1 : St} {x2 : St} {ps : Nat → St} {ta : St} {tb : St} {d : St} {S : St} {pg : St} {c : St} {m : St} {ot : St} {a1 : Int32}  {v : Int32}  (h : sX6_reckoned x0 a1 = some (.inl v)) : Ct l κ yX6_reckoned cX6_reckoned 4 (some .int) 7 110 [.ref (xE κ 8 0 0), .int a1] ((x0, x1, x2, ps, ta, tb, d, S, pg, c, m, ot)) ((x0, x1, x2, ps, ta, tb, d, S, pg, c, m, ot)) (some (.int v)) := by
  refine Ct_i RX6 rfl (by decide +kernel) (Nat.le_of_ble_eq_true rfl) (fun g hl hκ X hf => ?_)
  subst hl; subst hκ
  exact gX6_reckoned (res := (.inl v)) X  hf h
set_option maxRecDepth 20000 in
theorem ce_X6_reckoned {l : Launch} {κ : KX}  {x0 : St} {x1 : St} {x2 : St} {ps : Nat → St} {ta : St} {tb : St} {d : St} {S : St} {pg : St} {c : St} {m : St} {ot : St} {a1 : Int32}  {c9 : Nat}  (h : sX6_reckoned x0 a1 = some (.inr c9)) : CtE l κ yX6_reckoned cX6_reckoned 4 (some .int) 7 110 [.ref (xE κ 8 0 0), .int a1] ((x0, x1, x2, ps, ta, tb, d, S, pg, c, m, ot)) ((x0, x1, x2, ps, ta, tb, d, S, pg, c, m, ot)) c9 := by
  refine CtE_of RX6 rfl rfl (by decide +kernel) (Nat.le_of_ble_eq_true rfl) (by decide) (fun g hl hκ X hf => ?_)
  subst hl; subst hκ
  exact gX6_reckoned (res := (.inr c9)) X  hf h
set_option maxRecDepth 20000 in
theorem gX6_heard {g : GX}  {x0 : St} {x1 : St} {x2 : St} {ps : Nat → St} {ta : St} {tb : St} {d : St} {S : St} {pg : St} {c : St} {m : St} {ot : St} {a1 : Int32} {a2 : Int32} {res : (Int32 ⊕ Nat)} (X : CX g RX6 cX6_heard 3 7 110)  (hf : FinX g cX6_heard .int ((x0, x1, x2, ps, ta, tb, d, S, pg, c, m, ot)) (res)) (h : sX6_heard x0 a1 a2 = some res) : G g 0 0 ((x0, x1, x2, ps, ta, tb, d, S, pg, c, m, ot)) 0 [(0, .ref (xE (gκ g) 8 0 0)), (1, .int a1), (2, .int a2)] [] := by
  unfold sX6_heard at h
  refine G_aload_n X 0 dX6_heard_0 rfl rfl ?_
  refine G_iload_n X 1 dX6_heard_1 rfl rfl ?_
  obtain ⟨q1, hq1, h⟩ := bd_some h
  rcases q1 with uq1 | xq1
  rotate_left
  · have h := sm_r h
    obtain rfl := Option.some.inj h
    exact G_callVE X (As := [.int a1]) (rest := []) (ce_X6_requireBeacon (l := g.2.1) (κ := gκ g)   hq1) cal_X6_requireBeacon wM_X6_138 wI_X6_requireBeacon wS_X6_requireBeacon rfl rfl (by decide) rfl rfl (Nat.le_of_ble_eq_true rfl) dX6_heard_2 hf
  have h := sm_l h
  refine G_callV X (As := [.int a1]) (rest := []) (T' := (x0, x1, x2, ps, ta, tb, d, S, pg, c, m, ot)) (st2 := []) (ct_X6_requireBeacon (l := g.2.1) (κ := gκ g)   hq1) cal_X6_requireBeacon wM_X6_138 wI_X6_requireBeacon wS_X6_requireBeacon rfl rfl (by decide) rfl rfl (Nat.le_of_ble_eq_true rfl) ⟨Nat.zero_le _, Nat.zero_le _⟩ dX6_heard_2 rfl ?_
  refine G_aload_n X 0 dX6_heard_5 rfl rfl ?_
  refine G_iload_n X 2 dX6_heard_6 rfl rfl ?_
  obtain ⟨q2, hq2, h⟩ := bd_some h
  rcases q2 with uq2 | xq2
  rotate_left
  · have h := sm_r h
    obtain rfl := Option.some.inj h
    exact G_callVE X (As := [.int a2]) (rest := []) (ce_X6_requireBeacon (l := g.2.1) (κ := gκ g)   hq2) cal_X6_requireBeacon wM_X6_138 wI_X6_requireBeacon wS_X6_requireBeacon rfl rfl (by decide) rfl rfl (Nat.le_of_ble_eq_true rfl) dX6_heard_7 hf
  have h := sm_l h
  refine G_callV X (As := [.int a2]) (rest := []) (T' := (x0, x1, x2, ps, ta, tb, d, S, pg, c, m, ot)) (st2 := []) (ct_X6_requireBeacon (l := g.2.1) (κ := gκ g)   hq2) cal_X6_requireBeacon wM_X6_138 wI_X6_requireBeacon wS_X6_requireBeacon rfl rfl (by decide) rfl rfl (Nat.le_of_ble_eq_true rfl) ⟨Nat.zero_le _, Nat.zero_le _⟩ dX6_heard_7 rfl ?_
  refine G_aload_n X 0 dX6_heard_10 rfl rfl ?_
  refine f_X6_20 X rfl rfl dX6_heard_11 ?_
  refine f_X6_141 X (kd_w0 (Or.inl (by decide))) rfl dX6_heard_14 ?_
  refine G_iload_n X 1 dX6_heard_17 rfl rfl ?_
  obtain ⟨g3, h⟩ := gd_some h
  refine G_aaldB X (kd_w2 (Or.inl (by decide))) g3 dX6_heard_18 ?_
  refine f_X6_202 X (kd_o0 (Or.inl (by decide)) (inb_isO (by decide) g3)) rfl dX6_heard_19 ?_
  refine G_iload_n X 2 dX6_heard_22 rfl rfl ?_
  obtain ⟨g4, h⟩ := gd_some h
  refine G_iald X (kd_o2 (Or.inl (by decide)) (inb_isO (by decide) g3)) rfl g4 dX6_heard_23 ?_
  obtain rfl := Option.some.inj h
  exact (show FinI g cX6_heard _ _ _ from hf) _ _ dX6_heard_24 rfl
set_option maxRecDepth 20000 in
theorem ct_X6_heard {l : Launch} {κ : KX}  {x0 : St} {x1 : St} {x2 : St} {ps : Nat → St} {ta : St} {tb : St} {d : St} {S : St} {pg : St} {c : St} {m : St} {ot : St} {a1 : Int32} {a2 : Int32}  {v : Int32}  (h : sX6_heard x0 a1 a2 = some (.inl v)) : Ct l κ yX6_heard cX6_heard 3 (some .int) 7 110 [.ref (xE κ 8 0 0), .int a1, .int a2] ((x0, x1, x2, ps, ta, tb, d, S, pg, c, m, ot)) ((x0, x1, x2, ps, ta, tb, d, S, pg, c, m, ot)) (some (.int v)) := by
  refine Ct_i RX6 rfl (by decide +kernel) (Nat.le_of_ble_eq_true rfl) (fun g hl hκ X hf => ?_)
  subst hl; subst hκ
  exact gX6_heard (res := (.inl v)) X  hf h
set_option maxRecDepth 20000 in
theorem ce_X6_heard {l : Launch} {κ : KX}  {x0 : St} {x1 : St} {x2 : St} {ps : Nat → St} {ta : St} {tb : St} {d : St} {S : St} {pg : St} {c : St} {m : St} {ot : St} {a1 : Int32} {a2 : Int32}  {c9 : Nat}  (h : sX6_heard x0 a1 a2 = some (.inr c9)) : CtE l κ yX6_heard cX6_heard 3 (some .int) 7 110 [.ref (xE κ 8 0 0), .int a1, .int a2] ((x0, x1, x2, ps, ta, tb, d, S, pg, c, m, ot)) ((x0, x1, x2, ps, ta, tb, d, S, pg, c, m, ot)) c9 := by
  refine CtE_of RX6 rfl rfl (by decide +kernel) (Nat.le_of_ble_eq_true rfl) (by decide) (fun g hl hκ X hf => ?_)
  subst hl; subst hκ
  exact gX6_heard (res := (.inr c9)) X  hf h
set_option maxRecDepth 20000 in
theorem gX6_knows {g : GX}  {x0 : St} {x1 : St} {x2 : St} {ps : Nat → St} {ta : St} {tb : St} {d : St} {S : St} {pg : St} {c : St} {m : St} {ot : St} {a1 : Int32} {a2 : Int32} {res : (Int32 ⊕ Nat)} (X : CX g RX6 cX6_knows 3 7 110)  (hf : FinX g cX6_knows .boolean ((x0, x1, x2, ps, ta, tb, d, S, pg, c, m, ot)) (res)) (h : sX6_knows x0 a1 a2 = some res) : G g 0 0 ((x0, x1, x2, ps, ta, tb, d, S, pg, c, m, ot)) 0 [(0, .ref (xE (gκ g) 8 0 0)), (1, .int a1), (2, .int a2)] [] := by
  unfold sX6_knows at h
  refine G_aload_n X 0 dX6_knows_0 rfl rfl ?_
  refine G_iload_n X 1 dX6_knows_1 rfl rfl ?_
  obtain ⟨q1, hq1, h⟩ := bd_some h
  rcases q1 with uq1 | xq1
  rotate_left
  · have h := sm_r h
    obtain rfl := Option.some.inj h
    exact G_callVE X (As := [.int a1]) (rest := []) (ce_X6_requireBeacon (l := g.2.1) (κ := gκ g)   hq1) cal_X6_requireBeacon wM_X6_138 wI_X6_requireBeacon wS_X6_requireBeacon rfl rfl (by decide) rfl rfl (Nat.le_of_ble_eq_true rfl) dX6_knows_2 hf
  have h := sm_l h
  refine G_callV X (As := [.int a1]) (rest := []) (T' := (x0, x1, x2, ps, ta, tb, d, S, pg, c, m, ot)) (st2 := []) (ct_X6_requireBeacon (l := g.2.1) (κ := gκ g)   hq1) cal_X6_requireBeacon wM_X6_138 wI_X6_requireBeacon wS_X6_requireBeacon rfl rfl (by decide) rfl rfl (Nat.le_of_ble_eq_true rfl) ⟨Nat.zero_le _, Nat.zero_le _⟩ dX6_knows_2 rfl ?_
  refine G_aload_n X 0 dX6_knows_5 rfl rfl ?_
  refine G_iload_n X 2 dX6_knows_6 rfl rfl ?_
  obtain ⟨q2, hq2, h⟩ := bd_some h
  rcases q2 with uq2 | xq2
  rotate_left
  · have h := sm_r h
    obtain rfl := Option.some.inj h
    exact G_callVE X (As := [.int a2]) (rest := []) (ce_X6_requireBeacon (l := g.2.1) (κ := gκ g)   hq2) cal_X6_requireBeacon wM_X6_138 wI_X6_requireBeacon wS_X6_requireBeacon rfl rfl (by decide) rfl rfl (Nat.le_of_ble_eq_true rfl) dX6_knows_7 hf
  have h := sm_l h
  refine G_callV X (As := [.int a2]) (rest := []) (T' := (x0, x1, x2, ps, ta, tb, d, S, pg, c, m, ot)) (st2 := []) (ct_X6_requireBeacon (l := g.2.1) (κ := gκ g)   hq2) cal_X6_requireBeacon wM_X6_138 wI_X6_requireBeacon wS_X6_requireBeacon rfl rfl (by decide) rfl rfl (Nat.le_of_ble_eq_true rfl) ⟨Nat.zero_le _, Nat.zero_le _⟩ dX6_knows_7 rfl ?_
  refine G_aload_n X 0 dX6_knows_10 rfl rfl ?_
  refine f_X6_20 X rfl rfl dX6_knows_11 ?_
  refine G_aload_n X 0 dX6_knows_14 rfl rfl ?_
  refine f_X6_20 X rfl rfl dX6_knows_15 ?_
  refine f_X6_141 X (kd_w0 (Or.inl (by decide))) rfl dX6_knows_18 ?_
  refine G_iload_n X 1 dX6_knows_21 rfl rfl ?_
  obtain ⟨g3, h⟩ := gd_some h
  refine G_aaldB X (kd_w2 (Or.inl (by decide))) g3 dX6_knows_22 ?_
  obtain ⟨q4, hq4, h⟩ := bd_some h
  refine G_callVN X (As := [.ref (xE (gκ g) 0 (ix a1 + 1) 0)]) (rest := []) (T' := (x0, x1, x2, ps, ta, tb, d, S, pg, c, m, ot)) (st2 := [.int q4]) (ct_X5_knownTo (l := g.2.1) (κ := gκ g) (T := ((x0, x1, x2, ps, ta, tb, d, S, pg, c, m, ot))) (r := 0) (x := x0) (Or.inl (by decide)) (inb_isO (by decide) g3) hq4) cal_X5_knownTo nM_X6_178 wI_X5_knownTo wS_X5_knownTo (kd_w0 (Or.inl (by decide))) rfl (by decide) rfl rfl (Nat.le_of_ble_eq_true rfl) ⟨Nat.zero_le _, Nat.zero_le _⟩ dX6_knows_23 rfl ?_
  refine G_iload_n X 2 dX6_knows_26 rfl rfl ?_
  obtain ⟨q5, hq5, h⟩ := bd_some h
  refine G_callS X (As := [.int q4, .int a2]) (rest := []) (T' := (x0, x1, x2, ps, ta, tb, d, S, pg, c, m, ot)) (st2 := [.int q5]) (ct_X6_isIn (l := g.2.1) (κ := gκ g)   hq5) cal_X6_isIn wM_X6_205 wT_X6_isIn (by decide) rfl rfl (Nat.le_of_ble_eq_true rfl) ⟨Nat.zero_le _, Nat.zero_le _⟩ dX6_knows_27 rfl ?_
  obtain ⟨g6, h⟩ := gd_some h
  obtain rfl := Option.some.inj h
  exact (show FinI g cX6_knows _ _ _ from hf) _ _ dX6_knows_30 (isb_n g6)
set_option maxRecDepth 20000 in
theorem ct_X6_knows {l : Launch} {κ : KX}  {x0 : St} {x1 : St} {x2 : St} {ps : Nat → St} {ta : St} {tb : St} {d : St} {S : St} {pg : St} {c : St} {m : St} {ot : St} {a1 : Int32} {a2 : Int32}  {v : Int32}  (h : sX6_knows x0 a1 a2 = some (.inl v)) : Ct l κ yX6_knows cX6_knows 3 (some .boolean) 7 110 [.ref (xE κ 8 0 0), .int a1, .int a2] ((x0, x1, x2, ps, ta, tb, d, S, pg, c, m, ot)) ((x0, x1, x2, ps, ta, tb, d, S, pg, c, m, ot)) (some (.int v)) := by
  refine Ct_i RX6 rfl (by decide +kernel) (Nat.le_of_ble_eq_true rfl) (fun g hl hκ X hf => ?_)
  subst hl; subst hκ
  exact gX6_knows (res := (.inl v)) X  hf h
set_option maxRecDepth 20000 in
theorem ce_X6_knows {l : Launch} {κ : KX}  {x0 : St} {x1 : St} {x2 : St} {ps : Nat → St} {ta : St} {tb : St} {d : St} {S : St} {pg : St} {c : St} {m : St} {ot : St} {a1 : Int32} {a2 : Int32}  {c9 : Nat}  (h : sX6_knows x0 a1 a2 = some (.inr c9)) : CtE l κ yX6_knows cX6_knows 3 (some .boolean) 7 110 [.ref (xE κ 8 0 0), .int a1, .int a2] ((x0, x1, x2, ps, ta, tb, d, S, pg, c, m, ot)) ((x0, x1, x2, ps, ta, tb, d, S, pg, c, m, ot)) c9 := by
  refine CtE_of RX6 rfl rfl (by decide +kernel) (Nat.le_of_ble_eq_true rfl) (by decide) (fun g hl hκ X hf => ?_)
  subst hl; subst hκ
  exact gX6_knows (res := (.inr c9)) X  hf h
set_option maxRecDepth 20000 in
theorem gX6_whyNot {g : GX}  {x0 : St} {x1 : St} {x2 : St} {ps : Nat → St} {ta : St} {tb : St} {d : St} {S : St} {pg : St} {c : St} {m : St} {ot : St} {a1 : Int32} {a2 : Int32} {res : (Int32 ⊕ Nat)} (X : CX g RX6 cX6_whyNot 3 7 110)  (hf : FinX g cX6_whyNot .int ((x0, x1, x2, ps, ta, tb, d, S, pg, c, m, ot)) (res)) (h : sX6_whyNot x0 a1 a2 = some res) : G g 0 0 ((x0, x1, x2, ps, ta, tb, d, S, pg, c, m, ot)) 0 [(0, .ref (xE (gκ g) 8 0 0)), (1, .int a1), (2, .int a2)] [] := by
  unfold sX6_whyNot at h
  refine G_aload_n X 0 dX6_whyNot_0 rfl rfl ?_
  refine G_iload_n X 1 dX6_whyNot_1 rfl rfl ?_
  obtain ⟨q1, hq1, h⟩ := bd_some h
  rcases q1 with uq1 | xq1
  rotate_left
  · have h := sm_r h
    obtain rfl := Option.some.inj h
    exact G_callVE X (As := [.int a1]) (rest := []) (ce_X6_requireBeacon (l := g.2.1) (κ := gκ g)   hq1) cal_X6_requireBeacon wM_X6_138 wI_X6_requireBeacon wS_X6_requireBeacon rfl rfl (by decide) rfl rfl (Nat.le_of_ble_eq_true rfl) dX6_whyNot_2 hf
  have h := sm_l h
  refine G_callV X (As := [.int a1]) (rest := []) (T' := (x0, x1, x2, ps, ta, tb, d, S, pg, c, m, ot)) (st2 := []) (ct_X6_requireBeacon (l := g.2.1) (κ := gκ g)   hq1) cal_X6_requireBeacon wM_X6_138 wI_X6_requireBeacon wS_X6_requireBeacon rfl rfl (by decide) rfl rfl (Nat.le_of_ble_eq_true rfl) ⟨Nat.zero_le _, Nat.zero_le _⟩ dX6_whyNot_2 rfl ?_
  refine G_aload_n X 0 dX6_whyNot_5 rfl rfl ?_
  refine G_iload_n X 2 dX6_whyNot_6 rfl rfl ?_
  obtain ⟨q2, hq2, h⟩ := bd_some h
  rcases q2 with uq2 | xq2
  rotate_left
  · have h := sm_r h
    obtain rfl := Option.some.inj h
    exact G_callVE X (As := [.int a2]) (rest := []) (ce_X6_requireBeacon (l := g.2.1) (κ := gκ g)   hq2) cal_X6_requireBeacon wM_X6_138 wI_X6_requireBeacon wS_X6_requireBeacon rfl rfl (by decide) rfl rfl (Nat.le_of_ble_eq_true rfl) dX6_whyNot_7 hf
  have h := sm_l h
  refine G_callV X (As := [.int a2]) (rest := []) (T' := (x0, x1, x2, ps, ta, tb, d, S, pg, c, m, ot)) (st2 := []) (ct_X6_requireBeacon (l := g.2.1) (κ := gκ g)   hq2) cal_X6_requireBeacon wM_X6_138 wI_X6_requireBeacon wS_X6_requireBeacon rfl rfl (by decide) rfl rfl (Nat.le_of_ble_eq_true rfl) ⟨Nat.zero_le _, Nat.zero_le _⟩ dX6_whyNot_7 rfl ?_
  refine G_iload_n X 1 dX6_whyNot_10 rfl rfl ?_
  refine G_iload_n X 2 dX6_whyNot_11 rfl rfl ?_
  refine G_icmp_ne X (tgt := 19) dX6_whyNot_12 (by decide) (fun c3 => ?_) (fun c3 => ?_)
  · have h := it_t c3 h
    refine G_aload_n X 0 dX6_whyNot_19 rfl rfl ?_
    refine f_X6_20 X rfl rfl dX6_whyNot_20 ?_
    refine f_X6_141 X (kd_w0 (Or.inl (by decide))) rfl dX6_whyNot_23 ?_
    refine G_iload_n X 1 dX6_whyNot_26 rfl rfl ?_
    obtain ⟨g4, h⟩ := gd_some h
    refine G_aaldB X (kd_w2 (Or.inl (by decide))) g4 dX6_whyNot_27 ?_
    refine f_X6_218 X (kd_o0 (Or.inl (by decide)) (inb_isO (by decide) g4)) rfl dX6_whyNot_28 ?_
    refine G_iload_n X 2 dX6_whyNot_31 rfl rfl ?_
    obtain ⟨g5, h⟩ := gd_some h
    refine G_iald X (kd_o4 (Or.inl (by decide)) (inb_isO (by decide) g4)) rfl g5 dX6_whyNot_32 ?_
    obtain rfl := Option.some.inj h
    exact (show FinI g cX6_whyNot _ _ _ from hf) _ _ dX6_whyNot_33 rfl
  · have h := it_f (fun k => k c3) h
    refine G_iconst X (v := (5 : Int32)) dX6_whyNot_15 (by decide) ?_
    refine G_goto X (tgt := 33) dX6_whyNot_16 (by decide) ?_
    obtain rfl := Option.some.inj h
    exact (show FinI g cX6_whyNot _ _ _ from hf) _ _ dX6_whyNot_33 rfl
set_option maxRecDepth 20000 in
theorem ct_X6_whyNot {l : Launch} {κ : KX}  {x0 : St} {x1 : St} {x2 : St} {ps : Nat → St} {ta : St} {tb : St} {d : St} {S : St} {pg : St} {c : St} {m : St} {ot : St} {a1 : Int32} {a2 : Int32}  {v : Int32}  (h : sX6_whyNot x0 a1 a2 = some (.inl v)) : Ct l κ yX6_whyNot cX6_whyNot 3 (some .int) 7 110 [.ref (xE κ 8 0 0), .int a1, .int a2] ((x0, x1, x2, ps, ta, tb, d, S, pg, c, m, ot)) ((x0, x1, x2, ps, ta, tb, d, S, pg, c, m, ot)) (some (.int v)) := by
  refine Ct_i RX6 rfl (by decide +kernel) (Nat.le_of_ble_eq_true rfl) (fun g hl hκ X hf => ?_)
  subst hl; subst hκ
  exact gX6_whyNot (res := (.inl v)) X  hf h
set_option maxRecDepth 20000 in
theorem ce_X6_whyNot {l : Launch} {κ : KX}  {x0 : St} {x1 : St} {x2 : St} {ps : Nat → St} {ta : St} {tb : St} {d : St} {S : St} {pg : St} {c : St} {m : St} {ot : St} {a1 : Int32} {a2 : Int32}  {c9 : Nat}  (h : sX6_whyNot x0 a1 a2 = some (.inr c9)) : CtE l κ yX6_whyNot cX6_whyNot 3 (some .int) 7 110 [.ref (xE κ 8 0 0), .int a1, .int a2] ((x0, x1, x2, ps, ta, tb, d, S, pg, c, m, ot)) ((x0, x1, x2, ps, ta, tb, d, S, pg, c, m, ot)) c9 := by
  refine CtE_of RX6 rfl rfl (by decide +kernel) (Nat.le_of_ble_eq_true rfl) (by decide) (fun g hl hκ X hf => ?_)
  subst hl; subst hκ
  exact gX6_whyNot (res := (.inr c9)) X  hf h
set_option maxRecDepth 20000 in
theorem gX6_dueIn {g : GX}  {x0 : St} {x1 : St} {x2 : St} {ps : Nat → St} {ta : St} {tb : St} {d : St} {S : St} {pg : St} {c : St} {m : St} {ot : St} {a1 : Int32} {res : (Int32 ⊕ Nat)} (X : CX g RX6 cX6_dueIn 2 7 110)  (hf : FinX g cX6_dueIn .int ((x0, x1, x2, ps, ta, tb, d, S, pg, c, m, ot)) (res)) (h : sX6_dueIn x0 a1 = some res) : G g 0 0 ((x0, x1, x2, ps, ta, tb, d, S, pg, c, m, ot)) 0 [(0, .ref (xE (gκ g) 8 0 0)), (1, .int a1)] [] := by
  unfold sX6_dueIn at h
  refine G_aload_n X 0 dX6_dueIn_0 rfl rfl ?_
  refine G_iload_n X 1 dX6_dueIn_1 rfl rfl ?_
  obtain ⟨q1, hq1, h⟩ := bd_some h
  rcases q1 with uq1 | xq1
  rotate_left
  · have h := sm_r h
    obtain rfl := Option.some.inj h
    exact G_callVE X (As := [.int a1]) (rest := []) (ce_X6_requireBeacon (l := g.2.1) (κ := gκ g)   hq1) cal_X6_requireBeacon wM_X6_138 wI_X6_requireBeacon wS_X6_requireBeacon rfl rfl (by decide) rfl rfl (Nat.le_of_ble_eq_true rfl) dX6_dueIn_2 hf
  have h := sm_l h
  refine G_callV X (As := [.int a1]) (rest := []) (T' := (x0, x1, x2, ps, ta, tb, d, S, pg, c, m, ot)) (st2 := []) (ct_X6_requireBeacon (l := g.2.1) (κ := gκ g)   hq1) cal_X6_requireBeacon wM_X6_138 wI_X6_requireBeacon wS_X6_requireBeacon rfl rfl (by decide) rfl rfl (Nat.le_of_ble_eq_true rfl) ⟨Nat.zero_le _, Nat.zero_le _⟩ dX6_dueIn_2 rfl ?_
  refine G_aload_n X 0 dX6_dueIn_5 rfl rfl ?_
  refine f_X6_20 X rfl rfl dX6_dueIn_6 ?_
  refine f_X6_141 X (kd_w0 (Or.inl (by decide))) rfl dX6_dueIn_9 ?_
  refine G_iload_n X 1 dX6_dueIn_12 rfl rfl ?_
  obtain ⟨g2, h⟩ := gd_some h
  refine G_aaldB X (kd_w2 (Or.inl (by decide))) g2 dX6_dueIn_13 ?_
  refine G_aload_n X 0 dX6_dueIn_14 rfl rfl ?_
  refine f_X6_20 X rfl rfl dX6_dueIn_15 ?_
  refine f_X6_114 X (kd_w0 (Or.inl (by decide))) rfl dX6_dueIn_18 ?_
  obtain ⟨q3, hq3, h⟩ := bd_some h
  refine G_callVN X (As := [.int (gI x0 0 0 5)]) (rest := []) (T' := (x0, x1, x2, ps, ta, tb, d, S, pg, c, m, ot)) (st2 := [.int q3]) (ct_X0_slotsUntilDue (l := g.2.1) (κ := gκ g) (T := ((x0, x1, x2, ps, ta, tb, d, S, pg, c, m, ot))) (r := 0) (x := x0) (Or.inl (by decide)) (inb_isO (by decide) g2) hq3) cal_X0_slotsUntilDue nM_X6_221 wI_X0_slotsUntilDue wS_X0_slotsUntilDue (kd_o0 (Or.inl (by decide)) (inb_isO (by decide) g2)) rfl (by decide) rfl rfl (Nat.le_of_ble_eq_true rfl) ⟨Nat.zero_le _, Nat.zero_le _⟩ dX6_dueIn_21 rfl ?_
  obtain rfl := Option.some.inj h
  exact (show FinI g cX6_dueIn _ _ _ from hf) _ _ dX6_dueIn_24 rfl
set_option maxRecDepth 20000 in
theorem ct_X6_dueIn {l : Launch} {κ : KX}  {x0 : St} {x1 : St} {x2 : St} {ps : Nat → St} {ta : St} {tb : St} {d : St} {S : St} {pg : St} {c : St} {m : St} {ot : St} {a1 : Int32}  {v : Int32}  (h : sX6_dueIn x0 a1 = some (.inl v)) : Ct l κ yX6_dueIn cX6_dueIn 2 (some .int) 7 110 [.ref (xE κ 8 0 0), .int a1] ((x0, x1, x2, ps, ta, tb, d, S, pg, c, m, ot)) ((x0, x1, x2, ps, ta, tb, d, S, pg, c, m, ot)) (some (.int v)) := by
  refine Ct_i RX6 rfl (by decide +kernel) (Nat.le_of_ble_eq_true rfl) (fun g hl hκ X hf => ?_)
  subst hl; subst hκ
  exact gX6_dueIn (res := (.inl v)) X  hf h
set_option maxRecDepth 20000 in
theorem ce_X6_dueIn {l : Launch} {κ : KX}  {x0 : St} {x1 : St} {x2 : St} {ps : Nat → St} {ta : St} {tb : St} {d : St} {S : St} {pg : St} {c : St} {m : St} {ot : St} {a1 : Int32}  {c9 : Nat}  (h : sX6_dueIn x0 a1 = some (.inr c9)) : CtE l κ yX6_dueIn cX6_dueIn 2 (some .int) 7 110 [.ref (xE κ 8 0 0), .int a1] ((x0, x1, x2, ps, ta, tb, d, S, pg, c, m, ot)) ((x0, x1, x2, ps, ta, tb, d, S, pg, c, m, ot)) c9 := by
  refine CtE_of RX6 rfl rfl (by decide +kernel) (Nat.le_of_ble_eq_true rfl) (by decide) (fun g hl hκ X hf => ?_)
  subst hl; subst hκ
  exact gX6_dueIn (res := (.inr c9)) X  hf h
set_option maxRecDepth 20000 in
theorem gX6_hops_b17 {g : GX}  {x0 : St} {x1 : St} {x2 : St} {ps : Nat → St} {ta : St} {tb : St} {d : St} {S : St} {pg : St} {c : St} {m : St} {ot : St} {res : (Int32 ⊕ Nat)}  (X : CX g RX6 cX6_hops 5 7 110)  (hf : FinX g cX6_hops .int ((x0, x1, x2, ps, ta, tb, d, S, pg, c, m, ot)) (res))  : ∀ (n : Nat) (a2 : Int32) (a3 : Int32) (a4 : Int32) (h : sX6_hops_b17 n  x0 a2 a3 a4 = some res), G g 0 0 ((x0, x1, x2, ps, ta, tb, d, S, pg, c, m, ot)) 17 [(0, .ref (xE (gκ g) 8 0 0)), (2, .int a2), (3, .int a3), (4, .int a4)] [] := by
  intro n
  induction n with
  | zero => intro a2 a3 a4 h; unfold sX6_hops_b17 at h; cases h
  | succ n ih =>
    intro a2 a3 a4 h
    unfold sX6_hops_b17 at h
    refine G_iload X 3 dX6_hops_17 rfl ?_
    refine G_bipush X (v := (8 : Int32)) dX6_hops_19 (by decide) ?_
    refine G_icmp_ge X (tgt := 50) dX6_hops_21 (by decide) (fun c4 => ?_) (fun c4 => ?_)
    · have h := it_t c4 h
      refine G_iconst X (v := (-1 : Int32)) dX6_hops_50 (by decide) ?_
      obtain rfl := Option.some.inj h
      exact (show FinI g cX6_hops _ _ _ from hf) _ _ dX6_hops_51 rfl
    · have h := it_f c4 h
      refine G_iload_n X 2 dX6_hops_24 rfl rfl ?_
      refine G_iload_n X 1 dX6_hops_25 rfl rfl ?_
      obtain ⟨q5, hq5, h⟩ := bd_some h
      refine G_callS X (As := [.int a3, .int a2]) (rest := []) (T' := (x0, x1, x2, ps, ta, tb, d, S, pg, c, m, ot)) (st2 := [.int q5]) (ct_X6_isIn (l := g.2.1) (κ := gκ g)   hq5) cal_X6_isIn wM_X6_205 wT_X6_isIn (by decide) rfl rfl (Nat.le_of_ble_eq_true rfl) ⟨Nat.zero_le _, Nat.zero_le _⟩ dX6_hops_26 rfl ?_
      refine G_if_eq X (tgt := 35) dX6_hops_29 (by decide) (fun c6 => ?_) (fun c6 => ?_)
      · have h := it_t c6 h
        refine G_aload_n X 0 dX6_hops_35 rfl rfl ?_
        refine f_X6_20 X rfl rfl dX6_hops_36 ?_
        refine G_iload_n X 2 dX6_hops_39 rfl rfl ?_
        obtain ⟨q7, hq7, h⟩ := bd_some h
        refine G_callVN X (As := [.int a3]) (rest := []) (T' := (x0, x1, x2, ps, ta, tb, d, S, pg, c, m, ot)) (st2 := [.int q7]) (ct_X5_withNear (l := g.2.1) (κ := gκ g) (T := ((x0, x1, x2, ps, ta, tb, d, S, pg, c, m, ot))) (r := 0) (x := x0) (Or.inl (by decide)) hq7) cal_X5_withNear nM_X6_224 wI_X5_withNear wS_X5_withNear (kd_w0 (Or.inl (by decide))) rfl (by decide) rfl rfl (Nat.le_of_ble_eq_true rfl) ⟨Nat.zero_le _, Nat.zero_le _⟩ dX6_hops_40 rfl ?_
        refine G_istore_n X (lv' := [(3, .int q7), (0, .ref (xE (gκ g) 8 0 0)), (2, .int a2), (4, .int a4)]) dX6_hops_43 rfl (by decide) rfl ?_
        obtain ⟨v8, ev8, h⟩ := nm_some h
        refine G_iinc X (v := v8) (lv' := [(4, .int v8), (3, .int q7), (0, .ref (xE (gκ g) 8 0 0)), (2, .int a2)]) 3 dX6_hops_44 rfl (by rw [ev8]; rfl) (by decide) rfl ?_
        refine G_goto X (tgt := 17) dX6_hops_47 (by decide) ?_
        refine G_sub [2, 3, 1, 0] rfl ?_
        exact ih _ _ _ h
      · have h := it_f c6 h
        refine G_iload X 3 dX6_hops_32 rfl ?_
        obtain rfl := Option.some.inj h
        exact (show FinI g cX6_hops _ _ _ from hf) _ _ dX6_hops_34 rfl
set_option maxRecDepth 20000 in
theorem gX6_hops {g : GX}  {x0 : St} {x1 : St} {x2 : St} {ps : Nat → St} {ta : St} {tb : St} {d : St} {S : St} {pg : St} {c : St} {m : St} {ot : St} {a1 : Int32} {a2 : Int32} {res : (Int32 ⊕ Nat)} (X : CX g RX6 cX6_hops 5 7 110)  (hf : FinX g cX6_hops .int ((x0, x1, x2, ps, ta, tb, d, S, pg, c, m, ot)) (res)) (h : sX6_hops x0 a1 a2 = some res) : G g 0 0 ((x0, x1, x2, ps, ta, tb, d, S, pg, c, m, ot)) 0 [(0, .ref (xE (gκ g) 8 0 0)), (1, .int a1), (2, .int a2)] [] := by
  unfold sX6_hops at h
  refine G_aload_n X 0 dX6_hops_0 rfl rfl ?_
  refine G_iload_n X 1 dX6_hops_1 rfl rfl ?_
  obtain ⟨q1, hq1, h⟩ := bd_some h
  rcases q1 with uq1 | xq1
  rotate_left
  · have h := sm_r h
    obtain rfl := Option.some.inj h
    exact G_callVE X (As := [.int a1]) (rest := []) (ce_X6_requireBeacon (l := g.2.1) (κ := gκ g)   hq1) cal_X6_requireBeacon wM_X6_138 wI_X6_requireBeacon wS_X6_requireBeacon rfl rfl (by decide) rfl rfl (Nat.le_of_ble_eq_true rfl) dX6_hops_2 hf
  have h := sm_l h
  refine G_callV X (As := [.int a1]) (rest := []) (T' := (x0, x1, x2, ps, ta, tb, d, S, pg, c, m, ot)) (st2 := []) (ct_X6_requireBeacon (l := g.2.1) (κ := gκ g)   hq1) cal_X6_requireBeacon wM_X6_138 wI_X6_requireBeacon wS_X6_requireBeacon rfl rfl (by decide) rfl rfl (Nat.le_of_ble_eq_true rfl) ⟨Nat.zero_le _, Nat.zero_le _⟩ dX6_hops_2 rfl ?_
  refine G_aload_n X 0 dX6_hops_5 rfl rfl ?_
  refine G_iload_n X 2 dX6_hops_6 rfl rfl ?_
  obtain ⟨q2, hq2, h⟩ := bd_some h
  rcases q2 with uq2 | xq2
  rotate_left
  · have h := sm_r h
    obtain rfl := Option.some.inj h
    exact G_callVE X (As := [.int a2]) (rest := []) (ce_X6_requireBeacon (l := g.2.1) (κ := gκ g)   hq2) cal_X6_requireBeacon wM_X6_138 wI_X6_requireBeacon wS_X6_requireBeacon rfl rfl (by decide) rfl rfl (Nat.le_of_ble_eq_true rfl) dX6_hops_7 hf
  have h := sm_l h
  refine G_callV X (As := [.int a2]) (rest := []) (T' := (x0, x1, x2, ps, ta, tb, d, S, pg, c, m, ot)) (st2 := []) (ct_X6_requireBeacon (l := g.2.1) (κ := gκ g)   hq2) cal_X6_requireBeacon wM_X6_138 wI_X6_requireBeacon wS_X6_requireBeacon rfl rfl (by decide) rfl rfl (Nat.le_of_ble_eq_true rfl) ⟨Nat.zero_le _, Nat.zero_le _⟩ dX6_hops_7 rfl ?_
  refine G_iconst X (v := (1 : Int32)) dX6_hops_10 (by decide) ?_
  refine G_iload_n X 1 dX6_hops_11 rfl rfl ?_
  refine G_ishl X dX6_hops_12 ?_
  obtain ⟨v3, ev3, h⟩ := nm_some h
  refine G_nmi ev3 ?_
  refine G_istore_n X (lv' := [(3, .int v3), (0, .ref (xE (gκ g) 8 0 0)), (1, .int a1), (2, .int a2)]) dX6_hops_13 rfl (by decide) rfl ?_
  refine G_iconst X (v := (0 : Int32)) dX6_hops_14 (by decide) ?_
  refine G_istore X (lv' := [(4, .int ((0 : Int32))), (3, .int v3), (0, .ref (xE (gκ g) 8 0 0)), (1, .int a1), (2, .int a2)]) dX6_hops_15 (by decide) rfl ?_
  refine G_sub [2, 4, 1, 0] rfl ?_
  exact gX6_hops_b17 X hf FU _ _ _ h
set_option maxRecDepth 20000 in
theorem ct_X6_hops {l : Launch} {κ : KX}  {x0 : St} {x1 : St} {x2 : St} {ps : Nat → St} {ta : St} {tb : St} {d : St} {S : St} {pg : St} {c : St} {m : St} {ot : St} {a1 : Int32} {a2 : Int32}  {v : Int32}  (h : sX6_hops x0 a1 a2 = some (.inl v)) : Ct l κ yX6_hops cX6_hops 5 (some .int) 7 110 [.ref (xE κ 8 0 0), .int a1, .int a2] ((x0, x1, x2, ps, ta, tb, d, S, pg, c, m, ot)) ((x0, x1, x2, ps, ta, tb, d, S, pg, c, m, ot)) (some (.int v)) := by
  refine Ct_i RX6 rfl (by decide +kernel) (Nat.le_of_ble_eq_true rfl) (fun g hl hκ X hf => ?_)
  subst hl; subst hκ
  exact gX6_hops (res := (.inl v)) X  hf h
set_option maxRecDepth 20000 in
theorem ce_X6_hops {l : Launch} {κ : KX}  {x0 : St} {x1 : St} {x2 : St} {ps : Nat → St} {ta : St} {tb : St} {d : St} {S : St} {pg : St} {c : St} {m : St} {ot : St} {a1 : Int32} {a2 : Int32}  {c9 : Nat}  (h : sX6_hops x0 a1 a2 = some (.inr c9)) : CtE l κ yX6_hops cX6_hops 5 (some .int) 7 110 [.ref (xE κ 8 0 0), .int a1, .int a2] ((x0, x1, x2, ps, ta, tb, d, S, pg, c, m, ot)) ((x0, x1, x2, ps, ta, tb, d, S, pg, c, m, ot)) c9 := by
  refine CtE_of RX6 rfl rfl (by decide +kernel) (Nat.le_of_ble_eq_true rfl) (by decide) (fun g hl hκ X hf => ?_)
  subst hl; subst hκ
  exact gX6_hops (res := (.inr c9)) X  hf h
set_option maxRecDepth 20000 in
theorem gX6_window {g : GX}  {x0 : St} {x1 : St} {x2 : St} {ps : Nat → St} {ta : St} {tb : St} {d : St} {S : St} {pg : St} {c : St} {m : St} {ot : St} {a1 : Int32} {res : (Int32 ⊕ Nat)} (X : CX g RX6 cX6_window 2 7 110)  (hf : FinX g cX6_window .int ((x0, x1, x2, ps, ta, tb, d, S, pg, c, m, ot)) (res)) (h : sX6_window x0 a1 = some res) : G g 0 0 ((x0, x1, x2, ps, ta, tb, d, S, pg, c, m, ot)) 0 [(0, .ref (xE (gκ g) 8 0 0)), (1, .int a1)] [] := by
  unfold sX6_window at h
  refine G_aload_n X 0 dX6_window_0 rfl rfl ?_
  refine G_iload_n X 1 dX6_window_1 rfl rfl ?_
  obtain ⟨q1, hq1, h⟩ := bd_some h
  rcases q1 with uq1 | xq1
  rotate_left
  · have h := sm_r h
    obtain rfl := Option.some.inj h
    exact G_callVE X (As := [.int a1]) (rest := []) (ce_X6_requireBeacon (l := g.2.1) (κ := gκ g)   hq1) cal_X6_requireBeacon wM_X6_138 wI_X6_requireBeacon wS_X6_requireBeacon rfl rfl (by decide) rfl rfl (Nat.le_of_ble_eq_true rfl) dX6_window_2 hf
  have h := sm_l h
  refine G_callV X (As := [.int a1]) (rest := []) (T' := (x0, x1, x2, ps, ta, tb, d, S, pg, c, m, ot)) (st2 := []) (ct_X6_requireBeacon (l := g.2.1) (κ := gκ g)   hq1) cal_X6_requireBeacon wM_X6_138 wI_X6_requireBeacon wS_X6_requireBeacon rfl rfl (by decide) rfl rfl (Nat.le_of_ble_eq_true rfl) ⟨Nat.zero_le _, Nat.zero_le _⟩ dX6_window_2 rfl ?_
  refine G_aload_n X 0 dX6_window_5 rfl rfl ?_
  refine f_X6_20 X rfl rfl dX6_window_6 ?_
  refine f_X6_141 X (kd_w0 (Or.inl (by decide))) rfl dX6_window_9 ?_
  refine G_iload_n X 1 dX6_window_12 rfl rfl ?_
  obtain ⟨g2, h⟩ := gd_some h
  refine G_aaldB X (kd_w2 (Or.inl (by decide))) g2 dX6_window_13 ?_
  obtain ⟨q3, hq3, h⟩ := bd_some h
  refine G_callVN X (As := []) (rest := []) (T' := (x0, x1, x2, ps, ta, tb, d, S, pg, c, m, ot)) (st2 := [.int q3]) (ct_X0_windowSize (l := g.2.1) (κ := gκ g) (T := ((x0, x1, x2, ps, ta, tb, d, S, pg, c, m, ot))) (r := 0) (x := x0) (Or.inl (by decide)) (inb_isO (by decide) g2) hq3) cal_X0_windowSize nM_X6_234 wI_X0_windowSize wS_X0_windowSize (kd_o0 (Or.inl (by decide)) (inb_isO (by decide) g2)) rfl (by decide) rfl rfl (Nat.le_of_ble_eq_true rfl) ⟨Nat.zero_le _, Nat.zero_le _⟩ dX6_window_14 rfl ?_
  obtain rfl := Option.some.inj h
  exact (show FinI g cX6_window _ _ _ from hf) _ _ dX6_window_17 rfl
set_option maxRecDepth 20000 in
theorem ct_X6_window {l : Launch} {κ : KX}  {x0 : St} {x1 : St} {x2 : St} {ps : Nat → St} {ta : St} {tb : St} {d : St} {S : St} {pg : St} {c : St} {m : St} {ot : St} {a1 : Int32}  {v : Int32}  (h : sX6_window x0 a1 = some (.inl v)) : Ct l κ yX6_window cX6_window 2 (some .int) 7 110 [.ref (xE κ 8 0 0), .int a1] ((x0, x1, x2, ps, ta, tb, d, S, pg, c, m, ot)) ((x0, x1, x2, ps, ta, tb, d, S, pg, c, m, ot)) (some (.int v)) := by
  refine Ct_i RX6 rfl (by decide +kernel) (Nat.le_of_ble_eq_true rfl) (fun g hl hκ X hf => ?_)
  subst hl; subst hκ
  exact gX6_window (res := (.inl v)) X  hf h
set_option maxRecDepth 20000 in
theorem ce_X6_window {l : Launch} {κ : KX}  {x0 : St} {x1 : St} {x2 : St} {ps : Nat → St} {ta : St} {tb : St} {d : St} {S : St} {pg : St} {c : St} {m : St} {ot : St} {a1 : Int32}  {c9 : Nat}  (h : sX6_window x0 a1 = some (.inr c9)) : CtE l κ yX6_window cX6_window 2 (some .int) 7 110 [.ref (xE κ 8 0 0), .int a1] ((x0, x1, x2, ps, ta, tb, d, S, pg, c, m, ot)) ((x0, x1, x2, ps, ta, tb, d, S, pg, c, m, ot)) c9 := by
  refine CtE_of RX6 rfl rfl (by decide +kernel) (Nat.le_of_ble_eq_true rfl) (by decide) (fun g hl hκ X hf => ?_)
  subst hl; subst hκ
  exact gX6_window (res := (.inr c9)) X  hf h
set_option maxRecDepth 20000 in
theorem gX6_requireAhead_b11 {g : GX} {T : TT}    {res : (Unit ⊕ Nat)}  (X : CX g RX6 cX6_requireAhead 1 6 89)  (hf : FinU g cX6_requireAhead (T) (res))   (h : sX6_requireAhead_b11   = some res) : G g 0 0 (T) 11 [] [] := by
  unfold sX6_requireAhead_b11 at h
  obtain rfl := Option.some.inj h
  exact (show FinE g cX6_requireAhead _ 2 from hf).1 _ _ _ dX6_requireAhead_11 dX6_requireAhead_14 dX6_requireAhead_15 dX6_requireAhead_18 (Nat.le_of_ble_eq_true rfl)
set_option maxRecDepth 20000 in
theorem gX6_requireAhead {g : GX} {T : TT}   {a0 : Int32} {res : (Unit ⊕ Nat)} (X : CX g RX6 cX6_requireAhead 1 6 89)  (hf : FinU g cX6_requireAhead (T) (res)) (h : sX6_requireAhead a0 = some res) : G g 0 0 (T) 0 [(0, .int a0)] [] := by
  unfold sX6_requireAhead at h
  refine G_iload_n X 0 dX6_requireAhead_0 rfl rfl ?_
  refine G_if_lt X (tgt := 11) dX6_requireAhead_1 (by decide) (fun c1 => ?_) (fun c1 => ?_)
  · have h := it_t c1 h
    refine G_sub [] rfl ?_
    exact gX6_requireAhead_b11 X hf h
  · have h := it_f c1 h
    refine G_iload_n X 0 dX6_requireAhead_4 rfl rfl ?_
    refine G_sipush X (v := (200 : Int32)) dX6_requireAhead_5 (by decide) ?_
    refine G_icmp_le X (tgt := 19) dX6_requireAhead_8 (by decide) (fun c2 => ?_) (fun c2 => ?_)
    · have h := it_t c2 h
      obtain rfl := Option.some.inj h
      exact (show FinV g cX6_requireAhead _ from hf) _ _ dX6_requireAhead_19
    · have h := it_f c2 h
      refine G_sub [] rfl ?_
      exact gX6_requireAhead_b11 X hf h
set_option maxRecDepth 20000 in
theorem ct_X6_requireAhead {l : Launch} {κ : KX} {T : TT}   {a0 : Int32}  {v : Unit}  (h : sX6_requireAhead a0 = some (.inl v)) : Ct l κ yX6_requireAhead cX6_requireAhead 1 none 6 89 [.int a0] (T) (T) none := by
  refine Ct_v RX6 rfl (by decide +kernel) (Nat.le_of_ble_eq_true rfl) (fun g hl hκ X hf => ?_)
  subst hl; subst hκ
  exact gX6_requireAhead (res := (.inl v)) X  hf h
set_option maxRecDepth 20000 in
theorem ce_X6_requireAhead {l : Launch} {κ : KX} {T : TT}   {a0 : Int32}  {c9 : Nat}  (h : sX6_requireAhead a0 = some (.inr c9)) : CtE l κ yX6_requireAhead cX6_requireAhead 1 none 6 89 [.int a0] (T) (T) c9 := by
  refine CtE_of RX6 rfl rfl (by decide +kernel) (Nat.le_of_ble_eq_true rfl) (by decide) (fun g hl hκ X hf => ?_)
  subst hl; subst hκ
  exact gX6_requireAhead (res := (.inr c9)) X  hf h
set_option maxRecDepth 20000 in
theorem gX6_tryAhead {g : GX}  {x0 : St} {x1 : St} {x2 : St} {ps : Nat → St} {ta : St} {tb : St} {d : St} {S : St} {pg : St} {c : St} {m : St} {ot : St} {a1 : Int32} {res : St} (X : CX g RX6 cX6_tryAhead 2 5 107)  (hf : FinV g cX6_tryAhead ((x0, res, x2, ps, ta, tb, d, S, pg, c, m, ot))) (h : sX6_tryAhead x0 x1 a1 = some res) : G g 0 0 ((x0, x1, x2, ps, ta, tb, d, S, pg, c, m, ot)) 0 [(0, .ref (xE (gκ g) 8 0 0)), (1, .int a1)] [] := by
  unfold sX6_tryAhead at h
  refine G_aload_n X 0 dX6_tryAhead_0 rfl rfl ?_
  refine f_X6_24 X rfl rfl dX6_tryAhead_1 ?_
  refine G_aload_n X 0 dX6_tryAhead_4 rfl rfl ?_
  refine f_X6_20 X rfl rfl dX6_tryAhead_5 ?_
  obtain ⟨q1, hq1, h⟩ := bd_some h
  refine G_callVN X (As := [.ref (xE (gκ g) 0 0 0)]) (rest := []) (T' := (x0, q1, x2, ps, ta, tb, d, S, pg, c, m, ot)) (st2 := []) (ct_X5_copyFrom (l := g.2.1) (κ := gκ g) (T := ((x0, x1, x2, ps, ta, tb, d, S, pg, c, m, ot))) (r := 1) (x := x1) (r2 := 0) (Or.inl (by decide)) (Or.inl (by decide)) (by decide) rfl hq1) cal_X5_copyFrom nM_X6_86 wI_X5_copyFrom wS_X5_copyFrom (kd_w0 (Or.inl (by decide))) rfl (by decide) rfl rfl (Nat.le_of_ble_eq_true rfl) ⟨Nat.zero_le _, Nat.zero_le _⟩ dX6_tryAhead_8 rfl ?_
  refine G_aload_n X 0 dX6_tryAhead_11 rfl rfl ?_
  refine f_X6_24 X rfl rfl dX6_tryAhead_12 ?_
  refine G_iload_n X 1 dX6_tryAhead_15 rfl rfl ?_
  obtain ⟨q2, hq2, h⟩ := bd_some h
  refine G_callVN X (As := [.int a1]) (rest := []) (T' := (x0, q2, x2, ps, ta, tb, d, S, pg, c, m, ot)) (st2 := []) (ct_X5_pass (l := g.2.1) (κ := gκ g) (T := ((x0, q1, x2, ps, ta, tb, d, S, pg, c, m, ot))) (r := 1) (x := q1) (Or.inl (by decide)) hq2) cal_X5_pass nM_X6_247 wI_X5_pass wS_X5_pass (kd_w0 (Or.inl (by decide))) rfl (by decide) rfl rfl (Nat.le_of_ble_eq_true rfl) ⟨Nat.zero_le _, Nat.zero_le _⟩ dX6_tryAhead_16 rfl ?_
  obtain rfl := Option.some.inj h
  exact hf _ _ dX6_tryAhead_19
set_option maxRecDepth 20000 in
theorem ct_X6_tryAhead {l : Launch} {κ : KX}  {x0 : St} {x1 : St} {x2 : St} {ps : Nat → St} {ta : St} {tb : St} {d : St} {S : St} {pg : St} {c : St} {m : St} {ot : St} {a1 : Int32} {res : St}  (h : sX6_tryAhead x0 x1 a1 = some res) : Ct l κ yX6_tryAhead cX6_tryAhead 2 none 5 107 [.ref (xE κ 8 0 0), .int a1] ((x0, x1, x2, ps, ta, tb, d, S, pg, c, m, ot)) ((x0, res, x2, ps, ta, tb, d, S, pg, c, m, ot)) none := by
  refine Ct_v RX6 rfl (by decide +kernel) (Nat.le_of_ble_eq_true rfl) (fun g hl hκ X hf => ?_)
  subst hl; subst hκ
  exact gX6_tryAhead X  hf h
set_option maxRecDepth 20000 in
theorem gX6_stateIn {g : GX}  {x0 : St} {x1 : St} {x2 : St} {ps : Nat → St} {ta : St} {tb : St} {d : St} {S : St} {pg : St} {c : St} {m : St} {ot : St} {a1 : Int32} {a2 : Int32} {res : St × (Int32 ⊕ Nat)} (X : CX g RX6 cX6_stateIn 3 7 128)  (hf : FinX g cX6_stateIn .int ((x0, res.1, x2, ps, ta, tb, d, S, pg, c, m, ot)) (res.2)) (h : sX6_stateIn x0 x1 a1 a2 = some res) : G g 0 0 ((x0, x1, x2, ps, ta, tb, d, S, pg, c, m, ot)) 0 [(0, .ref (xE (gκ g) 8 0 0)), (1, .int a1), (2, .int a2)] [] := by
  unfold sX6_stateIn at h
  refine G_aload_n X 0 dX6_stateIn_0 rfl rfl ?_
  refine G_iload_n X 1 dX6_stateIn_1 rfl rfl ?_
  obtain ⟨q1, hq1, h⟩ := bd_some h
  rcases q1 with uq1 | xq1
  rotate_left
  · have h := sm_r h
    obtain rfl := Option.some.inj h
    exact G_callVE X (As := [.int a1]) (rest := []) (ce_X6_requireBeacon (l := g.2.1) (κ := gκ g)   hq1) cal_X6_requireBeacon wM_X6_138 wI_X6_requireBeacon wS_X6_requireBeacon rfl rfl (by decide) rfl rfl (Nat.le_of_ble_eq_true rfl) dX6_stateIn_2 hf
  have h := sm_l h
  refine G_callV X (As := [.int a1]) (rest := []) (T' := (x0, x1, x2, ps, ta, tb, d, S, pg, c, m, ot)) (st2 := []) (ct_X6_requireBeacon (l := g.2.1) (κ := gκ g)   hq1) cal_X6_requireBeacon wM_X6_138 wI_X6_requireBeacon wS_X6_requireBeacon rfl rfl (by decide) rfl rfl (Nat.le_of_ble_eq_true rfl) ⟨Nat.zero_le _, Nat.zero_le _⟩ dX6_stateIn_2 rfl ?_
  refine G_iload_n X 2 dX6_stateIn_5 rfl rfl ?_
  obtain ⟨q2, hq2, h⟩ := bd_some h
  rcases q2 with uq2 | xq2
  rotate_left
  · have h := sm_r h
    obtain rfl := Option.some.inj h
    exact G_callSE X (As := [.int a2]) (rest := []) (ce_X6_requireAhead (l := g.2.1) (κ := gκ g) (T := (x0, x1, x2, ps, ta, tb, d, S, pg, c, m, ot))  hq2) cal_X6_requireAhead wM_X6_237 wT_X6_requireAhead (by decide) rfl rfl (Nat.le_of_ble_eq_true rfl) dX6_stateIn_6 hf
  have h := sm_l h
  refine G_callS X (As := [.int a2]) (rest := []) (T' := (x0, x1, x2, ps, ta, tb, d, S, pg, c, m, ot)) (st2 := []) (ct_X6_requireAhead (l := g.2.1) (κ := gκ g)   hq2) cal_X6_requireAhead wM_X6_237 wT_X6_requireAhead (by decide) rfl rfl (Nat.le_of_ble_eq_true rfl) ⟨Nat.zero_le _, Nat.zero_le _⟩ dX6_stateIn_6 rfl ?_
  refine G_aload_n X 0 dX6_stateIn_9 rfl rfl ?_
  refine G_iload_n X 2 dX6_stateIn_10 rfl rfl ?_
  obtain ⟨q3, hq3, h⟩ := bd_some h
  refine G_callV X (As := [.int a2]) (rest := []) (T' := (x0, q3, x2, ps, ta, tb, d, S, pg, c, m, ot)) (st2 := []) (ct_X6_tryAhead (l := g.2.1) (κ := gκ g)   hq3) cal_X6_tryAhead wM_X6_240 wI_X6_tryAhead wS_X6_tryAhead rfl rfl (by decide) rfl rfl (Nat.le_of_ble_eq_true rfl) ⟨Nat.zero_le _, Nat.zero_le _⟩ dX6_stateIn_11 rfl ?_
  refine G_aload_n X 0 dX6_stateIn_14 rfl rfl ?_
  refine f_X6_24 X rfl rfl dX6_stateIn_15 ?_
  refine f_X6_141 X (kd_w0 (Or.inl (by decide))) rfl dX6_stateIn_18 ?_
  refine G_iload_n X 1 dX6_stateIn_21 rfl rfl ?_
  obtain ⟨g4, h⟩ := gd_some h
  refine G_aaldB X (kd_w2 (Or.inl (by decide))) g4 dX6_stateIn_22 ?_
  refine f_X6_162 X (kd_o0 (Or.inl (by decide)) (inb_isO (by decide) g4)) rfl dX6_stateIn_23 ?_
  obtain rfl := Option.some.inj h
  exact (show FinI g cX6_stateIn _ _ _ from hf) _ _ dX6_stateIn_26 rfl
set_option maxRecDepth 20000 in
theorem ct_X6_stateIn {l : Launch} {κ : KX}  {x0 : St} {x1 : St} {x2 : St} {ps : Nat → St} {ta : St} {tb : St} {d : St} {S : St} {pg : St} {c : St} {m : St} {ot : St} {a1 : Int32} {a2 : Int32} {e0 : St} {v : Int32}  (h : sX6_stateIn x0 x1 a1 a2 = some (e0, .inl v)) : Ct l κ yX6_stateIn cX6_stateIn 3 (some .int) 7 128 [.ref (xE κ 8 0 0), .int a1, .int a2] ((x0, x1, x2, ps, ta, tb, d, S, pg, c, m, ot)) ((x0, e0, x2, ps, ta, tb, d, S, pg, c, m, ot)) (some (.int v)) := by
  refine Ct_i RX6 rfl (by decide +kernel) (Nat.le_of_ble_eq_true rfl) (fun g hl hκ X hf => ?_)
  subst hl; subst hκ
  exact gX6_stateIn (res := (e0, .inl v)) X  hf h
set_option maxRecDepth 20000 in
theorem ce_X6_stateIn {l : Launch} {κ : KX}  {x0 : St} {x1 : St} {x2 : St} {ps : Nat → St} {ta : St} {tb : St} {d : St} {S : St} {pg : St} {c : St} {m : St} {ot : St} {a1 : Int32} {a2 : Int32} {e0 : St} {c9 : Nat}  (h : sX6_stateIn x0 x1 a1 a2 = some (e0, .inr c9)) : CtE l κ yX6_stateIn cX6_stateIn 3 (some .int) 7 128 [.ref (xE κ 8 0 0), .int a1, .int a2] ((x0, x1, x2, ps, ta, tb, d, S, pg, c, m, ot)) ((x0, e0, x2, ps, ta, tb, d, S, pg, c, m, ot)) c9 := by
  refine CtE_of RX6 rfl rfl (by decide +kernel) (Nat.le_of_ble_eq_true rfl) (by decide) (fun g hl hκ X hf => ?_)
  subst hl; subst hκ
  exact gX6_stateIn (res := (e0, .inr c9)) X  hf h
set_option maxRecDepth 20000 in
theorem gX6_energyIn {g : GX}  {x0 : St} {x1 : St} {x2 : St} {ps : Nat → St} {ta : St} {tb : St} {d : St} {S : St} {pg : St} {c : St} {m : St} {ot : St} {a1 : Int32} {a2 : Int32} {res : St × (Int32 ⊕ Nat)} (X : CX g RX6 cX6_energyIn 3 7 128)  (hf : FinX g cX6_energyIn .int ((x0, res.1, x2, ps, ta, tb, d, S, pg, c, m, ot)) (res.2)) (h : sX6_energyIn x0 x1 a1 a2 = some res) : G g 0 0 ((x0, x1, x2, ps, ta, tb, d, S, pg, c, m, ot)) 0 [(0, .ref (xE (gκ g) 8 0 0)), (1, .int a1), (2, .int a2)] [] := by
  unfold sX6_energyIn at h
  refine G_aload_n X 0 dX6_energyIn_0 rfl rfl ?_
  refine G_iload_n X 1 dX6_energyIn_1 rfl rfl ?_
  obtain ⟨q1, hq1, h⟩ := bd_some h
  rcases q1 with uq1 | xq1
  rotate_left
  · have h := sm_r h
    obtain rfl := Option.some.inj h
    exact G_callVE X (As := [.int a1]) (rest := []) (ce_X6_requireBeacon (l := g.2.1) (κ := gκ g)   hq1) cal_X6_requireBeacon wM_X6_138 wI_X6_requireBeacon wS_X6_requireBeacon rfl rfl (by decide) rfl rfl (Nat.le_of_ble_eq_true rfl) dX6_energyIn_2 hf
  have h := sm_l h
  refine G_callV X (As := [.int a1]) (rest := []) (T' := (x0, x1, x2, ps, ta, tb, d, S, pg, c, m, ot)) (st2 := []) (ct_X6_requireBeacon (l := g.2.1) (κ := gκ g)   hq1) cal_X6_requireBeacon wM_X6_138 wI_X6_requireBeacon wS_X6_requireBeacon rfl rfl (by decide) rfl rfl (Nat.le_of_ble_eq_true rfl) ⟨Nat.zero_le _, Nat.zero_le _⟩ dX6_energyIn_2 rfl ?_
  refine G_iload_n X 2 dX6_energyIn_5 rfl rfl ?_
  obtain ⟨q2, hq2, h⟩ := bd_some h
  rcases q2 with uq2 | xq2
  rotate_left
  · have h := sm_r h
    obtain rfl := Option.some.inj h
    exact G_callSE X (As := [.int a2]) (rest := []) (ce_X6_requireAhead (l := g.2.1) (κ := gκ g) (T := (x0, x1, x2, ps, ta, tb, d, S, pg, c, m, ot))  hq2) cal_X6_requireAhead wM_X6_237 wT_X6_requireAhead (by decide) rfl rfl (Nat.le_of_ble_eq_true rfl) dX6_energyIn_6 hf
  have h := sm_l h
  refine G_callS X (As := [.int a2]) (rest := []) (T' := (x0, x1, x2, ps, ta, tb, d, S, pg, c, m, ot)) (st2 := []) (ct_X6_requireAhead (l := g.2.1) (κ := gκ g)   hq2) cal_X6_requireAhead wM_X6_237 wT_X6_requireAhead (by decide) rfl rfl (Nat.le_of_ble_eq_true rfl) ⟨Nat.zero_le _, Nat.zero_le _⟩ dX6_energyIn_6 rfl ?_
  refine G_aload_n X 0 dX6_energyIn_9 rfl rfl ?_
  refine G_iload_n X 2 dX6_energyIn_10 rfl rfl ?_
  obtain ⟨q3, hq3, h⟩ := bd_some h
  refine G_callV X (As := [.int a2]) (rest := []) (T' := (x0, q3, x2, ps, ta, tb, d, S, pg, c, m, ot)) (st2 := []) (ct_X6_tryAhead (l := g.2.1) (κ := gκ g)   hq3) cal_X6_tryAhead wM_X6_240 wI_X6_tryAhead wS_X6_tryAhead rfl rfl (by decide) rfl rfl (Nat.le_of_ble_eq_true rfl) ⟨Nat.zero_le _, Nat.zero_le _⟩ dX6_energyIn_11 rfl ?_
  refine G_aload_n X 0 dX6_energyIn_14 rfl rfl ?_
  refine f_X6_24 X rfl rfl dX6_energyIn_15 ?_
  refine f_X6_141 X (kd_w0 (Or.inl (by decide))) rfl dX6_energyIn_18 ?_
  refine G_iload_n X 1 dX6_energyIn_21 rfl rfl ?_
  obtain ⟨g4, h⟩ := gd_some h
  refine G_aaldB X (kd_w2 (Or.inl (by decide))) g4 dX6_energyIn_22 ?_
  refine f_X6_159 X (kd_o0 (Or.inl (by decide)) (inb_isO (by decide) g4)) rfl dX6_energyIn_23 ?_
  obtain rfl := Option.some.inj h
  exact (show FinI g cX6_energyIn _ _ _ from hf) _ _ dX6_energyIn_26 rfl
set_option maxRecDepth 20000 in
theorem ct_X6_energyIn {l : Launch} {κ : KX}  {x0 : St} {x1 : St} {x2 : St} {ps : Nat → St} {ta : St} {tb : St} {d : St} {S : St} {pg : St} {c : St} {m : St} {ot : St} {a1 : Int32} {a2 : Int32} {e0 : St} {v : Int32}  (h : sX6_energyIn x0 x1 a1 a2 = some (e0, .inl v)) : Ct l κ yX6_energyIn cX6_energyIn 3 (some .int) 7 128 [.ref (xE κ 8 0 0), .int a1, .int a2] ((x0, x1, x2, ps, ta, tb, d, S, pg, c, m, ot)) ((x0, e0, x2, ps, ta, tb, d, S, pg, c, m, ot)) (some (.int v)) := by
  refine Ct_i RX6 rfl (by decide +kernel) (Nat.le_of_ble_eq_true rfl) (fun g hl hκ X hf => ?_)
  subst hl; subst hκ
  exact gX6_energyIn (res := (e0, .inl v)) X  hf h
set_option maxRecDepth 20000 in
theorem ce_X6_energyIn {l : Launch} {κ : KX}  {x0 : St} {x1 : St} {x2 : St} {ps : Nat → St} {ta : St} {tb : St} {d : St} {S : St} {pg : St} {c : St} {m : St} {ot : St} {a1 : Int32} {a2 : Int32} {e0 : St} {c9 : Nat}  (h : sX6_energyIn x0 x1 a1 a2 = some (e0, .inr c9)) : CtE l κ yX6_energyIn cX6_energyIn 3 (some .int) 7 128 [.ref (xE κ 8 0 0), .int a1, .int a2] ((x0, x1, x2, ps, ta, tb, d, S, pg, c, m, ot)) ((x0, e0, x2, ps, ta, tb, d, S, pg, c, m, ot)) c9 := by
  refine CtE_of RX6 rfl rfl (by decide +kernel) (Nat.le_of_ble_eq_true rfl) (by decide) (fun g hl hκ X hf => ?_)
  subst hl; subst hκ
  exact gX6_energyIn (res := (e0, .inr c9)) X  hf h
set_option maxRecDepth 20000 in
theorem gX6_collisionsIn {g : GX}  {x0 : St} {x1 : St} {x2 : St} {ps : Nat → St} {ta : St} {tb : St} {d : St} {S : St} {pg : St} {c : St} {m : St} {ot : St} {a1 : Int32} {res : St × (Int32 ⊕ Nat)} (X : CX g RX6 cX6_collisionsIn 2 7 128)  (hf : FinX g cX6_collisionsIn .int ((x0, res.1, x2, ps, ta, tb, d, S, pg, c, m, ot)) (res.2)) (h : sX6_collisionsIn x0 x1 a1 = some res) : G g 0 0 ((x0, x1, x2, ps, ta, tb, d, S, pg, c, m, ot)) 0 [(0, .ref (xE (gκ g) 8 0 0)), (1, .int a1)] [] := by
  unfold sX6_collisionsIn at h
  refine G_iload_n X 1 dX6_collisionsIn_0 rfl rfl ?_
  obtain ⟨q1, hq1, h⟩ := bd_some h
  rcases q1 with uq1 | xq1
  rotate_left
  · have h := sm_r h
    obtain rfl := Option.some.inj h
    exact G_callSE X (As := [.int a1]) (rest := []) (ce_X6_requireAhead (l := g.2.1) (κ := gκ g) (T := (x0, x1, x2, ps, ta, tb, d, S, pg, c, m, ot))  hq1) cal_X6_requireAhead wM_X6_237 wT_X6_requireAhead (by decide) rfl rfl (Nat.le_of_ble_eq_true rfl) dX6_collisionsIn_1 hf
  have h := sm_l h
  refine G_callS X (As := [.int a1]) (rest := []) (T' := (x0, x1, x2, ps, ta, tb, d, S, pg, c, m, ot)) (st2 := []) (ct_X6_requireAhead (l := g.2.1) (κ := gκ g)   hq1) cal_X6_requireAhead wM_X6_237 wT_X6_requireAhead (by decide) rfl rfl (Nat.le_of_ble_eq_true rfl) ⟨Nat.zero_le _, Nat.zero_le _⟩ dX6_collisionsIn_1 rfl ?_
  refine G_aload_n X 0 dX6_collisionsIn_4 rfl rfl ?_
  refine G_iload_n X 1 dX6_collisionsIn_5 rfl rfl ?_
  obtain ⟨q2, hq2, h⟩ := bd_some h
  refine G_callV X (As := [.int a1]) (rest := []) (T' := (x0, q2, x2, ps, ta, tb, d, S, pg, c, m, ot)) (st2 := []) (ct_X6_tryAhead (l := g.2.1) (κ := gκ g)   hq2) cal_X6_tryAhead wM_X6_240 wI_X6_tryAhead wS_X6_tryAhead rfl rfl (by decide) rfl rfl (Nat.le_of_ble_eq_true rfl) ⟨Nat.zero_le _, Nat.zero_le _⟩ dX6_collisionsIn_6 rfl ?_
  refine G_aload_n X 0 dX6_collisionsIn_9 rfl rfl ?_
  refine f_X6_24 X rfl rfl dX6_collisionsIn_10 ?_
  refine f_X6_129 X (kd_w0 (Or.inl (by decide))) rfl dX6_collisionsIn_13 ?_
  refine G_aload_n X 0 dX6_collisionsIn_16 rfl rfl ?_
  refine f_X6_20 X rfl rfl dX6_collisionsIn_17 ?_
  refine f_X6_129 X (kd_w0 (Or.inl (by decide))) rfl dX6_collisionsIn_20 ?_
  refine G_isub X dX6_collisionsIn_23 ?_
  obtain rfl := Option.some.inj h
  exact (show FinI g cX6_collisionsIn _ _ _ from hf) _ _ dX6_collisionsIn_24 rfl
set_option maxRecDepth 20000 in
theorem ct_X6_collisionsIn {l : Launch} {κ : KX}  {x0 : St} {x1 : St} {x2 : St} {ps : Nat → St} {ta : St} {tb : St} {d : St} {S : St} {pg : St} {c : St} {m : St} {ot : St} {a1 : Int32} {e0 : St} {v : Int32}  (h : sX6_collisionsIn x0 x1 a1 = some (e0, .inl v)) : Ct l κ yX6_collisionsIn cX6_collisionsIn 2 (some .int) 7 128 [.ref (xE κ 8 0 0), .int a1] ((x0, x1, x2, ps, ta, tb, d, S, pg, c, m, ot)) ((x0, e0, x2, ps, ta, tb, d, S, pg, c, m, ot)) (some (.int v)) := by
  refine Ct_i RX6 rfl (by decide +kernel) (Nat.le_of_ble_eq_true rfl) (fun g hl hκ X hf => ?_)
  subst hl; subst hκ
  exact gX6_collisionsIn (res := (e0, .inl v)) X  hf h
set_option maxRecDepth 20000 in
theorem ce_X6_collisionsIn {l : Launch} {κ : KX}  {x0 : St} {x1 : St} {x2 : St} {ps : Nat → St} {ta : St} {tb : St} {d : St} {S : St} {pg : St} {c : St} {m : St} {ot : St} {a1 : Int32} {e0 : St} {c9 : Nat}  (h : sX6_collisionsIn x0 x1 a1 = some (e0, .inr c9)) : CtE l κ yX6_collisionsIn cX6_collisionsIn 2 (some .int) 7 128 [.ref (xE κ 8 0 0), .int a1] ((x0, x1, x2, ps, ta, tb, d, S, pg, c, m, ot)) ((x0, e0, x2, ps, ta, tb, d, S, pg, c, m, ot)) c9 := by
  refine CtE_of RX6 rfl rfl (by decide +kernel) (Nat.le_of_ble_eq_true rfl) (by decide) (fun g hl hκ X hf => ?_)
  subst hl; subst hκ
  exact gX6_collisionsIn (res := (e0, .inr c9)) X  hf h
set_option maxRecDepth 20000 in
theorem gX6_hasCome {g : GX}  {x0 : St} {x1 : St} {x2 : St} {ps : Nat → St} {ta : St} {tb : St} {d : St} {S : St} {pg : St} {c : St} {m : St} {ot : St} {a1 : Int32} {a2 : Int32} {a3 : Int32} {res : Int32} (X : CX g RX6 cX6_hasCome 5 2 45)  (hf : FinI g cX6_hasCome .boolean ((x0, x1, x2, ps, ta, tb, d, S, pg, c, m, ot)) (res)) (h : sX6_hasCome x1 a1 a2 a3 = some res) : G g 0 0 ((x0, x1, x2, ps, ta, tb, d, S, pg, c, m, ot)) 0 [(0, .ref (xE (gκ g) 8 0 0)), (1, .int a1), (2, .int a2), (3, .int a3)] [] := by
  unfold sX6_hasCome at h
  refine G_aload_n X 0 dX6_hasCome_0 rfl rfl ?_
  refine f_X6_24 X rfl rfl dX6_hasCome_1 ?_
  refine f_X6_141 X (kd_w0 (Or.inl (by decide))) rfl dX6_hasCome_4 ?_
  refine G_iload_n X 2 dX6_hasCome_7 rfl rfl ?_
  obtain ⟨g1, h⟩ := gd_some h
  refine G_aaldB X (kd_w2 (Or.inl (by decide))) g1 dX6_hasCome_8 ?_
  refine G_astore X (lv' := [(4, .ref (xE (gκ g) 1 (ix a2 + 1) 0)), (0, .ref (xE (gκ g) 8 0 0)), (1, .int a1), (2, .int a2), (3, .int a3)]) dX6_hasCome_9 (by decide) rfl ?_
  refine G_iload_n X 2 dX6_hasCome_11 rfl rfl ?_
  by_cases c2 : a1 = (0 : Int32)
  · have h := it_t c2 h
    rw [c2]
    refine G_tabIn X (off := 32) (tgt := 44) dX6_hasCome_12 (by decide) (by decide) (by decide) (by decide) ?_
    refine G_aload_n X 1 dX6_hasCome_44 rfl rfl ?_
    refine f_X6_24 X rfl rfl dX6_hasCome_45 ?_
    refine G_aload X 0 dX6_hasCome_48 rfl ?_
    obtain ⟨q3, hq3, h⟩ := bd_some h
    refine G_callVN X (As := [.ref (xE (gκ g) 1 (ix a2 + 1) 0)]) (rest := []) (T' := (x0, x1, x2, ps, ta, tb, d, S, pg, c, m, ot)) (st2 := [.int q3]) (ct_X5_knownTo (l := g.2.1) (κ := gκ g) (T := ((x0, x1, x2, ps, ta, tb, d, S, pg, c, m, ot))) (r := 1) (x := x1) (Or.inl (by decide)) (inb_isO (by decide) g1) hq3) cal_X5_knownTo nM_X6_178 wI_X5_knownTo wS_X5_knownTo (kd_w0 (Or.inl (by decide))) rfl (by decide) rfl rfl (Nat.le_of_ble_eq_true rfl) ⟨Nat.zero_le _, Nat.zero_le _⟩ dX6_hasCome_50 rfl ?_
    refine G_iload_n X 4 dX6_hasCome_53 rfl rfl ?_
    obtain ⟨q4, hq4, h⟩ := bd_some h
    refine G_callS X (As := [.int q3, .int a3]) (rest := []) (T' := (x0, x1, x2, ps, ta, tb, d, S, pg, c, m, ot)) (st2 := [.int q4]) (ct_X6_isIn (l := g.2.1) (κ := gκ g)   hq4) cal_X6_isIn wM_X6_205 wT_X6_isIn (by decide) rfl rfl (Nat.le_of_ble_eq_true rfl) ⟨Nat.zero_le _, Nat.zero_le _⟩ dX6_hasCome_54 rfl ?_
    obtain ⟨g5, h⟩ := gd_some h
    obtain rfl := Option.some.inj h
    exact hf _ _ dX6_hasCome_57 (isb_n g5)
  have h := it_f c2 h
  by_cases c6 : a1 = (1 : Int32)
  · have h := it_t c6 h
    rw [c6]
    refine G_tabIn X (off := 46) (tgt := 58) dX6_hasCome_12 (by decide) (by decide) (by decide) (by decide) ?_
    refine G_aload_n X 1 dX6_hasCome_58 rfl rfl ?_
    refine f_X6_24 X rfl rfl dX6_hasCome_59 ?_
    obtain ⟨q7, hq7, h⟩ := bd_some h
    refine G_callVN X (As := []) (rest := []) (T' := (x0, x1, x2, ps, ta, tb, d, S, pg, c, m, ot)) (st2 := [.int q7]) (ct_X5_isAllKnown (l := g.2.1) (κ := gκ g) (T := ((x0, x1, x2, ps, ta, tb, d, S, pg, c, m, ot))) (r := 1) (x := x1) (Or.inl (by decide)) hq7) cal_X5_isAllKnown nM_X6_260 wI_X5_isAllKnown wS_X5_isAllKnown (kd_w0 (Or.inl (by decide))) rfl (by decide) rfl rfl (Nat.le_of_ble_eq_true rfl) ⟨Nat.zero_le _, Nat.zero_le _⟩ dX6_hasCome_62 rfl ?_
    obtain ⟨g8, h⟩ := gd_some h
    obtain rfl := Option.some.inj h
    exact hf _ _ dX6_hasCome_65 (isb_n g8)
  have h := it_f c6 h
  by_cases c9 : a1 = (2 : Int32)
  · have h := it_t c9 h
    rw [c9]
    refine G_tabIn X (off := 54) (tgt := 66) dX6_hasCome_12 (by decide) (by decide) (by decide) (by decide) ?_
    refine G_aload X 0 dX6_hasCome_66 rfl ?_
    refine f_X6_162 X (kd_o0 (Or.inl (by decide)) (inb_isO (by decide) g1)) rfl dX6_hasCome_68 ?_
    refine G_iconst X (v := (4 : Int32)) dX6_hasCome_71 (by decide) ?_
    refine G_icmp_ne X (tgt := 79) dX6_hasCome_72 (by decide) (fun c10 => ?_) (fun c10 => ?_)
    · have h := it_t c10 h
      refine G_iconst X (v := (0 : Int32)) dX6_hasCome_79 (by decide) ?_
      obtain rfl := Option.some.inj h
      exact hf _ _ dX6_hasCome_80 (isb_n (v := (0 : Int32)) rfl)
    · have h := it_f (fun k => k c10) h
      refine G_iconst X (v := (1 : Int32)) dX6_hasCome_75 (by decide) ?_
      refine G_goto X (tgt := 80) dX6_hasCome_76 (by decide) ?_
      obtain rfl := Option.some.inj h
      exact hf _ _ dX6_hasCome_80 (isb_n (v := (1 : Int32)) rfl)
  have h := it_f c9 h
  by_cases c11 : a1 = (3 : Int32)
  · have h := it_t c11 h
    rw [c11]
    refine G_tabIn X (off := 69) (tgt := 81) dX6_hasCome_12 (by decide) (by decide) (by decide) (by decide) ?_
    refine G_aload_n X 1 dX6_hasCome_81 rfl rfl ?_
    refine f_X6_24 X rfl rfl dX6_hasCome_82 ?_
    refine f_X6_263 X (kd_w0 (Or.inl (by decide))) rfl dX6_hasCome_85 ?_
    refine G_iload_n X 3 dX6_hasCome_88 rfl rfl ?_
    obtain ⟨q12, hq12, h⟩ := bd_some h
    refine G_callS X (As := [.int (gI x1 0 0 10), .int a2]) (rest := []) (T' := (x0, x1, x2, ps, ta, tb, d, S, pg, c, m, ot)) (st2 := [.int q12]) (ct_X6_isIn (l := g.2.1) (κ := gκ g)   hq12) cal_X6_isIn wM_X6_205 wT_X6_isIn (by decide) rfl rfl (Nat.le_of_ble_eq_true rfl) ⟨Nat.zero_le _, Nat.zero_le _⟩ dX6_hasCome_89 rfl ?_
    obtain ⟨g13, h⟩ := gd_some h
    obtain rfl := Option.some.inj h
    exact hf _ _ dX6_hasCome_92 (isb_n g13)
  have h := it_f c11 h
  refine G_tabOut X (tgt := 93) dX6_hasCome_12 (sw_out 0 3 [(0 : Int32), (1 : Int32), (2 : Int32), (3 : Int32)] (by decide) (by simp [c2, c6, c9, c11])) (by decide) ?_
  refine G_aload X 0 dX6_hasCome_93 rfl ?_
  refine f_X6_182 X (kd_o0 (Or.inl (by decide)) (inb_isO (by decide) g1)) rfl dX6_hasCome_95 ?_
  refine G_iload_n X 4 dX6_hasCome_98 rfl rfl ?_
  refine G_icmp_le X (tgt := 106) dX6_hasCome_99 (by decide) (fun c14 => ?_) (fun c14 => ?_)
  · have h := it_t c14 h
    refine G_iconst X (v := (0 : Int32)) dX6_hasCome_106 (by decide) ?_
    obtain rfl := Option.some.inj h
    exact hf _ _ dX6_hasCome_107 (isb_n (v := (0 : Int32)) rfl)
  · have h := it_f c14 h
    refine G_iconst X (v := (1 : Int32)) dX6_hasCome_102 (by decide) ?_
    refine G_goto X (tgt := 107) dX6_hasCome_103 (by decide) ?_
    obtain rfl := Option.some.inj h
    exact hf _ _ dX6_hasCome_107 (isb_n (v := (1 : Int32)) rfl)
set_option maxRecDepth 20000 in
theorem ct_X6_hasCome {l : Launch} {κ : KX}  {x0 : St} {x1 : St} {x2 : St} {ps : Nat → St} {ta : St} {tb : St} {d : St} {S : St} {pg : St} {c : St} {m : St} {ot : St} {a1 : Int32} {a2 : Int32} {a3 : Int32} {res : Int32}  (h : sX6_hasCome x1 a1 a2 a3 = some res) : Ct l κ yX6_hasCome cX6_hasCome 5 (some .boolean) 2 45 [.ref (xE κ 8 0 0), .int a1, .int a2, .int a3] ((x0, x1, x2, ps, ta, tb, d, S, pg, c, m, ot)) ((x0, x1, x2, ps, ta, tb, d, S, pg, c, m, ot)) (some (.int (res))) := by
  refine Ct_i RX6 rfl (by decide +kernel) (Nat.le_of_ble_eq_true rfl) (fun g hl hκ X hf => ?_)
  subst hl; subst hκ
  exact gX6_hasCome X  hf h
set_option maxRecDepth 20000 in
theorem gX6_slotsUntil_b8 {g : GX}  {x0 : St} {x2 : St} {ps : Nat → St} {ta : St} {tb : St} {d : St} {S : St} {pg : St} {c : St} {m : St} {ot : St} {res : St × Int32}  (X : CX g RX6 cX6_slotsUntil 6 6 128)  (hf : FinI g cX6_slotsUntil .int ((x0, res.1, x2, ps, ta, tb, d, S, pg, c, m, ot)) (res.2))  : ∀ (n : Nat) (x1 : St) (a1 : Int32) (a3 : Int32) (a4 : Int32) (a5 : Int32) (h : sX6_slotsUntil_b8 n  x0 x1 a1 a3 a4 a5 = some res), G g 0 0 ((x0, x1, x2, ps, ta, tb, d, S, pg, c, m, ot)) 8 [(0, .ref (xE (gκ g) 8 0 0)), (1, .int a1), (3, .int a3), (4, .int a4), (5, .int a5)] [] := by
  intro n
  induction n with
  | zero => intro x1 a1 a3 a4 a5 h; unfold sX6_slotsUntil_b8 at h; cases h
  | succ n ih =>
    intro x1 a1 a3 a4 a5 h
    unfold sX6_slotsUntil_b8 at h
    refine G_iload X 4 dX6_slotsUntil_8 rfl ?_
    refine G_sipush X (v := (300 : Int32)) dX6_slotsUntil_10 (by decide) ?_
    refine G_icmp_gt X (tgt := 44) dX6_slotsUntil_13 (by decide) (fun c2 => ?_) (fun c2 => ?_)
    · have h := it_t c2 h
      refine G_iconst X (v := (-1 : Int32)) dX6_slotsUntil_44 (by decide) ?_
      obtain rfl := Option.some.inj h
      exact hf _ _ dX6_slotsUntil_45 rfl
    · have h := it_f c2 h
      refine G_aload_n X 0 dX6_slotsUntil_16 rfl rfl ?_
      refine G_iload_n X 1 dX6_slotsUntil_17 rfl rfl ?_
      refine G_iload_n X 2 dX6_slotsUntil_18 rfl rfl ?_
      refine G_iload X 3 dX6_slotsUntil_19 rfl ?_
      obtain ⟨q3, hq3, h⟩ := bd_some h
      refine G_callV X (As := [.int a1, .int a3, .int a4]) (rest := []) (T' := (x0, x1, x2, ps, ta, tb, d, S, pg, c, m, ot)) (st2 := [.int q3]) (ct_X6_hasCome (l := g.2.1) (κ := gκ g)   hq3) cal_X6_hasCome wM_X6_256 wI_X6_hasCome wS_X6_hasCome rfl rfl (by decide) rfl rfl (Nat.le_of_ble_eq_true rfl) ⟨Nat.zero_le _, Nat.zero_le _⟩ dX6_slotsUntil_21 rfl ?_
      refine G_if_eq X (tgt := 30) dX6_slotsUntil_24 (by decide) (fun c4 => ?_) (fun c4 => ?_)
      · have h := it_t c4 h
        refine G_aload_n X 0 dX6_slotsUntil_30 rfl rfl ?_
        refine f_X6_24 X rfl rfl dX6_slotsUntil_31 ?_
        refine G_iconst X (v := (1 : Int32)) dX6_slotsUntil_34 (by decide) ?_
        obtain ⟨q5, hq5, h⟩ := bd_some h
        refine G_callVN X (As := [.int ((1 : Int32))]) (rest := []) (T' := (x0, q5, x2, ps, ta, tb, d, S, pg, c, m, ot)) (st2 := []) (ct_X5_pass (l := g.2.1) (κ := gκ g) (T := ((x0, x1, x2, ps, ta, tb, d, S, pg, c, m, ot))) (r := 1) (x := x1) (Or.inl (by decide)) hq5) cal_X5_pass nM_X6_247 wI_X5_pass wS_X5_pass (kd_w0 (Or.inl (by decide))) rfl (by decide) rfl rfl (Nat.le_of_ble_eq_true rfl) ⟨Nat.zero_le _, Nat.zero_le _⟩ dX6_slotsUntil_35 rfl ?_
        obtain ⟨v6, ev6, h⟩ := nm_some h
        refine G_iinc X (v := v6) (lv' := [(5, .int v6), (0, .ref (xE (gκ g) 8 0 0)), (1, .int a1), (3, .int a3), (4, .int a4)]) 4 dX6_slotsUntil_38 rfl (by rw [ev6]; rfl) (by decide) rfl ?_
        refine G_goto X (tgt := 8) dX6_slotsUntil_41 (by decide) ?_
        refine G_sub [1, 2, 3, 4, 0] rfl ?_
        exact ih _ _ _ _ _ h
      · have h := it_f c4 h
        refine G_iload X 4 dX6_slotsUntil_27 rfl ?_
        obtain rfl := Option.some.inj h
        exact hf _ _ dX6_slotsUntil_29 rfl
set_option maxRecDepth 20000 in
theorem gX6_slotsUntil {g : GX}  {x0 : St} {x1 : St} {x2 : St} {ps : Nat → St} {ta : St} {tb : St} {d : St} {S : St} {pg : St} {c : St} {m : St} {ot : St} {a1 : Int32} {a2 : Int32} {a3 : Int32} {a4 : Int32} {res : St × Int32} (X : CX g RX6 cX6_slotsUntil 6 6 128)  (hf : FinI g cX6_slotsUntil .int ((x0, res.1, x2, ps, ta, tb, d, S, pg, c, m, ot)) (res.2)) (h : sX6_slotsUntil x0 x1 a1 a2 a3 a4 = some res) : G g 0 0 ((x0, x1, x2, ps, ta, tb, d, S, pg, c, m, ot)) 0 [(0, .ref (xE (gκ g) 8 0 0)), (1, .int a1), (2, .int a2), (3, .int a3), (4, .int a4)] [] := by
  unfold sX6_slotsUntil at h
  refine G_aload_n X 0 dX6_slotsUntil_0 rfl rfl ?_
  refine G_iload_n X 2 dX6_slotsUntil_1 rfl rfl ?_
  obtain ⟨q1, hq1, h⟩ := bd_some h
  refine G_callV X (As := [.int a2]) (rest := []) (T' := (x0, q1, x2, ps, ta, tb, d, S, pg, c, m, ot)) (st2 := []) (ct_X6_tryAhead (l := g.2.1) (κ := gκ g)   hq1) cal_X6_tryAhead wM_X6_240 wI_X6_tryAhead wS_X6_tryAhead rfl rfl (by decide) rfl rfl (Nat.le_of_ble_eq_true rfl) ⟨Nat.zero_le _, Nat.zero_le _⟩ dX6_slotsUntil_2 rfl ?_
  refine G_iload_n X 2 dX6_slotsUntil_5 rfl rfl ?_
  refine G_istore X (lv' := [(5, .int a2), (0, .ref (xE (gκ g) 8 0 0)), (1, .int a1), (2, .int a2), (3, .int a3), (4, .int a4)]) dX6_slotsUntil_6 (by decide) rfl ?_
  refine G_sub [1, 2, 4, 5, 0] rfl ?_
  exact gX6_slotsUntil_b8 X hf FU _ _ _ _ _ h
set_option maxRecDepth 20000 in
theorem ct_X6_slotsUntil {l : Launch} {κ : KX}  {x0 : St} {x1 : St} {x2 : St} {ps : Nat → St} {ta : St} {tb : St} {d : St} {S : St} {pg : St} {c : St} {m : St} {ot : St} {a1 : Int32} {a2 : Int32} {a3 : Int32} {a4 : Int32} {res : St × Int32}  (h : sX6_slotsUntil x0 x1 a1 a2 a3 a4 = some res) : Ct l κ yX6_slotsUntil cX6_slotsUntil 6 (some .int) 6 128 [.ref (xE κ 8 0 0), .int a1, .int a2, .int a3, .int a4] ((x0, x1, x2, ps, ta, tb, d, S, pg, c, m, ot)) ((x0, res.1, x2, ps, ta, tb, d, S, pg, c, m, ot)) (some (.int (res.2))) := by
  refine Ct_i RX6 rfl (by decide +kernel) (Nat.le_of_ble_eq_true rfl) (fun g hl hκ X hf => ?_)
  subst hl; subst hκ
  exact gX6_slotsUntil X  hf h
set_option maxRecDepth 20000 in
theorem gX6_wellIn {g : GX}  {x0 : St} {x1 : St} {x2 : St} {ps : Nat → St} {ta : St} {tb : St} {d : St} {S : St} {pg : St} {c : St} {m : St} {ot : St} {a1 : Int32} {res : St × (Int32 ⊕ Nat)} (X : CX g RX6 cX6_wellIn 2 7 153)  (hf : FinX g cX6_wellIn .int ((x0, res.1, x2, ps, ta, tb, d, S, pg, c, m, ot)) (res.2)) (h : sX6_wellIn x0 x1 a1 = some res) : G g 0 0 ((x0, x1, x2, ps, ta, tb, d, S, pg, c, m, ot)) 0 [(0, .ref (xE (gκ g) 8 0 0)), (1, .int a1)] [] := by
  unfold sX6_wellIn at h
  refine G_aload_n X 0 dX6_wellIn_0 rfl rfl ?_
  refine G_iload_n X 1 dX6_wellIn_1 rfl rfl ?_
  obtain ⟨q1, hq1, h⟩ := bd_some h
  rcases q1 with uq1 | xq1
  rotate_left
  · have h := sm_r h
    obtain rfl := Option.some.inj h
    exact G_callVE X (As := [.int a1]) (rest := []) (ce_X6_requireBeacon (l := g.2.1) (κ := gκ g)   hq1) cal_X6_requireBeacon wM_X6_138 wI_X6_requireBeacon wS_X6_requireBeacon rfl rfl (by decide) rfl rfl (Nat.le_of_ble_eq_true rfl) dX6_wellIn_2 hf
  have h := sm_l h
  refine G_callV X (As := [.int a1]) (rest := []) (T' := (x0, x1, x2, ps, ta, tb, d, S, pg, c, m, ot)) (st2 := []) (ct_X6_requireBeacon (l := g.2.1) (κ := gκ g)   hq1) cal_X6_requireBeacon wM_X6_138 wI_X6_requireBeacon wS_X6_requireBeacon rfl rfl (by decide) rfl rfl (Nat.le_of_ble_eq_true rfl) ⟨Nat.zero_le _, Nat.zero_le _⟩ dX6_wellIn_2 rfl ?_
  refine G_aload_n X 0 dX6_wellIn_5 rfl rfl ?_
  refine G_iconst X (v := (4 : Int32)) dX6_wellIn_6 (by decide) ?_
  refine G_iconst X (v := (1 : Int32)) dX6_wellIn_7 (by decide) ?_
  refine G_iload_n X 1 dX6_wellIn_8 rfl rfl ?_
  refine G_aload_n X 0 dX6_wellIn_9 rfl rfl ?_
  refine f_X6_20 X rfl rfl dX6_wellIn_10 ?_
  refine f_X6_141 X (kd_w0 (Or.inl (by decide))) rfl dX6_wellIn_13 ?_
  refine G_iload_n X 1 dX6_wellIn_16 rfl rfl ?_
  obtain ⟨g2, h⟩ := gd_some h
  refine G_aaldB X (kd_w2 (Or.inl (by decide))) g2 dX6_wellIn_17 ?_
  refine f_X6_182 X (kd_o0 (Or.inl (by decide)) (inb_isO (by decide) g2)) rfl dX6_wellIn_18 ?_
  obtain ⟨q3, hq3, h⟩ := bd_some h
  refine G_callV X (As := [.int ((4 : Int32)), .int ((1 : Int32)), .int a1, .int (gI x0 (ix a1 + 1) 0 11)]) (rest := []) (T' := (x0, q3.1, x2, ps, ta, tb, d, S, pg, c, m, ot)) (st2 := [.int q3.2]) (ct_X6_slotsUntil (l := g.2.1) (κ := gκ g)   hq3) cal_X6_slotsUntil wM_X6_243 wI_X6_slotsUntil wS_X6_slotsUntil rfl rfl (by decide) rfl rfl (Nat.le_of_ble_eq_true rfl) ⟨Nat.zero_le _, Nat.zero_le _⟩ dX6_wellIn_21 rfl ?_
  obtain rfl := Option.some.inj h
  exact (show FinI g cX6_wellIn _ _ _ from hf) _ _ dX6_wellIn_24 rfl
set_option maxRecDepth 20000 in
theorem ct_X6_wellIn {l : Launch} {κ : KX}  {x0 : St} {x1 : St} {x2 : St} {ps : Nat → St} {ta : St} {tb : St} {d : St} {S : St} {pg : St} {c : St} {m : St} {ot : St} {a1 : Int32} {e0 : St} {v : Int32}  (h : sX6_wellIn x0 x1 a1 = some (e0, .inl v)) : Ct l κ yX6_wellIn cX6_wellIn 2 (some .int) 7 153 [.ref (xE κ 8 0 0), .int a1] ((x0, x1, x2, ps, ta, tb, d, S, pg, c, m, ot)) ((x0, e0, x2, ps, ta, tb, d, S, pg, c, m, ot)) (some (.int v)) := by
  refine Ct_i RX6 rfl (by decide +kernel) (Nat.le_of_ble_eq_true rfl) (fun g hl hκ X hf => ?_)
  subst hl; subst hκ
  exact gX6_wellIn (res := (e0, .inl v)) X  hf h
set_option maxRecDepth 20000 in
theorem ce_X6_wellIn {l : Launch} {κ : KX}  {x0 : St} {x1 : St} {x2 : St} {ps : Nat → St} {ta : St} {tb : St} {d : St} {S : St} {pg : St} {c : St} {m : St} {ot : St} {a1 : Int32} {e0 : St} {c9 : Nat}  (h : sX6_wellIn x0 x1 a1 = some (e0, .inr c9)) : CtE l κ yX6_wellIn cX6_wellIn 2 (some .int) 7 153 [.ref (xE κ 8 0 0), .int a1] ((x0, x1, x2, ps, ta, tb, d, S, pg, c, m, ot)) ((x0, e0, x2, ps, ta, tb, d, S, pg, c, m, ot)) c9 := by
  refine CtE_of RX6 rfl rfl (by decide +kernel) (Nat.le_of_ble_eq_true rfl) (by decide) (fun g hl hκ X hf => ?_)
  subst hl; subst hκ
  exact gX6_wellIn (res := (e0, .inr c9)) X  hf h
set_option maxRecDepth 20000 in
theorem gX6_keepForUndo_b56 {g : GX}  {x0 : St} {x1 : St} {x2 : St} {ps : Nat → St} {ta : St} {tb : St} {d : St} {S : St} {pg : St} {c : St} {m : St} {ot : St}  {res : (Nat → St) × St}  (X : CX g RX6 cX6_keepForUndo 3 2 44)  (hf : FinV g cX6_keepForUndo ((x0, x1, x2, res.1, ta, tb, d, S, pg, res.2, m, ot)))   (h : sX6_keepForUndo_b56  x0 ps c = some res) : G g 0 0 ((x0, x1, x2, ps, ta, tb, d, S, pg, c, m, ot)) 56 [(0, .ref (xE (gκ g) 8 0 0))] [] := by
  unfold sX6_keepForUndo_b56 at h
  refine G_aload_n X 0 dX6_keepForUndo_56 rfl rfl ?_
  refine f_X6_30 X rfl rfl dX6_keepForUndo_57 ?_
  refine G_aload_n X 0 dX6_keepForUndo_60 rfl rfl ?_
  refine f_X6_90 X rfl rfl dX6_keepForUndo_61 ?_
  obtain ⟨g4, h⟩ := gd_some h
  obtain ⟨g5, h⟩ := gd_some h
  have g5 := of_decide_eq_true g5
  refine G_aaldW X (x := c) rfl rfl g4 dX6_keepForUndo_64 ?_
  refine G_aload_n X 0 dX6_keepForUndo_65 rfl rfl ?_
  refine f_X6_20 X rfl rfl dX6_keepForUndo_66 ?_
  obtain ⟨q6, hq6, h⟩ := bd_some h
  have m7 := ct_X5_copyFrom (l := g.2.1) (κ := gκ g) (T := ((x0, x1, x2, ps, ta, tb, d, S, pg, c, m, ot))) (r := (ix (gI c 0 2 (ix (gI c 0 0 9))) + 11)) (x := (ps (ix (gI c 0 2 (ix (gI c 0 0 9)))))) (r2 := 0) (Or.inr ⟨by omega, by omega⟩) (Or.inl (by decide)) (by omega) rfl hq6
  rw [show rs (x0, x1, x2, ps, ta, tb, d, S, pg, c, m, ot) (ix (gI c 0 2 (ix (gI c 0 0 9))) + 11) (ps (ix (gI c 0 2 (ix (gI c 0 0 9))))) = (x0, x1, x2, ps, ta, tb, d, S, pg, c, m, ot) from rs_self rfl] at m7
  refine G_callVN X (As := [.ref (xE (gκ g) 0 0 0)]) (rest := []) (T' := (x0, x1, x2, uP ps (ix (gI c 0 2 (ix (gI c 0 0 9)))) q6, ta, tb, d, S, pg, c, m, ot)) (st2 := []) m7 cal_X5_copyFrom nM_X6_86 wI_X5_copyFrom wS_X5_copyFrom (kd_w0 (Or.inr ⟨by omega, by omega⟩)) rfl (by decide) rfl rfl (Nat.le_of_ble_eq_true rfl) ⟨Nat.zero_le _, Nat.zero_le _⟩ dX6_keepForUndo_69 rfl ?_
  refine G_aload_n X 0 dX6_keepForUndo_72 rfl rfl ?_
  refine G_dup X dX6_keepForUndo_73 rfl ?_
  refine f_X6_90 X rfl rfl dX6_keepForUndo_74 ?_
  refine G_iconst X (v := (1 : Int32)) dX6_keepForUndo_77 (by decide) ?_
  refine G_iadd X dX6_keepForUndo_78 ?_
  obtain ⟨z8, ez8, h⟩ := nm_some h
  refine p_X6_90 X (T' := (x0, x1, x2, uP ps (ix (gI c 0 2 (ix (gI c 0 0 9)))) q6, ta, tb, d, S, pg, z8, m, ot)) rfl rfl  (by rw [ez8]; rfl) dX6_keepForUndo_79 ?_
  obtain rfl := Option.some.inj h
  exact hf _ _ dX6_keepForUndo_82
set_option maxRecDepth 20000 in
theorem gX6_keepForUndo_b18 {g : GX}  {x0 : St} {x1 : St} {x2 : St} {ta : St} {tb : St} {d : St} {S : St} {pg : St} {m : St} {ot : St} {res : (Nat → St) × St}  (X : CX g RX6 cX6_keepForUndo 3 2 44)  (hf : FinV g cX6_keepForUndo ((x0, x1, x2, res.1, ta, tb, d, S, pg, res.2, m, ot)))  : ∀ (n : Nat) (ps : Nat → St) (c : St) (p1 : Nat) (a2 : Int32) (hp1 : p1 < 6) (h : sX6_keepForUndo_b18 n  x0 ps c p1 a2 = some res), G g 0 0 ((x0, x1, x2, ps, ta, tb, d, S, pg, c, m, ot)) 18 [(0, .ref (xE (gκ g) 8 0 0)), (1, .ref (xE (gκ g) (p1 + 11) 0 0)), (2, .int a2)] [] := by
  intro n
  induction n with
  | zero => intro ps c p1 a2 hp1 h; unfold sX6_keepForUndo_b18 at h; cases h
  | succ n ih =>
    intro ps c p1 a2 hp1 h
    unfold sX6_keepForUndo_b18 at h
    refine G_iload_n X 2 dX6_keepForUndo_18 rfl rfl ?_
    refine G_bipush X (v := (6 : Int32)) dX6_keepForUndo_19 (by decide) ?_
    refine G_icmp_ge X (tgt := 44) dX6_keepForUndo_21 (by decide) (fun c9 => ?_) (fun c9 => ?_)
    · have h := it_t c9 h
      refine G_aload_n X 0 dX6_keepForUndo_44 rfl rfl ?_
      refine f_X6_30 X rfl rfl dX6_keepForUndo_45 ?_
      refine G_iconst X (v := (5 : Int32)) dX6_keepForUndo_48 (by decide) ?_
      refine G_aload_n X 1 dX6_keepForUndo_49 rfl rfl ?_
      obtain ⟨g10, h⟩ := gd_some h
      obtain ⟨z11, ez11, h⟩ := nm_some h
      refine G_aastW X (T' := (x0, x1, x2, ps, ta, tb, d, S, pg, z11, m, ot)) rfl rfl (by omega) g10 (by rw [ez11]; rfl) dX6_keepForUndo_50 ?_
      refine G_aload_n X 0 dX6_keepForUndo_51 rfl rfl ?_
      refine G_iconst X (v := (5 : Int32)) dX6_keepForUndo_52 (by decide) ?_
      obtain ⟨z12, ez12, h⟩ := nm_some h
      refine p_X6_90 X (T' := (x0, x1, x2, ps, ta, tb, d, S, pg, z12, m, ot)) rfl rfl  (by rw [ez12]; rfl) dX6_keepForUndo_53 ?_
      refine G_sub [0] rfl ?_
      exact gX6_keepForUndo_b56 X hf h
    · have h := it_f c9 h
      refine G_aload_n X 0 dX6_keepForUndo_24 rfl rfl ?_
      refine f_X6_30 X rfl rfl dX6_keepForUndo_25 ?_
      refine G_iload_n X 2 dX6_keepForUndo_28 rfl rfl ?_
      refine G_iconst X (v := (1 : Int32)) dX6_keepForUndo_29 (by decide) ?_
      refine G_isub X dX6_keepForUndo_30 ?_
      refine G_aload_n X 0 dX6_keepForUndo_31 rfl rfl ?_
      refine f_X6_30 X rfl rfl dX6_keepForUndo_32 ?_
      refine G_iload_n X 2 dX6_keepForUndo_35 rfl rfl ?_
      obtain ⟨g13, h⟩ := gd_some h
      obtain ⟨g14, h⟩ := gd_some h
      have g14 := of_decide_eq_true g14
      refine G_aaldW X (x := c) rfl rfl g13 dX6_keepForUndo_36 ?_
      obtain ⟨g15, h⟩ := gd_some h
      obtain ⟨z16, ez16, h⟩ := nm_some h
      refine G_aastW X (T' := (x0, x1, x2, ps, ta, tb, d, S, pg, z16, m, ot)) rfl rfl (by omega) g15 (by rw [ez16]; rfl) dX6_keepForUndo_37 ?_
      obtain ⟨v17, ev17, h⟩ := nm_some h
      refine G_iinc X (v := v17) (lv' := [(2, .int v17), (0, .ref (xE (gκ g) 8 0 0)), (1, .ref (xE (gκ g) (p1 + 11) 0 0))]) 2 dX6_keepForUndo_38 rfl (by rw [ev17]; rfl) (by decide) rfl ?_
      refine G_goto X (tgt := 18) dX6_keepForUndo_41 (by decide) ?_
      refine G_sub [1, 2, 0] rfl ?_
      exact ih _ _ _ _ (by omega) h
set_option maxRecDepth 20000 in
theorem gX6_keepForUndo {g : GX}  {x0 : St} {x1 : St} {x2 : St} {ps : Nat → St} {ta : St} {tb : St} {d : St} {S : St} {pg : St} {c : St} {m : St} {ot : St}  {res : (Nat → St) × St} (X : CX g RX6 cX6_keepForUndo 3 2 44)  (hf : FinV g cX6_keepForUndo ((x0, x1, x2, res.1, ta, tb, d, S, pg, res.2, m, ot))) (h : sX6_keepForUndo x0 ps c = some res) : G g 0 0 ((x0, x1, x2, ps, ta, tb, d, S, pg, c, m, ot)) 0 [(0, .ref (xE (gκ g) 8 0 0))] [] := by
  unfold sX6_keepForUndo at h
  refine G_aload_n X 0 dX6_keepForUndo_0 rfl rfl ?_
  refine f_X6_90 X rfl rfl dX6_keepForUndo_1 ?_
  refine G_bipush X (v := (6 : Int32)) dX6_keepForUndo_4 (by decide) ?_
  refine G_icmp_lt X (tgt := 56) dX6_keepForUndo_6 (by decide) (fun c1 => ?_) (fun c1 => ?_)
  · have h := it_t c1 h
    exact gX6_keepForUndo_b56 X hf h
  · have h := it_f c1 h
    refine G_aload_n X 0 dX6_keepForUndo_9 rfl rfl ?_
    refine f_X6_30 X rfl rfl dX6_keepForUndo_10 ?_
    refine G_iconst X (v := (0 : Int32)) dX6_keepForUndo_13 (by decide) ?_
    obtain ⟨g2, h⟩ := gd_some h
    obtain ⟨g3, h⟩ := gd_some h
    have g3 := of_decide_eq_true g3
    refine G_aaldW X (x := c) rfl rfl g2 dX6_keepForUndo_14 ?_
    refine G_astore_n X (lv' := [(1, .ref (xE (gκ g) (ix (gI c 0 2 (ix ((0 : Int32)))) + 11) 0 0)), (0, .ref (xE (gκ g) 8 0 0))]) dX6_keepForUndo_15 rfl (by decide) rfl ?_
    refine G_iconst X (v := (1 : Int32)) dX6_keepForUndo_16 (by decide) ?_
    refine G_istore_n X (lv' := [(2, .int ((1 : Int32))), (1, .ref (xE (gκ g) (ix (gI c 0 2 (ix ((0 : Int32)))) + 11) 0 0)), (0, .ref (xE (gκ g) 8 0 0))]) dX6_keepForUndo_17 rfl (by decide) rfl ?_
    refine G_sub [2, 1, 0] rfl ?_
    exact gX6_keepForUndo_b18 X hf FU _ _ _ _ (by omega) h
set_option maxRecDepth 20000 in
theorem ct_X6_keepForUndo {l : Launch} {κ : KX}  {x0 : St} {x1 : St} {x2 : St} {ps : Nat → St} {ta : St} {tb : St} {d : St} {S : St} {pg : St} {c : St} {m : St} {ot : St}  {res : (Nat → St) × St}  (h : sX6_keepForUndo x0 ps c = some res) : Ct l κ yX6_keepForUndo cX6_keepForUndo 3 none 2 44 [.ref (xE κ 8 0 0)] ((x0, x1, x2, ps, ta, tb, d, S, pg, c, m, ot)) ((x0, x1, x2, res.1, ta, tb, d, S, pg, res.2, m, ot)) none := by
  refine Ct_v RX6 rfl (by decide +kernel) (Nat.le_of_ble_eq_true rfl) (fun g hl hκ X hf => ?_)
  subst hl; subst hκ
  exact gX6_keepForUndo X  hf h
set_option maxRecDepth 20000 in
theorem gX6_run_b11 {g : GX}  {x0 : St} {x1 : St} {x2 : St} {ps : Nat → St} {ta : St} {tb : St} {d : St} {S : St} {pg : St} {c : St} {m : St} {ot : St}  {res : St × (Nat → St) × St × (Int32 ⊕ Nat)}  (X : CX g RX6 cX6_run 3 6 107)  (hf : FinX g cX6_run .int ((res.1, x1, x2, res.2.1, ta, tb, d, S, pg, res.2.2.1, m, ot)) (res.2.2.2))   (h : sX6_run_b11  x0 ps c = some res) : G g 0 0 ((x0, x1, x2, ps, ta, tb, d, S, pg, c, m, ot)) 11 [] [] := by
  unfold sX6_run_b11 at h
  obtain rfl := Option.some.inj h
  exact (show FinE g cX6_run _ 2 from hf).1 _ _ _ dX6_run_11 dX6_run_14 dX6_run_15 dX6_run_18 (Nat.le_of_ble_eq_true rfl)
set_option maxRecDepth 20000 in
theorem gX6_run {g : GX}  {x0 : St} {x1 : St} {x2 : St} {ps : Nat → St} {ta : St} {tb : St} {d : St} {S : St} {pg : St} {c : St} {m : St} {ot : St} {a1 : Int32} {res : St × (Nat → St) × St × (Int32 ⊕ Nat)} (X : CX g RX6 cX6_run 3 6 107)  (hf : FinX g cX6_run .int ((res.1, x1, x2, res.2.1, ta, tb, d, S, pg, res.2.2.1, m, ot)) (res.2.2.2)) (h : sX6_run x0 ps c a1 = some res) : G g 0 0 ((x0, x1, x2, ps, ta, tb, d, S, pg, c, m, ot)) 0 [(0, .ref (xE (gκ g) 8 0 0)), (1, .int a1)] [] := by
  unfold sX6_run at h
  refine G_iload_n X 1 dX6_run_0 rfl rfl ?_
  refine G_iconst X (v := (1 : Int32)) dX6_run_1 (by decide) ?_
  refine G_icmp_lt X (tgt := 11) dX6_run_2 (by decide) (fun c1 => ?_) (fun c1 => ?_)
  · have h := it_t c1 h
    refine G_sub [] rfl ?_
    exact gX6_run_b11 X hf h
  · have h := it_f c1 h
    refine G_iload_n X 1 dX6_run_5 rfl rfl ?_
    refine G_bipush X (v := (99 : Int32)) dX6_run_6 (by decide) ?_
    refine G_icmp_le X (tgt := 19) dX6_run_8 (by decide) (fun c2 => ?_) (fun c2 => ?_)
    · have h := it_t c2 h
      refine G_aload_n X 0 dX6_run_19 rfl rfl ?_
      refine f_X6_20 X rfl rfl dX6_run_20 ?_
      refine G_iload_n X 1 dX6_run_23 rfl rfl ?_
      obtain ⟨q3, hq3, h⟩ := bd_some h
      refine G_callVN X (As := [.int a1]) (rest := []) (T' := (x0, x1, x2, ps, ta, tb, d, S, pg, c, m, ot)) (st2 := [.int q3]) (ct_X5_mayPass (l := g.2.1) (κ := gκ g) (T := ((x0, x1, x2, ps, ta, tb, d, S, pg, c, m, ot))) (r := 0) (x := x0) (Or.inl (by decide)) hq3) cal_X5_mayPass nM_X6_266 wI_X5_mayPass wS_X5_mayPass (kd_w0 (Or.inl (by decide))) rfl (by decide) rfl rfl (Nat.le_of_ble_eq_true rfl) ⟨Nat.zero_le _, Nat.zero_le _⟩ dX6_run_24 rfl ?_
      refine G_if_ne X (tgt := 38) dX6_run_27 (by decide) (fun c4 => ?_) (fun c4 => ?_)
      · have h := it_t c4 h
        refine G_aload_n X 0 dX6_run_38 rfl rfl ?_
        obtain ⟨q5, hq5, h⟩ := bd_some h
        refine G_callV X (As := []) (rest := []) (T' := (x0, x1, x2, q5.1, ta, tb, d, S, pg, q5.2, m, ot)) (st2 := []) (ct_X6_keepForUndo (l := g.2.1) (κ := gκ g)   hq5) cal_X6_keepForUndo wM_X6_98 wI_X6_keepForUndo wS_X6_keepForUndo rfl rfl (by decide) rfl rfl (Nat.le_of_ble_eq_true rfl) ⟨Nat.zero_le _, Nat.zero_le _⟩ dX6_run_39 rfl ?_
        refine G_aload_n X 0 dX6_run_42 rfl rfl ?_
        refine f_X6_20 X rfl rfl dX6_run_43 ?_
        refine f_X6_123 X (kd_w0 (Or.inl (by decide))) rfl dX6_run_46 ?_
        refine G_istore_n X (lv' := [(2, .int (gI x0 0 0 7)), (0, .ref (xE (gκ g) 8 0 0)), (1, .int a1)]) dX6_run_49 rfl (by decide) rfl ?_
        refine G_aload_n X 1 dX6_run_50 rfl rfl ?_
        refine f_X6_20 X rfl rfl dX6_run_51 ?_
        refine G_iload_n X 2 dX6_run_54 rfl rfl ?_
        obtain ⟨q6, hq6, h⟩ := bd_some h
        refine G_callVN X (As := [.int a1]) (rest := []) (T' := (q6, x1, x2, q5.1, ta, tb, d, S, pg, q5.2, m, ot)) (st2 := []) (ct_X5_pass (l := g.2.1) (κ := gκ g) (T := ((x0, x1, x2, q5.1, ta, tb, d, S, pg, q5.2, m, ot))) (r := 0) (x := x0) (Or.inl (by decide)) hq6) cal_X5_pass nM_X6_247 wI_X5_pass wS_X5_pass (kd_w0 (Or.inl (by decide))) rfl (by decide) rfl rfl (Nat.le_of_ble_eq_true rfl) ⟨Nat.zero_le _, Nat.zero_le _⟩ dX6_run_55 rfl ?_
        refine G_aload_n X 1 dX6_run_58 rfl rfl ?_
        refine f_X6_20 X rfl rfl dX6_run_59 ?_
        refine f_X6_123 X (kd_w0 (Or.inl (by decide))) rfl dX6_run_62 ?_
        refine G_iload_n X 0 dX6_run_65 rfl rfl ?_
        refine G_isub X dX6_run_66 ?_
        obtain rfl := Option.some.inj h
        exact (show FinI g cX6_run _ _ _ from hf) _ _ dX6_run_67 rfl
      · have h := it_f (fun k => k c4) h
        obtain rfl := Option.some.inj h
        exact (show FinE g cX6_run _ 1 from hf).1 _ _ _ dX6_run_30 dX6_run_33 dX6_run_34 dX6_run_37 (Nat.le_of_ble_eq_true rfl)
    · have h := it_f c2 h
      refine G_sub [] rfl ?_
      exact gX6_run_b11 X hf h
set_option maxRecDepth 20000 in
theorem ct_X6_run {l : Launch} {κ : KX}  {x0 : St} {x1 : St} {x2 : St} {ps : Nat → St} {ta : St} {tb : St} {d : St} {S : St} {pg : St} {c : St} {m : St} {ot : St} {a1 : Int32} {e0 : St} {e1 : Nat → St} {e2 : St} {v : Int32}  (h : sX6_run x0 ps c a1 = some (e0, e1, e2, .inl v)) : Ct l κ yX6_run cX6_run 3 (some .int) 6 107 [.ref (xE κ 8 0 0), .int a1] ((x0, x1, x2, ps, ta, tb, d, S, pg, c, m, ot)) ((e0, x1, x2, e1, ta, tb, d, S, pg, e2, m, ot)) (some (.int v)) := by
  refine Ct_i RX6 rfl (by decide +kernel) (Nat.le_of_ble_eq_true rfl) (fun g hl hκ X hf => ?_)
  subst hl; subst hκ
  exact gX6_run (res := (e0, e1, e2, .inl v)) X  hf h
set_option maxRecDepth 20000 in
theorem ce_X6_run {l : Launch} {κ : KX}  {x0 : St} {x1 : St} {x2 : St} {ps : Nat → St} {ta : St} {tb : St} {d : St} {S : St} {pg : St} {c : St} {m : St} {ot : St} {a1 : Int32} {e0 : St} {e1 : Nat → St} {e2 : St} {c9 : Nat}  (h : sX6_run x0 ps c a1 = some (e0, e1, e2, .inr c9)) : CtE l κ yX6_run cX6_run 3 (some .int) 6 107 [.ref (xE κ 8 0 0), .int a1] ((x0, x1, x2, ps, ta, tb, d, S, pg, c, m, ot)) ((e0, x1, x2, e1, ta, tb, d, S, pg, e2, m, ot)) c9 := by
  refine CtE_of RX6 rfl rfl (by decide +kernel) (Nat.le_of_ble_eq_true rfl) (by decide) (fun g hl hκ X hf => ?_)
  subst hl; subst hκ
  exact gX6_run (res := (e0, e1, e2, .inr c9)) X  hf h
set_option maxRecDepth 20000 in
theorem gX6_wake {g : GX}  {x0 : St} {x1 : St} {x2 : St} {ps : Nat → St} {ta : St} {tb : St} {d : St} {S : St} {pg : St} {c : St} {m : St} {ot : St} {a1 : Int32} {res : St × (Nat → St) × St × (Int32 ⊕ Nat)} (X : CX g RX6 cX6_wake 2 7 110)  (hf : FinX g cX6_wake .int ((res.1, x1, x2, res.2.1, ta, tb, d, S, pg, res.2.2.1, m, ot)) (res.2.2.2)) (h : sX6_wake x0 ps c a1 = some res) : G g 0 0 ((x0, x1, x2, ps, ta, tb, d, S, pg, c, m, ot)) 0 [(0, .ref (xE (gκ g) 8 0 0)), (1, .int a1)] [] := by
  unfold sX6_wake at h
  refine G_aload_n X 0 dX6_wake_0 rfl rfl ?_
  refine G_iload_n X 1 dX6_wake_1 rfl rfl ?_
  obtain ⟨q1, hq1, h⟩ := bd_some h
  rcases q1 with uq1 | xq1
  rotate_left
  · have h := sm_r h
    obtain rfl := Option.some.inj h
    exact G_callVE X (As := [.int a1]) (rest := []) (ce_X6_requireBeacon (l := g.2.1) (κ := gκ g)   hq1) cal_X6_requireBeacon wM_X6_138 wI_X6_requireBeacon wS_X6_requireBeacon rfl rfl (by decide) rfl rfl (Nat.le_of_ble_eq_true rfl) dX6_wake_2 hf
  have h := sm_l h
  refine G_callV X (As := [.int a1]) (rest := []) (T' := (x0, x1, x2, ps, ta, tb, d, S, pg, c, m, ot)) (st2 := []) (ct_X6_requireBeacon (l := g.2.1) (κ := gκ g)   hq1) cal_X6_requireBeacon wM_X6_138 wI_X6_requireBeacon wS_X6_requireBeacon rfl rfl (by decide) rfl rfl (Nat.le_of_ble_eq_true rfl) ⟨Nat.zero_le _, Nat.zero_le _⟩ dX6_wake_2 rfl ?_
  refine G_aload_n X 0 dX6_wake_5 rfl rfl ?_
  refine f_X6_20 X rfl rfl dX6_wake_6 ?_
  refine f_X6_141 X (kd_w0 (Or.inl (by decide))) rfl dX6_wake_9 ?_
  refine G_iload_n X 1 dX6_wake_12 rfl rfl ?_
  obtain ⟨g2, h⟩ := gd_some h
  refine G_aaldB X (kd_w2 (Or.inl (by decide))) g2 dX6_wake_13 ?_
  refine f_X6_162 X (kd_o0 (Or.inl (by decide)) (inb_isO (by decide) g2)) rfl dX6_wake_14 ?_
  refine G_if_eq X (tgt := 28) dX6_wake_17 (by decide) (fun c3 => ?_) (fun c3 => ?_)
  · have h := it_t c3 h
    refine G_aload_n X 0 dX6_wake_28 rfl rfl ?_
    obtain ⟨q4, hq4, h⟩ := bd_some h
    refine G_callV X (As := []) (rest := []) (T' := (x0, x1, x2, q4.1, ta, tb, d, S, pg, q4.2, m, ot)) (st2 := []) (ct_X6_keepForUndo (l := g.2.1) (κ := gκ g)   hq4) cal_X6_keepForUndo wM_X6_98 wI_X6_keepForUndo wS_X6_keepForUndo rfl rfl (by decide) rfl rfl (Nat.le_of_ble_eq_true rfl) ⟨Nat.zero_le _, Nat.zero_le _⟩ dX6_wake_29 rfl ?_
    refine G_aload_n X 0 dX6_wake_32 rfl rfl ?_
    refine f_X6_20 X rfl rfl dX6_wake_33 ?_
    refine f_X6_141 X (kd_w0 (Or.inl (by decide))) rfl dX6_wake_36 ?_
    refine G_iload_n X 1 dX6_wake_39 rfl rfl ?_
    obtain ⟨g5, h⟩ := gd_some h
    refine G_aaldB X (kd_w2 (Or.inl (by decide))) g5 dX6_wake_40 ?_
    obtain ⟨q6, hq6, h⟩ := bd_some h
    refine G_callVN X (As := []) (rest := []) (T' := (q6, x1, x2, q4.1, ta, tb, d, S, pg, q4.2, m, ot)) (st2 := []) (ct_X0_startListening (l := g.2.1) (κ := gκ g) (T := ((x0, x1, x2, q4.1, ta, tb, d, S, pg, q4.2, m, ot))) (r := 0) (x := x0) (Or.inl (by decide)) (inb_isO (by decide) g5) hq6) cal_X0_startListening nM_X6_270 wI_X0_startListening wS_X0_startListening (kd_o0 (Or.inl (by decide)) (inb_isO (by decide) g5)) rfl (by decide) rfl rfl (Nat.le_of_ble_eq_true rfl) ⟨Nat.zero_le _, Nat.zero_le _⟩ dX6_wake_41 rfl ?_
    refine G_aload_n X 0 dX6_wake_44 rfl rfl ?_
    refine f_X6_20 X rfl rfl dX6_wake_45 ?_
    refine f_X6_114 X (kd_w0 (Or.inl (by decide))) rfl dX6_wake_48 ?_
    obtain rfl := Option.some.inj h
    exact (show FinI g cX6_wake _ _ _ from hf) _ _ dX6_wake_51 rfl
  · have h := it_f c3 h
    obtain rfl := Option.some.inj h
    exact (show FinE g cX6_wake _ 1 from hf).1 _ _ _ dX6_wake_20 dX6_wake_23 dX6_wake_24 dX6_wake_27 (Nat.le_of_ble_eq_true rfl)
set_option maxRecDepth 20000 in
theorem ct_X6_wake {l : Launch} {κ : KX}  {x0 : St} {x1 : St} {x2 : St} {ps : Nat → St} {ta : St} {tb : St} {d : St} {S : St} {pg : St} {c : St} {m : St} {ot : St} {a1 : Int32} {e0 : St} {e1 : Nat → St} {e2 : St} {v : Int32}  (h : sX6_wake x0 ps c a1 = some (e0, e1, e2, .inl v)) : Ct l κ yX6_wake cX6_wake 2 (some .int) 7 110 [.ref (xE κ 8 0 0), .int a1] ((x0, x1, x2, ps, ta, tb, d, S, pg, c, m, ot)) ((e0, x1, x2, e1, ta, tb, d, S, pg, e2, m, ot)) (some (.int v)) := by
  refine Ct_i RX6 rfl (by decide +kernel) (Nat.le_of_ble_eq_true rfl) (fun g hl hκ X hf => ?_)
  subst hl; subst hκ
  exact gX6_wake (res := (e0, e1, e2, .inl v)) X  hf h
set_option maxRecDepth 20000 in
theorem ce_X6_wake {l : Launch} {κ : KX}  {x0 : St} {x1 : St} {x2 : St} {ps : Nat → St} {ta : St} {tb : St} {d : St} {S : St} {pg : St} {c : St} {m : St} {ot : St} {a1 : Int32} {e0 : St} {e1 : Nat → St} {e2 : St} {c9 : Nat}  (h : sX6_wake x0 ps c a1 = some (e0, e1, e2, .inr c9)) : CtE l κ yX6_wake cX6_wake 2 (some .int) 7 110 [.ref (xE κ 8 0 0), .int a1] ((x0, x1, x2, ps, ta, tb, d, S, pg, c, m, ot)) ((e0, x1, x2, e1, ta, tb, d, S, pg, e2, m, ot)) c9 := by
  refine CtE_of RX6 rfl rfl (by decide +kernel) (Nat.le_of_ble_eq_true rfl) (by decide) (fun g hl hκ X hf => ?_)
  subst hl; subst hκ
  exact gX6_wake (res := (e0, e1, e2, .inr c9)) X  hf h
set_option maxRecDepth 20000 in
theorem gX6_setEvery {g : GX}  {x0 : St} {x1 : St} {x2 : St} {ps : Nat → St} {ta : St} {tb : St} {d : St} {S : St} {pg : St} {c : St} {m : St} {ot : St} {a1 : Int32} {a2 : Int32} {res : St × (Nat → St) × St × (Int32 ⊕ Nat)} (X : CX g RX6 cX6_setEvery 5 7 110)  (hf : FinX g cX6_setEvery .int ((res.1, x1, x2, res.2.1, ta, tb, d, S, pg, res.2.2.1, m, ot)) (res.2.2.2)) (h : sX6_setEvery x0 ps c a1 a2 = some res) : G g 0 0 ((x0, x1, x2, ps, ta, tb, d, S, pg, c, m, ot)) 0 [(0, .ref (xE (gκ g) 8 0 0)), (1, .int a1), (2, .int a2)] [] := by
  unfold sX6_setEvery at h
  refine G_aload_n X 0 dX6_setEvery_0 rfl rfl ?_
  refine G_iload_n X 1 dX6_setEvery_1 rfl rfl ?_
  obtain ⟨q1, hq1, h⟩ := bd_some h
  rcases q1 with uq1 | xq1
  rotate_left
  · have h := sm_r h
    obtain rfl := Option.some.inj h
    exact G_callVE X (As := [.int a1]) (rest := []) (ce_X6_requireBeacon (l := g.2.1) (κ := gκ g)   hq1) cal_X6_requireBeacon wM_X6_138 wI_X6_requireBeacon wS_X6_requireBeacon rfl rfl (by decide) rfl rfl (Nat.le_of_ble_eq_true rfl) dX6_setEvery_2 hf
  have h := sm_l h
  refine G_callV X (As := [.int a1]) (rest := []) (T' := (x0, x1, x2, ps, ta, tb, d, S, pg, c, m, ot)) (st2 := []) (ct_X6_requireBeacon (l := g.2.1) (κ := gκ g)   hq1) cal_X6_requireBeacon wM_X6_138 wI_X6_requireBeacon wS_X6_requireBeacon rfl rfl (by decide) rfl rfl (Nat.le_of_ble_eq_true rfl) ⟨Nat.zero_le _, Nat.zero_le _⟩ dX6_setEvery_2 rfl ?_
  refine G_aload_n X 0 dX6_setEvery_5 rfl rfl ?_
  refine f_X6_20 X rfl rfl dX6_setEvery_6 ?_
  refine f_X6_141 X (kd_w0 (Or.inl (by decide))) rfl dX6_setEvery_9 ?_
  refine G_iload_n X 1 dX6_setEvery_12 rfl rfl ?_
  obtain ⟨g2, h⟩ := gd_some h
  refine G_aaldB X (kd_w2 (Or.inl (by decide))) g2 dX6_setEvery_13 ?_
  refine G_astore_n X (lv' := [(3, .ref (xE (gκ g) 0 (ix a1 + 1) 0)), (0, .ref (xE (gκ g) 8 0 0)), (1, .int a1), (2, .int a2)]) dX6_setEvery_14 rfl (by decide) rfl ?_
  refine G_aload_n X 0 dX6_setEvery_15 rfl rfl ?_
  refine G_iload_n X 3 dX6_setEvery_16 rfl rfl ?_
  obtain ⟨q3, hq3, h⟩ := bd_some h
  refine G_callVN X (As := [.int a2]) (rest := []) (T' := (x0, x1, x2, ps, ta, tb, d, S, pg, c, m, ot)) (st2 := [.int q3]) (ct_X0_allowsPeriod (l := g.2.1) (κ := gκ g) (T := ((x0, x1, x2, ps, ta, tb, d, S, pg, c, m, ot))) (r := 0) (x := x0) (Or.inl (by decide)) (inb_isO (by decide) g2) hq3) cal_X0_allowsPeriod nM_X6_273 wI_X0_allowsPeriod wS_X0_allowsPeriod (kd_o0 (Or.inl (by decide)) (inb_isO (by decide) g2)) rfl (by decide) rfl rfl (Nat.le_of_ble_eq_true rfl) ⟨Nat.zero_le _, Nat.zero_le _⟩ dX6_setEvery_17 rfl ?_
  refine G_if_ne X (tgt := 31) dX6_setEvery_20 (by decide) (fun c4 => ?_) (fun c4 => ?_)
  · have h := it_t c4 h
    refine G_aload_n X 1 dX6_setEvery_31 rfl rfl ?_
    obtain ⟨q5, hq5, h⟩ := bd_some h
    refine G_callV X (As := []) (rest := []) (T' := (x0, x1, x2, q5.1, ta, tb, d, S, pg, q5.2, m, ot)) (st2 := []) (ct_X6_keepForUndo (l := g.2.1) (κ := gκ g)   hq5) cal_X6_keepForUndo wM_X6_98 wI_X6_keepForUndo wS_X6_keepForUndo rfl rfl (by decide) rfl rfl (Nat.le_of_ble_eq_true rfl) ⟨Nat.zero_le _, Nat.zero_le _⟩ dX6_setEvery_32 rfl ?_
    refine G_aload_n X 0 dX6_setEvery_35 rfl rfl ?_
    refine f_X6_145 X (kd_o0 (Or.inl (by decide)) (inb_isO (by decide) g2)) rfl dX6_setEvery_36 ?_
    refine G_istore X (lv' := [(4, .int (gI x0 (ix a1 + 1) 0 1)), (3, .ref (xE (gκ g) 0 (ix a1 + 1) 0)), (0, .ref (xE (gκ g) 8 0 0)), (1, .int a1), (2, .int a2)]) dX6_setEvery_39 (by decide) rfl ?_
    refine G_aload_n X 1 dX6_setEvery_41 rfl rfl ?_
    refine G_iload_n X 4 dX6_setEvery_42 rfl rfl ?_
    obtain ⟨z6, ez6, h⟩ := nm_some h
    refine p_X6_145 X (T' := (z6, x1, x2, q5.1, ta, tb, d, S, pg, q5.2, m, ot)) (kd_o0 (Or.inl (by decide)) (inb_isO (by decide) g2)) rfl  (by rw [ez6]; rfl) dX6_setEvery_43 ?_
    refine G_iload X 0 dX6_setEvery_46 rfl ?_
    obtain rfl := Option.some.inj h
    exact (show FinI g cX6_setEvery _ _ _ from hf) _ _ dX6_setEvery_48 rfl
  · have h := it_f (fun k => k c4) h
    obtain rfl := Option.some.inj h
    exact (show FinE g cX6_setEvery _ 2 from hf).1 _ _ _ dX6_setEvery_23 dX6_setEvery_26 dX6_setEvery_27 dX6_setEvery_30 (Nat.le_of_ble_eq_true rfl)
set_option maxRecDepth 20000 in
theorem ct_X6_setEvery {l : Launch} {κ : KX}  {x0 : St} {x1 : St} {x2 : St} {ps : Nat → St} {ta : St} {tb : St} {d : St} {S : St} {pg : St} {c : St} {m : St} {ot : St} {a1 : Int32} {a2 : Int32} {e0 : St} {e1 : Nat → St} {e2 : St} {v : Int32}  (h : sX6_setEvery x0 ps c a1 a2 = some (e0, e1, e2, .inl v)) : Ct l κ yX6_setEvery cX6_setEvery 5 (some .int) 7 110 [.ref (xE κ 8 0 0), .int a1, .int a2] ((x0, x1, x2, ps, ta, tb, d, S, pg, c, m, ot)) ((e0, x1, x2, e1, ta, tb, d, S, pg, e2, m, ot)) (some (.int v)) := by
  refine Ct_i RX6 rfl (by decide +kernel) (Nat.le_of_ble_eq_true rfl) (fun g hl hκ X hf => ?_)
  subst hl; subst hκ
  exact gX6_setEvery (res := (e0, e1, e2, .inl v)) X  hf h
set_option maxRecDepth 20000 in
theorem ce_X6_setEvery {l : Launch} {κ : KX}  {x0 : St} {x1 : St} {x2 : St} {ps : Nat → St} {ta : St} {tb : St} {d : St} {S : St} {pg : St} {c : St} {m : St} {ot : St} {a1 : Int32} {a2 : Int32} {e0 : St} {e1 : Nat → St} {e2 : St} {c9 : Nat}  (h : sX6_setEvery x0 ps c a1 a2 = some (e0, e1, e2, .inr c9)) : CtE l κ yX6_setEvery cX6_setEvery 5 (some .int) 7 110 [.ref (xE κ 8 0 0), .int a1, .int a2] ((x0, x1, x2, ps, ta, tb, d, S, pg, c, m, ot)) ((e0, x1, x2, e1, ta, tb, d, S, pg, e2, m, ot)) c9 := by
  refine CtE_of RX6 rfl rfl (by decide +kernel) (Nat.le_of_ble_eq_true rfl) (by decide) (fun g hl hκ X hf => ?_)
  subst hl; subst hκ
  exact gX6_setEvery (res := (e0, e1, e2, .inr c9)) X  hf h
set_option maxRecDepth 20000 in
theorem gX6_setAt {g : GX}  {x0 : St} {x1 : St} {x2 : St} {ps : Nat → St} {ta : St} {tb : St} {d : St} {S : St} {pg : St} {c : St} {m : St} {ot : St} {a1 : Int32} {a2 : Int32} {res : St × (Nat → St) × St × (Int32 ⊕ Nat)} (X : CX g RX6 cX6_setAt 5 7 110)  (hf : FinX g cX6_setAt .int ((res.1, x1, x2, res.2.1, ta, tb, d, S, pg, res.2.2.1, m, ot)) (res.2.2.2)) (h : sX6_setAt x0 ps c a1 a2 = some res) : G g 0 0 ((x0, x1, x2, ps, ta, tb, d, S, pg, c, m, ot)) 0 [(0, .ref (xE (gκ g) 8 0 0)), (1, .int a1), (2, .int a2)] [] := by
  unfold sX6_setAt at h
  refine G_aload_n X 0 dX6_setAt_0 rfl rfl ?_
  refine G_iload_n X 1 dX6_setAt_1 rfl rfl ?_
  obtain ⟨q1, hq1, h⟩ := bd_some h
  rcases q1 with uq1 | xq1
  rotate_left
  · have h := sm_r h
    obtain rfl := Option.some.inj h
    exact G_callVE X (As := [.int a1]) (rest := []) (ce_X6_requireBeacon (l := g.2.1) (κ := gκ g)   hq1) cal_X6_requireBeacon wM_X6_138 wI_X6_requireBeacon wS_X6_requireBeacon rfl rfl (by decide) rfl rfl (Nat.le_of_ble_eq_true rfl) dX6_setAt_2 hf
  have h := sm_l h
  refine G_callV X (As := [.int a1]) (rest := []) (T' := (x0, x1, x2, ps, ta, tb, d, S, pg, c, m, ot)) (st2 := []) (ct_X6_requireBeacon (l := g.2.1) (κ := gκ g)   hq1) cal_X6_requireBeacon wM_X6_138 wI_X6_requireBeacon wS_X6_requireBeacon rfl rfl (by decide) rfl rfl (Nat.le_of_ble_eq_true rfl) ⟨Nat.zero_le _, Nat.zero_le _⟩ dX6_setAt_2 rfl ?_
  refine G_aload_n X 0 dX6_setAt_5 rfl rfl ?_
  refine f_X6_20 X rfl rfl dX6_setAt_6 ?_
  refine f_X6_141 X (kd_w0 (Or.inl (by decide))) rfl dX6_setAt_9 ?_
  refine G_iload_n X 1 dX6_setAt_12 rfl rfl ?_
  obtain ⟨g2, h⟩ := gd_some h
  refine G_aaldB X (kd_w2 (Or.inl (by decide))) g2 dX6_setAt_13 ?_
  refine G_astore_n X (lv' := [(3, .ref (xE (gκ g) 0 (ix a1 + 1) 0)), (0, .ref (xE (gκ g) 8 0 0)), (1, .int a1), (2, .int a2)]) dX6_setAt_14 rfl (by decide) rfl ?_
  refine G_aload_n X 0 dX6_setAt_15 rfl rfl ?_
  refine G_iload_n X 3 dX6_setAt_16 rfl rfl ?_
  obtain ⟨q3, hq3, h⟩ := bd_some h
  refine G_callVN X (As := [.int a2]) (rest := []) (T' := (x0, x1, x2, ps, ta, tb, d, S, pg, c, m, ot)) (st2 := [.int q3]) (ct_X0_allowsFirstWake (l := g.2.1) (κ := gκ g) (T := ((x0, x1, x2, ps, ta, tb, d, S, pg, c, m, ot))) (r := 0) (x := x0) (Or.inl (by decide)) (inb_isO (by decide) g2) hq3) cal_X0_allowsFirstWake nM_X6_276 wI_X0_allowsFirstWake wS_X0_allowsFirstWake (kd_o0 (Or.inl (by decide)) (inb_isO (by decide) g2)) rfl (by decide) rfl rfl (Nat.le_of_ble_eq_true rfl) ⟨Nat.zero_le _, Nat.zero_le _⟩ dX6_setAt_17 rfl ?_
  refine G_if_ne X (tgt := 31) dX6_setAt_20 (by decide) (fun c4 => ?_) (fun c4 => ?_)
  · have h := it_t c4 h
    refine G_aload_n X 1 dX6_setAt_31 rfl rfl ?_
    obtain ⟨q5, hq5, h⟩ := bd_some h
    refine G_callV X (As := []) (rest := []) (T' := (x0, x1, x2, q5.1, ta, tb, d, S, pg, q5.2, m, ot)) (st2 := []) (ct_X6_keepForUndo (l := g.2.1) (κ := gκ g)   hq5) cal_X6_keepForUndo wM_X6_98 wI_X6_keepForUndo wS_X6_keepForUndo rfl rfl (by decide) rfl rfl (Nat.le_of_ble_eq_true rfl) ⟨Nat.zero_le _, Nat.zero_le _⟩ dX6_setAt_32 rfl ?_
    refine G_aload_n X 0 dX6_setAt_35 rfl rfl ?_
    refine f_X6_150 X (kd_o0 (Or.inl (by decide)) (inb_isO (by decide) g2)) rfl dX6_setAt_36 ?_
    refine G_istore X (lv' := [(4, .int (gI x0 (ix a1 + 1) 0 2)), (3, .ref (xE (gκ g) 0 (ix a1 + 1) 0)), (0, .ref (xE (gκ g) 8 0 0)), (1, .int a1), (2, .int a2)]) dX6_setAt_39 (by decide) rfl ?_
    refine G_aload_n X 1 dX6_setAt_41 rfl rfl ?_
    refine G_iload_n X 4 dX6_setAt_42 rfl rfl ?_
    obtain ⟨z6, ez6, h⟩ := nm_some h
    refine p_X6_150 X (T' := (z6, x1, x2, q5.1, ta, tb, d, S, pg, q5.2, m, ot)) (kd_o0 (Or.inl (by decide)) (inb_isO (by decide) g2)) rfl  (by rw [ez6]; rfl) dX6_setAt_43 ?_
    refine G_iload X 0 dX6_setAt_46 rfl ?_
    obtain rfl := Option.some.inj h
    exact (show FinI g cX6_setAt _ _ _ from hf) _ _ dX6_setAt_48 rfl
  · have h := it_f (fun k => k c4) h
    obtain rfl := Option.some.inj h
    exact (show FinE g cX6_setAt _ 2 from hf).1 _ _ _ dX6_setAt_23 dX6_setAt_26 dX6_setAt_27 dX6_setAt_30 (Nat.le_of_ble_eq_true rfl)
set_option maxRecDepth 20000 in
theorem ct_X6_setAt {l : Launch} {κ : KX}  {x0 : St} {x1 : St} {x2 : St} {ps : Nat → St} {ta : St} {tb : St} {d : St} {S : St} {pg : St} {c : St} {m : St} {ot : St} {a1 : Int32} {a2 : Int32} {e0 : St} {e1 : Nat → St} {e2 : St} {v : Int32}  (h : sX6_setAt x0 ps c a1 a2 = some (e0, e1, e2, .inl v)) : Ct l κ yX6_setAt cX6_setAt 5 (some .int) 7 110 [.ref (xE κ 8 0 0), .int a1, .int a2] ((x0, x1, x2, ps, ta, tb, d, S, pg, c, m, ot)) ((e0, x1, x2, e1, ta, tb, d, S, pg, e2, m, ot)) (some (.int v)) := by
  refine Ct_i RX6 rfl (by decide +kernel) (Nat.le_of_ble_eq_true rfl) (fun g hl hκ X hf => ?_)
  subst hl; subst hκ
  exact gX6_setAt (res := (e0, e1, e2, .inl v)) X  hf h
set_option maxRecDepth 20000 in
theorem ce_X6_setAt {l : Launch} {κ : KX}  {x0 : St} {x1 : St} {x2 : St} {ps : Nat → St} {ta : St} {tb : St} {d : St} {S : St} {pg : St} {c : St} {m : St} {ot : St} {a1 : Int32} {a2 : Int32} {e0 : St} {e1 : Nat → St} {e2 : St} {c9 : Nat}  (h : sX6_setAt x0 ps c a1 a2 = some (e0, e1, e2, .inr c9)) : CtE l κ yX6_setAt cX6_setAt 5 (some .int) 7 110 [.ref (xE κ 8 0 0), .int a1, .int a2] ((x0, x1, x2, ps, ta, tb, d, S, pg, c, m, ot)) ((e0, x1, x2, e1, ta, tb, d, S, pg, e2, m, ot)) c9 := by
  refine CtE_of RX6 rfl rfl (by decide +kernel) (Nat.le_of_ble_eq_true rfl) (by decide) (fun g hl hκ X hf => ?_)
  subst hl; subst hκ
  exact gX6_setAt (res := (e0, e1, e2, .inr c9)) X  hf h
set_option maxRecDepth 20000 in
theorem gX6_charge {g : GX}  {x0 : St} {x1 : St} {x2 : St} {ps : Nat → St} {ta : St} {tb : St} {d : St} {S : St} {pg : St} {c : St} {m : St} {ot : St} {a1 : Int32} {a2 : Int32} {res : St × (Nat → St) × St × (Int32 ⊕ Nat)} (X : CX g RX6 cX6_charge 3 7 110)  (hf : FinX g cX6_charge .int ((res.1, x1, x2, res.2.1, ta, tb, d, S, pg, res.2.2.1, m, ot)) (res.2.2.2)) (h : sX6_charge x0 ps c a1 a2 = some res) : G g 0 0 ((x0, x1, x2, ps, ta, tb, d, S, pg, c, m, ot)) 0 [(0, .ref (xE (gκ g) 8 0 0)), (1, .int a1), (2, .int a2)] [] := by
  unfold sX6_charge at h
  refine G_aload_n X 0 dX6_charge_0 rfl rfl ?_
  refine G_iload_n X 1 dX6_charge_1 rfl rfl ?_
  obtain ⟨q1, hq1, h⟩ := bd_some h
  rcases q1 with uq1 | xq1
  rotate_left
  · have h := sm_r h
    obtain rfl := Option.some.inj h
    exact G_callVE X (As := [.int a1]) (rest := []) (ce_X6_requireBeacon (l := g.2.1) (κ := gκ g)   hq1) cal_X6_requireBeacon wM_X6_138 wI_X6_requireBeacon wS_X6_requireBeacon rfl rfl (by decide) rfl rfl (Nat.le_of_ble_eq_true rfl) dX6_charge_2 hf
  have h := sm_l h
  refine G_callV X (As := [.int a1]) (rest := []) (T' := (x0, x1, x2, ps, ta, tb, d, S, pg, c, m, ot)) (st2 := []) (ct_X6_requireBeacon (l := g.2.1) (κ := gκ g)   hq1) cal_X6_requireBeacon wM_X6_138 wI_X6_requireBeacon wS_X6_requireBeacon rfl rfl (by decide) rfl rfl (Nat.le_of_ble_eq_true rfl) ⟨Nat.zero_le _, Nat.zero_le _⟩ dX6_charge_2 rfl ?_
  refine G_iload_n X 2 dX6_charge_5 rfl rfl ?_
  obtain ⟨q2, hq2, h⟩ := bd_some h
  refine G_callS X (As := [.int a2]) (rest := []) (T' := (x0, x1, x2, ps, ta, tb, d, S, pg, c, m, ot)) (st2 := [.int q2]) (ct_X6_isCharge (l := g.2.1) (κ := gκ g)   hq2) cal_X6_isCharge wM_X6_279 wT_X6_isCharge (by decide) rfl rfl (Nat.le_of_ble_eq_true rfl) ⟨Nat.zero_le _, Nat.zero_le _⟩ dX6_charge_6 rfl ?_
  refine G_if_ne X (tgt := 20) dX6_charge_9 (by decide) (fun c3 => ?_) (fun c3 => ?_)
  · have h := it_t c3 h
    refine G_aload_n X 0 dX6_charge_20 rfl rfl ?_
    obtain ⟨q4, hq4, h⟩ := bd_some h
    refine G_callV X (As := []) (rest := []) (T' := (x0, x1, x2, q4.1, ta, tb, d, S, pg, q4.2, m, ot)) (st2 := []) (ct_X6_keepForUndo (l := g.2.1) (κ := gκ g)   hq4) cal_X6_keepForUndo wM_X6_98 wI_X6_keepForUndo wS_X6_keepForUndo rfl rfl (by decide) rfl rfl (Nat.le_of_ble_eq_true rfl) ⟨Nat.zero_le _, Nat.zero_le _⟩ dX6_charge_21 rfl ?_
    refine G_aload_n X 0 dX6_charge_24 rfl rfl ?_
    refine f_X6_20 X rfl rfl dX6_charge_25 ?_
    refine f_X6_141 X (kd_w0 (Or.inl (by decide))) rfl dX6_charge_28 ?_
    refine G_iload_n X 1 dX6_charge_31 rfl rfl ?_
    obtain ⟨g5, h⟩ := gd_some h
    refine G_aaldB X (kd_w2 (Or.inl (by decide))) g5 dX6_charge_32 ?_
    refine G_iload_n X 2 dX6_charge_33 rfl rfl ?_
    obtain ⟨q6, hq6, h⟩ := bd_some h
    refine G_callVN X (As := [.int a2]) (rest := []) (T' := (q6, x1, x2, q4.1, ta, tb, d, S, pg, q4.2, m, ot)) (st2 := []) (ct_X0_takeEnergy (l := g.2.1) (κ := gκ g) (T := ((x0, x1, x2, q4.1, ta, tb, d, S, pg, q4.2, m, ot))) (r := 0) (x := x0) (Or.inl (by decide)) (inb_isO (by decide) g5) hq6) cal_X0_takeEnergy nM_X6_282 wI_X0_takeEnergy wS_X0_takeEnergy (kd_o0 (Or.inl (by decide)) (inb_isO (by decide) g5)) rfl (by decide) rfl rfl (Nat.le_of_ble_eq_true rfl) ⟨Nat.zero_le _, Nat.zero_le _⟩ dX6_charge_34 rfl ?_
    refine G_aload_n X 0 dX6_charge_37 rfl rfl ?_
    refine f_X6_20 X rfl rfl dX6_charge_38 ?_
    refine f_X6_141 X (kd_w0 (Or.inl (by decide))) rfl dX6_charge_41 ?_
    refine G_iload_n X 1 dX6_charge_44 rfl rfl ?_
    obtain ⟨g7, h⟩ := gd_some h
    refine G_aaldB X (kd_w2 (Or.inl (by decide))) g7 dX6_charge_45 ?_
    refine f_X6_159 X (kd_o0 (Or.inl (by decide)) (inb_isO (by decide) g7)) rfl dX6_charge_46 ?_
    obtain rfl := Option.some.inj h
    exact (show FinI g cX6_charge _ _ _ from hf) _ _ dX6_charge_49 rfl
  · have h := it_f (fun k => k c3) h
    obtain rfl := Option.some.inj h
    exact (show FinE g cX6_charge _ 2 from hf).1 _ _ _ dX6_charge_12 dX6_charge_15 dX6_charge_16 dX6_charge_19 (Nat.le_of_ble_eq_true rfl)
set_option maxRecDepth 20000 in
theorem ct_X6_charge {l : Launch} {κ : KX}  {x0 : St} {x1 : St} {x2 : St} {ps : Nat → St} {ta : St} {tb : St} {d : St} {S : St} {pg : St} {c : St} {m : St} {ot : St} {a1 : Int32} {a2 : Int32} {e0 : St} {e1 : Nat → St} {e2 : St} {v : Int32}  (h : sX6_charge x0 ps c a1 a2 = some (e0, e1, e2, .inl v)) : Ct l κ yX6_charge cX6_charge 3 (some .int) 7 110 [.ref (xE κ 8 0 0), .int a1, .int a2] ((x0, x1, x2, ps, ta, tb, d, S, pg, c, m, ot)) ((e0, x1, x2, e1, ta, tb, d, S, pg, e2, m, ot)) (some (.int v)) := by
  refine Ct_i RX6 rfl (by decide +kernel) (Nat.le_of_ble_eq_true rfl) (fun g hl hκ X hf => ?_)
  subst hl; subst hκ
  exact gX6_charge (res := (e0, e1, e2, .inl v)) X  hf h
set_option maxRecDepth 20000 in
theorem ce_X6_charge {l : Launch} {κ : KX}  {x0 : St} {x1 : St} {x2 : St} {ps : Nat → St} {ta : St} {tb : St} {d : St} {S : St} {pg : St} {c : St} {m : St} {ot : St} {a1 : Int32} {a2 : Int32} {e0 : St} {e1 : Nat → St} {e2 : St} {c9 : Nat}  (h : sX6_charge x0 ps c a1 a2 = some (e0, e1, e2, .inr c9)) : CtE l κ yX6_charge cX6_charge 3 (some .int) 7 110 [.ref (xE κ 8 0 0), .int a1, .int a2] ((x0, x1, x2, ps, ta, tb, d, S, pg, c, m, ot)) ((e0, x1, x2, e1, ta, tb, d, S, pg, e2, m, ot)) c9 := by
  refine CtE_of RX6 rfl rfl (by decide +kernel) (Nat.le_of_ble_eq_true rfl) (by decide) (fun g hl hκ X hf => ?_)
  subst hl; subst hκ
  exact gX6_charge (res := (e0, e1, e2, .inr c9)) X  hf h
set_option maxRecDepth 20000 in
theorem gX6_setNear {g : GX}  {x0 : St} {x1 : St} {x2 : St} {ps : Nat → St} {ta : St} {tb : St} {d : St} {S : St} {pg : St} {c : St} {m : St} {ot : St} {a1 : Int32} {a2 : Int32} {a3 : Int32} {res : St × (Nat → St) × St × (Int32 ⊕ Nat)} (X : CX g RX6 cX6_setNear 4 7 110)  (hf : FinX g cX6_setNear .boolean ((res.1, x1, x2, res.2.1, ta, tb, d, S, pg, res.2.2.1, m, ot)) (res.2.2.2)) (h : sX6_setNear x0 ps c a1 a2 a3 = some res) : G g 0 0 ((x0, x1, x2, ps, ta, tb, d, S, pg, c, m, ot)) 0 [(0, .ref (xE (gκ g) 8 0 0)), (1, .int a1), (2, .int a2), (3, .int a3)] [] := by
  unfold sX6_setNear at h
  refine G_aload_n X 0 dX6_setNear_0 rfl rfl ?_
  refine G_iload_n X 1 dX6_setNear_1 rfl rfl ?_
  obtain ⟨q1, hq1, h⟩ := bd_some h
  rcases q1 with uq1 | xq1
  rotate_left
  · have h := sm_r h
    obtain rfl := Option.some.inj h
    exact G_callVE X (As := [.int a1]) (rest := []) (ce_X6_requireBeacon (l := g.2.1) (κ := gκ g)   hq1) cal_X6_requireBeacon wM_X6_138 wI_X6_requireBeacon wS_X6_requireBeacon rfl rfl (by decide) rfl rfl (Nat.le_of_ble_eq_true rfl) dX6_setNear_2 hf
  have h := sm_l h
  refine G_callV X (As := [.int a1]) (rest := []) (T' := (x0, x1, x2, ps, ta, tb, d, S, pg, c, m, ot)) (st2 := []) (ct_X6_requireBeacon (l := g.2.1) (κ := gκ g)   hq1) cal_X6_requireBeacon wM_X6_138 wI_X6_requireBeacon wS_X6_requireBeacon rfl rfl (by decide) rfl rfl (Nat.le_of_ble_eq_true rfl) ⟨Nat.zero_le _, Nat.zero_le _⟩ dX6_setNear_2 rfl ?_
  refine G_aload_n X 0 dX6_setNear_5 rfl rfl ?_
  refine G_iload_n X 2 dX6_setNear_6 rfl rfl ?_
  obtain ⟨q2, hq2, h⟩ := bd_some h
  rcases q2 with uq2 | xq2
  rotate_left
  · have h := sm_r h
    obtain rfl := Option.some.inj h
    exact G_callVE X (As := [.int a2]) (rest := []) (ce_X6_requireBeacon (l := g.2.1) (κ := gκ g)   hq2) cal_X6_requireBeacon wM_X6_138 wI_X6_requireBeacon wS_X6_requireBeacon rfl rfl (by decide) rfl rfl (Nat.le_of_ble_eq_true rfl) dX6_setNear_7 hf
  have h := sm_l h
  refine G_callV X (As := [.int a2]) (rest := []) (T' := (x0, x1, x2, ps, ta, tb, d, S, pg, c, m, ot)) (st2 := []) (ct_X6_requireBeacon (l := g.2.1) (κ := gκ g)   hq2) cal_X6_requireBeacon wM_X6_138 wI_X6_requireBeacon wS_X6_requireBeacon rfl rfl (by decide) rfl rfl (Nat.le_of_ble_eq_true rfl) ⟨Nat.zero_le _, Nat.zero_le _⟩ dX6_setNear_7 rfl ?_
  refine G_iload_n X 1 dX6_setNear_10 rfl rfl ?_
  refine G_iload_n X 2 dX6_setNear_11 rfl rfl ?_
  refine G_icmp_ne X (tgt := 23) dX6_setNear_12 (by decide) (fun c3 => ?_) (fun c3 => ?_)
  · have h := it_t c3 h
    refine G_aload_n X 0 dX6_setNear_23 rfl rfl ?_
    refine f_X6_20 X rfl rfl dX6_setNear_24 ?_
    refine f_X6_141 X (kd_w0 (Or.inl (by decide))) rfl dX6_setNear_27 ?_
    refine G_iload_n X 1 dX6_setNear_30 rfl rfl ?_
    obtain ⟨g4, h⟩ := gd_some h
    refine G_aaldB X (kd_w2 (Or.inl (by decide))) g4 dX6_setNear_31 ?_
    refine f_X6_175 X (kd_o0 (Or.inl (by decide)) (inb_isO (by decide) g4)) rfl dX6_setNear_32 ?_
    refine G_iload_n X 2 dX6_setNear_35 rfl rfl ?_
    obtain ⟨q5, hq5, h⟩ := bd_some h
    refine G_callS X (As := [.int (gI x0 (ix a1 + 1) 0 10), .int a2]) (rest := []) (T' := (x0, x1, x2, ps, ta, tb, d, S, pg, c, m, ot)) (st2 := [.int q5]) (ct_X6_isIn (l := g.2.1) (κ := gκ g)   hq5) cal_X6_isIn wM_X6_205 wT_X6_isIn (by decide) rfl rfl (Nat.le_of_ble_eq_true rfl) ⟨Nat.zero_le _, Nat.zero_le _⟩ dX6_setNear_36 rfl ?_
    refine G_iload_n X 3 dX6_setNear_39 rfl rfl ?_
    refine G_icmp_ne X (tgt := 45) dX6_setNear_40 (by decide) (fun c6 => ?_) (fun c6 => ?_)
    · have h := it_t c6 h
      refine G_aload_n X 0 dX6_setNear_45 rfl rfl ?_
      obtain ⟨q7, hq7, h⟩ := bd_some h
      refine G_callV X (As := []) (rest := []) (T' := (x0, x1, x2, q7.1, ta, tb, d, S, pg, q7.2, m, ot)) (st2 := []) (ct_X6_keepForUndo (l := g.2.1) (κ := gκ g)   hq7) cal_X6_keepForUndo wM_X6_98 wI_X6_keepForUndo wS_X6_keepForUndo rfl rfl (by decide) rfl rfl (Nat.le_of_ble_eq_true rfl) ⟨Nat.zero_le _, Nat.zero_le _⟩ dX6_setNear_46 rfl ?_
      refine G_aload_n X 0 dX6_setNear_49 rfl rfl ?_
      refine f_X6_20 X rfl rfl dX6_setNear_50 ?_
      refine G_iload_n X 1 dX6_setNear_53 rfl rfl ?_
      refine G_iload_n X 2 dX6_setNear_54 rfl rfl ?_
      obtain ⟨q8, hq8, h⟩ := bd_some h
      refine G_callVN X (As := [.int a1, .int a2]) (rest := []) (T' := (q8, x1, x2, q7.1, ta, tb, d, S, pg, q7.2, m, ot)) (st2 := []) (ct_X5_switchNear (l := g.2.1) (κ := gκ g) (T := ((x0, x1, x2, q7.1, ta, tb, d, S, pg, q7.2, m, ot))) (r := 0) (x := x0) (Or.inl (by decide)) hq8) cal_X5_switchNear nM_X6_285 wI_X5_switchNear wS_X5_switchNear (kd_w0 (Or.inl (by decide))) rfl (by decide) rfl rfl (Nat.le_of_ble_eq_true rfl) ⟨Nat.zero_le _, Nat.zero_le _⟩ dX6_setNear_55 rfl ?_
      refine G_iconst X (v := (1 : Int32)) dX6_setNear_58 (by decide) ?_
      obtain rfl := Option.some.inj h
      exact (show FinI g cX6_setNear _ _ _ from hf) _ _ dX6_setNear_59 (isb_n (v := (1 : Int32)) rfl)
    · have h := it_f (fun k => k c6) h
      refine G_iconst X (v := (0 : Int32)) dX6_setNear_43 (by decide) ?_
      obtain rfl := Option.some.inj h
      exact (show FinI g cX6_setNear _ _ _ from hf) _ _ dX6_setNear_44 (isb_n (v := (0 : Int32)) rfl)
  · have h := it_f (fun k => k c3) h
    obtain rfl := Option.some.inj h
    exact (show FinE g cX6_setNear _ 2 from hf).1 _ _ _ dX6_setNear_15 dX6_setNear_18 dX6_setNear_19 dX6_setNear_22 (Nat.le_of_ble_eq_true rfl)
set_option maxRecDepth 20000 in
theorem ct_X6_setNear {l : Launch} {κ : KX}  {x0 : St} {x1 : St} {x2 : St} {ps : Nat → St} {ta : St} {tb : St} {d : St} {S : St} {pg : St} {c : St} {m : St} {ot : St} {a1 : Int32} {a2 : Int32} {a3 : Int32} {e0 : St} {e1 : Nat → St} {e2 : St} {v : Int32}  (h : sX6_setNear x0 ps c a1 a2 a3 = some (e0, e1, e2, .inl v)) : Ct l κ yX6_setNear cX6_setNear 4 (some .boolean) 7 110 [.ref (xE κ 8 0 0), .int a1, .int a2, .int a3] ((x0, x1, x2, ps, ta, tb, d, S, pg, c, m, ot)) ((e0, x1, x2, e1, ta, tb, d, S, pg, e2, m, ot)) (some (.int v)) := by
  refine Ct_i RX6 rfl (by decide +kernel) (Nat.le_of_ble_eq_true rfl) (fun g hl hκ X hf => ?_)
  subst hl; subst hκ
  exact gX6_setNear (res := (e0, e1, e2, .inl v)) X  hf h
set_option maxRecDepth 20000 in
theorem ce_X6_setNear {l : Launch} {κ : KX}  {x0 : St} {x1 : St} {x2 : St} {ps : Nat → St} {ta : St} {tb : St} {d : St} {S : St} {pg : St} {c : St} {m : St} {ot : St} {a1 : Int32} {a2 : Int32} {a3 : Int32} {e0 : St} {e1 : Nat → St} {e2 : St} {c9 : Nat}  (h : sX6_setNear x0 ps c a1 a2 a3 = some (e0, e1, e2, .inr c9)) : CtE l κ yX6_setNear cX6_setNear 4 (some .boolean) 7 110 [.ref (xE κ 8 0 0), .int a1, .int a2, .int a3] ((x0, x1, x2, ps, ta, tb, d, S, pg, c, m, ot)) ((e0, x1, x2, e1, ta, tb, d, S, pg, e2, m, ot)) c9 := by
  refine CtE_of RX6 rfl rfl (by decide +kernel) (Nat.le_of_ble_eq_true rfl) (by decide) (fun g hl hκ X hf => ?_)
  subst hl; subst hκ
  exact gX6_setNear (res := (e0, e1, e2, .inr c9)) X  hf h
set_option maxRecDepth 20000 in
theorem gX6_setTries_b11 {g : GX}  {x0 : St} {x1 : St} {x2 : St} {ps : Nat → St} {ta : St} {tb : St} {d : St} {S : St} {pg : St} {c : St} {m : St} {ot : St}  {res : St × (Nat → St) × St × (Int32 ⊕ Nat)}  (X : CX g RX6 cX6_setTries 3 6 89)  (hf : FinX g cX6_setTries .int ((res.1, x1, x2, res.2.1, ta, tb, d, S, pg, res.2.2.1, m, ot)) (res.2.2.2))   (h : sX6_setTries_b11  x0 ps c = some res) : G g 0 0 ((x0, x1, x2, ps, ta, tb, d, S, pg, c, m, ot)) 11 [] [] := by
  unfold sX6_setTries_b11 at h
  obtain rfl := Option.some.inj h
  exact (show FinE g cX6_setTries _ 2 from hf).1 _ _ _ dX6_setTries_11 dX6_setTries_14 dX6_setTries_15 dX6_setTries_18 (Nat.le_of_ble_eq_true rfl)
set_option maxRecDepth 20000 in
theorem gX6_setTries {g : GX}  {x0 : St} {x1 : St} {x2 : St} {ps : Nat → St} {ta : St} {tb : St} {d : St} {S : St} {pg : St} {c : St} {m : St} {ot : St} {a1 : Int32} {res : St × (Nat → St) × St × (Int32 ⊕ Nat)} (X : CX g RX6 cX6_setTries 3 6 89)  (hf : FinX g cX6_setTries .int ((res.1, x1, x2, res.2.1, ta, tb, d, S, pg, res.2.2.1, m, ot)) (res.2.2.2)) (h : sX6_setTries x0 ps c a1 = some res) : G g 0 0 ((x0, x1, x2, ps, ta, tb, d, S, pg, c, m, ot)) 0 [(0, .ref (xE (gκ g) 8 0 0)), (1, .int a1)] [] := by
  unfold sX6_setTries at h
  refine G_iload_n X 1 dX6_setTries_0 rfl rfl ?_
  refine G_iconst X (v := (1 : Int32)) dX6_setTries_1 (by decide) ?_
  refine G_icmp_lt X (tgt := 11) dX6_setTries_2 (by decide) (fun c1 => ?_) (fun c1 => ?_)
  · have h := it_t c1 h
    refine G_sub [] rfl ?_
    exact gX6_setTries_b11 X hf h
  · have h := it_f c1 h
    refine G_iload_n X 1 dX6_setTries_5 rfl rfl ?_
    refine G_bipush X (v := (9 : Int32)) dX6_setTries_6 (by decide) ?_
    refine G_icmp_le X (tgt := 19) dX6_setTries_8 (by decide) (fun c2 => ?_) (fun c2 => ?_)
    · have h := it_t c2 h
      refine G_aload_n X 0 dX6_setTries_19 rfl rfl ?_
      obtain ⟨q3, hq3, h⟩ := bd_some h
      refine G_callV X (As := []) (rest := []) (T' := (x0, x1, x2, q3.1, ta, tb, d, S, pg, q3.2, m, ot)) (st2 := []) (ct_X6_keepForUndo (l := g.2.1) (κ := gκ g)   hq3) cal_X6_keepForUndo wM_X6_98 wI_X6_keepForUndo wS_X6_keepForUndo rfl rfl (by decide) rfl rfl (Nat.le_of_ble_eq_true rfl) ⟨Nat.zero_le _, Nat.zero_le _⟩ dX6_setTries_20 rfl ?_
      refine G_aload_n X 0 dX6_setTries_23 rfl rfl ?_
      refine f_X6_20 X rfl rfl dX6_setTries_24 ?_
      refine f_X6_117 X (kd_w0 (Or.inl (by decide))) rfl dX6_setTries_27 ?_
      refine G_istore_n X (lv' := [(2, .int (gI x0 0 0 3)), (0, .ref (xE (gκ g) 8 0 0)), (1, .int a1)]) dX6_setTries_30 rfl (by decide) rfl ?_
      refine G_aload_n X 1 dX6_setTries_31 rfl rfl ?_
      refine f_X6_20 X rfl rfl dX6_setTries_32 ?_
      refine G_iload_n X 2 dX6_setTries_35 rfl rfl ?_
      obtain ⟨z4, ez4, h⟩ := nm_some h
      refine p_X6_117 X (T' := (z4, x1, x2, q3.1, ta, tb, d, S, pg, q3.2, m, ot)) (kd_w0 (Or.inl (by decide))) rfl  (by rw [ez4]; rfl) dX6_setTries_36 ?_
      refine G_iload_n X 0 dX6_setTries_39 rfl rfl ?_
      obtain rfl := Option.some.inj h
      exact (show FinI g cX6_setTries _ _ _ from hf) _ _ dX6_setTries_40 rfl
    · have h := it_f c2 h
      refine G_sub [] rfl ?_
      exact gX6_setTries_b11 X hf h
set_option maxRecDepth 20000 in
theorem ct_X6_setTries {l : Launch} {κ : KX}  {x0 : St} {x1 : St} {x2 : St} {ps : Nat → St} {ta : St} {tb : St} {d : St} {S : St} {pg : St} {c : St} {m : St} {ot : St} {a1 : Int32} {e0 : St} {e1 : Nat → St} {e2 : St} {v : Int32}  (h : sX6_setTries x0 ps c a1 = some (e0, e1, e2, .inl v)) : Ct l κ yX6_setTries cX6_setTries 3 (some .int) 6 89 [.ref (xE κ 8 0 0), .int a1] ((x0, x1, x2, ps, ta, tb, d, S, pg, c, m, ot)) ((e0, x1, x2, e1, ta, tb, d, S, pg, e2, m, ot)) (some (.int v)) := by
  refine Ct_i RX6 rfl (by decide +kernel) (Nat.le_of_ble_eq_true rfl) (fun g hl hκ X hf => ?_)
  subst hl; subst hκ
  exact gX6_setTries (res := (e0, e1, e2, .inl v)) X  hf h
set_option maxRecDepth 20000 in
theorem ce_X6_setTries {l : Launch} {κ : KX}  {x0 : St} {x1 : St} {x2 : St} {ps : Nat → St} {ta : St} {tb : St} {d : St} {S : St} {pg : St} {c : St} {m : St} {ot : St} {a1 : Int32} {e0 : St} {e1 : Nat → St} {e2 : St} {c9 : Nat}  (h : sX6_setTries x0 ps c a1 = some (e0, e1, e2, .inr c9)) : CtE l κ yX6_setTries cX6_setTries 3 (some .int) 6 89 [.ref (xE κ 8 0 0), .int a1] ((x0, x1, x2, ps, ta, tb, d, S, pg, c, m, ot)) ((e0, x1, x2, e1, ta, tb, d, S, pg, e2, m, ot)) c9 := by
  refine CtE_of RX6 rfl rfl (by decide +kernel) (Nat.le_of_ble_eq_true rfl) (by decide) (fun g hl hκ X hf => ?_)
  subst hl; subst hκ
  exact gX6_setTries (res := (e0, e1, e2, .inr c9)) X  hf h
set_option maxRecDepth 20000 in
theorem gX6_undo {g : GX}  {x0 : St} {x1 : St} {x2 : St} {ps : Nat → St} {ta : St} {tb : St} {d : St} {S : St} {pg : St} {c : St} {m : St} {ot : St}  {res : St × St × Int32} (X : CX g RX6 cX6_undo 1 2 44)  (hf : FinI g cX6_undo .int ((res.1, x1, x2, ps, ta, tb, d, S, pg, res.2.1, m, ot)) (res.2.2)) (h : sX6_undo x0 ps c = some res) : G g 0 0 ((x0, x1, x2, ps, ta, tb, d, S, pg, c, m, ot)) 0 [(0, .ref (xE (gκ g) 8 0 0))] [] := by
  unfold sX6_undo at h
  refine G_aload_n X 0 dX6_undo_0 rfl rfl ?_
  refine f_X6_90 X rfl rfl dX6_undo_1 ?_
  refine G_iconst X (v := (1 : Int32)) dX6_undo_4 (by decide) ?_
  refine G_icmp_ge X (tgt := 10) dX6_undo_5 (by decide) (fun c1 => ?_) (fun c1 => ?_)
  · have h := it_t c1 h
    refine G_aload_n X 0 dX6_undo_10 rfl rfl ?_
    refine G_dup X dX6_undo_11 rfl ?_
    refine f_X6_90 X rfl rfl dX6_undo_12 ?_
    refine G_iconst X (v := (1 : Int32)) dX6_undo_15 (by decide) ?_
    refine G_isub X dX6_undo_16 ?_
    obtain ⟨z2, ez2, h⟩ := nm_some h
    refine p_X6_90 X (T' := (x0, x1, x2, ps, ta, tb, d, S, pg, z2, m, ot)) rfl rfl  (by rw [ez2]; rfl) dX6_undo_17 ?_
    refine G_aload_n X 0 dX6_undo_20 rfl rfl ?_
    refine f_X6_20 X rfl rfl dX6_undo_21 ?_
    refine G_aload_n X 0 dX6_undo_24 rfl rfl ?_
    refine f_X6_30 X rfl rfl dX6_undo_25 ?_
    refine G_aload_n X 0 dX6_undo_28 rfl rfl ?_
    refine f_X6_90 X rfl rfl dX6_undo_29 ?_
    obtain ⟨g3, h⟩ := gd_some h
    obtain ⟨g4, h⟩ := gd_some h
    have g4 := of_decide_eq_true g4
    refine G_aaldW X (x := z2) rfl rfl g3 dX6_undo_32 ?_
    obtain ⟨q5, hq5, h⟩ := bd_some h
    refine G_callVN X (As := [.ref (xE (gκ g) (ix (gI z2 0 2 (ix (gI z2 0 0 9))) + 11) 0 0)]) (rest := []) (T' := (q5, x1, x2, ps, ta, tb, d, S, pg, z2, m, ot)) (st2 := []) (ct_X5_copyFrom (l := g.2.1) (κ := gκ g) (T := ((x0, x1, x2, ps, ta, tb, d, S, pg, z2, m, ot))) (r := 0) (x := x0) (r2 := (ix (gI z2 0 2 (ix (gI z2 0 0 9))) + 11)) (Or.inl (by decide)) (Or.inr ⟨by omega, by omega⟩) (by omega) rfl hq5) cal_X5_copyFrom nM_X6_86 wI_X5_copyFrom wS_X5_copyFrom (kd_w0 (Or.inl (by decide))) rfl (by decide) rfl rfl (Nat.le_of_ble_eq_true rfl) ⟨Nat.zero_le _, Nat.zero_le _⟩ dX6_undo_33 rfl ?_
    refine G_aload_n X 0 dX6_undo_36 rfl rfl ?_
    refine f_X6_90 X rfl rfl dX6_undo_37 ?_
    obtain rfl := Option.some.inj h
    exact hf _ _ dX6_undo_40 rfl
  · have h := it_f c1 h
    refine G_iconst X (v := (-1 : Int32)) dX6_undo_8 (by decide) ?_
    obtain rfl := Option.some.inj h
    exact hf _ _ dX6_undo_9 rfl
set_option maxRecDepth 20000 in
theorem ct_X6_undo {l : Launch} {κ : KX}  {x0 : St} {x1 : St} {x2 : St} {ps : Nat → St} {ta : St} {tb : St} {d : St} {S : St} {pg : St} {c : St} {m : St} {ot : St}  {res : St × St × Int32}  (h : sX6_undo x0 ps c = some res) : Ct l κ yX6_undo cX6_undo 1 (some .int) 2 44 [.ref (xE κ 8 0 0)] ((x0, x1, x2, ps, ta, tb, d, S, pg, c, m, ot)) ((res.1, x1, x2, ps, ta, tb, d, S, pg, res.2.1, m, ot)) (some (.int (res.2.2))) := by
  refine Ct_i RX6 rfl (by decide +kernel) (Nat.le_of_ble_eq_true rfl) (fun g hl hκ X hf => ?_)
  subst hl; subst hκ
  exact gX6_undo X  hf h
