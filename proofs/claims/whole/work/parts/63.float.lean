
def sX6_drain_b16 (fuel : Nat)   (x0 : St) (a1 : Int32) (a2 : Int32) : Option ((Unit ⊕ (Int32 × Int32))) := match fuel with
  | 0 => none
  | n + 1 =>
  if (gI x0 0 0 2) ≤ a2 then
  some (.inr (a1, gI x0 0 0 5))
  else
  gd (inb a2 8) (nm (a2 + (1 : Int32)) fun v4 =>
  sX6_drain_b16 n x0 (a1 + (gI x0 (ix a2 + 1) 0 13)) v4)
def sX6_drain  (x0 : St)  : Option ((Unit ⊕ (Int32 × Int32))) :=
  if ¬ (gI x0 0 0 5) = 0 then
  sX6_drain_b16 FU x0 ((0 : Int32)) ((0 : Int32))
  else
  some (.inl ())
def sX7_drain_b9 (fuel : Nat)   (m : St) (a1 : Int32) (a2 : Int32) : Option (St × (Unit ⊕ (Int32 × Int32))) := match fuel with
  | 0 => none
  | n + 1 =>
  gd (inb ((0 : Int32)) 365) (if (gI m 0 2 (ix ((0 : Int32)))) ≤ a2 then
  gd (inb ((1 : Int32)) 365) (if ¬ (gI m 0 2 (ix ((1 : Int32)))) = 0 then
  gd (inb ((1 : Int32)) 365) (some (m, .inr (a1, gI m 0 2 (ix ((1 : Int32))))))
  else
  some (m, .inl ()))
  else
  bd (sX7_of m a2 ((13 : Int32))) fun q7 =>
  nm (a2 + (1 : Int32)) fun v8 =>
  sX7_drain_b9 n m (a1 + q7) v8)
def sX7_drain  (m : St)  : Option (St × (Unit ⊕ (Int32 × Int32))) :=
  nm (pI m 0 0 0 ((0 : Int32))) fun z1 =>
  sX7_drain_b9 FU z1 ((0 : Int32)) ((0 : Int32))
def sX6_knowledge_b18 (fuel : Nat)   (x0 : St) (a1 : Int32) (a2 : Int32) (a3 : Int32) : Option ((Unit ⊕ (Int32 × Int32))) := match fuel with
  | 0 => none
  | n + 1 =>
  if (gI x0 0 0 2) ≤ a3 then
  some (.inr (a2, a1))
  else
  gd (inb a3 8) (gd (inb a3 8) (bd (sX5_knownTo (ix a3 + 1) x0) fun q6 =>
  bd (sJ6_bitCount_0f7a4 ((gI x0 (ix a3 + 1) 0 10) &&& q6)) fun q7 =>
  nm (a3 + (1 : Int32)) fun v8 =>
  sX6_knowledge_b18 n x0 a1 (a2 + q7) v8))
def sX6_knowledge  (x0 : St)  : Option ((Unit ⊕ (Int32 × Int32))) :=
  bd (sX5_nearPairs x0) fun q1 =>
  if ¬ q1 = 0 then
  sX6_knowledge_b18 FU x0 q1 ((0 : Int32)) ((0 : Int32))
  else
  some (.inl ())
def sX7_knowledge_b9 (fuel : Nat)   (m : St) (a1 : Int32) (a2 : Int32) : Option (St × (Unit ⊕ (Int32 × Int32))) := match fuel with
  | 0 => none
  | n + 1 =>
  gd (inb ((0 : Int32)) 365) (if (gI m 0 2 (ix ((0 : Int32)))) ≤ a2 then
  bd (sX7_pairs m) fun q4 =>
  if ¬ q4 = 0 then
  bd (sX7_pairs m) fun q6 =>
  some (m, .inr (a1, q6))
  else
  some (m, .inl ())
  else
  gd (inb (((13 : Int32)) + a2) 365) (bd (sX7_knownSet m a2) fun q8 =>
  bd (sX7_bits ((gI m 0 2 (ix (((13 : Int32)) + a2))) &&& q8)) fun q9 =>
  nm (a2 + (1 : Int32)) fun v10 =>
  sX7_knowledge_b9 n m (a1 + q9) v10))
def sX7_knowledge  (m : St)  : Option (St × (Unit ⊕ (Int32 × Int32))) :=
  nm (pI m 0 0 0 ((0 : Int32))) fun z1 =>
  sX7_knowledge_b9 FU z1 ((0 : Int32)) ((0 : Int32))
set_option maxRecDepth 20000 in
theorem gX6_drain_b16 {g : GX}  {x0 : St} {x1 : St} {x2 : St} {ps : Nat → St} {ta : St} {tb : St} {d : St} {S : St} {pg : St} {c : St} {m : St} {ot : St} {res : (Unit ⊕ (Int32 × Int32))}  (X : CX g RX6 cX6_drain 3 0 0)  (hf : FinF g cX6_drain ((x0, x1, x2, ps, ta, tb, d, S, pg, c, m, ot)) (res))  : ∀ (n : Nat) (a1 : Int32) (a2 : Int32) (h : sX6_drain_b16 n  x0 a1 a2 = some res), G g 0 0 ((x0, x1, x2, ps, ta, tb, d, S, pg, c, m, ot)) 16 [(0, .ref (xE (gκ g) 8 0 0)), (1, .int a1), (2, .int a2)] [] := by
  intro n
  induction n with
  | zero => intro a1 a2 h; unfold sX6_drain_b16 at h; cases h
  | succ n ih =>
    intro a1 a2 h
    unfold sX6_drain_b16 at h
    refine G_iload_n X 2 dX6_drain_16 rfl rfl ?_
    refine G_aload_n X 0 dX6_drain_17 rfl rfl ?_
    refine f_X6_20 X rfl rfl dX6_drain_18 ?_
    refine f_X6_93 X (kd_w0 (Or.inl (by decide))) rfl dX6_drain_21 ?_
    refine G_icmp_ge X (tgt := 48) dX6_drain_24 (by decide) (fun c2 => ?_) (fun c2 => ?_)
    · have h := it_t c2 h
      refine G_iload_n X 1 dX6_drain_48 rfl rfl ?_
      refine G_i2f X dX6_drain_49 ?_
      refine G_aload_n X 0 dX6_drain_50 rfl rfl ?_
      refine f_X6_20 X rfl rfl dX6_drain_51 ?_
      refine f_X6_114 X (kd_w0 (Or.inl (by decide))) rfl dX6_drain_54 ?_
      refine G_i2f X dX6_drain_57 ?_
      obtain rfl := Option.some.inj h
      exact hf _ _ dX6_drain_58 dX6_drain_59
    · have h := it_f c2 h
      refine G_iload_n X 1 dX6_drain_27 rfl rfl ?_
      refine G_aload_n X 0 dX6_drain_28 rfl rfl ?_
      refine f_X6_20 X rfl rfl dX6_drain_29 ?_
      refine f_X6_141 X (kd_w0 (Or.inl (by decide))) rfl dX6_drain_32 ?_
      refine G_iload_n X 2 dX6_drain_35 rfl rfl ?_
      obtain ⟨g3, h⟩ := gd_some h
      refine G_aaldB X (kd_w2 (Or.inl (by decide))) g3 dX6_drain_36 ?_
      refine f_X6_184 X (kd_o0 (Or.inl (by decide)) (inb_isO (by decide) g3)) rfl dX6_drain_37 ?_
      refine G_iadd X dX6_drain_40 ?_
      refine G_istore_n X (lv' := [(1, .int (a1 + (gI x0 (ix a2 + 1) 0 13))), (0, .ref (xE (gκ g) 8 0 0)), (2, .int a2)]) dX6_drain_41 rfl (by decide) rfl ?_
      obtain ⟨v4, ev4, h⟩ := nm_some h
      refine G_iinc X (v := v4) (lv' := [(2, .int v4), (1, .int (a1 + (gI x0 (ix a2 + 1) 0 13))), (0, .ref (xE (gκ g) 8 0 0))]) 2 dX6_drain_42 rfl (by rw [ev4]; rfl) (by decide) rfl ?_
      refine G_goto X (tgt := 16) dX6_drain_45 (by decide) ?_
      refine G_sub [2, 1, 0] rfl ?_
      exact ih _ _ h
set_option maxRecDepth 20000 in
theorem gX6_drain {g : GX}  {x0 : St} {x1 : St} {x2 : St} {ps : Nat → St} {ta : St} {tb : St} {d : St} {S : St} {pg : St} {c : St} {m : St} {ot : St}  {res : (Unit ⊕ (Int32 × Int32))} (X : CX g RX6 cX6_drain 3 0 0)  (hf : FinF g cX6_drain ((x0, x1, x2, ps, ta, tb, d, S, pg, c, m, ot)) (res)) (h : sX6_drain x0 = some res) : G g 0 0 ((x0, x1, x2, ps, ta, tb, d, S, pg, c, m, ot)) 0 [(0, .ref (xE (gκ g) 8 0 0))] [] := by
  unfold sX6_drain at h
  refine G_aload_n X 0 dX6_drain_0 rfl rfl ?_
  refine f_X6_20 X rfl rfl dX6_drain_1 ?_
  refine f_X6_114 X (kd_w0 (Or.inl (by decide))) rfl dX6_drain_4 ?_
  refine G_if_ne X (tgt := 12) dX6_drain_7 (by decide) (fun c1 => ?_) (fun c1 => ?_)
  · have h := it_t c1 h
    refine G_iconst X (v := (0 : Int32)) dX6_drain_12 (by decide) ?_
    refine G_istore_n X (lv' := [(1, .int ((0 : Int32))), (0, .ref (xE (gκ g) 8 0 0))]) dX6_drain_13 rfl (by decide) rfl ?_
    refine G_iconst X (v := (0 : Int32)) dX6_drain_14 (by decide) ?_
    refine G_istore_n X (lv' := [(2, .int ((0 : Int32))), (1, .int ((0 : Int32))), (0, .ref (xE (gκ g) 8 0 0))]) dX6_drain_15 rfl (by decide) rfl ?_
    refine G_sub [2, 1, 0] rfl ?_
    exact gX6_drain_b16 X hf FU _ _ h
  · have h := it_f (fun k => k c1) h
    refine G_fconst X dX6_drain_10 ?_
    obtain rfl := Option.some.inj h
    exact hf _ _ dX6_drain_11
set_option maxRecDepth 20000 in
theorem ct_X6_drain {l : Launch} {κ : KX}  {x0 : St} {x1 : St} {x2 : St} {ps : Nat → St} {ta : St} {tb : St} {d : St} {S : St} {pg : St} {c : St} {m : St} {ot : St}  {res : (Unit ⊕ (Int32 × Int32))}  (h : sX6_drain x0 = some res) : CtF l κ yX6_drain cX6_drain 3 0 0 [.ref (xE κ 8 0 0)] ((x0, x1, x2, ps, ta, tb, d, S, pg, c, m, ot)) ((x0, x1, x2, ps, ta, tb, d, S, pg, c, m, ot)) (res) := by
  refine CtF_of RX6 rfl (by decide +kernel) (Nat.le_of_ble_eq_true rfl) (fun g hl hκ X hf => ?_)
  subst hl; subst hκ
  exact gX6_drain X  hf h
set_option maxRecDepth 20000 in
theorem gX7_drain_b9 {g : GX} {T : TT}   {res : St × (Unit ⊕ (Int32 × Int32))}  (X : CX g RX7 cX7_drain 3 2 43)  (hf : FinF g cX7_drain (rs T 9 res.1) (res.2))  : ∀ (n : Nat) (m : St) (a1 : Int32) (a2 : Int32) (h : sX7_drain_b9 n  m a1 a2 = some res), G g 0 0 (rs T 9 m) 9 [(0, .ref (xE (gκ g) 9 0 0)), (1, .int a1), (2, .int a2)] [] := by
  intro n
  induction n with
  | zero => intro m a1 a2 h; unfold sX7_drain_b9 at h; cases h
  | succ n ih =>
    intro m a1 a2 h
    unfold sX7_drain_b9 at h
    refine G_iload_n X 2 dX7_drain_9 rfl rfl ?_
    refine G_aload_n X 0 dX7_drain_10 rfl rfl ?_
    refine f_X7_20 X rfl rfl dX7_drain_11 ?_
    refine G_iconst X (v := (0 : Int32)) dX7_drain_14 (by decide) ?_
    obtain ⟨g2, h⟩ := gd_some h
    refine G_iald X rfl (rg_rs _ _ _) g2 dX7_drain_15 ?_
    refine G_icmp_ge X (tgt := 35) dX7_drain_16 (by decide) (fun c3 => ?_) (fun c3 => ?_)
    · have h := it_t c3 h
      refine G_aload_n X 0 dX7_drain_35 rfl rfl ?_
      refine f_X7_20 X rfl rfl dX7_drain_36 ?_
      refine G_iconst X (v := (1 : Int32)) dX7_drain_39 (by decide) ?_
      obtain ⟨g4, h⟩ := gd_some h
      refine G_iald X rfl (rg_rs _ _ _) g4 dX7_drain_40 ?_
      refine G_if_ne X (tgt := 48) dX7_drain_41 (by decide) (fun c5 => ?_) (fun c5 => ?_)
      · have h := it_t c5 h
        refine G_iload_n X 1 dX7_drain_48 rfl rfl ?_
        refine G_i2f X dX7_drain_49 ?_
        refine G_aload_n X 0 dX7_drain_50 rfl rfl ?_
        refine f_X7_20 X rfl rfl dX7_drain_51 ?_
        refine G_iconst X (v := (1 : Int32)) dX7_drain_54 (by decide) ?_
        obtain ⟨g6, h⟩ := gd_some h
        refine G_iald X rfl (rg_rs _ _ _) g6 dX7_drain_55 ?_
        refine G_i2f X dX7_drain_56 ?_
        obtain rfl := Option.some.inj h
        exact hf _ _ dX7_drain_57 dX7_drain_58
      · have h := it_f (fun k => k c5) h
        refine G_fconst X dX7_drain_44 ?_
        refine G_goto X (tgt := 58) dX7_drain_45 (by decide) ?_
        obtain rfl := Option.some.inj h
        exact hf _ _ dX7_drain_58
    · have h := it_f c3 h
      refine G_iload_n X 1 dX7_drain_19 rfl rfl ?_
      refine G_aload_n X 0 dX7_drain_20 rfl rfl ?_
      refine G_iload_n X 2 dX7_drain_21 rfl rfl ?_
      refine G_bipush X (v := (13 : Int32)) dX7_drain_22 (by decide) ?_
      obtain ⟨q7, hq7, h⟩ := bd_some h
      refine G_callV X (As := [.int a2, .int ((13 : Int32))]) (rest := [.int a1]) (T' := rs T 9 m) (st2 := [.int q7, .int a1]) (ct_X7_of (l := g.2.1) (κ := gκ g)   hq7) cal_X7_of wM_X7_251 wI_X7_of wS_X7_of rfl rfl (by decide) rfl rfl (Nat.le_of_ble_eq_true rfl) ⟨Nat.zero_le _, Nat.zero_le _⟩ dX7_drain_24 rfl ?_
      refine G_iadd X dX7_drain_27 ?_
      refine G_istore_n X (lv' := [(1, .int (a1 + q7)), (0, .ref (xE (gκ g) 9 0 0)), (2, .int a2)]) dX7_drain_28 rfl (by decide) rfl ?_
      obtain ⟨v8, ev8, h⟩ := nm_some h
      refine G_iinc X (v := v8) (lv' := [(2, .int v8), (1, .int (a1 + q7)), (0, .ref (xE (gκ g) 9 0 0))]) 2 dX7_drain_29 rfl (by rw [ev8]; rfl) (by decide) rfl ?_
      refine G_goto X (tgt := 9) dX7_drain_32 (by decide) ?_
      refine G_sub [2, 1, 0] rfl ?_
      exact ih _ _ _ h
set_option maxRecDepth 20000 in
theorem gX7_drain {g : GX} {T : TT}  {m : St}  {res : St × (Unit ⊕ (Int32 × Int32))} (X : CX g RX7 cX7_drain 3 2 43)  (hf : FinF g cX7_drain (rs T 9 res.1) (res.2)) (h : sX7_drain m = some res) : G g 0 0 (rs T 9 m) 0 [(0, .ref (xE (gκ g) 9 0 0))] [] := by
  unfold sX7_drain at h
  refine G_aload_n X 0 dX7_drain_0 rfl rfl ?_
  refine G_iconst X (v := (0 : Int32)) dX7_drain_1 (by decide) ?_
  obtain ⟨z1, ez1, h⟩ := nm_some h
  refine p_X7_66 X (T' := rs T 9 z1) rfl (rg_rs _ _ _)  (by rw [rs_rs, ez1]) dX7_drain_2 ?_
  refine G_iconst X (v := (0 : Int32)) dX7_drain_5 (by decide) ?_
  refine G_istore_n X (lv' := [(1, .int ((0 : Int32))), (0, .ref (xE (gκ g) 9 0 0))]) dX7_drain_6 rfl (by decide) rfl ?_
  refine G_iconst X (v := (0 : Int32)) dX7_drain_7 (by decide) ?_
  refine G_istore_n X (lv' := [(2, .int ((0 : Int32))), (1, .int ((0 : Int32))), (0, .ref (xE (gκ g) 9 0 0))]) dX7_drain_8 rfl (by decide) rfl ?_
  refine G_sub [2, 1, 0] rfl ?_
  exact gX7_drain_b9 X hf FU _ _ _ h
set_option maxRecDepth 20000 in
theorem ct_X7_drain {l : Launch} {κ : KX} {T : TT}  {m : St}  {res : St × (Unit ⊕ (Int32 × Int32))}  (h : sX7_drain m = some res) : CtF l κ yX7_drain cX7_drain 3 2 43 [.ref (xE κ 9 0 0)] (rs T 9 m) (rs T 9 res.1) (res.2) := by
  refine CtF_of RX7 rfl (by decide +kernel) (Nat.le_of_ble_eq_true rfl) (fun g hl hκ X hf => ?_)
  subst hl; subst hκ
  exact gX7_drain X  hf h
set_option maxRecDepth 20000 in
theorem gX6_knowledge_b18 {g : GX}  {x0 : St} {x1 : St} {x2 : St} {ps : Nat → St} {ta : St} {tb : St} {d : St} {S : St} {pg : St} {c : St} {m : St} {ot : St} {res : (Unit ⊕ (Int32 × Int32))}  (X : CX g RX6 cX6_knowledge 4 2 42)  (hf : FinD g cX6_knowledge ((x0, x1, x2, ps, ta, tb, d, S, pg, c, m, ot)) (res))  : ∀ (n : Nat) (a1 : Int32) (a2 : Int32) (a3 : Int32) (h : sX6_knowledge_b18 n  x0 a1 a2 a3 = some res), G g 0 0 ((x0, x1, x2, ps, ta, tb, d, S, pg, c, m, ot)) 18 [(0, .ref (xE (gκ g) 8 0 0)), (1, .int a1), (2, .int a2), (3, .int a3)] [] := by
  intro n
  induction n with
  | zero => intro a1 a2 a3 h; unfold sX6_knowledge_b18 at h; cases h
  | succ n ih =>
    intro a1 a2 a3 h
    unfold sX6_knowledge_b18 at h
    refine G_iload_n X 3 dX6_knowledge_18 rfl rfl ?_
    refine G_aload_n X 0 dX6_knowledge_19 rfl rfl ?_
    refine f_X6_20 X rfl rfl dX6_knowledge_20 ?_
    refine f_X6_93 X (kd_w0 (Or.inl (by decide))) rfl dX6_knowledge_23 ?_
    refine G_icmp_ge X (tgt := 70) dX6_knowledge_26 (by decide) (fun c3 => ?_) (fun c3 => ?_)
    · have h := it_t c3 h
      refine G_iload_n X 2 dX6_knowledge_70 rfl rfl ?_
      refine G_i2d X dX6_knowledge_71 ?_
      refine G_iload_n X 1 dX6_knowledge_72 rfl rfl ?_
      refine G_i2d X dX6_knowledge_73 ?_
      obtain rfl := Option.some.inj h
      exact hf _ _ dX6_knowledge_74 dX6_knowledge_75
    · have h := it_f c3 h
      refine G_iload_n X 2 dX6_knowledge_29 rfl rfl ?_
      refine G_aload_n X 0 dX6_knowledge_30 rfl rfl ?_
      refine f_X6_20 X rfl rfl dX6_knowledge_31 ?_
      refine f_X6_141 X (kd_w0 (Or.inl (by decide))) rfl dX6_knowledge_34 ?_
      refine G_iload_n X 3 dX6_knowledge_37 rfl rfl ?_
      obtain ⟨g4, h⟩ := gd_some h
      refine G_aaldB X (kd_w2 (Or.inl (by decide))) g4 dX6_knowledge_38 ?_
      refine f_X6_175 X (kd_o0 (Or.inl (by decide)) (inb_isO (by decide) g4)) rfl dX6_knowledge_39 ?_
      refine G_aload_n X 0 dX6_knowledge_42 rfl rfl ?_
      refine f_X6_20 X rfl rfl dX6_knowledge_43 ?_
      refine G_aload_n X 0 dX6_knowledge_46 rfl rfl ?_
      refine f_X6_20 X rfl rfl dX6_knowledge_47 ?_
      refine f_X6_141 X (kd_w0 (Or.inl (by decide))) rfl dX6_knowledge_50 ?_
      refine G_iload_n X 3 dX6_knowledge_53 rfl rfl ?_
      obtain ⟨g5, h⟩ := gd_some h
      refine G_aaldB X (kd_w2 (Or.inl (by decide))) g5 dX6_knowledge_54 ?_
      obtain ⟨q6, hq6, h⟩ := bd_some h
      refine G_callVN X (As := [.ref (xE (gκ g) 0 (ix a3 + 1) 0)]) (rest := [.int (gI x0 (ix a3 + 1) 0 10), .int a2]) (T' := (x0, x1, x2, ps, ta, tb, d, S, pg, c, m, ot)) (st2 := [.int q6, .int (gI x0 (ix a3 + 1) 0 10), .int a2]) (ct_X5_knownTo (l := g.2.1) (κ := gκ g) (T := ((x0, x1, x2, ps, ta, tb, d, S, pg, c, m, ot))) (r := 0) (x := x0) (Or.inl (by decide)) (inb_isO (by decide) g5) hq6) cal_X5_knownTo nM_X6_178 wI_X5_knownTo wS_X5_knownTo (kd_w0 (Or.inl (by decide))) rfl (by decide) rfl rfl (Nat.le_of_ble_eq_true rfl) ⟨Nat.zero_le _, Nat.zero_le _⟩ dX6_knowledge_55 rfl ?_
      refine G_iand X dX6_knowledge_58 ?_
      obtain ⟨q7, hq7, h⟩ := bd_some h
      refine G_callS X (As := [.int ((gI x0 (ix a3 + 1) 0 10) &&& q6)]) (rest := [.int a2]) (T' := (x0, x1, x2, ps, ta, tb, d, S, pg, c, m, ot)) (st2 := [.int q7, .int a2]) (ct_J6_bitCount_0f7a4 (l := g.2.1) (κ := gκ g)   hq7) cal_J6_bitCount_0f7a4 wM_X6_209 wT_J6_bitCount_0f7a4 (by decide) rfl rfl (Nat.le_of_ble_eq_true rfl) ⟨Nat.zero_le _, Nat.zero_le _⟩ dX6_knowledge_59 rfl ?_
      refine G_iadd X dX6_knowledge_62 ?_
      refine G_istore_n X (lv' := [(2, .int (a2 + q7)), (0, .ref (xE (gκ g) 8 0 0)), (1, .int a1), (3, .int a3)]) dX6_knowledge_63 rfl (by decide) rfl ?_
      obtain ⟨v8, ev8, h⟩ := nm_some h
      refine G_iinc X (v := v8) (lv' := [(3, .int v8), (2, .int (a2 + q7)), (0, .ref (xE (gκ g) 8 0 0)), (1, .int a1)]) 3 dX6_knowledge_64 rfl (by rw [ev8]; rfl) (by decide) rfl ?_
      refine G_goto X (tgt := 18) dX6_knowledge_67 (by decide) ?_
      refine G_sub [2, 3, 1, 0] rfl ?_
      exact ih _ _ _ h
set_option maxRecDepth 20000 in
theorem gX6_knowledge {g : GX}  {x0 : St} {x1 : St} {x2 : St} {ps : Nat → St} {ta : St} {tb : St} {d : St} {S : St} {pg : St} {c : St} {m : St} {ot : St}  {res : (Unit ⊕ (Int32 × Int32))} (X : CX g RX6 cX6_knowledge 4 2 42)  (hf : FinD g cX6_knowledge ((x0, x1, x2, ps, ta, tb, d, S, pg, c, m, ot)) (res)) (h : sX6_knowledge x0 = some res) : G g 0 0 ((x0, x1, x2, ps, ta, tb, d, S, pg, c, m, ot)) 0 [(0, .ref (xE (gκ g) 8 0 0))] [] := by
  unfold sX6_knowledge at h
  refine G_aload_n X 0 dX6_knowledge_0 rfl rfl ?_
  refine f_X6_20 X rfl rfl dX6_knowledge_1 ?_
  obtain ⟨q1, hq1, h⟩ := bd_some h
  refine G_callVN X (As := []) (rest := []) (T' := (x0, x1, x2, ps, ta, tb, d, S, pg, c, m, ot)) (st2 := [.int q1]) (ct_X5_nearPairs (l := g.2.1) (κ := gκ g) (T := ((x0, x1, x2, ps, ta, tb, d, S, pg, c, m, ot))) (r := 0) (x := x0) (Or.inl (by decide)) hq1) cal_X5_nearPairs nM_X6_110 wI_X5_nearPairs wS_X5_nearPairs (kd_w0 (Or.inl (by decide))) rfl (by decide) rfl rfl (Nat.le_of_ble_eq_true rfl) ⟨Nat.zero_le _, Nat.zero_le _⟩ dX6_knowledge_4 rfl ?_
  refine G_istore_n X (lv' := [(1, .int q1), (0, .ref (xE (gκ g) 8 0 0))]) dX6_knowledge_7 rfl (by decide) rfl ?_
  refine G_iload_n X 0 dX6_knowledge_8 rfl rfl ?_
  refine G_if_ne X (tgt := 14) dX6_knowledge_9 (by decide) (fun c2 => ?_) (fun c2 => ?_)
  · have h := it_t c2 h
    refine G_iconst X (v := (0 : Int32)) dX6_knowledge_14 (by decide) ?_
    refine G_istore_n X (lv' := [(2, .int ((0 : Int32))), (1, .int q1), (0, .ref (xE (gκ g) 8 0 0))]) dX6_knowledge_15 rfl (by decide) rfl ?_
    refine G_iconst X (v := (0 : Int32)) dX6_knowledge_16 (by decide) ?_
    refine G_istore_n X (lv' := [(3, .int ((0 : Int32))), (2, .int ((0 : Int32))), (1, .int q1), (0, .ref (xE (gκ g) 8 0 0))]) dX6_knowledge_17 rfl (by decide) rfl ?_
    refine G_sub [3, 2, 1, 0] rfl ?_
    exact gX6_knowledge_b18 X hf FU _ _ _ h
  · have h := it_f (fun k => k c2) h
    refine G_dconst X dX6_knowledge_12 ?_
    obtain rfl := Option.some.inj h
    exact hf _ _ dX6_knowledge_13
set_option maxRecDepth 20000 in
theorem ct_X6_knowledge {l : Launch} {κ : KX}  {x0 : St} {x1 : St} {x2 : St} {ps : Nat → St} {ta : St} {tb : St} {d : St} {S : St} {pg : St} {c : St} {m : St} {ot : St}  {res : (Unit ⊕ (Int32 × Int32))}  (h : sX6_knowledge x0 = some res) : CtD l κ yX6_knowledge cX6_knowledge 4 2 42 [.ref (xE κ 8 0 0)] ((x0, x1, x2, ps, ta, tb, d, S, pg, c, m, ot)) ((x0, x1, x2, ps, ta, tb, d, S, pg, c, m, ot)) (res) := by
  refine CtD_of RX6 rfl (by decide +kernel) (Nat.le_of_ble_eq_true rfl) (fun g hl hκ X hf => ?_)
  subst hl; subst hκ
  exact gX6_knowledge X  hf h
set_option maxRecDepth 20000 in
theorem gX7_knowledge_b9 {g : GX} {T : TT}   {res : St × (Unit ⊕ (Int32 × Int32))}  (X : CX g RX7 cX7_knowledge 3 4 89)  (hf : FinD g cX7_knowledge (rs T 9 res.1) (res.2))  : ∀ (n : Nat) (m : St) (a1 : Int32) (a2 : Int32) (h : sX7_knowledge_b9 n  m a1 a2 = some res), G g 0 0 (rs T 9 m) 9 [(0, .ref (xE (gκ g) 9 0 0)), (1, .int a1), (2, .int a2)] [] := by
  intro n
  induction n with
  | zero => intro m a1 a2 h; unfold sX7_knowledge_b9 at h; cases h
  | succ n ih =>
    intro m a1 a2 h
    unfold sX7_knowledge_b9 at h
    refine G_iload_n X 2 dX7_knowledge_9 rfl rfl ?_
    refine G_aload_n X 0 dX7_knowledge_10 rfl rfl ?_
    refine f_X7_20 X rfl rfl dX7_knowledge_11 ?_
    refine G_iconst X (v := (0 : Int32)) dX7_knowledge_14 (by decide) ?_
    obtain ⟨g2, h⟩ := gd_some h
    refine G_iald X rfl (rg_rs _ _ _) g2 dX7_knowledge_15 ?_
    refine G_icmp_ge X (tgt := 46) dX7_knowledge_16 (by decide) (fun c3 => ?_) (fun c3 => ?_)
    · have h := it_t c3 h
      refine G_aload_n X 0 dX7_knowledge_46 rfl rfl ?_
      obtain ⟨q4, hq4, h⟩ := bd_some h
      refine G_callV X (As := []) (rest := []) (T' := rs T 9 m) (st2 := [.int q4]) (ct_X7_pairs (l := g.2.1) (κ := gκ g)   hq4) cal_X7_pairs wM_X7_346 wI_X7_pairs wS_X7_pairs rfl rfl (by decide) rfl rfl (Nat.le_of_ble_eq_true rfl) ⟨Nat.zero_le _, Nat.zero_le _⟩ dX7_knowledge_47 rfl ?_
      refine G_if_ne X (tgt := 57) dX7_knowledge_50 (by decide) (fun c5 => ?_) (fun c5 => ?_)
      · have h := it_t c5 h
        refine G_iload_n X 1 dX7_knowledge_57 rfl rfl ?_
        refine G_i2d X dX7_knowledge_58 ?_
        refine G_aload_n X 0 dX7_knowledge_59 rfl rfl ?_
        obtain ⟨q6, hq6, h⟩ := bd_some h
        refine G_callV X (As := []) (rest := [.double (FP.i2d a1)]) (T' := rs T 9 m) (st2 := [.int q6, .double (FP.i2d a1)]) (ct_X7_pairs (l := g.2.1) (κ := gκ g)   hq6) cal_X7_pairs wM_X7_346 wI_X7_pairs wS_X7_pairs rfl rfl (by decide) rfl rfl (Nat.le_of_ble_eq_true rfl) ⟨Nat.zero_le _, Nat.zero_le _⟩ dX7_knowledge_60 rfl ?_
        refine G_i2d X dX7_knowledge_63 ?_
        obtain rfl := Option.some.inj h
        exact hf _ _ dX7_knowledge_64 dX7_knowledge_65
      · have h := it_f (fun k => k c5) h
        refine G_dconst X dX7_knowledge_53 ?_
        refine G_goto X (tgt := 65) dX7_knowledge_54 (by decide) ?_
        obtain rfl := Option.some.inj h
        exact hf _ _ dX7_knowledge_65
    · have h := it_f c3 h
      refine G_iload_n X 1 dX7_knowledge_19 rfl rfl ?_
      refine G_aload_n X 0 dX7_knowledge_20 rfl rfl ?_
      refine f_X7_20 X rfl rfl dX7_knowledge_21 ?_
      refine G_bipush X (v := (13 : Int32)) dX7_knowledge_24 (by decide) ?_
      refine G_iload_n X 2 dX7_knowledge_26 rfl rfl ?_
      refine G_iadd X dX7_knowledge_27 ?_
      obtain ⟨g7, h⟩ := gd_some h
      refine G_iald X rfl (rg_rs _ _ _) g7 dX7_knowledge_28 ?_
      refine G_aload_n X 0 dX7_knowledge_29 rfl rfl ?_
      refine G_iload_n X 2 dX7_knowledge_30 rfl rfl ?_
      obtain ⟨q8, hq8, h⟩ := bd_some h
      refine G_callV X (As := [.int a2]) (rest := [.int (gI m 0 2 (ix (((13 : Int32)) + a2))), .int a1]) (T' := rs T 9 m) (st2 := [.int q8, .int (gI m 0 2 (ix (((13 : Int32)) + a2))), .int a1]) (ct_X7_knownSet (l := g.2.1) (κ := gκ g)   hq8) cal_X7_knownSet wM_X7_257 wI_X7_knownSet wS_X7_knownSet rfl rfl (by decide) rfl rfl (Nat.le_of_ble_eq_true rfl) ⟨Nat.zero_le _, Nat.zero_le _⟩ dX7_knowledge_31 rfl ?_
      refine G_iand X dX7_knowledge_34 ?_
      obtain ⟨q9, hq9, h⟩ := bd_some h
      refine G_callS X (As := [.int ((gI m 0 2 (ix (((13 : Int32)) + a2))) &&& q8)]) (rest := [.int a1]) (T' := rs T 9 m) (st2 := [.int q9, .int a1]) (ct_X7_bits (l := g.2.1) (κ := gκ g)   hq9) cal_X7_bits wM_X7_300 wT_X7_bits (by decide) rfl rfl (Nat.le_of_ble_eq_true rfl) ⟨Nat.zero_le _, Nat.zero_le _⟩ dX7_knowledge_35 rfl ?_
      refine G_iadd X dX7_knowledge_38 ?_
      refine G_istore_n X (lv' := [(1, .int (a1 + q9)), (0, .ref (xE (gκ g) 9 0 0)), (2, .int a2)]) dX7_knowledge_39 rfl (by decide) rfl ?_
      obtain ⟨v10, ev10, h⟩ := nm_some h
      refine G_iinc X (v := v10) (lv' := [(2, .int v10), (1, .int (a1 + q9)), (0, .ref (xE (gκ g) 9 0 0))]) 2 dX7_knowledge_40 rfl (by rw [ev10]; rfl) (by decide) rfl ?_
      refine G_goto X (tgt := 9) dX7_knowledge_43 (by decide) ?_
      refine G_sub [2, 1, 0] rfl ?_
      exact ih _ _ _ h
set_option maxRecDepth 20000 in
theorem gX7_knowledge {g : GX} {T : TT}  {m : St}  {res : St × (Unit ⊕ (Int32 × Int32))} (X : CX g RX7 cX7_knowledge 3 4 89)  (hf : FinD g cX7_knowledge (rs T 9 res.1) (res.2)) (h : sX7_knowledge m = some res) : G g 0 0 (rs T 9 m) 0 [(0, .ref (xE (gκ g) 9 0 0))] [] := by
  unfold sX7_knowledge at h
  refine G_aload_n X 0 dX7_knowledge_0 rfl rfl ?_
  refine G_iconst X (v := (0 : Int32)) dX7_knowledge_1 (by decide) ?_
  obtain ⟨z1, ez1, h⟩ := nm_some h
  refine p_X7_66 X (T' := rs T 9 z1) rfl (rg_rs _ _ _)  (by rw [rs_rs, ez1]) dX7_knowledge_2 ?_
  refine G_iconst X (v := (0 : Int32)) dX7_knowledge_5 (by decide) ?_
  refine G_istore_n X (lv' := [(1, .int ((0 : Int32))), (0, .ref (xE (gκ g) 9 0 0))]) dX7_knowledge_6 rfl (by decide) rfl ?_
  refine G_iconst X (v := (0 : Int32)) dX7_knowledge_7 (by decide) ?_
  refine G_istore_n X (lv' := [(2, .int ((0 : Int32))), (1, .int ((0 : Int32))), (0, .ref (xE (gκ g) 9 0 0))]) dX7_knowledge_8 rfl (by decide) rfl ?_
  refine G_sub [2, 1, 0] rfl ?_
  exact gX7_knowledge_b9 X hf FU _ _ _ h
set_option maxRecDepth 20000 in
theorem ct_X7_knowledge {l : Launch} {κ : KX} {T : TT}  {m : St}  {res : St × (Unit ⊕ (Int32 × Int32))}  (h : sX7_knowledge m = some res) : CtD l κ yX7_knowledge cX7_knowledge 3 4 89 [.ref (xE κ 9 0 0)] (rs T 9 m) (rs T 9 res.1) (res.2) := by
  refine CtD_of RX7 rfl (by decide +kernel) (Nat.le_of_ble_eq_true rfl) (fun g hl hκ X hf => ?_)
  subst hl; subst hκ
  exact gX7_knowledge X  hf h
