/-! stage B: the world that a text tells, and the law's grown one -/
def FRB (v : Nat → Nat → Int32) : Prop := v 0 5 = nI 0 ∧ v 0 6 = nI 0 ∧ v 0 7 = nI 0 ∧ v 0 8 = nI 0 ∧ v 0 9 = nI 0 ∧ v 0 10 = nI 0 ∧ v 0 11 = nI 0 ∧ (∀ k, v 1 k = nI 0) ∧ (∀ o, v 2 o = mone) ∧ (∀ o, v 4 o = nI 5) ∧ ∃ e, 1 ≤ e ∧ e ≤ 999 ∧ v 0 4 = nI e
def NMS (n : Nat) (x : St) : Prop := ∀ k, k < n → gL x (k + 1) 0 0 = lN (cpN [97 + k])
def XGB (n : Nat) (x Y : St) : Prop := (∃ f w, TW n x f w ∧ ∀ b, b < n → w b = lN (mpN [97 + b])) ∧ NMS n x ∧ (∀ j k, gI Y 0 j k = gI Yw 0 j k) ∧ (gI x 0 0 6 = nI 1 ∧ gI x 0 0 3 = nI 3 ∧ gI x 0 0 4 = nI 99 ∧ ∀ k, k < 4 → gI x 0 1 k = gI Yw 0 1 k) ∧ ∀ b, b < n → gI x (b + 1) 0 10 = nI 0 ∧ gI Y (b + 1) 0 0 = gI x (b + 1) 0 1 ∧ gI Y (b + 1) 0 1 = gI x (b + 1) 0 2 ∧ gI Y (b + 1) 0 2 = gI x (b + 1) 0 3 ∧ gI Y (b + 1) 0 3 = gI x (b + 1) 0 4 ∧ gI Y (b + 1) 0 4 = gI x (b + 1) 0 5 ∧ FRB (gI Y (b + 1))
def XGH (n : Nat) (x Y : St) : Prop := (∃ f w, TW n x f w) ∧ NMS n x ∧ XY n x Y ∧ gI Y 0 0 4 = nI 0 ∧ gI Y 0 0 5 = nI 0 ∧ ∀ b, b < n → FRB (gI Y (b + 1))
section
variable {n k b o : Nat} {x x' x1 Y Y' : St} {f : Nat → Int32} {w : Nat → Int64}
theorem XGB.fin (h : XGB n x Y) : XGH n x Y := by
  obtain ⟨⟨f, w, hT, hw⟩, hnm, hY, ⟨q6, q3, q4, qc⟩, hb⟩ := h
  have hn := hT.1
  obtain ⟨tr, g1, g2, g3, g4, g5, g6, g7, g8, g9, g10, g11, g12, g13, g14, g15, g16, g17, g18⟩ := id hT.2.1
  refine ⟨⟨f, w, hT⟩, hnm, ⟨⟨?_, ?_, ?_, ?_, ?_, ?_, ?_, fun k hk => ?_, fun o ho => ?_⟩, fun b hb2 o ho => ?_, fun b hb2 => ?_⟩, (hY _ _).trans rfl, (hY _ _).trans rfl, fun b hb2 => (hb b hb2).2.2.2.2.2.2⟩
  · rw [hY, g4]; rfl
  · rw [hY, q6]; rfl
  · rw [hY, q3]; rfl
  · rw [hY, q4]; rfl
  · rw [hY, g10]; rfl
  · rw [hY, g12]; rfl
  · rw [hY, g14]; rfl
  · rw [hY, qc k hk]
  · rw [hY, g16, ix_n (by omega), Nat.zero_testBit]; rfl
  · have : NB x b = 0 := by unfold NB; rw [(hb b hb2).1, ix_n (by omega)]
    rw [this, Nat.zero_testBit, hY]
    rfl
  · obtain ⟨p10, p0, p1, p2, p3, p4, f5, f6, f7, f8, f9, f10, f11, fr1, fr2, fr4, e, he⟩ := hb b hb2
    obtain ⟨hTB, v6, v7, v8, v9, v11, v12, v13, v1, v24⟩ := hT.2.2.1 b hb2
    refine ⟨p0, p1, p2, p3, p4, f5.trans v6.symm, f6.trans v7.symm, f7.trans v8.symm, f8.trans v11.symm, f9.trans v12.symm, f10.trans v13.symm, f11.trans v9.symm, fun k hk => (fr1 k).trans (v1 k hk).symm, fun o ho => (fr2 o).trans (v24 o (by omega)).1.symm, fun o ho => ?_, fun h6 => ?_⟩
    · rw [fr4, (v24 o (by omega)).2]
      by_cases e : o = b
      · rw [if_pos e]
      · rw [if_neg e]
    · rw [v6] at h6; exact absurd h6 (by decide)
/-- a grown world at its beginning -/
theorem XGH.ry (h : XGH n x Y) : RY n 0 x Y := by
  obtain ⟨⟨f, w, hT⟩, hnm, hxy, h4, h5, hb⟩ := h
  refine RY.mk (tw_ws hT) hxy ⟨fun b hb2 => ?_, fun b hb2 o ho hob h0 => ?_, fun _ => 0, fun _ => 0, fun b hb2 => ?_, ?_, ?_, ?_⟩
  · obtain ⟨f5, f6, f7, f8, f9, f10, f11, fr1, fr2, fr4, e, he1, he2, he3⟩ := hb b hb2
    refine ⟨⟨0, 0, 0, 0, 0, ⟨fr1 0, fr1 1, fr1 2, fr1 3⟩, f10, by omega, by omega⟩, ?_, fun _ => f6, fun o ho => Or.inl (fr2 o)⟩
    rw [he3, f5]
    exact ⟨fun z => absurd ((nI_eq (by omega) (by omega)).mp z) (by omega), fun z => absurd z (by decide)⟩
  · obtain ⟨f5, f6, f7, f8, f9, f10, f11, fr1, fr2, fr4, he⟩ := hb b hb2
    rw [fr4] at h0; exact absurd h0 (by decide)
  · obtain ⟨f5, f6, f7, f8, f9, f10, f11, fr1, fr2, fr4, he⟩ := hb b hb2
    exact ⟨f8, f9⟩
  · have : ∀ m, smN (fun _ => 0) m = 0 := fun m => by
      induction m with
      | zero => rfl
      | succ m ih => show smN (fun _ => 0) m + 0 = 0; rw [ih]
    rw [this]; exact h4
  · have : ∀ m, smN (fun _ => 0) m = 0 := fun m => by
      induction m with
      | zero => rfl
      | succ m ih => show smN (fun _ => 0) m + 0 = 0; rw [ih]
    rw [this]; exact h5
  · have : ∀ m, smN (fun _ => 0) m = 0 := fun m => by
      induction m with
      | zero => rfl
      | succ m ih => show smN (fun _ => 0) m + 0 = 0; rw [ih]
    rw [this]; exact Nat.zero_le _
/-- nothing yet -/
theorem XGB.nil (x : St) : ∃ x', sX5_clear x = some x' ∧ XGB 0 x' Yw := by
  obtain ⟨m1, f, -, -, -, h0, h1⟩ := m_clears x
  obtain ⟨x', e1, e2⟩ := c_clear x (fun _ => 0) h0 h1
  obtain ⟨f0, f1, f2, f3, f4, f5, f6, f7, f8, f9, f10, f11, f12⟩ := h0
  obtain ⟨tr, g1, g2, g3, g4, g5, g6, g7, g8, g9, g10, g11, g12, g13, g14, g15, g16, g17, g18⟩ := id e2.2.1
  refine ⟨x', e1, ⟨f, _, e2, fun b hb => absurd hb (by omega)⟩, fun b hb => absurd hb (by omega), fun _ _ => rfl, ⟨g9.symm.trans f7, g6.trans (g7.symm.trans f2), g8.symm.trans f3, fun k hk => ?_⟩, fun b hb => absurd hb (by omega)⟩
  obtain ⟨z, z1, z2, z3⟩ := g18 k hk
  rcases (by omega : k = 0 ∨ k = 1 ∨ k = 2 ∨ k = 3) with rfl | rfl | rfl | rfl
  · rw [z2, ← z3, f8]; rfl
  · rw [z2, ← z3, f9]; rfl
  · rw [z2, ← z3, f10]; rfl
  · rw [z2, ← z3, f11]; rfl
/-- one beacon more -/
theorem XGB.more {p g l s e : Nat} (h : XGB n x Y) (hn : n < 8) (hx1 : sX0_begin (n + 1) x (lN (cpN [97 + n])) = some x1) (hb : 2 ≤ p ∧ p ≤ 99 ∧ g < p ∧ 1 ≤ l ∧ l ≤ 9 ∧ 1 ≤ s ∧ s ≤ 9 ∧ 1 ≤ e ∧ e ≤ 999) (hY0 : ∀ o, o ≤ n → gI Y' o = gI Y o) (y0 : gI Y' (n + 1) 0 0 = nI p) (y1 : gI Y' (n + 1) 0 1 = nI g) (y2 : gI Y' (n + 1) 0 2 = nI l) (y3 : gI Y' (n + 1) 0 3 = nI s) (y4 : gI Y' (n + 1) 0 4 = nI e) (y5 : ∀ j k, ¬ (j = 0 ∧ k ≤ 4) → gI Y' (n + 1) j k = ybk j k) : XGB (n + 1) (XBC x1 n (nI p) (nI g) (nI l) (nI s) (nI e)) Y' := by
  obtain ⟨x2, a1, a2, a3, a4, a5⟩ := c_begin (o := n) x (lN (cpN [97 + n]))
  obtain rfl := Option.some.inj (hx1.symm.trans a1)
  obtain ⟨⟨f, w, hT, hw⟩, hnm, hY, ⟨q6, q3, q4, qc⟩, hbb⟩ := h
  have hno : ∀ k, k < n → ¬ w k = lN (mpN [97 + n]) := fun k hk z => by
    rw [hw k hk] at z
    have := (mp_inj (ok_nm (show k < 8 by omega)) (ok_nm hn)).mp z
    have := (List.cons.inj this).1
    omega
  have hTW := tw_beacon (w' := fun k => if k = n then lN (mpN [97 + n]) else w k) hT hn a2 a3 a4 a5 (ok_nm hn) (fun k => rfl) hno ⟨hb.1, hb.2.1, hb.2.2.1, hb.2.2.2.1, hb.2.2.2.2.1, hb.2.2.2.2.2.1, hb.2.2.2.2.2.2.1, hb.2.2.2.2.2.2.2.2⟩
  have hx0 : ∀ j k, ¬ (j = 0 ∧ k = 2) → gI (XBC x1 n (nI p) (nI g) (nI l) (nI s) (nI e)) 0 j k = gI x 0 j k := fun j k hh => by
    rw [xbc_0, if_neg hh, (a5 0 (by omega)).1]
  have hxo : ∀ b, b < n → gI (XBC x1 n (nI p) (nI g) (nI l) (nI s) (nI e)) (b + 1) = gI x (b + 1) := fun b hb => by
    rw [xbc_o _ _ _ _ _ (by omega) (by omega), (a5 (b + 1) (by omega)).1]
  have hLx : ∀ o j k, gL (XBC x1 n (nI p) (nI g) (nI l) (nI s) (nI e)) o j k = gL x1 o j k := fun _ _ _ => rfl
  refine ⟨⟨_, _, hTW, fun b hb2 => ?_⟩, fun b hb2 => ?_, fun j k => ?_, ⟨(hx0 _ _ (by omega)).trans q6, (hx0 _ _ (by omega)).trans q3, (hx0 _ _ (by omega)).trans q4, fun k hk => (hx0 _ _ (by omega)).trans (qc k hk)⟩, fun b hb2 => ?_⟩
  · by_cases e : b = n
    · rw [if_pos e, e]
    · rw [if_neg e]; exact hw b (by omega)
  · rw [hLx]
    by_cases e : b = n
    · rw [e]; exact a2
    · rw [(a5 (b + 1) (by omega)).2]; exact hnm b (by omega)
  · rw [hY0 0 (by omega)]; exact hY j k
  · by_cases eb : b = n
    · subst eb
      refine ⟨?_, y0.trans ?_, y1.trans ?_, y2.trans ?_, y3.trans ?_, y4.trans ?_, ?_⟩
      · rw [xbc_b _ _ _ _ _ _ _ (by omega)]; exact a4
      iterate 5
        · unfold XBC
          simp (disch := omega) only [gI_pI, qe, qn, not_true_eq_false, not_false_eq_true, true_and, and_true, false_and, and_false, and_self, Nat.add_right_cancel_iff, ↓reduceIte]
      · refine ⟨?_, ?_, ?_, ?_, ?_, ?_, ?_, fun k => ?_, fun o => ?_, fun o => ?_, e, hb.2.2.2.2.2.2.2.1, hb.2.2.2.2.2.2.2.2, y4⟩
        all_goals rw [y5 _ _ (by omega)]
        all_goals rfl
    · rw [hxo b (by omega), hY0 (b + 1) (by omega)]
      exact hbb b (by omega)
/-! what all have together -/
theorem XGH.head {Y' : St} (h : XGH n x Y) (h1 : ∀ b, gI x' (b + 1) = gI x (b + 1)) (h2 : x'.2 = x.2) (h3 : ∃ f w, TW n x' f w) (h4 : XY n x' Y') (h5 : ∀ b, gI Y' (b + 1) = gI Y (b + 1)) (h6 : gI Y' 0 0 4 = gI Y 0 0 4) (h7 : gI Y' 0 0 5 = gI Y 0 0 5) : XGH n x' Y' := by
  obtain ⟨-, hnm, hxy, z4, z5, hb⟩ := h
  refine ⟨h3, fun k hk => ?_, h4, h6.trans z4, h7.trans z5, fun b hb2 => by rw [h5]; exact hb b hb2⟩
  have : gL x' (k + 1) 0 0 = gL x (k + 1) 0 0 := congrFun (congrFun (congrFun h2 (k + 1)) 0) 0
  rw [this]; exact hnm k hk
theorem XGH.tries {s : Nat} (h : XGH n x Y) (hs : s ≤ 9) : XGH n (pI x 0 0 3 (nI s)) (pI Y 0 0 2 (nI s)) := by
  obtain ⟨f, w, hT⟩ := h.1
  refine h.head (fun b => bv_0) rfl ⟨_, _, tw_head hT (fun b => bv_0) rfl (fun k hk => ?_) (th_tr hT.2.1 hs)⟩ (h.2.2.1.tries _) (fun b => bv_0) (by rw [gI_pI, if_neg (by omega)]) (by rw [gI_pI, if_neg (by omega)])
  rw [upd_e, if_neg (by omega)]
theorem XY.seed (h : XY n x Y) (v : Int32) : XY n (pI x 0 0 6 v) (pI Y 0 0 1 v) := by
  obtain ⟨⟨z0, z1, z2, z3, z4, z5, z6, z7, z8⟩, hNr, hBB⟩ := h
  refine ⟨⟨?_, ?_, ?_, ?_, ?_, ?_, ?_, fun k' hk' => ?_, fun o ho => ?_⟩, fun b hb o ho => ?_, fun b hb => ?_⟩
  case refine_10 =>
    have : NB (pI x 0 0 6 v) b = NB x b := by unfold NB; rw [gI_pI, if_neg (by omega)]
    rw [this, gI_pI, if_neg (by omega)]; exact hNr b hb o ho
  case refine_11 => rw [bv_0, bv_0]; exact hBB b hb
  all_goals simp (disch := omega) only [gI_pI, gL_pL, gI_pL, gL_pI, qn, qe, not_true_eq_false, not_false_eq_true, true_and, and_true, false_and, and_false, and_self, Nat.add_right_cancel_iff, ↓reduceIte]
  all_goals first | assumption | exact z7 _ (by assumption) | exact z8 _ (by assumption)
theorem XY.memory (h : XY n x Y) (v : Int32) : XY n (pI x 0 0 4 v) (pI Y 0 0 3 v) := by
  obtain ⟨⟨z0, z1, z2, z3, z4, z5, z6, z7, z8⟩, hNr, hBB⟩ := h
  refine ⟨⟨?_, ?_, ?_, ?_, ?_, ?_, ?_, fun k' hk' => ?_, fun o ho => ?_⟩, fun b hb o ho => ?_, fun b hb => ?_⟩
  case refine_10 =>
    have : NB (pI x 0 0 4 v) b = NB x b := by unfold NB; rw [gI_pI, if_neg (by omega)]
    rw [this, gI_pI, if_neg (by omega)]; exact hNr b hb o ho
  case refine_11 => rw [bv_0, bv_0]; exact hBB b hb
  all_goals simp (disch := omega) only [gI_pI, gL_pL, gI_pL, gL_pI, qn, qe, not_true_eq_false, not_false_eq_true, true_and, and_true, false_and, and_false, and_self, Nat.add_right_cancel_iff, ↓reduceIte]
  all_goals first | assumption | exact z7 _ (by assumption) | exact z8 _ (by assumption)
theorem XY.cost (h : XY n x Y) (v : Int32) {i : Nat} (hi : i < 4) : XY n (pI x 0 1 i v) (pI Y 0 1 i v) := by
  obtain ⟨⟨z0, z1, z2, z3, z4, z5, z6, z7, z8⟩, hNr, hBB⟩ := h
  refine ⟨⟨?_, ?_, ?_, ?_, ?_, ?_, ?_, fun k' hk' => ?cst, fun o ho => ?_⟩, fun b hb o ho => ?near, fun b hb => ?bea⟩
  case cst =>
    rw [gI_pI, gI_pI]
    by_cases e : k' = i
    · rw [if_pos ⟨rfl, rfl, e⟩, if_pos ⟨rfl, rfl, e⟩]
    · rw [if_neg (by omega), if_neg (by omega)]; exact z7 k' hk'
  case near =>
    have : NB (pI x 0 1 i v) b = NB x b := by unfold NB; rw [gI_pI, if_neg (by omega)]
    rw [this, gI_pI, if_neg (by omega)]; exact hNr b hb o ho
  case bea => rw [bv_0, bv_0]; exact hBB b hb
  all_goals simp (disch := omega) only [gI_pI, gL_pL, gI_pL, gL_pI, qn, qe, not_true_eq_false, not_false_eq_true, true_and, and_true, false_and, and_false, and_self, Nat.add_right_cancel_iff, ↓reduceIte]
  all_goals first | assumption | exact z8 _ (by assumption)
theorem XGH.seed {s : Nat} (h : XGH n x Y) : XGH n (pI x 0 0 6 (nI s)) (pI Y 0 0 1 (nI s)) := by
  obtain ⟨f, w, hT⟩ := h.1
  refine h.head (fun b => bv_0) rfl ⟨_, _, tw_head hT (fun b => bv_0) rfl (fun k hk => ?_) (th_dr hT.2.1)⟩ (h.2.2.1.seed _) (fun b => bv_0) (by rw [gI_pI, if_neg (by omega)]) (by rw [gI_pI, if_neg (by omega)])
  rw [upd_e, if_neg (by omega)]
theorem XGH.memory {s : Nat} (h : XGH n x Y) : XGH n (pI x 0 0 4 (nI s)) (pI Y 0 0 3 (nI s)) := by
  obtain ⟨f, w, hT⟩ := h.1
  refine h.head (fun b => bv_0) rfl ⟨_, _, tw_head hT (fun b => bv_0) rfl (fun k hk => ?_) (th_me hT.2.1)⟩ (h.2.2.1.memory _) (fun b => bv_0) (by rw [gI_pI, if_neg (by omega)]) (by rw [gI_pI, if_neg (by omega)])
  rw [upd_e, if_neg (by omega)]
theorem th_co {i s : Nat} (h : TH n (gI x 0) f) (hi : i < 4) (hs : s ≤ 99) : TH n (gI (pI x 0 1 i (nI s)) 0) (upd f (8 + i) (nI s)) := by
  obtain ⟨tr, h1, h2, h3, h4, h5, h6, h7, h8, h9, h10, h11, h12, h13, h14, h15, h16, h17, h18⟩ := h
  refine ⟨tr, h1, ?_, ?_, ?_, ?_, ?_, ?_, ?_, ?_, ?_, ?_, ?_, ?_, ?_, ?_, ?_, ?_, fun j hj => ?lst⟩
  case lst =>
    by_cases e : j = i
    · subst e
      exact ⟨s, hs, by rw [gI_pI, if_pos ⟨rfl, rfl, rfl⟩], by rw [upd_e, if_pos rfl]⟩
    · obtain ⟨z, z1, z2, z3⟩ := h18 j hj
      exact ⟨z, z1, by rw [gI_pI, if_neg (by omega)]; exact z2, by rw [upd_e, if_neg (by omega)]; exact z3⟩
  all_goals try simp (disch := omega) only [upd_e, gI_pI, gL_pL, gI_pL, gL_pI, qe, qn, not_true_eq_false, not_false_eq_true, true_and, and_true, false_and, and_false, and_self, Nat.add_right_cancel_iff, ↓reduceIte]
  all_goals assumption
theorem XGH.cost {s i : Nat} (h : XGH n x Y) (hi : i < 4) (hs : s ≤ 99) : XGH n (pI x 0 1 i (nI s)) (pI Y 0 1 i (nI s)) := by
  obtain ⟨f, w, hT⟩ := h.1
  refine h.head (fun b => bv_0) rfl ⟨_, _, tw_head hT (fun b => bv_0) rfl (fun k hk => ?_) (th_co hT.2.1 hi hs)⟩ (h.2.2.1.cost _ hi) (fun b => bv_0) (by rw [gI_pI, if_neg (by omega)]) (by rw [gI_pI, if_neg (by omega)])
  rw [upd_e, if_neg (by omega)]
theorem swY_sym (Y : St) {b o : Nat} (v : Int32) : gI (swY Y b o v) = gI (swY Y o b v) := funext fun p => funext fun j => funext fun i => by
  unfold swY
  rw [gI_pI, gI_pI, gI_pI, gI_pI]
  by_cases h1 : p = 0 ∧ j = o + 6 ∧ i = b
  · rw [if_pos h1]
    by_cases h2 : p = 0 ∧ j = b + 6 ∧ i = o
    · rw [if_pos h2]
    · rw [if_neg h2, if_pos h1]
  · rw [if_neg h1]
    by_cases h2 : p = 0 ∧ j = b + 6 ∧ i = o
    · rw [if_pos h2, if_pos h2]
    · rw [if_neg h2, if_neg h2, if_neg h1]
theorem XGH.near (h : XGH n x Y) (hb : b < n) (ho : o < n) (hbo : ¬ b = o) (hf : (NB x b).testBit o = false) : XGH n (swX x b o) (swY Y o b (nI 1)) := by
  obtain ⟨f, w, hT⟩ := h.1
  have hw := tw_ws hT
  have hn := hT.1
  have hxb := WR.nb hw hb
  have hxo := WR.nb hw ho
  have hsym : (NB x o).testBit b = (NB x b).testBit o := by
    have w1 := hT.2.2.2.2.1 o ho b
    cases e1 : (NB x o).testBit b
    · exact hf.symm
    · have := (w1 e1).2.2; rw [this] at hf; cases hf
  have hx := h.2.2.1.near hn hb ho hbo (N := true) hxb.2 hxo.2 hsym (by rw [hf]; decide)
  obtain ⟨-, hnm, hxy, z4, z5, hbb⟩ := h
  refine ⟨⟨_, _, tw_near hT hb ho hbo⟩, hnm, hx.cgY (swY_sym Y (nI 1)), ?_, ?_, fun c hc => ?_⟩
  · unfold swY; rw [gI_pI, if_neg (by omega), gI_pI, if_neg (by omega)]; exact z4
  · unfold swY; rw [gI_pI, if_neg (by omega), gI_pI, if_neg (by omega)]; exact z5
  · unfold swY; rw [bv_0, bv_0]; exact hbb c hc
end
