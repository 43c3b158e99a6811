/-! stage B: all hear, in the class's and the law's world -/
section
variable {n t cm wl wm e k b : Nat} {q : Bool} {x x' m Y Y' : St} {f f' : Nat → Int32}
theorem t_listen {u : Nat} {a1 : Int32} (h : WR n t cm wl wm false 99 x f) (y : FY n Y f) (hcm : cm + 8 ≤ 1600000) : ∃ x' f' Y' , ∃ S : Nat, sX5_listenToSenders x = some x' ∧ sX8_slot_b179 FU n Y u a1 (nI 0) = sX8_slot_b365 FU n Y' u a1 (nI 0) ∧ WR n t (cm + 8) wl wm true 99 x' f' ∧ FY n Y' f' ∧ (∀ b, b < n → (S.testBit b = true ↔ gI x' (b + 1) 0 6 = nI 3)) ∧ (∀ o, o < n → gI Y' 0 3 o = nI (S.testBit o).toNat) ∧ ∀ o j i, ¬ (o = 0 ∧ j = 0 ∧ i = 6) → ¬ j = 3 → gI Y' o j i = gI Y o j i := by
  have hn := h.n8
  obtain ⟨x', f', S', e1, -, e3, -, -⟩ := s_listen (m := x) h hcm
  obtain ⟨S, hS⟩ : ∃ S, S = mkS (fun k => decide (gI x (k + 1) 0 6 = nI 3)) n := ⟨_, rfl⟩
  have hSn : S < 2 ^ n := by rw [hS]; exact mkS_lt _ _
  have hS8 : S < 256 := Nat.lt_of_lt_of_le hSn (Nat.pow_le_pow_right (n := 2) (by decide) hn)
  have hSb : ∀ b, b < n → (S.testBit b = true ↔ gI x (b + 1) 0 6 = nI 3) := fun b hb => by
    rw [hS, mkS_bit, decide_eq_true hb, Bool.true_and]; exact decide_eq_true_iff
  obtain ⟨c, w, tr, sn, w1, w2, w3, w4, w5, w6, w7, w8, w9, w10, w11, w12, w13, w14, w15, w16, w17, w18, w19, w20, w21, w22, w23, w24, w25⟩ := h.1
  have hcl := c_listen h w11 (by omega) hS
  obtain rfl := Option.some.inj (e1.symm.trans hcl)
  obtain ⟨⟨z0, z1, z2, z3, z4, z5, z6, z7, z8⟩, hNr, hB⟩ := y.to h
  have hNS : NS n (NB x) S Y := ⟨hNr, fun o ho => by
    obtain ⟨p, g, l, s, en, st, lf, fl, a, sk, h1, h2, h3, h4, h5, h6, h7, h8, h9, h10, h11, h12⟩ := h.bk ho
    refine ⟨st, by omega, (hB o ho).2.2.2.2.2.1.trans h6, ?_⟩
    rw [hSb o ho, h6, nI_eq (by omega) (by omega)]⟩
  have hNl : ∀ o, o < n → NB x o &&& S < 2 ^ n := fun o _ => Nat.lt_of_le_of_lt Nat.and_le_right hSn
  have hc6 : gI Y 0 0 6 = nI c := z6.trans w11
  have e4 := y_rows (u := u) (a1 := a1) hNS hn hNl hc6
  have e5 := y_sents (u := u) (a1 := a1) (hNS.yL (a := n) (s := 0) (cc := c + cY Y (NB x) S n)) hn
  generalize hy : pI x 0 0 10 (nI S) = y9 at hcl e3 e1 ⊢
  have yb : ∀ b, gI y9 (b + 1) = gI x (b + 1) := fun b => by rw [← hy]; exact bv_0
  have yN : ∀ b, NB y9 b = NB x b := fun b => by unfold NB; rw [yb]
  have hcc : cL y9 S n = cY Y (NB x) S n := by
    refine smN_cg fun k hk => ?_
    rw [yb, yN, (hB k hk).2.2.2.2.2.1]
  rw [hcc] at e3 e1
  have hx' : ∀ b, b < n → ∀ j i, ¬ j = 3 → gI (xL y9 S n 0 (c + cY Y (NB x) S n)) (b + 1) j i = gI x (b + 1) j i := fun b hb j i hj => by
    rw [xL_o (by omega) hj, yb]
  have hx0 : ∀ j i, ¬ (j = 0 ∧ i = 9) → ¬ (j = 0 ∧ i = 10) → ¬ j = 3 → gI (xL y9 S n 0 (c + cY Y (NB x) S n)) 0 j i = gI x 0 j i := fun j i h9 h10 h3 => by
    rw [xL_o (by omega) h3, ← hy, gI_pI, if_neg (by omega)]
  have hfr : ∀ o j i, ¬ (o = 0 ∧ j = 0 ∧ i = 6) → ¬ j = 3 → gI (yS (yL Y (NB x) S n n 0 (c + cY Y (NB x) S n)) S n) o j i = gI Y o j i := fun o j i h1 h2 => by
    rw [yS_g, if_neg (by omega), yL_o h1 (Or.inl h2)]
  have hN3 : ∀ j i, 4 ≤ j → gI (yS (yL Y (NB x) S n n 0 (c + cY Y (NB x) S n)) S n) 0 j i = gI Y 0 j i := fun j i hj => hfr _ _ _ (by omega) (by omega)
  have hst : ∀ b, b < n → gI (xL y9 S n 0 (c + cY Y (NB x) S n)) (b + 1) 0 6 = gI x (b + 1) 0 6 := fun b hb => hx' b hb 0 6 (by omega)
  refine ⟨_, f', yS (yL Y (NB x) S n n 0 (c + cY Y (NB x) S n)) S n, S, e1, e4.trans e5, e3, FY.of e3 ⟨⟨?_, ?_, ?_, ?_, ?_, ?_, ?_, fun k hk => ?_, fun o ho => ?_⟩, fun b hb o ho => ?_, fun b hb => ?_⟩, fun b hb => ?_, fun o ho => ?_, hfr⟩
  · rw [hfr _ _ _ (by omega) (by omega), hx0 _ _ (by omega) (by omega) (by omega)]; exact z0
  · rw [hfr _ _ _ (by omega) (by omega), hx0 _ _ (by omega) (by omega) (by omega)]; exact z1
  · rw [hfr _ _ _ (by omega) (by omega), hx0 _ _ (by omega) (by omega) (by omega)]; exact z2
  · rw [hfr _ _ _ (by omega) (by omega), hx0 _ _ (by omega) (by omega) (by omega)]; exact z3
  · rw [hfr _ _ _ (by omega) (by omega), hx0 _ _ (by omega) (by omega) (by omega)]; exact z4
  · rw [hfr _ _ _ (by omega) (by omega), hx0 _ _ (by omega) (by omega) (by omega)]; exact z5
  · rw [yS_g, if_neg (by omega), yL_g, if_pos ⟨rfl, rfl, rfl⟩, xL_g, if_pos ⟨rfl, rfl, rfl⟩]
  · rw [hfr _ _ _ (by omega) (by omega), hx0 _ _ (by omega) (by omega) (by omega)]; exact z7 k hk
  · rw [yS_g, if_pos ⟨rfl, rfl, ho⟩, xL_o (by omega) (by omega), ← hy, gI_pI, if_pos ⟨rfl, rfl, rfl⟩, ix_n (by omega)]
  · have hNN : NB (xL y9 S n 0 (c + cY Y (NB x) S n)) b = NB x b := by
      unfold NB; rw [xL_o (by omega) (by omega), yb]
    rw [hN3 _ _ (by omega), hNN]; exact hNr b hb o ho
  · obtain ⟨y0, y1, y2, y3, y4, y5, y6, y7, y8, y9', y10, y11, y12, y13, y14, y15⟩ := hB b hb
    refine ⟨?_, ?_, ?_, ?_, ?_, ?_, ?_, ?_, ?_, ?_, ?_, ?_, fun k hk => ?_, fun o ho => ?_, fun o ho => ?_, fun h3 o ho hob => ?_⟩
    rotate_right 1
    · rw [hst b hb] at h3
      have hbS := (hSb b hb).mpr h3
      have hw := y15 h3 o ho hob
      have l1 : gI (yS (yL Y (NB x) S n n 0 (c + cY Y (NB x) S n)) S n) (b + 1) 3 o = if gI Y (b + 1) 3 o = nI 0 then nI (rsn (NB x o) S b (gI Y (o + 1) 0 5)) else gI Y (b + 1) 3 o := by
        rw [yS_g, if_neg (by omega), yL_g, if_neg (by omega)]
        simp only [Nat.add_sub_cancel]
        by_cases hz : gI Y (b + 1) 3 o = nI 0
        · rw [if_pos hz, if_pos ⟨trivial, by omega, hbS, Or.inl ⟨hb, ho⟩, hob, hz⟩]
        · rw [if_neg hz, if_neg (fun z => hz z.2.2.2.2.2)]
      have l2 : gI (xL y9 S n 0 (c + cY Y (NB x) S n)) (b + 1) 3 o = if gI x (b + 1) 3 o = nI 0 then nI (rsn (NB x o) S b (gI x (o + 1) 0 6)) else gI x (b + 1) 3 o := by
        rw [xL_g, if_neg (by omega), yN, yb, yb]
        simp only [Nat.add_sub_cancel]
        by_cases hz : gI x (b + 1) 3 o = nI 0
        · rw [if_pos hz, if_pos ⟨trivial, by omega, hbS, Or.inl ho, hz⟩]
        · rw [if_neg hz, if_neg (fun z => hz z.2.2.2.2)]
      rw [l1, l2, hw, (hB o ho).2.2.2.2.2.1]
    all_goals rw [hfr _ _ _ (by omega) (by omega), hx' b hb _ _ (by omega)]
    all_goals first | assumption | exact y12 _ (by assumption) | exact y13 _ (by assumption) | exact y14 _ (by assumption)
  · rw [hst b hb]; exact hSb b hb
  · rw [yS_g, if_pos ⟨rfl, rfl, ho⟩]
end
