/-! stage B: a sending's last slot, in the class's and the law's world -/
def PF (Y Y' : St) : Prop := ∀ b i, i < 2 → gI Y' (b + 1) 0 i = gI Y (b + 1) 0 i
def EF (k : Nat) (Y Y' : St) : Prop := (∀ b, ¬ b = k → gI Y' (b + 1) 0 8 = gI Y (b + 1) 0 8 ∧ gI Y' (b + 1) 0 5 = gI Y (b + 1) 0 5) ∧ (∀ i, gI Y' 0 3 i = gI Y 0 3 i) ∧ (gI Y' (k + 1) 0 8 = gI Y (k + 1) 0 8 ∨ gI Y' (k + 1) 0 8 = gI Y (k + 1) 0 8 + nI 1 ∧ gI Y' (k + 1) 0 5 = nI 0) ∧ PF Y Y'
section
variable {n t tb cm wl wm e k b : Nat} {q : Bool} {x x' m Y Y' Z : St} {f f' : Nat → Int32}
/-- both fail once more -/
theorem XY.fail (h : XY n x Y) (hk : k < n) (v : Int32) : XY n (pI x (k + 1) 0 8 v) (pI Y (k + 1) 0 7 v) := by
  obtain ⟨⟨z0, z1, z2, z3, z4, z5, z6, z7, z8⟩, hNr, hBB⟩ := h
  refine ⟨⟨?_, ?_, ?_, ?_, ?_, ?_, ?_, fun k' hk' => ?_, fun o ho => ?_⟩, fun b hb o ho => ?_, fun b hb => ?_⟩
  case refine_10 =>
    have : NB (pI x (k + 1) 0 8 v) b = NB x b := by unfold NB; rw [gI_pI, if_neg (by omega)]
    rw [this, gI_pI, if_neg (by omega)]; exact hNr b hb o ho
  case refine_11 =>
    obtain ⟨y0, y1, y2, y3, y4, y5, y6, y7, y8, y9, y10, y11, y12, y13, y14, y15⟩ := hBB b hb
    by_cases e : b = k
    · subst e
      refine ⟨?_, ?_, ?_, ?_, ?_, ?_, ?_, ?_, ?_, ?_, ?_, ?_, fun k' hk' => ?_, fun o ho => ?_, fun o ho => ?_, fun h4 o ho hob => ?_⟩
      case refine_16 =>
        simp (disch := omega) only [gI_pI, gL_pL, gI_pL, gL_pI, qn, qe, not_true_eq_false, not_false_eq_true, true_and, and_true, false_and, and_false, and_self, Nat.add_right_cancel_iff, ↓reduceIte] at h4 ⊢
        exact y15 h4 o ho hob
      all_goals simp (disch := omega) only [gI_pI, gL_pL, gI_pL, gL_pI, qn, qe, not_true_eq_false, not_false_eq_true, true_and, and_true, false_and, and_false, and_self, Nat.add_right_cancel_iff, ↓reduceIte]
      all_goals first | assumption | exact y12 _ (by assumption) | exact y13 _ (by assumption) | exact y14 _ (by assumption)
    · rw [bv_ne e, bv_ne e]; exact hBB b hb
  all_goals simp (disch := omega) only [gI_pI, gL_pL, gI_pL, gL_pI, qn, qe, not_true_eq_false, not_false_eq_true, true_and, and_true, false_and, and_false, and_self, Nat.add_right_cancel_iff, ↓reduceIte]
  all_goals first | assumption | exact z7 _ (by assumption) | exact z8 _ (by assumption)
/-- both come to the end of a sending -/
def XD (k dw du : Nat) (X x' : St) : Prop := (∀ o j i, ¬ (o = k + 1 ∧ j = 0 ∧ (i = 6 ∨ i = 7 ∨ i = 8 ∨ i = 11 ∨ i = 12)) → ¬ (o = 0 ∧ j = 0 ∧ (i = 7 ∨ i = 8)) → gI x' o j i = gI X o j i) ∧ gI x' (k + 1) 0 6 = nI 0 ∧ gI x' (k + 1) 0 7 = nI 0 ∧ gI x' (k + 1) 0 8 = nI 0 ∧ gI x' (k + 1) 0 11 = gI X (k + 1) 0 11 + nI dw ∧ gI x' (k + 1) 0 12 = gI X (k + 1) 0 12 + nI du ∧ gI x' 0 0 7 = gI X 0 0 7 + nI dw ∧ gI x' 0 0 8 = gI X 0 0 8 + nI du
def YD (k dw du : Nat) (Z Y' : St) : Prop := (∀ o j i, ¬ (o = k + 1 ∧ j = 0 ∧ (5 ≤ i ∧ i ≤ 9)) → ¬ (o = 0 ∧ j = 0 ∧ (i = 4 ∨ i = 5)) → gI Y' o j i = gI Z o j i) ∧ gI Y' (k + 1) 0 5 = nI 0 ∧ gI Y' (k + 1) 0 6 = nI 0 ∧ gI Y' (k + 1) 0 7 = nI 0 ∧ gI Y' (k + 1) 0 8 = gI Z (k + 1) 0 8 + nI dw ∧ gI Y' (k + 1) 0 9 = gI Z (k + 1) 0 9 + nI du ∧ gI Y' 0 0 4 = gI Z 0 0 4 + nI dw ∧ gI Y' 0 0 5 = gI Z 0 0 5 + nI du
theorem XY.done {dw du : Nat} {X Z x' Y' : St} (h : XY n X Z) (hk : k < n) (hx : XD k dw du X x') (hy : YD k dw du Z Y') : XY n x' Y' := by
  obtain ⟨⟨z0, z1, z2, z3, z4, z5, z6, z7, z8⟩, hNr, hBB⟩ := h
  obtain ⟨xf, x6, x7, x8, x11, x12, x07, x08⟩ := hx
  obtain ⟨yf, y5', y6', y7', y8', y9', y04, y05⟩ := hy
  refine ⟨⟨?_, ?_, ?_, ?_, ?_, ?_, ?_, fun k' hk' => ?_, fun o ho => ?_⟩, fun b hb o ho => ?_, fun b hb => ?_⟩
  case refine_5 => rw [y04, x07, z4]
  case refine_6 => rw [y05, x08, z5]
  case refine_10 =>
    have : NB x' b = NB X b := by unfold NB; rw [xf _ _ _ (by omega) (by omega)]
    rw [this, yf _ _ _ (by omega) (by omega)]; exact hNr b hb o ho
  case refine_11 =>
    obtain ⟨y0, y1, y2, y3, y4, y5, y6, y7, y8, y9, y10, y11, y12, y13, y14, y15⟩ := hBB b hb
    by_cases e : b = k
    · subst e
      refine ⟨?_, ?_, ?_, ?_, ?_, y5'.trans x6.symm, y6'.trans x7.symm, y7'.trans x8.symm, by rw [y8', x11, y8], by rw [y9', x12, y9], ?_, ?_, fun k' hk' => ?_, fun o ho => ?_, fun o ho => ?_, fun h4 => absurd (x6.symm.trans h4) (by decide)⟩
      all_goals rw [yf _ _ _ (by omega) (by omega), xf _ _ _ (by omega) (by omega)]
      all_goals first | assumption | exact y12 _ (by assumption) | exact y13 _ (by assumption) | exact y14 _ (by assumption)
    · have e1 : gI Y' (b + 1) = gI Z (b + 1) := funext fun j => funext fun i => yf _ _ _ (by omega) (by omega)
      have e2 : gI x' (b + 1) = gI X (b + 1) := funext fun j => funext fun i => xf _ _ _ (by omega) (by omega)
      rw [e1, e2]; exact hBB b hb
  all_goals rw [yf _ _ _ (by omega) (by omega), xf _ _ _ (by omega) (by omega)]
  all_goals first | assumption | exact z7 _ (by assumption) | exact z8 _ (by assumption)
/-- the law's end of it -/
theorem y_done {dw du : Nat} {v : Int32} {Z : St} (hd : (dw = 1 ∧ du = 0) ∨ (dw = 0 ∧ du = 1)) (hv : dw = 0 → gI Z 0 0 2 ≤ v) : ∃ Y', sX8_ends_b122 n Z (nI k) k (nI dw) v k = some Y' ∧ YD k dw du Z Y' := by
  refine ⟨pI (pI (pI (pI (pI (pI (pI (pI Z (k + 1) 0 7 v) (k + 1) 0 8 (gI Z (k + 1) 0 8 + nI dw)) 0 0 4 (gI Z 0 0 4 + nI dw)) (k + 1) 0 9 (gI Z (k + 1) 0 9 + nI du)) 0 0 5 (gI Z 0 0 5 + nI du)) (k + 1) 0 7 (nI 0)) (k + 1) 0 5 (nI 0)) (k + 1) 0 6 (nI 0), ?_, fun o j i h1 h2 => ?_, ?_, ?_, ?_, ?_, ?_, ?_, ?_⟩
  · rcases hd with ⟨rfl, rfl⟩ | ⟨rfl, rfl⟩
    · unfold sX8_ends_b122 sX8_ends_b146 sX8_ends_b160 sX8_ends_b178 sX8_ends_b196 sX8_ends_b214
      simp (disch := omega) only [zl, zm, nI_add, pk_mul, inb_t, ix_n, gd_tt, bd_e, nm_v, ite_not, ↓reduceIte, le_t, le_f, lt_t, lt_f, eq_t, eq_f, mone_f, mone_f2, not_false_eq_true, gI_pI, gL_pL, gI_pL, gL_pI, qe, qn, not_true_eq_false, not_false_eq_true, true_and, and_true, false_and, and_false, and_self, Nat.add_right_cancel_iff]
    · have := hv rfl
      unfold sX8_ends_b122 sX8_ends_b146 sX8_ends_b160 sX8_ends_b178 sX8_ends_b196 sX8_ends_b214
      simp (disch := omega) only [zl, zm, nI_add, pk_mul, inb_t, ix_n, gd_tt, bd_e, nm_v, ite_not, ↓reduceIte, le_t, le_f, lt_t, lt_f, eq_t, eq_f, mone_f, mone_f2, not_true_eq_false, gI_pI, gL_pL, gI_pL, gL_pI, qe, qn, not_true_eq_false, not_false_eq_true, true_and, and_true, false_and, and_false, and_self, Nat.add_right_cancel_iff, this]
  · repeat rw [gI_pI, if_neg (by omega)]
  all_goals simp (disch := omega) only [gI_pI, gL_pL, gI_pL, gL_pI, qe, qn, not_true_eq_false, not_false_eq_true, true_and, and_true, false_and, and_false, and_self, Nat.add_right_cancel_iff, ↓reduceIte]
theorem t_through (h : WR n t cm wl wm true k x f) (y : FY n Y f) (hk : k < n) (h3 : gI x (k + 1) 0 6 = nI 3) (hwm : wm + 1 ≤ 1600000) (hI : IV n t tb wm Y) : ∃ x' f' Y', (∃ z r, sX5_endSending (k + 1) x (nI k) = some (z, nI r.toNat) ∧ (if r = true then x' = z else sX5_waitByDraw (k + 1) z = some x')) ∧ sX8_ends n Y (nI k) = some Y' ∧ WR n t cm wl (wm + 1) true 99 x' f' ∧ (∀ b, ¬ b = k → gI x' (b + 1) 0 6 = gI x (b + 1) 0 6) ∧ FY n Y' f' ∧ IV n t tb (wm + 1) Y' ∧ EF k Y Y' := by
  have hn := h.n8
  obtain ⟨a, a1, a2, a3, a4⟩ := r_tell h hk h3
  have htell := c_tell hn h.xn hk
  obtain ⟨c, w', tr, sn, w1, w2, w3, w4, w5, w6, w7, w8, w9, w10, w11, w12, w13, w14, w15, w16, w17, w18, w19, w20, w21, w22, w23, w24, w25⟩ := h.1
  obtain ⟨⟨d0, d00⟩, d1, d2, d3, d4, d5, d6, d7, d8, d9, d10, d11, d12, d13, d14, d15⟩ := h.bd hk
  obtain ⟨p, g1, l, s, en, st, lf, fl, a', sk, h1, h2, h3', h4, h5, h6, h7, h8, h9, h10, h11, h12⟩ := h.bk hk
  have xo : ∀ o j i, ¬ j = 4 → ¬ j = 2 → gI (xT x k n) o j i = gI x o j i := fun o j i h4 h2 => xT_o h4 h2
  have yo : ∀ o j i, ¬ j = 4 → ¬ j = 2 → gI (yT Y k n) o j i = gI Y o j i := fun o j i h4 h2 => yT_o (by omega) (by omega)
  have hself : ¬ gI x (k + 1) 3 k = nI 0 := ((h.2.1 k hk).2.2 h3).2 rfl
  obtain ⟨hXT, hhk⟩ := (y.to h).tell hk h3 hself
  have hy7 : gI Y (k + 1) 0 7 = nI fl := (y.fb hk).2.2.2.2.2.2.2.1.trans (d8.trans h8)
  have hy5 : gI Y (k + 1) 0 5 = nI 3 := (y.fb hk).2.2.2.2.2.1.trans (d6.trans h3)
  have hy02 : gI Y 0 0 2 = nI tr := y.1.2.2.1.trans (w18.trans w13)
  have ht : gI Y 0 0 0 = nI t := y.1.1.trans h.ft
  have hIT := hI.tell (k := k) ht (by have := h.tl; omega)
  have hends := y_tell (Y := Y) hn hk
  rw [hhk] at hends
  have hs4 : ¬ gI (yT Y k n) (k + 1) 0 5 = nI 4 := by rw [yo _ _ _ (by omega) (by omega), hy5]; decide
  by_cases hE : a &&& (2 ^ n - 1) = 0
  · have hhb : hB x k n = false := by
      cases hc : hB x k n with
      | false => rfl
      | true => exact absurd hE (a4.mp hc)
    rw [hhb, if_neg (by decide), hy7, nI_add] at hends
    have hW := a3 (eF f k n) ⟨fun _ _ => rfl, fun o ho => by rw [if_neg (fun z => by rw [hE, Nat.zero_testBit] at z; cases z.2)]⟩
    by_cases hfl : fl + 1 < tr
    · have hW2 := r_fail hW hk (fl := fl + 1) (by omega)
      obtain ⟨x', f', j1, j2, j3⟩ := l_wait (m := x) hW2 hk (Or.inr rfl)
      have yF := FY.of hW2 (hXT.fail hk (nI (fl + 1)))
      obtain ⟨Y', u1, u2, u3, u4⟩ := y_wait (fl := fl + 1) yF hn hk (by simp (disch := omega) only [upd_e, qe, ↓reduceIte]) (by omega) j2
      have hfr : ∀ o j i, ¬ (o = k + 1 ∧ j = 0 ∧ (5 ≤ i ∧ i ≤ 9 ∨ i = 11)) → ¬ (o = 0 ∧ j = 0 ∧ (i = 1 ∨ i = 4 ∨ i = 5)) → ¬ j = 3 → gI Y' o j i = gI (yT Y k n) o j i := fun o j i q1 q2 q3 => by
        rw [u3 o j i (by omega) (by omega) (by omega), gI_pI, if_neg (by omega)]
      have hu : ∀ o j i, ¬ (o = k + 1 ∧ j = 0 ∧ (i = 5 ∨ i = 6 ∨ i = 7 ∨ i = 11)) → ¬ (o = 0 ∧ j = 0 ∧ i = 1) → ¬ (o = k + 1 ∧ j = 3) → ¬ j = 4 → ¬ j = 2 → gI Y' o j i = gI Y o j i := fun o j i q1 q2 q3 q4 q5 => by
        rw [u3 o j i (by omega) (by omega) (by omega), gI_pI, if_neg (by omega), yo _ _ _ q4 q5]
      refine ⟨x', f', Y', ⟨pI (xT x k n) (k + 1) 0 8 (nI (fl + 1)), false, ?_, ?_⟩, ?_, ?_, fun b hb => ?_, u2, ?_, fun b hb => ⟨hu _ _ _ (by omega) (by omega) (by omega) (by omega) (by omega), hu _ _ _ (by omega) (by omega) (by omega) (by omega) (by omega)⟩, fun i => hu _ _ _ (by omega) (by omega) (by omega) (by omega) (by omega), Or.inl (hu _ _ _ (by omega) (by omega) (by omega) (by omega) (by omega)), fun b i hi => hu _ _ _ (by omega) (by omega) (by omega) (by omega) (by omega)⟩
      · unfold sX5_endSending
        rw [htell, hhb]
        simp (disch := omega) only [zl, zm, nI_add, pk_mul, inb_t, ix_n, gd_tt, bd_e, nm_v, ite_not, ↓reduceIte, le_t, le_f, lt_t, lt_f, eq_t, eq_f, mone_f, mone_f2, Bool.toNat_false, gI_pI, gL_pL, gI_pL, gL_pI, qe, qn, not_true_eq_false, not_false_eq_true, true_and, and_true, false_and, and_false, and_self, Nat.add_right_cancel_iff, xo, h8, w13]
        try rfl
      · exact j1
      · rw [hends]
        unfold sX8_ends_b122
        simp (disch := omega) only [zl, zm, nI_add, pk_mul, inb_t, ix_n, gd_tt, bd_e, nm_v, ite_not, ↓reduceIte, le_t, le_f, lt_t, lt_f, eq_t, eq_f, mone_f, mone_f2, Bool.toNat_false, gI_pI, gL_pL, gI_pL, gL_pI, qe, qn, not_true_eq_false, not_false_eq_true, true_and, and_true, false_and, and_false, and_self, Nat.add_right_cancel_iff, yo, hy02, u1]
      · obtain ⟨⟨c, w, tr, sn, v1, v2, v3, v4, v5, v6, v7⟩, j4, j5⟩ := j3
        exact ⟨⟨c, w, tr, sn, v1, v2, v3, v4, by omega, by omega, v7⟩, j4, j5⟩
      · rw [c_wait_o j1 hb, bv_ne hb, xo _ _ _ (by omega) (by omega)]
      · have h9 := hIT.step (Y' := Y') (dw := 0) (du := 0) hk (by omega) hfr hs4 (by rw [u4]; decide) (fun z => by rw [u4] at z; exact absurd z (by decide)) (by rw [add0, hu _ _ _ (by omega) (by omega) (by omega) (by omega) (by omega), yo _ _ _ (by omega) (by omega)]) (by rw [add0, hu _ _ _ (by omega) (by omega) (by omega) (by omega) (by omega), yo _ _ _ (by omega) (by omega)]) (by rw [add0, hu _ _ _ (by omega) (by omega) (by omega) (by omega) (by omega), yo _ _ _ (by omega) (by omega)]) (by rw [add0, hu _ _ _ (by omega) (by omega) (by omega) (by omega) (by omega), yo _ _ _ (by omega) (by omega)])
        obtain ⟨i1, i2, W, U, i3, i4, i5, i6⟩ := h9
        exact ⟨i1, i2, W, U, i3, i4, i5, by omega⟩
    · have hR : WR n t cm wl (wm + 1) true 99 _ _ := (r_up hW hk).up (Nat.le_refl _) (Nat.le_succ _) w4 hwm
      obtain ⟨Y', u1, u2⟩ := y_done (n := n) (k := k) (dw := 0) (du := 1) (v := nI (fl + 1)) (Z := yT Y k n) (Or.inr ⟨rfl, rfl⟩) (fun _ => by rw [yo _ _ _ (by omega) (by omega), hy02]; exact nI_le (by omega) (by omega))
      have hXD : XD k 0 1 (xT x k n) (pI (pI (pI (pI (pI (xT x k n) (k + 1) 0 12 (gI (xT x k n) (k + 1) 0 12 + nI 1)) 0 0 8 (gI (xT x k n) 0 0 8 + nI 1)) (k + 1) 0 6 (nI 0)) (k + 1) 0 7 (nI 0)) (k + 1) 0 8 (nI 0)) := by
        refine ⟨fun o j i h1 h2 => ?_, ?_, ?_, ?_, ?_, ?_, ?_, ?_⟩
        · repeat rw [gI_pI, if_neg (by omega)]
        all_goals simp (disch := omega) only [gI_pI, gL_pL, gI_pL, gL_pI, qe, qn, not_true_eq_false, not_false_eq_true, true_and, and_true, false_and, and_false, and_self, Nat.add_right_cancel_iff, ↓reduceIte, add0]
      have hXY := hXT.done hk hXD u2
      obtain ⟨v0, v5, v6, v7, v8, v9, v04, v05⟩ := u2
      refine ⟨_, _, Y', ⟨_, true, ?_, rfl⟩, ?_, hR, fun b hb => ?_, FY.of hR hXY, ?_, fun b hb => ⟨?_, ?_⟩, fun i => ?_, Or.inl ?_, fun b i hi => ?_⟩
      · unfold sX5_endSending sX0_fallAsleep
        rw [htell, hhb]
        have hch : pI (pI (pI (pI (pI (pI (xT x k n) (k + 1) 0 8 (nI (fl + 1))) (k + 1) 0 12 (gI x (k + 1) 0 12 + nI 1)) 0 0 8 (gI x 0 0 8 + nI 1)) (k + 1) 0 6 (nI 0)) (k + 1) 0 7 (nI 0)) (k + 1) 0 8 (nI 0) = pI (pI (pI (pI (pI (xT x k n) (k + 1) 0 12 (gI (xT x k n) (k + 1) 0 12 + nI 1)) 0 0 8 (gI (xT x k n) 0 0 8 + nI 1)) (k + 1) 0 6 (nI 0)) (k + 1) 0 7 (nI 0)) (k + 1) 0 8 (nI 0) := by
          rw [xo _ _ _ (by omega) (by omega), xo _ _ _ (by omega) (by omega)]
          refine Prod.ext (funext fun o => funext fun j => funext fun i => ?_) rfl
          show gI (pI _ _ _ _ _) o j i = gI (pI _ _ _ _ _) o j i
          simp only [gI_pI]
          by_cases hz : o = k + 1 ∧ j = 0 ∧ i = 8
          · rw [if_pos hz, if_pos hz]
          · simp only [if_neg hz]
        simp (disch := omega) only [zl, zm, nI_add, pk_mul, inb_t, ix_n, gd_tt, bd_e, nm_v, ite_not, ↓reduceIte, le_t, le_f, lt_t, lt_f, eq_t, eq_f, mone_f, mone_f2, Bool.toNat_false, gI_pI, gL_pL, gI_pL, gL_pI, qe, qn, not_true_eq_false, not_false_eq_true, true_and, and_true, false_and, and_false, and_self, Nat.add_right_cancel_iff, xo, h8, w13]
        rw [hch, xo _ _ _ (by omega) (by omega), xo _ _ _ (by omega) (by omega)]
        rfl
      · rw [hends]; exact u1
      · rw [bv_ne hb, bv_ne hb, bv_ne hb, bv_0, bv_ne hb, xo _ _ _ (by omega) (by omega)]
      · have h9 := hIT.step (Y' := Y') (dw := 0) (du := 1) hk (by omega) (fun o j i q1 q2 q3 => v0 o j i (by omega) (by omega)) hs4 (by rw [v5]; decide) (fun _ => v6) v8 v9 v04 v05
        obtain ⟨i1, i2, W, U, i3, i4, i5, i6⟩ := h9
        exact ⟨i1, i2, W, U, i3, i4, i5, by omega⟩
      · rw [v0 _ _ _ (by omega) (by omega), yo _ _ _ (by omega) (by omega)]
      · rw [v0 _ _ _ (by omega) (by omega), yo _ _ _ (by omega) (by omega)]
      · rw [v0 _ _ _ (by omega) (by omega), yo _ _ _ (by omega) (by omega)]
      · rw [v8, add0, yo _ _ _ (by omega) (by omega)]
      · rw [v0 _ _ _ (by omega) (by omega), yo _ _ _ (by omega) (by omega)]
  · have hhb : hB x k n = true := a4.mpr hE
    rw [hhb, if_pos rfl] at hends
    obtain ⟨g, j1, j2⟩ := m_well (m := x) hn (f := eF f k n) (by rw [eF_o (by omega)]; exact h.fn) (by rw [eF_o (by omega)]; exact h.ft) hk (by rw [eF_o (by omega)]; exact a1) a2
    have hW := a3 g j2
    have hR := r_well hW hk (w := w') (by rw [xo _ _ _ (by omega) (by omega)]; exact w12) w5 hwm
    obtain ⟨Y', u1, u2⟩ := y_done (n := n) (k := k) (dw := 1) (du := 0) (v := nI 0) (Z := yT Y k n) (Or.inl ⟨rfl, rfl⟩) (fun z => by omega)
    have hXD : XD k 1 0 (xT x k n) (pI (pI (pI (pI (pI (xT x k n) (k + 1) 0 11 (gI (xT x k n) (k + 1) 0 11 + nI 1)) 0 0 7 (nI (w' + 1))) (k + 1) 0 6 (nI 0)) (k + 1) 0 7 (nI 0)) (k + 1) 0 8 (nI 0)) := by
      refine ⟨fun o j i h1 h2 => ?_, ?_, ?_, ?_, ?_, ?_, ?_, ?_⟩
      · repeat rw [gI_pI, if_neg (by omega)]
      all_goals simp (disch := omega) only [gI_pI, gL_pL, gI_pL, gL_pI, qe, qn, not_true_eq_false, not_false_eq_true, true_and, and_true, false_and, and_false, and_self, Nat.add_right_cancel_iff, ↓reduceIte, add0]
      rw [xo _ _ _ (by omega) (by omega), w12, nI_add]
    have hXY := hXT.done hk hXD u2
    obtain ⟨v0, v5, v6, v7, v8, v9, v04, v05⟩ := u2
    refine ⟨_, _, Y', ⟨_, true, ?_, rfl⟩, ?_, hR, fun b hb => ?_, FY.of hR hXY, ?_, fun b hb => ⟨?_, ?_⟩, fun i => ?_, Or.inr ⟨?_, v5⟩, fun b i hi => ?_⟩
    · unfold sX5_endSending sX0_fallAsleep
      rw [htell, hhb]
      simp (disch := omega) only [zl, zm, nI_add, pk_mul, inb_t, ix_n, gd_tt, bd_e, nm_v, ite_not, ↓reduceIte, le_t, le_f, lt_t, lt_f, eq_t, eq_f, mone_f, mone_f2, Bool.toNat_true, gI_pI, gL_pL, gI_pL, gL_pI, qe, qn, not_true_eq_false, not_false_eq_true, true_and, and_true, false_and, and_false, and_self, Nat.add_right_cancel_iff, xo, w12]
      try rfl
    · rw [hends]; exact u1
    · rw [bv_ne hb, bv_ne hb, bv_ne hb, bv_0, bv_ne hb, xo _ _ _ (by omega) (by omega)]
    · exact hIT.step (Y' := Y') (dw := 1) (du := 0) hk (by omega) (fun o j i q1 q2 q3 => v0 o j i (by omega) (by omega)) hs4 (by rw [v5]; decide) (fun _ => v6) v8 v9 v04 v05
    · rw [v0 _ _ _ (by omega) (by omega), yo _ _ _ (by omega) (by omega)]
    · rw [v0 _ _ _ (by omega) (by omega), yo _ _ _ (by omega) (by omega)]
    · rw [v0 _ _ _ (by omega) (by omega), yo _ _ _ (by omega) (by omega)]
    · rw [v8, yo _ _ _ (by omega) (by omega)]
    · rw [v0 _ _ _ (by omega) (by omega), yo _ _ _ (by omega) (by omega)]
end
