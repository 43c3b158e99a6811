section
variable {n t cm wl wm e k b : Nat} {q : Bool} {x x' m Y Y' : St} {f f' : Nat → Int32}
/-- asleep: the timer -/
theorem t_wake (h : WR n t cm wl wm false 99 x f) (y : FY n Y f) (hk : k < n) (hh : HT n t (gI Y (k + 1))) {p g : Nat} (hp : gI x (k + 1) 0 1 = nI p) (hg : gI x (k + 1) 0 2 = nI g) (hp2 : 2 ≤ p) (hp3 : p ≤ 99) (hg2 : g < p) (h6 : gI x (k + 1) 0 6 = nI 0) : ∃ x' f' Y', (bd (sX0_isDueAt (k + 1) x (nI t)) fun q5 => if q5 = 0 then some x else sX5_wakeOrSkip (k + 1) x) = some x' ∧ sX8_changes n Y 0 (nI k) = some Y' ∧ WR n t cm wl wm false 99 x' f' ∧ FY n Y' f' ∧ YT k Y Y' := by
  have hn := h.n8
  have hxn := h.xn
  have htl := h.tl
  obtain ⟨⟨d0, d00⟩, d1, d2, d3, d4, d5, d6, d7, d8, d9, d10, d11, d12, d13, d14, d15⟩ := h.bd hk
  obtain ⟨_, _, l, _, _, _, _, _, _, sk, _, _, h3, _, _, _, _, _, h9, _, _, _⟩ := h.bk hk
  obtain ⟨y0, y1, y2, y3, y4, y5, y6, y7, y8, y9, y10, y11, y12, y13, y14, y15⟩ := y.fb hk
  rw [c_due hp hg (by omega) (by omega) (by omega) (by omega)]
  have hmd := y_due (T := t) y hn hk (d1.trans hp) (d2.trans hg) (by omega) (by omega) (by omega) (by omega)
  have hyn := y_near y h hk
  have hkn := y_knowsAll y h hk hh
  have hs0 : gI Y (k + 1) 0 5 = nI 0 := y5.trans (d6.trans h6)
  have ht0 : gI Y 0 0 0 = nI t := y.1.1.trans h.ft
  have hs11 : gI Y (k + 1) 0 11 = nI sk.toNat := y11.trans (d9.trans h9)
  have hb := fun i hi => (h.2.2 k hk i hi).1
  have hpc := pcN_zero (n := n) hb
  have hpl := pcN_le (NB x k) n
  unfold sX8_changes
  simp (disch := omega) only [zl, zm, nI_add, pk_mul, inb_t, ix_n, gd_tt, bd_e, nm_v, ite_not, ↓reduceIte, le_t, le_f, lt_t, lt_f, eq_t, eq_f, mone_f, mone_f2, hs0, ht0, hmd, hyn, hkn, hs11, not_true_eq_false]
  cases hd : dueB t g p with
  | false =>
    refine ⟨x, f, Y, ?_, ?_, h, y, YC.rf, Or.inl rfl⟩
    · simp (disch := omega) only [Bool.toNat_false, zl, ↓reduceIte]
    · simp (disch := omega) only [Bool.toNat_false, ↓reduceIte, not_true_eq_false]
  | true =>
    obtain ⟨xl, fl, e1, e2, e3⟩ := l_listen (m := x) h hk (Or.inl rfl)
    obtain ⟨Yl, u1, u2, u3, u4⟩ := y_listen y hn hk (d3.trans h3) e2
    obtain ⟨e4, e5⟩ := l_skip (m := x) h hk
    obtain ⟨Ys, v1, v2, v3, v4, v5⟩ := y_skip y hn hk
    have ytl : YT k Y Yl := ⟨u3, Or.inr ⟨by rw [hs0]; decide, by rw [u4]; decide, fun z => by rw [u4] at z; exact absurd z (by decide)⟩⟩
    have yts : YT k Y Ys := ⟨v3, Or.inr ⟨by rw [hs0]; decide, by rw [v4, hs0]; decide, fun z => ⟨hs0, v5⟩⟩⟩
    have hnk := h.nb hk
    have hw37 : sX5_wakeOrSkip_b37 (k + 1) x = some xl := by
      unfold sX5_wakeOrSkip_b37
      rw [e1]; rfl
    have hand : NB x k &&& (mkS (knP x (k + 1)) n ^^^ 255) < 2 ^ 31 := Nat.lt_of_le_of_lt Nat.and_le_left (by omega)
    have h0 : (nI (NB x k) &&& (nI (mkS (knP x (k + 1)) n) ^^^ mone)) = nI (NB x k &&& (mkS (knP x (k + 1)) n ^^^ 255)) := n_not hnk.2
    rw [h.kn hk]
    unfold sX5_wakeOrSkip
    simp (disch := omega) only [Bool.toNat_true, zl, zm, eq_f, ↓reduceIte, not_false_eq_true, nI_add, inb_t, ix_n, gd_tt, hnk.1, h9, bd_e, c_known hn hxn, h0, hw37]
    by_cases hz2 : NB x k = 0
    · have hpc0 := hpc.mpr hz2
      refine ⟨xl, fl, Yl, ?_, ?_, e3, u2, ytl⟩
      · simp (disch := omega) only [eq_t, not_true_eq_false, ↓reduceIte, hz2, ite_self]
      · simp (disch := omega) only [hpc0, le_t, ↓reduceIte, u1]
    · have hpc0 : ¬ pcN (NB x k) n = 0 := fun z => hz2 (hpc.mp z)
      have hpc1 : 0 < pcN (NB x k) n := by omega
      by_cases hz3 : NB x k &&& (mkS (knP x (k + 1)) n ^^^ 255) = 0
      · cases sk with
        | true =>
          refine ⟨xl, fl, Yl, ?_, ?_, e3, u2, ytl⟩
          · simp (disch := omega) only [Bool.toNat_true, eq_f, eq_t, not_false_eq_true, ↓reduceIte, not_true_eq_false]
          · simp (disch := omega) only [Bool.toNat_true, eq_f, eq_t, not_false_eq_true, ↓reduceIte, le_f, decide_eq_true hz3, u1]
        | false =>
          refine ⟨_, _, Ys, ?_, ?_, e5, v2, yts⟩
          · simp (disch := omega) only [Bool.toNat_false, eq_t, eq_f, not_true_eq_false, not_false_eq_true, ↓reduceIte, nm_v]
          · simp (disch := omega) only [Bool.toNat_false, Bool.toNat_true, eq_f, eq_t, not_false_eq_true, not_true_eq_false, ↓reduceIte, le_f, decide_eq_true hz3, v1]
      · refine ⟨xl, fl, Yl, ?_, ?_, e3, u2, ytl⟩
        · cases sk <;> simp (disch := omega) only [Bool.toNat_false, Bool.toNat_true, eq_t, eq_f, not_true_eq_false, not_false_eq_true, ↓reduceIte]
        · simp (disch := omega) only [Bool.toNat_false, Bool.toNat_true, eq_f, eq_t, not_false_eq_true, not_true_eq_false, ↓reduceIte, le_f, decide_eq_false hz3, u1]
/-- a step of all that change their states: the class's and the law's -/
theorem t_change {u : Nat} {a1 : Int32} (h : WR n t cm wl wm false 99 x f) (y : FY n Y f) (hk : k < n) (hu : u ≤ k) (hh : HT n t (gI Y (k + 1))) : ∃ x' f' Y' u', (∀ F, sX5_changeStates_b2 (F + 1) x (nI k) = sX5_changeStates_b2 F x' (nI (k + 1))) ∧ (∀ F, sX8_slot_b17 (F + 1) n Y u a1 (nI k) = sX8_slot_b17 F n Y' u' a1 (nI (k + 1))) ∧ WR n t cm wl wm false 99 x' f' ∧ FY n Y' f' ∧ YT k Y Y' ∧ u' ≤ k + 1 := by
  have hn := h.n8
  have hxn := h.xn
  have hxt := h.xt
  obtain ⟨⟨d0, d00⟩, d1, d2, d3, d4, d5, d6, d7, d8, d9, d10, d11, d12, d13, d14, d15⟩ := h.bd hk
  obtain ⟨p, g, l, s, en, st, lf, fl, a, sk, h1, h2, h3, h4, h5, h6, h7, h8, h9, h10, h11, h12⟩ := h.bk hk
  obtain ⟨y0, y1, y2, y3, y4, y5, y6, y7, y8, y9, y10, y11, y12, y13, y14, y15⟩ := y.fb hk
  obtain ⟨sn, w2, w1, w3⟩ := h.snd
  have hst : gI Y (k + 1) 0 5 = nI st := y5.trans (d6.trans h6)
  have law : ∀ Y', st < 4 → sX8_changes n Y 0 (nI k) = some Y' → ∀ F, sX8_slot_b17 (F + 1) n Y u a1 (nI k) = sX8_slot_b17 F n Y' (u + 1) a1 (nI (k + 1)) := by
    intro Y' h4 hc F
    have hlt : ltN (u + 0) 9 = true := decide_eq_true (by omega)
    simp only [sX8_slot_b17]
    simp (disch := omega) only [zl, zm, nI_add, pk_mul, inb_t, ix_n, gd_tt, bd_e, nm_v, ite_not, ↓reduceIte, le_t, le_f, lt_t, lt_f, eq_t, eq_f, mone_f, mone_f2, hst, hc, hlt]
  have hb := fun i hi => (h.2.2 k hk i hi).1
  rcases (by omega : st = 0 ∨ st = 1 ∨ st = 2 ∨ st = 3 ∨ st = 4) with rfl | rfl | rfl | rfl | rfl
  · obtain ⟨x', f', Y', e1, e2, e3, e4, e5⟩ := t_wake h y hk hh h1 h2 (by omega) (by omega) (by omega) h6
    have hdue := c_due h1 h2 (by omega) (by omega) (by omega) (t := t) (by have := h.tl; omega)
    rw [hdue] at e1
    refine ⟨x', f', Y', u + 1, fun F => ?_, law Y' (by omega) e2, e3, e4, e5, by omega⟩
    simp only [sX5_changeStates_b2]
    rw [hxn, hxt]
    cases hd : dueB t g p with
    | false =>
      rw [hd] at e1
      simp only [bd_e, Bool.toNat_false] at e1
      have e4 : some x = some x' := e1
      rw [← Option.some.inj e4]
      simp (disch := omega) only [zl, zm, nI_add, pk_mul, inb_t, ix_n, gd_tt, bd_e, nm_v, ite_not, ↓reduceIte, le_t, le_f, lt_t, lt_f, eq_t, eq_f, mone_f, mone_f2, h6, hdue, hd, Bool.toNat_false]
    | true =>
      rw [hd] at e1
      simp only [bd_e, Bool.toNat_true] at e1
      have e4 : sX5_wakeOrSkip (k + 1) x = some x' := e1
      simp (disch := omega) only [zl, zm, nI_add, pk_mul, inb_t, ix_n, gd_tt, bd_e, nm_v, ite_not, ↓reduceIte, le_t, le_f, lt_t, lt_f, eq_t, eq_f, mone_f, mone_f2, h6, hdue, hd, Bool.toNat_true, e4]
  · obtain ⟨lf', j1, j2, j3, j4⟩ := l_left h hk h6 (by omega) (by omega)
    have yl := y_left y hn hk (nI lf')
    have hl6 : gI Y (k + 1) 0 6 = nI (lf' + 1) := y6.trans j3
    by_cases h0 : lf' = 0
    · subst h0
      rw [if_pos rfl] at j4
      obtain ⟨x', f', e1, e2, e3⟩ := l_wait (m := x) j4 hk (Or.inr rfl)
      obtain ⟨Y', u1, u2, u3, u4⟩ := y_wait (fl := fl) yl hn hk (by simp (disch := omega) only [upd_e, qn, ↓reduceIte]; exact d8.trans h8) (by omega) e2
      refine ⟨x', f', Y', u + 1, fun F => ?_, law Y' (by omega) ?_, e3, u2, ⟨(yc_p (Or.inr (Or.inl rfl))).tr u3, Or.inr ⟨by rw [hst]; decide, by rw [u4]; decide, fun z => by rw [u4] at z; exact absurd z (by decide)⟩⟩, by omega⟩
      · simp only [sX5_changeStates_b2]
        rw [hxn]
        simp (disch := omega) only [zl, zm, nI_add, pk_mul, inb_t, ix_n, gd_tt, bd_e, nm_v, ite_not, ↓reduceIte, le_t, le_f, lt_t, lt_f, eq_t, eq_f, mone_f, mone_f2, h6, j1, zs, gI_pI, gL_pL, gI_pL, gL_pI, qe, qn, not_true_eq_false, not_false_eq_true, true_and, and_true, false_and, and_false, and_self, Nat.add_right_cancel_iff, Nat.add_sub_cancel, e1]
      · unfold sX8_changes
        simp (disch := omega) only [zl, zm, nI_add, pk_mul, inb_t, ix_n, gd_tt, bd_e, nm_v, ite_not, ↓reduceIte, le_t, le_f, lt_t, lt_f, eq_t, eq_f, mone_f, mone_f2, hst, not_false_eq_true]
        refine y_busy (B := false) y h hk hst (by omega) w3 w2 rfl fun F => ?_
        simp only [sX8_changes_b93]
        simp (disch := omega) only [zl, zm, nI_add, pk_mul, inb_t, ix_n, gd_tt, bd_e, nm_v, ite_not, ↓reduceIte, le_t, le_f, lt_t, lt_f, eq_t, eq_f, mone_f, mone_f2, hst, Bool.toNat_false, hl6, zs, Nat.add_sub_cancel, gI_pI, gL_pL, gI_pL, gL_pI, qe, qn, not_true_eq_false, not_false_eq_true, true_and, and_true, false_and, and_false, and_self, Nat.add_right_cancel_iff, u1]
    · rw [if_neg h0] at j4
      refine ⟨_, _, _, u + 1, fun F => ?_, law _ (by omega) ?_, j4, yl, ⟨yc_p (Or.inr (Or.inl rfl)), Or.inr ⟨by rw [hst]; decide, by simp (disch := omega) only [gI_pI, gL_pL, gI_pL, gL_pI, qn, not_true_eq_false, not_false_eq_true, true_and, and_true, false_and, and_false, and_self, Nat.add_right_cancel_iff, ↓reduceIte, hst]; decide, fun z => by simp (disch := omega) only [gI_pI, gL_pL, gI_pL, gL_pI, qn, not_true_eq_false, not_false_eq_true, true_and, and_true, false_and, and_false, and_self, Nat.add_right_cancel_iff, ↓reduceIte, hst] at z; exact absurd z (by decide)⟩⟩, by omega⟩
      · simp only [sX5_changeStates_b2]
        rw [hxn]
        simp (disch := omega) only [zl, zm, nI_add, pk_mul, inb_t, ix_n, gd_tt, bd_e, nm_v, ite_not, ↓reduceIte, le_t, le_f, lt_t, lt_f, eq_t, eq_f, mone_f, mone_f2, h6, j1, zs, gI_pI, gL_pL, gI_pL, gL_pI, qe, qn, not_true_eq_false, not_false_eq_true, true_and, and_true, false_and, and_false, and_self, Nat.add_right_cancel_iff, Nat.add_sub_cancel]
      · unfold sX8_changes
        simp (disch := omega) only [zl, zm, nI_add, pk_mul, inb_t, ix_n, gd_tt, bd_e, nm_v, ite_not, ↓reduceIte, le_t, le_f, lt_t, lt_f, eq_t, eq_f, mone_f, mone_f2, hst, not_false_eq_true]
        refine y_busy (B := false) y h hk hst (by omega) w3 w2 rfl fun F => ?_
        simp only [sX8_changes_b93]
        simp (disch := omega) only [zl, zm, nI_add, pk_mul, inb_t, ix_n, gd_tt, bd_e, nm_v, ite_not, ↓reduceIte, le_t, le_f, lt_t, lt_f, eq_t, eq_f, mone_f, mone_f2, hst, Bool.toNat_false, hl6, zs, Nat.add_sub_cancel]
  · have hz9 := bz_and (s := sn) (n := n) hb
    have hnk := h.nb hk
    have hand : NB x k &&& sn < 2 ^ 31 := Nat.lt_of_le_of_lt Nat.and_le_left (by omega)
    have hzz : (gI x (k + 1) 0 10 &&& gI x 0 0 10 = nI 0) ↔ NB x k &&& sn = 0 := by
      rw [hnk.1, w1, n_and, nI_eq hand (by omega)]
    by_cases hz : NB x k &&& sn = 0
    · obtain ⟨lf', j1, j2, j3, j4⟩ := l_left h hk h6 (by omega) (by omega)
      have yl := y_left y hn hk (nI lf')
      have hl6 : gI Y (k + 1) 0 6 = nI (lf' + 1) := y6.trans j3
      have hbz := hz9.mpr hz
      have hzc := hzz.mpr hz
      by_cases h0 : lf' = 0
      · subst h0
        rw [if_pos rfl] at j4
        obtain ⟨x', f', e1, e2, e3⟩ := l_send (m := x) j4 hk (Or.inr rfl)
        have hs3 : upd f (21 + 43 * k + 6) (nI 0) (21 + 43 * k + 3) = nI s := by simp (disch := omega) only [upd_e, qn, ↓reduceIte]; exact d4.trans h4
        have u2 := y_send yl hn hk hs3 e2
        refine ⟨x', f', _, u + 1, fun F => ?_, law _ (by omega) ?_, e3, u2, ⟨(yc_p (Or.inr (Or.inl rfl))).tr ((yc_p (Or.inl rfl)).tr ((yc_p (Or.inr (Or.inl rfl))).tr yc_z)), Or.inr ⟨by rw [hst]; decide, by simp (disch := omega) only [zR_g, gI_pI, gL_pL, gI_pL, gL_pI, qn, qe, not_true_eq_false, not_false_eq_true, true_and, and_true, false_and, and_false, and_self, Nat.add_right_cancel_iff, ↓reduceIte]; decide, fun z => by simp (disch := omega) only [zR_g, gI_pI, gL_pL, gI_pL, gL_pI, qn, qe, not_true_eq_false, not_false_eq_true, true_and, and_true, false_and, and_false, and_self, Nat.add_right_cancel_iff, ↓reduceIte] at z; exact absurd z (by decide)⟩⟩, by omega⟩
        · simp only [sX5_changeStates_b2, sX5_waitOn]
          rw [hxn]
          simp (disch := omega) only [zl, zm, nI_add, pk_mul, inb_t, ix_n, gd_tt, bd_e, nm_v, ite_not, ↓reduceIte, le_t, le_f, lt_t, lt_f, eq_t, eq_f, mone_f, mone_f2, h6, hzc, j1, zs, gI_pI, gL_pL, gI_pL, gL_pI, qe, qn, not_true_eq_false, not_false_eq_true, true_and, and_true, false_and, and_false, and_self, Nat.add_right_cancel_iff, Nat.add_sub_cancel, e1]
        · unfold sX8_changes
          simp (disch := omega) only [zl, zm, nI_add, pk_mul, inb_t, ix_n, gd_tt, bd_e, nm_v, ite_not, ↓reduceIte, le_t, le_f, lt_t, lt_f, eq_t, eq_f, mone_f, mone_f2, hst, not_false_eq_true]
          refine y_busy (B := false) y h hk hst (by omega) w3 w2 (by rw [if_pos rfl]; exact hbz.symm) fun F => ?_
          have hlt : ltN 0 1 = true := by decide
          simp only [sX8_changes_b93]
          simp (disch := omega) only [zl, zm, nI_add, pk_mul, inb_t, ix_n, gd_tt, bd_e, nm_v, ite_not, ↓reduceIte, le_t, le_f, lt_t, lt_f, eq_t, eq_f, mone_f, mone_f2, hst, Bool.toNat_false, hl6, zs, Nat.add_sub_cancel, gI_pI, gL_pL, gI_pL, gL_pI, qe, qn, not_true_eq_false, not_false_eq_true, true_and, and_true, false_and, and_false, and_self, Nat.add_right_cancel_iff, not_false_eq_true, y3, d4, h4, hlt]
      · rw [if_neg h0] at j4
        refine ⟨_, _, _, u + 1, fun F => ?_, law _ (by omega) ?_, j4, yl, ⟨yc_p (Or.inr (Or.inl rfl)), Or.inr ⟨by rw [hst]; decide, by simp (disch := omega) only [gI_pI, gL_pL, gI_pL, gL_pI, qn, not_true_eq_false, not_false_eq_true, true_and, and_true, false_and, and_false, and_self, Nat.add_right_cancel_iff, ↓reduceIte, hst]; decide, fun z => by simp (disch := omega) only [gI_pI, gL_pL, gI_pL, gL_pI, qn, not_true_eq_false, not_false_eq_true, true_and, and_true, false_and, and_false, and_self, Nat.add_right_cancel_iff, ↓reduceIte, hst] at z; exact absurd z (by decide)⟩⟩, by omega⟩
        · simp only [sX5_changeStates_b2, sX5_waitOn]
          rw [hxn]
          simp (disch := omega) only [zl, zm, nI_add, pk_mul, inb_t, ix_n, gd_tt, bd_e, nm_v, ite_not, ↓reduceIte, le_t, le_f, lt_t, lt_f, eq_t, eq_f, mone_f, mone_f2, h6, hzc, j1, zs, gI_pI, gL_pL, gI_pL, gL_pI, qe, qn, not_true_eq_false, not_false_eq_true, true_and, and_true, false_and, and_false, and_self, Nat.add_right_cancel_iff, Nat.add_sub_cancel]
        · unfold sX8_changes
          simp (disch := omega) only [zl, zm, nI_add, pk_mul, inb_t, ix_n, gd_tt, bd_e, nm_v, ite_not, ↓reduceIte, le_t, le_f, lt_t, lt_f, eq_t, eq_f, mone_f, mone_f2, hst, not_false_eq_true]
          refine y_busy (B := false) y h hk hst (by omega) w3 w2 (by rw [if_pos rfl]; exact hbz.symm) fun F => ?_
          simp only [sX8_changes_b93]
          simp (disch := omega) only [zl, zm, nI_add, pk_mul, inb_t, ix_n, gd_tt, bd_e, nm_v, ite_not, ↓reduceIte, le_t, le_f, lt_t, lt_f, eq_t, eq_f, mone_f, mone_f2, hst, Bool.toNat_false, hl6, zs, Nat.add_sub_cancel]
    · have hzc : ¬ gI x (k + 1) 0 10 &&& gI x 0 0 10 = nI 0 := fun z => hz (hzz.mp z)
      have hbz : bzN (NB x k) sn n = true := by
        cases hb9 : bzN (NB x k) sn n
        · exact absurd (hz9.mp hb9) hz
        · rfl
      refine ⟨x, f, Y, u + 1, fun F => ?_, law _ (by omega) ?_, h, y, ⟨YC.rf, Or.inl rfl⟩, by omega⟩
      · simp only [sX5_changeStates_b2]
        rw [hxn]
        simp (disch := omega) only [zl, zm, nI_add, pk_mul, inb_t, ix_n, gd_tt, bd_e, nm_v, ite_not, ↓reduceIte, le_t, le_f, lt_t, lt_f, eq_t, eq_f, mone_f, mone_f2, h6, hzc]
      · unfold sX8_changes
        simp (disch := omega) only [zl, zm, nI_add, pk_mul, inb_t, ix_n, gd_tt, bd_e, nm_v, ite_not, ↓reduceIte, le_t, le_f, lt_t, lt_f, eq_t, eq_f, mone_f, mone_f2, hst, not_false_eq_true]
        refine y_busy (B := true) y h hk hst (by omega) w3 w2 (by rw [if_pos rfl]; exact hbz.symm) fun F => ?_
        simp only [sX8_changes_b93]
        simp (disch := omega) only [zl, zm, nI_add, pk_mul, inb_t, ix_n, gd_tt, bd_e, nm_v, ite_not, ↓reduceIte, le_t, le_f, lt_t, lt_f, eq_t, eq_f, mone_f, mone_f2, hst, Bool.toNat_true, not_false_eq_true]
  · refine ⟨x, f, Y, u + 1, fun F => ?_, law _ (by omega) ?_, h, y, ⟨YC.rf, Or.inl rfl⟩, by omega⟩
    · simp only [sX5_changeStates_b2]
      rw [hxn]
      simp (disch := omega) only [zl, zm, nI_add, pk_mul, inb_t, ix_n, gd_tt, bd_e, nm_v, ite_not, ↓reduceIte, le_t, le_f, lt_t, lt_f, eq_t, eq_f, mone_f, mone_f2, h6]
    · unfold sX8_changes
      simp (disch := omega) only [zl, zm, nI_add, pk_mul, inb_t, ix_n, gd_tt, bd_e, nm_v, ite_not, ↓reduceIte, le_t, le_f, lt_t, lt_f, eq_t, eq_f, mone_f, mone_f2, hst, not_false_eq_true]
      refine y_busy (B := false) y h hk hst (by omega) w3 w2 rfl fun F => ?_
      simp only [sX8_changes_b93]
      simp (disch := omega) only [zl, zm, nI_add, pk_mul, inb_t, ix_n, gd_tt, bd_e, nm_v, ite_not, ↓reduceIte, le_t, le_f, lt_t, lt_f, eq_t, eq_f, mone_f, mone_f2, hst]
  · refine ⟨x, f, Y, u, fun F => ?_, fun F => ?_, h, y, ⟨YC.rf, Or.inl rfl⟩, by omega⟩
    · simp only [sX5_changeStates_b2]
      rw [hxn]
      simp (disch := omega) only [zl, zm, nI_add, pk_mul, inb_t, ix_n, gd_tt, bd_e, nm_v, ite_not, ↓reduceIte, le_t, le_f, lt_t, lt_f, eq_t, eq_f, mone_f, mone_f2, h6]
    · simp only [sX8_slot_b17]
      simp (disch := omega) only [zl, zm, nI_add, pk_mul, inb_t, ix_n, gd_tt, bd_e, nm_v, ite_not, ↓reduceIte, le_t, le_f, lt_t, lt_f, eq_t, eq_f, mone_f, mone_f2, hst]
end
