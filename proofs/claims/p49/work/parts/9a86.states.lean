/-! stage B: all beacons change their states and pay, in step -/
section
variable {n t cm wl wm e k b : Nat} {q : Bool} {x x' m : St} {f f' : Nat → Int32}
theorem s_change (h : WR n t cm wl wm false 99 x f) (hk : k < n) : ∃ x' f', (∀ F, sX5_changeStates_b2 (F + 1) x (nI k) = sX5_changeStates_b2 F x' (nI (k + 1))) ∧ (∀ F, sX7_slot_b12 (F + 1) (sr m f) (nI k) = sX7_slot_b12 F (sr m f') (nI (k + 1))) ∧ WR n t cm wl wm false 99 x' f' := by
  have hn := h.n8
  have hxn := h.xn
  have hxt := h.xt
  have hfn := h.fn
  obtain ⟨⟨d0, d00⟩, d1, d2, d3, d4, d5, d6, d7, d8, d9, d10, d11, d12, d13, d14, d15⟩ := h.bd hk
  obtain ⟨p, g, l, s, en, st, lf, fl, a, sk, h1, h2, h3, h4, h5, h6, h7, h8, h9, h10, h11, h12⟩ := h.bk hk
  rcases (by omega : st = 0 ∨ st = 1 ∨ st = 2 ∨ st = 3 ∨ st = 4) with rfl | rfl | rfl | rfl | rfl
  · obtain ⟨x', f', e1, e2, e3⟩ := l_wake (m := m) h hk h1 h2 (by omega) (by omega) (by omega)
    have hdue := c_due h1 h2 (by omega) (by omega) (by omega) (t := t) (by have := h.tl; omega)
    rw [hdue] at e1
    refine ⟨x', f', fun F => ?_, fun F => ?_, e3⟩
    · simp only [sX5_changeStates_b2]
      rw [hxn, hxt]
      cases hd : dueB t g p with
      | false =>
        rw [hd] at e1
        simp only [bd_e, Bool.toNat_false] at e1
        have e4 : some x = some x' := e1
        rw [← Option.some.inj e4]
        simp (disch := omega) only [zl, zm, nI_add, pk_mul, inb_t, ix_n, gd_tt, bd_e, nm_v, ite_not, ↓reduceIte, le_t, le_f, lt_t, lt_f, eq_t, eq_f, mone_f, mone_f2, h6, hdue, hd, Bool.toNat_false]
      | true =>
        rw [hd] at e1
        simp only [bd_e, Bool.toNat_true] at e1
        have e4 : sX5_wakeOrSkip (k + 1) x = some x' := e1
        simp (disch := omega) only [zl, zm, nI_add, pk_mul, inb_t, ix_n, gd_tt, bd_e, nm_v, ite_not, ↓reduceIte, le_t, le_f, lt_t, lt_f, eq_t, eq_f, mone_f, mone_f2, h6, hdue, hd, Bool.toNat_true, e4]
    · simp only [sX7_slot_b12, sX7_changes, zl]
      simp (disch := omega) only [zl, zm, nI_add, pk_mul, inb_t, ix_n, gd_tt, bd_e, nm_v, ite_not, ↓reduceIte, le_t, le_f, lt_t, lt_f, eq_t, eq_f, mone_f, mone_f2, sr_row, hfn, m_isAt _ rfl, m_of, d6, h6, decide_false, Bool.toNat_false, e2]
  · obtain ⟨lf', j1, j2, j3, j4⟩ := l_left h hk h6 (by omega) (by omega)
    have hth := m_through (m := m) h hk (by omega) j3
    by_cases h0 : lf' = 0
    · subst h0
      rw [if_pos rfl] at j4
      obtain ⟨x', f', e1, e2, e3⟩ := l_wait (m := m) j4 hk (Or.inr rfl)
      refine ⟨x', f', fun F => ?_, fun F => ?_, e3⟩
      · simp only [sX5_changeStates_b2]
        rw [hxn]
        simp (disch := omega) only [zl, zm, nI_add, pk_mul, inb_t, ix_n, gd_tt, bd_e, nm_v, ite_not, ↓reduceIte, le_t, le_f, lt_t, lt_f, eq_t, eq_f, mone_f, mone_f2, h6, j1, zs, gI_pI, gL_pL, gI_pL, gL_pI, qe, qn, not_true_eq_false, not_false_eq_true, true_and, and_true, false_and, and_false, and_self, Nat.add_right_cancel_iff, Nat.add_sub_cancel, e1]
      · simp only [sX7_slot_b12, sX7_changes, zl]
        simp (disch := omega) only [zl, zm, nI_add, pk_mul, inb_t, ix_n, gd_tt, bd_e, nm_v, ite_not, ↓reduceIte, le_t, le_f, lt_t, lt_f, eq_t, eq_f, mone_f, mone_f2, sr_row, hfn, m_isAt _ rfl, m_of, d6, h6, decide_false, Bool.toNat_false, hth, decide_true, Bool.toNat_true, e2]
    · rw [if_neg h0] at j4
      refine ⟨_, _, fun F => ?_, fun F => ?_, j4⟩
      · simp only [sX5_changeStates_b2]
        rw [hxn]
        simp (disch := omega) only [zl, zm, nI_add, pk_mul, inb_t, ix_n, gd_tt, bd_e, nm_v, ite_not, ↓reduceIte, le_t, le_f, lt_t, lt_f, eq_t, eq_f, mone_f, mone_f2, h6, j1, zs, gI_pI, gL_pL, gI_pL, gL_pI, qe, qn, not_true_eq_false, not_false_eq_true, true_and, and_true, false_and, and_false, and_self, Nat.add_right_cancel_iff, Nat.add_sub_cancel]
      · simp only [sX7_slot_b12, sX7_changes, zl]
        simp (disch := omega) only [zl, zm, nI_add, pk_mul, inb_t, ix_n, gd_tt, bd_e, nm_v, ite_not, ↓reduceIte, le_t, le_f, lt_t, lt_f, eq_t, eq_f, mone_f, mone_f2, sr_row, hfn, m_isAt _ rfl, m_of, d6, h6, decide_false, Bool.toNat_false, hth, decide_eq_false h0]
  · have hsn : f 12 = gI x 0 0 10 := by
      obtain ⟨c, w, tr, sn, w1, w2, w3, w4, w5, w6, w7, w8, w9, w10, w11, w12, w13, w14, w15, w16, w17, w18, w19, w20, w21, w22, w23, w24, w25⟩ := h.1
      exact w24
    by_cases hz : gI x (k + 1) 0 10 &&& gI x 0 0 10 = nI 0
    · obtain ⟨lf', j1, j2, j3, j4⟩ := l_left h hk h6 (by omega) (by omega)
      have hth := m_through (m := m) h hk (by omega) j3
      by_cases h0 : lf' = 0
      · subst h0
        rw [if_pos rfl] at j4
        obtain ⟨x', f', e1, e2, e3⟩ := l_send (m := m) j4 hk (Or.inr rfl)
        refine ⟨x', f', fun F => ?_, fun F => ?_, e3⟩
        · simp only [sX5_changeStates_b2, sX5_waitOn]
          rw [hxn]
          simp (disch := omega) only [zl, zm, nI_add, pk_mul, inb_t, ix_n, gd_tt, bd_e, nm_v, ite_not, ↓reduceIte, le_t, le_f, lt_t, lt_f, eq_t, eq_f, mone_f, mone_f2, h6, hz, j1, zs, gI_pI, gL_pL, gI_pL, gL_pI, qe, qn, not_true_eq_false, not_false_eq_true, true_and, and_true, false_and, and_false, and_self, Nat.add_right_cancel_iff, Nat.add_sub_cancel, e1]
        · simp only [sX7_slot_b12, sX7_changes, zl]
          simp (disch := omega) only [zl, zm, nI_add, pk_mul, inb_t, ix_n, gd_tt, bd_e, nm_v, ite_not, ↓reduceIte, le_t, le_f, lt_t, lt_f, eq_t, eq_f, mone_f, mone_f2, sr_row, hfn, m_isAt _ rfl, m_of, d6, h6, decide_false, Bool.toNat_false, d0, hsn, hz, hth, decide_true, Bool.toNat_true, e2]
      · rw [if_neg h0] at j4
        refine ⟨_, _, fun F => ?_, fun F => ?_, j4⟩
        · simp only [sX5_changeStates_b2, sX5_waitOn]
          rw [hxn]
          simp (disch := omega) only [zl, zm, nI_add, pk_mul, inb_t, ix_n, gd_tt, bd_e, nm_v, ite_not, ↓reduceIte, le_t, le_f, lt_t, lt_f, eq_t, eq_f, mone_f, mone_f2, h6, hz, j1, zs, gI_pI, gL_pL, gI_pL, gL_pI, qe, qn, not_true_eq_false, not_false_eq_true, true_and, and_true, false_and, and_false, and_self, Nat.add_right_cancel_iff, Nat.add_sub_cancel]
        · simp only [sX7_slot_b12, sX7_changes, zl]
          simp (disch := omega) only [zl, zm, nI_add, pk_mul, inb_t, ix_n, gd_tt, bd_e, nm_v, ite_not, ↓reduceIte, le_t, le_f, lt_t, lt_f, eq_t, eq_f, mone_f, mone_f2, sr_row, hfn, m_isAt _ rfl, m_of, d6, h6, decide_false, Bool.toNat_false, d0, hsn, hz, hth, decide_eq_false h0, Bool.toNat_false]
    · refine ⟨x, f, fun F => ?_, fun F => ?_, h⟩
      · simp only [sX5_changeStates_b2]
        rw [hxn]
        simp (disch := omega) only [zl, zm, nI_add, pk_mul, inb_t, ix_n, gd_tt, bd_e, nm_v, ite_not, ↓reduceIte, le_t, le_f, lt_t, lt_f, eq_t, eq_f, mone_f, mone_f2, h6, hz]
      · simp only [sX7_slot_b12, sX7_changes, zl]
        simp (disch := omega) only [zl, zm, nI_add, pk_mul, inb_t, ix_n, gd_tt, bd_e, nm_v, ite_not, ↓reduceIte, le_t, le_f, lt_t, lt_f, eq_t, eq_f, mone_f, mone_f2, sr_row, hfn, m_isAt _ rfl, m_of, d6, h6, decide_false, Bool.toNat_false, d0, hsn, hz]
  · refine ⟨x, f, fun F => ?_, fun F => ?_, h⟩
    · simp only [sX5_changeStates_b2]
      rw [hxn]
      simp (disch := omega) only [zl, zm, nI_add, pk_mul, inb_t, ix_n, gd_tt, bd_e, nm_v, ite_not, ↓reduceIte, le_t, le_f, lt_t, lt_f, eq_t, eq_f, mone_f, mone_f2, h6]
    · simp only [sX7_slot_b12, sX7_changes, zl]
      simp (disch := omega) only [zl, zm, nI_add, pk_mul, inb_t, ix_n, gd_tt, bd_e, nm_v, ite_not, ↓reduceIte, le_t, le_f, lt_t, lt_f, eq_t, eq_f, mone_f, mone_f2, sr_row, hfn, m_isAt _ rfl, m_of, d6, h6, decide_false, Bool.toNat_false]
  · refine ⟨x, f, fun F => ?_, fun F => ?_, h⟩
    · simp only [sX5_changeStates_b2]
      rw [hxn]
      simp (disch := omega) only [zl, zm, nI_add, pk_mul, inb_t, ix_n, gd_tt, bd_e, nm_v, ite_not, ↓reduceIte, le_t, le_f, lt_t, lt_f, eq_t, eq_f, mone_f, mone_f2, h6]
    · simp only [sX7_slot_b12, sX7_changes, zl]
      simp (disch := omega) only [zl, zm, nI_add, pk_mul, inb_t, ix_n, gd_tt, bd_e, nm_v, ite_not, ↓reduceIte, le_t, le_f, lt_t, lt_f, eq_t, eq_f, mone_f, mone_f2, sr_row, hfn, m_isAt _ rfl, m_of, d6, h6, decide_true, Bool.toNat_true]
theorem s_changes (h : WR n t cm wl wm false 99 x f) : ∃ x' f', sX5_changeStates x = some x' ∧ sX7_slot_b12 FU (sr m f) (nI 0) = sX7_slot_b44 FU (sr m f') (nI 0) ∧ WR n t cm wl wm false 99 x' f' := by
  refine lock_up n (fun _ x f => WR n t cm wl wm false 99 x f) (fun F x k => sX5_changeStates_b2 F x (nI k)) (fun F f k => sX7_slot_b12 F (sr m f) (nI k)) some (fun f => sX7_slot_b44 FU (sr m f) (nI 0)) (fun F x f h => ?_) (fun F x f h => ?_) (fun k x f hk h => s_change h hk) n 0 FU FU x f (by omega) (FU_lt (by have := h.n8; omega)) (FU_lt (by have := h.n8; omega)) h
  · have hn := h.n8
    simp only [sX5_changeStates_b2]
    rw [h.xn]
    simp (disch := omega) only [zl, zm, nI_add, pk_mul, inb_t, ix_n, gd_tt, bd_e, nm_v, ite_not, ↓reduceIte, le_t, le_f, lt_t, lt_f, eq_t, eq_f, mone_f, mone_f2]
  · have hn := h.n8
    simp only [sX7_slot_b12]
    simp (disch := omega) only [zl, zm, nI_add, pk_mul, inb_t, ix_n, gd_tt, bd_e, nm_v, ite_not, ↓reduceIte, le_t, le_f, lt_t, lt_f, eq_t, eq_f, mone_f, mone_f2, sr_row, h.fn]
theorem s_pay (h : WR n t cm wl wm false 99 x f) (hk : k < n) : ∃ x' f', (∀ F, sX5_payForStates_b2 (F + 1) x (nI k) = sX5_payForStates_b2 F x' (nI (k + 1))) ∧ (∀ F, sX7_slot_b44 (F + 1) (sr m f) (nI k) = sX7_slot_b44 F (sr m f') (nI (k + 1))) ∧ WR n t cm wl wm false 99 x' f' := by
  have hn := h.n8
  have hxn := h.xn
  have hfn := h.fn
  obtain ⟨⟨d0, d00⟩, d1, d2, d3, d4, d5, d6, d7, d8, d9, d10, d11, d12, d13, d14, d15⟩ := h.bd hk
  obtain ⟨p, g, l, s, en, st, lf, fl, a, sk, h1, h2, h3, h4, h5, h6, h7, h8, h9, h10, h11, h12⟩ := h.bk hk
  by_cases h0 : st = 4
  · subst h0
    refine ⟨x, f, fun F => ?_, fun F => ?_, h⟩
    · simp only [sX5_payForStates_b2]
      rw [hxn]
      simp (disch := omega) only [zl, zm, nI_add, pk_mul, inb_t, ix_n, gd_tt, bd_e, nm_v, ite_not, ↓reduceIte, le_t, le_f, lt_t, lt_f, eq_t, eq_f, mone_f, mone_f2, h6]
    · simp only [sX7_slot_b44, zl]
      simp (disch := omega) only [zl, zm, nI_add, pk_mul, inb_t, ix_n, gd_tt, bd_e, nm_v, ite_not, ↓reduceIte, le_t, le_f, lt_t, lt_f, eq_t, eq_f, mone_f, mone_f2, sr_row, hfn, m_isAt _ rfl, d6, h6, decide_true, Bool.toNat_true]
  · obtain ⟨x', f', e1, e2, e3⟩ := l_pay (m := m) h hk h6 (by omega)
    refine ⟨x', f', e1, fun F => ?_, e3⟩
    simp only [sX7_slot_b44, zl]
    simp (disch := omega) only [zl, zm, nI_add, pk_mul, inb_t, ix_n, gd_tt, bd_e, nm_v, ite_not, ↓reduceIte, le_t, le_f, lt_t, lt_f, eq_t, eq_f, mone_f, mone_f2, sr_row, hfn, m_isAt _ rfl, d6, h6, decide_false, not_false_eq_true, Bool.toNat_false, e2]
theorem s_pays (h : WR n t cm wl wm false 99 x f) : ∃ x' f', sX5_payForStates x = some x' ∧ (sX7_slot_b44 FU (sr m f) (nI 0) = bd (sX7_senders (sr m f')) fun q14 => bd (sX7_collides (sr m f') q14) fun q15 => sX7_slot_b86 FU q15 q14 (nI 0)) ∧ WR n t cm wl wm false 99 x' f' := by
  refine lock_up n (fun _ x f => WR n t cm wl wm false 99 x f) (fun F x k => sX5_payForStates_b2 F x (nI k)) (fun F f k => sX7_slot_b44 F (sr m f) (nI k)) some (fun f => bd (sX7_senders (sr m f)) fun q14 => bd (sX7_collides (sr m f) q14) fun q15 => sX7_slot_b86 FU q15 q14 (nI 0)) (fun F x f h => ?_) (fun F x f h => ?_) (fun k x f hk h => s_pay h hk) n 0 FU FU x f (by omega) (FU_lt (by have := h.n8; omega)) (FU_lt (by have := h.n8; omega)) h
  · have hn := h.n8
    simp only [sX5_payForStates_b2]
    rw [h.xn]
    simp (disch := omega) only [zl, zm, nI_add, pk_mul, inb_t, ix_n, gd_tt, bd_e, nm_v, ite_not, ↓reduceIte, le_t, le_f, lt_t, lt_f, eq_t, eq_f, mone_f, mone_f2]
  · have hn := h.n8
    simp only [sX7_slot_b44]
    simp (disch := omega) only [zl, zm, nI_add, pk_mul, inb_t, ix_n, gd_tt, bd_e, nm_v, ite_not, ↓reduceIte, le_t, le_f, lt_t, lt_f, eq_t, eq_f, mone_f, mone_f2, sr_row, h.fn]
end
