/-! stage B: a slot, and some slots, in step -/
section
variable {m x x' : St} {f f' g : Nat → Int32} {n S b k o t cm wl wm e : Nat} {q : Bool}
theorem WR.up {cm' wm' : Nat} (h : WR n t cm wl wm q e x f) (h1 : cm ≤ cm') (h2 : wm ≤ wm') (h3 : cm' ≤ 1600000) (h4 : wm' ≤ 1600000) : WR n t cm' wl wm' q e x f := by
  obtain ⟨⟨c, w, tr, sn, v1, v2, v3, v4, v5, v6, v7⟩, j4, j5⟩ := h
  exact ⟨⟨c, w, tr, sn, v1, v2, by omega, h3, by omega, h4, v7⟩, j4, j5⟩
/-- a sending's last slot -/
theorem s_through (h : WR n t cm wl wm true k x f) (hk : k < n) (h3 : gI x (k + 1) 0 6 = nI 3) (hwm : wm + 1 ≤ 1600000) : ∃ x' f', (∃ y r, sX5_endSending (k + 1) x (nI k) = some (y, nI r.toNat) ∧ (if r = true then x' = y else sX5_waitByDraw (k + 1) y = some x')) ∧ sX7_ends (sr m f) (nI k) = some (sr m f') ∧ WR n t cm wl (wm + 1) true 99 x' f' ∧ ∀ b, ¬ b = k → gI x' (b + 1) 0 6 = gI x (b + 1) 0 6 := by
  have hn := h.n8
  obtain ⟨a, a1, a2, a3, a4⟩ := r_tell h hk h3
  have htell := c_tell hn h.xn hk
  have hends := m_ends (m := m) hn h.fn hk
  obtain ⟨F, hF⟩ : ∃ F, FU - n = F + 1 := ⟨FU - n - 1, by have : FU = 1000000 := rfl; omega⟩
  rw [hF] at hends
  have e0 : eF f k n 0 = nI n := by rw [eF_o (by omega)]; exact h.fn
  have e1 : eF f k n 1 = nI t := by rw [eF_o (by omega)]; exact h.ft
  have e9 : eF f k n (21 + 43 * k + 9) = nI a := by rw [eF_o (by omega)]; exact a1
  have e7 : eF f k n (21 + 43 * k + 7) = f (21 + 43 * k + 7) := eF_o (by omega)
  have e2 : eF f k n 2 = f 2 := eF_o (by omega)
  have hears := m_earsOf (m := m) hn e0 hk e9
  have hE8 : a &&& (2 ^ n - 1) < 256 := and_lt8 _ a2
  obtain ⟨c, w', tr, sn, w1, w2, w3, w4, w5, w6, w7, w8, w9, w10, w11, w12, w13, w14, w15, w16, w17, w18, w19, w20, w21, w22, w23, w24, w25⟩ := h.1
  obtain ⟨⟨d0, d00⟩, d1, d2, d3, d4, d5, d6, d7, d8, d9, d10, d11, d12, d13, d14, d15⟩ := h.bd hk
  obtain ⟨p, g1, l, s, en, st, lf, fl, a', sk, h1, h2, h3', h4, h5, h6, h7, h8, h9, h10, h11, h12⟩ := h.bk hk
  have xo : ∀ o j i, ¬ j = 4 → ¬ j = 2 → gI (xT x k n) o j i = gI x o j i := fun o j i h4 h2 => xT_o h4 h2
  by_cases hE : a &&& (2 ^ n - 1) = 0
  · have hhb : hB x k n = false := by
      cases hc : hB x k n with
      | false => rfl
      | true => exact absurd hE (a4.mp hc)
    have hW := a3 (eF f k n) ⟨fun _ _ => rfl, fun o ho => by rw [if_neg (fun z => by rw [hE, Nat.zero_testBit] at z; cases z.2)]⟩
    by_cases hfl : fl + 1 < tr
    · have hW2 := r_fail hW hk (fl := fl + 1) (by omega)
      obtain ⟨x', f', j1, j2, j3⟩ := l_wait (m := m) hW2 hk (Or.inr rfl)
      refine ⟨x', f', ⟨pI (xT x k n) (k + 1) 0 8 (nI (fl + 1)), false, ?_, ?_⟩, ?_, ?_, fun b hb => ?_⟩
      · unfold sX5_endSending
        rw [htell, hhb]
        simp (disch := omega) only [zl, zm, nI_add, pk_mul, inb_t, ix_n, gd_tt, bd_e, nm_v, ite_not, ↓reduceIte, le_t, le_f, lt_t, lt_f, eq_t, eq_f, mone_f, mone_f2, Bool.toNat_false, gI_pI, gL_pL, gI_pL, gL_pI, qe, qn, not_true_eq_false, not_false_eq_true, true_and, and_true, false_and, and_false, and_self, Nat.add_right_cancel_iff, xo, h8, w13]
        try rfl
      · exact j1
      · rw [hends]
        simp only [sX7_ends_b2]
        simp (disch := omega) only [zl, zm, nI_add, pk_mul, inb_t, ix_n, gd_tt, bd_e, nm_v, ite_not, ↓reduceIte, le_t, le_f, lt_t, lt_f, eq_t, eq_f, mone_f, mone_f2, sr_row, e0, hears, hE, m_adds, m_of, upd_e, qe, qn, e7, d8, h8, e2, w18, w13, j2]
      · obtain ⟨⟨c, w, tr, sn, v1, v2, v3, v4, v5, v6, v7⟩, j4, j5⟩ := j3
        exact ⟨⟨c, w, tr, sn, v1, v2, v3, v4, by omega, by omega, v7⟩, j4, j5⟩
      · rw [c_wait_o j1 hb, bv_ne hb, xo _ _ _ (by omega) (by omega)]
    · have hR : WR n t cm wl (wm + 1) true 99 _ _ := (r_up hW hk).up (Nat.le_refl _) (Nat.le_succ _) w4 hwm
      refine ⟨_, _, ⟨_, true, ?_, rfl⟩, ?_, hR, fun b hb => ?_⟩
      · unfold sX5_endSending sX0_fallAsleep
        rw [htell, hhb]
        have hch : pI (pI (pI (pI (pI (pI (xT x k n) (k + 1) 0 8 (nI (fl + 1))) (k + 1) 0 12 (gI x (k + 1) 0 12 + nI 1)) 0 0 8 (gI x 0 0 8 + nI 1)) (k + 1) 0 6 (nI 0)) (k + 1) 0 7 (nI 0)) (k + 1) 0 8 (nI 0) = pI (pI (pI (pI (pI (xT x k n) (k + 1) 0 12 (gI (xT x k n) (k + 1) 0 12 + nI 1)) 0 0 8 (gI (xT x k n) 0 0 8 + nI 1)) (k + 1) 0 6 (nI 0)) (k + 1) 0 7 (nI 0)) (k + 1) 0 8 (nI 0) := by
          rw [xo _ _ _ (by omega) (by omega), xo _ _ _ (by omega) (by omega)]
          refine Prod.ext (funext fun o => funext fun j => funext fun i => ?_) rfl
          show gI (pI _ _ _ _ _) o j i = gI (pI _ _ _ _ _) o j i
          simp only [gI_pI]
          by_cases hz : o = k + 1 ∧ j = 0 ∧ i = 8
          · rw [if_pos hz, if_pos hz]
          · simp only [if_neg hz]
        simp (disch := omega) only [zl, zm, nI_add, pk_mul, inb_t, ix_n, gd_tt, bd_e, nm_v, ite_not, ↓reduceIte, le_t, le_f, lt_t, lt_f, eq_t, eq_f, mone_f, mone_f2, Bool.toNat_false, gI_pI, gL_pL, gI_pL, gL_pI, qe, qn, not_true_eq_false, not_false_eq_true, true_and, and_true, false_and, and_false, and_self, Nat.add_right_cancel_iff, xo, h8, w13]
        rw [hch, xo _ _ _ (by omega) (by omega), xo _ _ _ (by omega) (by omega)]
        rfl
      · rw [hends]
        simp only [sX7_ends_b2, sX7_givesUp, sX7_enters]
        have hch : upd (upd (upd (upd (upd (upd (eF f k n) (21 + 43 * k + 7) (nI (fl + 1))) (21 + 43 * k + 7) (nI 0)) (21 + 43 * k + 12) (eF f k n (21 + 43 * k + 12) + nI 1)) 5 (eF f k n 5 + nI 1)) (21 + 43 * k + 5) (nI 0)) (21 + 43 * k + 6) (nI 0) = upd (upd (upd (upd (upd (eF f k n) (21 + 43 * k + 7) (nI 0)) (21 + 43 * k + 12) (eF f k n (21 + 43 * k + 12) + nI 1)) 5 (eF f k n 5 + nI 1)) (21 + 43 * k + 5) (nI 0)) (21 + 43 * k + 6) (nI 0) := by rw [upd_u]
        simp (disch := omega) only [zl, zm, nI_add, pk_mul, inb_t, ix_n, gd_tt, bd_e, nm_v, ite_not, ↓reduceIte, le_t, le_f, lt_t, lt_f, eq_t, eq_f, mone_f, mone_f2, sr_row, sr_pI, e0, hears, hE, m_adds, m_of, m_sets, upd_e, qe, qn, e7, d8, h8, e2, w18, w13]
        rw [hch]
      · rw [bv_ne hb, bv_ne hb, bv_ne hb, bv_0, bv_ne hb, xo _ _ _ (by omega) (by omega)]
  · have hhb : hB x k n = true := a4.mpr hE
    obtain ⟨g, j1, j2⟩ := m_well (m := m) hn e0 e1 hk e9 a2
    have hW := a3 g j2
    have hg4 : g 4 = nI w' := by rw [j2.1 4 (fun o ho => by omega), eF_o (by omega)]; exact w20.trans w12
    refine ⟨_, _, ⟨_, true, ?_, rfl⟩, ?_, r_well hW hk (w := w') (by rw [xo _ _ _ (by omega) (by omega)]; exact w12) w5 hwm, fun b hb => ?_⟩
    · unfold sX5_endSending sX0_fallAsleep
      rw [htell, hhb]
      simp (disch := omega) only [zl, zm, nI_add, pk_mul, inb_t, ix_n, gd_tt, bd_e, nm_v, ite_not, ↓reduceIte, le_t, le_f, lt_t, lt_f, eq_t, eq_f, mone_f, mone_f2, Bool.toNat_true, gI_pI, gL_pL, gI_pL, gL_pI, qe, qn, not_true_eq_false, not_false_eq_true, true_and, and_true, false_and, and_false, and_self, Nat.add_right_cancel_iff, xo, w12]
      try rfl
    · rw [hends]
      simp only [sX7_ends_b2]
      simp (disch := omega) only [zl, zm, nI_add, pk_mul, inb_t, ix_n, gd_tt, bd_e, nm_v, ite_not, ↓reduceIte, le_t, le_f, lt_t, lt_f, eq_t, eq_f, mone_f, mone_f2, sr_row, e0, hears, hE, j1, hg4]
    · rw [bv_ne hb, bv_ne hb, bv_ne hb, bv_0, bv_ne hb, xo _ _ _ (by omega) (by omega)]
theorem s_end (h : WR n t cm wl wm true 99 x f) (hk : k < n) (hwm : wm + 1 ≤ 1600000) (hS : S < 256) (hSk : S.testBit k = true ↔ gI x (k + 1) 0 6 = nI 3) : ∃ x' f', (∀ F, sX5_endSendings_b2 (F + 1) x (nI k) = sX5_endSendings_b2 F x' (nI (k + 1))) ∧ (∀ F, sX7_slot_b126 (F + 1) (sr m f) (nI S) (nI k) = sX7_slot_b126 F (sr m f') (nI S) (nI (k + 1))) ∧ WR n t cm wl (wm + 1) true 99 x' f' ∧ ∀ b, ¬ b = k → gI x' (b + 1) 0 6 = gI x (b + 1) 0 6 := by
  have hn := h.n8
  have hxn := h.xn
  have hfn := h.fn
  have hh : sX7_has (nI S) (nI k) = some (nI (S.testBit k).toNat) := m_has (by omega) (by omega)
  have hup : ∀ {x f}, WR n t cm wl wm true 99 x f → WR n t cm wl (wm + 1) true 99 x f := fun hw => by
    obtain ⟨⟨c, w, tr, sn, v1, v2, v3, v4, v5, v6, v7⟩, j4, j5⟩ := hw
    exact ⟨⟨c, w, tr, sn, v1, v2, v3, v4, by omega, by omega, v7⟩, j4, j5⟩
  by_cases h3 : gI x (k + 1) 0 6 = nI 3
  · have hSb := hSk.mpr h3
    obtain ⟨lf, j1, j2, j3, j4⟩ := l_left h hk h3 (by omega) (by omega)
    have hth := m_through (m := m) h hk (by omega) j3
    by_cases h0 : lf = 0
    · subst h0
      rw [if_pos rfl] at j4
      obtain ⟨x', f', ⟨y, r, e1, e2⟩, e3, e4, e5⟩ := s_through (m := m) j4 hk (by rw [gI_pI, if_neg (by omega)]; exact h3) hwm
      refine ⟨x', f', fun F => ?_, fun F => ?_, e4, fun b hb => (e5 b hb).trans (by rw [bv_ne hb])⟩
      · simp only [sX5_endSendings_b2]
        rw [hxn]
        cases r with
        | true =>
          rw [if_pos rfl] at e2
          rw [e2]
          simp (disch := omega) only [zl, zm, nI_add, pk_mul, inb_t, ix_n, gd_tt, bd_e, nm_v, ite_not, ↓reduceIte, le_t, le_f, lt_t, lt_f, eq_t, eq_f, mone_f, mone_f2, h3, j1, zs, gI_pI, gL_pL, gI_pL, gL_pI, qe, qn, not_true_eq_false, not_false_eq_true, true_and, and_true, false_and, and_false, and_self, Nat.add_right_cancel_iff, Nat.add_sub_cancel, e1, Bool.toNat_true]
        | false =>
          rw [if_neg (by decide)] at e2
          simp (disch := omega) only [zl, zm, nI_add, pk_mul, inb_t, ix_n, gd_tt, bd_e, nm_v, ite_not, ↓reduceIte, le_t, le_f, lt_t, lt_f, eq_t, eq_f, mone_f, mone_f2, h3, j1, zs, gI_pI, gL_pL, gI_pL, gL_pI, qe, qn, not_true_eq_false, not_false_eq_true, true_and, and_true, false_and, and_false, and_self, Nat.add_right_cancel_iff, Nat.add_sub_cancel, e1, Bool.toNat_false, e2]
      · simp only [sX7_slot_b126]
        simp (disch := omega) only [zl, zm, nI_add, pk_mul, inb_t, ix_n, gd_tt, bd_e, nm_v, ite_not, ↓reduceIte, le_t, le_f, lt_t, lt_f, eq_t, eq_f, mone_f, mone_f2, sr_row, hfn, hh, hSb, Bool.toNat_true, hth, decide_true, e3]
    · rw [if_neg h0] at j4
      refine ⟨_, _, fun F => ?_, fun F => ?_, hup j4, fun b hb => by rw [bv_ne hb]⟩
      · simp only [sX5_endSendings_b2]
        rw [hxn]
        simp (disch := omega) only [zl, zm, nI_add, pk_mul, inb_t, ix_n, gd_tt, bd_e, nm_v, ite_not, ↓reduceIte, le_t, le_f, lt_t, lt_f, eq_t, eq_f, mone_f, mone_f2, h3, j1, zs, gI_pI, gL_pL, gI_pL, gL_pI, qe, qn, not_true_eq_false, not_false_eq_true, true_and, and_true, false_and, and_false, and_self, Nat.add_right_cancel_iff, Nat.add_sub_cancel]
      · simp only [sX7_slot_b126]
        simp (disch := omega) only [zl, zm, nI_add, pk_mul, inb_t, ix_n, gd_tt, bd_e, nm_v, ite_not, ↓reduceIte, le_t, le_f, lt_t, lt_f, eq_t, eq_f, mone_f, mone_f2, sr_row, hfn, hh, hSb, Bool.toNat_true, hth, decide_eq_false h0, Bool.toNat_false]
  · have hSb : S.testBit k = false := by
      cases hc : S.testBit k with
      | false => rfl
      | true => exact absurd (hSk.mp hc) h3
    refine ⟨x, f, fun F => ?_, fun F => ?_, hup h, fun b hb => rfl⟩
    · simp only [sX5_endSendings_b2]
      rw [hxn]
      simp (disch := omega) only [zl, zm, nI_add, pk_mul, inb_t, ix_n, gd_tt, bd_e, nm_v, ite_not, ↓reduceIte, le_t, le_f, lt_t, lt_f, eq_t, eq_f, mone_f, mone_f2, h3]
    · simp only [sX7_slot_b126]
      simp (disch := omega) only [zl, zm, nI_add, pk_mul, inb_t, ix_n, gd_tt, bd_e, nm_v, ite_not, ↓reduceIte, le_t, le_f, lt_t, lt_f, eq_t, eq_f, mone_f, mone_f2, sr_row, hfn, hh, hSb, Bool.toNat_false]
theorem s_ends (h : WR n t cm wl wm true 99 x f) (hwm : wm + n ≤ 1600000) (hS : S < 256) (hSk : ∀ b, b < n → (S.testBit b = true ↔ gI x (b + 1) 0 6 = nI 3)) : ∃ x' f', sX5_endSendings x = some x' ∧ sX7_slot_b126 FU (sr m f) (nI S) (nI 0) = some (sr m f') ∧ WR n t cm wl (wm + n) true 99 x' f' := by
  have hn := h.n8
  obtain ⟨x', f', e1, e2, e3⟩ := lock_up n (fun k x f => WR n t cm wl (wm + k) true 99 x f ∧ ∀ b, k ≤ b → b < n → (S.testBit b = true ↔ gI x (b + 1) 0 6 = nI 3)) (fun F x k => sX5_endSendings_b2 F x (nI k)) (fun F f k => sX7_slot_b126 F (sr m f) (nI S) (nI k)) some (fun f => some (sr m f)) (fun F x f h => by
      have hn := h.1.n8
      simp only [sX5_endSendings_b2]
      rw [h.1.xn]
      simp (disch := omega) only [zl, zm, nI_add, pk_mul, inb_t, ix_n, gd_tt, bd_e, nm_v, ite_not, ↓reduceIte, le_t, le_f, lt_t, lt_f, eq_t, eq_f, mone_f, mone_f2]) (fun F x f h => by
      have hn := h.1.n8
      simp only [sX7_slot_b126]
      simp (disch := omega) only [zl, zm, nI_add, pk_mul, inb_t, ix_n, gd_tt, bd_e, nm_v, ite_not, ↓reduceIte, le_t, le_f, lt_t, lt_f, eq_t, eq_f, mone_f, mone_f2, sr_row, h.1.fn]) (fun k x f hk h => by
      obtain ⟨x', f', e1, e2, e3, e4⟩ := s_end (m := m) h.1 hk (by omega) hS (h.2 k (Nat.le_refl k) hk)
      exact ⟨x', f', e1, e2, e3, fun b hb hbn => by rw [e4 b (by omega)]; exact h.2 b (by omega) hbn⟩) n 0 FU FU x f (by omega) (FU_lt (by omega)) (FU_lt (by omega)) ⟨h, fun b _ hb => hSk b hb⟩
  exact ⟨x', f', e1, e2, e3.1⟩
/-- the world between two slots -/
def WT (n t wl : Nat) (x : St) (f : Nat → Int32) : Prop := WR n t (8 * t) wl (8 * t) true 99 x f
def WS (n t : Nat) (x : St) (f : Nat → Int32) : Prop := WT n t 0 x f
def passed (x : St) : Option St := nm (pI x 0 0 5 ((gI x 0 0 5) + ((1 : Int32)))) fun z2 => bd (sX5_changeStates z2) fun q3 => bd (sX5_payForStates q3) fun q4 => bd (sX5_listenToSenders q4) fun q5 => bd (sX5_endSendings q5) fun q6 => some q6
/-- one slot -/
theorem s_slot (h : WT n t wl x f) (ht : t < 199000) : ∃ x' f', passed x = some x' ∧ sX7_slot (sr m f) = some (sr m f') ∧ WT n (t + 1) wl x' f' := by
  have hn := h.n8
  have h1 : WR n (t + 1) (8 * t) wl (8 * t) true 99 (pI x 0 0 5 (nI (t + 1))) (upd f 1 (nI (t + 1))) := by
    obtain ⟨⟨c, w', tr, sn, w1, w2, w3, w4, w5, w6, w7, w8, w9, w10, w11, w12, w13, w14, w15, w16, w17, w18, w19, w20, w21, w22, w23, w24, w25⟩, j4, j5⟩ := h
    refine ⟨⟨c, w', tr, sn, w1, by omega, w3, w4, w5, w6, w7, w8, ?_, ?_, ?_, ?_, ?_, ?_, fun k hk => ?_, ?_, ?_, ?_, ?_, ?_, ?_, ?_, ?_, ?_, fun k hk => ?_⟩, fun b hb => ?_, fun b hb o ho => ?_⟩
    all_goals try simp (disch := omega) only [upd_e, gI_pI, gL_pL, gI_pL, gL_pI, qn, qe, not_true_eq_false, not_false_eq_true, true_and, and_true, false_and, and_false, and_self, Nat.add_right_cancel_iff, ↓reduceIte]
    all_goals first | assumption | exact w15 _ (by assumption) | exact w25 _ (by assumption) | skip
    · rw [bv_0]
      exact (j4 b hb).cg (by simp (disch := omega) only [upd_e, qn, ↓reduceIte]) (fun w hw => by simp (disch := omega) only [upd_e, qn, ↓reduceIte]) w1 (fun z => z) (Or.inr rfl) hb
    · have hNN : ∀ b, NB (pI x 0 0 5 (nI (t + 1))) b = NB x b := fun b => by unfold NB; rw [bv_0]
      rw [hNN] at ho ⊢
      exact j5 b hb o ho
  obtain ⟨x2, f2, e1, e2, e3⟩ := s_changes (m := m) (h1.relax (fun z => by cases z))
  obtain ⟨x3, f3, e4, e5, e6⟩ := s_pays (m := m) e3
  obtain ⟨x4, f4, S, e7, e8, e9, hS, hSb⟩ := s_listen (m := m) e6 (by omega)
  obtain ⟨x5, f5, e10, e11, e12⟩ := s_ends (m := m) e9 (by omega) hS hSb
  refine ⟨x5, f5, ?_, ?_, e12.up (by omega) (by omega) (by omega) (by omega)⟩
  · unfold passed
    simp (disch := omega) only [zl, nm_v, h.xt, nI_add, e1, e4, e7, e10, bd_e]
  · unfold sX7_slot
    simp (disch := omega) only [zl, inb_t, ix_n, gd_tt, nm_v, sr_row, sr_pI, h.ft, nI_add]
    rw [e2, e5, e8, e11]
/-- some slots -/
theorem s_pass (h : WT n t wl x f) {s : Nat} (ht : t + s < 199000) : ∃ x' f', sX5_pass x (nI s) = some x' ∧ (∀ v, sX7_runs_b9 FU (sr m f) (nI s) v (nI 0) = some (sr m f', f' 4 - v)) ∧ WT n (t + s) wl x' f' := by
  obtain ⟨x', f', e1, e2, e3⟩ := lock_up s (fun k x f => WT n (t + k) wl x f) (fun F x k => sX5_pass_b2 F x (nI s) (nI k)) (fun F f k => fun v => sX7_runs_b9 F (sr m f) (nI s) v (nI k)) some (fun f => fun v => some (sr m f, f 4 - v)) (fun F x f h => by
      simp only [sX5_pass_b2]
      simp (disch := omega) only [zl, zm, nI_add, pk_mul, inb_t, ix_n, gd_tt, bd_e, nm_v, ite_not, ↓reduceIte, le_t, le_f, lt_t, lt_f, eq_t, eq_f, mone_f, mone_f2]) (fun F x f h => funext fun v => by
      simp only [sX7_runs_b9]
      simp (disch := omega) only [zl, zm, nI_add, pk_mul, inb_t, ix_n, gd_tt, bd_e, nm_v, ite_not, ↓reduceIte, le_t, le_f, lt_t, lt_f, eq_t, eq_f, mone_f, mone_f2, sr_row]) (fun k x f hk h => by
      obtain ⟨x', f', e1, e2, e3⟩ := s_slot (m := m) h (by omega)
      refine ⟨x', f', fun F => ?_, fun F => funext fun v => ?_, e3⟩
      · simp only [sX5_pass_b2]
        unfold passed at e1
        obtain ⟨z2, hz2, e1⟩ := nm_some e1
        obtain ⟨q3, hq3, e1⟩ := bd_some e1
        obtain ⟨q4, hq4, e1⟩ := bd_some e1
        obtain ⟨q5, hq5, e1⟩ := bd_some e1
        obtain ⟨q6, hq6, e1⟩ := bd_some e1
        rw [Option.some.inj e1] at hq6
        rw [← hz2]
        simp (disch := omega) only [zl, zm, nI_add, pk_mul, inb_t, ix_n, gd_tt, bd_e, nm_v, ite_not, ↓reduceIte, le_t, le_f, lt_t, lt_f, eq_t, eq_f, mone_f, mone_f2, hq3, hq4, hq5, hq6]
      · simp only [sX7_runs_b9]
        simp (disch := omega) only [zl, zm, nI_add, pk_mul, inb_t, ix_n, gd_tt, bd_e, nm_v, ite_not, ↓reduceIte, le_t, le_f, lt_t, lt_f, eq_t, eq_f, mone_f, mone_f2, e2]) s 0 FU FU x f (by omega) (FU_lt (by omega)) (FU_lt (by omega)) h
  exact ⟨x', f', e1, fun v => congrFun e2 v, e3⟩
end
