/-! stage B: the questions of what comes -/
section
variable {n t wl : Nat} {x x1 m c : St} {f g : Nat → Int32}
theorem c_pass0 (x : St) : sX5_pass x (nI 0) = some x := by
  obtain ⟨F, hF⟩ : ∃ F, FU = F + 1 := ⟨999999, rfl⟩
  unfold sX5_pass
  rw [hF]
  simp only [sX5_pass_b2]
  simp (disch := omega) only [zl, zm, nI_add, pk_mul, inb_t, ix_n, gd_tt, bd_e, nm_v, ite_not, ↓reduceIte, le_t, le_f, lt_t, lt_f, eq_t, eq_f, mone_f, mone_f2]
theorem c_try0 (h : WT n t wl x f) (x1 : St) : ∃ y, sX6_tryAhead x x1 (nI 0) = some y ∧ WT n t wl y f := by
  obtain ⟨x', e1, e2, e3⟩ := s_copy h x1
  refine ⟨x', ?_, e3⟩
  unfold sX6_tryAhead
  rw [e1]
  simp only [bd_e]
  rw [c_pass0]
  rfl
theorem c_try1 (h : WT n t wl x f) (ht : t ≤ 99999) (x1 : St) : ∃ y f1, sX6_tryAhead x x1 (nI 1) = some y ∧ sX7_slot (sr m f) = some (sr m f1) ∧ WT n (t + 1) wl y f1 := by
  obtain ⟨x', e1, e2, e3⟩ := s_copy h x1
  obtain ⟨y, f1, g1, g2, g3⟩ := c_slot (m := m) e3 (by omega)
  refine ⟨y, f1, ?_, g2, g3⟩
  unfold sX6_tryAhead
  rw [e1]
  simp only [bd_e]
  rw [g1]
  rfl
theorem q_knowsIn (h : WS n t x f) (ht : t ≤ 99999) (a b : Int32) : QA P3 (sX6_knowsIn x x1 a b) (sX7_knowsIn (sr m f) a b) (sr m f) := by
  have hn := h.n8
  unfold sX6_knowsIn sX7_knowsIn
  rw [c_req hn h.xn, c_req hn h.xn, m_areBeacons hn h.fn]
  simp only [bd_e]
  rw [m_goesR]
  rcases in_case a n with ha | ⟨k, hk, rfl⟩
  · rw [ha]
    exact QA.no (e := 3) (code := 1) x1 (nI 0) (by decide)
  · rw [inb_t hk (by omega)]
    rcases in_case b n with hb | ⟨j, hj, rfl⟩
    · rw [hb]
      exact QA.no (e := 3) (code := 1) x1 (nI 0) (by decide)
    · rw [inb_t hj (by omega)]
      obtain ⟨m2, l1, l2, l3, l4⟩ := m_leave (pI m 0 0 0 (nI 0)) f
      obtain ⟨y, c1, c2⟩ := c_try0 h x1
      obtain ⟨y', f', v, g1, g2⟩ := lo_knows (x := x) (m := m2) ht hk hj 300 0 FU FU y f (by omega) (FU_lt (by omega)) (FU_lt (by omega)) c2
      obtain ⟨g, b1, b2⟩ := m_back l2 f' v
      refine ⟨y', .inl v, 0, v, sr m2 g, ?_, ?_, ?_, FQ.tried l3 l4 b2, Or.inl ⟨rfl, rfl⟩⟩
      · unfold sX6_slotsUntil
        simp (disch := omega) only [zl, zm, nI_add, pk_mul, inb_t, ix_n, gd_tt, bd_e, nm_v, ite_not, ↓reduceIte, le_t, le_f, lt_t, lt_f, eq_t, eq_f, mone_f, mone_f2, sm_il, sm_ir, Bool.toNat_true, Bool.toNat_false, Bool.and_true, Bool.and_false, Bool.true_and, Bool.false_and, Bool.not_true, Bool.not_false, Bool.false_eq_true, Bool.true_eq_false, sr_row, sr_L, c1, g1]
      · simp (disch := omega) only [zl, zm, nI_add, pk_mul, inb_t, ix_n, gd_tt, bd_e, nm_v, ite_not, ↓reduceIte, le_t, le_f, lt_t, lt_f, eq_t, eq_f, mone_f, mone_f2, sm_il, sm_ir, Bool.toNat_true, Bool.toNat_false, Bool.and_true, Bool.and_false, Bool.true_and, Bool.false_and, Bool.not_true, Bool.not_false, Bool.false_eq_true, Bool.true_eq_false, sr_row, sr_L, l1, g2, b1]
      · rw [sr_0, l3 0 0 (by omega) (by omega), gI_pI, if_pos ⟨rfl, rfl, rfl⟩]
theorem q_outIn (h : WS n t x f) (ht : t ≤ 99999) (a : Int32) : QA P3 (sX6_outIn x x1 a) (sX7_outIn (sr m f) a) (sr m f) := by
  have hn := h.n8
  unfold sX6_outIn sX7_outIn
  rw [c_req hn h.xn, m_isBeacon hn h.fn]
  simp only [bd_e]
  rw [m_goesR]
  rcases in_case a n with ha | ⟨k, hk, rfl⟩
  · rw [ha]
    exact QA.no (e := 3) (code := 1) x1 (nI 0) (by decide)
  · rw [inb_t hk (by omega)]
    obtain ⟨m2, l1, l2, l3, l4⟩ := m_leave (pI m 0 0 0 (nI 0)) f
    obtain ⟨y, c1, c2⟩ := c_try0 h x1
    obtain ⟨y', f', v, g1, g2⟩ := lo_out (x := x) (m := m2) ht hk 300 0 FU FU y f (by omega) (FU_lt (by omega)) (FU_lt (by omega)) c2
    obtain ⟨g, b1, b2⟩ := m_back l2 f' v
    refine ⟨y', .inl v, 0, v, sr m2 g, ?_, ?_, ?_, FQ.tried l3 l4 b2, Or.inl ⟨rfl, rfl⟩⟩
    · unfold sX6_slotsUntil
      simp (disch := omega) only [zl, zm, nI_add, pk_mul, inb_t, ix_n, gd_tt, bd_e, nm_v, ite_not, ↓reduceIte, le_t, le_f, lt_t, lt_f, eq_t, eq_f, mone_f, mone_f2, sm_il, sm_ir, Bool.toNat_true, Bool.toNat_false, Bool.and_true, Bool.and_false, Bool.true_and, Bool.false_and, Bool.not_true, Bool.not_false, Bool.false_eq_true, Bool.true_eq_false, sr_row, sr_L, c1, g1]
    · unfold sX7_stateWithin
      simp (disch := omega) only [zl, zm, nI_add, pk_mul, inb_t, ix_n, gd_tt, bd_e, nm_v, ite_not, ↓reduceIte, le_t, le_f, lt_t, lt_f, eq_t, eq_f, mone_f, mone_f2, sm_il, sm_ir, Bool.toNat_true, Bool.toNat_false, Bool.and_true, Bool.and_false, Bool.true_and, Bool.false_and, Bool.not_true, Bool.not_false, Bool.false_eq_true, Bool.true_eq_false, sr_row, sr_L, l1, g2, b1]
    · rw [sr_0, l3 0 0 (by omega) (by omega), gI_pI, if_pos ⟨rfl, rfl, rfl⟩]
theorem q_allKnownIn (h : WS n t x f) (ht : t ≤ 99999) : ∃ x1' v m', sX6_allKnownIn x x1 = some (x1', v) ∧ sX7_allKnownIn (sr m f) = some (m', v) ∧ FQ (sr m f) m' := by
  have hn := h.n8
  unfold sX6_allKnownIn sX7_allKnownIn
  simp only [nm_v]
  rw [sr_pIo _ _ _ _ (by omega)]
  obtain ⟨m2, l1, l2, l3, l4⟩ := m_leave (pI m 0 0 0 (nI 0)) f
  obtain ⟨y, c1, c2⟩ := c_try0 h x1
  obtain ⟨y', f', v, g1, g2⟩ := lo_all (x := x) (m := m2) ht 300 0 FU FU y f (by omega) (FU_lt (by omega)) (FU_lt (by omega)) c2
  obtain ⟨g, b1, b2⟩ := m_back l2 f' v
  refine ⟨y', v, sr m2 g, ?_, ?_, FQ.tried l3 l4 b2⟩
  · unfold sX6_slotsUntil
    simp (disch := omega) only [zl, zm, nI_add, pk_mul, inb_t, ix_n, gd_tt, bd_e, nm_v, ite_not, ↓reduceIte, le_t, le_f, lt_t, lt_f, eq_t, eq_f, mone_f, mone_f2, sm_il, sm_ir, Bool.toNat_true, Bool.toNat_false, Bool.and_true, Bool.and_false, Bool.true_and, Bool.false_and, Bool.not_true, Bool.not_false, Bool.false_eq_true, Bool.true_eq_false, sr_row, sr_L, c1, g1]
  · have l1' : sX7_leaves (sr (pI m 0 0 0 0) f) = some (sr m2 f) := l1
    rw [l1']
    simp (disch := omega) only [zl, zm, nI_add, pk_mul, inb_t, ix_n, gd_tt, bd_e, nm_v, ite_not, ↓reduceIte, le_t, le_f, lt_t, lt_f, eq_t, eq_f, mone_f, mone_f2, sm_il, sm_ir, Bool.toNat_true, Bool.toNat_false, Bool.and_true, Bool.and_false, Bool.true_and, Bool.false_and, Bool.not_true, Bool.not_false, Bool.false_eq_true, Bool.true_eq_false, sr_row, sr_L, g2, b1]
theorem q_sendsIn (h : WS n t x f) (ht : t ≤ 99999) (a : Int32) : QA P3 (sX6_sendsIn x x1 a) (sX7_sendsIn (sr m f) a) (sr m f) := by
  have hn := h.n8
  unfold sX6_sendsIn sX7_sendsIn
  rw [c_req hn h.xn, m_isBeacon hn h.fn]
  simp only [bd_e]
  rw [m_goesR]
  rcases in_case a n with ha | ⟨k, hk, rfl⟩
  · rw [ha]
    exact QA.no (e := 3) (code := 1) x1 (nI 0) (by decide)
  · rw [inb_t hk (by omega)]
    have hat := m_isAt (m := pI m 0 0 0 (nI 0)) (f := f) (b := k) (nI 3) rfl (by omega)
    obtain ⟨⟨d0, d00⟩, d1, d2, d3, d4, d5, d6, _⟩ := h.bd hk
    rw [d6] at hat
    by_cases h3 : gI x (k + 1) 0 6 = nI 3
    · refine ⟨x1, .inl (nI 0), 0, nI 0, sr (pI m 0 0 0 (nI 0)) f, ?_, ?_, ?_, FQ.code m f _, Or.inl ⟨rfl, rfl⟩⟩
      · simp (disch := omega) only [zl, zm, nI_add, pk_mul, inb_t, ix_n, gd_tt, bd_e, nm_v, ite_not, ↓reduceIte, le_t, le_f, lt_t, lt_f, eq_t, eq_f, mone_f, mone_f2, sm_il, sm_ir, Bool.toNat_true, Bool.toNat_false, Bool.and_true, Bool.and_false, Bool.true_and, Bool.false_and, Bool.not_true, Bool.not_false, Bool.false_eq_true, Bool.true_eq_false, sr_row, sr_L, h3]
      · simp (disch := omega) only [zl, zm, nI_add, pk_mul, inb_t, ix_n, gd_tt, bd_e, nm_v, ite_not, ↓reduceIte, le_t, le_f, lt_t, lt_f, eq_t, eq_f, mone_f, mone_f2, sm_il, sm_ir, Bool.toNat_true, Bool.toNat_false, Bool.and_true, Bool.and_false, Bool.true_and, Bool.false_and, Bool.not_true, Bool.not_false, Bool.false_eq_true, Bool.true_eq_false, sr_row, sr_L, hat, h3, decide_true]
      · rw [sr_0, gI_pI, if_pos ⟨rfl, rfl, rfl⟩]
    · obtain ⟨m2, l1, l2, l3, l4⟩ := m_leave (pI m 0 0 0 (nI 0)) f
      obtain ⟨y, f1, c1, c2, c3⟩ := c_try1 (m := m2) h ht x1
      obtain ⟨y', f', v, g1, g2⟩ := lo_sends (x := x) (m := m2) ht hk 299 1 FU FU y f f1 (by omega) (FU_lt (by omega)) (FU_lt (by omega)) c2 c3
      obtain ⟨g, b1, b2⟩ := m_back l2 f' v
      refine ⟨y', .inl v, 0, v, sr m2 g, ?_, ?_, ?_, FQ.tried l3 l4 b2, Or.inl ⟨rfl, rfl⟩⟩
      · unfold sX6_slotsUntil
        simp (disch := omega) only [zl, zm, nI_add, pk_mul, inb_t, ix_n, gd_tt, bd_e, nm_v, ite_not, ↓reduceIte, le_t, le_f, lt_t, lt_f, eq_t, eq_f, mone_f, mone_f2, sm_il, sm_ir, Bool.toNat_true, Bool.toNat_false, Bool.and_true, Bool.and_false, Bool.true_and, Bool.false_and, Bool.not_true, Bool.not_false, Bool.false_eq_true, Bool.true_eq_false, sr_row, sr_L, h3, c1, g1]
      · simp (disch := omega) only [zl, zm, nI_add, pk_mul, inb_t, ix_n, gd_tt, bd_e, nm_v, ite_not, ↓reduceIte, le_t, le_f, lt_t, lt_f, eq_t, eq_f, mone_f, mone_f2, sm_il, sm_ir, Bool.toNat_true, Bool.toNat_false, Bool.and_true, Bool.and_false, Bool.true_and, Bool.false_and, Bool.not_true, Bool.not_false, Bool.false_eq_true, Bool.true_eq_false, sr_row, sr_L, hat, h3, decide_false, l1, g2, b1]
      · rw [sr_0, l3 0 0 (by omega) (by omega), gI_pI, if_pos ⟨rfl, rfl, rfl⟩]
theorem q_wellIn (h : WS n t x f) (ht : t ≤ 99999) (a : Int32) : QA P3 (sX6_wellIn x x1 a) (sX7_wellIn (sr m f) a) (sr m f) := by
  have hn := h.n8
  unfold sX6_wellIn sX7_wellIn
  rw [c_req hn h.xn, m_isBeacon hn h.fn]
  simp only [bd_e]
  rw [m_goesR]
  rcases in_case a n with ha | ⟨k, hk, rfl⟩
  · rw [ha]
    exact QA.no (e := 3) (code := 1) x1 (nI 0) (by decide)
  · rw [inb_t hk (by omega)]
    obtain ⟨⟨d0, d00⟩, d1, d2, d3, d4, d5, d6, d7, d8, d9, d10, d11, d12, d13, d14, d15⟩ := h.bd hk
    obtain ⟨m2, l1, l2, l3, l4⟩ := m_leave (pI m 0 0 0 (nI 0)) f
    obtain ⟨y, f1, c1, c2, c3⟩ := c_try1 (m := m2) h ht x1
    obtain ⟨y', f', v, g1, g2⟩ := lo_well (x := x) (m := m2) (v0 := gI x (k + 1) 0 11) ht hk 299 1 FU FU y f f1 (by omega) (FU_lt (by omega)) (FU_lt (by omega)) c2 c3
    obtain ⟨g, b1, b2⟩ := m_back l2 f' v
    refine ⟨y', .inl v, 0, v, sr m2 g, ?_, ?_, ?_, FQ.tried l3 l4 b2, Or.inl ⟨rfl, rfl⟩⟩
    · unfold sX6_slotsUntil
      simp (disch := omega) only [zl, zm, nI_add, pk_mul, inb_t, ix_n, gd_tt, bd_e, nm_v, ite_not, ↓reduceIte, le_t, le_f, lt_t, lt_f, eq_t, eq_f, mone_f, mone_f2, sm_il, sm_ir, Bool.toNat_true, Bool.toNat_false, Bool.and_true, Bool.and_false, Bool.true_and, Bool.false_and, Bool.not_true, Bool.not_false, Bool.false_eq_true, Bool.true_eq_false, sr_row, sr_L, c1, g1]
    · simp (disch := omega) only [zl, zm, nI_add, pk_mul, inb_t, ix_n, gd_tt, bd_e, nm_v, ite_not, ↓reduceIte, le_t, le_f, lt_t, lt_f, eq_t, eq_f, mone_f, mone_f2, sm_il, sm_ir, Bool.toNat_true, Bool.toNat_false, Bool.and_true, Bool.and_false, Bool.true_and, Bool.false_and, Bool.not_true, Bool.not_false, Bool.false_eq_true, Bool.true_eq_false, sr_row, sr_L, l1, m_of, d10, g2, b1]
    · rw [sr_0, l3 0 0 (by omega) (by omega), gI_pI, if_pos ⟨rfl, rfl, rfl⟩]
/-- another period, another first wake -/
theorem r_period {cm wm k p : Nat} {q : Bool} (h : WR n t cm wl wm q 99 x f) (hk : k < n) (hp : 2 ≤ p) (hp2 : p ≤ 99) (hg : ∀ g, gI x (k + 1) 0 2 = nI g → g < 2 ^ 31 → g < p) : WR n t cm wl wm q 99 (pI x (k + 1) 0 1 (nI p)) (upd f (21 + 43 * k + 0) (nI p)) := by
  have hn := h.n8
  obtain ⟨⟨⟨d0, d00⟩, d1, d2, d3, d4, d5, d6, d7, d8, d9, d10, d11, d12, d13, d14, d15⟩, ⟨p', g, l, s, en, st, lf, fl, a, sk, h1, h2, h3, h4, h5, h6, h7, h8, h9, h10, h11, h12⟩, hs⟩ := h.2.1 k hk
  have hgp := hg g h2 (by omega)
  refine h.one hk (Or.inl rfl) (fun z => z) (fun b hb => ?_) ?_ (fun i hi hi2 => ?_) ?_ ?_
  · rw [bv_ne hb]
  · rw [hd_k]; exact h.1.cg fun i hi => by simp (disch := omega) only [upd_e, qn, ↓reduceIte]
  · simp (disch := omega) only [upd_e, qn, ↓reduceIte]
  · simp (disch := omega) only [gI_pI, gL_pL, gI_pL, gL_pI, qn, qe, not_true_eq_false, not_false_eq_true, true_and, and_true, false_and, and_false, and_self, Nat.add_right_cancel_iff, ↓reduceIte]
  · refine ⟨⟨⟨?_, ?_⟩, ?_, ?_, ?_, ?_, ?_, ?_, ?_, ?_, ?_, ?_, ?_, ?_, fun k hk => ?_, fun o ho => ?_, fun o ho hob => ?_⟩, ⟨p, g, l, s, en, st, lf, fl, a, sk, ?_, ?_, ?_, ?_, ?_, ?_, ?_, ?_, ?_, ?_, ?_, by omega⟩, ?_⟩
    all_goals try simp (disch := omega) only [upd_e, gI_pI, gL_pL, gI_pL, gL_pI, qn, qe, not_true_eq_false, not_false_eq_true, true_and, and_true, false_and, and_false, and_self, Nat.add_right_cancel_iff, ↓reduceIte]
    all_goals first | assumption | rfl | exact d13 _ (by assumption) | exact d14 _ (by assumption) | exact d15 _ (by assumption) (by assumption) | (rw [Nat.add_comm]; done) | skip
    · intro h3
      obtain ⟨⟨a', s1, s2, s3, s4⟩, s5⟩ := hs h3
      refine ⟨⟨a', ?_, s2, s3, fun o ho hob => ?_⟩, fun hq => ?_⟩
      · simp (disch := omega) only [upd_e, gI_pI, gL_pL, gI_pL, gL_pI, qn, qe, not_true_eq_false, not_false_eq_true, true_and, and_true, false_and, and_false, and_self, Nat.add_right_cancel_iff, ↓reduceIte]; exact s1
      · simp (disch := omega) only [upd_e, gI_pI, gL_pL, gI_pL, gL_pI, qn, qe, not_true_eq_false, not_false_eq_true, true_and, and_true, false_and, and_false, and_self, Nat.add_right_cancel_iff, ↓reduceIte]; exact s4 o ho hob
      · first | exact s5 hq | (simp (disch := omega) only [upd_e, gI_pI, gL_pL, gI_pL, gL_pI, qn, qe, not_true_eq_false, not_false_eq_true, true_and, and_true, false_and, and_false, and_self, Nat.add_right_cancel_iff, ↓reduceIte]; exact s5 hq)
theorem r_first {cm wm k g : Nat} {q : Bool} (h : WR n t cm wl wm q 99 x f) (hk : k < n) (hg : ∀ p, gI x (k + 1) 0 1 = nI p → p < 2 ^ 31 → g < p) : WR n t cm wl wm q 99 (pI x (k + 1) 0 2 (nI g)) (upd f (21 + 43 * k + 1) (nI g)) := by
  have hn := h.n8
  obtain ⟨⟨⟨d0, d00⟩, d1, d2, d3, d4, d5, d6, d7, d8, d9, d10, d11, d12, d13, d14, d15⟩, ⟨p, g', l, s, en, st, lf, fl, a, sk, h1, h2, h3, h4, h5, h6, h7, h8, h9, h10, h11, h12⟩, hs⟩ := h.2.1 k hk
  have hgp := hg p h1 (by omega)
  refine h.one hk (Or.inl rfl) (fun z => z) (fun b hb => ?_) ?_ (fun i hi hi2 => ?_) ?_ ?_
  · rw [bv_ne hb]
  · rw [hd_k]; exact h.1.cg fun i hi => by simp (disch := omega) only [upd_e, qn, ↓reduceIte]
  · simp (disch := omega) only [upd_e, qn, ↓reduceIte]
  · simp (disch := omega) only [gI_pI, gL_pL, gI_pL, gL_pI, qn, qe, not_true_eq_false, not_false_eq_true, true_and, and_true, false_and, and_false, and_self, Nat.add_right_cancel_iff, ↓reduceIte]
  · refine ⟨⟨⟨?_, ?_⟩, ?_, ?_, ?_, ?_, ?_, ?_, ?_, ?_, ?_, ?_, ?_, ?_, fun k hk => ?_, fun o ho => ?_, fun o ho hob => ?_⟩, ⟨p, g, l, s, en, st, lf, fl, a, sk, ?_, ?_, ?_, ?_, ?_, ?_, ?_, ?_, ?_, ?_, ?_, by omega⟩, ?_⟩
    all_goals try simp (disch := omega) only [upd_e, gI_pI, gL_pL, gI_pL, gL_pI, qn, qe, not_true_eq_false, not_false_eq_true, true_and, and_true, false_and, and_false, and_self, Nat.add_right_cancel_iff, ↓reduceIte]
    all_goals first | assumption | rfl | exact d13 _ (by assumption) | exact d14 _ (by assumption) | exact d15 _ (by assumption) (by assumption) | (rw [Nat.add_comm]; done) | skip
    · intro h3
      obtain ⟨⟨a', s1, s2, s3, s4⟩, s5⟩ := hs h3
      refine ⟨⟨a', ?_, s2, s3, fun o ho hob => ?_⟩, fun hq => ?_⟩
      · simp (disch := omega) only [upd_e, gI_pI, gL_pL, gI_pL, gL_pI, qn, qe, not_true_eq_false, not_false_eq_true, true_and, and_true, false_and, and_false, and_self, Nat.add_right_cancel_iff, ↓reduceIte]; exact s1
      · simp (disch := omega) only [upd_e, gI_pI, gL_pL, gI_pL, gL_pI, qn, qe, not_true_eq_false, not_false_eq_true, true_and, and_true, false_and, and_false, and_self, Nat.add_right_cancel_iff, ↓reduceIte]; exact s4 o ho hob
      · first | exact s5 hq | (simp (disch := omega) only [upd_e, gI_pI, gL_pL, gI_pL, gL_pI, qn, qe, not_true_eq_false, not_false_eq_true, true_and, and_true, false_and, and_false, and_self, Nat.add_right_cancel_iff, ↓reduceIte]; exact s5 hq)
theorem WR.cw {cm wm e : Nat} {q : Bool} (h : WR n t cm wl wm q e x f) : ∃ c w, c ≤ cm ∧ wl ≤ w ∧ w ≤ wm ∧ cm ≤ 1600000 ∧ wm ≤ 1600000 ∧ gI x 0 0 9 = nI c ∧ gI x 0 0 7 = nI w ∧ f 6 = nI c ∧ f 4 = nI w := by
  obtain ⟨c, w', tr, sn, w1, w2, w3, w4, w5, w6, w7, w8, w9, w10, w11, w12, w13, w14, w15, w16, w17, w18, w19, w20, w21, w22, w23, w24, w25⟩ := h.1
  exact ⟨c, w', w3, w5.1, w5.2, w4, w6, w11, w12, w22.trans w11, w20.trans w12⟩
theorem d_lt {a b c : Nat} (ha : a < 2 ^ 29) (hb : b < 2 ^ 29) (hc : c < 2 ^ 29) : (nI a - nI c < nI b - nI c) = (a < b) := propext (by
  rw [Int32.lt_iff_toInt_lt, pk_sub_toInt (by omega) (by omega), pk_sub_toInt (by omega) (by omega)]; omega)
theorem d_le {a b c : Nat} (ha : a < 2 ^ 29) (hb : b < 2 ^ 29) (hc : c < 2 ^ 29) : (nI a - nI c ≤ nI b - nI c) = (a ≤ b) := propext (by
  rw [Int32.le_iff_toInt_le, pk_sub_toInt (by omega) (by omega), pk_sub_toInt (by omega) (by omega)]; omega)
/-- a try of another first wake, on both sides -/
theorem t_first {k v c0 : Nat} (h : WS n t x f) (ht : t ≤ 99999) (hk : k < n) (hv : ∀ p, gI x (k + 1) 0 1 = nI p → p < 2 ^ 31 → v < p) (hc0 : f 6 = nI c0) (x1 : St) (hg : ∀ i, i < 365 → g i = f i) : ∃ q y c m2 g2, sX5_copyFrom x x1 = some q ∧ sX5_pass (pI q (k + 1) 0 2 (nI v)) (nI 100) = some y ∧ gI y 0 0 9 = nI c ∧ c < 2 ^ 29 ∧ sX7_byFirst (sr m g) (nI k) (nI v) = some (sr m2 g2, nI c - nI c0) ∧ (∀ i, i < 365 → g2 i = f i) ∧ (∀ j k, ¬ j = 5 → ¬ j = 2 → gI m2 0 j k = gI m 0 j k) ∧ ∀ j k, gL m2 0 j k = gL m 0 j k := by
  have hn := h.n8
  obtain ⟨q, e1, e2, e3⟩ := s_copy (WR.fcg h hg) x1
  obtain ⟨m2, l1, l2, l3, l4⟩ := m_leave m g
  have hq := r_first e3 hk (g := v) (fun p hp hp2 => hv p (by rw [← hp]; exact ((e2.2.2 k hk).1 0 1 (Or.inl ⟨rfl, by omega, by omega⟩)).symm) hp2)
  obtain ⟨y, f', e4, e5, e6⟩ := s_pass (m := m2) (s := 100) hq (by omega)
  obtain ⟨c, w, c1, c2, c3, c4, c5, c6, c7, c8, c9⟩ := e6.cw
  obtain ⟨g2, b1, b2⟩ := m_back l2 f' (nI c - nI c0)
  refine ⟨q, y, c, m2, g2, e1, e4, c6, by omega, ?_, fun i hi => (b2 i hi).trans (hg i hi), l3, l4⟩
  unfold sX7_byFirst sX7_collisionsBy
  have h6 : upd g (21 + 43 * k + 1) (nI v) 6 = nI c0 := by rw [upd_e, if_neg (by omega), hg 6 (by omega), hc0]
  simp (disch := omega) only [zl, zm, nI_add, pk_mul, inb_t, ix_n, gd_tt, bd_e, nm_v, ite_not, ↓reduceIte, le_t, le_f, lt_t, lt_f, eq_t, eq_f, mone_f, mone_f2, sm_il, sm_ir, Bool.toNat_true, Bool.toNat_false, Bool.and_true, Bool.and_false, Bool.true_and, Bool.false_and, Bool.not_true, Bool.not_false, Bool.false_eq_true, Bool.true_eq_false, sr_row, sr_L, l1, m_sets, m_runs, e5, c8, h6, b1]
theorem q_bestAt (h : WS n t x f) (ht : t ≤ 99999) (a : Int32) : QA P3 (sX6_bestAt x x1 a) (sX7_bestAt (sr m f) a) (sr m f) := by
  have hn := h.n8
  unfold sX6_bestAt sX7_bestAt
  rw [c_req hn h.xn, m_isBeacon hn h.fn]
  simp only [bd_e]
  rw [m_goesR]
  rcases in_case a n with ha | ⟨k, hk, rfl⟩
  · rw [ha]
    exact QA.no (e := 3) (code := 1) x1 (nI 0) (by decide)
  · rw [inb_t hk (by omega)]
    obtain ⟨p, g0, hp, hg0, hp2, hp3, hgp⟩ := h.pg hk
    obtain ⟨⟨d0, d00⟩, d1, _⟩ := h.bd hk
    obtain ⟨c0, w0, z1, _, _, z4, _, _, _, hc0, _⟩ := h.cw
    have hpu : ∀ v, v < p → ∀ p', gI x (k + 1) 0 1 = nI p' → p' < 2 ^ 31 → v < p' := fun v hv p' h1 h2 => by
      have := (nI_eq (by omega) h2).mp (hp.symm.trans h1); omega
    have hc0l : c0 < 2 ^ 29 := by omega
    -- the loop from 1 on
    have key : ∀ (d v F G : Nat) (x1 m2 : St) (g : Nat → Int32) (j cj : Nat), v + d = p → d < F → d < G → (∀ i, i < 365 → g i = f i) → (∀ j k, ¬ j = 5 → ¬ j = 2 → gI m2 0 j k = gI (pI m 0 0 0 (nI 0)) 0 j k) → (∀ j k, gL m2 0 j k = gL (pI m 0 0 0 (nI 0)) 0 j k) → j < 2 ^ 31 → cj < 2 ^ 29 → ∃ x1' m3 g3 r, sX6_bestAt_b26 F x x1 (nI k) (nI p) (nI j) (nI cj) (nI v) = some (x1', .inl r) ∧ sX7_bestAt_b26 G (sr m2 g) (nI k) (nI j) (nI cj - nI c0) (nI v) = some (sr m3 g3, r) ∧ (∀ i, i < 365 → g3 i = f i) ∧ (∀ j k, ¬ j = 5 → ¬ j = 2 → gI m3 0 j k = gI (pI m 0 0 0 (nI 0)) 0 j k) ∧ ∀ j k, gL m3 0 j k = gL (pI m 0 0 0 (nI 0)) 0 j k := by
      intro d
      induction d with
      | zero =>
        intro v F G x1 m2 g j cj hv hF hG hg h1 h2 hj hcj
        obtain rfl : v = p := by omega
        obtain ⟨F, rfl⟩ : ∃ z, F = z + 1 := ⟨F - 1, by omega⟩
        obtain ⟨G, rfl⟩ : ∃ z, G = z + 1 := ⟨G - 1, by omega⟩
        refine ⟨x1, m2, g, nI j, ?_, ?_, hg, h1, h2⟩
        · simp only [sX6_bestAt_b26]
          simp (disch := omega) only [zl, zm, nI_add, pk_mul, inb_t, ix_n, gd_tt, bd_e, nm_v, ite_not, ↓reduceIte, le_t, le_f, lt_t, lt_f, eq_t, eq_f, mone_f, mone_f2, sm_il, sm_ir, Bool.toNat_true, Bool.toNat_false, Bool.and_true, Bool.and_false, Bool.true_and, Bool.false_and, Bool.not_true, Bool.not_false, Bool.false_eq_true, Bool.true_eq_false, sr_row, sr_L]
        · have hgp : g (21 + 43 * k + 0) = nI v := by rw [hg _ (by omega), d1, hp]
          simp only [sX7_bestAt_b26]
          simp (disch := omega) only [zl, zm, nI_add, pk_mul, inb_t, ix_n, gd_tt, bd_e, nm_v, ite_not, ↓reduceIte, le_t, le_f, lt_t, lt_f, eq_t, eq_f, mone_f, mone_f2, sm_il, sm_ir, Bool.toNat_true, Bool.toNat_false, Bool.and_true, Bool.and_false, Bool.true_and, Bool.false_and, Bool.not_true, Bool.not_false, Bool.false_eq_true, Bool.true_eq_false, sr_row, sr_L, m_of, hgp]
      | succ d ih =>
        intro v F G x1 m2 g j cj hv hF hG hg h1 h2 hj hcj
        obtain ⟨F, rfl⟩ : ∃ z, F = z + 1 := ⟨F - 1, by omega⟩
        obtain ⟨G, rfl⟩ : ∃ z, G = z + 1 := ⟨G - 1, by omega⟩
        have hgp : g (21 + 43 * k + 0) = nI p := by rw [hg _ (by omega), d1, hp]
        obtain ⟨q, y, c, m3, g3, t1, t2, t3, t4, t5, t6, t7, t8⟩ := t_first (m := m2) h ht hk (v := v) (hpu v (by omega)) hc0 x1 hg
        by_cases hcc : c < cj
        · obtain ⟨x1', m4, g4, r, u1, u2, u3⟩ := ih (v + 1) F G y m3 g3 v c (by omega) (by omega) (by omega) t6 (fun j k a b => (t7 j k a b).trans (h1 j k a b)) (fun j k => (t8 j k).trans (h2 j k)) (by omega) t4
          refine ⟨x1', m4, g4, r, ?_, ?_, u3⟩
          · simp only [sX6_bestAt_b26, sX6_bestAt_b83]
            simp (disch := omega) only [zl, zm, nI_add, pk_mul, inb_t, ix_n, gd_tt, bd_e, nm_v, ite_not, ↓reduceIte, le_t, le_f, lt_t, lt_f, eq_t, eq_f, mone_f, mone_f2, sm_il, sm_ir, Bool.toNat_true, Bool.toNat_false, Bool.and_true, Bool.and_false, Bool.true_and, Bool.false_and, Bool.not_true, Bool.not_false, Bool.false_eq_true, Bool.true_eq_false, sr_row, sr_L, t1, t2, t3, u1]
          · simp only [sX7_bestAt_b26]
            simp (disch := omega) only [zl, zm, nI_add, pk_mul, inb_t, ix_n, gd_tt, bd_e, nm_v, ite_not, ↓reduceIte, le_t, le_f, lt_t, lt_f, eq_t, eq_f, mone_f, mone_f2, sm_il, sm_ir, Bool.toNat_true, Bool.toNat_false, Bool.and_true, Bool.and_false, Bool.true_and, Bool.false_and, Bool.not_true, Bool.not_false, Bool.false_eq_true, Bool.true_eq_false, sr_row, sr_L, m_of, hgp, t5, d_lt, hcc, u2]
        · obtain ⟨x1', m4, g4, r, u1, u2, u3⟩ := ih (v + 1) F G y m3 g3 j cj (by omega) (by omega) (by omega) t6 (fun j k a b => (t7 j k a b).trans (h1 j k a b)) (fun j k => (t8 j k).trans (h2 j k)) hj hcj
          refine ⟨x1', m4, g4, r, ?_, ?_, u3⟩
          · simp only [sX6_bestAt_b26, sX6_bestAt_b83]
            simp (disch := omega) only [zl, zm, nI_add, pk_mul, inb_t, ix_n, gd_tt, bd_e, nm_v, ite_not, ↓reduceIte, le_t, le_f, lt_t, lt_f, eq_t, eq_f, mone_f, mone_f2, sm_il, sm_ir, Bool.toNat_true, Bool.toNat_false, Bool.and_true, Bool.and_false, Bool.true_and, Bool.false_and, Bool.not_true, Bool.not_false, Bool.false_eq_true, Bool.true_eq_false, sr_row, sr_L, t1, t2, t3, u1]
          · simp only [sX7_bestAt_b26]
            simp (disch := omega) only [zl, zm, nI_add, pk_mul, inb_t, ix_n, gd_tt, bd_e, nm_v, ite_not, ↓reduceIte, le_t, le_f, lt_t, lt_f, eq_t, eq_f, mone_f, mone_f2, sm_il, sm_ir, Bool.toNat_true, Bool.toNat_false, Bool.and_true, Bool.and_false, Bool.true_and, Bool.false_and, Bool.not_true, Bool.not_false, Bool.false_eq_true, Bool.true_eq_false, sr_row, sr_L, m_of, hgp, t5, d_lt, hcc, u2]
    obtain ⟨q, y, c, m3, g3, t1, t2, t3, t4, t5, t6, t7, t8⟩ := t_first (m := pI m 0 0 0 (nI 0)) h ht hk (v := 0) (hpu 0 (by omega)) hc0 x1 (fun i _ => rfl)
    obtain ⟨F, hF⟩ : ∃ F, FU = F + 1 := ⟨999999, rfl⟩
    have hF2 : 200 < F := by have : FU = 1000000 := rfl; omega
    obtain ⟨x1', m4, g4, r, u1, u2, u3, u4, u5⟩ := key (p - 1) 1 F FU y m3 g3 0 c (by omega) (by omega) (FU_lt (by omega)) t6 t7 t8 (by omega) t4
    refine ⟨x1', .inl r, 0, r, sr m4 g4, ?_, ?_, ?_, FQ.tried u4 u5 u3, Or.inl ⟨rfl, rfl⟩⟩
    · rw [hF]
      simp only [sX6_bestAt_b26, sX6_bestAt_b83]
      simp (disch := omega) only [zl, zm, nI_add, pk_mul, inb_t, ix_n, gd_tt, bd_e, nm_v, ite_not, ↓reduceIte, le_t, le_f, lt_t, lt_f, eq_t, eq_f, mone_f, mone_f2, sm_il, sm_ir, Bool.toNat_true, Bool.toNat_false, Bool.and_true, Bool.and_false, Bool.true_and, Bool.false_and, Bool.not_true, Bool.not_false, Bool.false_eq_true, Bool.true_eq_false, sr_row, sr_L, hp, t1, t2, t3, u1]
    · simp (disch := omega) only [zl, zm, nI_add, pk_mul, inb_t, ix_n, gd_tt, bd_e, nm_v, ite_not, ↓reduceIte, le_t, le_f, lt_t, lt_f, eq_t, eq_f, mone_f, mone_f2, sm_il, sm_ir, Bool.toNat_true, Bool.toNat_false, Bool.and_true, Bool.and_false, Bool.true_and, Bool.false_and, Bool.not_true, Bool.not_false, Bool.false_eq_true, Bool.true_eq_false, sr_row, sr_L, t5, u2]
    · rw [sr_0, u4 0 0 (by omega) (by omega), gI_pI, if_pos ⟨rfl, rfl, rfl⟩]
end
