/-! stage B: what comes -/
/-- what asking leaves of the model -/
def FQ (m m' : St) : Prop := (∀ k, ¬ k = 0 → gI m' 0 0 k = gI m 0 0 k) ∧ (∀ j k, ¬ j = 0 → ¬ j = 2 → ¬ j = 5 → gI m' 0 j k = gI m 0 j k) ∧ (∀ k, k < 365 → gI m' 0 2 k = gI m 0 2 k) ∧ ∀ j k, gL m' 0 j k = gL m 0 j k
section
variable {n t wl : Nat} {x x1 m c : St} {f g : Nat → Int32}
theorem FQ.code (m : St) (f : Nat → Int32) (v : Int32) : FQ (sr m f) (sr (pI m 0 0 0 v) f) :=
  ⟨fun k hk => by rw [sr_0, sr_0, gI_pI, if_neg (by omega)], fun j k h0 h2 _ => by rw [sr_j _ _ _ h2, sr_j _ _ _ h2, gI_pI, if_neg (by omega)], fun k _ => by rw [sr_row, sr_row], fun _ _ => rfl⟩
/-- aside for a try, and back -/
theorem m_leave (m : St) (f : Nat → Int32) : ∃ m2, sX7_leaves (sr m f) = some (sr m2 f) ∧ (∀ i, i < 365 → gI m2 0 5 i = f i) ∧ (∀ j k, ¬ j = 5 → ¬ j = 2 → gI m2 0 j k = gI m 0 j k) ∧ ∀ j k, gL m2 0 j k = gL m 0 j k := by
  have h1 := m_copies (m := sr m f) (a := 0) (b := 0) (j0 := 2) (j2 := 5) (by omega) (by decide) (by decide) (by decide)
  refine ⟨sA (sr m f) 5 (cpy (gI (sr m f) 0 2) (gI (sr m f) 0 5) 0 0 365), ?_, fun i hi => ?_, fun j k h5 h2 => ?_, fun j k => rfl⟩
  · unfold sX7_leaves
    simp only [zl]
    rw [h1]
    simp only [bd_e]
    have e : gI (sA (sr m f) 5 (cpy (gI (sr m f) 0 2) (gI (sr m f) 0 5) 0 0 365)) 0 2 = f := funext fun k => by rw [sA_n _ _ _ (by omega), sr_row]
    exact congrArg some ((sr_self _).symm.trans (by rw [e]))
  · rw [sA_i, cpy_i0 hi, sr_row, Nat.zero_add]
  · rw [sA_n _ _ _ h5, sr_j _ _ _ h2]
theorem m_back {m2 : St} (h5 : ∀ i, i < 365 → gI m2 0 5 i = f i) (g : Nat → Int32) (v : Int32) : ∃ g', sX7_comesBack (sr m2 g) v = some (sr m2 g', v) ∧ ∀ i, i < 365 → g' i = f i := by
  have h1 := m_copies (m := sr m2 g) (a := 0) (b := 0) (j0 := 5) (j2 := 2) (by omega) (by decide) (by decide) (by decide)
  refine ⟨cpy (gI (sr m2 g) 0 5) (gI (sr m2 g) 0 2) 0 0 365, ?_, fun i hi => ?_⟩
  · unfold sX7_comesBack
    simp only [zl]
    rw [h1, sA_2, sr_sr]
    rfl
  · rw [cpy_i0 hi, sr_j _ _ _ (by omega), Nat.zero_add, h5 i hi]
/-- a whole try asks only -/
theorem FQ.tried {m2 : St} {g' : Nat → Int32} {v : Int32} (h2 : ∀ j k, ¬ j = 5 → ¬ j = 2 → gI m2 0 j k = gI (pI m 0 0 0 v) 0 j k) (hL : ∀ j k, gL m2 0 j k = gL (pI m 0 0 0 v) 0 j k) (hg : ∀ i, i < 365 → g' i = f i) : FQ (sr m f) (sr m2 g') := by
  refine ⟨fun k hk => ?_, fun j k h0 hj h5 => ?_, fun k hk => ?_, fun j k => ?_⟩
  · rw [sr_0, sr_0, h2 0 k (by omega) (by omega), gI_pI, if_neg (by omega)]
  · rw [sr_j _ _ _ hj, sr_j _ _ _ hj, h2 j k h5 hj, gI_pI, if_neg (by omega)]
  · rw [sr_row, sr_row, hg k hk]
  · rw [sr_L, sr_L, hL j k, gL_pI]
theorem m_runs {s : Nat} : sX7_runs (sr m f) (nI s) = sX7_runs_b9 FU (sr m f) (nI s) (f 4) (nI 0) := by
  unfold sX7_runs
  simp (disch := omega) only [zl, zm, nI_add, pk_mul, inb_t, ix_n, gd_tt, bd_e, nm_v, ite_not, ↓reduceIte, le_t, le_f, lt_t, lt_f, eq_t, eq_f, mone_f, mone_f2, sr_row]
theorem c_try (h : WT n t wl x f) {s : Nat} (ht : t + s < 199000) (x1 : St) : ∃ y f', sX6_tryAhead x x1 (nI s) = some y ∧ (∀ v, sX7_runs_b9 FU (sr m f) (nI s) v (nI 0) = some (sr m f', f' 4 - v)) ∧ WT n (t + s) wl y f' := by
  obtain ⟨x', e1, e2, e3⟩ := s_copy h x1
  obtain ⟨y, f', e4, e5, e6⟩ := s_pass (m := m) e3 ht
  refine ⟨y, f', ?_, e5, e6⟩
  unfold sX6_tryAhead
  rw [e1]
  simp only [bd_e]
  rw [e4]
  rfl
theorem c_ahead (a : Int32) : (inR a (nI 0) (nI 200) = false ∧ sX6_requireAhead a = some (.inr 2)) ∨ ∃ s, s ≤ 200 ∧ a = nI s ∧ inR a (nI 0) (nI 200) = true ∧ sX6_requireAhead a = some (.inl ()) := by
  unfold sX6_requireAhead sX6_requireAhead_b11 inR
  simp only [zl]
  by_cases h0 : a < nI 0
  · exact Or.inl ⟨by rw [decide_eq_false (i_nle.mpr h0)]; rfl, by rw [if_pos h0]⟩
  · by_cases h1 : a ≤ nI 200
    · obtain ⟨s, hs, rfl⟩ := nI_of2 (M := nI 200) (n := 200) (by decide) h0 h1
      exact Or.inr ⟨s, hs, rfl, by rw [decide_eq_true (i_nlt.mp h0), decide_eq_true h1]; rfl, by rw [if_neg h0, if_pos h1]⟩
    · exact Or.inl ⟨by rw [decide_eq_false h1, Bool.and_false], by rw [if_neg h0, if_neg h1]⟩
theorem m_slotsIn (a : Int32) : sX7_areSlots a = some (nI (inR a (nI 0) (nI 200)).toNat) := by
  unfold sX7_areSlots
  have h : sX7_isIn a.toInt64 (0 : Int64) (200 : Int64) = some (nI (inR a (nI 0) (nI 200)).toNat) := m_isIn a (nI 0) (nI 200)
  rw [h]
  simp only [bd_e]
  rw [isb_z]
  rfl
/-- a query that tries ahead: how its answers are held against each other -/
def QA (P : List (Nat × Nat)) (C : Option (St × (Int32 ⊕ Nat))) (M : Option (St × Int32)) (m : St) : Prop := ∃ x1' r code v m', C = some (x1', r) ∧ M = some (m', v) ∧ gI m' 0 0 0 = nI code ∧ FQ m m' ∧ Ans P r code v
theorem QA.no {P : List (Nat × Nat)} {e code : Nat} (x1 : St) (v : Int32) (h : (e, code) ∈ P) : QA P (some (x1, .inr e)) (some (sr (pI m 0 0 0 (nI code)) f, v)) (sr m f) :=
  ⟨x1, .inr e, code, v, _, rfl, rfl, by rw [sr_0, gI_pI, if_pos ⟨rfl, rfl, rfl⟩], FQ.code m f _, Or.inr ⟨e, rfl, h⟩⟩
theorem q_stateIn (h : WS n t x f) (ht : t ≤ 99999) (a b : Int32) : QA P32 (sX6_stateIn x x1 a b) (sX7_stateIn (sr m f) a b) (sr m f) := by
  have hn := h.n8
  unfold sX6_stateIn sX7_stateIn
  rw [c_req hn h.xn, m_isBeacon hn h.fn, m_slotsIn]
  simp only [bd_e]
  rw [m_goesBothR]
  rcases in_case a n with ha | ⟨k, hk, rfl⟩
  · rw [ha]
    exact QA.no (e := 3) (code := 1) x1 (nI 0) (by decide)
  · rw [inb_t hk (by omega)]
    rcases c_ahead b with ⟨e1, e2⟩ | ⟨s, hs, rfl, e1, e2⟩
    · rw [e1]
      simp (disch := omega) only [zl, zm, nI_add, pk_mul, inb_t, ix_n, gd_tt, bd_e, nm_v, ite_not, ↓reduceIte, le_t, le_f, lt_t, lt_f, eq_t, eq_f, mone_f, mone_f2, sm_il, sm_ir, Bool.toNat_true, Bool.toNat_false, Bool.and_true, Bool.and_false, Bool.true_and, Bool.false_and, Bool.not_true, Bool.not_false, Bool.false_eq_true, Bool.true_eq_false, sr_row, sr_L, e2]
      exact QA.no x1 (nI 0) (by decide)
    · rw [e1]
      obtain ⟨m2, l1, l2, l3, l4⟩ := m_leave (pI m 0 0 0 (nI 0)) f
      obtain ⟨y, f', c1, c2, c3⟩ := c_try (m := m2) h (s := s) (by omega) x1
      obtain ⟨⟨d0, d00⟩, d1, d2, d3, d4, d5, d6, d7, d8, d9, d10, d11, d12, d13, d14, d15⟩ := c3.bd hk
      obtain ⟨g, b1, b2⟩ := m_back l2 f' (gI y (k + 1) 0 6)
      refine ⟨y, .inl (gI y (k + 1) 0 6), 0, gI y (k + 1) 0 6, sr m2 g, ?_, ?_, ?_, FQ.tried l3 l4 b2, Or.inl ⟨rfl, rfl⟩⟩
      · simp (disch := omega) only [zl, zm, nI_add, pk_mul, inb_t, ix_n, gd_tt, bd_e, nm_v, ite_not, ↓reduceIte, le_t, le_f, lt_t, lt_f, eq_t, eq_f, mone_f, mone_f2, sm_il, sm_ir, Bool.toNat_true, Bool.toNat_false, Bool.and_true, Bool.and_false, Bool.true_and, Bool.false_and, Bool.not_true, Bool.not_false, Bool.false_eq_true, Bool.true_eq_false, sr_row, sr_L, e2, c1]
      · unfold sX7_cellIn
        simp (disch := omega) only [zl, zm, nI_add, pk_mul, inb_t, ix_n, gd_tt, bd_e, nm_v, ite_not, ↓reduceIte, le_t, le_f, lt_t, lt_f, eq_t, eq_f, mone_f, mone_f2, sm_il, sm_ir, Bool.toNat_true, Bool.toNat_false, Bool.and_true, Bool.and_false, Bool.true_and, Bool.false_and, Bool.not_true, Bool.not_false, Bool.false_eq_true, Bool.true_eq_false, sr_row, sr_L, l1, m_runs, c2, m_of, d6, b1]
      · rw [sr_0, l3 0 0 (by omega) (by omega), gI_pI, if_pos ⟨rfl, rfl, rfl⟩]
theorem q_energyIn (h : WS n t x f) (ht : t ≤ 99999) (a b : Int32) : QA P32 (sX6_energyIn x x1 a b) (sX7_energyIn (sr m f) a b) (sr m f) := by
  have hn := h.n8
  unfold sX6_energyIn sX7_energyIn
  rw [c_req hn h.xn, m_isBeacon hn h.fn, m_slotsIn]
  simp only [bd_e]
  rw [m_goesBothR]
  rcases in_case a n with ha | ⟨k, hk, rfl⟩
  · rw [ha]
    exact QA.no (e := 3) (code := 1) x1 (nI 0) (by decide)
  · rw [inb_t hk (by omega)]
    rcases c_ahead b with ⟨e1, e2⟩ | ⟨s, hs, rfl, e1, e2⟩
    · rw [e1]
      simp (disch := omega) only [zl, zm, nI_add, pk_mul, inb_t, ix_n, gd_tt, bd_e, nm_v, ite_not, ↓reduceIte, le_t, le_f, lt_t, lt_f, eq_t, eq_f, mone_f, mone_f2, sm_il, sm_ir, Bool.toNat_true, Bool.toNat_false, Bool.and_true, Bool.and_false, Bool.true_and, Bool.false_and, Bool.not_true, Bool.not_false, Bool.false_eq_true, Bool.true_eq_false, sr_row, sr_L, e2]
      exact QA.no x1 (nI 0) (by decide)
    · rw [e1]
      obtain ⟨m2, l1, l2, l3, l4⟩ := m_leave (pI m 0 0 0 (nI 0)) f
      obtain ⟨y, f', c1, c2, c3⟩ := c_try (m := m2) h (s := s) (by omega) x1
      obtain ⟨⟨d0, d00⟩, d1, d2, d3, d4, d5, d6, d7, d8, d9, d10, d11, d12, d13, d14, d15⟩ := c3.bd hk
      obtain ⟨g, b1, b2⟩ := m_back l2 f' (gI y (k + 1) 0 5)
      refine ⟨y, .inl (gI y (k + 1) 0 5), 0, gI y (k + 1) 0 5, sr m2 g, ?_, ?_, ?_, FQ.tried l3 l4 b2, Or.inl ⟨rfl, rfl⟩⟩
      · simp (disch := omega) only [zl, zm, nI_add, pk_mul, inb_t, ix_n, gd_tt, bd_e, nm_v, ite_not, ↓reduceIte, le_t, le_f, lt_t, lt_f, eq_t, eq_f, mone_f, mone_f2, sm_il, sm_ir, Bool.toNat_true, Bool.toNat_false, Bool.and_true, Bool.and_false, Bool.true_and, Bool.false_and, Bool.not_true, Bool.not_false, Bool.false_eq_true, Bool.true_eq_false, sr_row, sr_L, e2, c1]
      · unfold sX7_cellIn
        simp (disch := omega) only [zl, zm, nI_add, pk_mul, inb_t, ix_n, gd_tt, bd_e, nm_v, ite_not, ↓reduceIte, le_t, le_f, lt_t, lt_f, eq_t, eq_f, mone_f, mone_f2, sm_il, sm_ir, Bool.toNat_true, Bool.toNat_false, Bool.and_true, Bool.and_false, Bool.true_and, Bool.false_and, Bool.not_true, Bool.not_false, Bool.false_eq_true, Bool.true_eq_false, sr_row, sr_L, l1, m_runs, c2, m_of, d5, b1]
      · rw [sr_0, l3 0 0 (by omega) (by omega), gI_pI, if_pos ⟨rfl, rfl, rfl⟩]
theorem q_collisionsIn (h : WS n t x f) (ht : t ≤ 99999) (a : Int32) : QA P2 (sX6_collisionsIn x x1 a) (sX7_collisionsIn (sr m f) a) (sr m f) := by
  have hn := h.n8
  unfold sX6_collisionsIn sX7_collisionsIn
  rw [m_slotsIn]
  simp only [bd_e]
  rw [m_goesR]
  rcases c_ahead a with ⟨e1, e2⟩ | ⟨s, hs, rfl, e1, e2⟩
  · rw [e1, e2]
    exact QA.no x1 (nI 0) (by decide)
  · rw [e1]
    obtain ⟨m2, l1, l2, l3, l4⟩ := m_leave (pI m 0 0 0 (nI 0)) f
    obtain ⟨y, f', c1, c2, c3⟩ := c_try (m := m2) h (s := s) (by omega) x1
    have h6 := h.hd.2.2.2.2.1
    have h6' := c3.hd.2.2.2.2.1
    obtain ⟨g, b1, b2⟩ := m_back l2 f' (gI y 0 0 9 - gI x 0 0 9)
    refine ⟨y, .inl (gI y 0 0 9 - gI x 0 0 9), 0, gI y 0 0 9 - gI x 0 0 9, sr m2 g, ?_, ?_, ?_, FQ.tried l3 l4 b2, Or.inl ⟨rfl, rfl⟩⟩
    · simp (disch := omega) only [zl, zm, nI_add, pk_mul, inb_t, ix_n, gd_tt, bd_e, nm_v, ite_not, ↓reduceIte, le_t, le_f, lt_t, lt_f, eq_t, eq_f, mone_f, mone_f2, sm_il, sm_ir, Bool.toNat_true, Bool.toNat_false, Bool.and_true, Bool.and_false, Bool.true_and, Bool.false_and, Bool.not_true, Bool.not_false, Bool.false_eq_true, Bool.true_eq_false, sr_row, sr_L, e2, c1]
    · unfold sX7_collisionsBy
      simp (disch := omega) only [zl, zm, nI_add, pk_mul, inb_t, ix_n, gd_tt, bd_e, nm_v, ite_not, ↓reduceIte, le_t, le_f, lt_t, lt_f, eq_t, eq_f, mone_f, mone_f2, sm_il, sm_ir, Bool.toNat_true, Bool.toNat_false, Bool.and_true, Bool.and_false, Bool.true_and, Bool.false_and, Bool.not_true, Bool.not_false, Bool.false_eq_true, Bool.true_eq_false, sr_row, sr_L, l1, m_runs, c2, h6, h6', b1]
    · rw [sr_0, l3 0 0 (by omega) (by omega), gI_pI, if_pos ⟨rfl, rfl, rfl⟩]
theorem c_pass1 (x : St) : sX5_pass x (nI 1) = passed x := by
  obtain ⟨F, hF⟩ : ∃ F, FU = F + 1 + 1 := ⟨999998, rfl⟩
  unfold sX5_pass passed
  rw [hF]
  simp only [sX5_pass_b2]
  simp (disch := omega) only [zl, zm, nI_add, pk_mul, inb_t, ix_n, gd_tt, bd_e, nm_v, ite_not, ↓reduceIte, le_t, le_f, lt_t, lt_f, eq_t, eq_f, mone_f, mone_f2]
/-- one slot more of a try -/
theorem c_slot (h : WT n t wl x f) (ht : t < 199000) : ∃ y f', sX5_pass x (nI 1) = some y ∧ sX7_slot (sr m f) = some (sr m f') ∧ WT n (t + 1) wl y f' := by
  rw [c_pass1]
  exact s_slot h ht
end
