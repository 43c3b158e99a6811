/-! stage B: in how many slots something comes -/
section
variable {n t wl : Nat} {x x1 m c : St} {f g : Nat → Int32}
theorem WR.knq {cm wm e k j : Nat} {q : Bool} (h : WR n t cm wl wm q e x f) (hk : k < n) (hj : j < n) : knF f k j = knP x (k + 1) j := by
  obtain ⟨⟨d0, d00⟩, d1, d2, d3, d4, d5, d6, d7, d8, d9, d10, d11, d12, d13, d14, d15⟩ := h.bd hk
  obtain ⟨w18, w19, w20, w21, w22, w23, w24, w25⟩ := h.hd
  unfold knF knP
  rw [d14 j hj, w19, h.ft, h.xt]
theorem hc_known {k j : Nat} (h : WT n t wl x f) (hk : k < n) (hj : j < n) : sX6_hasCome x (nI 0) (nI k) (nI j) = some (nI (knP x (k + 1) j).toNat) := by
  have hn := h.n8
  unfold sX6_hasCome
  have hck := c_known hn h.xn (k + 1)
  have hb8 := mkS_lt8 (knP x (k + 1)) hn
  have hin := c_isIn (a := mkS (knP x (k + 1)) n) (k := j) (by omega) (by omega)
  rw [mkS_bit, decide_eq_true hj, Bool.true_and] at hin
  simp (disch := omega) only [zl, zm, nI_add, pk_mul, inb_t, ix_n, gd_tt, bd_e, nm_v, ite_not, ↓reduceIte, le_t, le_f, lt_t, lt_f, eq_t, eq_f, mone_f, mone_f2, sm_il, sm_ir, Bool.toNat_true, Bool.toNat_false, Bool.and_true, Bool.and_false, Bool.true_and, Bool.false_and, Bool.not_true, Bool.not_false, Bool.false_eq_true, Bool.true_eq_false, sr_row, sr_L, hck, hin, isb_z]
theorem mc_known {k j : Nat} (h : WT n t wl x f) (hk : k < n) (hj : j < n) : sX7_isKnown (sr m f) (nI k) (nI j) = some (nI (knP x (k + 1) j).toNat) := by
  have hn := h.n8
  rw [m_isKnown (by omega), h.knq hk hj]
def allB (n : Nat) (x : St) : Bool := decide (∀ k, k < n → NB x k &&& (mkS (knP x (k + 1)) n ^^^ 255) = 0)
theorem hc_all (h : WT n t wl x f) : sX6_hasCome x (nI 1) (nI 0) (nI 0) = some (nI (allB n x).toNat) := by
  have hn := h.n8
  unfold sX6_hasCome
  have hck := c_allKnown hn h.xn h.NBf
  simp (disch := omega) only [zl, zm, nI_add, pk_mul, inb_t, ix_n, gd_tt, bd_e, nm_v, ite_not, ↓reduceIte, le_t, le_f, lt_t, lt_f, eq_t, eq_f, mone_f, mone_f2, sm_il, sm_ir, Bool.toNat_true, Bool.toNat_false, Bool.and_true, Bool.and_false, Bool.true_and, Bool.false_and, Bool.not_true, Bool.not_false, Bool.false_eq_true, Bool.true_eq_false, sr_row, sr_L, hck, isb_z]
  rfl
theorem mc_all (h : WT n t wl x f) : sX7_allKnow (sr m f) = some (nI (allB n x).toNat) := by
  have hn := h.n8
  rw [m_allKnow hn h.fn (fun k hk => h.fb hk)]
  have : (∀ k, k < n → NB x k &&& (mkS (knF f k) n ^^^ 255) = 0) ↔ ∀ k, k < n → NB x k &&& (mkS (knP x (k + 1)) n ^^^ 255) = 0 := by
    constructor
    · intro h1 k hk; rw [← h.kn hk]; exact h1 k hk
    · intro h1 k hk; rw [h.kn hk]; exact h1 k hk
  rw [show decide (∀ k, k < n → NB x k &&& (mkS (knF f k) n ^^^ 255) = 0) = allB n x from decide_eq_decide.mpr this]
theorem hc_out {k : Nat} (h : WT n t wl x f) (hk : k < n) : sX6_hasCome x (nI 2) (nI k) (nI 0) = some (nI (decide (gI x (k + 1) 0 6 = nI 4)).toNat) := by
  have hn := h.n8
  unfold sX6_hasCome
  by_cases h0 : gI x (k + 1) 0 6 = nI 4
  · simp (disch := omega) only [zl, zm, nI_add, pk_mul, inb_t, ix_n, gd_tt, bd_e, nm_v, ite_not, ↓reduceIte, le_t, le_f, lt_t, lt_f, eq_t, eq_f, mone_f, mone_f2, sm_il, sm_ir, Bool.toNat_true, Bool.toNat_false, Bool.and_true, Bool.and_false, Bool.true_and, Bool.false_and, Bool.not_true, Bool.not_false, Bool.false_eq_true, Bool.true_eq_false, sr_row, sr_L, h0, decide_true]
  · simp (disch := omega) only [zl, zm, nI_add, pk_mul, inb_t, ix_n, gd_tt, bd_e, nm_v, ite_not, ↓reduceIte, le_t, le_f, lt_t, lt_f, eq_t, eq_f, mone_f, mone_f2, sm_il, sm_ir, Bool.toNat_true, Bool.toNat_false, Bool.and_true, Bool.and_false, Bool.true_and, Bool.false_and, Bool.not_true, Bool.not_false, Bool.false_eq_true, Bool.true_eq_false, sr_row, sr_L, h0, decide_false]
theorem mc_out {k : Nat} (h : WT n t wl x f) (hk : k < n) : sX7_isAt (sr m f) (nI k) (nI 4) = some (nI (decide (gI x (k + 1) 0 6 = nI 4)).toNat) := by
  have hn := h.n8
  obtain ⟨⟨d0, d00⟩, d1, d2, d3, d4, d5, d6, _⟩ := h.bd hk
  rw [m_isAt _ rfl (by omega), d6]
theorem lo_knows {k j : Nat} (ht : t ≤ 99999) (hk : k < n) (hj : j < n) : ∀ (d i F G : Nat) (y : St) (f : Nat → Int32), i + d = 300 → d + 1 < F → d < G → WT n (t + i) wl y f → ∃ y' f' v, sX6_slotsUntil_b8 F x y (nI 0) (nI k) (nI j) (nI i) = some (y', v) ∧ sX7_knowsIn_b21 G (sr m f) (nI k) (nI j) (nI i) = bd (sX7_comesBack (sr m f') v) fun q => some (q.1, q.2) := by
  intro d
  induction d with
  | zero =>
    intro i F G y f hi hF hG h
    obtain rfl : i = 300 := by omega
    obtain ⟨F, rfl⟩ : ∃ z, F = z + 1 + 1 := ⟨F - 2, by omega⟩
    obtain ⟨G, rfl⟩ : ∃ z, G = z + 1 := ⟨G - 1, by omega⟩
    have e1 := hc_known h hk hj
    have e2 := mc_known (m := m) h hk hj
    cases hb : knP y (k + 1) j with
    | true =>
      refine ⟨y, f, nI 300, ?_, ?_⟩
      · simp only [sX6_slotsUntil_b8]
        simp (disch := omega) only [zl, zm, nI_add, pk_mul, inb_t, ix_n, gd_tt, bd_e, nm_v, ite_not, ↓reduceIte, le_t, le_f, lt_t, lt_f, eq_t, eq_f, mone_f, mone_f2, sm_il, sm_ir, Bool.toNat_true, Bool.toNat_false, Bool.and_true, Bool.and_false, Bool.true_and, Bool.false_and, Bool.not_true, Bool.not_false, Bool.false_eq_true, Bool.true_eq_false, sr_row, sr_L, e1, hb]
      · simp only [sX7_knowsIn_b21, sX7_knowsIn_b47, sX7_knowsIn_b62]
        simp (disch := omega) only [zl, zm, nI_add, pk_mul, inb_t, ix_n, gd_tt, bd_e, nm_v, ite_not, ↓reduceIte, le_t, le_f, lt_t, lt_f, eq_t, eq_f, mone_f, mone_f2, sm_il, sm_ir, Bool.toNat_true, Bool.toNat_false, Bool.and_true, Bool.and_false, Bool.true_and, Bool.false_and, Bool.not_true, Bool.not_false, Bool.false_eq_true, Bool.true_eq_false, sr_row, sr_L, e2, hb]
    | false =>
      obtain ⟨y', f', g1, g2, g3⟩ := c_slot (m := m) h (by omega)
      refine ⟨y', f, mone, ?_, ?_⟩
      · simp only [sX6_slotsUntil_b8]
        simp (disch := omega) only [zl, zm, nI_add, pk_mul, inb_t, ix_n, gd_tt, bd_e, nm_v, ite_not, ↓reduceIte, le_t, le_f, lt_t, lt_f, eq_t, eq_f, mone_f, mone_f2, sm_il, sm_ir, Bool.toNat_true, Bool.toNat_false, Bool.and_true, Bool.and_false, Bool.true_and, Bool.false_and, Bool.not_true, Bool.not_false, Bool.false_eq_true, Bool.true_eq_false, sr_row, sr_L, e1, hb, g1]
      · simp only [sX7_knowsIn_b21, sX7_knowsIn_b47, sX7_knowsIn_b62]
        simp (disch := omega) only [zl, zm, nI_add, pk_mul, inb_t, ix_n, gd_tt, bd_e, nm_v, ite_not, ↓reduceIte, le_t, le_f, lt_t, lt_f, eq_t, eq_f, mone_f, mone_f2, sm_il, sm_ir, Bool.toNat_true, Bool.toNat_false, Bool.and_true, Bool.and_false, Bool.true_and, Bool.false_and, Bool.not_true, Bool.not_false, Bool.false_eq_true, Bool.true_eq_false, sr_row, sr_L, e2, hb]
  | succ d ih =>
    intro i F G y f hi hF hG h
    obtain ⟨F, rfl⟩ : ∃ z, F = z + 1 := ⟨F - 1, by omega⟩
    obtain ⟨G, rfl⟩ : ∃ z, G = z + 1 := ⟨G - 1, by omega⟩
    have e1 := hc_known h hk hj
    have e2 := mc_known (m := m) h hk hj
    cases hb : knP y (k + 1) j with
    | true =>
      refine ⟨y, f, nI i, ?_, ?_⟩
      · simp only [sX6_slotsUntil_b8]
        simp (disch := omega) only [zl, zm, nI_add, pk_mul, inb_t, ix_n, gd_tt, bd_e, nm_v, ite_not, ↓reduceIte, le_t, le_f, lt_t, lt_f, eq_t, eq_f, mone_f, mone_f2, sm_il, sm_ir, Bool.toNat_true, Bool.toNat_false, Bool.and_true, Bool.and_false, Bool.true_and, Bool.false_and, Bool.not_true, Bool.not_false, Bool.false_eq_true, Bool.true_eq_false, sr_row, sr_L, e1, hb]
      · simp only [sX7_knowsIn_b21, sX7_knowsIn_b47, sX7_knowsIn_b62]
        simp (disch := omega) only [zl, zm, nI_add, pk_mul, inb_t, ix_n, gd_tt, bd_e, nm_v, ite_not, ↓reduceIte, le_t, le_f, lt_t, lt_f, eq_t, eq_f, mone_f, mone_f2, sm_il, sm_ir, Bool.toNat_true, Bool.toNat_false, Bool.and_true, Bool.and_false, Bool.true_and, Bool.false_and, Bool.not_true, Bool.not_false, Bool.false_eq_true, Bool.true_eq_false, sr_row, sr_L, e2, hb]
    | false =>
      obtain ⟨y', f', g1, g2, g3⟩ := c_slot (m := m) h (by omega)
      obtain ⟨y2, f2, v, q1, q2⟩ := ih (i + 1) F G y' f' (by omega) (by omega) (by omega) g3
      refine ⟨y2, f2, v, ?_, ?_⟩
      · simp only [sX6_slotsUntil_b8]
        simp (disch := omega) only [zl, zm, nI_add, pk_mul, inb_t, ix_n, gd_tt, bd_e, nm_v, ite_not, ↓reduceIte, le_t, le_f, lt_t, lt_f, eq_t, eq_f, mone_f, mone_f2, sm_il, sm_ir, Bool.toNat_true, Bool.toNat_false, Bool.and_true, Bool.and_false, Bool.true_and, Bool.false_and, Bool.not_true, Bool.not_false, Bool.false_eq_true, Bool.true_eq_false, sr_row, sr_L, e1, hb, g1, q1]
      · simp only [sX7_knowsIn_b21]
        simp (disch := omega) only [zl, zm, nI_add, pk_mul, inb_t, ix_n, gd_tt, bd_e, nm_v, ite_not, ↓reduceIte, le_t, le_f, lt_t, lt_f, eq_t, eq_f, mone_f, mone_f2, sm_il, sm_ir, Bool.toNat_true, Bool.toNat_false, Bool.and_true, Bool.and_false, Bool.true_and, Bool.false_and, Bool.not_true, Bool.not_false, Bool.false_eq_true, Bool.true_eq_false, sr_row, sr_L, e2, hb, g2, q2]
theorem lo_all (ht : t ≤ 99999) : ∀ (d i F G : Nat) (y : St) (f : Nat → Int32), i + d = 300 → d + 1 < F → d < G → WT n (t + i) wl y f → ∃ y' f' v, sX6_slotsUntil_b8 F x y (nI 1) (nI 0) (nI 0) (nI i) = some (y', v) ∧ sX7_allKnownIn_b11 G (sr m f) (nI i) = bd (sX7_comesBack (sr m f') v) fun q => some (q.1, q.2) := by
  intro d
  induction d with
  | zero =>
    intro i F G y f hi hF hG h
    obtain rfl : i = 300 := by omega
    obtain ⟨F, rfl⟩ : ∃ z, F = z + 1 + 1 := ⟨F - 2, by omega⟩
    obtain ⟨G, rfl⟩ : ∃ z, G = z + 1 := ⟨G - 1, by omega⟩
    have e1 := hc_all h
    have e2 := mc_all (m := m) h
    cases hb : allB n y with
    | true =>
      refine ⟨y, f, nI 300, ?_, ?_⟩
      · simp only [sX6_slotsUntil_b8]
        simp (disch := omega) only [zl, zm, nI_add, pk_mul, inb_t, ix_n, gd_tt, bd_e, nm_v, ite_not, ↓reduceIte, le_t, le_f, lt_t, lt_f, eq_t, eq_f, mone_f, mone_f2, sm_il, sm_ir, Bool.toNat_true, Bool.toNat_false, Bool.and_true, Bool.and_false, Bool.true_and, Bool.false_and, Bool.not_true, Bool.not_false, Bool.false_eq_true, Bool.true_eq_false, sr_row, sr_L, e1, hb]
      · simp only [sX7_allKnownIn_b11, sX7_allKnownIn_b35, sX7_allKnownIn_b48]
        simp (disch := omega) only [zl, zm, nI_add, pk_mul, inb_t, ix_n, gd_tt, bd_e, nm_v, ite_not, ↓reduceIte, le_t, le_f, lt_t, lt_f, eq_t, eq_f, mone_f, mone_f2, sm_il, sm_ir, Bool.toNat_true, Bool.toNat_false, Bool.and_true, Bool.and_false, Bool.true_and, Bool.false_and, Bool.not_true, Bool.not_false, Bool.false_eq_true, Bool.true_eq_false, sr_row, sr_L, e2, hb]
    | false =>
      obtain ⟨y', f', g1, g2, g3⟩ := c_slot (m := m) h (by omega)
      refine ⟨y', f, mone, ?_, ?_⟩
      · simp only [sX6_slotsUntil_b8]
        simp (disch := omega) only [zl, zm, nI_add, pk_mul, inb_t, ix_n, gd_tt, bd_e, nm_v, ite_not, ↓reduceIte, le_t, le_f, lt_t, lt_f, eq_t, eq_f, mone_f, mone_f2, sm_il, sm_ir, Bool.toNat_true, Bool.toNat_false, Bool.and_true, Bool.and_false, Bool.true_and, Bool.false_and, Bool.not_true, Bool.not_false, Bool.false_eq_true, Bool.true_eq_false, sr_row, sr_L, e1, hb, g1]
      · simp only [sX7_allKnownIn_b11, sX7_allKnownIn_b35, sX7_allKnownIn_b48]
        simp (disch := omega) only [zl, zm, nI_add, pk_mul, inb_t, ix_n, gd_tt, bd_e, nm_v, ite_not, ↓reduceIte, le_t, le_f, lt_t, lt_f, eq_t, eq_f, mone_f, mone_f2, sm_il, sm_ir, Bool.toNat_true, Bool.toNat_false, Bool.and_true, Bool.and_false, Bool.true_and, Bool.false_and, Bool.not_true, Bool.not_false, Bool.false_eq_true, Bool.true_eq_false, sr_row, sr_L, e2, hb]
  | succ d ih =>
    intro i F G y f hi hF hG h
    obtain ⟨F, rfl⟩ : ∃ z, F = z + 1 := ⟨F - 1, by omega⟩
    obtain ⟨G, rfl⟩ : ∃ z, G = z + 1 := ⟨G - 1, by omega⟩
    have e1 := hc_all h
    have e2 := mc_all (m := m) h
    cases hb : allB n y with
    | true =>
      refine ⟨y, f, nI i, ?_, ?_⟩
      · simp only [sX6_slotsUntil_b8]
        simp (disch := omega) only [zl, zm, nI_add, pk_mul, inb_t, ix_n, gd_tt, bd_e, nm_v, ite_not, ↓reduceIte, le_t, le_f, lt_t, lt_f, eq_t, eq_f, mone_f, mone_f2, sm_il, sm_ir, Bool.toNat_true, Bool.toNat_false, Bool.and_true, Bool.and_false, Bool.true_and, Bool.false_and, Bool.not_true, Bool.not_false, Bool.false_eq_true, Bool.true_eq_false, sr_row, sr_L, e1, hb]
      · simp only [sX7_allKnownIn_b11, sX7_allKnownIn_b35, sX7_allKnownIn_b48]
        simp (disch := omega) only [zl, zm, nI_add, pk_mul, inb_t, ix_n, gd_tt, bd_e, nm_v, ite_not, ↓reduceIte, le_t, le_f, lt_t, lt_f, eq_t, eq_f, mone_f, mone_f2, sm_il, sm_ir, Bool.toNat_true, Bool.toNat_false, Bool.and_true, Bool.and_false, Bool.true_and, Bool.false_and, Bool.not_true, Bool.not_false, Bool.false_eq_true, Bool.true_eq_false, sr_row, sr_L, e2, hb]
    | false =>
      obtain ⟨y', f', g1, g2, g3⟩ := c_slot (m := m) h (by omega)
      obtain ⟨y2, f2, v, q1, q2⟩ := ih (i + 1) F G y' f' (by omega) (by omega) (by omega) g3
      refine ⟨y2, f2, v, ?_, ?_⟩
      · simp only [sX6_slotsUntil_b8]
        simp (disch := omega) only [zl, zm, nI_add, pk_mul, inb_t, ix_n, gd_tt, bd_e, nm_v, ite_not, ↓reduceIte, le_t, le_f, lt_t, lt_f, eq_t, eq_f, mone_f, mone_f2, sm_il, sm_ir, Bool.toNat_true, Bool.toNat_false, Bool.and_true, Bool.and_false, Bool.true_and, Bool.false_and, Bool.not_true, Bool.not_false, Bool.false_eq_true, Bool.true_eq_false, sr_row, sr_L, e1, hb, g1, q1]
      · simp only [sX7_allKnownIn_b11]
        simp (disch := omega) only [zl, zm, nI_add, pk_mul, inb_t, ix_n, gd_tt, bd_e, nm_v, ite_not, ↓reduceIte, le_t, le_f, lt_t, lt_f, eq_t, eq_f, mone_f, mone_f2, sm_il, sm_ir, Bool.toNat_true, Bool.toNat_false, Bool.and_true, Bool.and_false, Bool.true_and, Bool.false_and, Bool.not_true, Bool.not_false, Bool.false_eq_true, Bool.true_eq_false, sr_row, sr_L, e2, hb, g2, q2]
theorem lo_out {k : Nat} (ht : t ≤ 99999) (hk : k < n) : ∀ (d i F G : Nat) (y : St) (f : Nat → Int32), i + d = 300 → d + 1 < F → d < G → WT n (t + i) wl y f → ∃ y' f' v, sX6_slotsUntil_b8 F x y (nI 2) (nI k) (nI 0) (nI i) = some (y', v) ∧ sX7_stateWithin_b6 G (sr m f) (nI k) (nI 4) (nI i) = bd (sX7_comesBack (sr m f') v) fun q => some (q.1, q.2) := by
  intro d
  induction d with
  | zero =>
    intro i F G y f hi hF hG h
    obtain rfl : i = 300 := by omega
    obtain ⟨F, rfl⟩ : ∃ z, F = z + 1 + 1 := ⟨F - 2, by omega⟩
    obtain ⟨G, rfl⟩ : ∃ z, G = z + 1 := ⟨G - 1, by omega⟩
    have e1 := hc_out h hk
    have e2 := mc_out (m := m) h hk
    cases hb : decide (gI y (k + 1) 0 6 = nI 4) with
    | true =>
      refine ⟨y, f, nI 300, ?_, ?_⟩
      · simp only [sX6_slotsUntil_b8]
        simp (disch := omega) only [zl, zm, nI_add, pk_mul, inb_t, ix_n, gd_tt, bd_e, nm_v, ite_not, ↓reduceIte, le_t, le_f, lt_t, lt_f, eq_t, eq_f, mone_f, mone_f2, sm_il, sm_ir, Bool.toNat_true, Bool.toNat_false, Bool.and_true, Bool.and_false, Bool.true_and, Bool.false_and, Bool.not_true, Bool.not_false, Bool.false_eq_true, Bool.true_eq_false, sr_row, sr_L, e1, hb]
      · simp only [sX7_stateWithin_b6, sX7_stateWithin_b32, sX7_stateWithin_b47]
        simp (disch := omega) only [zl, zm, nI_add, pk_mul, inb_t, ix_n, gd_tt, bd_e, nm_v, ite_not, ↓reduceIte, le_t, le_f, lt_t, lt_f, eq_t, eq_f, mone_f, mone_f2, sm_il, sm_ir, Bool.toNat_true, Bool.toNat_false, Bool.and_true, Bool.and_false, Bool.true_and, Bool.false_and, Bool.not_true, Bool.not_false, Bool.false_eq_true, Bool.true_eq_false, sr_row, sr_L, e2, hb]
    | false =>
      obtain ⟨y', f', g1, g2, g3⟩ := c_slot (m := m) h (by omega)
      refine ⟨y', f, mone, ?_, ?_⟩
      · simp only [sX6_slotsUntil_b8]
        simp (disch := omega) only [zl, zm, nI_add, pk_mul, inb_t, ix_n, gd_tt, bd_e, nm_v, ite_not, ↓reduceIte, le_t, le_f, lt_t, lt_f, eq_t, eq_f, mone_f, mone_f2, sm_il, sm_ir, Bool.toNat_true, Bool.toNat_false, Bool.and_true, Bool.and_false, Bool.true_and, Bool.false_and, Bool.not_true, Bool.not_false, Bool.false_eq_true, Bool.true_eq_false, sr_row, sr_L, e1, hb, g1]
      · simp only [sX7_stateWithin_b6, sX7_stateWithin_b32, sX7_stateWithin_b47]
        simp (disch := omega) only [zl, zm, nI_add, pk_mul, inb_t, ix_n, gd_tt, bd_e, nm_v, ite_not, ↓reduceIte, le_t, le_f, lt_t, lt_f, eq_t, eq_f, mone_f, mone_f2, sm_il, sm_ir, Bool.toNat_true, Bool.toNat_false, Bool.and_true, Bool.and_false, Bool.true_and, Bool.false_and, Bool.not_true, Bool.not_false, Bool.false_eq_true, Bool.true_eq_false, sr_row, sr_L, e2, hb]
  | succ d ih =>
    intro i F G y f hi hF hG h
    obtain ⟨F, rfl⟩ : ∃ z, F = z + 1 := ⟨F - 1, by omega⟩
    obtain ⟨G, rfl⟩ : ∃ z, G = z + 1 := ⟨G - 1, by omega⟩
    have e1 := hc_out h hk
    have e2 := mc_out (m := m) h hk
    cases hb : decide (gI y (k + 1) 0 6 = nI 4) with
    | true =>
      refine ⟨y, f, nI i, ?_, ?_⟩
      · simp only [sX6_slotsUntil_b8]
        simp (disch := omega) only [zl, zm, nI_add, pk_mul, inb_t, ix_n, gd_tt, bd_e, nm_v, ite_not, ↓reduceIte, le_t, le_f, lt_t, lt_f, eq_t, eq_f, mone_f, mone_f2, sm_il, sm_ir, Bool.toNat_true, Bool.toNat_false, Bool.and_true, Bool.and_false, Bool.true_and, Bool.false_and, Bool.not_true, Bool.not_false, Bool.false_eq_true, Bool.true_eq_false, sr_row, sr_L, e1, hb]
      · simp only [sX7_stateWithin_b6, sX7_stateWithin_b32, sX7_stateWithin_b47]
        simp (disch := omega) only [zl, zm, nI_add, pk_mul, inb_t, ix_n, gd_tt, bd_e, nm_v, ite_not, ↓reduceIte, le_t, le_f, lt_t, lt_f, eq_t, eq_f, mone_f, mone_f2, sm_il, sm_ir, Bool.toNat_true, Bool.toNat_false, Bool.and_true, Bool.and_false, Bool.true_and, Bool.false_and, Bool.not_true, Bool.not_false, Bool.false_eq_true, Bool.true_eq_false, sr_row, sr_L, e2, hb]
    | false =>
      obtain ⟨y', f', g1, g2, g3⟩ := c_slot (m := m) h (by omega)
      obtain ⟨y2, f2, v, q1, q2⟩ := ih (i + 1) F G y' f' (by omega) (by omega) (by omega) g3
      refine ⟨y2, f2, v, ?_, ?_⟩
      · simp only [sX6_slotsUntil_b8]
        simp (disch := omega) only [zl, zm, nI_add, pk_mul, inb_t, ix_n, gd_tt, bd_e, nm_v, ite_not, ↓reduceIte, le_t, le_f, lt_t, lt_f, eq_t, eq_f, mone_f, mone_f2, sm_il, sm_ir, Bool.toNat_true, Bool.toNat_false, Bool.and_true, Bool.and_false, Bool.true_and, Bool.false_and, Bool.not_true, Bool.not_false, Bool.false_eq_true, Bool.true_eq_false, sr_row, sr_L, e1, hb, g1, q1]
      · simp only [sX7_stateWithin_b6]
        simp (disch := omega) only [zl, zm, nI_add, pk_mul, inb_t, ix_n, gd_tt, bd_e, nm_v, ite_not, ↓reduceIte, le_t, le_f, lt_t, lt_f, eq_t, eq_f, mone_f, mone_f2, sm_il, sm_ir, Bool.toNat_true, Bool.toNat_false, Bool.and_true, Bool.and_false, Bool.true_and, Bool.false_and, Bool.not_true, Bool.not_false, Bool.false_eq_true, Bool.true_eq_false, sr_row, sr_L, e2, hb, g2, q2]
theorem WR.snd {cm wm e : Nat} {q : Bool} (h : WR n t cm wl wm q e x f) : ∃ s, s < 256 ∧ gI x 0 0 10 = nI s ∧ f 12 = nI s := by
  obtain ⟨c, w', tr, sn, w1, w2, w3, w4, w5, w6, w7, w8, w9, w10, w11, w12, w13, w14, w15, w16, w17, w18, w19, w20, w21, w22, w23, w24, w25⟩ := h.1
  exact ⟨sn, w8, w14, w24.trans w14⟩
def sdB (x : St) (k : Nat) : Bool := (ix (gI x 0 0 10)).testBit k
theorem hc_sends {k : Nat} (h : WT n t wl x f) (hk : k < n) : sX6_hasCome x (nI 3) (nI k) (nI 0) = some (nI (sdB x k).toNat) := by
  have hn := h.n8
  obtain ⟨s, h1, h2, h3⟩ := h.snd
  have hin := c_isIn (a := s) (k := k) (by omega) (by omega)
  unfold sX6_hasCome sdB
  rw [h2]
  simp (disch := omega) only [zl, zm, nI_add, pk_mul, inb_t, ix_n, gd_tt, bd_e, nm_v, ite_not, ↓reduceIte, le_t, le_f, lt_t, lt_f, eq_t, eq_f, mone_f, mone_f2, sm_il, sm_ir, Bool.toNat_true, Bool.toNat_false, Bool.and_true, Bool.and_false, Bool.true_and, Bool.false_and, Bool.not_true, Bool.not_false, Bool.false_eq_true, Bool.true_eq_false, sr_row, sr_L, hin, isb_z]
theorem mc_sends {k : Nat} (h : WT n t wl x f) (hk : k < n) : sX7_has (f 12) (nI k) = some (nI (sdB x k).toNat) := by
  have hn := h.n8
  obtain ⟨s, h1, h2, h3⟩ := h.snd
  have hin := m_has (a := s) (k := k) (by omega) (by omega)
  unfold sdB
  rw [h2, h3, hin, ix_n (by omega)]
theorem hc_well {k : Nat} {v : Int32} (h : WT n t wl x f) (hk : k < n) : sX6_hasCome x (nI 4) (nI k) v = some (nI (!(decide (gI x (k + 1) 0 11 ≤ v))).toNat) := by
  have hn := h.n8
  unfold sX6_hasCome
  by_cases h0 : gI x (k + 1) 0 11 ≤ v
  · simp (disch := omega) only [zl, zm, nI_add, pk_mul, inb_t, ix_n, gd_tt, bd_e, nm_v, ite_not, ↓reduceIte, le_t, le_f, lt_t, lt_f, eq_t, eq_f, mone_f, mone_f2, sm_il, sm_ir, Bool.toNat_true, Bool.toNat_false, Bool.and_true, Bool.and_false, Bool.true_and, Bool.false_and, Bool.not_true, Bool.not_false, Bool.false_eq_true, Bool.true_eq_false, sr_row, sr_L, h0, decide_true]
  · simp (disch := omega) only [zl, zm, nI_add, pk_mul, inb_t, ix_n, gd_tt, bd_e, nm_v, ite_not, ↓reduceIte, le_t, le_f, lt_t, lt_f, eq_t, eq_f, mone_f, mone_f2, sm_il, sm_ir, Bool.toNat_true, Bool.toNat_false, Bool.and_true, Bool.and_false, Bool.true_and, Bool.false_and, Bool.not_true, Bool.not_false, Bool.false_eq_true, Bool.true_eq_false, sr_row, sr_L, h0, decide_false]
theorem lo_sends {k : Nat} (ht : t ≤ 99999) (hk : k < n) : ∀ (d i F G : Nat) (y : St) (f f1 : Nat → Int32), i + d = 300 → d + 1 < F → d + 1 < G → sX7_slot (sr m f) = some (sr m f1) → WT n (t + i) wl y f1 → ∃ y' f' v, sX6_slotsUntil_b8 F x y (nI 3) (nI k) (nI 0) (nI i) = some (y', v) ∧ sX7_sendsIn_b31 G (sr m f) (nI k) (nI i) = bd (sX7_comesBack (sr m f') v) fun q => some (q.1, q.2) := by
  intro d
  induction d with
  | zero =>
    intro i F G y f f1 hi hF hG hs h
    obtain rfl : i = 300 := by omega
    obtain ⟨F, rfl⟩ : ∃ z, F = z + 1 + 1 := ⟨F - 2, by omega⟩
    obtain ⟨G, rfl⟩ : ∃ z, G = z + 1 + 1 := ⟨G - 2, by omega⟩
    have e1 := hc_sends h hk
    have e2 := mc_sends h hk
    cases hb : sdB y k with
    | true =>
      refine ⟨y, f1, nI 300, ?_, ?_⟩
      · simp only [sX6_slotsUntil_b8]
        simp (disch := omega) only [zl, zm, nI_add, pk_mul, inb_t, ix_n, gd_tt, bd_e, nm_v, ite_not, ↓reduceIte, le_t, le_f, lt_t, lt_f, eq_t, eq_f, mone_f, mone_f2, sm_il, sm_ir, Bool.toNat_true, Bool.toNat_false, Bool.and_true, Bool.and_false, Bool.true_and, Bool.false_and, Bool.not_true, Bool.not_false, Bool.false_eq_true, Bool.true_eq_false, sr_row, sr_L, e1, hb]
      · simp only [sX7_sendsIn_b31]
        simp (disch := omega) only [zl, zm, nI_add, pk_mul, inb_t, ix_n, gd_tt, bd_e, nm_v, ite_not, ↓reduceIte, le_t, le_f, lt_t, lt_f, eq_t, eq_f, mone_f, mone_f2, sm_il, sm_ir, Bool.toNat_true, Bool.toNat_false, Bool.and_true, Bool.and_false, Bool.true_and, Bool.false_and, Bool.not_true, Bool.not_false, Bool.false_eq_true, Bool.true_eq_false, sr_row, sr_L, hs, e2, hb]
    | false =>
      obtain ⟨y', f', g1, g2, g3⟩ := c_slot (m := m) h (by omega)
      refine ⟨y', f1, mone, ?_, ?_⟩
      · simp only [sX6_slotsUntil_b8]
        simp (disch := omega) only [zl, zm, nI_add, pk_mul, inb_t, ix_n, gd_tt, bd_e, nm_v, ite_not, ↓reduceIte, le_t, le_f, lt_t, lt_f, eq_t, eq_f, mone_f, mone_f2, sm_il, sm_ir, Bool.toNat_true, Bool.toNat_false, Bool.and_true, Bool.and_false, Bool.true_and, Bool.false_and, Bool.not_true, Bool.not_false, Bool.false_eq_true, Bool.true_eq_false, sr_row, sr_L, e1, hb, g1]
      · simp only [sX7_sendsIn_b31]
        simp (disch := omega) only [zl, zm, nI_add, pk_mul, inb_t, ix_n, gd_tt, bd_e, nm_v, ite_not, ↓reduceIte, le_t, le_f, lt_t, lt_f, eq_t, eq_f, mone_f, mone_f2, sm_il, sm_ir, Bool.toNat_true, Bool.toNat_false, Bool.and_true, Bool.and_false, Bool.true_and, Bool.false_and, Bool.not_true, Bool.not_false, Bool.false_eq_true, Bool.true_eq_false, sr_row, sr_L, hs, e2, hb]
  | succ d ih =>
    intro i F G y f f1 hi hF hG hs h
    obtain ⟨F, rfl⟩ : ∃ z, F = z + 1 := ⟨F - 1, by omega⟩
    obtain ⟨G, rfl⟩ : ∃ z, G = z + 1 := ⟨G - 1, by omega⟩
    have e1 := hc_sends h hk
    have e2 := mc_sends h hk
    cases hb : sdB y k with
    | true =>
      refine ⟨y, f1, nI i, ?_, ?_⟩
      · simp only [sX6_slotsUntil_b8]
        simp (disch := omega) only [zl, zm, nI_add, pk_mul, inb_t, ix_n, gd_tt, bd_e, nm_v, ite_not, ↓reduceIte, le_t, le_f, lt_t, lt_f, eq_t, eq_f, mone_f, mone_f2, sm_il, sm_ir, Bool.toNat_true, Bool.toNat_false, Bool.and_true, Bool.and_false, Bool.true_and, Bool.false_and, Bool.not_true, Bool.not_false, Bool.false_eq_true, Bool.true_eq_false, sr_row, sr_L, e1, hb]
      · simp only [sX7_sendsIn_b31]
        simp (disch := omega) only [zl, zm, nI_add, pk_mul, inb_t, ix_n, gd_tt, bd_e, nm_v, ite_not, ↓reduceIte, le_t, le_f, lt_t, lt_f, eq_t, eq_f, mone_f, mone_f2, sm_il, sm_ir, Bool.toNat_true, Bool.toNat_false, Bool.and_true, Bool.and_false, Bool.true_and, Bool.false_and, Bool.not_true, Bool.not_false, Bool.false_eq_true, Bool.true_eq_false, sr_row, sr_L, hs, e2, hb]
    | false =>
      obtain ⟨y', f', g1, g2, g3⟩ := c_slot (m := m) h (by omega)
      obtain ⟨y2, f2, v, q1, q2⟩ := ih (i + 1) F G y' f1 f' (by omega) (by omega) (by omega) g2 g3
      refine ⟨y2, f2, v, ?_, ?_⟩
      · simp only [sX6_slotsUntil_b8]
        simp (disch := omega) only [zl, zm, nI_add, pk_mul, inb_t, ix_n, gd_tt, bd_e, nm_v, ite_not, ↓reduceIte, le_t, le_f, lt_t, lt_f, eq_t, eq_f, mone_f, mone_f2, sm_il, sm_ir, Bool.toNat_true, Bool.toNat_false, Bool.and_true, Bool.and_false, Bool.true_and, Bool.false_and, Bool.not_true, Bool.not_false, Bool.false_eq_true, Bool.true_eq_false, sr_row, sr_L, e1, hb, g1, q1]
      · simp only [sX7_sendsIn_b31]
        simp (disch := omega) only [zl, zm, nI_add, pk_mul, inb_t, ix_n, gd_tt, bd_e, nm_v, ite_not, ↓reduceIte, le_t, le_f, lt_t, lt_f, eq_t, eq_f, mone_f, mone_f2, sm_il, sm_ir, Bool.toNat_true, Bool.toNat_false, Bool.and_true, Bool.and_false, Bool.true_and, Bool.false_and, Bool.not_true, Bool.not_false, Bool.false_eq_true, Bool.true_eq_false, sr_row, sr_L, hs, e2, hb, q2]
theorem lo_well {k : Nat} {v0 : Int32} (ht : t ≤ 99999) (hk : k < n) : ∀ (d i F G : Nat) (y : St) (f f1 : Nat → Int32), i + d = 300 → d + 1 < F → d + 1 < G → sX7_slot (sr m f) = some (sr m f1) → WT n (t + i) wl y f1 → ∃ y' f' v, sX6_slotsUntil_b8 F x y (nI 4) (nI k) v0 (nI i) = some (y', v) ∧ sX7_wellIn_b28 G (sr m f) (nI k) v0 (nI i) = bd (sX7_comesBack (sr m f') v) fun q => some (q.1, q.2) := by
  intro d
  induction d with
  | zero =>
    intro i F G y f f1 hi hF hG hs h
    obtain rfl : i = 300 := by omega
    obtain ⟨F, rfl⟩ : ∃ z, F = z + 1 + 1 := ⟨F - 2, by omega⟩
    obtain ⟨G, rfl⟩ : ∃ z, G = z + 1 + 1 := ⟨G - 2, by omega⟩
    have e1 := hc_well (v := v0) h hk
    have hn := h.n8
    obtain ⟨⟨d0, d00⟩, d1, d2, d3, d4, d5, d6, d7, d8, d9, d10, d11, d12, d13, d14, d15⟩ := h.bd hk
    have e2 := m_of (m := m) (f := f1) (b := k) (w := 11) (by omega)
    rw [d10] at e2
    rcases Decidable.em (¬ gI y (k + 1) 0 11 ≤ v0) with hb | hb
    ·
      refine ⟨y, f1, nI 300, ?_, ?_⟩
      · simp only [sX6_slotsUntil_b8]
        simp (disch := omega) only [zl, zm, nI_add, pk_mul, inb_t, ix_n, gd_tt, bd_e, nm_v, ite_not, ↓reduceIte, le_t, le_f, lt_t, lt_f, eq_t, eq_f, mone_f, mone_f2, sm_il, sm_ir, Bool.toNat_true, Bool.toNat_false, Bool.and_true, Bool.and_false, Bool.true_and, Bool.false_and, Bool.not_true, Bool.not_false, Bool.false_eq_true, Bool.true_eq_false, sr_row, sr_L, e1, hb, decide_true, decide_false]
      · simp only [sX7_wellIn_b28]
        simp (disch := omega) only [zl, zm, nI_add, pk_mul, inb_t, ix_n, gd_tt, bd_e, nm_v, ite_not, ↓reduceIte, le_t, le_f, lt_t, lt_f, eq_t, eq_f, mone_f, mone_f2, sm_il, sm_ir, Bool.toNat_true, Bool.toNat_false, Bool.and_true, Bool.and_false, Bool.true_and, Bool.false_and, Bool.not_true, Bool.not_false, Bool.false_eq_true, Bool.true_eq_false, sr_row, sr_L, hs, e2, hb]
    · have hb : gI y (k + 1) 0 11 ≤ v0 := Decidable.not_not.mp hb
      obtain ⟨y', f', g1, g2, g3⟩ := c_slot (m := m) h (by omega)
      refine ⟨y', f1, mone, ?_, ?_⟩
      · simp only [sX6_slotsUntil_b8]
        simp (disch := omega) only [zl, zm, nI_add, pk_mul, inb_t, ix_n, gd_tt, bd_e, nm_v, ite_not, ↓reduceIte, le_t, le_f, lt_t, lt_f, eq_t, eq_f, mone_f, mone_f2, sm_il, sm_ir, Bool.toNat_true, Bool.toNat_false, Bool.and_true, Bool.and_false, Bool.true_and, Bool.false_and, Bool.not_true, Bool.not_false, Bool.false_eq_true, Bool.true_eq_false, sr_row, sr_L, e1, hb, decide_true, decide_false, g1]
      · simp only [sX7_wellIn_b28]
        simp (disch := omega) only [zl, zm, nI_add, pk_mul, inb_t, ix_n, gd_tt, bd_e, nm_v, ite_not, ↓reduceIte, le_t, le_f, lt_t, lt_f, eq_t, eq_f, mone_f, mone_f2, sm_il, sm_ir, Bool.toNat_true, Bool.toNat_false, Bool.and_true, Bool.and_false, Bool.true_and, Bool.false_and, Bool.not_true, Bool.not_false, Bool.false_eq_true, Bool.true_eq_false, sr_row, sr_L, hs, e2, hb]
  | succ d ih =>
    intro i F G y f f1 hi hF hG hs h
    obtain ⟨F, rfl⟩ : ∃ z, F = z + 1 := ⟨F - 1, by omega⟩
    obtain ⟨G, rfl⟩ : ∃ z, G = z + 1 := ⟨G - 1, by omega⟩
    have e1 := hc_well (v := v0) h hk
    have hn := h.n8
    obtain ⟨⟨d0, d00⟩, d1, d2, d3, d4, d5, d6, d7, d8, d9, d10, d11, d12, d13, d14, d15⟩ := h.bd hk
    have e2 := m_of (m := m) (f := f1) (b := k) (w := 11) (by omega)
    rw [d10] at e2
    rcases Decidable.em (¬ gI y (k + 1) 0 11 ≤ v0) with hb | hb
    ·
      refine ⟨y, f1, nI i, ?_, ?_⟩
      · simp only [sX6_slotsUntil_b8]
        simp (disch := omega) only [zl, zm, nI_add, pk_mul, inb_t, ix_n, gd_tt, bd_e, nm_v, ite_not, ↓reduceIte, le_t, le_f, lt_t, lt_f, eq_t, eq_f, mone_f, mone_f2, sm_il, sm_ir, Bool.toNat_true, Bool.toNat_false, Bool.and_true, Bool.and_false, Bool.true_and, Bool.false_and, Bool.not_true, Bool.not_false, Bool.false_eq_true, Bool.true_eq_false, sr_row, sr_L, e1, hb, decide_true, decide_false]
      · simp only [sX7_wellIn_b28]
        simp (disch := omega) only [zl, zm, nI_add, pk_mul, inb_t, ix_n, gd_tt, bd_e, nm_v, ite_not, ↓reduceIte, le_t, le_f, lt_t, lt_f, eq_t, eq_f, mone_f, mone_f2, sm_il, sm_ir, Bool.toNat_true, Bool.toNat_false, Bool.and_true, Bool.and_false, Bool.true_and, Bool.false_and, Bool.not_true, Bool.not_false, Bool.false_eq_true, Bool.true_eq_false, sr_row, sr_L, hs, e2, hb]
    · have hb : gI y (k + 1) 0 11 ≤ v0 := Decidable.not_not.mp hb
      obtain ⟨y', f', g1, g2, g3⟩ := c_slot (m := m) h (by omega)
      obtain ⟨y2, f2, v, q1, q2⟩ := ih (i + 1) F G y' f1 f' (by omega) (by omega) (by omega) g2 g3
      refine ⟨y2, f2, v, ?_, ?_⟩
      · simp only [sX6_slotsUntil_b8]
        simp (disch := omega) only [zl, zm, nI_add, pk_mul, inb_t, ix_n, gd_tt, bd_e, nm_v, ite_not, ↓reduceIte, le_t, le_f, lt_t, lt_f, eq_t, eq_f, mone_f, mone_f2, sm_il, sm_ir, Bool.toNat_true, Bool.toNat_false, Bool.and_true, Bool.and_false, Bool.true_and, Bool.false_and, Bool.not_true, Bool.not_false, Bool.false_eq_true, Bool.true_eq_false, sr_row, sr_L, e1, hb, decide_true, decide_false, g1, q1]
      · simp only [sX7_wellIn_b28]
        simp (disch := omega) only [zl, zm, nI_add, pk_mul, inb_t, ix_n, gd_tt, bd_e, nm_v, ite_not, ↓reduceIte, le_t, le_f, lt_t, lt_f, eq_t, eq_f, mone_f, mone_f2, sm_il, sm_ir, Bool.toNat_true, Bool.toNat_false, Bool.and_true, Bool.and_false, Bool.true_and, Bool.false_and, Bool.not_true, Bool.not_false, Bool.false_eq_true, Bool.true_eq_false, sr_row, sr_L, hs, e2, hb, q2]
end
