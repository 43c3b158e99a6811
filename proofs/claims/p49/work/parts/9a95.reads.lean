/-! stage B: what is there, and reasons: the readers of both sides answer alike -/
def P3 : List (Nat × Nat) := [(3, 1)]
def P2 : List (Nat × Nat) := [(2, 1)]
def P32 : List (Nat × Nat) := [(3, 1), (2, 2)]
section
variable {n t : Nat} {x m c : St} {f : Nat → Int32} {P : List (Nat × Nat)}
/-- both refuse a beacon that isn't -/
theorem a_no {α : Type} {e : Nat} (h : (3, 1) ∈ P) : Ans P (.inr 3) 1 (nI 0) := Or.inr ⟨3, rfl, h⟩
theorem a_yes (v : Int32) : Ans P (.inl v) 0 v := Or.inl ⟨rfl, rfl⟩
theorem WR.hd {cm wl wm e : Nat} {q : Bool} (h : WR n t cm wl wm q e x f) : f 2 = gI x 0 0 3 ∧ f 3 = gI x 0 0 4 ∧ f 4 = gI x 0 0 7 ∧ f 5 = gI x 0 0 8 ∧ f 6 = gI x 0 0 9 ∧ f 7 = gI x 0 0 6 ∧ f 12 = gI x 0 0 10 ∧ ∀ k, k < 4 → f (8 + k) = gI x 0 1 k := by
  obtain ⟨c, w', tr, sn, w1, w2, w3, w4, w5, w6, w7, w8, w9, w10, w11, w12, w13, w14, w15, w16, w17, w18, w19, w20, w21, w22, w23, w24, w25⟩ := h.1
  exact ⟨w18, w19, w20, w21, w22, w23, w24, w25⟩
theorem in_case (a : Int32) (n : Nat) : inb a n = false ∨ ∃ k, k < n ∧ a = nI k := by
  cases h : inb a n with
  | false => exact Or.inl rfl
  | true =>
    obtain ⟨k, h1, h2⟩ := inb_ex h
    exact Or.inr ⟨k, h1, h2⟩
theorem smN_bits (p : Nat → Bool) : ∀ k, smN (fun i => (p i).toNat) k = pcN (mkS p k) k
  | 0 => rfl
  | k + 1 => by
    have h : ∀ j, j ≤ k → pcN (mkS p (k + 1)) j = pcN (mkS p k) j := by
      intro j
      induction j with
      | zero => intro _; rfl
      | succ j ih =>
        intro hj
        show pcN (mkS p (k + 1)) j + ((mkS p (k + 1)).testBit j).toNat = pcN (mkS p k) j + ((mkS p k).testBit j).toNat
        rw [ih (by omega), mkS_bit, mkS_bit, decide_eq_true (by omega : j < k + 1), decide_eq_true (by omega : j < k)]
    show smN (fun i => (p i).toNat) k + (p k).toNat = pcN (mkS p (k + 1)) k + ((mkS p (k + 1)).testBit k).toNat
    rw [smN_bits p k, h k (Nat.le_refl k), mkS_bit, decide_eq_true (by omega : k < k + 1), Bool.true_and]
theorem pcN_more {a n : Nat} (h : a < 2 ^ n) : ∀ d, pcN a (n + d) = pcN a n
  | 0 => rfl
  | d + 1 => by
    show pcN a (n + d) + (a.testBit (n + d)).toNat = pcN a n
    rw [pcN_more h d, Nat.testBit_lt_two_pow (Nat.lt_of_lt_of_le h (Nat.pow_le_pow_right (n := 2) (by decide) (by omega : n ≤ n + d)))]
    rfl
theorem c_out (hn : n ≤ 8) (hx : gI x 0 0 2 = nI n) : sX5_outCount x = some (nI (smN (fun k => (decide (gI x (k + 1) 0 6 = nI 4)).toNat) n)) := by
  unfold sX5_outCount
  simp only [zl]
  rw [c_inState hn hx]
  have h1 := mkS_lt8 (fun k => decide (gI x (k + 1) 0 6 = nI 4)) hn
  simp only [bd_e]
  rw [c_bc h1, smN_bits]
  have h2 := pcN_more (mkS_lt (fun k => decide (gI x (k + 1) 0 6 = nI 4)) n) (8 - n)
  rw [show n + (8 - n) = 8 by omega] at h2
  rw [h2]; rfl
theorem q_setting (h : WS n t x f) (hu : gI m 0 0 21 = gI c 0 0 9) (a : Int32) : ∃ r code v, sX6_setting x c a = some r ∧ sX7_setting (sr m f) a = some (sr (pI m 0 0 0 (nI code)) f, v) ∧ Ans P2 r code v := by
  have hn := h.n8
  obtain ⟨w18, w19, w20, w21, w22, w23, w24, w25⟩ := h.hd
  have hin : sX7_isIn a.toInt64 (0 : Int64) (10 : Int64) = some (nI (inR a (nI 0) (nI 10)).toNat) := m_isIn a (nI 0) (nI 10)
  have hcp := c_pairs hn h.xn (fun k hk => h.nb hk)
  have hco := c_out hn h.xn
  have hmp := m_pairs (m := pI m 0 0 0 (nI 0)) hn h.fn (fun k hk => h.fb hk)
  have hmo := m_outMany (m := pI m 0 0 0 (nI 0)) hn h.fn
  have hoo : smN (fun k => (decide (f (21 + 43 * k + 5) = nI 4)).toNat) n = smN (fun k => (decide (gI x (k + 1) 0 6 = nI 4)).toNat) n := smN_cg fun k hk => by
    obtain ⟨_, _, _, _, _, _, d, _⟩ := h.bd hk
    rw [d]
  rw [hoo] at hmo
  unfold sX7_setting
  rw [hin]
  simp only [bd_e]
  rw [m_goesR]
  cases hr : inR a (nI 0) (nI 10) with
  | true =>
    have h10 : ∃ k, k ≤ 10 ∧ a = nI k := by
      unfold inR at hr
      rw [Bool.and_eq_true, decide_eq_true_iff, decide_eq_true_iff] at hr
      exact nI_of2 (M := nI 10) (by decide) (i_nlt.mpr hr.1) hr.2
    obtain ⟨k, hk, rfl⟩ := h10
    rcases (by omega : k = 0 ∨ k = 1 ∨ k = 2 ∨ k = 3 ∨ k = 4 ∨ k = 5 ∨ k = 6 ∨ k = 7 ∨ k = 8 ∨ k = 9 ∨ k = 10) with rfl | rfl | rfl | rfl | rfl | rfl | rfl | rfl | rfl | rfl | rfl
    all_goals exact ⟨.inl _, 0, _, (by unfold sX6_setting; simp (disch := omega) only [zl, zm, nI_add, pk_mul, inb_t, ix_n, gd_tt, bd_e, nm_v, ite_not, ↓reduceIte, le_t, le_f, lt_t, lt_f, eq_t, eq_f, mone_f, mone_f2, sm_il, sm_ir, Bool.toNat_true, Bool.toNat_false, Bool.and_true, Bool.and_false, Bool.true_and, Bool.false_and, Bool.not_true, Bool.not_false, Bool.false_eq_true, Bool.true_eq_false, sr_row, sr_L, hcp, hco, h.xn, h.xt]; rfl), (by simp (disch := omega) only [zl, zm, nI_add, pk_mul, inb_t, ix_n, gd_tt, bd_e, nm_v, ite_not, ↓reduceIte, le_t, le_f, lt_t, lt_f, eq_t, eq_f, mone_f, mone_f2, sm_il, sm_ir, Bool.toNat_true, Bool.toNat_false, Bool.and_true, Bool.and_false, Bool.true_and, Bool.false_and, Bool.not_true, Bool.not_false, Bool.false_eq_true, Bool.true_eq_false, sr_row, sr_L, sr_0, gI_pI, gL_pL, gI_pL, gL_pI, qn, not_true_eq_false, not_false_eq_true, true_and, and_true, false_and, and_false, and_self, Nat.add_right_cancel_iff, hmp, hmo, h.fn, h.ft, w18, w19, w20, w21, w22, w23, hu]), Or.inl ⟨rfl, rfl⟩⟩
  | false =>
    have hne : ∀ k, k ≤ 10 → ¬ a = nI k := fun k hk e => by
      rw [e] at hr
      unfold inR at hr
      rw [decide_eq_true (nI_le (Nat.zero_le k) (by omega)), decide_eq_true (nI_le hk (by omega))] at hr
      cases hr
    refine ⟨.inr 2, 1, nI 0, ?_, ?_, Or.inr ⟨2, rfl, List.mem_singleton.mpr rfl⟩⟩
    · unfold sX6_setting
      simp only [zl]
      rw [if_neg (hne 0 (by omega)), if_neg (hne 1 (by omega)), if_neg (hne 2 (by omega)), if_neg (hne 3 (by omega)), if_neg (hne 4 (by omega)), if_neg (hne 5 (by omega)), if_neg (hne 6 (by omega)), if_neg (hne 7 (by omega)), if_neg (hne 8 (by omega)), if_neg (hne 9 (by omega)), if_neg (hne 10 (by omega))]
    · first | rfl | (simp only [Bool.false_and, Bool.and_false, Bool.false_eq_true, ↓reduceIte]; rfl)
theorem q_beacon (h : WS n t x f) (a b : Int32) : ∃ r code v, sX6_beacon x a b = some r ∧ sX7_beacon (sr m f) a b = some (sr (pI m 0 0 0 (nI code)) f, v) ∧ Ans P32 r code v := by
  have hn := h.n8
  have hin : sX7_isIn b.toInt64 (0 : Int64) (13 : Int64) = some (nI (inR b (nI 0) (nI 13)).toNat) := m_isIn b (nI 0) (nI 13)
  unfold sX6_beacon sX7_beacon
  rw [c_req hn h.xn, m_isBeacon hn h.fn, hin]
  simp only [bd_e]
  rw [m_goesBothR]
  rcases in_case a n with ha | ⟨k, hk, rfl⟩
  · rw [ha]
    exact ⟨.inr 3, 1, nI 0, by first | rfl | (simp only [Bool.false_and, Bool.and_false, Bool.false_eq_true, ↓reduceIte]; rfl), by first | rfl | (simp only [Bool.false_and, Bool.and_false, Bool.false_eq_true, ↓reduceIte]; rfl), Or.inr ⟨3, rfl, by decide⟩⟩
  · rw [inb_t hk (by omega)]
    obtain ⟨⟨d0, d00⟩, d1, d2, d3, d4, d5, d6, d7, d8, d9, d10, d11, d12, d13, d14, d15⟩ := h.bd hk
    obtain ⟨p, g, l, s, en, st, lf, fl, a, sk, h1, h2, h3, h4, h5, h6, h7, h8, h9, h10, h11, h12⟩ := h.bk hk
    have hck := c_known hn h.xn (k + 1)
    have hmk := m_knownSet (m := pI m 0 0 0 (nI 0)) hn h.fn (b := k) (by omega)
    rw [h.kn hk] at hmk
    cases hr : inR b (nI 0) (nI 13) with
    | true =>
      have h13 : ∃ k, k ≤ 13 ∧ b = nI k := by
        unfold inR at hr
        rw [Bool.and_eq_true, decide_eq_true_iff, decide_eq_true_iff] at hr
        exact nI_of2 (M := nI 13) (by decide) (i_nlt.mpr hr.1) hr.2
      obtain ⟨j, hj, rfl⟩ := h13
      rcases (by omega : j = 0 ∨ j = 1 ∨ j = 2 ∨ j = 3 ∨ j = 4 ∨ j = 5 ∨ j = 6 ∨ j = 7 ∨ j = 8 ∨ j = 9 ∨ j = 10 ∨ j = 11 ∨ j = 12 ∨ j = 13) with rfl | rfl | rfl | rfl | rfl | rfl | rfl | rfl | rfl | rfl | rfl | rfl | rfl | rfl
      case inr.inr.inr.inr.inr.inr.inr.inr.inl =>
        refine ⟨.inl (nI sk.toNat), 0, nI sk.toNat, ?_, ?_, Or.inl ⟨rfl, rfl⟩⟩
        · cases sk <;> simp (disch := omega) only [zl, zm, nI_add, pk_mul, inb_t, ix_n, gd_tt, bd_e, nm_v, ite_not, ↓reduceIte, le_t, le_f, lt_t, lt_f, eq_t, eq_f, mone_f, mone_f2, sm_il, sm_ir, Bool.toNat_true, Bool.toNat_false, Bool.and_true, Bool.and_false, Bool.true_and, Bool.false_and, Bool.not_true, Bool.not_false, Bool.false_eq_true, Bool.true_eq_false, sr_row, sr_L, h9]
        · simp (disch := omega) only [zl, zm, nI_add, pk_mul, inb_t, ix_n, gd_tt, bd_e, nm_v, ite_not, ↓reduceIte, le_t, le_f, lt_t, lt_f, eq_t, eq_f, mone_f, mone_f2, sm_il, sm_ir, Bool.toNat_true, Bool.toNat_false, Bool.and_true, Bool.and_false, Bool.true_and, Bool.false_and, Bool.not_true, Bool.not_false, Bool.false_eq_true, Bool.true_eq_false, sr_row, sr_L, m_of, d9, h9]
      all_goals exact ⟨.inl _, 0, _, (by simp (disch := omega) only [zl, zm, nI_add, pk_mul, inb_t, ix_n, gd_tt, bd_e, nm_v, ite_not, ↓reduceIte, le_t, le_f, lt_t, lt_f, eq_t, eq_f, mone_f, mone_f2, sm_il, sm_ir, Bool.toNat_true, Bool.toNat_false, Bool.and_true, Bool.and_false, Bool.true_and, Bool.false_and, Bool.not_true, Bool.not_false, Bool.false_eq_true, Bool.true_eq_false, sr_row, sr_L, hck]; rfl), (by simp (disch := omega) only [zl, zm, nI_add, pk_mul, inb_t, ix_n, gd_tt, bd_e, nm_v, ite_not, ↓reduceIte, le_t, le_f, lt_t, lt_f, eq_t, eq_f, mone_f, mone_f2, sm_il, sm_ir, Bool.toNat_true, Bool.toNat_false, Bool.and_true, Bool.and_false, Bool.true_and, Bool.false_and, Bool.not_true, Bool.not_false, Bool.false_eq_true, Bool.true_eq_false, sr_row, sr_L, sr_0, m_of, hmk, d0, d1, d2, d3, d4, d5, d6, d7, d8, d10, d11, d12]), Or.inl ⟨rfl, rfl⟩⟩
    | false =>
      have hne : ∀ k, k ≤ 13 → ¬ b = nI k := fun k hk e => by
        rw [e] at hr
        unfold inR at hr
        rw [decide_eq_true (nI_le (Nat.zero_le k) (by omega)), decide_eq_true (nI_le hk (by omega))] at hr
        cases hr
      refine ⟨.inr 2, 2, nI 0, ?_, ?_, Or.inr ⟨2, rfl, by decide⟩⟩
      · simp only [↓reduceIte, sm_il, inb_t hk (Nat.le_trans hn (by decide)), gd_tt]
        rw [inb_t (N := 8) (by omega) (by omega), gd_tt]
        simp only [zl]
        rw [if_neg (hne 0 (by omega)), if_neg (hne 1 (by omega)), if_neg (hne 2 (by omega)), if_neg (hne 3 (by omega)), if_neg (hne 4 (by omega)), if_neg (hne 5 (by omega)), if_neg (hne 6 (by omega)), if_neg (hne 7 (by omega)), if_neg (hne 8 (by omega)), if_neg (hne 9 (by omega)), if_neg (hne 10 (by omega)), if_neg (hne 11 (by omega)), if_neg (hne 12 (by omega)), if_neg (hne 13 (by omega))]
      · first | rfl | (simp only [Bool.false_and, Bool.and_false, Bool.false_eq_true, ↓reduceIte]; rfl)
theorem q_slots (h : WS n t x f) (a b : Int32) : ∃ r code v, sX6_slots x a b = some r ∧ sX7_slots (sr m f) a b = some (sr (pI m 0 0 0 (nI code)) f, v) ∧ Ans P32 r code v := by
  have hn := h.n8
  have hin : sX7_isIn b.toInt64 (0 : Int64) (3 : Int64) = some (nI (inR b (nI 0) (nI 3)).toNat) := m_isIn b (nI 0) (nI 3)
  unfold sX6_slots sX7_slots sX6_slots_b14
  rw [c_req hn h.xn, m_isBeacon hn h.fn, hin]
  simp only [bd_e]
  rw [m_goesBothR]
  rcases in_case a n with ha | ⟨k, hk, rfl⟩
  · rw [ha]
    exact ⟨.inr 3, 1, nI 0, by first | rfl | (simp only [Bool.false_and, Bool.and_false, Bool.false_eq_true, ↓reduceIte]; rfl), by first | rfl | (simp only [Bool.false_and, Bool.and_false, Bool.false_eq_true, ↓reduceIte]; rfl), Or.inr ⟨3, rfl, by decide⟩⟩
  · rw [inb_t hk (by omega)]
    obtain ⟨⟨d0, d00⟩, d1, d2, d3, d4, d5, d6, d7, d8, d9, d10, d11, d12, d13, d14, d15⟩ := h.bd hk
    cases hr : inR b (nI 0) (nI 3) with
    | true =>
      have h13 : ∃ k, k ≤ 3 ∧ b = nI k := by
        unfold inR at hr
        rw [Bool.and_eq_true, decide_eq_true_iff, decide_eq_true_iff] at hr
        exact nI_of2 (M := nI 3) (by decide) (i_nlt.mpr hr.1) hr.2
      obtain ⟨j, hj, rfl⟩ := h13
      exact ⟨.inl _, 0, _, (by simp (disch := omega) only [zl, zm, nI_add, pk_mul, inb_t, ix_n, gd_tt, bd_e, nm_v, ite_not, ↓reduceIte, le_t, le_f, lt_t, lt_f, eq_t, eq_f, mone_f, mone_f2, sm_il, sm_ir, Bool.toNat_true, Bool.toNat_false, Bool.and_true, Bool.and_false, Bool.true_and, Bool.false_and, Bool.not_true, Bool.not_false, Bool.false_eq_true, Bool.true_eq_false, sr_row, sr_L]; rfl), by simp (disch := omega) only [zl, zm, nI_add, pk_mul, inb_t, ix_n, gd_tt, bd_e, nm_v, ite_not, ↓reduceIte, le_t, le_f, lt_t, lt_f, eq_t, eq_f, mone_f, mone_f2, sm_il, sm_ir, Bool.toNat_true, Bool.toNat_false, Bool.and_true, Bool.and_false, Bool.true_and, Bool.false_and, Bool.not_true, Bool.not_false, Bool.false_eq_true, Bool.true_eq_false, sr_row, sr_L, m_of, d13], Or.inl ⟨rfl, rfl⟩⟩
    | false =>
      refine ⟨.inr 2, 2, nI 0, ?_, ?_, Or.inr ⟨2, rfl, by decide⟩⟩
      · simp only [sm_il, zl, ↓reduceIte]
        by_cases hb : b < nI 0
        · rw [if_pos hb]
        · rw [if_neg hb, if_neg]
          intro hb2
          unfold inR at hr
          rw [decide_eq_true (i_nlt.mp hb), Bool.true_and, decide_eq_false_iff_not, i_nle] at hr
          rw [Int32.lt_iff_toInt_lt] at hb2 hr
          rw [nI_toInt (by omega)] at hb2 hr
          omega
      · simp (disch := omega) only [zl, zm, nI_add, pk_mul, inb_t, ix_n, gd_tt, bd_e, nm_v, ite_not, ↓reduceIte, le_t, le_f, lt_t, lt_f, eq_t, eq_f, mone_f, mone_f2, sm_il, sm_ir, Bool.toNat_true, Bool.toNat_false, Bool.and_true, Bool.and_false, Bool.true_and, Bool.false_and, Bool.not_true, Bool.not_false, Bool.false_eq_true, Bool.true_eq_false, sr_row, sr_L]
theorem q_reckoned (h : WS n t x f) (a : Int32) : ∃ r code v, sX6_reckoned x a = some r ∧ sX7_reckoned (sr m f) a = some (sr (pI m 0 0 0 (nI code)) f, v) ∧ Ans P3 r code v := by
  have hn := h.n8
  unfold sX6_reckoned sX7_reckoned
  rw [c_req hn h.xn, m_isBeacon hn h.fn]
  simp only [bd_e]
  rw [m_goesR]
  rcases in_case a n with ha | ⟨k, hk, rfl⟩
  · rw [ha]
    exact ⟨.inr 3, 1, nI 0, by first | rfl | (simp only [Bool.false_and, Bool.and_false, Bool.false_eq_true, ↓reduceIte]; rfl), by first | rfl | (simp only [Bool.false_and, Bool.and_false, Bool.false_eq_true, ↓reduceIte]; rfl), Or.inr ⟨3, rfl, by decide⟩⟩
  · rw [inb_t hk (by omega)]
    obtain ⟨⟨d0, d00⟩, d1, d2, d3, d4, d5, d6, d7, d8, d9, d10, d11, d12, d13, d14, d15⟩ := h.bd hk
    obtain ⟨w18, w19, w20, w21, w22, w23, w24, w25⟩ := h.hd
    have key : ∃ v, sX6_reckoned_b9 FU x (nI k) (nI 0) (nI 0) = some (.inl v) ∧ sX7_reckoned_b18 FU (sr (pI m 0 0 0 (nI 0)) f) (nI k) (nI 0) (nI 0) = some (sr (pI m 0 0 0 (nI 0)) f, v) := by
      obtain ⟨v1, v2, e1, e2, e3⟩ := lock_up (X := Int32) (M := Int32) 4 (fun _ u v => u = v) (fun F u j => sX6_reckoned_b9 F x (nI k) u (nI j)) (fun F u j => sX7_reckoned_b18 F (sr (pI m 0 0 0 (nI 0)) f) (nI k) u (nI j)) (fun v => some (.inl v)) (fun v => some (sr (pI m 0 0 0 (nI 0)) f, v)) (fun F u v h => by
        simp only [sX6_reckoned_b9]
        simp (disch := omega) only [zl, zm, nI_add, pk_mul, inb_t, ix_n, gd_tt, bd_e, nm_v, ite_not, ↓reduceIte, le_t, le_f, lt_t, lt_f, eq_t, eq_f, mone_f, mone_f2, sm_il, sm_ir, Bool.toNat_true, Bool.toNat_false, Bool.and_true, Bool.and_false, Bool.true_and, Bool.false_and, Bool.not_true, Bool.not_false, Bool.false_eq_true, Bool.true_eq_false, sr_row, sr_L]) (fun F u v h => by
        simp only [sX7_reckoned_b18]
        simp (disch := omega) only [zl, zm, nI_add, pk_mul, inb_t, ix_n, gd_tt, bd_e, nm_v, ite_not, ↓reduceIte, le_t, le_f, lt_t, lt_f, eq_t, eq_f, mone_f, mone_f2, sm_il, sm_ir, Bool.toNat_true, Bool.toNat_false, Bool.and_true, Bool.and_false, Bool.true_and, Bool.false_and, Bool.not_true, Bool.not_false, Bool.false_eq_true, Bool.true_eq_false, sr_row, sr_L]) (fun j u v hj huv => by
        subst huv
        refine ⟨u + gI x (k + 1) 1 j * gI x 0 1 j, _, fun F => ?_, fun F => ?_, rfl⟩
        · simp only [sX6_reckoned_b9]
          simp (disch := omega) only [zl, zm, nI_add, pk_mul, inb_t, ix_n, gd_tt, bd_e, nm_v, ite_not, ↓reduceIte, le_t, le_f, lt_t, lt_f, eq_t, eq_f, mone_f, mone_f2, sm_il, sm_ir, Bool.toNat_true, Bool.toNat_false, Bool.and_true, Bool.and_false, Bool.true_and, Bool.false_and, Bool.not_true, Bool.not_false, Bool.false_eq_true, Bool.true_eq_false, sr_row, sr_L]
        · simp only [sX7_reckoned_b18]
          simp (disch := omega) only [zl, zm, nI_add, pk_mul, inb_t, ix_n, gd_tt, bd_e, nm_v, ite_not, ↓reduceIte, le_t, le_f, lt_t, lt_f, eq_t, eq_f, mone_f, mone_f2, sm_il, sm_ir, Bool.toNat_true, Bool.toNat_false, Bool.and_true, Bool.and_false, Bool.true_and, Bool.false_and, Bool.not_true, Bool.not_false, Bool.false_eq_true, Bool.true_eq_false, sr_row, sr_L, m_of, d13, w25]) 4 0 FU FU (nI 0) (nI 0) (by omega) (FU_lt (by omega)) (FU_lt (by omega)) rfl
      subst e3
      exact ⟨v1, e1, e2⟩
    obtain ⟨v, e1, e2⟩ := key
    exact ⟨.inl v, 0, v, by simp (disch := omega) only [zl, zm, nI_add, pk_mul, inb_t, ix_n, gd_tt, bd_e, nm_v, ite_not, ↓reduceIte, le_t, le_f, lt_t, lt_f, eq_t, eq_f, mone_f, mone_f2, sm_il, sm_ir, Bool.toNat_true, Bool.toNat_false, Bool.and_true, Bool.and_false, Bool.true_and, Bool.false_and, Bool.not_true, Bool.not_false, Bool.false_eq_true, Bool.true_eq_false, sr_row, sr_L, e1], by simp (disch := omega) only [zl, zm, nI_add, pk_mul, inb_t, ix_n, gd_tt, bd_e, nm_v, ite_not, ↓reduceIte, le_t, le_f, lt_t, lt_f, eq_t, eq_f, mone_f, mone_f2, sm_il, sm_ir, Bool.toNat_true, Bool.toNat_false, Bool.and_true, Bool.and_false, Bool.true_and, Bool.false_and, Bool.not_true, Bool.not_false, Bool.false_eq_true, Bool.true_eq_false, sr_row, sr_L, e2], Or.inl ⟨rfl, rfl⟩⟩
theorem q_heard (h : WS n t x f) (a b : Int32) : ∃ r code v, sX6_heard x a b = some r ∧ sX7_heard (sr m f) a b = some (sr (pI m 0 0 0 (nI code)) f, v) ∧ Ans P3 r code v := by
  have hn := h.n8
  unfold sX6_heard sX7_heard
  rw [c_req hn h.xn, c_req hn h.xn, m_areBeacons hn h.fn]
  simp only [bd_e]
  rw [m_goesR]
  rcases in_case a n with ha | ⟨k, hk, rfl⟩
  · rw [ha]
    exact ⟨.inr 3, 1, nI 0, by first | rfl | (simp only [Bool.false_and, Bool.and_false, Bool.false_eq_true, ↓reduceIte]; rfl), by first | rfl | (simp only [Bool.false_and, Bool.and_false, Bool.false_eq_true, ↓reduceIte]; rfl), Or.inr ⟨3, rfl, by decide⟩⟩
  · rw [inb_t hk (by omega)]
    rcases in_case b n with hb | ⟨j, hj, rfl⟩
    · rw [hb]
      exact ⟨.inr 3, 1, nI 0, by first | rfl | (simp only [Bool.false_and, Bool.and_false, Bool.false_eq_true, ↓reduceIte]; rfl), by first | rfl | (simp only [Bool.false_and, Bool.and_false, Bool.false_eq_true, ↓reduceIte]; rfl), Or.inr ⟨3, rfl, by decide⟩⟩
    · rw [inb_t hj (by omega)]
      obtain ⟨⟨d0, d00⟩, d1, d2, d3, d4, d5, d6, d7, d8, d9, d10, d11, d12, d13, d14, d15⟩ := h.bd hk
      exact ⟨.inl _, 0, _, (by simp (disch := omega) only [zl, zm, nI_add, pk_mul, inb_t, ix_n, gd_tt, bd_e, nm_v, ite_not, ↓reduceIte, le_t, le_f, lt_t, lt_f, eq_t, eq_f, mone_f, mone_f2, sm_il, sm_ir, Bool.toNat_true, Bool.toNat_false, Bool.and_true, Bool.and_false, Bool.true_and, Bool.false_and, Bool.not_true, Bool.not_false, Bool.false_eq_true, Bool.true_eq_false, sr_row, sr_L]; rfl), by simp (disch := omega) only [zl, zm, nI_add, pk_mul, inb_t, ix_n, gd_tt, bd_e, nm_v, ite_not, ↓reduceIte, le_t, le_f, lt_t, lt_f, eq_t, eq_f, mone_f, mone_f2, sm_il, sm_ir, Bool.toNat_true, Bool.toNat_false, Bool.and_true, Bool.and_false, Bool.true_and, Bool.false_and, Bool.not_true, Bool.not_false, Bool.false_eq_true, Bool.true_eq_false, sr_row, sr_L, m_of, d14], Or.inl ⟨rfl, rfl⟩⟩
theorem q_knows (h : WS n t x f) (a b : Int32) : ∃ r code v, sX6_knows x a b = some r ∧ sX7_knows (sr m f) a b = some (sr (pI m 0 0 0 (nI code)) f, nI v) ∧ Ans P3 r code (nI v) ∧ v ≤ 1 := by
  have hn := h.n8
  unfold sX6_knows sX7_knows
  rw [c_req hn h.xn, c_req hn h.xn, m_areBeacons hn h.fn]
  simp only [bd_e]
  rw [m_goesR]
  rcases in_case a n with ha | ⟨k, hk, rfl⟩
  · rw [ha]
    exact ⟨.inr 3, 1, 0, by first | rfl | (simp only [Bool.false_and, Bool.and_false, Bool.false_eq_true, ↓reduceIte]; rfl), by first | rfl | (simp only [Bool.false_and, Bool.and_false, Bool.false_eq_true, ↓reduceIte]; rfl), Or.inr ⟨3, rfl, by decide⟩, by omega⟩
  · rw [inb_t hk (by omega)]
    rcases in_case b n with hb | ⟨j, hj, rfl⟩
    · rw [hb]
      exact ⟨.inr 3, 1, 0, by first | rfl | (simp only [Bool.false_and, Bool.and_false, Bool.false_eq_true, ↓reduceIte]; rfl), by first | rfl | (simp only [Bool.false_and, Bool.and_false, Bool.false_eq_true, ↓reduceIte]; rfl), Or.inr ⟨3, rfl, by decide⟩, by omega⟩
    · rw [inb_t hj (by omega)]
      have hck := c_known hn h.xn (k + 1)
      have hb8 := mkS_lt8 (knP x (k + 1)) hn
      have hin := c_isIn (a := mkS (knP x (k + 1)) n) (k := j) (by omega) (by omega)
      rw [mkS_bit, decide_eq_true hj, Bool.true_and] at hin
      have hmk := m_isKnown (m := pI m 0 0 0 (nI 0)) (f := f) (b := k) (k := j) (by omega)
      have hkk : knF f k j = knP x (k + 1) j := by
        obtain ⟨⟨d0, d00⟩, d1, d2, d3, d4, d5, d6, d7, d8, d9, d10, d11, d12, d13, d14, d15⟩ := h.bd hk
        obtain ⟨w18, w19, w20, w21, w22, w23, w24, w25⟩ := h.hd
        unfold knF knP
        rw [d14 j hj, w19, h.ft, h.xt]
      rw [hkk] at hmk
      refine ⟨.inl (nI (knP x (k + 1) j).toNat), 0, (knP x (k + 1) j).toNat, ?_, ?_, Or.inl ⟨rfl, rfl⟩, Bool.toNat_le _⟩
      · simp (disch := omega) only [zl, zm, nI_add, pk_mul, inb_t, ix_n, gd_tt, bd_e, nm_v, ite_not, ↓reduceIte, le_t, le_f, lt_t, lt_f, eq_t, eq_f, mone_f, mone_f2, sm_il, sm_ir, Bool.toNat_true, Bool.toNat_false, Bool.and_true, Bool.and_false, Bool.true_and, Bool.false_and, Bool.not_true, Bool.not_false, Bool.false_eq_true, Bool.true_eq_false, sr_row, sr_L, hck, hin, isb_z]
      · cases hz : knP x (k + 1) j with
        | true => rw [hz] at hmk; simp (disch := omega) only [zl, zm, nI_add, pk_mul, inb_t, ix_n, gd_tt, bd_e, nm_v, ite_not, ↓reduceIte, le_t, le_f, lt_t, lt_f, eq_t, eq_f, mone_f, mone_f2, sm_il, sm_ir, Bool.toNat_true, Bool.toNat_false, Bool.and_true, Bool.and_false, Bool.true_and, Bool.false_and, Bool.not_true, Bool.not_false, Bool.false_eq_true, Bool.true_eq_false, sr_row, sr_L, hmk]
        | false => rw [hz] at hmk; simp (disch := omega) only [zl, zm, nI_add, pk_mul, inb_t, ix_n, gd_tt, bd_e, nm_v, ite_not, ↓reduceIte, le_t, le_f, lt_t, lt_f, eq_t, eq_f, mone_f, mone_f2, sm_il, sm_ir, Bool.toNat_true, Bool.toNat_false, Bool.and_true, Bool.and_false, Bool.true_and, Bool.false_and, Bool.not_true, Bool.not_false, Bool.false_eq_true, Bool.true_eq_false, sr_row, sr_L, hmk]
theorem q_why (h : WS n t x f) (a : Int32) : ∃ r code v, sX6_why x a = some r ∧ sX7_why (sr m f) a = some (sr (pI m 0 0 0 (nI code)) f, v) ∧ Ans P3 r code v := by
  have hn := h.n8
  unfold sX6_why sX7_why
  rw [c_req hn h.xn, m_isBeacon hn h.fn]
  simp only [bd_e]
  rw [m_goesR]
  rcases in_case a n with ha | ⟨k, hk, rfl⟩
  · rw [ha]
    exact ⟨.inr 3, 1, nI 0, by first | rfl | (simp only [Bool.false_and, Bool.and_false, Bool.false_eq_true, ↓reduceIte]; rfl), by first | rfl | (simp only [Bool.false_and, Bool.and_false, Bool.false_eq_true, ↓reduceIte]; rfl), Or.inr ⟨3, rfl, by decide⟩⟩
  · rw [inb_t hk (by omega)]
    obtain ⟨⟨d0, d00⟩, d1, d2, d3, d4, d5, d6, d7, d8, d9, d10, d11, d12, d13, d14, d15⟩ := h.bd hk
    obtain ⟨p, g, l, s, en, st, lf, fl, a, sk, h1, h2, h3, h4, h5, h6, h7, h8, h9, h10, h11, h12⟩ := h.bk hk
    have hci := c_inState hn h.xn (nI 3)
    have hms := m_senders (m := pI m 0 0 0 (nI 0)) hn h.fn
    rw [h.sn] at hms
    rcases (by omega : st = 0 ∨ st = 1 ∨ st = 2 ∨ st = 3 ∨ st = 4) with rfl | rfl | rfl | rfl | rfl
    · exact ⟨.inl (nI 2), 0, nI 2, (by simp (disch := omega) only [zl, zm, nI_add, pk_mul, inb_t, ix_n, gd_tt, bd_e, nm_v, ite_not, ↓reduceIte, le_t, le_f, lt_t, lt_f, eq_t, eq_f, mone_f, mone_f2, sm_il, sm_ir, Bool.toNat_true, Bool.toNat_false, Bool.and_true, Bool.and_false, Bool.true_and, Bool.false_and, Bool.not_true, Bool.not_false, Bool.false_eq_true, Bool.true_eq_false, sr_row, sr_L, h6]), by simp (disch := omega) only [zl, zm, nI_add, pk_mul, inb_t, ix_n, gd_tt, bd_e, nm_v, ite_not, ↓reduceIte, le_t, le_f, lt_t, lt_f, eq_t, eq_f, mone_f, mone_f2, sm_il, sm_ir, Bool.toNat_true, Bool.toNat_false, Bool.and_true, Bool.and_false, Bool.true_and, Bool.false_and, Bool.not_true, Bool.not_false, Bool.false_eq_true, Bool.true_eq_false, sr_row, sr_L, m_of, d6, h6], Or.inl ⟨rfl, rfl⟩⟩
    · exact ⟨.inl (nI 3), 0, nI 3, (by simp (disch := omega) only [zl, zm, nI_add, pk_mul, inb_t, ix_n, gd_tt, bd_e, nm_v, ite_not, ↓reduceIte, le_t, le_f, lt_t, lt_f, eq_t, eq_f, mone_f, mone_f2, sm_il, sm_ir, Bool.toNat_true, Bool.toNat_false, Bool.and_true, Bool.and_false, Bool.true_and, Bool.false_and, Bool.not_true, Bool.not_false, Bool.false_eq_true, Bool.true_eq_false, sr_row, sr_L, h6]), by simp (disch := omega) only [zl, zm, nI_add, pk_mul, inb_t, ix_n, gd_tt, bd_e, nm_v, ite_not, ↓reduceIte, le_t, le_f, lt_t, lt_f, eq_t, eq_f, mone_f, mone_f2, sm_il, sm_ir, Bool.toNat_true, Bool.toNat_false, Bool.and_true, Bool.and_false, Bool.true_and, Bool.false_and, Bool.not_true, Bool.not_false, Bool.false_eq_true, Bool.true_eq_false, sr_row, sr_L, m_of, d6, h6], Or.inl ⟨rfl, rfl⟩⟩
    · by_cases hz : gI x (k + 1) 0 10 &&& nI (mkS (fun k => decide (gI x (k + 1) 0 6 = nI 3)) n) = nI 0
      · exact ⟨.inl (nI 5), 0, nI 5, by unfold sX6_why_b60; simp (disch := omega) only [zl, zm, nI_add, pk_mul, inb_t, ix_n, gd_tt, bd_e, nm_v, ite_not, ↓reduceIte, le_t, le_f, lt_t, lt_f, eq_t, eq_f, mone_f, mone_f2, sm_il, sm_ir, Bool.toNat_true, Bool.toNat_false, Bool.and_true, Bool.and_false, Bool.true_and, Bool.false_and, Bool.not_true, Bool.not_false, Bool.false_eq_true, Bool.true_eq_false, sr_row, sr_L, h6, hci, hz], by unfold sX7_why_b64; simp (disch := omega) only [zl, zm, nI_add, pk_mul, inb_t, ix_n, gd_tt, bd_e, nm_v, ite_not, ↓reduceIte, le_t, le_f, lt_t, lt_f, eq_t, eq_f, mone_f, mone_f2, sm_il, sm_ir, Bool.toNat_true, Bool.toNat_false, Bool.and_true, Bool.and_false, Bool.true_and, Bool.false_and, Bool.not_true, Bool.not_false, Bool.false_eq_true, Bool.true_eq_false, sr_row, sr_L, m_of, d6, h6, hms, d0, hz], Or.inl ⟨rfl, rfl⟩⟩
      · exact ⟨.inl (nI 4), 0, nI 4, by unfold sX6_why_b60; simp (disch := omega) only [zl, zm, nI_add, pk_mul, inb_t, ix_n, gd_tt, bd_e, nm_v, ite_not, ↓reduceIte, le_t, le_f, lt_t, lt_f, eq_t, eq_f, mone_f, mone_f2, sm_il, sm_ir, Bool.toNat_true, Bool.toNat_false, Bool.and_true, Bool.and_false, Bool.true_and, Bool.false_and, Bool.not_true, Bool.not_false, Bool.false_eq_true, Bool.true_eq_false, sr_row, sr_L, h6, hci, hz], by unfold sX7_why_b64; simp (disch := omega) only [zl, zm, nI_add, pk_mul, inb_t, ix_n, gd_tt, bd_e, nm_v, ite_not, ↓reduceIte, le_t, le_f, lt_t, lt_f, eq_t, eq_f, mone_f, mone_f2, sm_il, sm_ir, Bool.toNat_true, Bool.toNat_false, Bool.and_true, Bool.and_false, Bool.true_and, Bool.false_and, Bool.not_true, Bool.not_false, Bool.false_eq_true, Bool.true_eq_false, sr_row, sr_L, m_of, d6, h6, hms, d0, hz], Or.inl ⟨rfl, rfl⟩⟩
    · exact ⟨.inl (nI 0), 0, nI 0, (by simp (disch := omega) only [zl, zm, nI_add, pk_mul, inb_t, ix_n, gd_tt, bd_e, nm_v, ite_not, ↓reduceIte, le_t, le_f, lt_t, lt_f, eq_t, eq_f, mone_f, mone_f2, sm_il, sm_ir, Bool.toNat_true, Bool.toNat_false, Bool.and_true, Bool.and_false, Bool.true_and, Bool.false_and, Bool.not_true, Bool.not_false, Bool.false_eq_true, Bool.true_eq_false, sr_row, sr_L, h6]), by simp (disch := omega) only [zl, zm, nI_add, pk_mul, inb_t, ix_n, gd_tt, bd_e, nm_v, ite_not, ↓reduceIte, le_t, le_f, lt_t, lt_f, eq_t, eq_f, mone_f, mone_f2, sm_il, sm_ir, Bool.toNat_true, Bool.toNat_false, Bool.and_true, Bool.and_false, Bool.true_and, Bool.false_and, Bool.not_true, Bool.not_false, Bool.false_eq_true, Bool.true_eq_false, sr_row, sr_L, m_of, d6, h6], Or.inl ⟨rfl, rfl⟩⟩
    · exact ⟨.inl (nI 1), 0, nI 1, (by simp (disch := omega) only [zl, zm, nI_add, pk_mul, inb_t, ix_n, gd_tt, bd_e, nm_v, ite_not, ↓reduceIte, le_t, le_f, lt_t, lt_f, eq_t, eq_f, mone_f, mone_f2, sm_il, sm_ir, Bool.toNat_true, Bool.toNat_false, Bool.and_true, Bool.and_false, Bool.true_and, Bool.false_and, Bool.not_true, Bool.not_false, Bool.false_eq_true, Bool.true_eq_false, sr_row, sr_L, h6]), by simp (disch := omega) only [zl, zm, nI_add, pk_mul, inb_t, ix_n, gd_tt, bd_e, nm_v, ite_not, ↓reduceIte, le_t, le_f, lt_t, lt_f, eq_t, eq_f, mone_f, mone_f2, sm_il, sm_ir, Bool.toNat_true, Bool.toNat_false, Bool.and_true, Bool.and_false, Bool.true_and, Bool.false_and, Bool.not_true, Bool.not_false, Bool.false_eq_true, Bool.true_eq_false, sr_row, sr_L, m_of, d6, h6], Or.inl ⟨rfl, rfl⟩⟩
theorem q_whyNot (h : WS n t x f) (a b : Int32) : ∃ r code v, sX6_whyNot x a b = some r ∧ sX7_whyNot (sr m f) a b = some (sr (pI m 0 0 0 (nI code)) f, v) ∧ Ans P3 r code v := by
  have hn := h.n8
  unfold sX6_whyNot sX7_whyNot
  rw [c_req hn h.xn, c_req hn h.xn, m_areBeacons hn h.fn]
  simp only [bd_e]
  rw [m_goesR]
  rcases in_case a n with ha | ⟨k, hk, rfl⟩
  · rw [ha]
    exact ⟨.inr 3, 1, nI 0, by first | rfl | (simp only [Bool.false_and, Bool.and_false, Bool.false_eq_true, ↓reduceIte]; rfl), by first | rfl | (simp only [Bool.false_and, Bool.and_false, Bool.false_eq_true, ↓reduceIte]; rfl), Or.inr ⟨3, rfl, by decide⟩⟩
  · rw [inb_t hk (by omega)]
    rcases in_case b n with hb | ⟨j, hj, rfl⟩
    · rw [hb]
      exact ⟨.inr 3, 1, nI 0, by first | rfl | (simp only [Bool.false_and, Bool.and_false, Bool.false_eq_true, ↓reduceIte]; rfl), by first | rfl | (simp only [Bool.false_and, Bool.and_false, Bool.false_eq_true, ↓reduceIte]; rfl), Or.inr ⟨3, rfl, by decide⟩⟩
    · rw [inb_t hj (by omega)]
      obtain ⟨⟨d0, d00⟩, d1, d2, d3, d4, d5, d6, d7, d8, d9, d10, d11, d12, d13, d14, d15⟩ := h.bd hk
      by_cases hjk : k = j
      · subst hjk
        exact ⟨.inl (nI 5), 0, nI 5, by simp (disch := omega) only [zl, zm, nI_add, pk_mul, inb_t, ix_n, gd_tt, bd_e, nm_v, ite_not, ↓reduceIte, le_t, le_f, lt_t, lt_f, eq_t, eq_f, mone_f, mone_f2, sm_il, sm_ir, Bool.toNat_true, Bool.toNat_false, Bool.and_true, Bool.and_false, Bool.true_and, Bool.false_and, Bool.not_true, Bool.not_false, Bool.false_eq_true, Bool.true_eq_false, sr_row, sr_L], by simp (disch := omega) only [zl, zm, nI_add, pk_mul, inb_t, ix_n, gd_tt, bd_e, nm_v, ite_not, ↓reduceIte, le_t, le_f, lt_t, lt_f, eq_t, eq_f, mone_f, mone_f2, sm_il, sm_ir, Bool.toNat_true, Bool.toNat_false, Bool.and_true, Bool.and_false, Bool.true_and, Bool.false_and, Bool.not_true, Bool.not_false, Bool.false_eq_true, Bool.true_eq_false, sr_row, sr_L, m_of, d00], Or.inl ⟨rfl, rfl⟩⟩
      · exact ⟨.inl _, 0, _, (by simp (disch := omega) only [zl, zm, nI_add, pk_mul, inb_t, ix_n, gd_tt, bd_e, nm_v, ite_not, ↓reduceIte, le_t, le_f, lt_t, lt_f, eq_t, eq_f, mone_f, mone_f2, sm_il, sm_ir, Bool.toNat_true, Bool.toNat_false, Bool.and_true, Bool.and_false, Bool.true_and, Bool.false_and, Bool.not_true, Bool.not_false, Bool.false_eq_true, Bool.true_eq_false, sr_row, sr_L]; rfl), by simp (disch := omega) only [zl, zm, nI_add, pk_mul, inb_t, ix_n, gd_tt, bd_e, nm_v, ite_not, ↓reduceIte, le_t, le_f, lt_t, lt_f, eq_t, eq_f, mone_f, mone_f2, sm_il, sm_ir, Bool.toNat_true, Bool.toNat_false, Bool.and_true, Bool.and_false, Bool.true_and, Bool.false_and, Bool.not_true, Bool.not_false, Bool.false_eq_true, Bool.true_eq_false, sr_row, sr_L, m_of, d15], Or.inl ⟨rfl, rfl⟩⟩
theorem WR.pg {cm wl wm e : Nat} {q : Bool} {k : Nat} (h : WR n t cm wl wm q e x f) (hk : k < n) : ∃ p g, gI x (k + 1) 0 1 = nI p ∧ gI x (k + 1) 0 2 = nI g ∧ 2 ≤ p ∧ p ≤ 99 ∧ g < p := by
  obtain ⟨p, g, l, s, en, st, lf, fl, a, sk, h1, h2, h3, h4, h5, h6, h7, h8, h9, h10, h11, h12⟩ := h.bk hk
  exact ⟨p, g, h1, h2, by omega, by omega, by omega⟩
theorem q_due {k : Nat} (h : WS n t x f) (hk : k < n) : ∃ d, 1 ≤ d ∧ d ≤ 99 ∧ sX0_slotsUntilDue (k + 1) x (nI t) = some (nI d) ∧ ∀ m, sX7_dueFor (sr m f) (nI k) = some (nI d) := by
  obtain ⟨p, g, h1, h2, h3, h4, h5⟩ := h.pg hk
  obtain ⟨⟨d0, d00⟩, d1, d2, _⟩ := h.bd hk
  obtain ⟨d, hd⟩ := due_ex (t := t) h3 h4 h5
  have htl := h.tl
  have hn := h.n8
  exact ⟨d, hd.1, hd.2.1, c_until h1 h2 (by omega) (by omega) (by omega) (by omega) hd, fun m => m_until (by omega) h.ft (d1.trans h1) (d2.trans h2) (by omega) (by omega) (by omega) (by omega) hd⟩
theorem q_dueIn (h : WS n t x f) (a : Int32) : ∃ r code v, sX6_dueIn x a = some r ∧ sX7_dueIn (sr m f) a = some (sr (pI m 0 0 0 (nI code)) f, v) ∧ Ans P3 r code v := by
  have hn := h.n8
  unfold sX6_dueIn sX7_dueIn
  rw [c_req hn h.xn, m_isBeacon hn h.fn]
  simp only [bd_e]
  rw [m_goesR]
  rcases in_case a n with ha | ⟨k, hk, rfl⟩
  · rw [ha]
    exact ⟨.inr 3, 1, nI 0, by first | rfl | (simp only [Bool.false_and, Bool.and_false, Bool.false_eq_true, ↓reduceIte]; rfl), by first | rfl | (simp only [Bool.false_and, Bool.and_false, Bool.false_eq_true, ↓reduceIte]; rfl), Or.inr ⟨3, rfl, by decide⟩⟩
  · rw [inb_t hk (by omega)]
    obtain ⟨d, e1, e2, e3, e4⟩ := q_due h hk
    exact ⟨.inl (nI d), 0, nI d, by simp (disch := omega) only [zl, zm, nI_add, pk_mul, inb_t, ix_n, gd_tt, bd_e, nm_v, ite_not, ↓reduceIte, le_t, le_f, lt_t, lt_f, eq_t, eq_f, mone_f, mone_f2, sm_il, sm_ir, Bool.toNat_true, Bool.toNat_false, Bool.and_true, Bool.and_false, Bool.true_and, Bool.false_and, Bool.not_true, Bool.not_false, Bool.false_eq_true, Bool.true_eq_false, sr_row, sr_L, h.xt, e3], by simp (disch := omega) only [zl, zm, nI_add, pk_mul, inb_t, ix_n, gd_tt, bd_e, nm_v, ite_not, ↓reduceIte, le_t, le_f, lt_t, lt_f, eq_t, eq_f, mone_f, mone_f2, sm_il, sm_ir, Bool.toNat_true, Bool.toNat_false, Bool.and_true, Bool.and_false, Bool.true_and, Bool.false_and, Bool.not_true, Bool.not_false, Bool.false_eq_true, Bool.true_eq_false, sr_row, sr_L, e4], Or.inl ⟨rfl, rfl⟩⟩
theorem q_window (h : WS n t x f) (a : Int32) : ∃ r code v, sX6_window x a = some r ∧ sX7_window (sr m f) a = some (sr (pI m 0 0 0 (nI code)) f, v) ∧ Ans P3 r code v := by
  have hn := h.n8
  unfold sX6_window sX7_window
  rw [c_req hn h.xn, m_isBeacon hn h.fn]
  simp only [bd_e]
  rw [m_goesR]
  rcases in_case a n with ha | ⟨k, hk, rfl⟩
  · rw [ha]
    exact ⟨.inr 3, 1, nI 0, by first | rfl | (simp only [Bool.false_and, Bool.and_false, Bool.false_eq_true, ↓reduceIte]; rfl), by first | rfl | (simp only [Bool.false_and, Bool.and_false, Bool.false_eq_true, ↓reduceIte]; rfl), Or.inr ⟨3, rfl, by decide⟩⟩
  · rw [inb_t hk (by omega)]
    obtain ⟨⟨d0, d00⟩, d1, d2, d3, d4, d5, d6, d7, d8, d9, d10, d11, d12, d13, d14, d15⟩ := h.bd hk
    obtain ⟨p, g, l, s, en, st, lf, fl, a, sk, h1, h2, h3, h4, h5, h6, h7, h8, h9, h10, h11, h12⟩ := h.bk hk
    have e1 := c_win' (x := x) (o := k + 1) (k := fl) (by omega) h8
    have e2 := m_win (m := pI m 0 0 0 (nI 0)) (f := f) (b := k) (by omega) (k := fl) (by omega) (d8.trans h8)
    exact ⟨.inl _, 0, _, (by simp (disch := omega) only [zl, zm, nI_add, pk_mul, inb_t, ix_n, gd_tt, bd_e, nm_v, ite_not, ↓reduceIte, le_t, le_f, lt_t, lt_f, eq_t, eq_f, mone_f, mone_f2, sm_il, sm_ir, Bool.toNat_true, Bool.toNat_false, Bool.and_true, Bool.and_false, Bool.true_and, Bool.false_and, Bool.not_true, Bool.not_false, Bool.false_eq_true, Bool.true_eq_false, sr_row, sr_L, e1]; rfl), by simp (disch := omega) only [zl, zm, nI_add, pk_mul, inb_t, ix_n, gd_tt, bd_e, nm_v, ite_not, ↓reduceIte, le_t, le_f, lt_t, lt_f, eq_t, eq_f, mone_f, mone_f2, sm_il, sm_ir, Bool.toNat_true, Bool.toNat_false, Bool.and_true, Bool.and_false, Bool.true_and, Bool.false_and, Bool.not_true, Bool.not_false, Bool.false_eq_true, Bool.true_eq_false, sr_row, sr_L, e2], Or.inl ⟨rfl, rfl⟩⟩
end
