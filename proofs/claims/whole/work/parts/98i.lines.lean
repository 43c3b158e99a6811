/-! stage B: the report's lines; what is saved -/
section
variable {L n t b wl : Nat} {pg m x c x2 : St} {f : Nat → Int32} {ps : Nat → St}
theorem mf_of {a w : Nat} (h : 21 + 43 * a + w < 365) : sX7_of m (nI a) (nI w) = some (gI m 0 2 (21 + 43 * a + w)) := by
  have := m_of (m := m) (f := gI m 0 2) (b := a) (w := w) h
  rwa [sr_self] at this
theorem mf_row {m m' : St} (h : MF m m') (k : Nat) : gI m' 0 2 k = gI m 0 2 k := h.1 2 k (by omega) (by omega)
/-- a line of the report -/
theorem w_line (h : WS n t x (gI m 0 2)) (hw : NWd n x (gL m 0 7)) (hb : b < n) (hp : PGL L pg m) (hL : L + 97 ≤ 800) : ∃ pg' m' L', sX1_writeLine (b + 1) x pg = some pg' ∧ sX7_tellBeacon m (nI b) = some m' ∧ PGL L' pg' m' ∧ L' ≤ L + 97 ∧ MF m m' := by
  have hn := h.n8
  obtain ⟨⟨d0, d00⟩, d1, d2, d3, d4, d5, d6, d7, d8, d9, d10, d11, d12, d13, d14, d15⟩ := h.bd hb
  obtain ⟨p, g, l, s, en, st, lf, fl, a, sk, h1, h2, h3, h4, h5, h6, h7, h8, h9, h10, h11, h12⟩ := h.bk hb
  obtain ⟨lb, o1, o2, o3⟩ := hw.1 b hb
  have olen := o1.2.1
  obtain ⟨p1, m1, a1, a2, a3, a4⟩ := w_name o1 hp (by omega)
  obtain ⟨p2, m2, b1, b2, b3, b4⟩ := w_one a3 (by omega) (c := 32) (by omega)
  obtain ⟨w, p3, m3, L3, c1, c2, ⟨v, c3, c4⟩, c5, c6, c7, c8⟩ := w_state (st := st) (by omega) b3 (by omega)
  obtain ⟨p4, m4, e1, e2, e3, e4⟩ := w_one c6 (by omega) (c := 32) (by omega)
  obtain ⟨p5, m5, L5, g1, g2, g3, g4, g5⟩ := w_number (v := lf) (by omega) e3 (by omega)
  obtain ⟨p6, m6, i1, i2, i3, i4⟩ := w_one g3 (by omega) (c := 32) (by omega)
  obtain ⟨p7, m7, L7, j1, j2, j3, j4, j5⟩ := w_number (v := en) (by omega) i3 (by omega)
  have f2 : MF m m2 := mf_trans a4 b4
  have f4 : MF m m4 := mf_trans f2 (mf_trans c8 e4)
  have f6 : MF m m6 := mf_trans f4 (mf_trans g5 i4)
  have f7 : MF m m7 := mf_trans f6 j5
  have r5 : sX7_of m2 (nI b) (nI 5) = some (nI st) := by rw [mf_of (by omega), mf_row f2, d6, h6]
  have r6 : sX7_of m4 (nI b) (nI 6) = some (nI lf) := by rw [mf_of (by omega), mf_row f4, d7, h7]
  have r4 : sX7_of m6 (nI b) (nI 4) = some (nI en) := by rw [mf_of (by omega), mf_row f6, d5, h5]
  have hck := c_known hn h.xn (b + 1)
  have hk8 := mkS_lt8 (knP x (b + 1)) hn
  have hself : knP x (b + 1) b = false := by
    unfold knP
    rw [h11]
    rw [decide_eq_true rfl]; rfl
  -- those it knows
  have key : ∃ p9 m9 L9, sX1_writeLine_b62 FU (b + 1) x p7 (nI (mkS (knP x (b + 1)) n)) (nI 0) = bd (sX1_write p9 (nI 10)) (fun q => some q) ∧ sX7_tellBeacon_b65 FU m7 (nI b) (nI 0) = bd (sX7_tell m9 (nI 10)) (fun q => some q) ∧ PGL L9 p9 m9 ∧ L9 ≤ L7 + 70 ∧ MF m7 m9 := by
    obtain ⟨p9, m9, k1, k2, L9, k3, k4, k5⟩ := lock_up n (fun k p' m' => ∃ L', PGL L' p' m' ∧ L' ≤ L7 + 10 * (if b < k then k - 1 else k) ∧ MF m7 m') (fun F p' k => sX1_writeLine_b62 F (b + 1) x p' (nI (mkS (knP x (b + 1)) n)) (nI k)) (fun F m' k => sX7_tellBeacon_b65 F m' (nI b) (nI k)) (fun p9 => bd (sX1_write p9 (nI 10)) (fun q => some q)) (fun m9 => bd (sX7_tell m9 (nI 10)) (fun q => some q)) (fun F p' m' hR => by
      simp only [sX1_writeLine_b62]
      rw [h.xn]
      simp (disch := omega) only [zl, zm, nI_add, pk_mul, inb_t, ix_n, gd_tt, bd_e, nm_v, ite_not, ↓reduceIte, le_t, le_f, lt_t, lt_f, eq_t, eq_f, mone_f, mone_f2]) (fun F p' m' hR => by
      obtain ⟨L', r1, r2, r3⟩ := hR
      have e0 : gI m' 0 2 0 = nI n := by rw [mf_row r3, mf_row f7]; exact h.fn
      simp only [sX7_tellBeacon_b65]
      simp (disch := omega) only [zl, zm, nI_add, pk_mul, inb_t, ix_n, gd_tt, bd_e, nm_v, ite_not, ↓reduceIte, le_t, le_f, lt_t, lt_f, eq_t, eq_f, mone_f, mone_f2, e0]) (fun k p' m' hk hR => by
      obtain ⟨L', r1, r2, r3⟩ := hR
      have e0 : gI m' 0 2 0 = nI n := by rw [mf_row r3, mf_row f7]; exact h.fn
      have hin := c_isIn (a := mkS (knP x (b + 1)) n) (k := k) (by omega) (by omega)
      rw [mkS_bit, decide_eq_true hk, Bool.true_and] at hin
      have hkn : sX7_isKnown m' (nI b) (nI k) = some (nI (knP x (b + 1) k).toNat) := by
        have q1 := m_isKnown (m := m') (f := gI m' 0 2) (b := b) (k := k) (by omega)
        rw [sr_self] at q1
        rw [q1]
        have q2 : knF (gI m' 0 2) b k = knF (gI m 0 2) b k := by
          unfold knF
          rw [mf_row r3, mf_row f7, mf_row r3, mf_row f7, mf_row r3, mf_row f7]
        rw [q2, h.knq hb hk]
      cases hz : knP x (b + 1) k with
      | false =>
        refine ⟨p', m', fun F => ?_, fun F => ?_, L', r1, ?_, r3⟩
        · simp only [sX1_writeLine_b62]
          rw [h.xn]
          simp (disch := omega) only [zl, zm, nI_add, pk_mul, inb_t, ix_n, gd_tt, bd_e, nm_v, ite_not, ↓reduceIte, le_t, le_f, lt_t, lt_f, eq_t, eq_f, mone_f, mone_f2, sm_il, sm_ir, Bool.toNat_true, Bool.toNat_false, Bool.and_true, Bool.and_false, Bool.true_and, Bool.false_and, Bool.not_true, Bool.not_false, Bool.false_eq_true, Bool.true_eq_false, sr_row, sr_L, hin, hz]
        · simp only [sX7_tellBeacon_b65]
          simp (disch := omega) only [zl, zm, nI_add, pk_mul, inb_t, ix_n, gd_tt, bd_e, nm_v, ite_not, ↓reduceIte, le_t, le_f, lt_t, lt_f, eq_t, eq_f, mone_f, mone_f2, sm_il, sm_ir, Bool.toNat_true, Bool.toNat_false, Bool.and_true, Bool.and_false, Bool.true_and, Bool.false_and, Bool.not_true, Bool.not_false, Bool.false_eq_true, Bool.true_eq_false, sr_row, sr_L, e0, hkn, hz]
        · by_cases h1 : b < k
          · rw [if_pos h1] at r2; rw [if_pos (by omega)]; omega
          · rw [if_neg h1] at r2
            by_cases h2 : b < k + 1
            · rw [if_pos h2]; omega
            · rw [if_neg h2]; omega
      | true =>
        have hbk : ¬ b = k := fun z => by subst z; rw [hself] at hz; cases hz
        obtain ⟨lk, u1, u2, u3⟩ := hw.1 k hk
        have ulen := u1.2.1
        have hL' : L' + 10 ≤ L7 + 70 ∧ L' + 10 ≤ L7 + 10 * (if b < k + 1 then k + 1 - 1 else k + 1) := by
          by_cases h1 : b < k
          · rw [if_pos h1] at r2; rw [if_pos (by omega)]; omega
          · rw [if_neg h1] at r2; rw [if_neg (by omega)]; omega
        obtain ⟨q1, n1, v1, v2, v3, v4⟩ := w_one r1 (by omega) (c := 32) (by omega)
        obtain ⟨q2, n2, w1, w2, w3, w4⟩ := w_one v3 (by omega) (c := 43) (by omega)
        obtain ⟨q3, n3, x1, x2, x3, x4⟩ := w_name u1 w3 (by omega)
        have e7 : gL n2 0 7 k = lN (mpN lk) := by rw [w4.2, v4.2, r3.2, f7.2]; exact u3
        refine ⟨q3, n3, fun F => ?_, fun F => ?_, _, x3, by omega, mf_trans r3 (mf_trans v4 (mf_trans w4 x4))⟩
        · simp only [sX1_writeLine_b62]
          rw [h.xn]
          simp (disch := omega) only [zl, zm, nI_add, pk_mul, inb_t, ix_n, gd_tt, bd_e, nm_v, ite_not, ↓reduceIte, le_t, le_f, lt_t, lt_f, eq_t, eq_f, mone_f, mone_f2, sm_il, sm_ir, Bool.toNat_true, Bool.toNat_false, Bool.and_true, Bool.and_false, Bool.true_and, Bool.false_and, Bool.not_true, Bool.not_false, Bool.false_eq_true, Bool.true_eq_false, sr_row, sr_L, hin, hz, v1, w1, u2, x1]
        · simp only [sX7_tellBeacon_b65]
          simp (disch := omega) only [zl, zm, nI_add, pk_mul, inb_t, ix_n, gd_tt, bd_e, nm_v, ite_not, ↓reduceIte, le_t, le_f, lt_t, lt_f, eq_t, eq_f, mone_f, mone_f2, sm_il, sm_ir, Bool.toNat_true, Bool.toNat_false, Bool.and_true, Bool.and_false, Bool.true_and, Bool.false_and, Bool.not_true, Bool.not_false, Bool.false_eq_true, Bool.true_eq_false, sr_row, sr_L, e0, hkn, hz, v2, w2, e7, x2]) n 0 FU FU p7 m7 (by omega) (FU_lt (by omega)) (FU_lt (by omega)) ⟨L7, j3, by rw [if_neg (by omega)]; omega, mf_refl m7⟩
    refine ⟨p9, m9, L9, k1, k2, k3, ?_, k5⟩
    by_cases h1 : b < n
    · rw [if_pos h1] at k4; omega
    · exact absurd hb h1
  obtain ⟨p9, m9, L9, k1, k2, k3, k4, k5⟩ := key
  obtain ⟨p10, m10, y1, y2, y3, y4⟩ := w_one k3 (by omega) (c := 10) (by omega)
  refine ⟨p10, m10, _, ?_, ?_, y3, by omega, mf_trans f7 (mf_trans k5 y4)⟩
  · unfold sX1_writeLine
    simp (disch := omega) only [zl, o2, a1, bd_e, b1, h6, c1, c2, gd_tt, c5, e1, h7, g1, i1, h5, j1, hck, k1, y1]
  · unfold sX7_tellBeacon
    simp (disch := omega) only [zl, inb_t, gd_tt, ix_n, o3, a2, bd_e, b2, r5, c3, c4, e2, r6, g2, i2, r4, j2, k2, y2]
/-- the page and the model's report -/
def PGR (pg m : St) : Prop := ∃ hr : Bool, gI m 0 0 34 = nI hr.toNat ∧ (hr = false → gI pg 0 0 1 = nI 0) ∧ (hr = true → ∃ L, L ≤ 800 ∧ PGL L pg m)
theorem q_report (h : WS n t x (gI m 0 2)) (hw : NWd n x (gL m 0 7)) : ∃ pg' m' v, sX6_report x pg = some (pg', v) ∧ sX7_report m = some (m', v) ∧ PGR pg' m' ∧ ((∀ j k, ¬ (j = 0 ∧ (k = 0 ∨ k = 33 ∨ k = 34)) → ¬ j = 15 → gI m' 0 j k = gI m 0 j k) ∧ ∀ j k, gL m' 0 j k = gL m 0 j k) := by
  have hn := h.n8
  unfold sX6_report sX7_report sX1_clear
  simp only [nm_v, bd_e, zl]
  have hz : ∀ j k, ¬ (j = 0 ∧ (k = 0 ∨ k = 33 ∨ k = 34)) → gI (pI (pI (pI m 0 0 0 (nI 0)) 0 0 33 (nI 0)) 0 0 34 (nI 1)) 0 j k = gI m 0 j k := fun j k hjk => by
    rw [gI_pI, if_neg (by omega), gI_pI, if_neg (by omega), gI_pI, if_neg (by omega)]
  generalize hM : pI (pI (pI m 0 0 0 (nI 0)) 0 0 33 (nI 0)) 0 0 34 (nI 1) = M at hz
  have hz33 : gI M 0 0 33 = nI 0 := by rw [← hM, gI_pI, if_neg (by omega), gI_pI, if_pos ⟨rfl, rfl, rfl⟩]
  have hz34 : gI M 0 0 34 = nI 1 := by rw [← hM, gI_pI, if_pos ⟨rfl, rfl, rfl⟩]
  have hzL : ∀ j k, gL M 0 j k = gL m 0 j k := fun j k => by rw [← hM]; rfl
  have hrow : gI M 0 2 = gI m 0 2 := funext fun k => hz 2 k (by omega)
  obtain ⟨p9, m9, k1, k2, L9, k3, k4, k5⟩ := lock_up n (fun k p' m' => ∃ L', PGL L' p' m' ∧ L' ≤ 97 * k ∧ MF M m') (fun F p' k => sX6_report_b9 F x p' (nI k)) (fun F m' k => sX7_report_b17 F m' (nI k)) (fun p' => some (p', gI p' 0 0 1)) (fun m' => some (m', gI m' 0 0 33)) (fun F p' m' hR => by
    simp only [sX6_report_b9]
    rw [h.xn]
    simp (disch := omega) only [zl, zm, nI_add, pk_mul, inb_t, ix_n, gd_tt, bd_e, nm_v, ite_not, ↓reduceIte, le_t, le_f, lt_t, lt_f, eq_t, eq_f, mone_f, mone_f2]) (fun F p' m' hR => by
    obtain ⟨L', r1, r2, r3⟩ := hR
    have e0 : gI m' 0 2 0 = nI n := by rw [mf_row r3, hrow]; exact h.fn
    simp only [sX7_report_b17]
    simp (disch := omega) only [zl, zm, nI_add, pk_mul, inb_t, ix_n, gd_tt, bd_e, nm_v, ite_not, ↓reduceIte, le_t, le_f, lt_t, lt_f, eq_t, eq_f, mone_f, mone_f2, e0]) (fun k p' m' hk hR => by
    obtain ⟨L', r1, r2, r3⟩ := hR
    have erow : gI m' 0 2 = gI m 0 2 := funext fun i => by rw [mf_row r3, hrow]
    have e0 : gI m' 0 2 0 = nI n := by rw [erow]; exact h.fn
    have eL : gL m' 0 7 = gL m 0 7 := funext fun i => by rw [r3.2, hzL]
    obtain ⟨p2, m2, L2, g1, g2, g3, g4, g5⟩ := w_line (m := m') (pg := p') (b := k) (L := L') (by rw [erow]; exact h) (by rw [eL]; exact hw) hk r1 (by omega)
    refine ⟨p2, m2, fun F => ?_, fun F => ?_, L2, g3, by omega, mf_trans r3 g5⟩
    · simp only [sX6_report_b9]
      rw [h.xn]
      simp (disch := omega) only [zl, zm, nI_add, pk_mul, inb_t, ix_n, gd_tt, bd_e, nm_v, ite_not, ↓reduceIte, le_t, le_f, lt_t, lt_f, eq_t, eq_f, mone_f, mone_f2, g1]
    · simp only [sX7_report_b17]
      simp (disch := omega) only [zl, zm, nI_add, pk_mul, inb_t, ix_n, gd_tt, bd_e, nm_v, ite_not, ↓reduceIte, le_t, le_f, lt_t, lt_f, eq_t, eq_f, mone_f, mone_f2, e0, g2]) n 0 FU FU (pI pg 0 0 1 (nI 0)) M (by omega) (FU_lt (by omega)) (FU_lt (by omega)) ⟨0, ⟨by rw [gI_pI, if_pos ⟨rfl, rfl, rfl⟩], hz33, fun k hk => absurd hk (by omega)⟩, by omega, mf_refl M⟩
  refine ⟨p9, m9, nI L9, ?_, ?_, ⟨true, ?_, (fun z => absurd z (by decide)), (fun _ => ⟨L9, (by omega), k3⟩)⟩, fun j k hjk hj => ?_, fun j k => ?_⟩
  · rw [k1, k3.1]
  · rw [k2, k3.2.1]
  · rw [k5.1 0 34 (by omega) (by omega)]; exact hz34
  · rw [k5.1 j k (by omega) hj]; exact hz j k hjk
  · rw [k5.2, hzL]
theorem q_reportByte (h : PGR pg m) (a : Int32) : ∃ r code v, sX6_reportByte pg a = some r ∧ sX7_reportByte m a = some (pI m 0 0 0 (nI code), v) ∧ Ans P3 r code v := by
  obtain ⟨hr, h1, h2, h3⟩ := h
  have h0 : (0 : Int32).toInt = 0 := by decide
  have hgo : ∀ c : Bool, sX7_goes m (nI c.toNat) = some (pI m 0 0 0 (nI (!c).toNat), nI c.toNat) := fun c => m_goes c
  have hg0 : sX7_goes m (nI 0) = some (pI m 0 0 0 (nI 1), nI 0) := hgo false
  have hg1 : sX7_goes m (nI 1) = some (pI m 0 0 0 (nI 0), nI 1) := hgo true
  unfold sX6_reportByte sX7_reportByte sX6_reportByte_b15 sX7_reportByte_b29
  cases hr with
  | false =>
    have hl := h2 rfl
    rw [hl, h1]
    refine ⟨.inr 3, 1, nI 0, ?_, ?_, Or.inr ⟨3, rfl, by decide⟩⟩
    · by_cases ha : a < 0
      · rw [if_pos ha]
      · rw [if_neg ha]; exact if_neg ha
    · simp (disch := omega) only [zl, zm, nI_add, pk_mul, inb_t, ix_n, gd_tt, bd_e, nm_v, ite_not, ↓reduceIte, le_t, le_f, lt_t, lt_f, eq_t, eq_f, mone_f, mone_f2, sm_il, sm_ir, Bool.toNat_true, Bool.toNat_false, Bool.and_true, Bool.and_false, Bool.true_and, Bool.false_and, Bool.not_true, Bool.not_false, Bool.false_eq_true, Bool.true_eq_false, sr_row, sr_L, hg0]
  | true =>
    obtain ⟨L, hL, g1, g2, g3⟩ := h3 rfl
    rw [g1, h1, g2]
    have hin : sX7_isIn a.toInt64 (0 : Int64) (nI L - nI 1).toInt64 = some (nI (inR a (nI 0) (nI L - nI 1)).toNat) := m_isIn a (nI 0) _
    have hie : inR a (nI 0) (nI L - nI 1) = inb a L := by
      have h3 : (nI L - nI 1).toInt = (L : Int) - 1 := pk_sub_toInt (a := L) (b := 1) (by omega) (by decide)
      unfold inR inb
      rw [← Bool.decide_and]
      refine decide_eq_decide.mpr ?_
      rw [Int32.le_iff_toInt_le, Int32.le_iff_toInt_le, h3, nI_toInt (by omega)]
      omega
    rw [hie] at hin
    rcases in_case a L with ha | ⟨k, hk, rfl⟩
    · rw [ha] at hin
      refine ⟨.inr 3, 1, nI 0, ?_, ?_, Or.inr ⟨3, rfl, by decide⟩⟩
      · have hq : ¬ (0 ≤ a.toInt ∧ a.toInt < L) := of_decide_eq_false ha
        by_cases hz : a < 0
        · rw [if_pos hz]
        · rw [if_neg hz, if_neg]
          rw [Int32.lt_iff_toInt_lt, nI_toInt (by omega)]
          rw [Int32.lt_iff_toInt_lt, h0] at hz
          omega
      · simp (disch := omega) only [zl, zm, nI_add, pk_mul, inb_t, ix_n, gd_tt, bd_e, nm_v, ite_not, ↓reduceIte, le_t, le_f, lt_t, lt_f, eq_t, eq_f, mone_f, mone_f2, sm_il, sm_ir, Bool.toNat_true, Bool.toNat_false, Bool.and_true, Bool.and_false, Bool.true_and, Bool.false_and, Bool.not_true, Bool.not_false, Bool.false_eq_true, Bool.true_eq_false, sr_row, sr_L, hin, hg0]
    · rw [inb_t hk (by omega)] at hin
      refine ⟨.inl (gI m 0 15 k), 0, gI m 0 15 k, ?_, ?_, Or.inl ⟨rfl, rfl⟩⟩
      · simp (disch := omega) only [zl, zm, nI_add, pk_mul, inb_t, ix_n, gd_tt, bd_e, nm_v, ite_not, ↓reduceIte, le_t, le_f, lt_t, lt_f, eq_t, eq_f, mone_f, mone_f2, sm_il, sm_ir, Bool.toNat_true, Bool.toNat_false, Bool.and_true, Bool.and_false, Bool.true_and, Bool.false_and, Bool.not_true, Bool.not_false, Bool.false_eq_true, Bool.true_eq_false, sr_row, sr_L, g3]
      · simp (disch := omega) only [zl, zm, nI_add, pk_mul, inb_t, ix_n, gd_tt, bd_e, nm_v, ite_not, ↓reduceIte, le_t, le_f, lt_t, lt_f, eq_t, eq_f, mone_f, mone_f2, sm_il, sm_ir, Bool.toNat_true, Bool.toNat_false, Bool.and_true, Bool.and_false, Bool.true_and, Bool.false_and, Bool.not_true, Bool.not_false, Bool.false_eq_true, Bool.true_eq_false, sr_row, sr_L, hin, hg1, gI_pI, qn, not_true_eq_false, not_false_eq_true, true_and, and_true, false_and, and_false, and_self, Nat.add_right_cancel_iff]
end
