/-! stage B: ears, earliest, hops, hidden, groups, drain, knowledge -/
section
variable {n t : Nat} {x m c : St} {f : Nat → Int32}
theorem WR.sym {cm wl wm e a b : Nat} {q : Bool} (h : WR n t cm wl wm q e x f) (ha : a < n) (hb : b < n) : (NB x a).testBit b = (NB x b).testBit a := by
  cases h1 : (NB x a).testBit b with
  | true => exact ((h.2.2 a ha b h1).2.2).symm
  | false =>
    cases h2 : (NB x b).testBit a with
    | false => rfl
    | true => rw [(h.2.2 b hb a h2).2.2] at h1; cases h1
theorem WR.irr {cm wl wm e a : Nat} {q : Bool} (h : WR n t cm wl wm q e x f) (ha : a < n) : (NB x a).testBit a = false := by
  cases h1 : (NB x a).testBit a with
  | false => rfl
  | true => exact absurd rfl (h.2.2 a ha a h1).2.1
def erP (x : St) (a O k : Nat) : Bool := opB (gI x (k + 1) 0 6) && (NB x k).testBit a && decide (NB x k &&& O = 0)
theorem q_ears (h : WS n t x f) (a : Int32) : ∃ r code v, sX6_ears x a = some r ∧ sX7_ears (sr m f) a = some (sr (pI m 0 0 0 (nI code)) f, v) ∧ Ans P3 r code v := by
  have hn := h.n8
  have hxn := h.xn
  have hfn := h.fn
  unfold sX6_ears sX7_ears
  rw [c_req hn h.xn, m_isBeacon hn h.fn]
  simp only [bd_e]
  rw [m_goesR]
  rcases in_case a n with ha | ⟨a, ha, rfl⟩
  · rw [ha]
    exact ⟨.inr 3, 1, nI 0, by first | rfl | (simp only [Bool.false_and, Bool.and_false, Bool.false_eq_true, ↓reduceIte]; rfl), by first | rfl | (simp only [Bool.false_and, Bool.and_false, Bool.false_eq_true, ↓reduceIte]; rfl), Or.inr ⟨3, rfl, by decide⟩⟩
  · rw [inb_t ha (by omega)]
    have hci := c_inState hn h.xn (nI 3)
    have hms := m_senders (m := pI m 0 0 0 (nI 0)) hn h.fn
    rw [h.sn] at hms
    have hS8 := mkS_lt8 (fun k => decide (gI x (k + 1) 0 6 = nI 3)) hn
    generalize mkS (fun k => decide (gI x (k + 1) 0 6 = nI 3)) n = S at hci hms hS8
    have hO : nI S &&& (nI (2 ^ a) ^^^ mone) = nI (S &&& (2 ^ a ^^^ 255)) := n_not hS8
    have hO8 := and_lt8 (2 ^ a ^^^ 255) hS8
    generalize S &&& (2 ^ a ^^^ 255) = O at hO hO8
    have hand : ∀ k, k < n → NB x k &&& O < 2 ^ 31 := fun k hk => by have := and_lt8 O (h.nb hk).2; omega
    have k1 : sX6_ears_b25 FU x (nI a) (nI O) (nI 0) (nI 0) = some (.inl (nI (mkS (erP x a O) n))) := by
      refine fuel_up n (fun F k => sX6_ears_b25 F x (nI a) (nI O) (nI (mkS (erP x a O) k)) (nI k)) _ (fun F => ?_) (fun F k hk => ?_) n 0 FU (by omega) (FU_lt (by omega))
      · simp only [sX6_ears_b25]
        rw [hxn]
        simp (disch := omega) only [zl, zm, nI_add, pk_mul, inb_t, ix_n, gd_tt, bd_e, nm_v, ite_not, ↓reduceIte, le_t, le_f, lt_t, lt_f, eq_t, eq_f, mone_f, mone_f2]
      · simp only [sX6_ears_b25]
        rw [hxn]
        have hnb := h.nb hk
        have hin := c_isIn (a := NB x k) (k := a) (by omega) (by omega)
        have hk2 := hand k hk
        cases h1 : opB (gI x (k + 1) 0 6) with
        | false =>
          have h2 : erP x a O k = false := by unfold erP; rw [h1]; rfl
          simp (disch := omega) only [zl, zm, nI_add, pk_mul, inb_t, ix_n, gd_tt, bd_e, nm_v, ite_not, ↓reduceIte, le_t, le_f, lt_t, lt_f, eq_t, eq_f, mone_f, mone_f2, sm_il, sm_ir, Bool.toNat_true, Bool.toNat_false, Bool.and_true, Bool.and_false, Bool.true_and, Bool.false_and, Bool.not_true, Bool.not_false, Bool.false_eq_true, Bool.true_eq_false, sr_row, sr_L, c_open, h1, mkS_f h2]
        | true =>
          cases h3 : (NB x k).testBit a with
          | false =>
            have h2 : erP x a O k = false := by unfold erP; rw [h1, h3]; rfl
            simp (disch := omega) only [zl, zm, nI_add, pk_mul, inb_t, ix_n, gd_tt, bd_e, nm_v, ite_not, ↓reduceIte, le_t, le_f, lt_t, lt_f, eq_t, eq_f, mone_f, mone_f2, sm_il, sm_ir, Bool.toNat_true, Bool.toNat_false, Bool.and_true, Bool.and_false, Bool.true_and, Bool.false_and, Bool.not_true, Bool.not_false, Bool.false_eq_true, Bool.true_eq_false, sr_row, sr_L, c_open, h1, hnb.1, hin, h3, mkS_f h2]
          | true =>
            by_cases h4 : NB x k &&& O = 0
            · have h2 : erP x a O k = true := by unfold erP; rw [h1, h3, decide_eq_true h4]; rfl
              simp (disch := omega) only [zl, zm, nI_add, pk_mul, inb_t, ix_n, gd_tt, bd_e, nm_v, ite_not, ↓reduceIte, le_t, le_f, lt_t, lt_f, eq_t, eq_f, mone_f, mone_f2, sm_il, sm_ir, Bool.toNat_true, Bool.toNat_false, Bool.and_true, Bool.and_false, Bool.true_and, Bool.false_and, Bool.not_true, Bool.not_false, Bool.false_eq_true, Bool.true_eq_false, sr_row, sr_L, c_open, h1, hnb.1, hin, h3, n_and, h4, mkS_t h2]
              rw [← n_and, sh1 (by omega), n_or]
            · have h2 : erP x a O k = false := by unfold erP; rw [decide_eq_false h4, Bool.and_false]
              simp (disch := omega) only [zl, zm, nI_add, pk_mul, inb_t, ix_n, gd_tt, bd_e, nm_v, ite_not, ↓reduceIte, le_t, le_f, lt_t, lt_f, eq_t, eq_f, mone_f, mone_f2, sm_il, sm_ir, Bool.toNat_true, Bool.toNat_false, Bool.and_true, Bool.and_false, Bool.true_and, Bool.false_and, Bool.not_true, Bool.not_false, Bool.false_eq_true, Bool.true_eq_false, sr_row, sr_L, c_open, h1, hnb.1, hin, h3, n_and, h4, mkS_f h2]
    have k2 : sX7_ears_b30 FU (sr (pI m 0 0 0 (nI 0)) f) (nI a) (nI O) (nI 0) (nI 0) = some (sr (pI m 0 0 0 (nI 0)) f, nI (mkS (erP x a O) n)) := by
      refine fuel_up n (fun F k => sX7_ears_b30 F (sr (pI m 0 0 0 (nI 0)) f) (nI a) (nI O) (nI (mkS (erP x a O) k)) (nI k)) _ (fun F => ?_) (fun F k hk => ?_) n 0 FU (by omega) (FU_lt (by omega))
      · simp only [sX7_ears_b30]
        simp (disch := omega) only [zl, zm, nI_add, pk_mul, inb_t, ix_n, gd_tt, bd_e, nm_v, ite_not, ↓reduceIte, le_t, le_f, lt_t, lt_f, eq_t, eq_f, mone_f, mone_f2, sr_row, hfn]
      · simp only [sX7_ears_b30, sX7_ears_b71]
        have hk2 := hand k hk
        have hst : f (21 + 43 * k + 5) = gI x (k + 1) 0 6 := by obtain ⟨_, _, _, _, _, _, d, _⟩ := h.bd hk; exact d
        have har := m_areNear (m := pI m 0 0 0 (nI 0)) (f := f) (b := a) (c := k) (by omega) (by omega) (h.fb ha).2 (h.fb ha).1
        have hea := m_hasEars (m := pI m 0 0 0 (nI 0)) (f := f) (b := k) (by omega)
        rw [hst] at hea
        rw [h.sym ha hk] at har
        by_cases hka : k = a
        · have h2 : erP x a O k = false := by unfold erP; rw [hka, h.irr ha, Bool.and_false]; rfl
          rw [mkS_f h2]
          simp (disch := omega) only [zl, zm, nI_add, pk_mul, inb_t, ix_n, gd_tt, bd_e, nm_v, ite_not, ↓reduceIte, le_t, le_f, lt_t, lt_f, eq_t, eq_f, mone_f, mone_f2, sm_il, sm_ir, Bool.toNat_true, Bool.toNat_false, Bool.and_true, Bool.and_false, Bool.true_and, Bool.false_and, Bool.not_true, Bool.not_false, Bool.false_eq_true, Bool.true_eq_false, sr_row, sr_L, hfn, n_or, Nat.or_zero]
        · cases h3 : (NB x k).testBit a with
          | false =>
            have h2 : erP x a O k = false := by unfold erP; rw [h3, Bool.and_false]; rfl
            simp (disch := omega) only [zl, zm, nI_add, pk_mul, inb_t, ix_n, gd_tt, bd_e, nm_v, ite_not, ↓reduceIte, le_t, le_f, lt_t, lt_f, eq_t, eq_f, mone_f, mone_f2, sm_il, sm_ir, Bool.toNat_true, Bool.toNat_false, Bool.and_true, Bool.and_false, Bool.true_and, Bool.false_and, Bool.not_true, Bool.not_false, Bool.false_eq_true, Bool.true_eq_false, sr_row, sr_L, hfn, har, h3, n_or, Nat.or_zero, mkS_f h2]
          | true =>
            cases h1 : opB (gI x (k + 1) 0 6) with
            | false =>
              have h2 : erP x a O k = false := by unfold erP; rw [h1]; rfl
              simp (disch := omega) only [zl, zm, nI_add, pk_mul, inb_t, ix_n, gd_tt, bd_e, nm_v, ite_not, ↓reduceIte, le_t, le_f, lt_t, lt_f, eq_t, eq_f, mone_f, mone_f2, sm_il, sm_ir, Bool.toNat_true, Bool.toNat_false, Bool.and_true, Bool.and_false, Bool.true_and, Bool.false_and, Bool.not_true, Bool.not_false, Bool.false_eq_true, Bool.true_eq_false, sr_row, sr_L, hfn, har, hea, h1, h3, n_or, Nat.or_zero, mkS_f h2]
            | true =>
              by_cases h4 : NB x k &&& O = 0
              · have h2 : erP x a O k = true := by unfold erP; rw [h1, h3, decide_eq_true h4]; rfl
                rw [mkS_t h2, ← n_or, ← sh1 (by omega)]
                have h5 : nI (NB x k) &&& nI O = nI 0 := by rw [n_and, h4]
                simp (disch := omega) only [zl, zm, nI_add, pk_mul, inb_t, ix_n, gd_tt, bd_e, nm_v, ite_not, ↓reduceIte, le_t, le_f, lt_t, lt_f, eq_t, eq_f, mone_f, mone_f2, sm_il, sm_ir, Bool.toNat_true, Bool.toNat_false, Bool.and_true, Bool.and_false, Bool.true_and, Bool.false_and, Bool.not_true, Bool.not_false, Bool.false_eq_true, Bool.true_eq_false, sr_row, sr_L, hfn, har, hea, h1, h3, (h.fb hk).1, h5]
              · have h2 : erP x a O k = false := by unfold erP; rw [decide_eq_false h4, Bool.and_false]
                have h5 : ¬ nI (NB x k) &&& nI O = nI 0 := by
                  rw [n_and]; exact fun q => h4 ((nI_eq hk2 (by omega)).mp q)
                simp (disch := omega) only [zl, zm, nI_add, pk_mul, inb_t, ix_n, gd_tt, bd_e, nm_v, ite_not, ↓reduceIte, le_t, le_f, lt_t, lt_f, eq_t, eq_f, mone_f, mone_f2, sm_il, sm_ir, Bool.toNat_true, Bool.toNat_false, Bool.and_true, Bool.and_false, Bool.true_and, Bool.false_and, Bool.not_true, Bool.not_false, Bool.false_eq_true, Bool.true_eq_false, sr_row, sr_L, hfn, har, hea, h1, h3, (h.fb hk).1, h5, mkS_f h2]
                rw [n_or, Nat.or_zero]
    refine ⟨.inl (nI (mkS (erP x a O) n)), 0, nI (mkS (erP x a O) n), ?_, ?_, Or.inl ⟨rfl, rfl⟩⟩
    · simp (disch := omega) only [zl, zm, nI_add, pk_mul, inb_t, ix_n, gd_tt, bd_e, nm_v, ite_not, ↓reduceIte, le_t, le_f, lt_t, lt_f, eq_t, eq_f, mone_f, mone_f2, sm_il, sm_ir, Bool.toNat_true, Bool.toNat_false, Bool.and_true, Bool.and_false, Bool.true_and, Bool.false_and, Bool.not_true, Bool.not_false, Bool.false_eq_true, Bool.true_eq_false, sr_row, sr_L, hci, sh1, hO, k1]
    · simp (disch := omega) only [zl, zm, nI_add, pk_mul, inb_t, ix_n, gd_tt, bd_e, nm_v, ite_not, ↓reduceIte, le_t, le_f, lt_t, lt_f, eq_t, eq_f, mone_f, mone_f2, sm_il, sm_ir, Bool.toNat_true, Bool.toNat_false, Bool.and_true, Bool.and_false, Bool.true_and, Bool.false_and, Bool.not_true, Bool.not_false, Bool.false_eq_true, Bool.true_eq_false, sr_row, sr_L, hms, sh1, hO, k2]
theorem q_earliest (h : WS n t x f) : ∃ v, sX6_earliest x = some v ∧ sX7_earliest (sr m f) = some (sr (pI m 0 0 0 (nI 0)) f, v) := by
  have hn := h.n8
  have hxn := h.xn
  have hfn := h.fn
  have hxt := h.xt
  unfold sX6_earliest sX7_earliest
  simp only [nm_v]
  rw [sr_pIo _ _ _ _ (by omega)]
  obtain ⟨⟨v1, v2⟩, v3, e1, e2, e3⟩ := lock_up (X := Int32 × Int32) (M := Int32) n (fun k u v => u.1 = v ∧ ((k = 0 ∧ u.1 = mone ∧ u.2 = nI 100) ∨ ∃ j d, j < k ∧ d ≤ 99 ∧ u.1 = nI j ∧ u.2 = nI d ∧ ∀ m, sX7_dueFor (sr m f) (nI j) = some (nI d))) (fun F u k => sX6_earliest_b7 F x u.1 u.2 (nI k)) (fun F v k => sX7_earliest_b9 F (sr (pI m 0 0 0 (nI 0)) f) v (nI k)) (fun u => some u.1) (fun v => some (sr (pI m 0 0 0 (nI 0)) f, v)) (fun F u v hR => by
      simp only [sX6_earliest_b7]
      rw [hxn]
      simp (disch := omega) only [zl, zm, nI_add, pk_mul, inb_t, ix_n, gd_tt, bd_e, nm_v, ite_not, ↓reduceIte, le_t, le_f, lt_t, lt_f, eq_t, eq_f, mone_f, mone_f2]) (fun F u v hR => by
      simp only [sX7_earliest_b9]
      simp (disch := omega) only [zl, zm, nI_add, pk_mul, inb_t, ix_n, gd_tt, bd_e, nm_v, ite_not, ↓reduceIte, le_t, le_f, lt_t, lt_f, eq_t, eq_f, mone_f, mone_f2, sr_row, hfn]) (fun k u v hk hR => by
      obtain ⟨huv, hR⟩ := hR
      obtain ⟨d, g1, g2, g3, g4⟩ := q_due h hk
      rcases hR with ⟨rfl, r1, r2⟩ | ⟨j, d', r1, r2, r3, r4, r5⟩
      · refine ⟨(nI 0, nI d), nI 0, fun F => ?_, fun F => ?_, rfl, Or.inr ⟨0, d, by omega, g2, rfl, rfl, g4⟩⟩
        · simp only [sX6_earliest_b7]
          rw [hxn, hxt, r2]
          simp (disch := omega) only [zl, zm, nI_add, pk_mul, inb_t, ix_n, gd_tt, bd_e, nm_v, ite_not, ↓reduceIte, le_t, le_f, lt_t, lt_f, eq_t, eq_f, mone_f, mone_f2, g3]
        · simp only [sX7_earliest_b9]
          rw [← huv, r1]
          simp (disch := omega) only [zl, zm, nI_add, pk_mul, inb_t, ix_n, gd_tt, bd_e, nm_v, ite_not, ↓reduceIte, le_t, le_f, lt_t, lt_f, eq_t, eq_f, mone_f, mone_f2, sr_row, hfn]
      · by_cases hd : d < d'
        · refine ⟨(nI k, nI d), nI k, fun F => ?_, fun F => ?_, rfl, Or.inr ⟨k, d, by omega, g2, rfl, rfl, g4⟩⟩
          · simp only [sX6_earliest_b7]
            rw [hxn, hxt, r4]
            simp (disch := omega) only [zl, zm, nI_add, pk_mul, inb_t, ix_n, gd_tt, bd_e, nm_v, ite_not, ↓reduceIte, le_t, le_f, lt_t, lt_f, eq_t, eq_f, mone_f, mone_f2, g3]
          · simp only [sX7_earliest_b9]
            rw [← huv, r3]
            simp (disch := omega) only [zl, zm, nI_add, pk_mul, inb_t, ix_n, gd_tt, bd_e, nm_v, ite_not, ↓reduceIte, le_t, le_f, lt_t, lt_f, eq_t, eq_f, mone_f, mone_f2, sr_row, hfn, g4, r5]
        · refine ⟨u, v, fun F => ?_, fun F => ?_, huv, Or.inr ⟨j, d', by omega, r2, r3, r4, r5⟩⟩
          · simp only [sX6_earliest_b7]
            rw [hxn, hxt, r4]
            simp (disch := omega) only [zl, zm, nI_add, pk_mul, inb_t, ix_n, gd_tt, bd_e, nm_v, ite_not, ↓reduceIte, le_t, le_f, lt_t, lt_f, eq_t, eq_f, mone_f, mone_f2, g3]
          · simp only [sX7_earliest_b9]
            rw [← huv, r3]
            simp (disch := omega) only [zl, zm, nI_add, pk_mul, inb_t, ix_n, gd_tt, bd_e, nm_v, ite_not, ↓reduceIte, le_t, le_f, lt_t, lt_f, eq_t, eq_f, mone_f, mone_f2, sr_row, hfn, g4, r5]) n 0 FU FU (mone, nI 100) mone (by omega) (FU_lt (by omega)) (FU_lt (by omega)) ⟨rfl, Or.inl ⟨rfl, rfl, rfl⟩⟩
  refine ⟨v3, ?_, e2⟩
  rw [← e3.1]; exact e1
theorem WR.NBf {cm wl wm e : Nat} {q : Bool} (h : WR n t cm wl wm q e x f) : ∀ k, k < n → gI x (k + 1) 0 10 = nI (NB x k) ∧ NB x k < 256 := fun _ hk => h.nb hk
theorem q_hops (h : WS n t x f) (a b : Int32) : ∃ r code v, sX6_hops x a b = some r ∧ sX7_hops (sr m f) a b = some (sr (pI m 0 0 0 (nI code)) f, v) ∧ Ans P3 r code v := by
  have hn := h.n8
  unfold sX6_hops sX7_hops
  rw [c_req hn h.xn, c_req hn h.xn, m_areBeacons hn h.fn]
  simp only [bd_e]
  rw [m_goesR]
  rcases in_case a n with ha | ⟨k, hk, rfl⟩
  · rw [ha]
    exact ⟨.inr 3, 1, nI 0, by first | rfl | (simp only [Bool.false_and, Bool.and_false, Bool.false_eq_true, ↓reduceIte]; rfl), by first | rfl | (simp only [Bool.false_and, Bool.and_false, Bool.false_eq_true, ↓reduceIte]; rfl), Or.inr ⟨3, rfl, by decide⟩⟩
  · rw [inb_t hk (by omega)]
    rcases in_case b n with hb | ⟨j, hj, rfl⟩
    · rw [hb]
      exact ⟨.inr 3, 1, nI 0, by first | rfl | (simp only [Bool.false_and, Bool.and_false, Bool.false_eq_true, ↓reduceIte]; rfl), by first | rfl | (simp only [Bool.false_and, Bool.and_false, Bool.false_eq_true, ↓reduceIte]; rfl), Or.inr ⟨3, rfl, by decide⟩⟩
    · rw [inb_t hj (by omega)]
      have key : ∀ (d i F G s : Nat), i + d = 8 → d < F → d < G → s < 256 → ∃ v, sX6_hops_b17 F x (nI j) (nI s) (nI i) = some (.inl v) ∧ sX7_hops_b22 G (sr (pI m 0 0 0 (nI 0)) f) (nI j) (nI s) (nI i) = some (sr (pI m 0 0 0 (nI 0)) f, v) := by
        intro d
        induction d with
        | zero =>
          intro i F G s hi hF hG hs
          obtain ⟨F, rfl⟩ : ∃ z, F = z + 1 := ⟨F - 1, by omega⟩
          obtain ⟨G, rfl⟩ : ∃ z, G = z + 1 := ⟨G - 1, by omega⟩
          refine ⟨mone, ?_, ?_⟩
          · simp only [sX6_hops_b17]
            simp (disch := omega) only [zl, zm, nI_add, pk_mul, inb_t, ix_n, gd_tt, bd_e, nm_v, ite_not, ↓reduceIte, le_t, le_f, lt_t, lt_f, eq_t, eq_f, mone_f, mone_f2]
          · simp only [sX7_hops_b22]
            simp (disch := omega) only [zl, zm, nI_add, pk_mul, inb_t, ix_n, gd_tt, bd_e, nm_v, ite_not, ↓reduceIte, le_t, le_f, lt_t, lt_f, eq_t, eq_f, mone_f, mone_f2]
        | succ d ih =>
          intro i F G s hi hF hG hs
          obtain ⟨F, rfl⟩ : ∃ z, F = z + 1 := ⟨F - 1, by omega⟩
          obtain ⟨G, rfl⟩ : ∃ z, G = z + 1 := ⟨G - 1, by omega⟩
          have h1 := c_isIn (a := s) (k := j) (by omega) (by omega)
          have h2 := m_has (a := s) (k := j) (by omega) (by omega)
          have h3 := c_withNear hn h.xn h.NBf hs
          have h4 := m_spread (m := pI m 0 0 0 (nI 0)) hn h.fn (fun k hk => h.fb hk) hs
          cases hb : s.testBit j with
          | true =>
            refine ⟨nI i, ?_, ?_⟩
            · simp only [sX6_hops_b17]
              simp (disch := omega) only [zl, zm, nI_add, pk_mul, inb_t, ix_n, gd_tt, bd_e, nm_v, ite_not, ↓reduceIte, le_t, le_f, lt_t, lt_f, eq_t, eq_f, mone_f, mone_f2, sm_il, sm_ir, Bool.toNat_true, Bool.toNat_false, Bool.and_true, Bool.and_false, Bool.true_and, Bool.false_and, Bool.not_true, Bool.not_false, Bool.false_eq_true, Bool.true_eq_false, sr_row, sr_L, h1, hb]
            · simp only [sX7_hops_b22]
              simp (disch := omega) only [zl, zm, nI_add, pk_mul, inb_t, ix_n, gd_tt, bd_e, nm_v, ite_not, ↓reduceIte, le_t, le_f, lt_t, lt_f, eq_t, eq_f, mone_f, mone_f2, sm_il, sm_ir, Bool.toNat_true, Bool.toNat_false, Bool.and_true, Bool.and_false, Bool.true_and, Bool.false_and, Bool.not_true, Bool.not_false, Bool.false_eq_true, Bool.true_eq_false, sr_row, sr_L, h2, hb]
          | false =>
            obtain ⟨v, e1, e2⟩ := ih (i + 1) F G (wnN (NB x) s n) (by omega) (by omega) (by omega) (wnN_lt hs fun k hk => (h.nb hk).2)
            refine ⟨v, ?_, ?_⟩
            · simp only [sX6_hops_b17]
              simp (disch := omega) only [zl, zm, nI_add, pk_mul, inb_t, ix_n, gd_tt, bd_e, nm_v, ite_not, ↓reduceIte, le_t, le_f, lt_t, lt_f, eq_t, eq_f, mone_f, mone_f2, sm_il, sm_ir, Bool.toNat_true, Bool.toNat_false, Bool.and_true, Bool.and_false, Bool.true_and, Bool.false_and, Bool.not_true, Bool.not_false, Bool.false_eq_true, Bool.true_eq_false, sr_row, sr_L, h1, hb, h3, e1]
            · simp only [sX7_hops_b22]
              simp (disch := omega) only [zl, zm, nI_add, pk_mul, inb_t, ix_n, gd_tt, bd_e, nm_v, ite_not, ↓reduceIte, le_t, le_f, lt_t, lt_f, eq_t, eq_f, mone_f, mone_f2, sm_il, sm_ir, Bool.toNat_true, Bool.toNat_false, Bool.and_true, Bool.and_false, Bool.true_and, Bool.false_and, Bool.not_true, Bool.not_false, Bool.false_eq_true, Bool.true_eq_false, sr_row, sr_L, h2, hb, h4, e2]
      have h2k : 2 ^ k < 256 := Nat.pow_lt_pow_right (a := 2) (n := 8) (by decide) (by omega)
      obtain ⟨v, e1, e2⟩ := key 8 0 FU FU (2 ^ k) (by omega) (FU_lt (by omega)) (FU_lt (by omega)) h2k
      exact ⟨.inl v, 0, v, (by simp (disch := omega) only [zl, zm, nI_add, pk_mul, inb_t, ix_n, gd_tt, bd_e, nm_v, ite_not, ↓reduceIte, le_t, le_f, lt_t, lt_f, eq_t, eq_f, mone_f, mone_f2, sm_il, sm_ir, Bool.toNat_true, Bool.toNat_false, Bool.and_true, Bool.and_false, Bool.true_and, Bool.false_and, Bool.not_true, Bool.not_false, Bool.false_eq_true, Bool.true_eq_false, sr_row, sr_L, sh1, e1]), (by simp (disch := omega) only [zl, zm, nI_add, pk_mul, inb_t, ix_n, gd_tt, bd_e, nm_v, ite_not, ↓reduceIte, le_t, le_f, lt_t, lt_f, eq_t, eq_f, mone_f, mone_f2, sm_il, sm_ir, Bool.toNat_true, Bool.toNat_false, Bool.and_true, Bool.and_false, Bool.true_and, Bool.false_and, Bool.not_true, Bool.not_false, Bool.false_eq_true, Bool.true_eq_false, sr_row, sr_L, sh1, e2]), Or.inl ⟨rfl, rfl⟩⟩
end
