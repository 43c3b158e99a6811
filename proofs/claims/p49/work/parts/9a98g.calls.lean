/-! stage B: changes, as calls -/
/-- what a change leaves of the model -/
def KXM (m m' : St) : Prop := (∀ k, ¬ k = 0 → ¬ k = 21 → gI m' 0 0 k = gI m 0 0 k) ∧ (∀ j k, ¬ j = 0 → ¬ j = 2 → ¬ j = 4 → ¬ j = 6 → gI m' 0 j k = gI m 0 j k) ∧ ∀ j k, gL m' 0 j k = gL m 0 j k
section
variable {x c m : St} {ps : Nat → St} {f : Nat → Int32} {n t : Nat}
theorem m_aside (m : St) (f : Nat → Int32) : ∃ m1, sX7_laysAside (sr m f) = some (sr m1 f) ∧ (∀ i, i < 365 → gI m1 0 4 i = f i) ∧ (∀ j k, ¬ j = 4 → ¬ j = 2 → gI m1 0 j k = gI m 0 j k) ∧ ∀ j k, gL m1 0 j k = gL m 0 j k := by
  have h1 := m_copies (m := sr m f) (a := 0) (b := 0) (j0 := 2) (j2 := 4) (by omega) (by decide) (by decide) (by decide)
  refine ⟨sA (sr m f) 4 (cpy (gI (sr m f) 0 2) (gI (sr m f) 0 4) 0 0 365), ?_, fun i hi => ?_, fun j k h5 h2 => ?_, fun j k => rfl⟩
  · unfold sX7_laysAside
    simp only [zl]
    rw [h1]
    simp only [bd_e]
    have e : gI (sA (sr m f) 4 (cpy (gI (sr m f) 0 2) (gI (sr m f) 0 4) 0 0 365)) 0 2 = f := funext fun k => by rw [sA_n _ _ _ (by omega), sr_row]
    exact congrArg some ((sr_self _).symm.trans (by rw [e]))
  · rw [sA_i, cpy_i0 hi, sr_row, Nat.zero_add]
  · rw [sA_n _ _ _ h5, sr_j _ _ _ h2]
/-- laid aside, then changed, then kept -/
theorem s_changed (hx : WO (gL m 0 7) x f) (hp : PR ps c m) (v : Int32) : ∃ m1 ps' c', sX7_laysAside (sr (pI m 0 0 0 v) f) = some (sr m1 f) ∧ sX6_keepForUndo x ps c = some (ps', c') ∧ KC c c' ∧ ∀ f', ∃ m2, sX7_keeps (sr m1 f') = some (sr m2 f') ∧ PR ps' c' (sr m2 f') ∧ KXM (sr m f) (sr m2 f') ∧ gI m2 0 0 0 = v := by
  obtain ⟨m1, l1, l2, l3, l4⟩ := m_aside (pI m 0 0 0 v) f
  have hp1 : PR ps c m1 := hp.cg rfl (fun _ _ => rfl) (by rw [l3 0 21 (by omega) (by omega), gI_pI, if_neg (by omega)]) (fun k => by rw [l3 6 k (by omega) (by omega), gI_pI, if_neg (by omega)]) (fun k _ => by rw [l4, gL_pI])
  have hx1 : WO (gL m1 0 7) x f := hx.wcg fun b _ => by rw [l4, gL_pI]
  obtain ⟨ps', c', m2, e1, e2, e3, e4, e5⟩ := s_keep hp1 l2 hx1 f
  refine ⟨m1, ps', c', l1, e1, e4, fun f' => ?_⟩
  obtain ⟨ps2, c2, m3, g1, g2, g3, g4, g5⟩ := s_keep hp1 l2 hx1 f'
  have e6 := Option.some.inj (e1.symm.trans g1)
  rw [Prod.mk.injEq] at e6
  rw [e6.1, e6.2]
  refine ⟨m3, g2, g3, ⟨fun k hk hk2 => ?_, fun j k h0 h2 h4 h6 => ?_, fun j k => ?_⟩, ?_⟩
  · have := g5.1 0 k (by omega) (by omega)
    rw [this, sr_0, sr_0, l3 0 k (by omega) (by omega), gI_pI, if_neg (by omega)]
  · have := g5.1 j k (by omega) h6
    rw [this, sr_j _ _ _ h2, sr_j _ _ _ h2, l3 j k h4 h2, gI_pI, if_neg (by omega)]
  · rw [g5.2 j k, sr_L, l4, gL_pI]; rfl
  · have := g5.1 0 0 (by omega) (by omega)
    rw [sr_0, sr_0] at this
    rw [this, l3 0 0 (by omega) (by omega), gI_pI, if_pos ⟨rfl, rfl, rfl⟩]
/-- a changing call: how its answers are held against each other -/
def QC (P : List (Nat × Nat)) (C : Option (St × (Nat → St) × St × (Int32 ⊕ Nat))) (M : Option (St × Int32)) (c m : St) : Prop := ∃ x' ps' c' r code v m', C = some (x', ps', c', r) ∧ M = some (m', v) ∧ gI m' 0 0 0 = nI code ∧ KXM m m' ∧ Ans P r code v ∧ WO (gL m' 0 7) x' (gI m' 0 2) ∧ PR ps' c' m' ∧ KC c c'
theorem kxm_code (m : St) (f : Nat → Int32) (v : Int32) : KXM (sr m f) (sr (pI m 0 0 0 v) f) :=
  ⟨fun k hk _ => by rw [sr_0, sr_0, gI_pI, if_neg (by omega)], fun j k h0 h2 _ _ => by rw [sr_j _ _ _ h2, sr_j _ _ _ h2, gI_pI, if_neg (by omega)], fun _ _ => rfl⟩
theorem pr_srr (hp : PR ps c m) : PR ps c (sr m f) := hp.cg rfl (fun _ _ => rfl) (sr_0 _ _ _) (fun k => sr_j _ _ _ (by omega)) (fun _ _ => rfl)
/-- nothing changes -/
theorem qc_same {P : List (Nat × Nat)} {r : Int32 ⊕ Nat} {code : Nat} {v : Int32} (hx : WO (gL m 0 7) x f) (hp : PR ps c m) (h : Ans P r code v) : QC P (some (x, ps, c, r)) (some (sr (pI m 0 0 0 (nI code)) f, v)) c (sr m f) := by
  refine ⟨x, ps, c, r, code, v, _, rfl, rfl, by rw [sr_0, gI_pI, if_pos ⟨rfl, rfl, rfl⟩], kxm_code m f _, h, ?_, ?_, fun _ _ _ _ _ => rfl⟩
  · rw [sr_rw]; exact hx.wcg fun b _ => rfl
  · exact pr_srr (hp.cg rfl (fun _ _ => rfl) (by rw [gI_pI, if_neg (by omega)]) (fun k => by rw [gI_pI, if_neg (by omega)]) (fun _ _ => rfl))
/-- a change made and kept -/
theorem qc_made {P : List (Nat × Nat)} {x' m2 c' : St} {ps' : Nat → St} {f' : Nat → Int32} {v : Int32} (h1 : WO (gL m 0 7) x' f') (h2 : PR ps' c' (sr m2 f')) (h3 : KXM (sr m f) (sr m2 f')) (h4 : gI m2 0 0 0 = nI 0) (h5 : KC c c') : QC P (some (x', ps', c', .inl v)) (some (sr m2 f', v)) c (sr m f) := by
  refine ⟨x', ps', c', .inl v, 0, v, _, rfl, rfl, by rw [sr_0]; exact h4, h3, Or.inl ⟨rfl, rfl⟩, ?_, h2, h5⟩
  rw [sr_rw]
  exact h1.wcg fun b _ => h3.2.2 7 b
theorem c_mayPass {s : Nat} (hx : gI x 0 0 5 = nI t) (ht : t ≤ 200000) (hs : s ≤ 100000) : sX5_mayPass x (nI s) = some (nI (decide (1 ≤ s ∧ s ≤ 99 ∧ t + s ≤ 99999)).toNat) := by
  unfold sX5_mayPass
  simp only [zl]
  rw [hx, nI_add]
  by_cases h1 : s < 1
  · rw [if_pos (nI_lt h1 (by omega)), decide_eq_false (by omega)]; rfl
  · rw [if_neg (nI_nlt (by omega) (by omega))]
    by_cases h2 : 99 < s
    · rw [if_pos (nI_lt h2 (by omega)), decide_eq_false (by omega)]; rfl
    · rw [if_neg (nI_nlt (by omega) (by omega))]
      by_cases h3 : 99999 < t + s
      · rw [if_pos (nI_lt h3 (by omega)), decide_eq_false (by omega)]; rfl
      · rw [if_neg (nI_nlt (by omega) (by omega)), decide_eq_true (by omega)]; rfl
theorem m_mayRun {s : Nat} (hf : f 1 = nI t) (ht : t ≤ 200000) (hs : s ≤ 100000) : sX7_mayRun (sr m f) (nI s) = some (nI (decide (t + s ≤ 99999)).toNat) := by
  unfold sX7_mayRun
  by_cases h3 : 99999 < t + s
  · rw [decide_eq_false (by omega)]
    simp (disch := omega) only [zl, zm, nI_add, pk_mul, inb_t, ix_n, gd_tt, bd_e, nm_v, ite_not, ↓reduceIte, le_t, le_f, lt_t, lt_f, eq_t, eq_f, mone_f, mone_f2, sr_row, hf]
    rfl
  · rw [decide_eq_true (by omega)]
    simp (disch := omega) only [zl, zm, nI_add, pk_mul, inb_t, ix_n, gd_tt, bd_e, nm_v, ite_not, ↓reduceIte, le_t, le_f, lt_t, lt_f, eq_t, eq_f, mone_f, mone_f2, sr_row, hf]
    rfl
theorem m_areMany (a : Int32) : sX7_areMany a = some (nI (inR a (nI 1) (nI 99)).toNat) := by
  unfold sX7_areMany
  have h : sX7_isIn a.toInt64 (1 : Int64) (99 : Int64) = some (nI (inR a (nI 1) (nI 99)).toNat) := m_isIn a (nI 1) (nI 99)
  rw [h]
  simp only [bd_e]
  rw [isb_z]
  rfl
theorem m_isBy (a : Int32) : sX7_isBy a = some (nI (inR a (nI 1) (nI 999)).toNat) := by
  unfold sX7_isBy
  have h : sX7_isIn a.toInt64 (1 : Int64) (999 : Int64) = some (nI (inR a (nI 1) (nI 999)).toNat) := m_isIn a (nI 1) (nI 999)
  rw [h]
  simp only [bd_e]
  rw [isb_z]
  rfl
/-- an int in a range of small numbers, or not -/
theorem rng (a : Int32) (lo hi : Nat) (hlo : lo ≤ hi) (hh : hi < 2 ^ 31) : (inR a (nI lo) (nI hi) = false ∧ (a < nI lo ∨ nI hi < a)) ∨ ∃ s, lo ≤ s ∧ s ≤ hi ∧ a = nI s ∧ inR a (nI lo) (nI hi) = true := by
  unfold inR
  by_cases h1 : a < nI lo
  · exact Or.inl ⟨by rw [decide_eq_false (i_nle.mpr h1)]; rfl, Or.inl h1⟩
  · by_cases h2 : nI hi < a
    · exact Or.inl ⟨by rw [decide_eq_false (i_nle.mpr h2), Bool.and_false], Or.inr h2⟩
    · have h3 := i_nlt.mp h1
      have h4 := i_nlt.mp h2
      obtain ⟨s, hs, rfl⟩ := nI_of2 (M := nI hi) (n := hi) (nI_toInt hh) (by
        rw [Int32.lt_iff_toInt_lt]
        rw [Int32.le_iff_toInt_le, nI_toInt (by omega)] at h3
        have : (0 : Int32).toInt = 0 := by decide
        omega) h4
      refine Or.inr ⟨s, ?_, hs, rfl, by rw [decide_eq_true h3, decide_eq_true h4]; rfl⟩
      exact (nI_leI (by omega) (by omega)).mp h3
theorem q_run (h : WS n t x f) (ht : t ≤ 99999) (hw : NWd n x (gL m 0 7)) (hp : PR ps c m) (a : Int32) : QC [(2, 1), (1, 2)] (sX6_run x ps c a) (sX7_run (sr m f) a) c (sr m f) := by
  have hx : WO (gL m 0 7) x f := ⟨n, t, ht, h, hw⟩
  unfold sX6_run sX7_run sX7_run_b24 sX6_run_b11
  rw [m_areMany]
  simp only [bd_e]
  rcases rng a 1 99 (by omega) (by omega) with ⟨e1, e2⟩ | ⟨s, hs1, hs2, rfl, e1⟩
  · rw [e1]
    have hc : (if a < (1 : Int32) then some (x, ps, c, (.inr 2 : Int32 ⊕ Nat)) else if a ≤ (99 : Int32) then bd (sX5_mayPass x a) fun q3 => if ¬ q3 = 0 then bd (sX6_keepForUndo x ps c) fun q5 => bd (sX5_pass x a) fun q6 => some (q6, q5.1, q5.2, .inl ((gI q6 0 0 7) - (gI x 0 0 7))) else some (x, ps, c, .inr 1) else some (x, ps, c, .inr 2)) = some (x, ps, c, .inr 2) := by
      by_cases h1 : a < nI 1
      · exact if_pos h1
      · have h2 := e2.resolve_left h1
        exact (if_neg h1).trans (if_neg (i_nle.mpr h2))
    rw [hc]
    have hm : sX7_goesBoth (sr m f) (nI 0) (nI 0) = some (sr (pI m 0 0 0 (nI 1)) f, nI 0) := m_goesBothR false false
    simp (disch := omega) only [zl, zm, nI_add, pk_mul, inb_t, ix_n, gd_tt, bd_e, nm_v, ite_not, ↓reduceIte, le_t, le_f, lt_t, lt_f, eq_t, eq_f, mone_f, mone_f2, sm_il, sm_ir, Bool.toNat_true, Bool.toNat_false, Bool.and_true, Bool.and_false, Bool.true_and, Bool.false_and, Bool.not_true, Bool.not_false, Bool.false_eq_true, Bool.true_eq_false, sr_row, sr_L, hm]
    exact qc_same (P := [(2, 1), (1, 2)]) (code := 1) hx hp (Or.inr ⟨2, rfl, by decide⟩)
  · rw [e1]
    have hcm := c_mayPass (s := s) h.xt (by omega) (by omega)
    have hmm := m_mayRun (m := m) (s := s) h.ft (by omega) (by omega)
    by_cases hts : t + s ≤ 99999
    · rw [decide_eq_true (show 1 ≤ s ∧ s ≤ 99 ∧ t + s ≤ 99999 from ⟨hs1, hs2, hts⟩)] at hcm
      rw [decide_eq_true hts] at hmm
      have hm : sX7_goesBoth (sr m f) (nI 1) (nI 1) = some (sr (pI m 0 0 0 (nI 0)) f, nI 1) := m_goesBothR true true
      obtain ⟨m1, ps', c', g1, g2, g3, g4⟩ := s_changed hx hp (nI 0)
      obtain ⟨x', f', p1, p2, p3⟩ := s_pass (m := m1) (s := s) h (by omega)
      obtain ⟨m2, k1, k2, k3, k4⟩ := g4 f'
      have f4 := h.hd.2.2.1
      have f4' := p3.hd.2.2.1
      have hr : sX7_kept (sr m1 f') (gI x' 0 0 7 - gI x 0 0 7) = some (sr m2 f', gI x' 0 0 7 - gI x 0 0 7) := by
        unfold sX7_kept; rw [k1]; rfl
      simp (disch := omega) only [zl, zm, nI_add, pk_mul, inb_t, ix_n, gd_tt, bd_e, nm_v, ite_not, ↓reduceIte, le_t, le_f, lt_t, lt_f, eq_t, eq_f, mone_f, mone_f2, sm_il, sm_ir, Bool.toNat_true, Bool.toNat_false, Bool.and_true, Bool.and_false, Bool.true_and, Bool.false_and, Bool.not_true, Bool.not_false, Bool.false_eq_true, Bool.true_eq_false, sr_row, sr_L, hcm, hmm, hm, g1, g2, p1, m_runs, p2, f4, f4', hr]
      exact qc_made ⟨n, t + s, hts, p3, hw.of2 (pass_L p1)⟩ k2 k3 k4 g3
    · rw [decide_eq_false (show ¬ (1 ≤ s ∧ s ≤ 99 ∧ t + s ≤ 99999) from fun z => hts z.2.2)] at hcm
      rw [decide_eq_false hts] at hmm
      have hm : sX7_goesBoth (sr m f) (nI 1) (nI 0) = some (sr (pI m 0 0 0 (nI 2)) f, nI 0) := m_goesBothR true false
      simp (disch := omega) only [zl, zm, nI_add, pk_mul, inb_t, ix_n, gd_tt, bd_e, nm_v, ite_not, ↓reduceIte, le_t, le_f, lt_t, lt_f, eq_t, eq_f, mone_f, mone_f2, sm_il, sm_ir, Bool.toNat_true, Bool.toNat_false, Bool.and_true, Bool.and_false, Bool.true_and, Bool.false_and, Bool.not_true, Bool.not_false, Bool.false_eq_true, Bool.true_eq_false, sr_row, sr_L, hcm, hmm, hm]
      exact qc_same (code := 2) hx hp (Or.inr ⟨1, rfl, by decide⟩)
theorem q_wake (h : WS n t x f) (ht : t ≤ 99999) (hw : NWd n x (gL m 0 7)) (hp : PR ps c m) (a : Int32) : QC [(3, 1), (1, 2)] (sX6_wake x ps c a) (sX7_wake (sr m f) a) c (sr m f) := by
  have hn := h.n8
  have hx : WO (gL m 0 7) x f := ⟨n, t, ht, h, hw⟩
  unfold sX6_wake sX7_wake sX7_wake_b26
  rw [c_req hn h.xn, m_isBeacon hn h.fn]
  simp only [bd_e]
  rcases in_case a n with ha | ⟨k, hk, rfl⟩
  · rw [ha]
    have hm : sX7_goesBoth (sr m f) (nI 0) (nI 0) = some (sr (pI m 0 0 0 (nI 1)) f, nI 0) := m_goesBothR false false
    simp (disch := omega) only [zl, zm, nI_add, pk_mul, inb_t, ix_n, gd_tt, bd_e, nm_v, ite_not, ↓reduceIte, le_t, le_f, lt_t, lt_f, eq_t, eq_f, mone_f, mone_f2, sm_il, sm_ir, Bool.toNat_true, Bool.toNat_false, Bool.and_true, Bool.and_false, Bool.true_and, Bool.false_and, Bool.not_true, Bool.not_false, Bool.false_eq_true, Bool.true_eq_false, sr_row, sr_L, hm]
    exact qc_same (P := [(3, 1), (1, 2)]) (code := 1) hx hp (Or.inr ⟨3, rfl, by decide⟩)
  · rw [inb_t hk (by omega)]
    obtain ⟨⟨d0, d00⟩, d1, d2, d3, d4, d5, d6, d7, d8, d9, d10, d11, d12, d13, d14, d15⟩ := h.bd hk
    have hat := m_isAt (m := m) (f := f) (b := k) (nI 0) rfl (by omega)
    rw [d6] at hat
    by_cases h0 : gI x (k + 1) 0 6 = nI 0
    · rw [decide_eq_true h0] at hat
      have hm : sX7_goesBoth (sr m f) (nI 1) (nI 1) = some (sr (pI m 0 0 0 (nI 0)) f, nI 1) := m_goesBothR true true
      obtain ⟨m1, ps', c', g1, g2, g3, g4⟩ := s_changed hx hp (nI 0)
      obtain ⟨x', f', p1, p2, p3⟩ := l_listen (m := m1) h hk (Or.inl rfl)
      obtain ⟨m2, k1, k2, k3, k4⟩ := g4 f'
      have hL : x'.2 = x.2 := kl_listen (k + 1) rfl x' p1
      have hr : sX7_kept (sr m1 f') (nI t) = some (sr m2 f', nI t) := by
        unfold sX7_kept; rw [k1]; rfl
      have haw : sX7_awakens (sr m1 f) (nI k) = some (sr m1 f', nI t) := by
        unfold sX7_awakens
        simp (disch := omega) only [zl, zm, nI_add, pk_mul, inb_t, ix_n, gd_tt, bd_e, nm_v, ite_not, ↓reduceIte, le_t, le_f, lt_t, lt_f, eq_t, eq_f, mone_f, mone_f2, p2, sr_row, p3.ft]
      simp (disch := omega) only [zl, zm, nI_add, pk_mul, inb_t, ix_n, gd_tt, bd_e, nm_v, ite_not, ↓reduceIte, le_t, le_f, lt_t, lt_f, eq_t, eq_f, mone_f, mone_f2, sm_il, sm_ir, Bool.toNat_true, Bool.toNat_false, Bool.and_true, Bool.and_false, Bool.true_and, Bool.false_and, Bool.not_true, Bool.not_false, Bool.false_eq_true, Bool.true_eq_false, sr_row, sr_L, h0, hat, hm, g1, g2, p1, p3.xt, haw, hr]
      exact qc_made ⟨n, t, ht, p3, hw.of2 hL⟩ k2 k3 k4 g3
    · rw [decide_eq_false h0] at hat
      have hm : sX7_goesBoth (sr m f) (nI 1) (nI 0) = some (sr (pI m 0 0 0 (nI 2)) f, nI 0) := m_goesBothR true false
      simp (disch := omega) only [zl, zm, nI_add, pk_mul, inb_t, ix_n, gd_tt, bd_e, nm_v, ite_not, ↓reduceIte, le_t, le_f, lt_t, lt_f, eq_t, eq_f, mone_f, mone_f2, sm_il, sm_ir, Bool.toNat_true, Bool.toNat_false, Bool.and_true, Bool.and_false, Bool.true_and, Bool.false_and, Bool.not_true, Bool.not_false, Bool.false_eq_true, Bool.true_eq_false, sr_row, sr_L, h0, hat, hm]
      exact qc_same (code := 2) hx hp (Or.inr ⟨1, rfl, by decide⟩)
theorem c_allowsP {k g : Nat} {b : Int32} (hg : gI x (k + 1) 0 2 = nI g) (hg2 : g < 99) : sX0_allowsPeriod (k + 1) x b = some (nI (inR b (nI 2) (nI 99) && decide (nI g < b)).toNat) := by
  unfold sX0_allowsPeriod
  simp only [zl]
  rw [hg]
  rcases rng b 2 99 (by omega) (by omega) with ⟨e1, e2⟩ | ⟨s, hs1, hs2, rfl, e1⟩
  · rw [e1]
    by_cases h1 : b < nI 2
    · rw [if_pos h1]; rfl
    · rw [if_neg h1, if_pos (e2.resolve_left h1)]; rfl
  · rw [e1, if_neg (nI_nlt hs1 (by omega)), if_neg (nI_nlt hs2 (by omega))]
    by_cases h1 : s ≤ g
    · rw [if_pos (nI_le h1 (by omega)), decide_eq_false (nI_nlt h1 (by omega))]; rfl
    · rw [if_neg (nI_ge (by omega) (by omega)), decide_eq_true (nI_lt (by omega) (by omega))]; rfl
theorem m_isPeriod {k g : Nat} {b : Int32} (hk : k < 8) (hg : f (21 + 43 * k + 1) = nI g) (hg2 : g < 99) : sX7_isPeriod (sr m f) (nI k) b = some (nI (inR b (nI 2) (nI 99) && decide (nI g < b)).toNat) := by
  unfold sX7_isPeriod
  have h : sX7_isIn b.toInt64 (2 : Int64) (99 : Int64) = some (nI (inR b (nI 2) (nI 99)).toNat) := m_isIn b (nI 2) (nI 99)
  rw [h]
  rcases rng b 2 99 (by omega) (by omega) with ⟨e1, e2⟩ | ⟨s, hs1, hs2, rfl, e1⟩
  · rw [e1]; rfl
  · rw [e1]
    by_cases h1 : s ≤ g
    · rw [decide_eq_false (nI_nlt h1 (by omega))]
      simp (disch := omega) only [zl, zm, nI_add, pk_mul, inb_t, ix_n, gd_tt, bd_e, nm_v, ite_not, ↓reduceIte, le_t, le_f, lt_t, lt_f, eq_t, eq_f, mone_f, mone_f2, sm_il, sm_ir, Bool.toNat_true, Bool.toNat_false, Bool.and_true, Bool.and_false, Bool.true_and, Bool.false_and, Bool.not_true, Bool.not_false, Bool.false_eq_true, Bool.true_eq_false, sr_row, sr_L, m_of, hg]
    · rw [decide_eq_true (nI_lt (show g < s by omega) (by omega))]
      simp (disch := omega) only [zl, zm, nI_add, pk_mul, inb_t, ix_n, gd_tt, bd_e, nm_v, ite_not, ↓reduceIte, le_t, le_f, lt_t, lt_f, eq_t, eq_f, mone_f, mone_f2, sm_il, sm_ir, Bool.toNat_true, Bool.toNat_false, Bool.and_true, Bool.and_false, Bool.true_and, Bool.false_and, Bool.not_true, Bool.not_false, Bool.false_eq_true, Bool.true_eq_false, sr_row, sr_L, m_of, hg]
theorem c_allowsF {k p : Nat} {b : Int32} (hp : gI x (k + 1) 0 1 = nI p) (hp2 : p ≤ 99) : sX0_allowsFirstWake (k + 1) x b = some (nI (inb b p).toNat) := by
  unfold sX0_allowsFirstWake
  rw [hp]
  have h0 : (0 : Int32).toInt = 0 := by decide
  by_cases h1 : b < 0
  · have : inb b p = false := by
      unfold inb
      rw [Int32.lt_iff_toInt_lt, h0] at h1
      exact decide_eq_false (by omega)
    rw [if_pos h1, this]; rfl
  · rw [if_neg h1]
    by_cases h2 : nI p ≤ b
    · have : inb b p = false := by
        unfold inb
        rw [Int32.le_iff_toInt_le, nI_toInt (by omega)] at h2
        exact decide_eq_false (by omega)
      rw [if_pos h2, this]; rfl
    · have : inb b p = true := by
        unfold inb
        rw [Int32.le_iff_toInt_le, nI_toInt (by omega)] at h2
        rw [Int32.lt_iff_toInt_lt, h0] at h1
        exact decide_eq_true (by omega)
      rw [if_neg h2, this]; rfl
theorem m_isFirst {k p : Nat} {b : Int32} (hk : k < 8) (hp : f (21 + 43 * k + 0) = nI p) (hp1 : 1 ≤ p) (hp2 : p ≤ 99) : sX7_isFirst (sr m f) (nI k) b = some (nI (inb b p).toNat) := by
  unfold sX7_isFirst
  have h : sX7_isIn b.toInt64 (0 : Int64) (nI p - nI 1).toInt64 = some (nI (inR b (nI 0) (nI p - nI 1)).toNat) := m_isIn b (nI 0) _
  have e : inR b (nI 0) (nI p - nI 1) = inb b p := by
    rw [zs hp1]
    unfold inR inb
    rw [← Bool.decide_and]
    refine decide_eq_decide.mpr ?_
    rw [Int32.le_iff_toInt_le, Int32.le_iff_toInt_le, nI_toInt (by omega), nI_toInt (by omega)]
    omega
  rw [e] at h
  simp only [zl]
  rw [m_of (by omega), hp]
  simp only [bd_e]
  rw [h]
  simp (disch := omega) only [zl, zm, nI_add, pk_mul, inb_t, ix_n, gd_tt, bd_e, nm_v, ite_not, ↓reduceIte, le_t, le_f, lt_t, lt_f, eq_t, eq_f, mone_f, mone_f2, isb_z]
theorem q_setEvery (h : WS n t x f) (ht : t ≤ 99999) (hw : NWd n x (gL m 0 7)) (hp : PR ps c m) (a b : Int32) : QC P32 (sX6_setEvery x ps c a b) (sX7_setEvery (sr m f) a b) c (sr m f) := by
  have hn := h.n8
  have hx : WO (gL m 0 7) x f := ⟨n, t, ht, h, hw⟩
  unfold sX6_setEvery sX7_setEvery sX7_setEvery_b26
  rw [c_req hn h.xn, m_isBeacon hn h.fn]
  simp only [bd_e]
  rcases in_case a n with ha | ⟨k, hk, rfl⟩
  · rw [ha]
    have hm : sX7_goesBoth (sr m f) (nI 0) (nI 0) = some (sr (pI m 0 0 0 (nI 1)) f, nI 0) := m_goesBothR false false
    simp (disch := omega) only [zl, zm, nI_add, pk_mul, inb_t, ix_n, gd_tt, bd_e, nm_v, ite_not, ↓reduceIte, le_t, le_f, lt_t, lt_f, eq_t, eq_f, mone_f, mone_f2, sm_il, sm_ir, Bool.toNat_true, Bool.toNat_false, Bool.and_true, Bool.and_false, Bool.true_and, Bool.false_and, Bool.not_true, Bool.not_false, Bool.false_eq_true, Bool.true_eq_false, sr_row, sr_L, hm]
    exact qc_same (P := P32) (code := 1) hx hp (Or.inr ⟨3, rfl, by decide⟩)
  · rw [inb_t hk (by omega)]
    obtain ⟨⟨d0, d00⟩, d1, d2, d3, d4, d5, d6, d7, d8, d9, d10, d11, d12, d13, d14, d15⟩ := h.bd hk
    obtain ⟨p, g, hp1, hg1, hp2, hp3, hgp⟩ := h.pg hk
    have hca := c_allowsP (b := b) hg1 (by omega)
    have hma := m_isPeriod (m := m) (k := k) (b := b) (by omega) (d2.trans hg1) (by omega)
    cases hz : inR b (nI 2) (nI 99) && decide (nI g < b) with
    | false =>
      rw [hz] at hca hma
      have hm : sX7_goesBoth (sr m f) (nI 1) (nI 0) = some (sr (pI m 0 0 0 (nI 2)) f, nI 0) := m_goesBothR true false
      simp (disch := omega) only [zl, zm, nI_add, pk_mul, inb_t, ix_n, gd_tt, bd_e, nm_v, ite_not, ↓reduceIte, le_t, le_f, lt_t, lt_f, eq_t, eq_f, mone_f, mone_f2, sm_il, sm_ir, Bool.toNat_true, Bool.toNat_false, Bool.and_true, Bool.and_false, Bool.true_and, Bool.false_and, Bool.not_true, Bool.not_false, Bool.false_eq_true, Bool.true_eq_false, sr_row, sr_L, hca, hma, hm]
      exact qc_same (code := 2) hx hp (Or.inr ⟨2, rfl, by decide⟩)
    | true =>
      rw [hz] at hca hma
      rw [Bool.and_eq_true] at hz
      rcases rng b 2 99 (by omega) (by omega) with ⟨e1, e2⟩ | ⟨s, hs1, hs2, rfl, e1⟩
      · rw [e1] at hz; cases hz.1
      · have hgs : g < s := (nI_ltI (by omega) (by omega)).mp (of_decide_eq_true hz.2)
        have hm : sX7_goesBoth (sr m f) (nI 1) (nI 1) = some (sr (pI m 0 0 0 (nI 0)) f, nI 1) := m_goesBothR true true
        obtain ⟨m1, ps', c', g1, g2, g3, g4⟩ := s_changed hx hp (nI 0)
        have hr := r_period h hk hs1 hs2 (fun g' h1 h2 => by have := (nI_eq (by omega) h2).mp (hg1.symm.trans h1); omega)
        obtain ⟨m2, k1, k2, k3, k4⟩ := g4 (upd f (21 + 43 * k + 0) (nI s))
        have hkp : sX7_kept (sr m1 (upd f (21 + 43 * k + 0) (nI s))) (nI p) = some (sr m2 (upd f (21 + 43 * k + 0) (nI s)), nI p) := by
          unfold sX7_kept; rw [k1]; rfl
        have hsw : (bd (sX7_cellOf (nI k) (nI 0)) fun q8 => bd (sX7_swapsCell (sr m1 f) q8 (nI s)) fun q9 => some q9) = some (sr m1 (upd f (21 + 43 * k + 0) (nI s)), nI p) := by
          unfold sX7_cellOf sX7_swapsCell
          simp (disch := omega) only [zl, zm, nI_add, pk_mul, inb_t, ix_n, gd_tt, bd_e, nm_v, ite_not, ↓reduceIte, le_t, le_f, lt_t, lt_f, eq_t, eq_f, mone_f, mone_f2, sr_row, sr_pI, d1, hp1]
        unfold sX7_cellOf sX7_swapsCell
        simp (disch := omega) only [zl, zm, nI_add, pk_mul, inb_t, ix_n, gd_tt, bd_e, nm_v, ite_not, ↓reduceIte, le_t, le_f, lt_t, lt_f, eq_t, eq_f, mone_f, mone_f2, sm_il, sm_ir, Bool.toNat_true, Bool.toNat_false, Bool.and_true, Bool.and_false, Bool.true_and, Bool.false_and, Bool.not_true, Bool.not_false, Bool.false_eq_true, Bool.true_eq_false, sr_row, sr_L, hca, hma, hm, g1, g2, hp1, sr_pI, d1, hkp]
        exact qc_made ⟨n, t, ht, hr, hw.of2 rfl⟩ k2 k3 k4 g3
theorem q_setAt (h : WS n t x f) (ht : t ≤ 99999) (hw : NWd n x (gL m 0 7)) (hp : PR ps c m) (a b : Int32) : QC P32 (sX6_setAt x ps c a b) (sX7_setAt (sr m f) a b) c (sr m f) := by
  have hn := h.n8
  have hx : WO (gL m 0 7) x f := ⟨n, t, ht, h, hw⟩
  unfold sX6_setAt sX7_setAt sX7_setAt_b26
  rw [c_req hn h.xn, m_isBeacon hn h.fn]
  simp only [bd_e]
  rcases in_case a n with ha | ⟨k, hk, rfl⟩
  · rw [ha]
    have hm : sX7_goesBoth (sr m f) (nI 0) (nI 0) = some (sr (pI m 0 0 0 (nI 1)) f, nI 0) := m_goesBothR false false
    simp (disch := omega) only [zl, zm, nI_add, pk_mul, inb_t, ix_n, gd_tt, bd_e, nm_v, ite_not, ↓reduceIte, le_t, le_f, lt_t, lt_f, eq_t, eq_f, mone_f, mone_f2, sm_il, sm_ir, Bool.toNat_true, Bool.toNat_false, Bool.and_true, Bool.and_false, Bool.true_and, Bool.false_and, Bool.not_true, Bool.not_false, Bool.false_eq_true, Bool.true_eq_false, sr_row, sr_L, hm]
    exact qc_same (P := P32) (code := 1) hx hp (Or.inr ⟨3, rfl, by decide⟩)
  · rw [inb_t hk (by omega)]
    obtain ⟨⟨d0, d00⟩, d1, d2, d3, d4, d5, d6, d7, d8, d9, d10, d11, d12, d13, d14, d15⟩ := h.bd hk
    obtain ⟨p, g, hp1, hg1, hp2, hp3, hgp⟩ := h.pg hk
    have hca := c_allowsF (b := b) hp1 hp3
    have hma := m_isFirst (m := m) (k := k) (b := b) (by omega) (d1.trans hp1) (by omega) hp3
    rcases in_case b p with hb | ⟨s, hs, rfl⟩
    · rw [hb] at hca hma
      have hm : sX7_goesBoth (sr m f) (nI 1) (nI 0) = some (sr (pI m 0 0 0 (nI 2)) f, nI 0) := m_goesBothR true false
      simp (disch := omega) only [zl, zm, nI_add, pk_mul, inb_t, ix_n, gd_tt, bd_e, nm_v, ite_not, ↓reduceIte, le_t, le_f, lt_t, lt_f, eq_t, eq_f, mone_f, mone_f2, sm_il, sm_ir, Bool.toNat_true, Bool.toNat_false, Bool.and_true, Bool.and_false, Bool.true_and, Bool.false_and, Bool.not_true, Bool.not_false, Bool.false_eq_true, Bool.true_eq_false, sr_row, sr_L, hca, hma, hm]
      exact qc_same (code := 2) hx hp (Or.inr ⟨2, rfl, by decide⟩)
    · rw [inb_t hs (by omega)] at hca hma
      have hm : sX7_goesBoth (sr m f) (nI 1) (nI 1) = some (sr (pI m 0 0 0 (nI 0)) f, nI 1) := m_goesBothR true true
      obtain ⟨m1, ps', c', g1, g2, g3, g4⟩ := s_changed hx hp (nI 0)
      have hr := r_first (g := s) h hk (fun p' h1 h2 => by have := (nI_eq (by omega) h2).mp (hp1.symm.trans h1); omega)
      obtain ⟨m2, k1, k2, k3, k4⟩ := g4 (upd f (21 + 43 * k + 1) (nI s))
      have hkp : sX7_kept (sr m1 (upd f (21 + 43 * k + 1) (nI s))) (nI g) = some (sr m2 (upd f (21 + 43 * k + 1) (nI s)), nI g) := by
        unfold sX7_kept; rw [k1]; rfl
      unfold sX7_cellOf sX7_swapsCell
      simp (disch := omega) only [zl, zm, nI_add, pk_mul, inb_t, ix_n, gd_tt, bd_e, nm_v, ite_not, ↓reduceIte, le_t, le_f, lt_t, lt_f, eq_t, eq_f, mone_f, mone_f2, sm_il, sm_ir, Bool.toNat_true, Bool.toNat_false, Bool.and_true, Bool.and_false, Bool.true_and, Bool.false_and, Bool.not_true, Bool.not_false, Bool.false_eq_true, Bool.true_eq_false, sr_row, sr_L, hca, hma, hm, g1, g2, hg1, sr_pI, d2, hkp]
      exact qc_made ⟨n, t, ht, hr, hw.of2 rfl⟩ k2 k3 k4 g3
theorem c_isCharge (a : Int32) : sX6_isCharge a = some (nI (inR a (nI 1) (nI 999)).toNat) := by
  unfold sX6_isCharge
  simp only [zl]
  rcases rng a 1 999 (by omega) (by omega) with ⟨e1, e2⟩ | ⟨s, hs1, hs2, rfl, e1⟩
  · rw [e1]
    by_cases h1 : a < nI 1
    · rw [if_pos h1]; rfl
    · rw [if_neg h1, if_pos (e2.resolve_left h1)]; rfl
  · rw [e1, if_neg (nI_nlt hs1 (by omega)), if_neg (nI_nlt hs2 (by omega))]; rfl
theorem q_charge (h : WS n t x f) (ht : t ≤ 99999) (hw : NWd n x (gL m 0 7)) (hp : PR ps c m) (a b : Int32) : QC P32 (sX6_charge x ps c a b) (sX7_charge (sr m f) a b) c (sr m f) := by
  have hn := h.n8
  have hx : WO (gL m 0 7) x f := ⟨n, t, ht, h, hw⟩
  unfold sX6_charge sX7_charge
  rw [c_req hn h.xn, m_isBeacon hn h.fn, m_isBy, c_isCharge]
  simp only [bd_e]
  rw [m_goesBothR]
  rcases in_case a n with ha | ⟨k, hk, rfl⟩
  · rw [ha]
    simp (disch := omega) only [zl, zm, nI_add, pk_mul, inb_t, ix_n, gd_tt, bd_e, nm_v, ite_not, ↓reduceIte, le_t, le_f, lt_t, lt_f, eq_t, eq_f, mone_f, mone_f2, sm_il, sm_ir, Bool.toNat_true, Bool.toNat_false, Bool.and_true, Bool.and_false, Bool.true_and, Bool.false_and, Bool.not_true, Bool.not_false, Bool.false_eq_true, Bool.true_eq_false, sr_row, sr_L]
    exact qc_same (code := 1) hx hp (Or.inr ⟨3, rfl, by decide⟩)
  · rw [inb_t hk (by omega)]
    rcases rng b 1 999 (by omega) (by omega) with ⟨e1, e2⟩ | ⟨s, hs1, hs2, rfl, e1⟩
    · rw [e1]
      simp (disch := omega) only [zl, zm, nI_add, pk_mul, inb_t, ix_n, gd_tt, bd_e, nm_v, ite_not, ↓reduceIte, le_t, le_f, lt_t, lt_f, eq_t, eq_f, mone_f, mone_f2, sm_il, sm_ir, Bool.toNat_true, Bool.toNat_false, Bool.and_true, Bool.and_false, Bool.true_and, Bool.false_and, Bool.not_true, Bool.not_false, Bool.false_eq_true, Bool.true_eq_false, sr_row, sr_L]
      exact qc_same (code := 2) hx hp (Or.inr ⟨2, rfl, by decide⟩)
    · rw [e1]
      obtain ⟨m1, ps', c', g1, g2, g3, g4⟩ := s_changed hx hp (nI 0)
      obtain ⟨x', f', v, p1, p2, p3, p4, p5⟩ := s_charge (m := m1) h hk hs2
      obtain ⟨m2, k1, k2, k3, k4⟩ := g4 f'
      have hkp : sX7_kept (sr m1 f') v = some (sr m2 f', v) := by
        unfold sX7_kept; rw [k1]; rfl
      simp (disch := omega) only [zl, zm, nI_add, pk_mul, inb_t, ix_n, gd_tt, bd_e, nm_v, ite_not, ↓reduceIte, le_t, le_f, lt_t, lt_f, eq_t, eq_f, mone_f, mone_f2, sm_il, sm_ir, Bool.toNat_true, Bool.toNat_false, Bool.and_true, Bool.and_false, Bool.true_and, Bool.false_and, Bool.not_true, Bool.not_false, Bool.false_eq_true, Bool.true_eq_false, sr_row, sr_L, g1, g2, p1, p2, p3, hkp]
      exact qc_made ⟨n, t, ht, p4, hw.of2 p5⟩ k2 k3 k4 g3
theorem q_setTries (h : WS n t x f) (ht : t ≤ 99999) (hw : NWd n x (gL m 0 7)) (hp : PR ps c m) (a : Int32) : QC P2 (sX6_setTries x ps c a) (sX7_setTries (sr m f) a) c (sr m f) := by
  have hx : WO (gL m 0 7) x f := ⟨n, t, ht, h, hw⟩
  have hin : sX7_isIn a.toInt64 (1 : Int64) (9 : Int64) = some (nI (inR a (nI 1) (nI 9)).toNat) := m_isIn a (nI 1) (nI 9)
  unfold sX6_setTries sX7_setTries sX6_setTries_b11
  rw [hin]
  simp only [bd_e]
  rw [m_goesR]
  rcases rng a 1 9 (by omega) (by omega) with ⟨e1, e2⟩ | ⟨s, hs1, hs2, rfl, e1⟩
  · rw [e1]
    have hc : (if a < (1 : Int32) then some (x, ps, c, (.inr 2 : Int32 ⊕ Nat)) else if a ≤ (9 : Int32) then bd (sX6_keepForUndo x ps c) fun q3 => nm (pI x 0 0 3 a) fun z4 => some (z4, q3.1, q3.2, .inl (gI x 0 0 3)) else some (x, ps, c, .inr 2)) = some (x, ps, c, .inr 2) := by
      by_cases h1 : a < nI 1
      · exact if_pos h1
      · have h2 := e2.resolve_left h1
        exact (if_neg h1).trans (if_neg (i_nle.mpr h2))
    rw [hc]
    simp (disch := omega) only [zl, zm, nI_add, pk_mul, inb_t, ix_n, gd_tt, bd_e, nm_v, ite_not, ↓reduceIte, le_t, le_f, lt_t, lt_f, eq_t, eq_f, mone_f, mone_f2, sm_il, sm_ir, Bool.toNat_true, Bool.toNat_false, Bool.and_true, Bool.and_false, Bool.true_and, Bool.false_and, Bool.not_true, Bool.not_false, Bool.false_eq_true, Bool.true_eq_false, sr_row, sr_L]
    exact qc_same (code := 1) hx hp (Or.inr ⟨2, rfl, by decide⟩)
  · rw [e1]
    obtain ⟨m1, ps', c', g1, g2, g3, g4⟩ := s_changed hx hp (nI 0)
    have hr := r_tries h hs2
    obtain ⟨m2, k1, k2, k3, k4⟩ := g4 (upd f 2 (nI s))
    have hf2 := h.hd.1
    have hkp : sX7_kept (sr m1 (upd f 2 (nI s))) (gI x 0 0 3) = some (sr m2 (upd f 2 (nI s)), gI x 0 0 3) := by
      unfold sX7_kept; rw [k1]; rfl
    unfold sX7_swapsCell
    simp (disch := omega) only [zl, zm, nI_add, pk_mul, inb_t, ix_n, gd_tt, bd_e, nm_v, ite_not, ↓reduceIte, le_t, le_f, lt_t, lt_f, eq_t, eq_f, mone_f, mone_f2, sm_il, sm_ir, Bool.toNat_true, Bool.toNat_false, Bool.and_true, Bool.and_false, Bool.true_and, Bool.false_and, Bool.not_true, Bool.not_false, Bool.false_eq_true, Bool.true_eq_false, sr_row, sr_L, g1, g2, sr_pI, hf2, hkp]
    exact qc_made ⟨n, t, ht, hr, hw.of2 rfl⟩ k2 k3 k4 g3
theorem q_setNear (h : WS n t x f) (ht : t ≤ 99999) (hw : NWd n x (gL m 0 7)) (hp : PR ps c m) (a b : Int32) (N : Bool) : QC P32 (sX6_setNear x ps c a b (nI N.toNat)) (sX7_setNear (sr m f) a b (nI N.toNat)) c (sr m f) := by
  have hn := h.n8
  have hx : WO (gL m 0 7) x f := ⟨n, t, ht, h, hw⟩
  unfold sX6_setNear sX7_setNear sX7_setNear_b17
  rw [c_req hn h.xn, c_req hn h.xn, m_areBeacons hn h.fn]
  simp only [bd_e]
  rcases in_case a n with ha | ⟨k, hk, rfl⟩
  · rw [ha]
    have hm : ∀ s, s = nI 0 ∨ s = nI 1 → sX7_goesBoth (sr m f) (nI false.toNat) s = some (sr (pI m 0 0 0 (nI 1)) f, nI 0) := fun s hs => by
      rcases hs with rfl | rfl
      · exact m_goesBothR false false
      · exact m_goesBothR false true
    by_cases hab : a = b
    · simp (disch := omega) only [hab, ↓reduceIte, Bool.false_and, zl, hm _ (Or.inl rfl), bd_e, Bool.false_eq_true, sm_ir]
      exact qc_same (code := 1) hx hp (Or.inr ⟨3, rfl, by decide⟩)
    · simp (disch := omega) only [hab, ↓reduceIte, Bool.false_and, zl, hm _ (Or.inr rfl), bd_e, Bool.false_eq_true, sm_ir]
      exact qc_same (code := 1) hx hp (Or.inr ⟨3, rfl, by decide⟩)
  · rw [inb_t hk (by omega)]
    rcases in_case b n with hb | ⟨j, hj, rfl⟩
    · rw [hb]
      have hm : ∀ s, s = nI 0 ∨ s = nI 1 → sX7_goesBoth (sr m f) (nI false.toNat) s = some (sr (pI m 0 0 0 (nI 1)) f, nI 0) := fun s hs => by
        rcases hs with rfl | rfl
        · exact m_goesBothR false false
        · exact m_goesBothR false true
      by_cases hab : nI k = b
      · rw [← hab, inb_t hk (by omega)] at hb; cases hb
      · simp (disch := omega) only [hab, ↓reduceIte, Bool.and_false, zl, hm _ (Or.inr rfl), bd_e, Bool.false_eq_true, sm_ir, sm_il]
        exact qc_same (code := 1) hx hp (Or.inr ⟨3, rfl, by decide⟩)
    · rw [inb_t hj (by omega)]
      by_cases hkj : k = j
      · subst hkj
        have hm : sX7_goesBoth (sr m f) (nI 1) (nI 0) = some (sr (pI m 0 0 0 (nI 2)) f, nI 0) := m_goesBothR true false
        simp (disch := omega) only [zl, zm, nI_add, pk_mul, inb_t, ix_n, gd_tt, bd_e, nm_v, ite_not, ↓reduceIte, le_t, le_f, lt_t, lt_f, eq_t, eq_f, mone_f, mone_f2, sm_il, sm_ir, Bool.toNat_true, Bool.toNat_false, Bool.and_true, Bool.and_false, Bool.true_and, Bool.false_and, Bool.not_true, Bool.not_false, Bool.false_eq_true, Bool.true_eq_false, sr_row, sr_L, hm]
        exact qc_same (code := 2) hx hp (Or.inr ⟨2, rfl, by decide⟩)
      · have hm : sX7_goesBoth (sr m f) (nI 1) (nI 1) = some (sr (pI m 0 0 0 (nI 0)) f, nI 1) := m_goesBothR true true
        have hnb := h.nb hk
        have hin := c_isIn (a := NB x k) (k := j) (by omega) (by omega)
        have har := m_areNear (m := pI m 0 0 0 (nI 0)) (f := f) (b := k) (c := j) (by omega) (by omega) (h.fb hk).2 (h.fb hk).1
        by_cases hN : (NB x k).testBit j = N
        · rw [hN] at hin har
          simp (disch := omega) only [zl, zm, nI_add, pk_mul, inb_t, ix_n, gd_tt, bd_e, nm_v, ite_not, ↓reduceIte, le_t, le_f, lt_t, lt_f, eq_t, eq_f, mone_f, mone_f2, sm_il, sm_ir, Bool.toNat_true, Bool.toNat_false, Bool.and_true, Bool.and_false, Bool.true_and, Bool.false_and, Bool.not_true, Bool.not_false, Bool.false_eq_true, Bool.true_eq_false, sr_row, sr_L, hm, hnb.1, hin, har]
          exact qc_same hx hp (Or.inl ⟨rfl, rfl⟩)
        · obtain ⟨m1, ps', c', g1, g2, g3, g4⟩ := s_changed hx hp (nI 0)
          obtain ⟨x', f', p1, p2, p3, p4⟩ := s_near (m := m1) h hk hj hkj hN
          obtain ⟨m2, k1, k2, k3, k4⟩ := g4 f'
          have hNe : (nI ((NB x k).testBit j).toNat = nI N.toNat) = False := eq_false fun z => hN (by
            revert z
            cases (NB x k).testBit j <;> cases N <;> decide)
          simp (disch := omega) only [zl, zm, nI_add, pk_mul, inb_t, ix_n, gd_tt, bd_e, nm_v, ite_not, ↓reduceIte, le_t, le_f, lt_t, lt_f, eq_t, eq_f, mone_f, mone_f2, sm_il, sm_ir, Bool.toNat_true, Bool.toNat_false, Bool.and_true, Bool.and_false, Bool.true_and, Bool.false_and, Bool.not_true, Bool.not_false, Bool.false_eq_true, Bool.true_eq_false, sr_row, sr_L, hm, hnb.1, hin, har, hNe, g1, g2, p1, p2, k1]
          exact qc_made ⟨n, t, ht, p3, hw.of2 p4⟩ k2 k3 k4 g3
end
