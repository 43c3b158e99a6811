/-! stage B: a step of a script is done -/
section
variable {n t : Nat} {x m : St} {f : Nat → Int32}
theorem p_step (h : WS n t x f) (ht : t ≤ 99999) {k a b p : Nat} (hat : p < 60) (h10 : gI m 0 10 p = nI k) (h11 : gI m 0 11 p = nI a) (h12 : 2 ≤ k → gI m 0 12 p = nI b) (hk : k ≤ 6) (hv : (k = 0 → a ≤ 999) ∧ (1 ≤ k → a < n) ∧ (2 ≤ k → k ≤ 4 → b ≤ 999) ∧ (k = 5 ∨ k = 6 → b < n ∧ ¬ b = a)) : (sX2_perform x (nI k) (nI a) (nI b) = some (x, nI 0) ∧ sX7_may (sr m f) (nI p) = some (nI 0)) ∨ ∃ x' f' t' v, sX2_perform x (nI k) (nI a) (nI b) = some (x', nI 1) ∧ sX7_may (sr m f) (nI p) = some (nI 1) ∧ sX7_does (sr m f) (nI p) = some (sr m f', v) ∧ WS n t' x' f' ∧ t' ≤ 99999 ∧ x'.2 = x.2 := by
  have hn := h.n8
  have s10 : gI (sr m f) 0 10 p = nI k := by rw [sr_j _ _ _ (by omega)]; exact h10
  have s11 : gI (sr m f) 0 11 p = nI a := by rw [sr_j _ _ _ (by omega)]; exact h11
  have s12 : 2 ≤ k → gI (sr m f) 0 12 p = nI b := fun z => by rw [sr_j _ _ _ (by omega)]; exact h12 z
  obtain ⟨v0, v1, v2, v3⟩ := hv
  by_cases hk0 : k = 0
  · subst hk0
    have ha := v0 rfl
    have hcm := c_mayPass (s := a) h.xt (by omega) (by omega)
    have hmm := m_mayRun (m := m) (s := a) h.ft (by omega) (by omega)
    by_cases h1 : 1 ≤ a ∧ a ≤ 99
    · have hin : inR (nI a) (nI 1) (nI 99) = true := by
        rcases rng (nI a) 1 99 (by omega) (by omega) with ⟨_, e2⟩ | ⟨s, _, _, _, e1⟩
        · rcases e2 with e2 | e2
          · have := (nI_ltI (by omega) (by omega)).mp e2; omega
          · have := (nI_ltI (by omega) (by omega)).mp e2; omega
        · exact e1
      have hm := m_areMany (nI a)
      rw [hin] at hm
      by_cases hts : t + a ≤ 99999
      · right
        rw [decide_eq_true (show 1 ≤ a ∧ a ≤ 99 ∧ t + a ≤ 99999 from ⟨h1.1, h1.2, hts⟩)] at hcm
        rw [decide_eq_true hts] at hmm
        obtain ⟨x', f', p1, p2, p3⟩ := s_pass (m := m) (s := a) h (by omega)
        refine ⟨x', f', t + a, f' 4 - f 4, ?_, ?_, ?_, p3, hts, pass_L p1⟩
        · unfold sX2_perform
          simp (disch := omega) only [zl, zm, nI_add, pk_mul, inb_t, ix_n, gd_tt, bd_e, nm_v, ite_not, ↓reduceIte, le_t, le_f, lt_t, lt_f, eq_t, eq_f, mone_f, mone_f2, hcm, Bool.toNat_true, p1, isb_1]
        · unfold sX7_may
          simp (disch := omega) only [zl, zm, nI_add, pk_mul, inb_t, ix_n, gd_tt, bd_e, nm_v, ite_not, ↓reduceIte, le_t, le_f, lt_t, lt_f, eq_t, eq_f, mone_f, mone_f2, s10, s11, hm, hmm, Bool.toNat_true]
        · unfold sX7_does
          simp (disch := omega) only [zl, zm, nI_add, pk_mul, inb_t, ix_n, gd_tt, bd_e, nm_v, ite_not, ↓reduceIte, le_t, le_f, lt_t, lt_f, eq_t, eq_f, mone_f, mone_f2, s10, s11, m_runs, p2]
      · left
        rw [decide_eq_false (show ¬ (1 ≤ a ∧ a ≤ 99 ∧ t + a ≤ 99999) from fun z => hts z.2.2)] at hcm
        rw [decide_eq_false hts] at hmm
        refine ⟨?_, ?_⟩
        · unfold sX2_perform
          simp (disch := omega) only [zl, zm, nI_add, pk_mul, inb_t, ix_n, gd_tt, bd_e, nm_v, ite_not, ↓reduceIte, le_t, le_f, lt_t, lt_f, eq_t, eq_f, mone_f, mone_f2, hcm, Bool.toNat_false, isb_0]
        · unfold sX7_may
          simp (disch := omega) only [zl, zm, nI_add, pk_mul, inb_t, ix_n, gd_tt, bd_e, nm_v, ite_not, ↓reduceIte, le_t, le_f, lt_t, lt_f, eq_t, eq_f, mone_f, mone_f2, s10, s11, hm, hmm, Bool.toNat_true, Bool.toNat_false]
    · left
      have hin : inR (nI a) (nI 1) (nI 99) = false := by
        rcases rng (nI a) 1 99 (by omega) (by omega) with ⟨e1, _⟩ | ⟨s, q1, q2, q3, _⟩
        · exact e1
        · have := (nI_eq (by omega) (by omega)).mp q3; omega
      have hm := m_areMany (nI a)
      rw [hin] at hm
      rw [decide_eq_false (show ¬ (1 ≤ a ∧ a ≤ 99 ∧ t + a ≤ 99999) from fun z => h1 ⟨z.1, z.2.1⟩)] at hcm
      refine ⟨?_, ?_⟩
      · unfold sX2_perform
        simp (disch := omega) only [zl, zm, nI_add, pk_mul, inb_t, ix_n, gd_tt, bd_e, nm_v, ite_not, ↓reduceIte, le_t, le_f, lt_t, lt_f, eq_t, eq_f, mone_f, mone_f2, hcm, Bool.toNat_false, isb_0]
      · unfold sX7_may
        simp (disch := omega) only [zl, zm, nI_add, pk_mul, inb_t, ix_n, gd_tt, bd_e, nm_v, ite_not, ↓reduceIte, le_t, le_f, lt_t, lt_f, eq_t, eq_f, mone_f, mone_f2, s10, s11, hm, Bool.toNat_false]
  · have ha : a < n := v1 (by omega)
    have hxn := h.xn
    obtain ⟨⟨d0, d00⟩, d1, d2, d3, d4, d5, d6, d7, d8, d9, d10, d11, d12, d13, d14, d15⟩ := h.bd ha
    obtain ⟨pp, g, hp1, hg1, hp2, hp3, hgp⟩ := h.pg ha
    by_cases hk1 : k = 1
    · subst hk1
      have hat := m_isAt (m := m) (f := f) (b := a) (nI 0) rfl (by omega)
      rw [d6] at hat
      by_cases h0 : gI x (a + 1) 0 6 = nI 0
      · right
        rw [decide_eq_true h0] at hat
        obtain ⟨x', f', p1, p2, p3⟩ := l_listen (m := m) h ha (Or.inl rfl)
        have haw : sX7_awakens (sr m f) (nI a) = some (sr m f', nI t) := by
          unfold sX7_awakens
          simp (disch := omega) only [zl, zm, nI_add, pk_mul, inb_t, ix_n, gd_tt, bd_e, nm_v, ite_not, ↓reduceIte, le_t, le_f, lt_t, lt_f, eq_t, eq_f, mone_f, mone_f2, p2, sr_row, p3.ft]
        refine ⟨x', f', t, nI t, ?_, ?_, ?_, p3, ht, kl_listen (a + 1) rfl x' p1⟩
        · unfold sX2_perform sX2_performWake
          simp (disch := omega) only [zl, zm, nI_add, pk_mul, inb_t, ix_n, gd_tt, bd_e, nm_v, ite_not, ↓reduceIte, le_t, le_f, lt_t, lt_f, eq_t, eq_f, mone_f, mone_f2, hxn, h0, p1, isb_1]
        · unfold sX7_may
          simp (disch := omega) only [zl, zm, nI_add, pk_mul, inb_t, ix_n, gd_tt, bd_e, nm_v, ite_not, ↓reduceIte, le_t, le_f, lt_t, lt_f, eq_t, eq_f, mone_f, mone_f2, s10, s11, hat, Bool.toNat_true, isb_1]
        · unfold sX7_does
          simp (disch := omega) only [zl, zm, nI_add, pk_mul, inb_t, ix_n, gd_tt, bd_e, nm_v, ite_not, ↓reduceIte, le_t, le_f, lt_t, lt_f, eq_t, eq_f, mone_f, mone_f2, s10, s11, haw]
      · left
        rw [decide_eq_false h0] at hat
        refine ⟨?_, ?_⟩
        · unfold sX2_perform sX2_performWake
          simp (disch := omega) only [zl, zm, nI_add, pk_mul, inb_t, ix_n, gd_tt, bd_e, nm_v, ite_not, ↓reduceIte, le_t, le_f, lt_t, lt_f, eq_t, eq_f, mone_f, mone_f2, hxn, h0, isb_0]
        · unfold sX7_may
          simp (disch := omega) only [zl, zm, nI_add, pk_mul, inb_t, ix_n, gd_tt, bd_e, nm_v, ite_not, ↓reduceIte, le_t, le_f, lt_t, lt_f, eq_t, eq_f, mone_f, mone_f2, s10, s11, hat, Bool.toNat_false, isb_0]
    · have s12 := s12 (by omega)
      by_cases hk2 : k = 2
      · subst hk2
        have hb := v2 (by omega) (by omega)
        have hca := c_allowsP (b := nI b) hg1 (by omega)
        have hma := m_isPeriod (m := m) (k := a) (b := nI b) (by omega) (d2.trans hg1) (by omega)
        cases hz : inR (nI b) (nI 2) (nI 99) && decide (nI g < nI b) with
        | false =>
          left
          rw [hz] at hca hma
          refine ⟨?_, ?_⟩
          · unfold sX2_perform sX2_performEvery
            simp (disch := omega) only [zl, zm, nI_add, pk_mul, inb_t, ix_n, gd_tt, bd_e, nm_v, ite_not, ↓reduceIte, le_t, le_f, lt_t, lt_f, eq_t, eq_f, mone_f, mone_f2, hxn, hca, Bool.toNat_false, isb_0]
          · unfold sX7_may
            simp (disch := omega) only [zl, zm, nI_add, pk_mul, inb_t, ix_n, gd_tt, bd_e, nm_v, ite_not, ↓reduceIte, le_t, le_f, lt_t, lt_f, eq_t, eq_f, mone_f, mone_f2, s10, s11, s12, hma, Bool.toNat_false, isb_0]
        | true =>
          right
          rw [hz] at hca hma
          rw [Bool.and_eq_true] at hz
          rcases rng (nI b) 2 99 (by omega) (by omega) with ⟨e1, e2⟩ | ⟨s, hs1, hs2, hs3, e1⟩
          · rw [e1] at hz; cases hz.1
          · obtain rfl : b = s := (nI_eq (by omega) (by omega)).mp hs3
            have hgs : g < b := (nI_ltI (by omega) (by omega)).mp (of_decide_eq_true hz.2)
            have hr := r_period h ha hs1 hs2 (fun g' h1 h2 => by have := (nI_eq (by omega) h2).mp (hg1.symm.trans h1); omega)
            refine ⟨_, _, t, nI pp, ?_, ?_, ?_, hr, ht, (fun h => h) rfl⟩
            · unfold sX2_perform sX2_performEvery
              simp (disch := omega) only [zl, zm, nI_add, pk_mul, inb_t, ix_n, gd_tt, bd_e, nm_v, ite_not, ↓reduceIte, le_t, le_f, lt_t, lt_f, eq_t, eq_f, mone_f, mone_f2, hxn, hca, Bool.toNat_true, isb_1]
            · unfold sX7_may
              simp (disch := omega) only [zl, zm, nI_add, pk_mul, inb_t, ix_n, gd_tt, bd_e, nm_v, ite_not, ↓reduceIte, le_t, le_f, lt_t, lt_f, eq_t, eq_f, mone_f, mone_f2, s10, s11, s12, hma, Bool.toNat_true, isb_1]
            · unfold sX7_does sX7_cellOf sX7_swapsCell
              simp (disch := omega) only [zl, zm, nI_add, pk_mul, inb_t, ix_n, gd_tt, bd_e, nm_v, ite_not, ↓reduceIte, le_t, le_f, lt_t, lt_f, eq_t, eq_f, mone_f, mone_f2, s10, s11, s12, sr_row, sr_pI, d1, hp1]
      · by_cases hk3 : k = 3
        · subst hk3
          have hb := v2 (by omega) (by omega)
          have hca := c_allowsF (b := nI b) hp1 hp3
          have hma := m_isFirst (m := m) (k := a) (b := nI b) (by omega) (d1.trans hp1) (by omega) hp3
          rcases in_case (nI b) pp with hbb | ⟨s, hs, hs3⟩
          · left
            rw [hbb] at hca hma
            refine ⟨?_, ?_⟩
            · unfold sX2_perform sX2_performAt
              simp (disch := omega) only [zl, zm, nI_add, pk_mul, inb_t, ix_n, gd_tt, bd_e, nm_v, ite_not, ↓reduceIte, le_t, le_f, lt_t, lt_f, eq_t, eq_f, mone_f, mone_f2, hxn, hca, Bool.toNat_false, isb_0]
            · unfold sX7_may
              simp (disch := omega) only [zl, zm, nI_add, pk_mul, inb_t, ix_n, gd_tt, bd_e, nm_v, ite_not, ↓reduceIte, le_t, le_f, lt_t, lt_f, eq_t, eq_f, mone_f, mone_f2, s10, s11, s12, hma, Bool.toNat_false, isb_0]
          · right
            obtain rfl : b = s := (nI_eq (by omega) (by omega)).mp hs3
            rw [inb_t hs (by omega)] at hca hma
            have hr := r_first (g := b) h ha (fun p' h1 h2 => by have := (nI_eq (by omega) h2).mp (hp1.symm.trans h1); omega)
            refine ⟨_, _, t, nI g, ?_, ?_, ?_, hr, ht, (fun h => h) rfl⟩
            · unfold sX2_perform sX2_performAt
              simp (disch := omega) only [zl, zm, nI_add, pk_mul, inb_t, ix_n, gd_tt, bd_e, nm_v, ite_not, ↓reduceIte, le_t, le_f, lt_t, lt_f, eq_t, eq_f, mone_f, mone_f2, hxn, hca, Bool.toNat_true, isb_1]
            · unfold sX7_may
              simp (disch := omega) only [zl, zm, nI_add, pk_mul, inb_t, ix_n, gd_tt, bd_e, nm_v, ite_not, ↓reduceIte, le_t, le_f, lt_t, lt_f, eq_t, eq_f, mone_f, mone_f2, s10, s11, s12, hma, Bool.toNat_true, isb_1]
            · unfold sX7_does sX7_cellOf sX7_swapsCell
              simp (disch := omega) only [zl, zm, nI_add, pk_mul, inb_t, ix_n, gd_tt, bd_e, nm_v, ite_not, ↓reduceIte, le_t, le_f, lt_t, lt_f, eq_t, eq_f, mone_f, mone_f2, s10, s11, s12, sr_row, sr_pI, d2, hg1]
        · by_cases hk4 : k = 4
          · subst hk4
            have hb := v2 (by omega) (by omega)
            have hci := c_isCharge (nI b)
            have hmi := m_isBy (nI b)
            rcases rng (nI b) 1 999 (by omega) (by omega) with ⟨e1, e2⟩ | ⟨s, hs1, hs2, hs3, e1⟩
            · left
              rw [e1] at hci hmi
              refine ⟨?_, ?_⟩
              · unfold sX2_perform sX2_performCharge
                simp (disch := omega) only [zl, zm, nI_add, pk_mul, inb_t, ix_n, gd_tt, bd_e, nm_v, ite_not, ↓reduceIte, le_t, le_f, lt_t, lt_f, eq_t, eq_f, mone_f, mone_f2, hxn, hci, Bool.toNat_false, isb_0]
              · unfold sX7_may
                simp (disch := omega) only [zl, zm, nI_add, pk_mul, inb_t, ix_n, gd_tt, bd_e, nm_v, ite_not, ↓reduceIte, le_t, le_f, lt_t, lt_f, eq_t, eq_f, mone_f, mone_f2, s10, s11, s12, hmi, Bool.toNat_false, isb_0]
            · right
              rw [e1] at hci hmi
              obtain ⟨x', f', v, p1, p2, p3, p4, p5⟩ := s_charge (m := m) h ha hb
              refine ⟨x', f', t, v, ?_, ?_, ?_, p4, ht, p5⟩
              · unfold sX2_perform sX2_performCharge
                simp (disch := omega) only [zl, zm, nI_add, pk_mul, inb_t, ix_n, gd_tt, bd_e, nm_v, ite_not, ↓reduceIte, le_t, le_f, lt_t, lt_f, eq_t, eq_f, mone_f, mone_f2, hxn, hci, Bool.toNat_true, p1, isb_1]
              · unfold sX7_may
                simp (disch := omega) only [zl, zm, nI_add, pk_mul, inb_t, ix_n, gd_tt, bd_e, nm_v, ite_not, ↓reduceIte, le_t, le_f, lt_t, lt_f, eq_t, eq_f, mone_f, mone_f2, s10, s11, s12, hmi, Bool.toNat_true, isb_1]
              · unfold sX7_does
                simp (disch := omega) only [zl, zm, nI_add, pk_mul, inb_t, ix_n, gd_tt, bd_e, nm_v, ite_not, ↓reduceIte, le_t, le_f, lt_t, lt_f, eq_t, eq_f, mone_f, mone_f2, s10, s11, s12, p3]
          · obtain ⟨hb, hba⟩ := v3 (by omega)
            have hnb := h.nb ha
            have hin := c_isIn (a := NB x a) (k := b) (by omega) (by omega)
            have har := m_areNear (m := m) (f := f) (b := a) (c := b) (by omega) (by omega) (h.fb ha).2 (h.fb ha).1
            have near : ∀ N : Bool, ((NB x a).testBit b = N → sX2_perform_b116 x (nI N.toNat) (nI b) (nI a) = some (x, nI 0)) ∧ (¬ (NB x a).testBit b = N → ∃ x' f' t' v, sX2_perform_b116 x (nI N.toNat) (nI b) (nI a) = some (x', nI 1) ∧ sX7_does_b115 (sr m f) (nI N.toNat) (nI b) (nI a) = some (sr m f', v) ∧ WS n t' x' f' ∧ t' ≤ 99999 ∧ x'.2 = x.2) := fun N => by
              refine ⟨fun hN => ?_, fun hN => ?_⟩
              · rw [hN] at hin
                unfold sX2_perform_b116 sX2_performNear
                simp (disch := omega) only [zl, zm, nI_add, pk_mul, inb_t, ix_n, gd_tt, bd_e, nm_v, ite_not, ↓reduceIte, le_t, le_f, lt_t, lt_f, eq_t, eq_f, mone_f, mone_f2, hxn, hnb.1, hin, isb_0]
              · obtain ⟨x', f', p1, p2, p3, p4⟩ := s_near (m := m) h ha hb (fun z => hba z.symm) hN
                have hNe : (nI ((NB x a).testBit b).toNat = nI N.toNat) = False := eq_false fun z => hN (by
                  revert z
                  cases (NB x a).testBit b <;> cases N <;> decide)
                refine ⟨x', f', t, nI 1, ?_, ?_, p3, ht, p4⟩
                · unfold sX2_perform_b116 sX2_performNear
                  simp (disch := omega) only [zl, zm, nI_add, pk_mul, inb_t, ix_n, gd_tt, bd_e, nm_v, ite_not, ↓reduceIte, le_t, le_f, lt_t, lt_f, eq_t, eq_f, mone_f, mone_f2, hxn, hnb.1, hin, hNe, p1, isb_1]
                · unfold sX7_does_b115
                  simp (disch := omega) only [zl, zm, nI_add, pk_mul, inb_t, ix_n, gd_tt, bd_e, nm_v, ite_not, ↓reduceIte, le_t, le_f, lt_t, lt_f, eq_t, eq_f, mone_f, mone_f2, p2]
            by_cases hk5 : k = 5
            · subst hk5
              have hpf : sX2_perform x (nI 5) (nI a) (nI b) = sX2_perform_b116 x (nI true.toNat) (nI b) (nI a) := by
                unfold sX2_perform
                simp (disch := omega) only [zl, zm, nI_add, pk_mul, inb_t, ix_n, gd_tt, bd_e, nm_v, ite_not, ↓reduceIte, le_t, le_f, lt_t, lt_f, eq_t, eq_f, mone_f, mone_f2, hxn, Bool.toNat_true]
              have hdo : sX7_does (sr m f) (nI p) = sX7_does_b115 (sr m f) (nI true.toNat) (nI b) (nI a) := by
                unfold sX7_does
                simp (disch := omega) only [zl, zm, nI_add, pk_mul, inb_t, ix_n, gd_tt, bd_e, nm_v, ite_not, ↓reduceIte, le_t, le_f, lt_t, lt_f, eq_t, eq_f, mone_f, mone_f2, s10, s11, s12, Bool.toNat_true]
              rw [hpf, hdo]
              by_cases hN : (NB x a).testBit b = true
              · left
                rw [hN] at har
                refine ⟨(near true).1 hN, ?_⟩
                unfold sX7_may
                simp (disch := omega) only [zl, zm, nI_add, pk_mul, inb_t, ix_n, gd_tt, bd_e, nm_v, ite_not, ↓reduceIte, le_t, le_f, lt_t, lt_f, eq_t, eq_f, mone_f, mone_f2, s10, s11, s12, har, Bool.toNat_true]
              · right
                obtain ⟨x', f', t', v, q1, q2, q3, q4, q5⟩ := (near true).2 hN
                rw [Bool.eq_false_iff.mpr hN] at har
                refine ⟨x', f', t', v, q1, ?_, q2, q3, q4, q5⟩
                unfold sX7_may
                simp (disch := omega) only [zl, zm, nI_add, pk_mul, inb_t, ix_n, gd_tt, bd_e, nm_v, ite_not, ↓reduceIte, le_t, le_f, lt_t, lt_f, eq_t, eq_f, mone_f, mone_f2, s10, s11, s12, har, Bool.toNat_false]
            · obtain rfl : k = 6 := by omega
              have hpf : sX2_perform x (nI 6) (nI a) (nI b) = sX2_perform_b116 x (nI false.toNat) (nI b) (nI a) := by
                unfold sX2_perform
                simp (disch := omega) only [zl, zm, nI_add, pk_mul, inb_t, ix_n, gd_tt, bd_e, nm_v, ite_not, ↓reduceIte, le_t, le_f, lt_t, lt_f, eq_t, eq_f, mone_f, mone_f2, hxn, Bool.toNat_false]
              have hdo : sX7_does (sr m f) (nI p) = sX7_does_b115 (sr m f) (nI false.toNat) (nI b) (nI a) := by
                unfold sX7_does
                simp (disch := omega) only [zl, zm, nI_add, pk_mul, inb_t, ix_n, gd_tt, bd_e, nm_v, ite_not, ↓reduceIte, le_t, le_f, lt_t, lt_f, eq_t, eq_f, mone_f, mone_f2, s10, s11, s12, Bool.toNat_false]
              rw [hpf, hdo]
              by_cases hN : (NB x a).testBit b = false
              · left
                rw [hN] at har
                refine ⟨(near false).1 hN, ?_⟩
                unfold sX7_may
                simp (disch := omega) only [zl, zm, nI_add, pk_mul, inb_t, ix_n, gd_tt, bd_e, nm_v, ite_not, ↓reduceIte, le_t, le_f, lt_t, lt_f, eq_t, eq_f, mone_f, mone_f2, s10, s11, s12, har, Bool.toNat_false, isb_0]
              · right
                obtain ⟨x', f', t', v, q1, q2, q3, q4, q5⟩ := (near false).2 hN
                have hN2 : (NB x a).testBit b = true := by
                  cases hh : (NB x a).testBit b with
                  | true => rfl
                  | false => exact absurd hh hN
                rw [hN2] at har
                refine ⟨x', f', t', v, q1, ?_, q2, q3, q4, q5⟩
                unfold sX7_may
                simp (disch := omega) only [zl, zm, nI_add, pk_mul, inb_t, ix_n, gd_tt, bd_e, nm_v, ite_not, ↓reduceIte, le_t, le_f, lt_t, lt_f, eq_t, eq_f, mone_f, mone_f2, s10, s11, s12, har, Bool.toNat_true, isb_1]
end
/-! how long a script can run -/
def SOK (N : Nat) (stk : Nat → List Nat) : Prop := stk N = [] ∧ ∀ i, i < N → stk (i + 1) = stk i ∨ stk (i + 1) = i :: stk i ∨ ∃ a, stk i = a :: stk (i + 1)
/-- where a repeat is closed -/
def CLS (N : Nat) (stk : Nat → List Nat) (r : Nat) (s : List Nat) (c : Nat) : Prop := r < c ∧ c < N ∧ stk (r + 1) = r :: s ∧ stk c = r :: s ∧ stk (c + 1) = s ∧ ∀ j, r < j → j ≤ c → ∃ u, stk j = u ++ r :: s
theorem not_suf {r : Nat} {s u : List Nat} (h : s = u ++ r :: s) : False := by
  have := congrArg List.length h
  rw [List.length_append, List.length_cons] at this
  omega
section
variable {N : Nat} {stk : Nat → List Nat} {r : Nat} {s : List Nat}
theorem cls_from (h : SOK N stk) (h0 : stk (r + 1) = r :: s) : ∀ (d j : Nat), j + d = N → r < j → (∀ i, r < i → i ≤ j → ∃ u, stk i = u ++ r :: s) → ∃ c, CLS N stk r s c
  | 0, j, h1, h2, h3 => by
    obtain ⟨u, hu⟩ := h3 j h2 (Nat.le_refl _)
    rw [show j = N by omega, h.1] at hu
    have := congrArg List.length hu
    rw [List.length_append, List.length_cons] at this
    simp at this
  | d + 1, j, h1, h2, h3 => by
    obtain ⟨u, hu⟩ := h3 j h2 (Nat.le_refl _)
    have more : ∀ u', stk (j + 1) = u' ++ r :: s → ∃ c, CLS N stk r s c := fun u' hu' => cls_from h h0 d (j + 1) (by omega) (by omega) fun i hi1 hi2 => by
      by_cases hij : i = j + 1
      · rw [hij]; exact ⟨u', hu'⟩
      · exact h3 i hi1 (by omega)
    rcases h.2 j (by omega) with e | e | ⟨a, e⟩
    · exact more u (e.trans hu)
    · exact more (j :: u) (by rw [e, hu]; rfl)
    · cases u with
      | nil =>
        have h4 : a :: stk (j + 1) = r :: s := e.symm.trans hu
        have h5 : stk (j + 1) = s := (List.cons.inj h4).2
        exact ⟨j, h2, by omega, h0, hu, h5, h3⟩
      | cons b u =>
        have h4 : a :: stk (j + 1) = b :: (u ++ r :: s) := e.symm.trans hu
        exact more u (List.cons.inj h4).2
theorem cls_ex (h : SOK N stk) (hr : r < N) (h0 : stk (r + 1) = r :: s) : ∃ c, CLS N stk r s c :=
  cls_from h h0 (N - (r + 1)) (r + 1) (by omega) (by omega) fun i h1 h2 => ⟨[], by rw [show i = r + 1 by omega]; exact h0⟩
/-- at most so many steps are still to do -/
def INV (N : Nat) (stk : Nat → List Nat) (p : Nat) : List Nat → List Nat → Nat → Prop
  | [], [], E => E = (N - p) * 441
  | [r], [q], E => ∃ c, CLS N stk r [] c ∧ r < p ∧ p ≤ c ∧ E = (N - 1 - c) * 441 + ((q - 1) * (c - r) + (c + 1 - p)) * 21
  | [r2, r1], [q2, q1], E => ∃ c1 c2, CLS N stk r1 [] c1 ∧ CLS N stk r2 [r1] c2 ∧ r1 < r2 ∧ c2 < c1 ∧ r2 < p ∧ p ≤ c2 ∧ E = (N - 1 - c1) * 441 + ((q1 - 1) * (c1 - r1) + (c1 - c2)) * 21 + ((q2 - 1) * (c2 - r2) + (c2 + 1 - p))
  | _, _, _ => False
variable {p E : Nat} {ps : List Nat}
theorem inv_next (h : INV N stk p s ps E) (h1 : stk (p + 1) = s) (hp : p < N) : ∃ E', E' < E ∧ INV N stk (p + 1) s ps E' := by
  match s, ps, h with
  | [], [], h =>
    have h : E = (N - p) * 441 := h
    exact ⟨(N - (p + 1)) * 441, by omega, (fun h => h) rfl⟩
  | [r], [q], h =>
    obtain ⟨c, hc, h2, h3, h4⟩ := h
    have hpc : ¬ p = c := fun z => by
      have h5 := hc.2.2.2.2.1
      rw [← z, h1] at h5
      cases h5
    refine ⟨(N - 1 - c) * 441 + ((q - 1) * (c - r) + (c + 1 - (p + 1))) * 21, ?_, c, hc, by omega, by omega, rfl⟩
    generalize (q - 1) * (c - r) = P at h4 ⊢
    omega
  | [r2, r1], [q2, q1], h =>
    obtain ⟨c1, c2, hc1, hc2, h00, h0, h2, h3, h4⟩ := h
    have hpc : ¬ p = c2 := fun z => by
      have h5 := hc2.2.2.2.2.1
      rw [← z, h1] at h5
      cases h5
    refine ⟨(N - 1 - c1) * 441 + ((q1 - 1) * (c1 - r1) + (c1 - c2)) * 21 + ((q2 - 1) * (c2 - r2) + (c2 + 1 - (p + 1))), ?_, c1, c2, hc1, hc2, h00, h0, by omega, by omega, rfl⟩
    generalize (q1 - 1) * (c1 - r1) = P at h4 ⊢
    generalize (q2 - 1) * (c2 - r2) = Q at h4 ⊢
    omega
theorem inv_open (h : INV N stk p s ps E) (hs : SOK N stk) (h1 : stk (p + 1) = p :: s) (hl : s.length ≤ 1) (hp : p < N) {q : Nat} (hq : 1 ≤ q ∧ q ≤ 20) : ∃ E', E' < E ∧ INV N stk (p + 1) (p :: s) (q :: ps) E' := by
  match s, ps, h with
  | [], [], h =>
    have h : E = (N - p) * 441 := h
    obtain ⟨c, hc⟩ := cls_ex hs hp h1
    have hm : (q - 1) * (c - p) ≤ 19 * (c - p) := Nat.mul_le_mul_right _ (by omega)
    have hc1 := hc.1
    have hc2 := hc.2.1
    refine ⟨(N - 1 - c) * 441 + ((q - 1) * (c - p) + (c + 1 - (p + 1))) * 21, ?_, c, hc, by omega, by omega, rfl⟩
    generalize (q - 1) * (c - p) = P at hm ⊢
    omega
  | [r], [q1], h =>
    obtain ⟨c1, hc, h2, h3, h4⟩ := h
    obtain ⟨c2, hd⟩ := cls_ex hs hp h1
    have hpc : ¬ p = c1 := fun z => by
      have h5 := hc.2.2.2.2.1
      rw [← z, h1] at h5
      cases h5
    have hcc : c2 < c1 := by
      rcases Nat.lt_or_ge c2 c1 with z | z
      · exact z
      · obtain ⟨u, hu⟩ := hd.2.2.2.2.2 c1 (by omega) z
        rw [hc.2.2.2.1] at hu
        exact (not_suf hu).elim
    have hm : (q - 1) * (c2 - p) ≤ 19 * (c2 - p) := Nat.mul_le_mul_right _ (by omega)
    have hd1 := hd.1
    refine ⟨(N - 1 - c1) * 441 + ((q1 - 1) * (c1 - r) + (c1 - c2)) * 21 + ((q - 1) * (c2 - p) + (c2 + 1 - (p + 1))), ?_, c1, c2, hc, hd, h2, hcc, by omega, by omega, rfl⟩
    generalize (q1 - 1) * (c1 - r) = P at h4 ⊢
    generalize (q - 1) * (c2 - p) = Q at hm ⊢
    omega
  | [_, _], _, _ => exact absurd (show 2 ≤ 1 from hl) (by decide)
theorem inv_close (h : INV N stk p (r :: s) ps E) (h1 : stk (p + 1) = s) (hp : p < N) : ∃ q ps', ps = q :: ps' ∧ (q ≤ 1 → ∃ E', E' < E ∧ INV N stk (p + 1) s ps' E') ∧ (2 ≤ q → stk (r + 1) = r :: s ∧ r + 1 ≤ N ∧ ∃ E', E' < E ∧ INV N stk (r + 1) (r :: s) ((q - 1) :: ps') E') := by
  match s, ps, h with
  | [], [q], h =>
    obtain ⟨c, hc, h2, h3, h4⟩ := h
    obtain rfl : p = c := by
      rcases Nat.eq_or_lt_of_le h3 with z | z
      · exact z
      · obtain ⟨u, hu⟩ := hc.2.2.2.2.2 (p + 1) (by omega) (by omega)
        rw [h1] at hu
        exact (not_suf hu).elim
    refine ⟨q, [], rfl, fun hq => ⟨(N - (p + 1)) * 441, ?_, (fun h => h) rfl⟩, fun hq => ⟨hc.2.2.1, by omega, (N - 1 - p) * 441 + ((q - 1 - 1) * (p - r) + (p + 1 - (r + 1))) * 21, ?_, p, hc, by omega, by omega, rfl⟩⟩
    · generalize (q - 1) * (p - r) = P at h4
      omega
    · obtain ⟨q', rfl⟩ : ∃ q', q = q' + 2 := ⟨q - 2, by omega⟩
      have hm : (q' + 2 - 1) * (p - r) = q' * (p - r) + (p - r) := by
        rw [show q' + 2 - 1 = q' + 1 by omega, Nat.succ_mul]
      rw [hm] at h4
      rw [show q' + 2 - 1 - 1 = q' by omega]
      generalize q' * (p - r) = P at h4 ⊢
      omega
  | [r1], [q2, q1], h =>
    obtain ⟨c1, c2, hc1, hc2, h00, h0, h2, h3, h4⟩ := h
    obtain rfl : p = c2 := by
      rcases Nat.eq_or_lt_of_le h3 with z | z
      · exact z
      · obtain ⟨u, hu⟩ := hc2.2.2.2.2.2 (p + 1) (by omega) (by omega)
        rw [h1] at hu
        exact (not_suf hu).elim
    refine ⟨q2, [q1], rfl, fun hq => ⟨(N - 1 - c1) * 441 + ((q1 - 1) * (c1 - r1) + (c1 + 1 - (p + 1))) * 21, ?_, c1, hc1, by omega, by omega, rfl⟩, fun hq => ⟨hc2.2.2.1, by omega, (N - 1 - c1) * 441 + ((q1 - 1) * (c1 - r1) + (c1 - p)) * 21 + ((q2 - 1 - 1) * (p - r) + (p + 1 - (r + 1))), ?_, c1, p, hc1, hc2, h00, h0, by omega, by omega, rfl⟩⟩
    · generalize (q1 - 1) * (c1 - r1) = P at h4 ⊢
      generalize (q2 - 1) * (p - r) = Q at h4
      omega
    · obtain ⟨q', rfl⟩ : ∃ q', q2 = q' + 2 := ⟨q2 - 2, by omega⟩
      have hm : (q' + 2 - 1) * (p - r) = q' * (p - r) + (p - r) := by
        rw [show q' + 2 - 1 = q' + 1 by omega, Nat.succ_mul]
      rw [hm] at h4
      rw [show q' + 2 - 1 - 1 = q' by omega]
      generalize (q1 - 1) * (c1 - r1) = P at h4 ⊢
      generalize q' * (p - r) = Q at h4 ⊢
      omega
end
