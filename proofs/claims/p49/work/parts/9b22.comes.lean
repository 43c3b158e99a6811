/-! stage B: what the class says will come does come, and is taken back -/
section
variable {n t t' t1 k : Nat} {x x1 Y Y' Y1 Y2 : St} {T : TT} {L : List St}
theorem i_as (a b : Int32) : a + (b - a) = b := by rw [Int32.add_comm]; exact Int32.sub_add_cancel b a
theorem nI_dn (a : Nat) : nI (a + 1) + mone = nI a := by
  rw [← nI_add, Int32.add_assoc, show nI 1 + mone = 0 from by decide, Int32.add_zero]
theorem itY_un {s : Nat} (h : itY n s Y = some Y1) (h2 : itY n s Y = some Y2) : Y1 = Y2 := Option.some.inj (h.symm.trans h2)
theorem b_230 (h : RT n t' [x1] T Y') (h1 : RY n t x1 Y) : ∃ T', sL_comes_b230 n T Y 0 = some (T', nI 1) ∧ RT n t [] T' Y := by
  obtain ⟨T', v, e1, e2, e3⟩ := t_undo h h1
  have ha := l_alike e3.1
  refine ⟨T', ?_, e3⟩
  unfold sL_comes_b230
  simp (disch := omega) only [zl, zm, nI_add, pk_mul, inb_t, ix_n, gd_tt, bd_e, nm_v, ite_not, ↓reduceIte, le_t, le_f, lt_t, lt_f, eq_t, eq_f, mone_f, mone_f2, e1, ha, show ltN (0 + 8) 9 = true from rfl, show ltN 8 9 = true from rfl]
theorem b_104 (h : RT n t [] T Y) (hk : k < n) (ht : t ≤ 99000) (F : Nat) : ∃ T', sL_comes_b104 (F + 1) n T Y 0 (nI k) (nI 0) = some (T', nI 1) ∧ RT n t [] T' Y := by
  have hn := h.1.n8
  obtain ⟨p, g, d, hp, hg, h2p, hp99, hgp, hd, hdv⟩ := r_due h.1 hk
  obtain ⟨T1, Ya, a1, a2, a3, a4⟩ := t_stateIn h hk (s := 7) (by omega) (by omega)
  obtain ⟨T2, Yb, b1, b2, b3, b4⟩ := t_energyIn a3 hk (s := 7) (by omega) (by omega)
  obtain ⟨T3, Yc, c1, c2, c3, c4⟩ := t_collIn b3 (s := 7) (by omega) (by omega)
  obtain ⟨T4, Yd, d1, d2, d3, d4⟩ := t_run c3 (s := 7) (by omega) (by omega) (by omega) (Nat.zero_le _)
  obtain rfl := itY_un a2 d2
  obtain rfl := itY_un b2 d2
  obtain rfl := itY_un c2 d2
  have hs3 := (r_set c3.1).2.2.2.2.2.2.1
  have hs4 := (r_set d3.1).2.2.2.2.2.2.1
  have r5 := (r_bea d3.1 hk).1 5 (by omega)
  have r4 := (r_bea d3.1 hk).1 4 (by omega)
  obtain ⟨p', g', d', hp', hg', h2p', hp99', hgp', hd', hdv'⟩ := r_due d3.1 hk
  have hpp : p' = p := by
    have e := d4 k 0 (by omega)
    rw [hp, hp'] at e
    exact (nI_eq (by omega) (by omega)).mp e
  have hgg : g' = g := by
    have e := d4 k 1 (by omega)
    rw [hg, hg'] at e
    exact (nI_eq (by omega) (by omega)).mp e
  rw [hpp, hgg] at hd'
  have hd99 := hd.2.1
  have hd99' := hd'.2.1
  obtain ⟨T5, f1, f2⟩ := b_230 d3 c3.1
  refine ⟨T5, ?_, f2⟩
  simp only [sL_comes_b104]
  by_cases hd7 : d ≤ 7
  · simp (disch := omega) only [zl, zm, nI_add, pk_mul, inb_t, ix_n, gd_tt, bd_e, nm_v, ite_not, ↓reduceIte, le_t, le_f, lt_t, lt_f, eq_t, eq_f, mone_f, mone_f2, hdv, a1, b1, c1, hs3, d1, r5, r4, hs4, i_as, eq_self, f1]
  · have hdd : d' = d - 7 := by
      refine due_un hd' ⟨by omega, by omega, ?_, fun j h1 h2 => ?_⟩
      · rw [show t + 7 + (d - 7) = t + d by omega]; exact hd.2.2.1
      · rw [show t + 7 + j = t + (7 + j) by omega]; exact hd.2.2.2 (7 + j) (by omega) (by omega)
    subst hdd
    simp (disch := omega) only [zl, zm, nI_add, pk_mul, inb_t, ix_n, gd_tt, bd_e, nm_v, ite_not, ↓reduceIte, le_t, le_f, lt_t, lt_f, eq_t, eq_f, mone_f, mone_f2, hdv, a1, b1, c1, hs3, d1, r5, r4, hs4, i_as, eq_self, f1, hdv', zs]
theorem b_104s (h : RT n t' (x1 :: L) T Y') (h1 : RY n t1 x1 Y1) {a : Nat} (ha : a ≤ 2) (Y : St) : ∃ T', RT n t1 L T' Y1 ∧ ∀ F, sL_comes_b104 (F + 1) n T Y 0 (nI k) (nI (a + 1)) = sL_comes_b104 F n T' Y 0 (nI k) (nI a) := by
  obtain ⟨T', v, e1, e2, e3⟩ := t_undo h h1
  refine ⟨T', e3, fun F => ?_⟩
  simp only [sL_comes_b104]
  simp (disch := omega) only [zl, zm, nI_add, pk_mul, inb_t, ix_n, gd_tt, bd_e, nm_v, ite_not, ↓reduceIte, le_t, le_f, lt_t, lt_f, eq_t, eq_f, mone_f, mone_f2, e1, nI_dn]
theorem b_63 (h : RT n t' L T Y') (hk : k < n) (ht : t' ≤ 99500) (h8 : gI Y2 (k + 1) 0 8 = gI Y' (k + 1) 0 8 + nI 1) (h5 : gI Y2 (k + 1) 0 5 = nI 0) (hY2 : itY n 1 Y' = some Y2) (hL : L.length ≤ 5) (a : Nat) (Y : St) : ∃ T', RT n (t' + 1) (T.1 :: L) T' Y2 ∧ sL_comes_b63 n T Y 0 (nI k) (nI a) (gI Y' (k + 1) 0 8) = sL_comes_b104 FU n T' Y 0 (nI k) (nI (a + 1)) := by
  have hn := h.1.n8
  obtain ⟨T4, Yd, d1, d2, d3, d4⟩ := t_run h (s := 1) (by omega) (by omega) (by omega) hL
  obtain rfl := itY_un d2 hY2
  obtain ⟨x', Y3, e1, e2, e3, e4, e5⟩ := t_oneR h.1 (by omega)
  obtain rfl := itY_un d2 (itY_s rfl e2)
  obtain ⟨d, g1, g2, g3⟩ := h.1.came d3.1 (by omega) (by omega) e4 hk h8
  have r11 := (r_bea d3.1 hk).2.2.2.1
  have r5 := (r_bea d3.1 hk).1 5 (by omega)
  refine ⟨T4, d3, ?_⟩
  unfold sL_comes_b63
  rw [g3] at d1
  simp (disch := omega) only [zl, zm, nI_add, pk_mul, inb_t, ix_n, gd_tt, bd_e, nm_v, ite_not, ↓reduceIte, le_t, le_f, lt_t, lt_f, eq_t, eq_f, mone_f, mone_f2, d1, r11, r5, h8, h5, eq_self]
theorem l_comes (h : RT n t [] T Y) (hk : k < n) (ht : t ≤ 9000) : ∃ T', sL_comes n T Y 0 (nI k) = some (T', nI 1) ∧ RT n t [] T' Y := by
  have hn := h.1.n8
  obtain ⟨T1, v, e1, e2, e3, e4⟩ := t_wellIn h hk (by omega)
  have q2 := (r_bea e3.1 hk).2.2.2.1
  obtain ⟨F, hF⟩ : ∃ F, FU = F + 1 + 1 + 1 := ⟨FU - 3, by have : FU = 1000000 := rfl; omega⟩
  rcases e2 with rfl | ⟨m, Ym, Ym1, rfl, hm, hm1, hm2, g1, g2, g3⟩
  · obtain ⟨T2, f1, f2⟩ := b_104 e3 hk (by omega) (F + 1 + 1)
    refine ⟨T2, ?_, f2⟩
    unfold sL_comes
    rw [hF]
    simp (disch := omega) only [zl, zm, nI_add, pk_mul, inb_t, ix_n, gd_tt, bd_e, nm_v, ite_not, ↓reduceIte, le_t, le_f, lt_t, lt_f, eq_t, eq_f, mone_f, mone_f2, e1, q2, show (mone ≤ nI 0) = True from eq_true (by decide), f1]
  · by_cases h100 : 100 ≤ m + 1
    · obtain ⟨T2, f1, f2⟩ := b_104 e3 hk (by omega) (F + 1 + 1)
      refine ⟨T2, ?_, f2⟩
      unfold sL_comes
      rw [hF]
      simp (disch := omega) only [zl, zm, nI_add, pk_mul, inb_t, ix_n, gd_tt, bd_e, nm_v, ite_not, ↓reduceIte, le_t, le_f, lt_t, lt_f, eq_t, eq_f, mone_f, mone_f2, e1, q2, f1]
    · by_cases h0 : m = 0
      · subst h0
        obtain rfl : Y = Ym := Option.some.inj hm1
        obtain ⟨T2, f1, f2⟩ := b_63 e3 hk (by omega) g2 g3 hm2 (Nat.zero_le _) 0 Y
        obtain ⟨T3, f3, f4⟩ := b_104s (k := k) f1 e3.1 (a := 0) (by omega) Y
        obtain ⟨T4, f5, f6⟩ := b_104 f3 hk (by omega) (F + 1)
        refine ⟨T4, ?_, f6⟩
        rw [hF] at f2
        unfold sL_comes
        simp (disch := omega) only [zl, zm, nI_add, pk_mul, inb_t, ix_n, gd_tt, bd_e, nm_v, ite_not, ↓reduceIte, le_t, le_f, lt_t, lt_f, eq_t, eq_f, mone_f, mone_f2, e1, q2]
        rw [f2, f4, f5]
      · obtain ⟨T5, Y5, a1, a2, a3, a4⟩ := t_run e3 (s := m) (by omega) (by omega) (by omega) (Nat.zero_le _)
        obtain rfl := itY_un a2 hm1
        have q8 := (r_bea a3.1 hk).2.2.2.1
        have hs1 : itY n 1 Y5 = some Ym1 := by
          obtain ⟨x', Y3, e1, e2, e3, e4, e5⟩ := t_oneR a3.1 (by omega)
          have z1 := itY_s (n := n) (s := 0) (Y := Y5) rfl e2
          have z2 := itY_s a2 e2
          rw [itY_un hm2 z2]
          exact z1
        obtain ⟨T2, f1, f2⟩ := b_63 a3 hk (by omega) (by rw [g2, g1]) g3 hs1 (show 1 ≤ 5 by omega) 1 Y
        obtain ⟨T3, f3, f4⟩ := b_104s (k := k) f1 a3.1 (a := 1) (by omega) Y
        obtain ⟨T6, f7, f8⟩ := b_104s (k := k) f3 e3.1 (a := 0) (by omega) Y
        obtain ⟨T4, f5, f6⟩ := b_104 f7 hk (by omega) F
        refine ⟨T4, ?_, f6⟩
        rw [hF, f4, f8, f5] at f2
        unfold sL_comes
        simp (disch := omega) only [zl, zm, nI_add, pk_mul, inb_t, ix_n, gd_tt, bd_e, nm_v, ite_not, ↓reduceIte, le_t, le_f, lt_t, lt_f, eq_t, eq_f, mone_f, mone_f2, e1, q2, zs, Nat.add_sub_cancel, a1, q8, g1, eq_self]
        rw [g1] at f2
        exact f2
end
