/-! stage B: all sendings end, and a whole slot, in the class's and the law's world -/
section
variable {n t tb cm wl wm e k b : Nat} {q : Bool} {x x' m Y Y' Z : St} {f f' : Nat → Int32}
theorem IV.up {t' tb' wm' : Nat} (h : IV n t tb wm Y) (h1 : t ≤ t') (h2 : tb ≤ tb') (h3 : wm ≤ wm') : IV n t' tb' wm' Y := by
  obtain ⟨hB, hC, W, U, hS, hW, hU, hwm⟩ := h
  exact ⟨fun b hb => (hB b hb).up h1 h2, hC, W, U, hS, hW, hU, by omega⟩
theorem iv_left (h : IV n t tb wm Y) (hk : k < n) (h3 : gI Y (k + 1) 0 5 = nI 3) (v : Int32) : IV n t tb wm (pI Y (k + 1) 0 6 v) := by
  refine h.step (dw := 0) (du := 0) hk (by omega) (fun o j i h1 h2 h3 => ?_) (by rw [h3]; decide) ?_ (fun z => ?_) ?_ ?_ ?_ ?_
  · rw [gI_pI, if_neg (by omega)]
  · rw [gI_pI, if_neg (by omega), h3]; decide
  · rw [gI_pI, if_neg (by omega), h3] at z; exact absurd z (by decide)
  all_goals rw [add0, gI_pI, if_neg (by omega)]
theorem t_end {u S : Nat} {a1 : Int32} (h : WR n t cm wl wm true 99 x f) (y : FY n Y f) (hk : k < n) (hwm : wm + 1 ≤ 1600000) (hSk : S.testBit k = true ↔ gI x (k + 1) 0 6 = nI 3) (hsent : gI Y 0 3 k = nI (S.testBit k).toNat) (hI : IV n t tb wm Y) : ∃ x' f' Y', (∀ F, sX5_endSendings_b2 (F + 1) x (nI k) = sX5_endSendings_b2 F x' (nI (k + 1))) ∧ (∀ F, sX8_slot_b365 (F + 1) n Y u a1 (nI k) = sX8_slot_b365 F n Y' u a1 (nI (k + 1))) ∧ WR n t cm wl (wm + 1) true 99 x' f' ∧ (∀ b, ¬ b = k → gI x' (b + 1) 0 6 = gI x (b + 1) 0 6) ∧ FY n Y' f' ∧ IV n t tb (wm + 1) Y' ∧ EF k Y Y' := by
  have hn := h.n8
  have hxn := h.xn
  have hup : ∀ {x f}, WR n t cm wl wm true 99 x f → WR n t cm wl (wm + 1) true 99 x f := fun hw => by
    obtain ⟨⟨c, w, tr, sn, v1, v2, v3, v4, v5, v6, v7⟩, j4, j5⟩ := hw
    exact ⟨⟨c, w, tr, sn, v1, v2, v3, v4, by omega, by omega, v7⟩, j4, j5⟩
  by_cases h3 : gI x (k + 1) 0 6 = nI 3
  · have hSb := hSk.mpr h3
    rw [hSb] at hsent
    obtain ⟨lf, j1, j2, j3, j4⟩ := l_left h hk h3 (by omega) (by omega)
    have yl := y_left y hn hk (nI lf)
    have hl6 : gI Y (k + 1) 0 6 = nI (lf + 1) := (y.fb hk).2.2.2.2.2.2.1.trans j3
    have hy5 : gI Y (k + 1) 0 5 = nI 3 := by
      obtain ⟨⟨d0, d00⟩, d1, d2, d3, d4, d5, d6, _⟩ := h.bd hk
      exact (y.fb hk).2.2.2.2.2.1.trans (d6.trans h3)
    have hIl := iv_left hI hk hy5 (nI lf)
    by_cases h0 : lf = 0
    · subst h0
      rw [if_pos rfl] at j4
      obtain ⟨x', f', Y', ⟨z, r, e1, e2⟩, e3, e4, e5, e6, e7, e8⟩ := t_through j4 yl hk (by rw [gI_pI, if_neg (by omega)]; exact h3) hwm hIl
      refine ⟨x', f', Y', fun F => ?_, fun F => ?_, e4, fun b hb => (e5 b hb).trans (by rw [bv_ne hb]), e6, e7, ⟨fun b hb => ?_, fun i => ?_, ?_, fun b i hi => ?_⟩⟩
      · simp only [sX5_endSendings_b2]
        rw [hxn]
        cases r with
        | true =>
          rw [if_pos rfl] at e2
          rw [e2]
          simp (disch := omega) only [zl, zm, nI_add, pk_mul, inb_t, ix_n, gd_tt, bd_e, nm_v, ite_not, ↓reduceIte, le_t, le_f, lt_t, lt_f, eq_t, eq_f, mone_f, mone_f2, h3, j1, zs, gI_pI, gL_pL, gI_pL, gL_pI, qe, qn, not_true_eq_false, not_false_eq_true, true_and, and_true, false_and, and_false, and_self, Nat.add_right_cancel_iff, Nat.add_sub_cancel, e1, Bool.toNat_true]
        | false =>
          rw [if_neg (by decide)] at e2
          simp (disch := omega) only [zl, zm, nI_add, pk_mul, inb_t, ix_n, gd_tt, bd_e, nm_v, ite_not, ↓reduceIte, le_t, le_f, lt_t, lt_f, eq_t, eq_f, mone_f, mone_f2, h3, j1, zs, gI_pI, gL_pL, gI_pL, gL_pI, qe, qn, not_true_eq_false, not_false_eq_true, true_and, and_true, false_and, and_false, and_self, Nat.add_right_cancel_iff, Nat.add_sub_cancel, e1, Bool.toNat_false, e2]
      · simp only [sX8_slot_b365]
        simp (disch := omega) only [zl, zm, nI_add, pk_mul, inb_t, ix_n, gd_tt, bd_e, nm_v, ite_not, ↓reduceIte, le_t, le_f, lt_t, lt_f, eq_t, eq_f, mone_f, mone_f2, hsent, Bool.toNat_true, hl6, zs, Nat.add_sub_cancel, not_true_eq_false, e3]
      · have := e8.1 b hb
        rw [bv_ne hb] at this
        exact this
      · rw [e8.2.1 i, gI_pI, if_neg (by omega)]
      · have := e8.2.2.1
        rw [gI_pI, if_neg (by omega)] at this
        exact this
      · rw [e8.2.2.2 b i hi, gI_pI, if_neg (by omega)]
    · rw [if_neg h0] at j4
      refine ⟨_, _, pI Y (k + 1) 0 6 (nI lf), fun F => ?_, fun F => ?_, hup j4, fun b hb => by rw [bv_ne hb], yl, hIl.up (Nat.le_refl _) (Nat.le_refl _) (by omega), ⟨fun b hb => ?_, fun i => ?_, Or.inl ?_, fun b i hi => ?_⟩⟩
      · simp only [sX5_endSendings_b2]
        rw [hxn]
        simp (disch := omega) only [zl, zm, nI_add, pk_mul, inb_t, ix_n, gd_tt, bd_e, nm_v, ite_not, ↓reduceIte, le_t, le_f, lt_t, lt_f, eq_t, eq_f, mone_f, mone_f2, h3, j1, zs, gI_pI, gL_pL, gI_pL, gL_pI, qe, qn, not_true_eq_false, not_false_eq_true, true_and, and_true, false_and, and_false, and_self, Nat.add_right_cancel_iff, Nat.add_sub_cancel]
      · simp only [sX8_slot_b365]
        simp (disch := omega) only [zl, zm, nI_add, pk_mul, inb_t, ix_n, gd_tt, bd_e, nm_v, ite_not, ↓reduceIte, le_t, le_f, lt_t, lt_f, eq_t, eq_f, mone_f, mone_f2, hsent, Bool.toNat_true, hl6, zs, Nat.add_sub_cancel, not_false_eq_true]
      · rw [bv_ne hb]; exact ⟨rfl, rfl⟩
      · rw [gI_pI, if_neg (by omega)]
      · rw [gI_pI, if_neg (by omega)]
      · rw [gI_pI, if_neg (by omega)]
  · have hSb : S.testBit k = false := by
      cases hc : S.testBit k with
      | false => rfl
      | true => exact absurd (hSk.mp hc) h3
    rw [hSb] at hsent
    refine ⟨x, f, Y, fun F => ?_, fun F => ?_, hup h, fun b hb => rfl, y, hI.up (Nat.le_refl _) (Nat.le_refl _) (by omega), ⟨fun b hb => ⟨rfl, rfl⟩, fun i => rfl, Or.inl rfl, fun _ _ _ => rfl⟩⟩
    · simp only [sX5_endSendings_b2]
      rw [hxn]
      simp (disch := omega) only [zl, zm, nI_add, pk_mul, inb_t, ix_n, gd_tt, bd_e, nm_v, ite_not, ↓reduceIte, le_t, le_f, lt_t, lt_f, eq_t, eq_f, mone_f, mone_f2, h3]
    · simp only [sX8_slot_b365]
      simp (disch := omega) only [zl, zm, nI_add, pk_mul, inb_t, ix_n, gd_tt, bd_e, nm_v, ite_not, ↓reduceIte, le_t, le_f, lt_t, lt_f, eq_t, eq_f, mone_f, mone_f2, hsent, Bool.toNat_false]
/-- wells of the first ones have ended or not, of the others not -/
def SF (n k : Nat) (Y0 Y : St) : Prop := ∀ b, b < n → (gI Y (b + 1) 0 8 = gI Y0 (b + 1) 0 8 ∨ b < k ∧ gI Y (b + 1) 0 8 = gI Y0 (b + 1) 0 8 + nI 1 ∧ gI Y (b + 1) 0 5 = nI 0)
theorem t_ends {u S : Nat} {a1 : Int32} (h : WR n t cm wl wm true 99 x f) (y : FY n Y f) (hwm : wm + n ≤ 1600000) (hSk : ∀ b, b < n → (S.testBit b = true ↔ gI x (b + 1) 0 6 = nI 3)) (hsent : ∀ o, o < n → gI Y 0 3 o = nI (S.testBit o).toNat) (hI : IV n t tb wm Y) : ∃ x' f' Y', sX5_endSendings x = some x' ∧ sX8_slot_b365 FU n Y u a1 (nI 0) = some (Y', gI Y' 0 0 4 - a1) ∧ WR n t cm wl (wm + n) true 99 x' f' ∧ FY n Y' f' ∧ IV n t tb (wm + n) Y' ∧ SF n n Y Y' ∧ PF Y Y' := by
  have hn := h.n8
  obtain ⟨x', ⟨f', Y'⟩, e1, e2, e3, e4, e5, e6, e7, e8, e9⟩ := lock_up (M := (Nat → Int32) × St) n (fun k x fY => WR n t cm wl (wm + k) true 99 x fY.1 ∧ FY n fY.2 fY.1 ∧ IV n t tb (wm + k) fY.2 ∧ (∀ b, k ≤ b → b < n → (S.testBit b = true ↔ gI x (b + 1) 0 6 = nI 3)) ∧ (∀ o, o < n → gI fY.2 0 3 o = nI (S.testBit o).toNat) ∧ SF n k Y fY.2 ∧ PF Y fY.2) (fun F x k => sX5_endSendings_b2 F x (nI k)) (fun F fY k => sX8_slot_b365 F n fY.2 u a1 (nI k)) some (fun fY => some (fY.2, gI fY.2 0 0 4 - a1)) (fun F x fY h => by
      have hn := h.1.n8
      simp only [sX5_endSendings_b2]
      rw [h.1.xn]
      simp (disch := omega) only [zl, zm, nI_add, pk_mul, inb_t, ix_n, gd_tt, bd_e, nm_v, ite_not, ↓reduceIte, le_t, le_f, lt_t, lt_f, eq_t, eq_f, mone_f, mone_f2]) (fun F x fY h => by
      have hn := h.1.n8
      simp only [sX8_slot_b365]
      simp (disch := omega) only [zl, zm, nI_add, pk_mul, inb_t, ix_n, gd_tt, bd_e, nm_v, ite_not, ↓reduceIte, le_t, le_f, lt_t, lt_f, eq_t, eq_f, mone_f, mone_f2]) (fun k x fY hk h => by
      obtain ⟨hw, hy, hi, hs, hse, hsf, hpf⟩ := h
      obtain ⟨x', f', Y', e1, e2, e3, e4, e5, e6, e7⟩ := t_end (u := u) (a1 := a1) (S := S) hw hy hk (by omega) (hs k (Nat.le_refl k) hk) (hse k hk) hi
      refine ⟨x', (f', Y'), e1, e2, e3, e5, e6, fun b hb hbn => by rw [e4 b (by omega)]; exact hs b (by omega) hbn, fun o ho => (e7.2.1 o).trans (hse o ho), fun b hb => ?_, fun b i hi => (e7.2.2.2 b i hi).trans (hpf b i hi)⟩
      by_cases e : b = k
      · subst e
        have h1 : gI fY.2 (b + 1) 0 8 = gI Y (b + 1) 0 8 := by
          rcases hsf b hb with g | g
          · exact g
          · omega
        rcases e7.2.2.1 with g | g
        · exact Or.inl (g.trans h1)
        · exact Or.inr ⟨by omega, g.1.trans (by rw [h1]), g.2⟩
      · obtain ⟨g1, g2⟩ := e7.1 b e
        rcases hsf b hb with g | g
        · exact Or.inl (g1.trans g)
        · exact Or.inr ⟨by omega, g1.trans g.2.1, g2.trans g.2.2⟩) n 0 FU FU x (f, Y) (by omega) (FU_lt (by omega)) (FU_lt (by omega)) ⟨h, y, hI, fun b _ hb => hSk b hb, hsent, fun b hb => Or.inl rfl, fun _ _ _ => rfl⟩
  exact ⟨x', f', Y', e1, e2, e3, e4, e5, e8, e9⟩
end
