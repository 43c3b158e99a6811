/-! stage B: a whole slot, in the class's and the law's world -/
section
variable {n t tb cm wl wm e k b : Nat} {q : Bool} {x x' m Y Y' Z : St} {f f' : Nat → Int32}
def WK (n : Nat) (Y0 Y : St) : Prop := (∀ b, b < n → gI Y (b + 1) 0 8 = gI Y0 (b + 1) 0 8) ∧ gI Y 0 0 4 = gI Y0 0 0 4 ∧ PF Y0 Y
theorem iv_change (h : IV n t tb wm Y) (hk : k < n) (hT : YT k Y Y') : IV n t tb wm Y' := by
  obtain ⟨hc, rfl | ⟨h4, h4', h0⟩⟩ := hT
  · exact h
  · have hl := (h.1 k hk).2.2.1
    refine h.step (dw := 0) (du := 0) hk (by omega) (fun o j i h1 h2 h3 => hc o j i (by omega) (by omega) (by omega)) h4 h4' (fun z => ?_) ?_ ?_ ?_ ?_
    · obtain ⟨g1, g2⟩ := h0 z
      rw [g2]; exact hl (Or.inl g1)
    all_goals rw [add0]; exact hc _ _ _ (by omega) (by omega) (by omega)
theorem t_changes {a1 : Int32} (h : WR n t cm wl wm false 99 x f) (y : FY n Y f) (hI : IV n t tb wm Y) : ∃ x' f' Y' u, sX5_changeStates x = some x' ∧ sX8_slot_b17 FU n Y 0 a1 (nI 0) = sX8_slot_b71 FU n Y' u a1 (nI 0) ∧ WR n t cm wl wm false 99 x' f' ∧ FY n Y' f' ∧ IV n t tb wm Y' ∧ WK n Y Y' := by
  have hn := h.n8
  obtain ⟨x', ⟨f', Y', u⟩, e1, e2, e3, e4, e5, e6, e7⟩ := lock_up (M := (Nat → Int32) × St × Nat) n (fun k x fY => WR n t cm wl wm false 99 x fY.1 ∧ FY n fY.2.1 fY.1 ∧ IV n t tb wm fY.2.1 ∧ WK n Y fY.2.1 ∧ fY.2.2 ≤ k) (fun F x k => sX5_changeStates_b2 F x (nI k)) (fun F fY k => sX8_slot_b17 F n fY.2.1 fY.2.2 a1 (nI k)) some (fun fY => sX8_slot_b71 FU n fY.2.1 (fY.2.2 + 1) a1 (nI 0)) (fun F x fY h => by
      simp only [sX5_changeStates_b2]
      rw [h.1.xn]
      simp (disch := omega) only [zl, zm, nI_add, pk_mul, inb_t, ix_n, gd_tt, bd_e, nm_v, ite_not, ↓reduceIte, le_t, le_f, lt_t, lt_f, eq_t, eq_f, mone_f, mone_f2]) (fun F x fY h => by
      have hlt : ltN fY.2.2 9 = true := decide_eq_true (by have := h.2.2.2.2; omega)
      simp only [sX8_slot_b17]
      simp (disch := omega) only [zl, zm, nI_add, pk_mul, inb_t, ix_n, gd_tt, bd_e, nm_v, ite_not, ↓reduceIte, le_t, le_f, lt_t, lt_f, eq_t, eq_f, mone_f, mone_f2, hlt]) (fun k x fY hk h => by
      obtain ⟨hw, hy, hi, hwk, hu⟩ := h
      obtain ⟨x', f', Y', u', e1, e2, e3, e4, e5, e6⟩ := t_change (a1 := a1) hw hy hk hu (hi.1 k hk).2.2.2
      exact ⟨x', (f', Y', u'), e1, e2, e3, e4, iv_change hi hk e5, ⟨fun b hb => (e5.1 _ _ _ (by omega) (by omega) (by omega)).trans (hwk.1 b hb), (e5.1 _ _ _ (by omega) (by omega) (by omega)).trans hwk.2.1, fun b i hi => (e5.1 _ _ _ (by omega) (by omega) (by omega)).trans (hwk.2.2 b i hi)⟩, e6⟩) n 0 FU FU x (f, Y, 0) (by omega) (FU_lt (by omega)) (FU_lt (by omega)) ⟨h, y, hI, ⟨fun _ _ => rfl, rfl, fun _ _ _ => rfl⟩, Nat.le_refl _⟩
  exact ⟨x', f', Y', u + 1, e1, e2, e3, e4, e5, e6⟩
theorem t_pays {u : Nat} {a1 : Int32} (h : WR n t cm wl wm false 99 x f) (y : FY n Y f) (hI : IV n t tb wm Y) : ∃ x' f' Y', sX5_payForStates x = some x' ∧ sX8_slot_b71 FU n Y u a1 (nI 0) = sX8_slot_b179 FU n Y' u a1 (nI 0) ∧ WR n t cm wl wm false 99 x' f' ∧ FY n Y' f' ∧ IV n t (tb + 1) wm Y' ∧ WK n Y Y' := by
  have hn := h.n8
  obtain ⟨hB, hC, hS⟩ := hI
  obtain ⟨x', ⟨f', Y'⟩, e1, e2, e3, e4, e5, e6, e7, e8⟩ := lock_up (M := (Nat → Int32) × St) n (fun k x fY => WR n t cm wl wm false 99 x fY.1 ∧ FY n fY.2 fY.1 ∧ (∀ b, b < n → IB n t (if b < k then tb + 1 else tb) (gI fY.2 0 1) (gI fY.2 (b + 1))) ∧ IC n fY.2 ∧ IS n wm fY.2 ∧ WK n Y fY.2) (fun F x k => sX5_payForStates_b2 F x (nI k)) (fun F fY k => sX8_slot_b71 F n fY.2 u a1 (nI k)) some (fun fY => sX8_slot_b179 FU n fY.2 u a1 (nI 0)) (fun F x fY h => by
      simp only [sX5_payForStates_b2]
      rw [h.1.xn]
      simp (disch := omega) only [zl, zm, nI_add, pk_mul, inb_t, ix_n, gd_tt, bd_e, nm_v, ite_not, ↓reduceIte, le_t, le_f, lt_t, lt_f, eq_t, eq_f, mone_f, mone_f2]) (fun F x fY h => by
      simp only [sX8_slot_b71]
      simp (disch := omega) only [zl, zm, nI_add, pk_mul, inb_t, ix_n, gd_tt, bd_e, nm_v, ite_not, ↓reduceIte, le_t, le_f, lt_t, lt_f, eq_t, eq_f, mone_f, mone_f2]) (fun k x fY hk h => by
      obtain ⟨hw, hy, hb, hc, hs, hwk⟩ := h
      have hbk := hb k hk
      rw [if_neg (Nat.lt_irrefl k)] at hbk
      obtain ⟨x', f', Y', e1, e2, e3, e4, e5, e6⟩ := t_pay (u := u) (a1 := a1) hw hy hk hbk
      have hcost : gI Y' 0 1 = gI fY.2 0 1 := funext fun i => e5 _ _ _ (by omega)
      refine ⟨x', (f', Y'), e1, e2, e3, e4, fun b hb2 => ?_, fun b hb2 o ho hob h0 => ?_, ?_, ⟨fun b hb2 => (e5 _ _ _ (by omega)).trans (hwk.1 b hb2), (e5 _ _ _ (by omega)).trans hwk.2.1, fun b i hi => (e5 _ _ _ (by omega)).trans (hwk.2.2 b i hi)⟩⟩
      · show IB n t (if b < k + 1 then tb + 1 else tb) (gI Y' 0 1) (gI Y' (b + 1))
        rw [hcost]
        by_cases e : b = k
        · subst e; rw [if_pos (by omega)]; exact e6
        · have e9 : gI Y' (b + 1) = gI fY.2 (b + 1) := funext fun j => funext fun i => e5 _ _ _ (by omega)
          rw [e9]
          have := hb b hb2
          by_cases e2 : b < k
          · rw [if_pos e2] at this; rw [if_pos (by omega)]; exact this
          · rw [if_neg e2] at this; rw [if_neg (by omega)]; exact this
      · show ¬ gI Y' (o + 1) 2 b = mone
        have h1 : gI Y' (b + 1) 4 o = nI 0 := h0
        rw [e5 _ _ _ (by omega)] at h1 ⊢
        exact hc b hb2 o ho hob h1
      · obtain ⟨W, U, q1, q2, q3, q4⟩ := hs
        refine ⟨W, U, fun b hb2 => ?_, (e5 _ _ _ (by omega)).trans q2, (e5 _ _ _ (by omega)).trans q3, q4⟩
        show gI Y' (b + 1) 0 8 = _ ∧ gI Y' (b + 1) 0 9 = _
        rw [e5 _ _ _ (by omega), e5 _ _ _ (by omega)]; exact q1 b hb2) n 0 FU FU x (f, Y) (by omega) (FU_lt (by omega)) (FU_lt (by omega)) ⟨h, y, fun b hb => by rw [if_neg (by omega)]; exact hB b hb, hC, hS, ⟨fun _ _ => rfl, rfl, fun _ _ _ => rfl⟩⟩
  exact ⟨x', f', Y', e1, e2, e3, e4, ⟨fun b hb => by have := e5 b hb; rw [if_pos hb] at this; exact this, e6, e7⟩, e8⟩
end
