/-! stage B: slots, in the class's and the law's world -/
section
variable {n t tb cm wl wm e k b : Nat} {q : Bool} {x x' m Y Y' Z : St} {f f' : Nat → Int32}
theorem w_tick (h : WT n t wl x f) (ht : t < 199000) : WR n (t + 1) (8 * t) wl (8 * t) true 99 (pI x 0 0 5 (nI (t + 1))) (upd f 1 (nI (t + 1))) := by
  obtain ⟨⟨c, w', tr, sn, w1, w2, w3, w4, w5, w6, w7, w8, w9, w10, w11, w12, w13, w14, w15, w16, w17, w18, w19, w20, w21, w22, w23, w24, w25⟩, j4, j5⟩ := h
  refine ⟨⟨c, w', tr, sn, w1, by omega, w3, w4, w5, w6, w7, w8, ?_, ?_, ?_, ?_, ?_, ?_, fun k hk => ?_, ?_, ?_, ?_, ?_, ?_, ?_, ?_, ?_, ?_, fun k hk => ?_⟩, fun b hb => ?_, fun b hb o ho => ?_⟩
  all_goals try simp (disch := omega) only [upd_e, gI_pI, gL_pL, gI_pL, gL_pI, qn, qe, not_true_eq_false, not_false_eq_true, true_and, and_true, false_and, and_false, and_self, Nat.add_right_cancel_iff, ↓reduceIte]
  all_goals first | assumption | exact w15 _ (by assumption) | exact w25 _ (by assumption) | skip
  · rw [bv_0]
    exact (j4 b hb).cg (by simp (disch := omega) only [upd_e, qn, ↓reduceIte]) (fun w hw => by simp (disch := omega) only [upd_e, qn, ↓reduceIte]) w1 (fun z => z) (Or.inr rfl) hb
  · have hNN : ∀ b, NB (pI x 0 0 5 (nI (t + 1))) b = NB x b := fun b => by unfold NB; rw [bv_0]
    rw [hNN] at ho ⊢
    exact j5 b hb o ho
theorem y_tick (h : FY n Y f) (hn : n ≤ 8) (v : Int32) : FY n (pI Y 0 0 0 v) (upd f 1 v) := by
  obtain ⟨⟨z0, z1, z2, z3, z4, z5, z6, z7, z8⟩, hN, hBB⟩ := h
  refine ⟨⟨?_, ?_, ?_, ?_, ?_, ?_, ?_, fun k' hk' => ?_, fun o ho => ?_⟩, fun b hb o ho => ?_, fun b hb => ?_⟩
  case refine_10 =>
    simp (disch := omega) only [upd_e, gI_pI, gL_pL, gI_pL, gL_pI, qn, qe, not_true_eq_false, not_false_eq_true, true_and, and_true, false_and, and_false, and_self, Nat.add_right_cancel_iff, ↓reduceIte]
    exact hN b hb o ho
  case refine_11 =>
    rw [bv_0]
    exact (hBB b hb).cg hn hb (fun w hw => by simp (disch := omega) only [upd_e, qn, ↓reduceIte])
  all_goals simp (disch := omega) only [upd_e, gI_pI, gL_pL, gI_pL, gL_pI, qn, qe, not_true_eq_false, not_false_eq_true, true_and, and_true, false_and, and_false, and_self, Nat.add_right_cancel_iff, ↓reduceIte]
  all_goals first | assumption | exact z7 _ (by assumption) | exact z8 _ (by assumption)
theorem iv_tick (h : IV n t tb wm Y) (v : Int32) : IV n (t + 1) tb wm (pI Y 0 0 0 v) := by
  obtain ⟨hB, hC, W, U, hS, hW, hU, hwm⟩ := h.up (Nat.le_succ t) (Nat.le_refl tb) (Nat.le_refl wm)
  have e : gI (pI Y 0 0 0 v) 0 1 = gI Y 0 1 := funext fun i => by rw [gI_pI, if_neg (by omega)]
  refine ⟨fun b hb => by rw [bv_0, e]; exact hB b hb, fun b hb o ho hob h0 => ?_, W, U, fun b hb => by rw [bv_0]; exact hS b hb, by rw [gI_pI, if_neg (by omega)]; exact hW, by rw [gI_pI, if_neg (by omega)]; exact hU, hwm⟩
  rw [bv_0] at h0 ⊢
  exact hC b hb o ho hob h0
/-- one slot -/
theorem t_slot (h : WT n t wl x f) (y : FY n Y f) (hI : IV n t t (8 * t) Y) (ht : t < 199000) : ∃ x' f' Y', passed x = some x' ∧ sX8_slot n Y 0 = some (Y', gI Y' 0 0 4 - gI Y 0 0 4) ∧ WT n (t + 1) wl x' f' ∧ FY n Y' f' ∧ IV n (t + 1) (t + 1) (8 * (t + 1)) Y' ∧ SF n n Y Y' ∧ PF Y Y' := by
  have hn := h.n8
  have hyt : gI Y 0 0 0 = nI t := y.1.1.trans h.ft
  obtain ⟨x2, f2, Y2, u2, a1, a2, a3, a4, a5, a6⟩ := t_changes (a1 := gI Y 0 0 4) ((w_tick h ht).relax (q' := false) (fun z => by cases z)) (y_tick y hn (nI (t + 1))) (iv_tick hI (nI (t + 1)))
  obtain ⟨x3, f3, Y3, b1, b2, b3, b4, b5, b6⟩ := t_pays (u := u2) (a1 := gI Y 0 0 4) a3 a4 a5
  obtain ⟨x4, f4, Y4, S, c1, c2, c3, c4, c5, c6, c7⟩ := t_listen (u := u2) (a1 := gI Y 0 0 4) b3 b4 (by omega)
  have hI4 : IV n (t + 1) (t + 1) (8 * t) Y4 := by
    obtain ⟨hB, hC, W, U, hS, hW, hU, hwm⟩ := b5
    have e : gI Y4 0 1 = gI Y3 0 1 := funext fun i => c7 _ _ _ (by omega) (by omega)
    refine ⟨fun b hb => ?_, fun b hb o ho hob h0 => ?_, W, U, fun b hb => ?_, (c7 _ _ _ (by omega) (by omega)).trans hW, (c7 _ _ _ (by omega) (by omega)).trans hU, hwm⟩
    · obtain ⟨-, e1, e2, e3⟩ := hB b hb
      rw [e]
      refine (hB b hb).cg (fun _ _ => rfl) (fun i hi => c7 _ _ _ (by omega) (by omega)) (c7 _ _ _ (by omega) (by omega)) ?_ ?_ (fun o ho => ?_)
      · rw [c7 _ _ _ (by omega) (by omega), c7 _ _ _ (by omega) (by omega)]; exact e1
      · rw [c7 _ _ _ (by omega) (by omega), c7 _ _ _ (by omega) (by omega)]; exact e2
      · rw [c7 _ _ _ (by omega) (by omega)]; exact e3 o ho
    · rw [c7 _ _ _ (by omega) (by omega)] at h0 ⊢
      exact hC b hb o ho hob h0
    · rw [c7 _ _ _ (by omega) (by omega), c7 _ _ _ (by omega) (by omega)]; exact hS b hb
  obtain ⟨x5, f5, Y5, d1, d2, d3, d4, d5, d6, d7⟩ := t_ends (u := u2) (a1 := gI Y 0 0 4) c3 c4 (by omega) c5 c6 hI4
  refine ⟨x5, f5, Y5, ?_, ?_, d3.up (by omega) (by omega) (by omega) (by omega), d4, d5.up (Nat.le_refl _) (Nat.le_refl _) (by omega), fun b hb => ?_, fun b i hi => ?_⟩
  · unfold passed
    simp (disch := omega) only [zl, nm_v, h.xt, nI_add, a1, b1, c1, d1, bd_e]
  · unfold sX8_slot
    simp (disch := omega) only [zl, nm_v, hyt, nI_add]
    rw [a2, b2, c2, d2]
  · have e : gI Y4 (b + 1) 0 8 = gI Y (b + 1) 0 8 := by
      rw [c7 _ _ _ (by omega) (by omega), b6.1 b hb, a6.1 b hb, bv_0]
    rcases d6 b hb with g | g
    · exact Or.inl (g.trans e)
    · exact Or.inr ⟨g.1, g.2.1.trans (by rw [e]), g.2.2⟩
  · rw [d7 b i hi, c7 _ _ _ (by omega) (by omega), b6.2.2 b i hi, a6.2.2 b i hi, bv_0]
def itY (n : Nat) : Nat → St → Option St
  | 0, Y => some Y
  | s + 1, Y => bd (itY n s Y) fun Y1 => bd (sX8_slot n Y1 0) fun q => some q.1
theorem itY_s {s : Nat} {Y1 Y2 : St} {v : Int32} (h : itY n s Y = some Y1) (h2 : sX8_slot n Y1 0 = some (Y2, v)) : itY n (s + 1) Y = some Y2 := by
  show (bd (itY n s Y) fun Y1 => bd (sX8_slot n Y1 0) fun q => some q.1) = some Y2
  rw [h, bd_e, h2, bd_e]
/-- some slots -/
theorem t_pass (h : WT n t wl x f) (y : FY n Y f) (hI : IV n t t (8 * t) Y) {s : Nat} (ht : t + s < 199000) : ∃ x' f' Y', sX5_pass x (nI s) = some x' ∧ itY n s Y = some Y' ∧ WT n (t + s) wl x' f' ∧ FY n Y' f' ∧ IV n (t + s) (t + s) (8 * (t + s)) Y' ∧ PF Y Y' := by
  obtain ⟨x', ⟨f', Y'⟩, e1, -, e3, e4, e5, e6, e7⟩ := lock_up (M := (Nat → Int32) × St) s (fun k x fY => WT n (t + k) wl x fY.1 ∧ FY n fY.2 fY.1 ∧ IV n (t + k) (t + k) (8 * (t + k)) fY.2 ∧ itY n k Y = some fY.2 ∧ PF Y fY.2) (fun F x k => sX5_pass_b2 F x (nI s) (nI k)) (fun _ _ _ => ()) some (fun _ => ()) (fun F x f h => by
      simp only [sX5_pass_b2]
      simp (disch := omega) only [zl, zm, nI_add, pk_mul, inb_t, ix_n, gd_tt, bd_e, nm_v, ite_not, ↓reduceIte, le_t, le_f, lt_t, lt_f, eq_t, eq_f, mone_f, mone_f2]) (fun F x f h => rfl) (fun k x fY hk h => by
      obtain ⟨x', f', Y', e1, e2, e3, e4, e5, e6, e7⟩ := t_slot h.1 h.2.1 h.2.2.1 (by omega)
      refine ⟨x', (f', Y'), fun F => ?_, fun F => rfl, e3, e4, e5, itY_s h.2.2.2.1 e2, fun b i hi => (e7 b i hi).trans (h.2.2.2.2 b i hi)⟩
      simp only [sX5_pass_b2]
      unfold passed at e1
      obtain ⟨z2, hz2, e1⟩ := nm_some e1
      obtain ⟨q3, hq3, e1⟩ := bd_some e1
      obtain ⟨q4, hq4, e1⟩ := bd_some e1
      obtain ⟨q5, hq5, e1⟩ := bd_some e1
      obtain ⟨q6, hq6, e1⟩ := bd_some e1
      rw [Option.some.inj e1] at hq6
      rw [← hz2]
      simp (disch := omega) only [zl, zm, nI_add, pk_mul, inb_t, ix_n, gd_tt, bd_e, nm_v, ite_not, ↓reduceIte, le_t, le_f, lt_t, lt_f, eq_t, eq_f, mone_f, mone_f2, hq3, hq4, hq5, hq6]) s 0 FU FU x (f, Y) (by omega) (FU_lt (by omega)) (FU_lt (by omega)) ⟨h, y, hI, rfl, fun _ _ _ => rfl⟩
  exact ⟨x', f', Y', e1, e6, e3, e4, e5, e7⟩
end
