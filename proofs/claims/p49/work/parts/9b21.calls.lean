/-! stage B: the class runs on, takes back and tries ahead, beside the law's world -/
def RT (n t : Nat) (L : List St) (T : TT) (Y : St) : Prop := RY n t T.1 Y ∧ PV n T.2.2.2.1 T.2.2.2.2.2.2.2.2.2.1 L
def rtT (T : TT) (x : St) (ps : Nat → St) (c : St) : TT := (x, T.2.1, T.2.2.1, ps, T.2.2.2.2.1, T.2.2.2.2.2.1, T.2.2.2.2.2.2.1, T.2.2.2.2.2.2.2.1, T.2.2.2.2.2.2.2.2.1, c, T.2.2.2.2.2.2.2.2.2.2.1, T.2.2.2.2.2.2.2.2.2.2.2)
def rt1 (T : TT) (x1 : St) : TT := (T.1, x1, T.2.2)
section
variable {n t k : Nat} {x x1 Y Y1 : St} {T : TT} {L : List St}
theorem RY.ag (h : RY n t x Y) (ha : AGW n x1 x) : RY n t x1 Y := by
  obtain ⟨⟨f, w, y⟩, i⟩ := h
  exact ⟨⟨f, WR.ag w ha, y⟩, i⟩
theorem RY.okw (h : RY n t x Y) : OKW n x := by
  obtain ⟨⟨f, w, y⟩, i⟩ := h
  exact WR.okw w
theorem t_passR (h : RY n t x Y) {s : Nat} (ht : t + s < 199000) : ∃ x' Y', sX5_pass x (nI s) = some x' ∧ itY n s Y = some Y' ∧ RY n (t + s) x' Y' ∧ PF Y Y' := by
  obtain ⟨⟨f, w, y⟩, i⟩ := h
  obtain ⟨x', f', Y', e1, e2, e3, e4, e5, e6⟩ := t_pass w y i ht
  exact ⟨x', Y', e1, e2, ⟨⟨f', e3, e4⟩, e5⟩, e6⟩
theorem t_oneR (h : RY n t x Y) (ht : t < 199000) : ∃ x' Y', sX5_pass x (nI 1) = some x' ∧ sX8_slot n Y 0 = some (Y', gI Y' 0 0 4 - gI Y 0 0 4) ∧ RY n (t + 1) x' Y' ∧ SF n n Y Y' ∧ PF Y Y' := by
  obtain ⟨⟨f, w, y⟩, i⟩ := h
  obtain ⟨x', f', Y', e1, e2, e3, e4, e5, e6, e7⟩ := t_slot w y i ht
  exact ⟨x', Y', by rw [c_pass1]; exact e1, e2, ⟨⟨f', e3, e4⟩, e5⟩, e6, e7⟩
theorem t_run (h : RT n t L T Y) {s : Nat} (h1 : 1 ≤ s) (h2 : s ≤ 99) (ht : t + s ≤ 99999) (hL : L.length ≤ 5) : ∃ T' Y', sT_X6_run T (nI s) = some (T', gI Y' 0 0 4 - gI Y 0 0 4) ∧ itY n s Y = some Y' ∧ RT n (t + s) (T.1 :: L) T' Y' ∧ PF Y Y' := by
  obtain ⟨hR, hP⟩ := h
  obtain ⟨x', Y', e1, e2, e3, e4⟩ := t_passR hR (s := s) (by omega)
  obtain ⟨ps', c', g1, g2, g3⟩ := c_keep hP hL hR.okw
  have hm := c_mayPass (s := s) hR.xt.1 (by have := hR.xt.2; omega) (by omega)
  rw [decide_eq_true ⟨h1, h2, ht⟩] at hm
  have z4 := hR.xy.1.2.2.2.2.1
  have z4' := e3.xy.1.2.2.2.2.1
  have hs : sX6_run T.1 T.2.2.2.1 T.2.2.2.2.2.2.2.2.2.1 (nI s) = some (x', ps', c', .inl (gI Y' 0 0 4 - gI Y 0 0 4)) := by
    unfold sX6_run
    rw [z4, z4']
    simp (disch := omega) only [zl, zm, nI_add, pk_mul, inb_t, ix_n, gd_tt, bd_e, nm_v, ite_not, ↓reduceIte, le_t, le_f, lt_t, lt_f, eq_t, eq_f, mone_f, mone_f2, hm, Bool.toNat_true, g1, e1]
  refine ⟨rtT T x' ps' c', Y', ?_, e2, ⟨e3, g2⟩, e4⟩
  unfold sT_X6_run
  rw [hs]
  rfl
theorem t_undo (h : RT n t (x1 :: L) T Y) {t1 : Nat} (h1 : RY n t1 x1 Y1) : ∃ T' v, sT_X6_undo T = some (T', nI v) ∧ v < 6 ∧ RT n t1 L T' Y1 := by
  obtain ⟨hR, hP⟩ := h
  obtain ⟨x', c', v, e1, e2, e3, e4, e5⟩ := c_undo hP h1.okw T.1
  refine ⟨rtT T x' T.2.2.2.1 c', v, ?_, e2, h1.ag e3, e4⟩
  unfold sT_X6_undo
  rw [e1]
  rfl
theorem t_try (h : RY n t x Y) {s : Nat} (ht : t + s < 199000) (x1 : St) : ∃ x7 Y7, sX6_tryAhead x x1 (nI s) = some x7 ∧ itY n s Y = some Y7 ∧ RY n (t + s) x7 Y7 ∧ PF Y Y7 := by
  obtain ⟨x', e1, e2⟩ := c_copyW h.okw x1
  obtain ⟨x7, Y7, e3, e4, e5, e6⟩ := t_passR (h.ag e2) ht
  refine ⟨x7, Y7, ?_, e4, e5, e6⟩
  unfold sX6_tryAhead
  rw [e1, bd_e, e3, bd_e]
theorem a_head {s : Nat} (hs : s ≤ 200) : sX6_requireAhead (nI s) = some (.inl ()) := by
  unfold sX6_requireAhead
  simp (disch := omega) only [zl, zm, nI_add, pk_mul, inb_t, ix_n, gd_tt, bd_e, nm_v, ite_not, ↓reduceIte, le_t, le_f, lt_t, lt_f, eq_t, eq_f, mone_f, mone_f2]
theorem RT.one (h : RT n t L T Y) (x1 : St) : RT n t L (rt1 T x1) Y := h
theorem t_stateIn (h : RT n t L T Y) (hk : k < n) {s : Nat} (hs : s ≤ 200) (ht : t + s < 199000) : ∃ T' Y7, sT_X6_stateIn T (nI k) (nI s) = some (T', gI Y7 (k + 1) 0 5) ∧ itY n s Y = some Y7 ∧ RT n t L T' Y ∧ T'.1 = T.1 := by
  obtain ⟨x7, Y7, e1, e2, e3, e4⟩ := t_try h.1 ht T.2.1
  have hn := h.1.n8
  refine ⟨rt1 T x7, Y7, ?_, e2, h.one x7, rfl⟩
  have y5 := (e3.xy.2.2 k hk).2.2.2.2.2.1
  have : sX6_stateIn T.1 T.2.1 (nI k) (nI s) = some (x7, .inl (gI Y7 (k + 1) 0 5)) := by
    unfold sX6_stateIn
    rw [y5]
    simp (disch := omega) only [zl, zm, nI_add, pk_mul, inb_t, ix_n, gd_tt, bd_e, nm_v, ite_not, ↓reduceIte, le_t, le_f, lt_t, lt_f, eq_t, eq_f, mone_f, mone_f2, c_reqT h.1 hk, a_head hs, sm_il, e1]
  unfold sT_X6_stateIn
  rw [this]
  rfl
theorem t_energyIn (h : RT n t L T Y) (hk : k < n) {s : Nat} (hs : s ≤ 200) (ht : t + s < 199000) : ∃ T' Y7, sT_X6_energyIn T (nI k) (nI s) = some (T', gI Y7 (k + 1) 0 4) ∧ itY n s Y = some Y7 ∧ RT n t L T' Y ∧ T'.1 = T.1 := by
  obtain ⟨x7, Y7, e1, e2, e3, e4⟩ := t_try h.1 ht T.2.1
  have hn := h.1.n8
  refine ⟨rt1 T x7, Y7, ?_, e2, h.one x7, rfl⟩
  have y5 := (e3.xy.2.2 k hk).2.2.2.2.1
  have : sX6_energyIn T.1 T.2.1 (nI k) (nI s) = some (x7, .inl (gI Y7 (k + 1) 0 4)) := by
    unfold sX6_energyIn
    rw [y5]
    simp (disch := omega) only [zl, zm, nI_add, pk_mul, inb_t, ix_n, gd_tt, bd_e, nm_v, ite_not, ↓reduceIte, le_t, le_f, lt_t, lt_f, eq_t, eq_f, mone_f, mone_f2, c_reqT h.1 hk, a_head hs, sm_il, e1]
  unfold sT_X6_energyIn
  rw [this]
  rfl
theorem t_collIn (h : RT n t L T Y) {s : Nat} (hs : s ≤ 200) (ht : t + s < 199000) : ∃ T' Y7, sT_X6_collisionsIn T (nI s) = some (T', gI Y7 0 0 6 - gI Y 0 0 6) ∧ itY n s Y = some Y7 ∧ RT n t L T' Y ∧ T'.1 = T.1 := by
  obtain ⟨x7, Y7, e1, e2, e3, e4⟩ := t_try h.1 ht T.2.1
  refine ⟨rt1 T x7, Y7, ?_, e2, h.one x7, rfl⟩
  have z6 := h.1.xy.1.2.2.2.2.2.2.1
  have z6' := e3.xy.1.2.2.2.2.2.2.1
  have : sX6_collisionsIn T.1 T.2.1 (nI s) = some (x7, .inl (gI Y7 0 0 6 - gI Y 0 0 6)) := by
    unfold sX6_collisionsIn
    rw [z6, z6']
    simp (disch := omega) only [zl, zm, nI_add, pk_mul, inb_t, ix_n, gd_tt, bd_e, nm_v, ite_not, ↓reduceIte, le_t, le_f, lt_t, lt_f, eq_t, eq_f, mone_f, mone_f2, a_head hs, sm_il, e1]
  unfold sT_X6_collisionsIn
  rw [this]
  rfl
/-- its sendings that went well: one more, or not -/
def WM (n k : Nat) (v0 : Int32) (Y : St) (v : Int32) : Prop := v = mone ∨ ∃ m Ym Ym1, v = nI (m + 1) ∧ m < 300 ∧ itY n m Y = some Ym ∧ itY n (m + 1) Y = some Ym1 ∧ gI Ym (k + 1) 0 8 = v0 ∧ gI Ym1 (k + 1) 0 8 = v0 + nI 1 ∧ gI Ym1 (k + 1) 0 5 = nI 0
theorem w_well {x0 : St} {w : Nat} (hk : k < n) (hw : w < 2 ^ 30) (ht : t ≤ 99999) : ∀ (d i F : Nat) (x Y' : St), i + d = 299 → d + 2 < F → RY n (t + (i + 1)) x Y' → itY n (i + 1) Y = some Y' → (gI Y' (k + 1) 0 8 = nI w ∨ (gI Y' (k + 1) 0 8 = nI w + nI 1 ∧ gI Y' (k + 1) 0 5 = nI 0 ∧ ∃ Ym, itY n i Y = some Ym ∧ gI Ym (k + 1) 0 8 = nI w)) → ∃ y v, sX6_slotsUntil_b8 F x0 x (nI 4) (nI k) (nI w) (nI (i + 1)) = some (y, v) ∧ WM n k (nI w) Y v := by
  intro d
  induction d with
  | zero =>
    intro i F x Y' hi hF h hit hc
    obtain rfl : i = 299 := by omega
    obtain ⟨F, rfl⟩ : ∃ z, F = z + 1 + 1 := ⟨F - 2, by omega⟩
    have e8 := (h.xy.2.2 k hk).2.2.2.2.2.2.2.2.1
    obtain ⟨⟨f, w0, y⟩, i0⟩ := id h
    have hw1 := hc_well (v := nI w) w0 hk
    rw [← e8] at hw1
    rcases hc with hc | ⟨hc, h0, Ym, hm1, hm2⟩
    · rw [hc, decide_eq_true (nI_le (Nat.le_refl w) (by omega))] at hw1
      obtain ⟨x', Y2, e1, e2, e3, e4, e5⟩ := t_oneR h (by omega)
      refine ⟨x', mone, ?_, Or.inl rfl⟩
      simp only [sX6_slotsUntil_b8]
      simp (disch := omega) only [zl, zm, nI_add, pk_mul, inb_t, ix_n, gd_tt, bd_e, nm_v, ite_not, ↓reduceIte, le_t, le_f, lt_t, lt_f, eq_t, eq_f, mone_f, mone_f2, hw1, Bool.not_true, Bool.toNat_false, e1]
    · rw [hc, nI_add, decide_eq_false (nI_ge (by omega) (by omega))] at hw1
      refine ⟨x, nI 300, ?_, Or.inr ⟨299, Ym, Y', rfl, by omega, hm1, hit, hm2, hc, h0⟩⟩
      simp only [sX6_slotsUntil_b8]
      simp (disch := omega) only [zl, zm, nI_add, pk_mul, inb_t, ix_n, gd_tt, bd_e, nm_v, ite_not, ↓reduceIte, le_t, le_f, lt_t, lt_f, eq_t, eq_f, mone_f, mone_f2, hw1, Bool.not_false, Bool.toNat_true]
  | succ d ih =>
    intro i F x Y' hi hF h hit hc
    obtain ⟨F, rfl⟩ : ∃ z, F = z + 1 := ⟨F - 1, by omega⟩
    have e8 := (h.xy.2.2 k hk).2.2.2.2.2.2.2.2.1
    obtain ⟨⟨f, w0, y⟩, i0⟩ := id h
    have hw1 := hc_well (v := nI w) w0 hk
    rw [← e8] at hw1
    rcases hc with hc | ⟨hc, h0, Ym, hm1, hm2⟩
    · rw [hc, decide_eq_true (nI_le (Nat.le_refl w) (by omega))] at hw1
      obtain ⟨x', Y2, e1, e2, e3, e4, e5⟩ := t_oneR h (by omega)
      have hc2 : gI Y2 (k + 1) 0 8 = nI w ∨ (gI Y2 (k + 1) 0 8 = nI w + nI 1 ∧ gI Y2 (k + 1) 0 5 = nI 0 ∧ ∃ Ym, itY n (i + 1) Y = some Ym ∧ gI Ym (k + 1) 0 8 = nI w) := by
        rcases e4 k hk with g | g
        · exact Or.inl (g.trans hc)
        · exact Or.inr ⟨g.2.1.trans (by rw [hc]), g.2.2, Y', hit, hc⟩
      obtain ⟨y2, v, q1, q2⟩ := ih (i + 1) F x' Y2 (by omega) (by omega) e3 (itY_s hit e2) hc2
      refine ⟨y2, v, ?_, q2⟩
      simp only [sX6_slotsUntil_b8]
      simp (disch := omega) only [zl, zm, nI_add, pk_mul, inb_t, ix_n, gd_tt, bd_e, nm_v, ite_not, ↓reduceIte, le_t, le_f, lt_t, lt_f, eq_t, eq_f, mone_f, mone_f2, hw1, Bool.not_true, Bool.toNat_false, e1]
      exact q1
    · rw [hc, nI_add, decide_eq_false (nI_ge (by omega) (by omega))] at hw1
      refine ⟨x, nI (i + 1), ?_, Or.inr ⟨i, Ym, Y', rfl, by omega, hm1, hit, hm2, hc, h0⟩⟩
      simp only [sX6_slotsUntil_b8]
      simp (disch := omega) only [zl, zm, nI_add, pk_mul, inb_t, ix_n, gd_tt, bd_e, nm_v, ite_not, ↓reduceIte, le_t, le_f, lt_t, lt_f, eq_t, eq_f, mone_f, mone_f2, hw1, Bool.not_false, Bool.toNat_true]
theorem RY.well (h : RY n t x Y) (hk : k < n) : ∃ w, w ≤ 8 * t ∧ gI Y (k + 1) 0 8 = nI w := by
  obtain ⟨hf, hB, hC, W, U, hS, hW, hU, hwm⟩ := h
  have : ∀ m, k < m → W k ≤ smN W m := by
    intro m
    induction m with
    | zero => intro h; omega
    | succ m ih =>
      intro h
      show W k ≤ smN W m + W m
      by_cases e : k = m
      · rw [e]; omega
      · have := ih (by omega); omega
  exact ⟨W k, Nat.le_trans (this n hk) hwm, (hS k hk).1⟩
theorem t_wellIn (h : RT n t L T Y) (hk : k < n) (ht : t ≤ 99000) : ∃ T' v, sT_X6_wellIn T (nI k) = some (T', v) ∧ WM n k (gI Y (k + 1) 0 8) Y v ∧ RT n t L T' Y ∧ T'.1 = T.1 := by
  obtain ⟨w, hw, h8⟩ := h.1.well hk
  have hn := h.1.n8
  obtain ⟨x1, e1, e2⟩ := c_copyW h.1.okw T.2.1
  obtain ⟨x', Y2, g1, g2, g3, g4, g5⟩ := t_oneR (h.1.ag e2) (by omega)
  have hta : sX6_tryAhead T.1 T.2.1 (nI 1) = some x' := by
    unfold sX6_tryAhead
    rw [e1, bd_e, g1, bd_e]
  have hc2 : gI Y2 (k + 1) 0 8 = nI w ∨ (gI Y2 (k + 1) 0 8 = nI w + nI 1 ∧ gI Y2 (k + 1) 0 5 = nI 0 ∧ ∃ Ym, itY n 0 Y = some Ym ∧ gI Ym (k + 1) 0 8 = nI w) := by
    rcases g4 k hk with g | g
    · exact Or.inl (g.trans h8)
    · exact Or.inr ⟨g.2.1.trans (by rw [h8]), g.2.2, Y, rfl, h8⟩
  obtain ⟨y, v, q1, q2⟩ := w_well (x0 := T.1) (t := t) (Y := Y) hk (w := w) (by omega) (by omega) 299 0 FU x' Y2 (by omega) (FU_lt (by omega)) g3 (itY_s rfl g2) hc2
  refine ⟨rt1 T y, v, ?_, by rw [h8]; exact q2, h.one y, rfl⟩
  have e8 := (h.1.xy.2.2 k hk).2.2.2.2.2.2.2.2.1
  have : sX6_wellIn T.1 T.2.1 (nI k) = some (y, .inl v) := by
    unfold sX6_wellIn sX6_slotsUntil
    have q1' : sX6_slotsUntil_b8 FU T.1 x' (nI 4) (nI k) (nI w) (nI 1) = some (y, v) := q1
    have e8' : gI T.1 (k + 1) 0 11 = nI w := e8.symm.trans h8
    simp (disch := omega) only [zl, zm, nI_add, pk_mul, inb_t, ix_n, gd_tt, bd_e, nm_v, ite_not, ↓reduceIte, le_t, le_f, lt_t, lt_f, eq_t, eq_f, mone_f, mone_f2, c_reqT h.1 hk, sm_il, e8', hta, q1']
  unfold sT_X6_wellIn
  rw [this]
  rfl
/-- who went well in a slot is counted -/
theorem RY.came (h : RY n t x Y) {t1 : Nat} (h1 : RY n t1 x1 Y1) (ht : t ≤ 200000) (ht1 : t1 ≤ 200000) (hs : SF n n Y Y1) (hk : k < n) (h8 : gI Y1 (k + 1) 0 8 = gI Y (k + 1) 0 8 + nI 1) : ∃ d, 1 ≤ d ∧ d ≤ 1600000 ∧ gI Y1 0 0 4 - gI Y 0 0 4 = nI d := by
  obtain ⟨hf, hB, hC, W, U, hS, hW, hU, hwm⟩ := h
  obtain ⟨hf1, hB1, hC1, W1, U1, hS1, hW1, hU1, hwm1⟩ := h1
  have le : ∀ (V : Nat → Nat) (j m : Nat), j < m → V j ≤ smN V m := by
    intro V j m
    induction m with
    | zero => intro h; omega
    | succ m ih =>
      intro h
      show V j ≤ smN V m + V m
      by_cases e : j = m
      · rw [e]; omega
      · have := ih (by omega); omega
  have hb : ∀ b, b < n → W1 b = W b ∨ W1 b = W b + 1 := fun b hb => by
    have l0 := le W b n hb
    have l1 := le W1 b n hb
    rcases hs b hb with g | g
    · rw [(hS b hb).1, (hS1 b hb).1] at g
      exact Or.inl ((nI_eq (by omega) (by omega)).mp g)
    · have g := g.2.1
      rw [(hS b hb).1, (hS1 b hb).1, nI_add] at g
      exact Or.inr ((nI_eq (by omega) (by omega)).mp g)
  have hkk : W1 k = W k + 1 := by
    have l0 := le W k n hk
    have l1 := le W1 k n hk
    rw [(hS k hk).1, (hS1 k hk).1, nI_add] at h8
    exact (nI_eq (by omega) (by omega)).mp h8
  have key : ∀ m, m ≤ n → smN W m ≤ smN W1 m ∧ (k < m → smN W m + 1 ≤ smN W1 m) := by
    intro m
    induction m with
    | zero => intro _; exact ⟨Nat.le_refl _, fun z => absurd z (by omega)⟩
    | succ m ih =>
      intro hm
      obtain ⟨i1, i2⟩ := ih (by omega)
      have := hb m (by omega)
      show smN W m + W m ≤ smN W1 m + W1 m ∧ (k < m + 1 → smN W m + W m + 1 ≤ smN W1 m + W1 m)
      refine ⟨by omega, fun hkm => ?_⟩
      by_cases e : k = m
      · subst e; omega
      · have := i2 (by omega); omega
  have := (key n (Nat.le_refl n)).2 hk
  refine ⟨smN W1 n - smN W n, by omega, by omega, ?_⟩
  rw [hW, hW1, zs (by omega)]
end
