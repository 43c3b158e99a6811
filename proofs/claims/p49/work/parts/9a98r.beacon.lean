/-! stage B: the statements "near" and "beacon" -/
theorem tf_row (m : St) (k : Nat) (v : Int32) : TF m (pI m 0 2 k v) := ⟨fun j k p q => by rw [gI_pI, if_neg (by omega)], fun j k p q => rfl⟩
def SBG (B : Nat → Nat) (len c i : Nat) (C : Option (St × St × Int32)) (M : Option St) (m X : St) (f' : Nat → Int32) : Prop := ∃ t' m' i', C = some (X, t', nI 1) ∧ M = some m' ∧ i ≤ i' ∧ YG B len c i' t' m' ∧ gI m' 0 2 = f' ∧ gL m' 0 7 = gL m 0 7 ∧ TF m m' ∧ gI m' 0 0 23 = gI m 0 0 23
def SBB (C : Option (St × St × Int32)) (M : Option St) (m : St) : Prop := ∃ x' t' m', C = some (x', t', nI 0) ∧ M = some m' ∧ YB t' m' ∧ TF m m'
section
variable {B : Nat → Nat} {len c i i' n : Nat} {t t' m x d x' m' X : St} {f f' : Nat → Int32} {w w' : Nat → Int64} {C C' : Option (St × St × Int32)} {M M' : Option St}
theorem SBG.back (h : SBG B len c i' C M m' X f') (hi : i ≤ i') (h1 : TF m m') (h2 : gL m' 0 7 = gL m 0 7) (h3 : gI m' 0 0 23 = gI m 0 0 23) (hC : C' = C) (hM : M' = M) : SBG B len c i C' M' m X f' := by
  obtain ⟨t2, m2, i2, a1, a2, a3, a4, a5, a6, a7, a8⟩ := h
  exact ⟨t2, m2, i2, hC.trans a1, hM.trans a2, by omega, a4, a5, a6.trans h2, tf_trans h1 a7, a8.trans h3⟩
theorem SBB.back (h : SBB C M m') (h1 : TF m m') (hC : C' = C) (hM : M' = M) : SBB C' M' m := by
  obtain ⟨x2, t2, m2, a1, a2, a3, a4⟩ := h
  exact ⟨x2, t2, m2, hC.trans a1, hM.trans a2, a3, tf_trans h1 a4⟩
theorem b_near (h : BMD m) (a b : Int32) : sX7_readsNear_b28 m a b = some m := by
  unfold sX7_readsNear_b28 sX7_readsNear_b60 sX7_readsNear_b77
  simp (disch := omega) only [zl, zm, nI_add, pk_mul, inb_t, ix_n, gd_tt, bd_e, nm_v, ite_not, ↓reduceIte, le_t, le_f, lt_t, lt_f, eq_t, eq_f, mone_f, mone_f2, b_good h]
theorem tx_near (h : YG B len c i t m) (hk : yk B len i = 1) (hw : TW n x (gI m 0 2) (gL m 0 7)) : (∃ X f', SBG B len c (i + 1) (sX3_readNear x t) (sX7_readsNear m) m X f' ∧ TW n X f' (gL m 0 7)) ∨ SBB (sX3_readNear x t) (sX7_readsNear m) m := by
  have hws : WR n 0 (8 * 0) 0 (8 * 0) true 99 x (gI m 0 2) := tw_ws hw
  have hn := hws.n8
  have hx := hws.xn
  obtain ⟨t1, m1, a1, a2, a3, a4⟩ := y_next h (by omega)
  have r1 : gI m1 0 2 = gI m 0 2 := a4.e.row
  have n1 : gL m1 0 7 = gL m 0 7 := a4.e.nam
  have k1 : gI m1 0 0 23 = gI m 0 0 23 := a4.e.f23
  unfold sX3_readNear sX7_readsNear
  rw [a1, a2]
  simp only [bd_e, zl, zm]
  rcases y_told a3 hn hx (by rw [r1]; exact hws.fn) (by rw [n1]; exact hw.2.2.2.2.2) with ⟨b, t2, m2, b1, b2, b3, b4, b5, b6, b7, b8, b9, b10⟩ | ⟨t2, m2, b3, b8, b9, b10, _⟩
  · have r2 : gI m2 0 2 = gI m 0 2 := b10.row.trans r1
    have n2 : gL m2 0 7 = gL m 0 7 := b10.nam.trans n1
    have k2 : gI m2 0 0 23 = gI m 0 0 23 := b10.f23.trans k1
    have tf2 : TF m m2 := tf_trans a4.e.tf b10.tf
    rcases y_told b9 hn hx (by rw [r2]; exact hws.fn) (by rw [n2]; exact hw.2.2.2.2.2) with ⟨o, t3, m3, c1, c2, c3, c4, c5, c6, c7, c8, c9, c10⟩ | ⟨t3, m3, c3, c8, c9, c10, c11⟩
    · have hfail : ∀ (Cl : Option (St × St × Int32)) (Ml : Option St), Cl = sX3_readNear_b67 x t2 → Ml = sX7_readsNear_b55 m2 (nI b) (nI o) → SBB Cl Ml m := fun Cl Ml e1 e2 => by
        obtain ⟨t', m', g1, g2, g3, g4⟩ := y_fail b9 (show 1 ≤ 3 by omega) (by omega) (fun z => absurd z (by omega))
        refine ⟨x, t', m', ?_, ?_, g3, tf_trans tf2 g4.tf⟩
        · rw [e1]; unfold sX3_readNear_b67
          simp (disch := omega) only [zl, zm, nI_add, pk_mul, inb_t, ix_n, gd_tt, bd_e, nm_v, ite_not, ↓reduceIte, le_t, le_f, lt_t, lt_f, eq_t, eq_f, mone_f, mone_f2, g1, isb_0]
        · rw [e2]; unfold sX7_readsNear_b55
          have := b_near g3.bad (nI b) (nI o)
          unfold sX7_readsNear_b28 at this
          simp (disch := omega) only [zl, zm, nI_add, pk_mul, inb_t, ix_n, gd_tt, bd_e, nm_v, ite_not, ↓reduceIte, le_t, le_f, lt_t, lt_f, eq_t, eq_f, mone_f, mone_f2, b_good g3.bad] at this
          simp (disch := omega) only [zl, zm, nI_add, pk_mul, inb_t, ix_n, gd_tt, bd_e, nm_v, ite_not, ↓reduceIte, le_t, le_f, lt_t, lt_f, eq_t, eq_f, mone_f, mone_f2, g2, this]
      by_cases hob : o = b
      · right
        refine hfail _ _ ?_ ?_
        · simp (disch := omega) only [zl, zm, nI_add, pk_mul, inb_t, ix_n, gd_tt, bd_e, nm_v, ite_not, ↓reduceIte, le_t, le_f, lt_t, lt_f, eq_t, eq_f, mone_f, mone_f2, b3, b4, c3]
        · unfold sX7_readsNear_b28
          simp (disch := omega) only [zl, zm, nI_add, pk_mul, inb_t, ix_n, gd_tt, bd_e, nm_v, ite_not, ↓reduceIte, le_t, le_f, lt_t, lt_f, eq_t, eq_f, mone_f, mone_f2, b8, c6, b9.good, c5]
      · have hnb := hws.nb b1
        have hfb := hws.fb b1
        have hin := c_isIn (a := NB x b) (k := o) (by omega) (by omega)
        have har := m_areNear (m := m2) (f := gI m2 0 2) (b := b) (c := o) (a := NB x b) (by omega) (by omega) hnb.2 (by rw [r2]; exact hfb.1)
        rw [sr_self] at har
        cases hbit : (NB x b).testBit o
        · left
          rw [hbit] at hin har
          obtain ⟨e1, e2⟩ := s_nearE (m := m3) (by rw [c10.row, r2]; exact tw_ws hw) b1 c1 (fun z => hob z.symm) hbit
          have r3 : gI (pI (pI m3 0 2 (13 + b) (nI (NB x b ^^^ 2 ^ o))) 0 2 (13 + o) (nI (NB x o ^^^ 2 ^ b))) 0 2 = upd (upd (gI m 0 2) (13 + b) (nI (NB x b ^^^ 2 ^ o))) (13 + o) (nI (NB x o ^^^ 2 ^ b)) := by
            rw [row_pI, row_pI, c10.row, r2]
          refine ⟨_, _, ⟨t3, _, i + 3, ?_, ?_, by omega, c9.cg (fun j k p q => ?_) (fun j k p => ?_), r3, (show gL m3 0 7 = gL m 0 7 from c10.nam.trans n2), ?_, ?_⟩, tw_near hw b1 c1 (fun z => hob z.symm)⟩
          rotate_left
          · have hb : sX7_readsNear_b28 m2 (nI b) (nI o) = some (pI (pI m3 0 2 (13 + b) (nI (NB x b ^^^ 2 ^ o))) 0 2 (13 + o) (nI (NB x o ^^^ 2 ^ b))) := by
              unfold sX7_readsNear_b28 sX7_readsNear_b60 sX7_readsNear_b77
              rw [b9.good]
              simp (disch := omega) only [zl, zm, nI_add, pk_mul, inb_t, ix_n, gd_tt, bd_e, nm_v, ite_not, ↓reduceIte, le_t, le_f, lt_t, lt_f, eq_t, eq_f, mone_f, mone_f2, har, Bool.toNat_false, c7, e2]
            rw [b8]
            simp only [bd_e]
            rw [c6]
            simp only [bd_e]
            rw [b9.good]
            simp only [bd_e]
            rw [c5]
            simp (disch := omega) only [zl, zm, nI_add, pk_mul, inb_t, ix_n, gd_tt, bd_e, nm_v, ite_not, ↓reduceIte, le_t, le_f, lt_t, lt_f, eq_t, eq_f, mone_f, mone_f2, hb]
          · rw [gI_pI, if_neg (by omega), gI_pI, if_neg (by omega)]
          · rfl
          · exact tf_trans tf2 (tf_trans c10.tf (tf_trans (tf_row _ _ _) (tf_row _ _ _)))
          · rw [gI_pI, if_neg (by omega), gI_pI, if_neg (by omega)]; exact c10.f23.trans k2
          · simp (disch := omega) only [zl, zm, nI_add, pk_mul, inb_t, ix_n, gd_tt, bd_e, nm_v, ite_not, ↓reduceIte, le_t, le_f, lt_t, lt_f, eq_t, eq_f, mone_f, mone_f2, b3, b4, c3, hnb.1, hin, Bool.toNat_false, e1, c4]
        · right
          rw [hbit] at hin har
          refine hfail _ _ ?_ ?_
          · simp (disch := omega) only [zl, zm, nI_add, pk_mul, inb_t, ix_n, gd_tt, bd_e, nm_v, ite_not, ↓reduceIte, le_t, le_f, lt_t, lt_f, eq_t, eq_f, mone_f, mone_f2, b3, b4, c3, hnb.1, hin, Bool.toNat_true]
          · unfold sX7_readsNear_b28
            simp (disch := omega) only [zl, zm, nI_add, pk_mul, inb_t, ix_n, gd_tt, bd_e, nm_v, ite_not, ↓reduceIte, le_t, le_f, lt_t, lt_f, eq_t, eq_f, mone_f, mone_f2, b8, c6, b9.good, c5, har, Bool.toNat_true]
    · right
      refine ⟨x, t3, m3, ?_, ?_, c9, tf_trans tf2 c10.tf⟩
      · simp (disch := omega) only [zl, zm, nI_add, pk_mul, inb_t, ix_n, gd_tt, bd_e, nm_v, ite_not, ↓reduceIte, le_t, le_f, lt_t, lt_f, eq_t, eq_f, mone_f, mone_f2, b3, b4, c3]
      · rcases c11 with ⟨d1, d2⟩ | ⟨d1, d2, d3, d4⟩
        · simp (disch := omega) only [zl, zm, nI_add, pk_mul, inb_t, ix_n, gd_tt, bd_e, nm_v, ite_not, ↓reduceIte, le_t, le_f, lt_t, lt_f, eq_t, eq_f, mone_f, mone_f2, b8, d1, b_good c9.bad, b_near c9.bad]
        · have hb : sX7_readsNear_b28 m2 (nI b) mone = some m3 := by
            unfold sX7_readsNear_b28 sX7_readsNear_b60 sX7_readsNear_b77
            rw [b9.good]
            simp (disch := omega) only [zl, zm, nI_add, pk_mul, inb_t, ix_n, gd_tt, bd_e, nm_v, ite_not, ↓reduceIte, le_t, le_f, lt_t, lt_f, eq_t, eq_f, mone_f, mone_f2, d4, b_good c9.bad]
          rw [b8]
          simp only [bd_e]
          rw [d2]
          simp only [bd_e]
          rw [b9.good]
          simp only [bd_e]
          rw [d3]
          simp (disch := omega) only [zl, zm, nI_add, pk_mul, inb_t, ix_n, gd_tt, bd_e, nm_v, ite_not, ↓reduceIte, le_t, le_f, lt_t, lt_f, eq_t, eq_f, mone_f, mone_f2, hb]
  · right
    refine ⟨x, t2, m2, ?_, ?_, b9, tf_trans a4.e.tf b10.tf⟩
    · simp (disch := omega) only [zl, zm, nI_add, pk_mul, inb_t, ix_n, gd_tt, bd_e, nm_v, ite_not, ↓reduceIte, le_t, le_f, lt_t, lt_f, eq_t, eq_f, mone_f, mone_f2, b3]
    · simp (disch := omega) only [zl, zm, nI_add, pk_mul, inb_t, ix_n, gd_tt, bd_e, nm_v, ite_not, ↓reduceIte, le_t, le_f, lt_t, lt_f, eq_t, eq_f, mone_f, mone_f2, b8, b_mustBe b9.bad, b_good b9.bad, b_near b9.bad]
/-! "beacon" -/
theorem c_begin {o : Nat} (x : St) (v : Int64) : ∃ x', sX0_begin (o + 1) x v = some x' ∧ gL x' (o + 1) 0 0 = v ∧ TV (gI x' (o + 1)) ∧ gI x' (o + 1) 0 10 = nI 0 ∧ ∀ o', ¬ o' = o + 1 → gI x' o' = gI x o' ∧ gL x' o' = gL x o' := by
  have l2 : ∀ y : St, ∃ z, sX0_begin_b81 FU (o + 1) y (nI 0) = some z ∧ (∀ k, k < 8 → gI z (o + 1) 2 k = mone ∧ gI z (o + 1) 4 k = nI 5) ∧ (∀ o' j k, ¬ (o' = o + 1 ∧ (j = 2 ∨ j = 3 ∨ j = 4)) → gI z o' j k = gI y o' j k) ∧ z.2 = y.2 := fun y => by
    obtain ⟨z, e1, e2, e3, e4⟩ := one_up 8 (fun k (z : St) => (∀ i, i < k → gI z (o + 1) 2 i = mone ∧ gI z (o + 1) 4 i = nI 5) ∧ (∀ o' j k, ¬ (o' = o + 1 ∧ (j = 2 ∨ j = 3 ∨ j = 4)) → gI z o' j k = gI y o' j k) ∧ z.2 = y.2) (fun F z k => sX0_begin_b81 F (o + 1) z (nI k)) (fun z => some z) (fun F z _ => by simp only [sX0_begin_b81]; simp (disch := omega) only [zl, zm, nI_add, pk_mul, inb_t, ix_n, gd_tt, bd_e, nm_v, ite_not, ↓reduceIte, le_t, le_f, lt_t, lt_f, eq_t, eq_f, mone_f, mone_f2]) (fun k z hk hR => by
      obtain ⟨r1, r2, r3⟩ := hR
      refine ⟨pI (pI (pI z (o + 1) 2 k mone) (o + 1) 3 k (nI 0)) (o + 1) 4 k (nI 5), fun F => ?_, fun i hi => ?_, fun o' j k' hh => ?_, r3⟩
      · simp only [sX0_begin_b81]; simp (disch := omega) only [zl, zm, nI_add, pk_mul, inb_t, ix_n, gd_tt, bd_e, nm_v, ite_not, ↓reduceIte, le_t, le_f, lt_t, lt_f, eq_t, eq_f, mone_f, mone_f2]
      · by_cases hik : i = k
        · subst hik
          exact ⟨by rw [gI_pI, if_neg (by omega), gI_pI, if_neg (by omega), gI_pI, if_pos ⟨rfl, rfl, rfl⟩], by rw [gI_pI, if_pos ⟨rfl, rfl, rfl⟩]⟩
        · have := r1 i (by omega)
          exact ⟨by rw [gI_pI, if_neg (by omega), gI_pI, if_neg (by omega), gI_pI, if_neg (by omega)]; exact this.1, by rw [gI_pI, if_neg (by omega), gI_pI, if_neg (by omega), gI_pI, if_neg (by omega)]; exact this.2⟩
      · rw [gI_pI, if_neg (by omega), gI_pI, if_neg (by omega), gI_pI, if_neg (by omega)]; exact r2 o' j k' hh) 8 0 FU y (by omega) (FU_lt (by omega)) ⟨fun i hi => absurd hi (by omega), fun _ _ _ _ => rfl, rfl⟩
    exact ⟨z, e1, e2, e3, e4⟩
  have l1 : ∀ y : St, ∃ z, sX0_begin_b61 FU (o + 1) y (nI 0) = some z ∧ (∀ k, k < 4 → gI z (o + 1) 1 k = nI 0) ∧ (∀ k, k < 8 → gI z (o + 1) 2 k = mone ∧ gI z (o + 1) 4 k = nI 5) ∧ (∀ o' j k, ¬ (o' = o + 1 ∧ (j = 1 ∨ j = 2 ∨ j = 3 ∨ j = 4)) → gI z o' j k = gI y o' j k) ∧ z.2 = y.2 := fun y => by
    obtain ⟨z, e1, e2, e3, e4⟩ := one_up 4 (fun k (z : St) => (∀ i, i < k → gI z (o + 1) 1 i = nI 0) ∧ (∀ o' j k, ¬ (o' = o + 1 ∧ j = 1) → gI z o' j k = gI y o' j k) ∧ z.2 = y.2) (fun F z k => sX0_begin_b61 F (o + 1) z (nI k)) (fun z => sX0_begin_b81 FU (o + 1) z (nI 0)) (fun F z _ => by simp only [sX0_begin_b61]; simp (disch := omega) only [zl, zm, nI_add, pk_mul, inb_t, ix_n, gd_tt, bd_e, nm_v, ite_not, ↓reduceIte, le_t, le_f, lt_t, lt_f, eq_t, eq_f, mone_f, mone_f2]) (fun k z hk hR => by
      obtain ⟨r1, r2, r3⟩ := hR
      refine ⟨pI z (o + 1) 1 k (nI 0), fun F => ?_, fun i hi => ?_, fun o' j k' hh => ?_, r3⟩
      · simp only [sX0_begin_b61]; simp (disch := omega) only [zl, zm, nI_add, pk_mul, inb_t, ix_n, gd_tt, bd_e, nm_v, ite_not, ↓reduceIte, le_t, le_f, lt_t, lt_f, eq_t, eq_f, mone_f, mone_f2]
      · by_cases hik : i = k
        · subst hik
          rw [gI_pI, if_pos ⟨rfl, rfl, rfl⟩]
        · rw [gI_pI, if_neg (by omega)]; exact r1 i (by omega)
      · rw [gI_pI, if_neg (by omega)]; exact r2 o' j k' hh) 4 0 FU y (by omega) (FU_lt (by omega)) ⟨fun i hi => absurd hi (by omega), fun _ _ _ _ => rfl, rfl⟩
    obtain ⟨z2, g1, g2, g3, g4⟩ := l2 z
    exact ⟨z2, e1.trans g1, fun k hk => (g3 _ _ _ (by omega)).trans (e2 k hk), g2, fun o' j k hh => (g3 o' j k (by omega)).trans (e3 o' j k (by omega)), g4.trans e4⟩
  unfold sX0_begin sX0_fallAsleep
  simp only [nm_v, zl, bd_e]
  obtain ⟨z, e1, e2, e3, e4, e5⟩ := l1 (pI (pI (pI (pI (pI (pI (pI (pI (pI (pI (pI (pI (pI (pL x (o + 1) 0 0 v) (o + 1) 0 1 (nI 2)) (o + 1) 0 2 (nI 0)) (o + 1) 0 3 (nI 0)) (o + 1) 0 4 (nI 0)) (o + 1) 0 5 (nI 0)) (o + 1) 0 9 (nI 0)) (o + 1) 0 10 (nI 0)) (o + 1) 0 11 (nI 0)) (o + 1) 0 12 (nI 0)) (o + 1) 0 13 (nI 0)) (o + 1) 0 6 (nI 0)) (o + 1) 0 7 (nI 0)) (o + 1) 0 8 (nI 0))
  have hL : ∀ a j k, gL z a j k = gL (pL x (o + 1) 0 0 v) a j k := fun a j k => congrFun (congrFun (congrFun e5 a) j) k
  refine ⟨z, e1, ?_, ⟨?_, ?_, ?_, ?_, ?_, ?_, ?_, e2, e3⟩, ?_, fun o' ho => ⟨funext fun j => funext fun k => ?_, funext fun j => funext fun k => ?_⟩⟩
  · rw [hL, gL_pL, if_pos ⟨rfl, rfl, rfl⟩]
  iterate 8
    · rw [e4 _ _ _ (by omega)]
      simp (disch := omega) only [gI_pI, gL_pL, gI_pL, gL_pI, qe, qn, not_true_eq_false, not_false_eq_true, true_and, and_true, false_and, and_false, and_self, Nat.add_right_cancel_iff, ↓reduceIte]
  · rw [e4 _ _ _ (by omega)]
    simp (disch := omega) only [gI_pI, gL_pL, gI_pL, gL_pI, qe, qn, not_true_eq_false, not_false_eq_true, true_and, and_true, false_and, and_false, and_self, Nat.add_right_cancel_iff, ↓reduceIte, ho]
  · rw [hL, gL_pL, if_neg (by omega)]
theorem m_setG {k : Nat} (v : Int32) (h : 21 + 43 * n + k < 365) : sX7_sets m (nI n) (nI k) v = some (pI m 0 2 (21 + 43 * n + k) v) := by
  unfold sX7_sets sX7_cellOf
  simp (disch := omega) only [zl, zm, nI_add, pk_mul, inb_t, ix_n, gd_tt, bd_e, nm_v, ite_not, ↓reduceIte, le_t, le_f, lt_t, lt_f, eq_t, eq_f, mone_f, mone_f2]
def mb7 (m : St) : Option St := bd (sX7_isGood m) fun q29 => if q29 = nI 0 then some m else gd (inb (nI 0) 365) (nm ((gI m 0 2 (ix (nI 0))) + nI 1) fun v32 => gd (inb (nI 0) 365) (nm (pI m 0 2 (ix (nI 0)) v32) fun z34 => some z34))
def mb6 (m : St) (a : Int32) : Option St := bd (sX7_perhaps m 182634745 (nI 1) (nI 999) (nI 999)) fun q27 => bd (sX7_sets q27.1 a (nI 4) q27.2) fun q28 => mb7 q28
def mb5 (m : St) (a : Int32) : Option St := bd (sX7_perhaps m 20101267 (nI 1) (nI 9) (nI 2)) fun q25 => bd (sX7_sets q25.1 a (nI 3) q25.2) fun q26 => mb6 q26 a
def mb4 (m : St) (a : Int32) : Option St := bd (sX7_perhaps m 13207475667 (nI 1) (nI 9) (nI 2)) fun q23 => bd (sX7_sets q23.1 a (nI 2) q23.2) fun q24 => mb5 q24 a
def mb3 (m : St) (a p : Int32) : Option St := bd (sX7_perhaps m 52 (nI 0) (p - nI 1) (nI 0)) fun q21 => bd (sX7_sets q21.1 a (nI 1) q21.2) fun q22 => mb4 q22 a
def mb2 (m : St) (a : Int32) : Option St := bd (sX7_number m (nI 2) (nI 99)) fun q19 => bd (sX7_sets q19.1 a (nI 0) q19.2) fun q20 => mb3 q20 a q19.2
def mb1 (m : St) (a : Int32) : Option St := bd (sX7_mustWord m 5969497) fun q18 => mb2 q18 a
theorem mb_53 (m : St) (a : Int32) : sX7_readsBeacon_b53 m a = bd (sX7_isGood m) fun q13 => if ¬ q13 = nI 0 then gd (inb a 8) (bd (sX7_goOn (pL m 0 7 (ix a) (gL m 0 0 12))) fun q17 => mb1 q17 a) else some m := (fun h => h) rfl
theorem bb7 (h : BMD m) : mb7 m = some m := by
  unfold mb7
  simp (disch := omega) only [zl, zm, nI_add, pk_mul, inb_t, ix_n, gd_tt, bd_e, nm_v, ite_not, ↓reduceIte, le_t, le_f, lt_t, lt_f, eq_t, eq_f, mone_f, mone_f2, b_good h]
theorem b_set {F : St → Option St} {k : Nat} (hF : ∀ m, BMD m → ∃ m', F m = some m' ∧ TF m m' ∧ gI m' 0 0 8 = gI m 0 0 8 ∧ gI m' 0 0 9 = gI m 0 0 9) (h : BMD m) (v : Int32) (hk : 21 + 43 * n + k < 365) : ∃ m', (bd (sX7_sets m (nI n) (nI k) v) F) = some m' ∧ TF m m' ∧ gI m' 0 0 8 = gI m 0 0 8 ∧ gI m' 0 0 9 = gI m 0 0 9 := by
  rw [m_setG v hk, bd_e]
  have e : ∀ q, gI (pI m 0 2 (21 + 43 * n + k) v) 0 0 q = gI m 0 0 q := fun q => by rw [gI_pI, if_neg (by omega)]
  obtain ⟨m', a1, a2, a3, a4⟩ := hF (pI m 0 2 (21 + 43 * n + k) v) (bmd_f h (e 8))
  exact ⟨m', a1, tf_trans (tf_row _ _ _) a2, a3.trans (e 8), a4.trans (e 9)⟩
theorem bb6 (hn : n < 8) (m : St) (h : BMD m) : ∃ m', mb6 m (nI n) = some m' ∧ TF m m' ∧ gI m' 0 0 8 = gI m 0 0 8 ∧ gI m' 0 0 9 = gI m 0 0 9 := by
  unfold mb6
  rw [b_perhaps h, bd_e]
  exact b_set (fun m h => ⟨m, bb7 h, tf_refl m, rfl, rfl⟩) h _ (by omega)

theorem bb5 (hn : n < 8) (m : St) (h : BMD m) : ∃ m', mb5 m (nI n) = some m' ∧ TF m m' ∧ gI m' 0 0 8 = gI m 0 0 8 ∧ gI m' 0 0 9 = gI m 0 0 9 := by
  unfold mb5
  rw [b_perhaps h, bd_e]
  exact b_set (bb6 hn) h _ (by omega)

theorem bb4 (hn : n < 8) (m : St) (h : BMD m) : ∃ m', mb4 m (nI n) = some m' ∧ TF m m' ∧ gI m' 0 0 8 = gI m 0 0 8 ∧ gI m' 0 0 9 = gI m 0 0 9 := by
  unfold mb4
  rw [b_perhaps h, bd_e]
  exact b_set (bb5 hn) h _ (by omega)

theorem bb3 (hn : n < 8) (p : Int32) (m : St) (h : BMD m) : ∃ m', mb3 m (nI n) p = some m' ∧ TF m m' ∧ gI m' 0 0 8 = gI m 0 0 8 ∧ gI m' 0 0 9 = gI m 0 0 9 := by
  unfold mb3
  rw [b_perhaps h, bd_e]
  exact b_set (bb4 hn) h _ (by omega)
theorem bb2 (hn : n < 8) (m : St) (h : BMD m) : ∃ m', mb2 m (nI n) = some m' ∧ TF m m' ∧ gI m' 0 0 8 = gI m 0 0 8 ∧ gI m' 0 0 9 = gI m 0 0 9 := by
  unfold mb2
  rw [b_number h, bd_e]
  exact b_set (bb3 hn _) h _ (by omega)
theorem bb1 (hn : n < 8) (m : St) (h : BMD m) : ∃ m', mb1 m (nI n) = some m' ∧ TF m m' ∧ gI m' 0 0 8 = gI m 0 0 8 ∧ gI m' 0 0 9 = gI m 0 0 9 := by
  unfold mb1
  rw [b_mustWord h, bd_e]
  exact bb2 hn m h
theorem wd_energy : WDX 18 182634745 [101, 110, 101, 114, 103, 121] := ⟨⟨by decide, by decide, by decide⟩, by decide, rfl, by decide +kernel, by decide +kernel⟩
theorem wd_sends : WDX 3 20101267 [115, 101, 110, 100, 115] := ⟨⟨by decide, by decide, by decide⟩, by decide, rfl, by decide +kernel, by decide +kernel⟩
theorem wd_listens : WDX 1 13207475667 [108, 105, 115, 116, 101, 110, 115] := ⟨⟨by decide, by decide, by decide⟩, by decide, rfl, by decide +kernel, by decide +kernel⟩
theorem wd_at : WDX 8 52 [97, 116] := ⟨⟨by decide, by decide, by decide⟩, by decide, rfl, by decide +kernel, by decide +kernel⟩
theorem wd_every : WDX 7 5969497 [101, 118, 101, 114, 121] := ⟨⟨by decide, by decide, by decide⟩, by decide, rfl, by decide +kernel, by decide +kernel⟩
/-- the class's world when a beacon is told -/
def XBC (x : St) (n : Nat) (p g l s en : Int32) : St := pI (pI (pI (pI (pI (pI x (n + 1) 0 1 p) (n + 1) 0 2 g) (n + 1) 0 3 l) (n + 1) 0 4 s) (n + 1) 0 5 en) 0 0 2 (nI (n + 1))
theorem st6 {p g l s : Int32} (h : YG B len c i t m) (hn : n < 8) (hx : gI x 0 0 2 = nI n) (hf : gI m 0 2 = f) (h0 : f 0 = nI n) (hs : ¬ s = mone) : (∃ en, 1 ≤ en ∧ en ≤ 999 ∧ SBG B len c i (sX3_readBeacon_b133 x t (n + 1) p g l s) (mb6 m (nI n)) m (XBC x n p g l s (nI en)) (upd (upd f (21 + 43 * n + 4) (nI en)) 0 (nI (n + 1)))) ∨ SBB (sX3_readBeacon_b133 x t (n + 1) p g l s) (mb6 m (nI n)) m := by
  have hc : sX3_readBeacon_b133 x t (n + 1) p g l s = bd (sX3_readPart 18 t (nI 1) (nI 999) (nI 999)) fun q18 => sX3_readBeacon_b158 x q18.1 (n + 1) p g l s q18.2 := by
    unfold sX3_readBeacon_b133
    simp only [zl, zm]
    rw [if_pos hs]
  rw [hc]
  unfold mb6
  rcases y_part wd_energy h (lo := 1) (hi := 999) (wo := 999) (by omega) (by omega) (by omega) (by omega) with ⟨en, t', m', i', a1, a2, a3, a4, a5, a6, a7⟩ | ⟨t', m', v, a4, a5, a6, a7⟩
  · left
    rw [a4, a5]
    simp only [bd_e]
    rw [m_setG _ (by omega), bd_e]
    have e0 : gI (pI m' 0 2 (21 + 43 * n + 4) (nI en)) 0 2 0 = nI n := by rw [row_pI, upd_e, if_neg (by omega), a7.row, hf]; exact h0
    have hG : YG B len c i' t' (pI m' 0 2 (21 + 43 * n + 4) (nI en)) := a6.cg (fun j k p q => by rw [gI_pI, if_neg (by omega)]) (fun j k p => rfl)
    refine ⟨en, a1, a2, t', pI (pI m' 0 2 (21 + 43 * n + 4) (nI en)) 0 2 0 (nI (n + 1)), i', ?_, ?_, a3, hG.cg (fun j k p q => by rw [gI_pI, if_neg (by omega)]) (fun j k p => rfl), ?_, (show gL m' 0 7 = gL m 0 7 from a7.nam), tf_trans a7.tf (tf_trans (tf_row _ _ _) (tf_row _ _ _)), ?_⟩
    · unfold sX3_readBeacon_b158 XBC
      have e2 : gI (pI (pI (pI (pI (pI x (n + 1) 0 1 p) (n + 1) 0 2 g) (n + 1) 0 3 l) (n + 1) 0 4 s) (n + 1) 0 5 (nI en)) 0 0 2 = nI n := by
        rw [gI_pI, if_neg (by omega), gI_pI, if_neg (by omega), gI_pI, if_neg (by omega), gI_pI, if_neg (by omega), gI_pI, if_neg (by omega)]; exact hx
      simp (disch := omega) only [zl, zm, nI_add, pk_mul, inb_t, ix_n, gd_tt, bd_e, nm_v, ite_not, ↓reduceIte, le_t, le_f, lt_t, lt_f, eq_t, eq_f, mone_f, mone_f2, e2]
    · unfold mb7
      simp (disch := omega) only [zl, zm, nI_add, pk_mul, inb_t, ix_n, gd_tt, bd_e, nm_v, ite_not, ↓reduceIte, le_t, le_f, lt_t, lt_f, eq_t, eq_f, mone_f, mone_f2, hG.good, e0]
    · rw [row_pI, row_pI, a7.row, hf]
    · rw [gI_pI, if_neg (by omega), gI_pI, if_neg (by omega)]; exact a7.f23
  · right
    rw [a4, a5]
    simp only [bd_e]
    obtain ⟨m2, g1, g2, g3, g4⟩ := b_set (n := n) (k := 4) (F := mb7) (fun m h => ⟨m, bb7 h, tf_refl m, rfl, rfl⟩) a6.bad v (by omega)
    refine ⟨x, t', m2, ?_, g1, a6.cg g3 g4, tf_trans a7.tf g2⟩
    unfold sX3_readBeacon_b158
    simp (disch := omega) only [zl, zm, nI_add, pk_mul, inb_t, ix_n, gd_tt, bd_e, nm_v, ite_not, ↓reduceIte, le_t, le_f, lt_t, lt_f, eq_t, eq_f, mone_f, mone_f2]

theorem st5 {p g l : Int32} (h : YG B len c i t m) (hn : n < 8) (hx : gI x 0 0 2 = nI n) (hf : gI m 0 2 = f) (h0 : f 0 = nI n) (hl : ¬ l = mone) : (∃ s en, 1 ≤ s ∧ s ≤ 9 ∧ 1 ≤ en ∧ en ≤ 999 ∧ SBG B len c i (sX3_readBeacon_b111 x t (n + 1) p g l) (mb5 m (nI n)) m (XBC x n p g l (nI s) (nI en)) (upd (upd (upd f (21 + 43 * n + 3) (nI s)) (21 + 43 * n + 4) (nI en)) 0 (nI (n + 1)))) ∨ SBB (sX3_readBeacon_b111 x t (n + 1) p g l) (mb5 m (nI n)) m := by
  have hc : sX3_readBeacon_b111 x t (n + 1) p g l = bd (sX3_readPart 3 t (nI 1) (nI 9) (nI 2)) fun q16 => sX3_readBeacon_b133 x q16.1 (n + 1) p g l q16.2 := by
    unfold sX3_readBeacon_b111
    simp only [zl, zm]
    rw [if_pos hl]
  rw [hc]
  unfold mb5
  rcases y_part wd_sends h (lo := 1) (hi := 9) (wo := 2) (by omega) (by omega) (by omega) (by omega) with ⟨s, t', m', i', a1, a2, a3, a4, a5, a6, a7⟩ | ⟨t', m', v, a4, a5, a6, a7⟩
  · rw [a4, a5]
    simp only [bd_e]
    rw [m_setG _ (by omega), bd_e]
    have hG : YG B len c i' t' (pI m' 0 2 (21 + 43 * n + 3) (nI s)) := a6.cg (fun j k p q => by rw [gI_pI, if_neg (by omega)]) (fun j k p => rfl)
    have hT : TF m (pI m' 0 2 (21 + 43 * n + 3) (nI s)) := tf_trans a7.tf (tf_row _ _ _)
    rcases st6 (x := x) (p := p) (g := g) (l := l) (s := nI s) hG hn hx (f := upd f (21 + 43 * n + 3) (nI s)) (by rw [row_pI, a7.row, hf]) (by rw [upd_e, if_neg (by omega)]; exact h0) (fun z => cast (mone_f (by omega)) z) with ⟨en, b1, b2, b3⟩ | b3
    · left
      exact ⟨s, en, a1, a2, b1, b2, b3.back a3 hT (show gL m' 0 7 = gL m 0 7 from a7.nam) (by rw [gI_pI, if_neg (by omega)]; exact a7.f23) rfl rfl⟩
    · right
      exact b3.back hT rfl rfl
  · right
    rw [a4, a5]
    simp only [bd_e]
    obtain ⟨m2, g1, g2, g3, g4⟩ := b_set (n := n) (k := 3) (F := fun q => mb6 q (nI n)) (bb6 hn) a6.bad v (by omega)
    refine ⟨x, t', m2, ?_, g1, a6.cg g3 g4, tf_trans a7.tf g2⟩
    unfold sX3_readBeacon_b133 sX3_readBeacon_b158
    simp (disch := omega) only [zl, zm, nI_add, pk_mul, inb_t, ix_n, gd_tt, bd_e, nm_v, ite_not, ↓reduceIte, le_t, le_f, lt_t, lt_f, eq_t, eq_f, mone_f, mone_f2]

theorem st4 {p g : Int32} (h : YG B len c i t m) (hn : n < 8) (hx : gI x 0 0 2 = nI n) (hf : gI m 0 2 = f) (h0 : f 0 = nI n) (hg : ¬ g = mone) : (∃ l s en, 1 ≤ l ∧ l ≤ 9 ∧ 1 ≤ s ∧ s ≤ 9 ∧ 1 ≤ en ∧ en ≤ 999 ∧ SBG B len c i (sX3_readBeacon_b89 x t (n + 1) p g) (mb4 m (nI n)) m (XBC x n p g (nI l) (nI s) (nI en)) (upd (upd (upd (upd f (21 + 43 * n + 2) (nI l)) (21 + 43 * n + 3) (nI s)) (21 + 43 * n + 4) (nI en)) 0 (nI (n + 1)))) ∨ SBB (sX3_readBeacon_b89 x t (n + 1) p g) (mb4 m (nI n)) m := by
  have hc : sX3_readBeacon_b89 x t (n + 1) p g = bd (sX3_readPart 1 t (nI 1) (nI 9) (nI 2)) fun q16 => sX3_readBeacon_b111 x q16.1 (n + 1) p g q16.2 := by
    unfold sX3_readBeacon_b89
    simp only [zl, zm]
    rw [if_pos hg]
  rw [hc]
  unfold mb4
  rcases y_part wd_listens h (lo := 1) (hi := 9) (wo := 2) (by omega) (by omega) (by omega) (by omega) with ⟨s, t', m', i', a1, a2, a3, a4, a5, a6, a7⟩ | ⟨t', m', v, a4, a5, a6, a7⟩
  · rw [a4, a5]
    simp only [bd_e]
    rw [m_setG _ (by omega), bd_e]
    have hG : YG B len c i' t' (pI m' 0 2 (21 + 43 * n + 2) (nI s)) := a6.cg (fun j k p q => by rw [gI_pI, if_neg (by omega)]) (fun j k p => rfl)
    have hT : TF m (pI m' 0 2 (21 + 43 * n + 2) (nI s)) := tf_trans a7.tf (tf_row _ _ _)
    rcases st5 (x := x) (p := p) (g := g) (l := nI s) hG hn hx (f := upd f (21 + 43 * n + 2) (nI s)) (by rw [row_pI, a7.row, hf]) (by rw [upd_e, if_neg (by omega)]; exact h0) (fun z => cast (mone_f (by omega)) z) with ⟨s2, en, b0, b00, b1, b2, b3⟩ | b3
    · left
      exact ⟨s, s2, en, a1, a2, b0, b00, b1, b2, b3.back a3 hT (show gL m' 0 7 = gL m 0 7 from a7.nam) (by rw [gI_pI, if_neg (by omega)]; exact a7.f23) rfl rfl⟩
    · right
      exact b3.back hT rfl rfl
  · right
    rw [a4, a5]
    simp only [bd_e]
    obtain ⟨m2, g1, g2, g3, g4⟩ := b_set (n := n) (k := 2) (F := fun q => mb5 q (nI n)) (bb5 hn) a6.bad v (by omega)
    refine ⟨x, t', m2, ?_, g1, a6.cg g3 g4, tf_trans a7.tf g2⟩
    unfold sX3_readBeacon_b111 sX3_readBeacon_b133 sX3_readBeacon_b158
    simp (disch := omega) only [zl, zm, nI_add, pk_mul, inb_t, ix_n, gd_tt, bd_e, nm_v, ite_not, ↓reduceIte, le_t, le_f, lt_t, lt_f, eq_t, eq_f, mone_f, mone_f2]
theorem st2 (h : YG B len c i t m) (hn : n < 8) (hx : gI x 0 0 2 = nI n) (hf : gI m 0 2 = f) (h0 : f 0 = nI n) (hC : C = bd (sX4_takeNumber t (nI 2) (nI 99)) fun q8 => if ¬ q8.2 = mone then bd (sX3_readPart 8 q8.1 (nI 0) (q8.2 - nI 1) (nI 0)) fun q10 => sX3_readBeacon_b89 x q10.1 (n + 1) q8.2 q10.2 else sX3_readBeacon_b89 x q8.1 (n + 1) q8.2 mone) : (∃ p g l s en, 2 ≤ p ∧ p ≤ 99 ∧ g < p ∧ 1 ≤ l ∧ l ≤ 9 ∧ 1 ≤ s ∧ s ≤ 9 ∧ 1 ≤ en ∧ en ≤ 999 ∧ SBG B len c i C (mb2 m (nI n)) m (XBC x n (nI p) (nI g) (nI l) (nI s) (nI en)) (upd (upd (upd (upd (upd (upd f (21 + 43 * n + 0) (nI p)) (21 + 43 * n + 1) (nI g)) (21 + 43 * n + 2) (nI l)) (21 + 43 * n + 3) (nI s)) (21 + 43 * n + 4) (nI en)) 0 (nI (n + 1)))) ∨ SBB C (mb2 m (nI n)) m := by
  rw [hC]
  unfold mb2
  rcases y_number h (lo := 2) (hi := 99) (by omega) (by omega) with ⟨p, t1, m1, a1, a2, a3, a4, a5, a6, a7⟩ | ⟨t', m', v, a4, a5, a6, a7⟩
  · rw [a4, a5]
    simp only [bd_e]
    rw [m_setG _ (by omega), bd_e, if_pos (fun z => cast (mone_f (by omega)) z), zs (by omega)]
    have hG1 : YG B len c (i + 1) t1 (pI m1 0 2 (21 + 43 * n + 0) (nI p)) := a6.cg (fun j k p q => by rw [gI_pI, if_neg (by omega)]) (fun j k p => rfl)
    have hT1 : TF m (pI m1 0 2 (21 + 43 * n + 0) (nI p)) := tf_trans a7.tf (tf_row _ _ _)
    unfold mb3
    rw [zs (by omega)]
    rcases y_part wd_at hG1 (lo := 0) (hi := p - 1) (wo := 0) (by omega) (by omega) (by omega) (by omega) with ⟨g, t', m', i', d1, d2, d3, d4, d5, d6, d7⟩ | ⟨t', m', v, d4, d5, d6, d7⟩
    · rw [d4, d5]
      simp only [bd_e]
      rw [m_setG _ (by omega), bd_e]
      have hG : YG B len c i' t' (pI m' 0 2 (21 + 43 * n + 1) (nI g)) := d6.cg (fun j k p q => by rw [gI_pI, if_neg (by omega)]) (fun j k p => rfl)
      have hT : TF m (pI m' 0 2 (21 + 43 * n + 1) (nI g)) := tf_trans hT1 (tf_trans d7.tf (tf_row _ _ _))
      rcases st4 (x := x) (p := nI p) (g := nI g) hG hn hx (f := upd (upd f (21 + 43 * n + 0) (nI p)) (21 + 43 * n + 1) (nI g)) (by rw [row_pI, d7.row, row_pI, a7.row, hf]) (by rw [upd_e, if_neg (by omega), upd_e, if_neg (by omega)]; exact h0) (fun z => cast (mone_f (by omega)) z) with ⟨l, s, en, b1, b2, b3, b4, b5, b6, b7⟩ | b3
      · left
        exact ⟨p, g, l, s, en, a1, a2, by omega, b1, b2, b3, b4, b5, b6, b7.back (by omega) hT (show gL m' 0 7 = gL m 0 7 from d7.nam.trans a7.nam) (by rw [gI_pI, if_neg (by omega), d7.f23, gI_pI, if_neg (by omega)]; exact a7.f23) rfl rfl⟩
      · right
        exact b3.back hT rfl rfl
    · right
      rw [d4, d5]
      simp only [bd_e]
      obtain ⟨m2, g1, g2, g3, g4⟩ := b_set (n := n) (k := 1) (F := fun q => mb4 q (nI n)) (bb4 hn) d6.bad v (by omega)
      refine ⟨x, t', m2, ?_, g1, d6.cg g3 g4, tf_trans hT1 (tf_trans d7.tf g2)⟩
      unfold sX3_readBeacon_b89 sX3_readBeacon_b111 sX3_readBeacon_b133 sX3_readBeacon_b158
      simp (disch := omega) only [zl, zm, nI_add, pk_mul, inb_t, ix_n, gd_tt, bd_e, nm_v, ite_not, ↓reduceIte, le_t, le_f, lt_t, lt_f, eq_t, eq_f, mone_f, mone_f2]
  · right
    rw [a4, a5]
    simp only [bd_e]
    obtain ⟨m2, g1, g2, g3, g4⟩ := b_set (n := n) (k := 0) (F := fun q => mb3 q (nI n) v) (bb3 hn v) a6.bad v (by omega)
    refine ⟨x, t', m2, ?_, g1, a6.cg g3 g4, tf_trans a7.tf g2⟩
    rw [if_neg (fun z => z trivial)]
    unfold sX3_readBeacon_b89 sX3_readBeacon_b111 sX3_readBeacon_b133 sX3_readBeacon_b158
    simp (disch := omega) only [zl, zm, nI_add, pk_mul, inb_t, ix_n, gd_tt, bd_e, nm_v, ite_not, ↓reduceIte, le_t, le_f, lt_t, lt_f, eq_t, eq_f, mone_f, mone_f2]
end