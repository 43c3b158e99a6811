/-! stage B: a slot's costs -/
def IB (n t tb : Nat) (c : Nat → Int32) (v : Nat → Nat → Int32) : Prop :=
  (∃ s0 s1 s2 s3 L, (v 1 0 = nI s0 ∧ v 1 1 = nI s1 ∧ v 1 2 = nI s2 ∧ v 1 3 = nI s3) ∧ v 0 10 = nI L ∧ s0 + s1 + s2 + s3 ≤ tb ∧ L ≤ s0 * ix (c 0) + s1 * ix (c 1) + s2 * ix (c 2) + s3 * ix (c 3)) ∧ (v 0 4 = nI 0 ↔ v 0 5 = nI 4) ∧ (v 0 5 = nI 0 ∨ v 0 5 = nI 4 → v 0 6 = nI 0) ∧ HT n t v
def YQ (k : Nat) (Y Y' : St) : Prop := ∀ o j i, ¬ (o = k + 1 ∧ (j = 1 ∨ (j = 0 ∧ (i = 4 ∨ i = 5 ∨ i = 6 ∨ i = 10)))) → gI Y' o j i = gI Y o j i
section
variable {n t tb cm wl wm e k b : Nat} {q : Bool} {x x' m Y Y' : St} {f f' : Nat → Int32} {c : Nat → Int32}
theorem IB.up {v : Nat → Nat → Int32} {t' tb' : Nat} (h : IB n t tb c v) (ht : t ≤ t') (hb : tb ≤ tb') : IB n t' tb' c v := by
  obtain ⟨⟨s0, s1, s2, s3, L, h1, h2, h3, h4⟩, h5, h6, h7⟩ := h
  refine ⟨⟨s0, s1, s2, s3, L, h1, h2, by omega, h4⟩, h5, h6, fun o ho => ?_⟩
  rcases h7 o ho with h | ⟨a, h8, h9⟩
  · exact Or.inl h
  · exact Or.inr ⟨a, by omega, h9⟩
theorem ib_pay {v v' : Nat → Nat → Int32} {st P : Nat} (h : IB n t tb c v) (hst : st < 4) (hP : P ≤ ix (c st)) (h1 : ∀ i, i < 4 → v' 1 i = if i = st then v 1 i + nI 1 else v 1 i) (h2 : v' 0 10 = v 0 10 + nI P) (h3 : v' 0 4 = nI 0 ↔ v' 0 5 = nI 4) (h4 : v' 0 5 = nI 0 ∨ v' 0 5 = nI 4 → v' 0 6 = nI 0) (h5 : ∀ o, v' 2 o = v 2 o) : IB n t (tb + 1) c v' := by
  obtain ⟨⟨s0, s1, s2, s3, L, ⟨a0, a1, a2, a3⟩, b1, b2, b3⟩, -, -, h7⟩ := h
  have c0 := h1 0 (by omega)
  have c1 := h1 1 (by omega)
  have c2 := h1 2 (by omega)
  have c3 := h1 3 (by omega)
  refine ⟨?_, h3, h4, fun o ho => by rw [h5]; exact h7 o ho⟩
  rw [b1, nI_add] at h2
  rcases (by omega : st = 0 ∨ st = 1 ∨ st = 2 ∨ st = 3) with rfl | rfl | rfl | rfl
  · refine ⟨s0 + 1, s1, s2, s3, L + P, ⟨?_, ?_, ?_, ?_⟩, h2, by omega, ?_⟩
    · rw [c0, if_pos rfl, a0, nI_add]
    · rw [c1, if_neg (by decide), a1]
    · rw [c2, if_neg (by decide), a2]
    · rw [c3, if_neg (by decide), a3]
    · rw [Nat.add_mul]; omega
  · refine ⟨s0, s1 + 1, s2, s3, L + P, ⟨?_, ?_, ?_, ?_⟩, h2, by omega, ?_⟩
    · rw [c0, if_neg (by decide), a0]
    · rw [c1, if_pos rfl, a1, nI_add]
    · rw [c2, if_neg (by decide), a2]
    · rw [c3, if_neg (by decide), a3]
    · rw [Nat.add_mul]; omega
  · refine ⟨s0, s1, s2 + 1, s3, L + P, ⟨?_, ?_, ?_, ?_⟩, h2, by omega, ?_⟩
    · rw [c0, if_neg (by decide), a0]
    · rw [c1, if_neg (by decide), a1]
    · rw [c2, if_pos rfl, a2, nI_add]
    · rw [c3, if_neg (by decide), a3]
    · rw [Nat.add_mul]; omega
  · refine ⟨s0, s1, s2, s3 + 1, L + P, ⟨?_, ?_, ?_, ?_⟩, h2, by omega, ?_⟩
    · rw [c0, if_neg (by decide), a0]
    · rw [c1, if_neg (by decide), a1]
    · rw [c2, if_neg (by decide), a2]
    · rw [c3, if_pos rfl, a3, nI_add]
    · rw [Nat.add_mul]; omega
theorem t_pay {u : Nat} {a1 : Int32} (h : WR n t cm wl wm false 99 x f) (y : FY n Y f) (hk : k < n) (hI : IB n t tb (gI Y 0 1) (gI Y (k + 1))) : ∃ x' f' Y', (∀ F, sX5_payForStates_b2 (F + 1) x (nI k) = sX5_payForStates_b2 F x' (nI (k + 1))) ∧ (∀ F, sX8_slot_b71 (F + 1) n Y u a1 (nI k) = sX8_slot_b71 F n Y' u a1 (nI (k + 1))) ∧ WR n t cm wl wm false 99 x' f' ∧ FY n Y' f' ∧ YQ k Y Y' ∧ IB n t (tb + 1) (gI Y 0 1) (gI Y' (k + 1)) := by
  have hn := h.n8
  have hxn := h.xn
  obtain ⟨⟨d0, d00⟩, d1, d2, d3, d4, d5, d6, d7, d8, d9, d10, d11, d12, d13, d14, d15⟩ := h.bd hk
  obtain ⟨p, g, l, s, en, st, lf, fl, a, sk, h1, h2, h3, h4, h5, h6, h7, h8, h9, h10, h11, h12⟩ := h.bk hk
  obtain ⟨y0, y1, y2, y3, y4, y5, y6, y7, y8, y9, y10, y11, y12, y13, y14, y15⟩ := y.fb hk
  obtain ⟨z0, z1, z2, z3, z4, z5, z6, z7, z8⟩ := y.1
  have hst : gI Y (k + 1) 0 5 = nI st := y5.trans (d6.trans h6)
  have hen : gI Y (k + 1) 0 4 = nI en := y4.trans (d5.trans h5)
  have hne : (nI k = nI n) = False := eq_f (by omega) (by omega) (by omega)
  by_cases h0 : st = 4
  · subst h0
    refine ⟨x, f, Y, fun F => ?_, fun F => ?_, h, y, fun _ _ _ _ => rfl, hI.up (Nat.le_refl _) (by omega)⟩
    · simp only [sX5_payForStates_b2]
      rw [hxn]
      simp (disch := omega) only [zl, zm, nI_add, pk_mul, inb_t, ix_n, gd_tt, bd_e, nm_v, ite_not, ↓reduceIte, le_t, le_f, lt_t, lt_f, eq_t, eq_f, mone_f, mone_f2, h6]
    · simp only [sX8_slot_b71]
      simp (disch := omega) only [zl, zm, nI_add, pk_mul, inb_t, ix_n, gd_tt, bd_e, nm_v, ite_not, ↓reduceIte, le_t, le_f, lt_t, lt_f, eq_t, eq_f, mone_f, mone_f2, hne, hst]
  · obtain ⟨x', f', e1, e2, e3⟩ := l_pay (m := x) h hk h6 (by omega)
    obtain ⟨cc, w, tr, sn, w1, w2, w3, w4, w5, w6, w7, w8, w9, w10, w11, w12, w13, w14, w15, w16, w17, w18, w19, w20, w21, w22, w23, w24, w25⟩ := h.1
    obtain ⟨z, hz, hz2⟩ := w15 st (by omega)
    have hfz := (w25 st (by omega)).trans hz2
    have hcz : gI Y 0 1 st = nI z := (z7 st (by omega)).trans hfz
    obtain ⟨P, hP⟩ : ∃ P, min en z = P := ⟨_, rfl⟩
    have hPz : P ≤ ix (gI Y 0 1 st) := by rw [hcz, ix_n (by omega)]; omega
    have hP1 : (if nI z < nI en then nI z else nI en) = nI P := by
      by_cases hh : z < en
      · rw [if_pos (nI_lt hh (by omega))]; congr 1; omega
      · rw [if_neg (nI_nlt (by omega) (by omega))]; congr 1; omega
    have hP2 : sX7_lesser (nI en) (nI z) = some (nI P) := by
      unfold sX7_lesser
      by_cases hh : z ≤ en
      · rw [if_pos (nI_le hh (by omega))]; congr 2; omega
      · rw [if_neg (nI_ge (by omega) (by omega))]; congr 2; omega
    by_cases h00 : en - P = 0
    · obtain rfl : en = P := by omega
      have e4 : sX7_pays (sr x f) (nI k) = some (sr x (upd (upd (upd (upd (upd f (21 + 43 * k + 4) (nI 0)) (21 + 43 * k + 13) (f (21 + 43 * k + 13) + nI en)) (21 + 43 * k + (14 + st)) (f (21 + 43 * k + (14 + st)) + nI 1)) (21 + 43 * k + 5) (nI 4)) (21 + 43 * k + 6) (nI 0))) := by
        unfold sX7_pays sX7_enters
        simp only [zl, zm]
        simp (disch := omega) only [m_of, bd_e, d6, h6, d5, h5, nI_add, inb_t, ix_n, gd_tt, sr_row, hfz, hP2, m_adds, upd_e, qn, qe, ↓reduceIte, n_neg, m_sets, eq_t, not_true_eq_false, Nat.sub_self]
      obtain rfl := sr_inj (e2.symm.trans e4)
      refine ⟨x', _, pI (pI (pI (pI (pI Y (k + 1) 1 st (gI Y (k + 1) 1 st + nI 1)) (k + 1) 0 4 (nI 0)) (k + 1) 0 10 (gI Y (k + 1) 0 10 + nI en)) (k + 1) 0 5 (nI 4)) (k + 1) 0 6 (nI 0), e1, fun F => ?_, e3, ?_, fun o j i hh => ?_, ?_⟩
      · simp only [sX8_slot_b71]
        simp (disch := omega) only [zl, zm, nI_add, pk_mul, inb_t, ix_n, gd_tt, bd_e, nm_v, ite_not, ↓reduceIte, le_t, le_f, lt_t, lt_f, eq_t, eq_f, mone_f, mone_f2, hne, hst, hcz, hen, hP1, gI_pI, gL_pL, gI_pL, gL_pI, qn, qe, not_true_eq_false, not_false_eq_true, true_and, and_true, false_and, and_false, and_self, Nat.add_right_cancel_iff, zs, Nat.sub_self]
      · clear e2 e4
        refine y.one hn hk (fun b hb => ?_) ?_ (fun b o => ?_) (fun i hi hi2 => ?_) ?_
        · funext j i
          simp (disch := omega) only [gI_pI, gL_pL, gI_pL, gL_pI, qn, qe, not_true_eq_false, not_false_eq_true, true_and, and_true, false_and, and_false, and_self, Nat.add_right_cancel_iff, ↓reduceIte]
        · refine ⟨?_, ?_, ?_, ?_, ?_, ?_, ?_, fun k' hk' => ?_, fun o ho => ?_⟩
          all_goals try simp (disch := omega) only [upd_e, gI_pI, gL_pL, gI_pL, gL_pI, qn, qe, not_true_eq_false, not_false_eq_true, true_and, and_true, false_and, and_false, and_self, Nat.add_right_cancel_iff, ↓reduceIte]
          all_goals first | assumption | rfl | exact z7 _ (by assumption) | exact z8 _ (by assumption) | skip
        · simp (disch := omega) only [gI_pI, gL_pL, gI_pL, gL_pI, qn, qe, not_true_eq_false, not_false_eq_true, true_and, and_true, false_and, and_false, and_self, Nat.add_right_cancel_iff, ↓reduceIte]
        · simp (disch := omega) only [upd_e, qn, qe, ↓reduceIte]
        · refine ⟨?_, ?_, ?_, ?_, ?_, ?_, ?_, ?_, ?_, ?_, ?_, ?_, fun k' hk' => ?_, fun o ho => ?_, fun o ho => ?_, ?_⟩
          rotate_right 1
          · intro h3 o ho hob
            simp (disch := omega) only [upd_e, qn, qe, ↓reduceIte] at h3
            exact absurd h3 (by decide)
          case refine_13 =>
            by_cases hkk : k' = st
            · subst hkk
              simp (disch := omega) only [upd_e, gI_pI, gL_pL, gI_pL, gL_pI, qn, qe, not_true_eq_false, not_false_eq_true, true_and, and_true, false_and, and_false, and_self, Nat.add_right_cancel_iff, ↓reduceIte]
              rw [y12 _ hk']
            · simp (disch := omega) only [upd_e, gI_pI, gL_pL, gI_pL, gL_pI, qn, qe, not_true_eq_false, not_false_eq_true, true_and, and_true, false_and, and_false, and_self, Nat.add_right_cancel_iff, ↓reduceIte]
              exact y12 _ hk'
          all_goals try simp (disch := omega) only [upd_e, gI_pI, gL_pL, gI_pL, gL_pI, qn, qe, not_true_eq_false, not_false_eq_true, true_and, and_true, false_and, and_false, and_self, Nat.add_right_cancel_iff, ↓reduceIte]
          all_goals first | assumption | rfl | exact y13 _ (by assumption) | exact y14 _ (by assumption) | rw [y10]
      · repeat rw [gI_pI, if_neg (by omega)]
      · refine ib_pay hI (by omega) hPz (fun i hi => ?_) ?_ ?_ (fun _ => ?_) (fun o => ?_)
        · by_cases hi2 : i = st
          · subst hi2; simp (disch := omega) only [gI_pI, gL_pL, gI_pL, gL_pI, qn, qe, not_true_eq_false, not_false_eq_true, true_and, and_true, false_and, and_false, and_self, Nat.add_right_cancel_iff, ↓reduceIte]
          · simp (disch := omega) only [gI_pI, gL_pL, gI_pL, gL_pI, qn, qe, not_true_eq_false, not_false_eq_true, true_and, and_true, false_and, and_false, and_self, Nat.add_right_cancel_iff, ↓reduceIte]
        · simp (disch := omega) only [gI_pI, gL_pL, gI_pL, gL_pI, qn, qe, not_true_eq_false, not_false_eq_true, true_and, and_true, false_and, and_false, and_self, Nat.add_right_cancel_iff, ↓reduceIte]
        · simp (disch := omega) only [gI_pI, gL_pL, gI_pL, gL_pI, qn, qe, not_true_eq_false, not_false_eq_true, true_and, and_true, false_and, and_false, and_self, Nat.add_right_cancel_iff, ↓reduceIte]
        · simp (disch := omega) only [gI_pI, gL_pL, gI_pL, gL_pI, qn, qe, not_true_eq_false, not_false_eq_true, true_and, and_true, false_and, and_false, and_self, Nat.add_right_cancel_iff, ↓reduceIte]
        · simp (disch := omega) only [gI_pI, gL_pL, gI_pL, gL_pI, qn, qe, not_true_eq_false, not_false_eq_true, true_and, and_true, false_and, and_false, and_self, Nat.add_right_cancel_iff, ↓reduceIte]
    · obtain rfl : z = P := by omega
      have e4 : sX7_pays (sr x f) (nI k) = some (sr x (upd (upd (upd f (21 + 43 * k + 4) (nI (en - z))) (21 + 43 * k + 13) (f (21 + 43 * k + 13) + nI z)) (21 + 43 * k + (14 + st)) (f (21 + 43 * k + (14 + st)) + nI 1))) := by
        unfold sX7_pays sX7_enters
        simp only [zl, zm]
        simp (disch := omega) only [m_of, bd_e, d6, h6, d5, h5, nI_add, inb_t, ix_n, gd_tt, sr_row, hfz, hP2, m_adds, upd_e, qn, qe, ↓reduceIte, n_neg, m_sets, eq_f, not_false_eq_true]
      obtain rfl := sr_inj (e2.symm.trans e4)
      have j6 := hI.2.2.1
      refine ⟨x', _, pI (pI (pI Y (k + 1) 1 st (gI Y (k + 1) 1 st + nI 1)) (k + 1) 0 4 (nI (en - z))) (k + 1) 0 10 (gI Y (k + 1) 0 10 + nI z), e1, fun F => ?_, e3, ?_, fun o j i hh => ?_, ?_⟩
      · simp only [sX8_slot_b71]
        simp (disch := omega) only [zl, zm, nI_add, pk_mul, inb_t, ix_n, gd_tt, bd_e, nm_v, ite_not, ↓reduceIte, le_t, le_f, lt_t, lt_f, eq_t, eq_f, mone_f, mone_f2, hne, hst, hcz, hen, hP1, gI_pI, gL_pL, gI_pL, gL_pI, qn, qe, not_true_eq_false, not_false_eq_true, true_and, and_true, false_and, and_false, and_self, Nat.add_right_cancel_iff, zs]
      · clear e2 e4
        refine y.one hn hk (fun b hb => ?_) ?_ (fun b o => ?_) (fun i hi hi2 => ?_) ?_
        · funext j i
          simp (disch := omega) only [gI_pI, gL_pL, gI_pL, gL_pI, qn, qe, not_true_eq_false, not_false_eq_true, true_and, and_true, false_and, and_false, and_self, Nat.add_right_cancel_iff, ↓reduceIte]
        · refine ⟨?_, ?_, ?_, ?_, ?_, ?_, ?_, fun k' hk' => ?_, fun o ho => ?_⟩
          all_goals try simp (disch := omega) only [upd_e, gI_pI, gL_pL, gI_pL, gL_pI, qn, qe, not_true_eq_false, not_false_eq_true, true_and, and_true, false_and, and_false, and_self, Nat.add_right_cancel_iff, ↓reduceIte]
          all_goals first | assumption | rfl | exact z7 _ (by assumption) | exact z8 _ (by assumption) | skip
        · simp (disch := omega) only [gI_pI, gL_pL, gI_pL, gL_pI, qn, qe, not_true_eq_false, not_false_eq_true, true_and, and_true, false_and, and_false, and_self, Nat.add_right_cancel_iff, ↓reduceIte]
        · simp (disch := omega) only [upd_e, qn, qe, ↓reduceIte]
        · refine ⟨?_, ?_, ?_, ?_, ?_, ?_, ?_, ?_, ?_, ?_, ?_, ?_, fun k' hk' => ?_, fun o ho => ?_, fun o ho => ?_, ?_⟩
          rotate_right 1
          · intro h3 o ho hob
            simp (disch := omega) only [upd_e, qn, qe, ↓reduceIte] at h3
            simp (disch := omega) only [upd_e, gI_pI, gL_pL, gI_pL, gL_pI, qn, qe, not_true_eq_false, not_false_eq_true, true_and, and_true, false_and, and_false, and_self, Nat.add_right_cancel_iff, ↓reduceIte]
            exact y15 h3 o ho hob
          case refine_13 =>
            by_cases hkk : k' = st
            · subst hkk
              simp (disch := omega) only [upd_e, gI_pI, gL_pL, gI_pL, gL_pI, qn, qe, not_true_eq_false, not_false_eq_true, true_and, and_true, false_and, and_false, and_self, Nat.add_right_cancel_iff, ↓reduceIte]
              rw [y12 _ hk']
            · simp (disch := omega) only [upd_e, gI_pI, gL_pL, gI_pL, gL_pI, qn, qe, not_true_eq_false, not_false_eq_true, true_and, and_true, false_and, and_false, and_self, Nat.add_right_cancel_iff, ↓reduceIte]
              exact y12 _ hk'
          all_goals try simp (disch := omega) only [upd_e, gI_pI, gL_pL, gI_pL, gL_pI, qn, qe, not_true_eq_false, not_false_eq_true, true_and, and_true, false_and, and_false, and_self, Nat.add_right_cancel_iff, ↓reduceIte]
          all_goals first | assumption | rfl | exact y13 _ (by assumption) | exact y14 _ (by assumption) | rw [y10]
      · repeat rw [gI_pI, if_neg (by omega)]
      · refine ib_pay hI (by omega) hPz (fun i hi => ?_) ?_ ?_ (fun hh => ?_) (fun o => ?_)
        · by_cases hi2 : i = st
          · subst hi2; simp (disch := omega) only [gI_pI, gL_pL, gI_pL, gL_pI, qn, qe, not_true_eq_false, not_false_eq_true, true_and, and_true, false_and, and_false, and_self, Nat.add_right_cancel_iff, ↓reduceIte]
          · simp (disch := omega) only [gI_pI, gL_pL, gI_pL, gL_pI, qn, qe, not_true_eq_false, not_false_eq_true, true_and, and_true, false_and, and_false, and_self, Nat.add_right_cancel_iff, ↓reduceIte]
        · simp (disch := omega) only [gI_pI, gL_pL, gI_pL, gL_pI, qn, qe, not_true_eq_false, not_false_eq_true, true_and, and_true, false_and, and_false, and_self, Nat.add_right_cancel_iff, ↓reduceIte]
        · simp (disch := omega) only [gI_pI, gL_pL, gI_pL, gL_pI, qn, qe, not_true_eq_false, not_false_eq_true, true_and, and_true, false_and, and_false, and_self, Nat.add_right_cancel_iff, ↓reduceIte, hst, eq_f]
        · simp (disch := omega) only [gI_pI, gL_pL, gI_pL, gL_pI, qn, qe, not_true_eq_false, not_false_eq_true, true_and, and_true, false_and, and_false, and_self, Nat.add_right_cancel_iff, ↓reduceIte] at hh ⊢
          exact j6 hh
        · simp (disch := omega) only [gI_pI, gL_pL, gI_pL, gL_pI, qn, qe, not_true_eq_false, not_false_eq_true, true_and, and_true, false_and, and_false, and_self, Nat.add_right_cancel_iff, ↓reduceIte]
end
