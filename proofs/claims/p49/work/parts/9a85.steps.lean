/-! stage B: a slot's first and second step: states, costs -/
def zS (x : St) (o a : Nat) : St := (fun o' j i => if o' = o ∧ j = 3 ∧ i < a then nI 0 else x.1 o' j i, x.2)
theorem zS_g (x : St) (o a o' j i : Nat) : gI (zS x o a) o' j i = if o' = o ∧ j = 3 ∧ i < a then nI 0 else gI x o' j i := rfl
theorem zS_0 (x : St) (o : Nat) : zS x o 0 = x := Prod.ext (funext fun o' => funext fun j => funext fun i => if_neg (by omega)) rfl
theorem zS_s (x : St) (o a : Nat) : pI (zS x o a) o 3 a (nI 0) = zS x o (a + 1) := by
  refine Prod.ext (funext fun o' => funext fun j => funext fun i => ?_) rfl
  show (if o' = o ∧ j = 3 ∧ i = a then nI 0 else if o' = o ∧ j = 3 ∧ i < a then nI 0 else x.1 o' j i) = if o' = o ∧ j = 3 ∧ i < a + 1 then nI 0 else x.1 o' j i
  by_cases h : o' = o ∧ j = 3 ∧ i = a
  · rw [if_pos h, if_pos (by omega)]
  · rw [if_neg h]
    by_cases h2 : o' = o ∧ j = 3 ∧ i < a
    · rw [if_pos h2, if_pos (by omega)]
    · rw [if_neg h2, if_neg (by omega)]
theorem c_zS (x : St) (o : Nat) : sX0_startSending_b15 FU o x (nI 0) = some (zS x o 8) := by
  rw [← zS_0 x o]
  refine (fuel_up 8 (fun F k => sX0_startSending_b15 F o (zS x o k) (nI k)) (some (zS x o 8)) (fun F => ?_) (fun F k hk => ?_) 8 0 FU (by omega) (FU_lt (by omega))).trans (by rw [zS_0])
  · simp only [sX0_startSending_b15]
    simp (disch := omega) only [zl, zm, nI_add, pk_mul, inb_t, ix_n, gd_tt, bd_e, nm_v, ite_not, ↓reduceIte, le_t, le_f, lt_t, lt_f, eq_t, eq_f, mone_f, mone_f2]
  · simp only [sX0_startSending_b15]
    simp (disch := omega) only [zl, zm, nI_add, pk_mul, inb_t, ix_n, gd_tt, bd_e, nm_v, ite_not, ↓reduceIte, le_t, le_f, lt_t, lt_f, eq_t, eq_f, mone_f, mone_f2]
    rw [zS_s]
def zF (f : Nat → Int32) (b a : Nat) : Nat → Int32 := fun i => if 21 + 43 * b + 27 ≤ i ∧ i < 21 + 43 * b + (27 + a) then nI 0 else f i
theorem zF_0 (f : Nat → Int32) (b : Nat) : zF f b 0 = f := funext fun i => if_neg (by omega)
theorem zF_s (f : Nat → Int32) (b a : Nat) : upd (zF f b a) (21 + 43 * b + (27 + a)) (nI 0) = zF f b (a + 1) := funext fun i => by
  show (if i = 21 + 43 * b + (27 + a) then nI 0 else if 21 + 43 * b + 27 ≤ i ∧ i < 21 + 43 * b + (27 + a) then nI 0 else f i) = if 21 + 43 * b + 27 ≤ i ∧ i < 21 + 43 * b + (27 + (a + 1)) then nI 0 else f i
  by_cases h : i = 21 + 43 * b + (27 + a)
  · rw [if_pos h, if_pos (by omega)]
  · rw [if_neg h]
    by_cases h2 : 21 + 43 * b + 27 ≤ i ∧ i < 21 + 43 * b + (27 + a)
    · rw [if_pos h2, if_pos (by omega)]
    · rw [if_neg h2, if_neg (by omega)]
theorem m_zF {m : St} {f : Nat → Int32} {b : Nat} (hb : b < 8) : sX7_begins_b30 FU (sr m f) (nI b) (nI 0) = some (sr m (zF f b 8)) := by
  rw [← zF_0 f b]
  refine (fuel_up 8 (fun F k => sX7_begins_b30 F (sr m (zF f b k)) (nI b) (nI k)) (some (sr m (zF f b 8))) (fun F => ?_) (fun F k hk => ?_) 8 0 FU (by omega) (FU_lt (by omega))).trans (by rw [zF_0])
  · simp only [sX7_begins_b30]
    simp (disch := omega) only [zl, zm, nI_add, pk_mul, inb_t, ix_n, gd_tt, bd_e, nm_v, ite_not, ↓reduceIte, le_t, le_f, lt_t, lt_f, eq_t, eq_f, mone_f, mone_f2]
  · simp only [sX7_begins_b30]
    simp (disch := omega) only [zl, zm, nI_add, pk_mul, inb_t, ix_n, gd_tt, bd_e, nm_v, ite_not, ↓reduceIte, le_t, le_f, lt_t, lt_f, eq_t, eq_f, mone_f, mone_f2, m_sets, zF_s]
section
variable {n t cm wl wm e k b : Nat} {q : Bool} {x x' m : St} {f f' : Nat → Int32}
/-- it begins to send -/
theorem c_send (h : WR n t cm wl wm q e x f) (hk : k < n) : ∃ s, s < 2 ^ 31 ∧ gI x (k + 1) 0 4 = nI s ∧ sX0_startSending (k + 1) x = some (zS (pI (pI x (k + 1) 0 6 (nI 3)) (k + 1) 0 7 (nI s)) (k + 1) 8) := by
  obtain ⟨p, g, l, s, en, st, lf, fl, a, sk, h1, h2, h3, h4, h5, h6, h7, h8, h9, h10, h11, h12⟩ := h.bk hk
  refine ⟨s, by omega, h4, ?_⟩
  unfold sX0_startSending
  simp (disch := omega) only [nm_v, zl, gI_pI, gL_pL, gI_pL, gL_pI, qe, qn, not_true_eq_false, not_false_eq_true, true_and, and_true, false_and, and_false, and_self, Nat.add_right_cancel_iff, ↓reduceIte, h4, c_zS]
theorem m_send (hk : k < 8) {s : Nat} (h4 : f (21 + 43 * k + 3) = nI s) : sX7_begins (sr m f) (nI k) = some (sr m (zF (upd (upd (upd f (21 + 43 * k + 5) (nI 3)) (21 + 43 * k + 6) (nI s)) (21 + 43 * k + 9) (nI (255 &&& (2 ^ k ^^^ 255)))) k 8)) := by
  unfold sX7_begins sX7_enters
  simp only [zl, zm]
  simp (disch := omega) only [m_sets, m_of, bd_e, h4, sh1]
  rw [n_not (by omega), m_zF (by omega)]
theorem r_send (h : WR n t cm wl wm q e x f) (hk : k < n) (he : e = 99 ∨ e = k) {s : Nat} (hs4 : gI x (k + 1) 0 4 = nI s) (hs5 : s < 2 ^ 31) : WR n t cm wl wm false 99 (zS (pI (pI x (k + 1) 0 6 (nI 3)) (k + 1) 0 7 (nI s)) (k + 1) 8) (zF (upd (upd (upd f (21 + 43 * k + 5) (nI 3)) (21 + 43 * k + 6) (nI s)) (21 + 43 * k + 9) (nI (255 &&& (2 ^ k ^^^ 255)))) k 8) := by
  have hn := h.n8
  obtain ⟨⟨⟨d0, d00⟩, d1, d2, d3, d4, d5, d6, d7, d8, d9, d10, d11, d12, d13, d14, d15⟩, ⟨p, g, l, s', en, st, lf, fl, a, sk, h1, h2, h3, h4, h5, h6, h7, h8, h9, h10, h11, h12⟩, hs⟩ := h.2.1 k hk
  obtain rfl : s' = s := by
    have := h4.symm.trans hs4
    exact (nI_eq (by omega) hs5).mp this
  have h255 : 255 &&& (2 ^ k ^^^ 255) < 256 := Nat.lt_of_le_of_lt Nat.and_le_left (by omega)
  have hb1 : (255 &&& (2 ^ k ^^^ 255)).testBit k = false := by
    rw [Nat.testBit_and, Nat.testBit_xor, b255, Nat.testBit_two_pow, decide_eq_true (by omega : k < 8)]; simp
  have hb2 : ∀ o, o < n → ¬ o = k → (255 &&& (2 ^ k ^^^ 255)).testBit o = true := by
    intro o ho hob
    rw [Nat.testBit_and, Nat.testBit_xor, b255, Nat.testBit_two_pow, decide_eq_true (by omega : o < 8), decide_eq_false (by omega : ¬ k = o)]
    rfl
  generalize 255 &&& (2 ^ k ^^^ 255) = E at h255 hb1 hb2 ⊢
  refine h.one hk he (fun z => by cases z) (fun b hb => ?_) ?_ (fun i hi hi2 => ?_) ?_ ?_
  · refine funext fun j => funext fun i => ?_
    simp (disch := omega) only [zS_g, gI_pI, gL_pL, gI_pL, gL_pI, qn, qe, not_true_eq_false, not_false_eq_true, true_and, and_true, false_and, and_false, and_self, Nat.add_right_cancel_iff, ↓reduceIte]
  · have h0 : gI (zS (pI (pI x (k + 1) 0 6 (nI 3)) (k + 1) 0 7 (nI s')) (k + 1) 8) 0 = gI x 0 := by
      refine funext fun j => funext fun i => ?_
      rw [zS_g, if_neg (by omega), gI_pI, if_neg (by omega), gI_pI, if_neg (by omega)]
    rw [h0]
    exact h.1.cg fun i hi => by
      show (if _ then _ else _) = _
      rw [if_neg (by omega)]
      simp (disch := omega) only [upd_e, qn, ↓reduceIte]
  · show (if _ then _ else _) = _
    rw [if_neg (by omega)]
    simp (disch := omega) only [upd_e, qn, ↓reduceIte]
  · simp (disch := omega) only [zS_g, gI_pI, gL_pL, gI_pL, gL_pI, qn, qe, not_true_eq_false, not_false_eq_true, true_and, and_true, false_and, and_false, and_self, Nat.add_right_cancel_iff, ↓reduceIte]
  · have zF_e : ∀ (g : Nat → Int32) i, ¬ (21 + 43 * k + 27 ≤ i ∧ i < 21 + 43 * k + (27 + 8)) → zF g k 8 i = g i := fun g i hi => if_neg hi
    have zF_i : ∀ (g : Nat → Int32) i, (21 + 43 * k + 27 ≤ i ∧ i < 21 + 43 * k + (27 + 8)) → zF g k 8 i = nI 0 := fun g i hi => if_pos hi
    refine ⟨⟨⟨?_, ?_⟩, ?_, ?_, ?_, ?_, ?_, ?_, ?_, ?_, ?_, ?_, ?_, ?_, fun k hk => ?_, fun o ho => ?_, fun o ho hob => ?_⟩, ⟨p, g, l, s', en, 3, s', fl, a, sk, ?_, ?_, ?_, ?_, ?_, ?_, ?_, ?_, ?_, ?_, ?_, by omega⟩, fun _ => ⟨⟨E, ?_, h255, hb1, fun o ho hob => ⟨?_, ?_⟩⟩, fun z => by cases z⟩⟩
    all_goals try simp (disch := omega) only [zF_e, zF_i, zS_g, upd_e, gI_pI, gL_pL, gI_pL, gL_pI, qn, qe, not_true_eq_false, not_false_eq_true, true_and, and_true, false_and, and_false, and_self, Nat.add_right_cancel_iff, ↓reduceIte]
    all_goals first | assumption | exact d13 _ (by assumption) | exact d14 _ (by assumption) | exact d15 _ (by assumption) (by assumption) | skip
    · rw [if_pos (by omega : o < 8)]
    · rw [if_pos (by omega : o < 8)]
      exact ⟨fun _ => rfl, fun _ => hb2 o ho hob⟩
theorem l_send (h : WR n t cm wl wm q e x f) (hk : k < n) (he : e = 99 ∨ e = k) : ∃ x' f', sX0_startSending (k + 1) x = some x' ∧ sX7_begins (sr m f) (nI k) = some (sr m f') ∧ WR n t cm wl wm false 99 x' f' := by
  obtain ⟨s, h0, h1, h2⟩ := c_send h hk
  have hn := h.n8
  obtain ⟨⟨d0, d00⟩, d1, d2, d3, d4, _⟩ := h.bd hk
  exact ⟨_, _, h2, m_send (by omega) (d4.trans h1), r_send h hk he h1 h0⟩
theorem n_neg {a b : Nat} (h : b ≤ a) : nI a + -nI b = nI (a - b) := by
  rw [← Int32.sub_eq_add_neg]; exact zs h
/-- a slot's costs -/
theorem l_pay (h : WR n t cm wl wm q 99 x f) (hk : k < n) {st : Nat} (hst : gI x (k + 1) 0 6 = nI st) (h3 : st ≤ 3) : ∃ x' f', (∀ F, sX5_payForStates_b2 (F + 1) x (nI k) = sX5_payForStates_b2 F x' (nI (k + 1))) ∧ sX7_pays (sr m f) (nI k) = some (sr m f') ∧ WR n t cm wl wm q 99 x' f' := by
  have hn := h.n8
  have hxn := h.xn
  obtain ⟨⟨⟨d0, d00⟩, d1, d2, d3, d4, d5, d6, d7, d8, d9, d10, d11, d12, d13, d14, d15⟩, ⟨p, g, l, s, en, st', lf, fl, a, sk, h1, h2, h3, h4, h5, h6, h7, h8, h9, h10, h11, h12⟩, hs⟩ := h.2.1 k hk
  have hst2 : st' = st := (nI_eq (by omega) (by omega)).mp (h6.symm.trans hst)
  subst hst2
  obtain ⟨c, w, tr, sn, w1, w2, w3, w4, w5, w6, w7, w8, w9, w10, w11, w12, w13, w14, w15, w16, w17, w18, w19, w20, w21, w22, w23, w24, w25⟩ := h.1
  obtain ⟨z, hz, hz2⟩ := w15 st' (by omega)
  have hfz := (w25 st' (by omega)).trans hz2
  obtain ⟨P, hP⟩ : ∃ P, min en z = P := ⟨_, rfl⟩
  have hP1 : (if nI en < nI z then nI en else nI z) = nI P := by
    by_cases hh : en < z
    · rw [if_pos (nI_lt hh (by omega))]; congr 1; omega
    · rw [if_neg (nI_nlt (by omega) (by omega))]; congr 1; omega
  have hP2 : sX7_lesser (nI en) (nI z) = some (nI P) := by
    unfold sX7_lesser
    by_cases hh : z ≤ en
    · rw [if_pos (nI_le hh (by omega))]; congr 2; omega
    · rw [if_neg (nI_ge (by omega) (by omega))]; congr 2; omega
  by_cases h0 : en - P = 0
  · refine ⟨pI (pI (pI (pI (pI x (k + 1) 1 st' (gI x (k + 1) 1 st' + nI 1)) (k + 1) 0 5 (nI (en - P))) (k + 1) 0 13 (gI x (k + 1) 0 13 + nI P)) (k + 1) 0 6 (nI 4)) (k + 1) 0 7 (nI 0), upd (upd (upd (upd (upd f (21 + 43 * k + 4) (nI (en - P))) (21 + 43 * k + 13) (f (21 + 43 * k + 13) + nI P)) (21 + 43 * k + (14 + st')) (f (21 + 43 * k + (14 + st')) + nI 1)) (21 + 43 * k + 5) (nI 4)) (21 + 43 * k + 6) (nI 0), fun F => ?_, ?_, ?_⟩
    · simp only [sX5_payForStates_b2, sX0_payForSlot]
      rw [hxn]
      simp (disch := omega) only [zl, zm, nI_add, pk_mul, inb_t, ix_n, gd_tt, bd_e, nm_v, ite_not, ↓reduceIte, le_t, le_f, lt_t, lt_f, eq_t, eq_f, mone_f, mone_f2, gI_pI, gL_pL, gI_pL, gL_pI, qe, qn, not_true_eq_false, not_false_eq_true, true_and, and_true, false_and, and_false, and_self, Nat.add_right_cancel_iff, h6, hz2, h5, hP1, zs]
    · unfold sX7_pays sX7_enters
      simp only [zl, zm]
      simp (disch := omega) only [m_of, bd_e, d6, h6, d5, h5, nI_add, inb_t, ix_n, gd_tt, sr_row, hfz, hP2, m_adds, upd_e, qn, qe, ↓reduceIte, n_neg, m_sets, eq_t, not_true_eq_false, h0]
    · refine h.one hk (Or.inl rfl) (fun z => z) (fun b hb => ?_) ?_ (fun i hi hi2 => ?_) ?_ ?_
      · rw [bv_ne hb, bv_ne hb, bv_ne hb, bv_ne hb, bv_ne hb]
      · rw [hd_k, hd_k, hd_k, hd_k, hd_k]; exact h.1.cg fun i hi => by simp (disch := omega) only [upd_e, qn, ↓reduceIte]
      · simp (disch := omega) only [upd_e, qn, ↓reduceIte]
      · simp (disch := omega) only [gI_pI, gL_pL, gI_pL, gL_pI, qn, qe, not_true_eq_false, not_false_eq_true, true_and, and_true, false_and, and_false, and_self, Nat.add_right_cancel_iff, ↓reduceIte]
      · refine ⟨⟨⟨?_, ?_⟩, ?_, ?_, ?_, ?_, ?_, ?_, ?_, ?_, ?_, ?_, ?_, ?_, fun k' hk' => ?sl, fun o ho => ?_, fun o ho hob => ?_⟩, ⟨p, g, l, s, en - P, 4, 0, fl, a, sk, ?_, ?_, ?_, ?_, ?_, ?_, ?_, ?_, ?_, ?_, ?_, by omega⟩, ?_⟩
        case sl =>
          by_cases hkk : k' = st'
          · subst hkk
            simp (disch := omega) only [upd_e, gI_pI, gL_pL, gI_pL, gL_pI, qn, qe, not_true_eq_false, not_false_eq_true, true_and, and_true, false_and, and_false, and_self, Nat.add_right_cancel_iff, ↓reduceIte]
            rw [d13 _ hk']
          · simp (disch := omega) only [upd_e, gI_pI, gL_pL, gI_pL, gL_pI, qn, qe, not_true_eq_false, not_false_eq_true, true_and, and_true, false_and, and_false, and_self, Nat.add_right_cancel_iff, ↓reduceIte]
            exact d13 _ hk'
        all_goals try simp (disch := omega) only [upd_e, gI_pI, gL_pL, gI_pL, gL_pI, qn, qe, not_true_eq_false, not_false_eq_true, true_and, and_true, false_and, and_false, and_self, Nat.add_right_cancel_iff, ↓reduceIte]
        all_goals first | assumption | rfl | exact d14 _ (by assumption) | exact d15 _ (by assumption) (by assumption) | (rw [d12]; done) | skip
        · exact fun z => absurd z (by decide)
  · refine ⟨pI (pI (pI x (k + 1) 1 st' (gI x (k + 1) 1 st' + nI 1)) (k + 1) 0 5 (nI (en - P))) (k + 1) 0 13 (gI x (k + 1) 0 13 + nI P), upd (upd (upd f (21 + 43 * k + 4) (nI (en - P))) (21 + 43 * k + 13) (f (21 + 43 * k + 13) + nI P)) (21 + 43 * k + (14 + st')) (f (21 + 43 * k + (14 + st')) + nI 1), fun F => ?_, ?_, ?_⟩
    · obtain rfl : P = z := by omega
      simp only [sX5_payForStates_b2, sX0_payForSlot]
      rw [hxn]
      simp (disch := omega) only [zl, zm, nI_add, pk_mul, inb_t, ix_n, gd_tt, bd_e, nm_v, ite_not, ↓reduceIte, le_t, le_f, lt_t, lt_f, eq_t, eq_f, mone_f, mone_f2, gI_pI, gL_pL, gI_pL, gL_pI, qe, qn, not_true_eq_false, not_false_eq_true, true_and, and_true, false_and, and_false, and_self, Nat.add_right_cancel_iff, h6, hz2, h5, hP1, zs]
    · unfold sX7_pays sX7_enters
      simp only [zl, zm]
      simp (disch := omega) only [m_of, bd_e, d6, h6, d5, h5, nI_add, inb_t, ix_n, gd_tt, sr_row, hfz, hP2, m_adds, upd_e, qn, qe, ↓reduceIte, n_neg, m_sets, eq_f, not_false_eq_true]
    · refine h.one hk (Or.inl rfl) (fun z => z) (fun b hb => ?_) ?_ (fun i hi hi2 => ?_) ?_ ?_
      · rw [bv_ne hb, bv_ne hb, bv_ne hb]
      · rw [hd_k, hd_k, hd_k]; exact h.1.cg fun i hi => by simp (disch := omega) only [upd_e, qn, ↓reduceIte]
      · simp (disch := omega) only [upd_e, qn, ↓reduceIte]
      · simp (disch := omega) only [gI_pI, gL_pL, gI_pL, gL_pI, qn, qe, not_true_eq_false, not_false_eq_true, true_and, and_true, false_and, and_false, and_self, Nat.add_right_cancel_iff, ↓reduceIte]
      · refine ⟨⟨⟨?_, ?_⟩, ?_, ?_, ?_, ?_, ?_, ?_, ?_, ?_, ?_, ?_, ?_, ?_, fun k' hk' => ?sl, fun o ho => ?_, fun o ho hob => ?_⟩, ⟨p, g, l, s, en - P, st', lf, fl, a, sk, ?_, ?_, ?_, ?_, ?_, ?_, ?_, ?_, ?_, ?_, ?_, by omega⟩, ?_⟩
        case sl =>
          by_cases hkk : k' = st'
          · subst hkk
            simp (disch := omega) only [upd_e, gI_pI, gL_pL, gI_pL, gL_pI, qn, qe, not_true_eq_false, not_false_eq_true, true_and, and_true, false_and, and_false, and_self, Nat.add_right_cancel_iff, ↓reduceIte]
            rw [d13 _ hk']
          · simp (disch := omega) only [upd_e, gI_pI, gL_pL, gI_pL, gL_pI, qn, qe, not_true_eq_false, not_false_eq_true, true_and, and_true, false_and, and_false, and_self, Nat.add_right_cancel_iff, ↓reduceIte]
            exact d13 _ hk'
        all_goals try simp (disch := omega) only [upd_e, gI_pI, gL_pL, gI_pL, gL_pI, qn, qe, not_true_eq_false, not_false_eq_true, true_and, and_true, false_and, and_false, and_self, Nat.add_right_cancel_iff, ↓reduceIte]
        all_goals first | assumption | rfl | exact d14 _ (by assumption) | exact d15 _ (by assumption) (by assumption) | (rw [d12]; done) | skip
        · intro h3
          obtain ⟨⟨a', s1, s2, s3, s4⟩, s5⟩ := hs h3
          refine ⟨⟨a', ?_, s2, s3, fun o ho hob => ?_⟩, fun hq => ?_⟩
          · simp (disch := omega) only [upd_e, gI_pI, gL_pL, gI_pL, gL_pI, qn, qe, not_true_eq_false, not_false_eq_true, true_and, and_true, false_and, and_false, and_self, Nat.add_right_cancel_iff, ↓reduceIte]; exact s1
          · simp (disch := omega) only [upd_e, gI_pI, gL_pL, gI_pL, gL_pI, qn, qe, not_true_eq_false, not_false_eq_true, true_and, and_true, false_and, and_false, and_self, Nat.add_right_cancel_iff, ↓reduceIte]; exact s4 o ho hob
          · first | exact s5 hq | (simp (disch := omega) only [upd_e, gI_pI, gL_pL, gI_pL, gL_pI, qn, qe, not_true_eq_false, not_false_eq_true, true_and, and_true, false_and, and_false, and_self, Nat.add_right_cancel_iff, ↓reduceIte]; exact s5 hq)
/-- the timer is due: it listens or skips -/
theorem l_wake (h : WR n t cm wl wm false 99 x f) (hk : k < n) {p g : Nat} (hp : gI x (k + 1) 0 1 = nI p) (hg : gI x (k + 1) 0 2 = nI g) (hp2 : 2 ≤ p) (hp3 : p ≤ 99) (hg2 : g < p) : ∃ x' f', (bd (sX0_isDueAt (k + 1) x (nI t)) fun q5 => if q5 = 0 then some x else sX5_wakeOrSkip (k + 1) x) = some x' ∧ sX7_wakes (sr m f) (nI k) = some (sr m f') ∧ WR n t cm wl wm false 99 x' f' := by
  have hn := h.n8
  have hxn := h.xn
  have htl := h.tl
  obtain ⟨⟨d0, d00⟩, d1, d2, d3, d4, d5, d6, d7, d8, d9, d10, d11, d12, d13, d14, d15⟩ := h.bd hk
  obtain ⟨_, _, _, _, _, _, _, _, _, sk, _, _, _, _, _, _, _, _, h9, _, _, _⟩ := h.bk hk
  rw [c_due hp hg (by omega) (by omega) (by omega) (by omega)]
  have hmd := m_due (m := m) (b := k) (by omega) (d1.trans hp) (d2.trans hg) (by omega) (by omega) (by omega) (t := t) (by omega)
  have hkn := m_knowsAll (m := m) hn h.fn (by omega) (h.fb hk).2 (h.fb hk).1
  unfold sX7_wakes
  simp (disch := omega) only [zl, inb_t, ix_n, gd_tt, sr_row, h.ft, hmd, bd_e]
  cases hd : dueB t g p with
  | false =>
    refine ⟨x, f, ?_, ?_, h⟩
    · simp (disch := omega) only [Bool.toNat_false, ↓reduceIte]
    · simp (disch := omega) only [Bool.toNat_false, ↓reduceIte, not_true_eq_false]
  | true =>
    obtain ⟨xl, fl, e1, e2, e3⟩ := l_listen (m := m) h hk (Or.inl rfl)
    obtain ⟨e4, e5⟩ := l_skip (m := m) h hk
    have hnk := h.nb hk
    have hb0 : sX7_wakes_b50 (sr m f) (nI k) (nI 0) = some (sr m fl) := by
      unfold sX7_wakes_b50
      simp (disch := omega) only [zl, ↓reduceIte, e2, bd_e]
    have hb1 : sX7_wakes_b50 (sr m f) (nI k) (nI 1) = some (sr m (upd f (21 + 43 * k + 8) (nI 1))) := by
      unfold sX7_wakes_b50
      simp (disch := omega) only [zl, eq_f, ↓reduceIte, e4, bd_e]
    have hw37 : sX5_wakeOrSkip_b37 (k + 1) x = some xl := by
      unfold sX5_wakeOrSkip_b37
      rw [e1]; rfl
    have hand : NB x k &&& (mkS (knP x (k + 1)) n ^^^ 255) < 2 ^ 31 := Nat.lt_of_le_of_lt Nat.and_le_left (by omega)
    have h0 : (nI (NB x k) &&& (nI (mkS (knP x (k + 1)) n) ^^^ mone)) = nI (NB x k &&& (mkS (knP x (k + 1)) n ^^^ 255)) := n_not hnk.2
    unfold sX5_wakeOrSkip
    simp (disch := omega) only [Bool.toNat_true, zl, zm, eq_f, ↓reduceIte, not_false_eq_true, nI_add, inb_t, ix_n, gd_tt, sr_row, (h.fb hk).1, hnk.1, m_of, d9, h9, bd_e, hkn, c_known hn hxn, h0, h.kn hk, hw37, hb0, hb1]
    by_cases hz1 : sk = true
    · subst hz1
      refine ⟨xl, fl, ?_, ?_, e3⟩
      · simp (disch := omega) only [Bool.toNat_true, eq_f, not_false_eq_true, ↓reduceIte]
      · simp (disch := omega) only [Bool.toNat_true, eq_f, not_false_eq_true, ↓reduceIte, ite_self]
    · have hz1 : sk = false := by cases sk <;> simp_all
      subst hz1
      by_cases hz2 : NB x k = 0
      · refine ⟨xl, fl, ?_, ?_, e3⟩
        · simp (disch := omega) only [Bool.toNat_false, eq_t, not_true_eq_false, ↓reduceIte, hz2]
        · simp (disch := omega) only [Bool.toNat_false, eq_t, not_true_eq_false, ↓reduceIte, hz2]
      · by_cases hz3 : NB x k &&& (mkS (knP x (k + 1)) n ^^^ 255) = 0
        · refine ⟨_, _, ?_, ?_, e5⟩
          · simp (disch := omega) only [Bool.toNat_false, eq_t, eq_f, not_true_eq_false, not_false_eq_true, ↓reduceIte, nm_v]
          · simp (disch := omega) only [Bool.toNat_false, eq_t, eq_f, not_true_eq_false, not_false_eq_true, ↓reduceIte, decide_eq_true hz3, Bool.toNat_true]
        · refine ⟨xl, fl, ?_, ?_, e3⟩
          · simp (disch := omega) only [Bool.toNat_false, eq_t, eq_f, not_true_eq_false, not_false_eq_true, ↓reduceIte]
          · simp (disch := omega) only [Bool.toNat_false, eq_t, eq_f, not_true_eq_false, not_false_eq_true, ↓reduceIte, decide_eq_false hz3]
end
