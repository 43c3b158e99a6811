/-! stage B: a text is read -/
section
variable {B : Nat → Nat} {len c i n : Nat} {t m x m' : St}
theorem YG.cg2 (h : YG B len c i t m) (e0 : ∀ k, 3 ≤ k → k ≤ 9 → gI m' 0 0 k = gI m 0 0 k) (e1 : ∀ k, gI m' 0 1 k = gI m 0 1 k) (e2 : gL m' 0 0 12 = gL m 0 0 12) : YG B len c i t m' := by
  obtain ⟨h0, h1, h2, h3, ⟨a1, a2⟩, ⟨b1, b2, b3, b4, b5, b6⟩, c1, c2, c3, c4⟩ := h
  exact ⟨h0, h1, h2, h3, ⟨(e0 3 (by omega) (by omega)).trans a1, fun k hk => ⟨(a2 k hk).1, (e1 k).trans (a2 k hk).2⟩⟩, ⟨(e0 4 (by omega) (by omega)).trans b1, (e0 5 (by omega) (by omega)).trans b2, (e0 6 (by omega) (by omega)).trans b3, fun q => e2.trans (b4 q), fun q => (e0 7 (by omega) (by omega)).trans (b5 q), fun q => (e0 7 (by omega) (by omega)).trans (b6 q)⟩, c1, c2, (e0 8 (by omega) (by omega)).trans c3, (e0 9 (by omega) (by omega)).trans c4⟩
end
section
variable {len n : Nat} {c m x : St} {ps : Nat → St}
theorem y_begin (hb : BF len c m) (t : St) : ∃ B cn t' m', sX4_begin c t (gI c 0 0 1) = some t' ∧ sX7_beginsText m = some m' ∧ YG B len cn 0 t' m' ∧ gI m' 0 0 2 = nI 0 ∧ (∀ j k, ¬ (j = 0 ∧ 2 ≤ k ∧ k ≤ 9) → gI m' 0 j k = gI m 0 j k) ∧ ∀ j k, ¬ (j = 0 ∧ k = 12) → gL m' 0 j k = gL m 0 j k := by
  obtain ⟨h0, h1, h2, h3⟩ := hb
  obtain ⟨B, hB⟩ : ∃ B : Nat → Nat, ∀ k, k < len → B k < 256 ∧ gI m 0 1 k = nI (B k) ∧ gI c 0 1 k = sgn (B k) := ⟨fun k => ix (gI m 0 1 k), fun k hk => by
    obtain ⟨v, v1, v2, v3⟩ := h3 k hk
    have e : ix (gI m 0 1 k) = v := by rw [v2]; exact ix_n (by omega)
    exact ⟨by show ix (gI m 0 1 k) < 256; rw [e]; exact v1, by show gI m 0 1 k = nI (ix (gI m 0 1 k)); rw [e]; exact v2, by show gI c 0 1 k = sgn (ix (gI m 0 1 k)); rw [e]; exact v3⟩⟩
  obtain ⟨t', cn, a1, a2, a3, a4, a5⟩ := lx_begin (y := c) (t := t) (B := B) (len := len) (fun k hk => ⟨(hB k hk).1, (hB k hk).2.2⟩) h0
  have hZ : ∀ j k, ¬ (j = 0 ∧ (k = 2 ∨ k = 3 ∨ k = 4 ∨ k = 8 ∨ k = 9)) → gI (pI (pI (pI (pI (pI m 0 0 3 (nI len)) 0 0 2 (nI 0)) 0 0 4 (nI 0)) 0 0 8 (nI 0)) 0 0 9 mone) 0 j k = gI m 0 j k := fun j k hjk => by
    rw [gI_pI, if_neg (by omega), gI_pI, if_neg (by omega), gI_pI, if_neg (by omega), gI_pI, if_neg (by omega), gI_pI, if_neg (by omega)]
  have hZ2 : gI (pI (pI (pI (pI (pI m 0 0 3 (nI len)) 0 0 2 (nI 0)) 0 0 4 (nI 0)) 0 0 8 (nI 0)) 0 0 9 mone) 0 0 2 = nI 0 := by simp (disch := omega) only [gI_pI, gL_pL, gI_pL, gL_pI, qe, qn, not_true_eq_false, not_false_eq_true, true_and, and_true, false_and, and_false, and_self, Nat.add_right_cancel_iff, ↓reduceIte]
  have hZ3 : gI (pI (pI (pI (pI (pI m 0 0 3 (nI len)) 0 0 2 (nI 0)) 0 0 4 (nI 0)) 0 0 8 (nI 0)) 0 0 9 mone) 0 0 3 = nI len := by simp (disch := omega) only [gI_pI, gL_pL, gI_pL, gL_pI, qe, qn, not_true_eq_false, not_false_eq_true, true_and, and_true, false_and, and_false, and_self, Nat.add_right_cancel_iff, ↓reduceIte]
  have hZ4 : gI (pI (pI (pI (pI (pI m 0 0 3 (nI len)) 0 0 2 (nI 0)) 0 0 4 (nI 0)) 0 0 8 (nI 0)) 0 0 9 mone) 0 0 4 = nI 0 := by simp (disch := omega) only [gI_pI, gL_pL, gI_pL, gL_pI, qe, qn, not_true_eq_false, not_false_eq_true, true_and, and_true, false_and, and_false, and_self, Nat.add_right_cancel_iff, ↓reduceIte]
  have hZ8 : gI (pI (pI (pI (pI (pI m 0 0 3 (nI len)) 0 0 2 (nI 0)) 0 0 4 (nI 0)) 0 0 8 (nI 0)) 0 0 9 mone) 0 0 8 = nI 0 := by simp (disch := omega) only [gI_pI, gL_pL, gI_pL, gL_pI, qe, qn, not_true_eq_false, not_false_eq_true, true_and, and_true, false_and, and_false, and_self, Nat.add_right_cancel_iff, ↓reduceIte]
  have hZ9 : gI (pI (pI (pI (pI (pI m 0 0 3 (nI len)) 0 0 2 (nI 0)) 0 0 4 (nI 0)) 0 0 8 (nI 0)) 0 0 9 mone) 0 0 9 = mone := by simp (disch := omega) only [gI_pI, gL_pL, gI_pL, gL_pI, qe, qn, not_true_eq_false, not_false_eq_true, true_and, and_true, false_and, and_false, and_self, Nat.add_right_cancel_iff, ↓reduceIte]
  have hZL : ∀ j k, gL (pI (pI (pI (pI (pI m 0 0 3 (nI len)) 0 0 2 (nI 0)) 0 0 4 (nI 0)) 0 0 8 (nI 0)) 0 0 9 mone) 0 j k = gL m 0 j k := fun j k => rfl
  have hbt : sX7_beginsText m = bd (sX7_goOn (pI (pI (pI (pI (pI m 0 0 3 (nI len)) 0 0 2 (nI 0)) 0 0 4 (nI 0)) 0 0 8 (nI 0)) 0 0 9 mone)) fun q6 => some q6 := by
    unfold sX7_beginsText
    simp (disch := omega) only [zl, zm, nm_v, h2]
  generalize pI (pI (pI (pI (pI m 0 0 3 (nI len)) 0 0 2 (nI 0)) 0 0 4 (nI 0)) 0 0 8 (nI 0)) 0 0 9 mone = Z at *
  have hM : LXM B len Z := ⟨hZ3, fun k hk => ⟨(hB k hk).1, (hZ 1 k (by omega)).trans (hB k hk).2.1⟩⟩
  obtain ⟨m', g1, g2, g3⟩ := lx_goOn h0 hM hZ4 (Nat.zero_le _)
  refine ⟨B, cn, t', m', by rw [h1]; exact a1, by rw [hbt, g1]; rfl, ⟨h0, a2, a3, Nat.zero_le _, lxm_go hM g2, g3, a4, a5, (g2.1 0 8 (by omega)).trans hZ8, (g2.1 0 9 (by omega)).trans hZ9⟩, (g2.1 0 2 (by omega)).trans hZ2, fun j k hjk => (g2.1 j k (by omega)).trans (hZ j k (by omega)), fun j k hjk => (g2.2 j k hjk).trans (hZL j k)⟩
theorem m_endsT (m : St) (b : Bool) (hb : gI m 0 0 8 = nI 0 ↔ b = true) : ∃ m', sX7_endsText m = some (m', nI b.toNat) ∧ gI m' 0 0 0 = nI (!b).toNat ∧ gI m' 0 0 10 = gI m 0 0 8 ∧ gI m' 0 0 11 = gI m 0 0 9 ∧ (∀ j k, ¬ (j = 0 ∧ (k = 0 ∨ k = 10 ∨ k = 11)) → gI m' 0 j k = gI m 0 j k) ∧ ∀ j k, gL m' 0 j k = gL m 0 j k := by
  have e9 : gI (pI m 0 0 10 (gI m 0 0 8)) 0 0 9 = gI m 0 0 9 := by rw [gI_pI, if_neg (by omega)]
  have e8 : gI (pI (pI m 0 0 10 (gI m 0 0 8)) 0 0 11 (gI m 0 0 9)) 0 0 8 = gI m 0 0 8 := by rw [gI_pI, if_neg (by omega), gI_pI, if_neg (by omega)]
  refine ⟨pI (pI (pI m 0 0 10 (gI m 0 0 8)) 0 0 11 (gI m 0 0 9)) 0 0 0 (nI (!b).toNat), ?_, by rw [gI_pI, if_pos ⟨rfl, rfl, rfl⟩], ?_, ?_, fun j k hjk => ?_, fun j k => rfl⟩
  · have hg := m_goes (m := pI (pI m 0 0 10 (gI m 0 0 8)) 0 0 11 (gI m 0 0 9)) b
    unfold sX7_endsText sX7_endsText_b29
    simp only [zl, nm_v]
    rw [e9, e8]
    cases b with
    | true =>
      have hg2 : sX7_goes (pI (pI m 0 0 10 (gI m 0 0 8)) 0 0 11 (gI m 0 0 9)) (nI 1) = some (pI (pI (pI m 0 0 10 (gI m 0 0 8)) 0 0 11 (gI m 0 0 9)) 0 0 0 (nI (!true).toNat), nI 1) := hg
      rw [if_neg (fun z => z (hb.mpr rfl)), hg2]
      simp (disch := omega) only [bd_e, isb_1, gd_tt]; rfl
    | false =>
      have hg2 : sX7_goes (pI (pI m 0 0 10 (gI m 0 0 8)) 0 0 11 (gI m 0 0 9)) (nI 0) = some (pI (pI (pI m 0 0 10 (gI m 0 0 8)) 0 0 11 (gI m 0 0 9)) 0 0 0 (nI (!false).toNat), nI 0) := hg
      rw [if_pos (fun z => absurd (hb.mp z) (by decide)), hg2]
      simp (disch := omega) only [bd_e, isb_0, gd_tt]; rfl
  · rw [gI_pI, if_neg (by omega), gI_pI, if_neg (by omega), gI_pI, if_pos ⟨rfl, rfl, rfl⟩]
  · rw [gI_pI, if_neg (by omega), gI_pI, if_pos ⟨rfl, rfl, rfl⟩]
  · rw [gI_pI, if_neg (by omega), gI_pI, if_neg (by omega), gI_pI, if_neg (by omega)]
theorem m_cl39 (m : St) (g : Nat → Int32) {b : Nat} (hb : b < 8) : ∃ g', (fun K : St → Int32 → Option St => sX7_clears_b39 FU K (sr m g) (nI b) (nI 0)) = (fun K => K (sr m g') (nI (b + 1))) ∧ (∀ i, i < 8 → g' (21 + 43 * b + (19 + i)) = mone ∧ g' (21 + 43 * b + (35 + i)) = nI 5) ∧ ∀ i, ¬ (21 + 43 * b + 19 ≤ i ∧ i < 21 + 43 * b + 27) → ¬ (21 + 43 * b + 35 ≤ i ∧ i < 21 + 43 * b + 43) → g' i = g i :=
  one_up 8 (fun a (g' : Nat → Int32) => (∀ i, i < a → g' (21 + 43 * b + (19 + i)) = mone ∧ g' (21 + 43 * b + (35 + i)) = nI 5) ∧ ∀ i, ¬ (21 + 43 * b + 19 ≤ i ∧ i < 21 + 43 * b + 27) → ¬ (21 + 43 * b + 35 ≤ i ∧ i < 21 + 43 * b + 43) → g' i = g i) (fun F g' a => fun K : St → Int32 → Option St => sX7_clears_b39 F K (sr m g') (nI b) (nI a)) (fun g' => fun K => K (sr m g') (nI (b + 1))) (fun F g' h => funext fun K => by
    simp only [sX7_clears_b39]
    simp (disch := omega) only [zl, zm, nI_add, pk_mul, inb_t, ix_n, gd_tt, bd_e, nm_v, ite_not, ↓reduceIte, le_t, le_f, lt_t, lt_f, eq_t, eq_f, mone_f, mone_f2]) (fun a g' ha h => by
    refine ⟨upd (upd g' (21 + 43 * b + (19 + a)) mone) (21 + 43 * b + (35 + a)) (nI 5), fun F => funext fun K => ?_, fun i hi => ⟨?_, ?_⟩, fun i h1 h2 => ?_⟩
    · simp only [sX7_clears_b39]
      simp (disch := omega) only [zl, zm, nI_add, pk_mul, inb_t, ix_n, gd_tt, bd_e, nm_v, ite_not, ↓reduceIte, le_t, le_f, lt_t, lt_f, eq_t, eq_f, mone_f, mone_f2, m_sets]
    · by_cases hia : i = a
      · subst hia; rw [upd_e, if_neg (by omega), upd_e, if_pos rfl]
      · rw [upd_e, if_neg (by omega), upd_e, if_neg (by omega)]; exact (h.1 i (by omega)).1
    · by_cases hia : i = a
      · subst hia; rw [upd_e, if_pos rfl]
      · rw [upd_e, if_neg (by omega), upd_e, if_neg (by omega)]; exact (h.1 i (by omega)).2
    · rw [upd_e, if_neg (by omega), upd_e, if_neg (by omega)]; exact h.2 i h1 h2) 8 0 FU g (by omega) (FU_lt (by omega)) ⟨fun i hi => absurd hi (by omega), fun _ _ _ => rfl⟩
def zrow (f : Nat → Int32) (k : Nat) : Nat → Int32 := fun i => if i < k then nI 0 else f i
theorem zrow_s (f : Nat → Int32) (k : Nat) : upd (zrow f k) k (nI 0) = zrow f (k + 1) := funext fun i => by
  rw [upd_e]
  show (if i = k then nI 0 else if i < k then nI 0 else f i) = if i < k + 1 then nI 0 else f i
  by_cases h1 : i = k
  · rw [if_pos h1, if_pos (by omega)]
  · rw [if_neg h1]
    by_cases h2 : i < k
    · rw [if_pos h2, if_pos (by omega)]
    · rw [if_neg h2, if_neg (by omega)]
def head0 (f : Nat → Int32) : Prop := f 0 = nI 0 ∧ f 1 = nI 0 ∧ f 2 = nI 3 ∧ f 3 = nI 99 ∧ f 4 = nI 0 ∧ f 5 = nI 0 ∧ f 6 = nI 0 ∧ f 7 = nI 1 ∧ f 8 = nI 1 ∧ f 9 = nI 5 ∧ f 10 = nI 3 ∧ f 11 = nI 9 ∧ f 12 = nI 0
theorem m_clears (m : St) : ∃ m1 f, sX7_clears m = some (sr m1 f) ∧ (∀ j k, ¬ j = 2 → gI m1 0 j k = gI m 0 j k) ∧ (∀ j k, ¬ j = 7 → gL m1 0 j k = gL m 0 j k) ∧ head0 f ∧ TFI 0 f := by
  have h1 : sX7_clears m = sX7_clears_b24 FU (sr m (zrow (gI m 0 2) 365)) (nI 0) := by
    have e0 : m = sr m (zrow (gI m 0 2) 0) := by
      have : zrow (gI m 0 2) 0 = gI m 0 2 := funext fun i => if_neg (by omega)
      rw [this, sr_self]
    refine (congrArg sX7_clears e0).trans ?_
    refine fuel_up 365 (fun F k => sX7_clears_b2 F (sr m (zrow (gI m 0 2) k)) (nI k)) _ (fun F => ?_) (fun F k hk => ?_) 365 0 FU (by omega) (FU_lt (by omega))
    · simp only [sX7_clears_b2]
      simp (disch := omega) only [zl, zm, nI_add, pk_mul, inb_t, ix_n, gd_tt, bd_e, nm_v, ite_not, ↓reduceIte, le_t, le_f, lt_t, lt_f, eq_t, eq_f, mone_f, mone_f2]
    · simp only [sX7_clears_b2]
      simp (disch := omega) only [zl, zm, nI_add, pk_mul, inb_t, ix_n, gd_tt, bd_e, nm_v, ite_not, ↓reduceIte, le_t, le_f, lt_t, lt_f, eq_t, eq_f, mone_f, mone_f2, sr_pI, zrow_s]
  obtain ⟨u, e1, u1, u2, u3, u4⟩ := one_up 8 (fun k (u : St × (Nat → Int32)) => (∀ j i, ¬ j = 2 → gI u.1 0 j i = gI m 0 j i) ∧ (∀ j i, ¬ j = 7 → gL u.1 0 j i = gL m 0 j i) ∧ (∀ i, i < 21 → u.2 i = nI 0) ∧ ∀ b, b < 8 → (∀ i, 5 ≤ i → i < 19 → u.2 (21 + 43 * b + i) = nI 0) ∧ (b < k → ∀ i, i < 8 → u.2 (21 + 43 * b + (19 + i)) = mone ∧ u.2 (21 + 43 * b + (35 + i)) = nI 5)) (fun F u k => sX7_clears_b24 F (sr u.1 u.2) (nI k)) (fun u => some (sr u.1 (upd (upd (upd (upd (upd (upd (upd u.2 7 (nI 1)) 2 (nI 3)) 3 (nI 99)) 8 (nI 1)) 9 (nI 5)) 10 (nI 3)) 11 (nI 9)))) (fun F u h => by
    simp only [sX7_clears_b24]
    simp (disch := omega) only [zl, zm, nI_add, pk_mul, inb_t, ix_n, gd_tt, bd_e, nm_v, ite_not, ↓reduceIte, le_t, le_f, lt_t, lt_f, eq_t, eq_f, mone_f, mone_f2, sr_pI]) (fun k u hk h => by
    obtain ⟨p1, p2, p3, p4⟩ := h
    obtain ⟨g', q1, q2, q3⟩ := m_cl39 (pL u.1 0 7 k 0) u.2 hk
    refine ⟨(pL u.1 0 7 k 0, g'), fun F => ?_, fun j i hj => p1 j i hj, fun j i hj => ?_, fun i hi => ?_, fun b hb => ⟨fun i h5 h9 => ?_, fun hbk i hi => ?_⟩⟩
    · have e := congrFun q1 (fun m' a1' => sX7_clears_b24 F m' a1')
      refine Eq.trans ?_ e
      simp only [sX7_clears_b24]
      simp (disch := omega) only [zl, zm, nI_add, pk_mul, inb_t, ix_n, gd_tt, bd_e, nm_v, ite_not, ↓reduceIte, le_t, le_f, lt_t, lt_f, eq_t, eq_f, mone_f, mone_f2, sr_pL]
    · show gL (pL u.1 0 7 k 0) 0 j i = _
      rw [gL_pL, if_neg (by omega)]; exact p2 j i hj
    · show g' i = _
      rw [q3 i (by omega) (by omega)]; exact p3 i hi
    · show g' (21 + 43 * b + i) = _
      rw [q3 _ (by rcases Nat.lt_or_ge b k with z | z <;> omega) (by rcases Nat.lt_or_ge b k with z | z <;> omega)]; exact (p4 b hb).1 i h5 h9
    · show g' (21 + 43 * b + (19 + i)) = mone ∧ g' (21 + 43 * b + (35 + i)) = nI 5
      by_cases hbe : b = k
      · subst hbe; exact q2 i hi
      · rw [q3 _ (by omega) (by omega), q3 _ (by omega) (by omega)]
        exact (p4 b hb).2 (by omega) i hi) 8 0 FU (m, zrow (gI m 0 2) 365) (by omega) (FU_lt (by omega)) ⟨fun _ _ _ => rfl, fun _ _ _ => rfl, fun i hi => if_pos (by omega), fun b hb => ⟨fun i h5 h9 => if_pos (by omega), fun z => absurd z (by omega)⟩⟩
  refine ⟨u.1, _, h1.trans e1, u1, u2, ?_, fun b hb => ⟨fun i h5 h9 => ?_, fun i hi => ⟨?_, ?_⟩, fun _ => ?_⟩⟩
  · refine ⟨?_, ?_, ?_, ?_, ?_, ?_, ?_, ?_, ?_, ?_, ?_, ?_, ?_⟩
    all_goals simp (disch := omega) only [upd_e, qe, qn, ↓reduceIte]
    all_goals exact u3 _ (by omega)
  · simp (disch := omega) only [upd_e, qe, qn, ↓reduceIte]; exact (u4 b hb).1 i h5 h9
  · simp (disch := omega) only [upd_e, qe, qn, ↓reduceIte]; exact ((u4 b hb).2 hb i hi).1
  · simp (disch := omega) only [upd_e, qe, qn, ↓reduceIte]; exact ((u4 b hb).2 hb i hi).2
  · simp (disch := omega) only [upd_e, qe, qn, ↓reduceIte]; exact u3 _ (by omega)
theorem c_clear (x : St) {f : Nat → Int32} (w : Nat → Int64) (h : head0 f) (h2 : TFI 0 f) : ∃ x', sX5_clear x = some x' ∧ TW 0 x' f w := by
  obtain ⟨f0, f1, f2, f3, f4, f5, f6, f7, f8, f9, f10, f11, f12⟩ := h
  refine ⟨pI (pI (pI (pI (pI (pI (pI (pI (pI (pI (pI (pI (pI x 0 0 2 (nI 0)) 0 1 0 (nI 1)) 0 1 1 (nI 5)) 0 1 2 (nI 3)) 0 1 3 (nI 9)) 0 0 6 (nI 1)) 0 0 3 (nI 3)) 0 0 4 (nI 99)) 0 0 5 (nI 0)) 0 0 7 (nI 0)) 0 0 8 (nI 0)) 0 0 9 (nI 0)) 0 0 10 (nI 0), ?_, by omega, ⟨3, by omega, ?_, ?_, ?_, ?_, ?_, ?_, ?_, ?_, ?_, ?_, ?_, ?_, ?_, ?_, ?_, ?_, fun k hk => ?lst⟩, fun b hb => absurd hb (by omega), h2, fun b hb => absurd hb (by omega), fun b hb => absurd hb (by omega), fun b b' hb => absurd hb (by omega)⟩
  case lst =>
    rcases (by omega : k = 0 ∨ k = 1 ∨ k = 2 ∨ k = 3) with rfl | rfl | rfl | rfl
    · exact ⟨1, by omega, by simp (disch := omega) only [gI_pI, gL_pL, gI_pL, gL_pI, qe, qn, not_true_eq_false, not_false_eq_true, true_and, and_true, false_and, and_false, and_self, Nat.add_right_cancel_iff, ↓reduceIte], f8⟩
    · exact ⟨5, by omega, by simp (disch := omega) only [gI_pI, gL_pL, gI_pL, gL_pI, qe, qn, not_true_eq_false, not_false_eq_true, true_and, and_true, false_and, and_false, and_self, Nat.add_right_cancel_iff, ↓reduceIte], f9⟩
    · exact ⟨3, by omega, by simp (disch := omega) only [gI_pI, gL_pL, gI_pL, gL_pI, qe, qn, not_true_eq_false, not_false_eq_true, true_and, and_true, false_and, and_false, and_self, Nat.add_right_cancel_iff, ↓reduceIte], f10⟩
    · exact ⟨9, by omega, by simp (disch := omega) only [gI_pI, gL_pL, gI_pL, gL_pI, qe, qn, not_true_eq_false, not_false_eq_true, true_and, and_true, false_and, and_false, and_self, Nat.add_right_cancel_iff, ↓reduceIte], f11⟩
  · unfold sX5_clear
    simp (disch := omega) only [zl, zm, nI_add, pk_mul, inb_t, ix_n, gd_tt, bd_e, nm_v, ite_not, ↓reduceIte, le_t, le_f, lt_t, lt_f, eq_t, eq_f, mone_f, mone_f2]
  all_goals try simp (disch := omega) only [gI_pI, gL_pL, gI_pL, gL_pI, qe, qn, not_true_eq_false, not_false_eq_true, true_and, and_true, false_and, and_false, and_self, Nat.add_right_cancel_iff, ↓reduceIte]
  all_goals assumption
theorem q_readText (hx : WO (gL m 0 7) x (gI m 0 2)) (hp : PR ps c m) (hb : BF len c m) (x1 ta d : St) : ∃ x' x1' ta' d' c' r code v m', sX6_readText x x1 ta d c = some (x', x1', ta', d', c', r) ∧ sX7_readText m = some (m', v) ∧ gI m' 0 0 0 = nI code ∧ Ans [(2, 1)] r code v ∧ WO (gL m' 0 7) x' (gI m' 0 2) ∧ PR ps c' m' ∧ BF 0 c' m' ∧ gI c' 0 0 2 = gI m' 0 0 10 ∧ gI c' 0 0 3 = gI m' 0 0 11 ∧ (∀ o j k, ¬ (o = 0 ∧ j = 0 ∧ (k = 1 ∨ k = 2 ∨ k = 3 ∨ k = 9)) → gI c' o j k = gI c o j k) ∧ (∀ j k, ¬ (j = 0 ∧ (k = 0 ∨ 2 ≤ k ∧ k ≤ 11 ∨ k = 21 ∨ k = 23)) → ¬ j = 2 → ¬ j = 4 → gI m' 0 j k = gI m 0 j k) ∧ ∀ j k, ¬ (j = 0 ∧ k = 12) → ¬ j = 7 → ¬ j = 9 → gL m' 0 j k = gL m 0 j k := by
  obtain ⟨B, cn, t1, m1, a1, a2, a3, a4, a5, a6⟩ := y_begin hb ta
  have hcp := m_copies (m := m1) (a := 0) (b := 0) (j0 := 2) (j2 := 4) (by omega) (by decide) (by decide) (by decide)
  have b2 : ∀ j k, ¬ j = 4 → gI (sA m1 4 (cpy (gI m1 0 2) (gI m1 0 4) 0 0 365)) 0 j k = gI m1 0 j k := fun j k hj => sA_n _ _ _ hj k
  have b4 : ∀ i, i < 365 → gI (sA m1 4 (cpy (gI m1 0 2) (gI m1 0 4) 0 0 365)) 0 4 i = gI m1 0 2 i := fun i hi => by rw [sA_i, cpy_i0 hi, Nat.zero_add]
  have bL : ∀ j k, gL (sA m1 4 (cpy (gI m1 0 2) (gI m1 0 4) 0 0 365)) 0 j k = gL m1 0 j k := fun j k => rfl
  generalize sA m1 4 (cpy (gI m1 0 2) (gI m1 0 4) 0 0 365) = M2 at hcp b2 b4 bL
  obtain ⟨w, n1, n2⟩ := m_names (m := M2) (j0 := 7) (j1 := 9) (by omega) (by decide)
  obtain ⟨m4, f, d1, d2, d3, d4, d5⟩ := m_clears (sN M2 9 w)
  have hla : sX7_laysAside m1 = some M2 := by
    unfold sX7_laysAside
    simp only [zl]
    rw [hcp, bd_e]
  have hS : sX7_readText m = sX7_readText_b28 FU (pI (sr m4 f) 0 0 23 (nI 0)) := by
    unfold sX7_readText
    rw [a2, bd_e, hla, bd_e, n1, bd_e, d1, bd_e]
    simp (disch := omega) only [nm_v, zl]
  have z2 : gI (pI (sr m4 f) 0 0 23 (nI 0)) 0 2 = f := funext fun k => by rw [gI_pI, if_neg (by omega), sr_row]
  have zI : ∀ j k, ¬ (j = 0 ∧ k = 23) → ¬ j = 2 → ¬ j = 4 → gI (pI (sr m4 f) 0 0 23 (nI 0)) 0 j k = gI m1 0 j k := fun j k h1 h2 h4 => by
    rw [gI_pI, if_neg (by omega), sr_j _ _ _ h2, d2 j k h2, sN_I, b2 j k h4]
  have z4 : ∀ i, i < 365 → gI (pI (sr m4 f) 0 0 23 (nI 0)) 0 4 i = gI m1 0 2 i := fun i hi => by
    rw [gI_pI, if_neg (by omega), sr_j _ _ _ (by omega), d2 4 i (by omega), sN_I, b4 i hi]
  have zL : ∀ j k, ¬ j = 7 → ¬ j = 9 → gL (pI (sr m4 f) 0 0 23 (nI 0)) 0 j k = gL m1 0 j k := fun j k h7 h9 => by
    rw [gL_pI, sr_L, d3 j k h7, sN_n _ _ _ h9, bL]
  have z9 : ∀ k, k < 8 → gL (pI (sr m4 f) 0 0 23 (nI 0)) 0 9 k = gL m1 0 7 k := fun k hk => by
    rw [gL_pI, sr_L, d3 9 k (by omega), sN_i, n2 k hk, bL]
  have z23 : gI (pI (sr m4 f) 0 0 23 (nI 0)) 0 0 23 = nI 0 := by rw [gI_pI, if_pos ⟨rfl, rfl, rfl⟩]
  generalize pI (sr m4 f) 0 0 23 (nI 0) = Z at hS z2 zI z4 zL z9 z23
  obtain ⟨x2, c1, c2⟩ := c_clear x1 (gL Z 0 7) d4 d5
  have hY : YG B len cn 0 t1 Z := a3.cg2 (fun k h3 h9 => zI 0 k (by omega) (by omega) (by omega)) (fun k => zI 1 k (by omega) (by omega) (by omega)) (zL 0 12 (by omega) (by omega))
  have hcn : cn ≤ 700 := a3.2.1.2.1
  have hC : ∀ q, sX3_readAll_b11 FU x2 t1 (pI d 0 0 1 (nI 0)) (nI 0) = some q → sX6_readText x x1 ta d c = bd (sX6_endReading q.2.1 3 c) fun q3 => if ¬ q.2.2.2 = 0 then bd (sX5_copyFrom q.1 x) fun q5 => nm (pI q3 0 0 9 ((0 : Int32))) fun z6 => some (q5, q.1, q.2.1, q.2.2.1, z6, .inl (gI q5 0 0 2)) else some (x, q.1, q.2.1, q.2.2.1, q3, .inr 2) := fun q hq => by
    unfold sX6_readText sX3_readAll
    rw [a1, bd_e, c1, bd_e, nm_v]
    rw [show sX3_readAll_b11 FU x2 t1 (pI d 0 0 1 0) 0 = some q from hq, bd_e]
  have hx1 : WO (gL m1 0 7) x (gI m1 0 2) := (hx.fcg fun i hi => a5 2 i (by omega)).wcg fun b _ => a6 7 b (by omega)
  have hE : ∀ t', sX6_endReading t' 3 c = some (pI (pI (pI c 0 0 1 (nI 0)) 0 0 2 (gI t' 0 0 8)) 0 0 3 (gI t' 0 0 9)) := fun t' => by
    unfold sX6_endReading
    simp (disch := omega) only [zl, nm_v]
  rcases tx_all 701 0 0 0 FU FU x2 t1 (pI d 0 0 1 (nI 0)) Z (by omega) (by omega) (Nat.le_of_lt (FU_lt (by omega))) (Nat.le_of_lt (FU_lt (by omega))) hY (by rw [z2]; exact c2) ⟨0, by omega, by rw [gI_pI, if_pos ⟨rfl, rfl, rfl⟩], z23⟩ with ⟨x3, t3, d3', m5, n', g1, g2, g3, g4, g5, g6, g7, g8⟩ | ⟨x3, t3, d3', m5, g1, g2, g3, g8⟩
  · obtain ⟨m6, e1, e2, e3, e4, e5, e6⟩ := m_endsT m5 true ⟨fun _ => rfl, fun _ => g5⟩
    obtain ⟨x', k1, k2, k3⟩ := s_copy (tw_ws g7) x
    have hrow : gI (pI m6 0 0 21 (nI 0)) 0 2 = gI m5 0 2 := funext fun k => by rw [gI_pI, if_neg (by omega), e5 2 k (by omega)]
    have hnam : gL (pI m6 0 0 21 (nI 0)) 0 7 = gL m5 0 7 := funext fun k => by rw [gL_pI, e6]
    have hfn : gI m5 0 2 0 = nI n' := WR.fn k3
    have hxn : gI x' 0 0 2 = nI n' := WR.xn k3
    have hI : ∀ j k, ¬ (j = 0 ∧ (k = 0 ∨ 2 ≤ k ∧ k ≤ 11 ∨ k = 21 ∨ k = 23)) → ¬ j = 2 → ¬ j = 4 → gI (pI m6 0 0 21 (nI 0)) 0 j k = gI m 0 j k := fun j k h1 h2 h4 => by
      rw [gI_pI, if_neg (by omega), e5 j k (by omega), g8.1 j k (by omega) h2, zI j k (by omega) h2 h4, a5 j k (by omega)]
    obtain ⟨u, hu, p1, p2, π, p3, p4, p5⟩ := hp
    refine ⟨x', x3, t3, d3', pI (pI (pI (pI c 0 0 1 (nI 0)) 0 0 2 (gI t3 0 0 8)) 0 0 3 (gI t3 0 0 9)) 0 0 9 (nI 0), .inl (nI n'), 0, nI n', pI m6 0 0 21 (nI 0), ?_, ?_, ?_, Or.inl ⟨rfl, rfl⟩, ?_, ?_, ⟨by omega, ?_, ?_, fun k hk => absurd hk (by omega)⟩, ?_, ?_, fun o j k hjk => ?_, hI, fun j k h1 h7 h9 => ?_⟩
    · rw [hC _ g1, hE, bd_e, if_pos (by show ¬ nI 1 = nI 0; decide), k1, bd_e, nm_v, hxn]; rfl
    · rw [hS, g2]
      unfold sX7_readText_b49
      rw [e1, bd_e]
      have e0 : gI (pI m6 0 0 21 (nI 0)) 0 2 0 = nI n' := by rw [hrow]; exact hfn
      simp (disch := omega) only [zl, zm, nI_add, pk_mul, inb_t, ix_n, gd_tt, bd_e, nm_v, ite_not, ↓reduceIte, le_t, le_f, lt_t, lt_f, eq_t, eq_f, mone_f, mone_f2, Bool.toNat_true, e0]
    · rw [gI_pI, if_neg (by omega)]; exact e2
    · rw [hrow, hnam]; exact ⟨n', 0, by omega, k3, g7.2.2.2.2.2.ag k2⟩
    · refine ⟨0, by omega, by rw [gI_pI, if_pos ⟨rfl, rfl, rfl⟩], by rw [gI_pI, if_pos ⟨rfl, rfl, rfl⟩], π, fun i hi => ?_, p4, fun i hi => absurd hi (by omega)⟩
      rw [gI_pI, if_neg (by omega), gI_pI, if_neg (by omega), gI_pI, if_neg (by omega), gI_pI, if_neg (by omega)]; exact p3 i hi
    · simp (disch := omega) only [gI_pI, gL_pL, gI_pL, gL_pI, qe, qn, not_true_eq_false, not_false_eq_true, true_and, and_true, false_and, and_false, and_self, Nat.add_right_cancel_iff, ↓reduceIte]
    · rw [gI_pI, if_neg (by omega), e5 0 2 (by omega), g8.1 0 2 (by omega) (by omega), zI 0 2 (by omega) (by omega) (by omega)]; exact a4
    · have : gI m6 0 0 10 = gI t3 0 0 8 := by rw [e3, g5, g3]
      simp (disch := omega) only [gI_pI, gL_pL, gI_pL, gL_pI, qe, qn, not_true_eq_false, not_false_eq_true, true_and, and_true, false_and, and_false, and_self, Nat.add_right_cancel_iff, ↓reduceIte, this]
    · have : gI m6 0 0 11 = gI t3 0 0 9 := by rw [e4, g6, g4]
      simp (disch := omega) only [gI_pI, gL_pL, gI_pL, gL_pI, qe, qn, not_true_eq_false, not_false_eq_true, true_and, and_true, false_and, and_false, and_self, Nat.add_right_cancel_iff, ↓reduceIte, this]
    · rw [gI_pI, if_neg (by omega), gI_pI, if_neg (by omega), gI_pI, if_neg (by omega), gI_pI, if_neg (by omega)]
    · rw [gL_pI, e6, g8.2 j k h1 h7, zL j k h7 h9, a6 j k h1]
  · obtain ⟨ee, pp, y1, y2, y3, y4, y5, y6, y7⟩ := g3
    obtain ⟨m6, e1, e2, e3, e4, e5, e6⟩ := m_endsT m5 false ⟨fun z => by rw [y6] at z; exact absurd ((nI_eq (by omega) (by omega)).mp z) (by omega), fun z => absurd z (by decide)⟩
    have h64 : ∀ i, i < 365 → gI m6 0 4 i = gI m1 0 2 i := fun i hi => by rw [e5 4 i (by omega), g8.1 4 i (by omega) (by omega), z4 i hi]
    have h69 : ∀ i, i < 8 → gL m6 0 9 i = gL m1 0 7 i := fun i hi => by rw [e6, g8.2 9 i (by omega) (by omega), z9 i hi]
    have hcp2 := m_copies (m := m6) (a := 0) (b := 0) (j0 := 4) (j2 := 2) (by omega) (by decide) (by decide) (by decide)
    have q2 : ∀ j k, ¬ j = 2 → gI (sA m6 2 (cpy (gI m6 0 4) (gI m6 0 2) 0 0 365)) 0 j k = gI m6 0 j k := fun j k hj => sA_n _ _ _ hj k
    have q4 : ∀ i, i < 365 → gI (sA m6 2 (cpy (gI m6 0 4) (gI m6 0 2) 0 0 365)) 0 2 i = gI m1 0 2 i := fun i hi => by rw [sA_i, cpy_i0 hi, Nat.zero_add, h64 i hi]
    have qL : ∀ j k, gL (sA m6 2 (cpy (gI m6 0 4) (gI m6 0 2) 0 0 365)) 0 j k = gL m6 0 j k := fun j k => rfl
    generalize sA m6 2 (cpy (gI m6 0 4) (gI m6 0 2) 0 0 365) = M7 at hcp2 q2 q4 qL
    obtain ⟨w2, r1, r2⟩ := m_names (m := M7) (j0 := 9) (j1 := 7) (by omega) (by decide)
    have h7 : ∀ k, k < 8 → gL (sN M7 7 w2) 0 7 k = gL m 0 7 k := fun k hk => by rw [sN_i, r2 k hk, qL, h69 k hk, a6 7 k (by omega)]
    have hI : ∀ j k, ¬ (j = 0 ∧ (k = 0 ∨ 2 ≤ k ∧ k ≤ 11 ∨ k = 23)) → ¬ j = 2 → ¬ j = 4 → gI (sN M7 7 w2) 0 j k = gI m 0 j k := fun j k h1 h2 h4 => by
      rw [sN_I, q2 j k h2, e5 j k (by omega), g8.1 j k (by omega) h2, zI j k (by omega) h2 h4, a5 j k (by omega)]
    refine ⟨x, x3, t3, d3', pI (pI (pI c 0 0 1 (nI 0)) 0 0 2 (gI t3 0 0 8)) 0 0 3 (gI t3 0 0 9), .inr 2, 1, nI 0, sN M7 7 w2, ?_, ?_, ?_, Or.inr ⟨2, rfl, by decide⟩, ?_, ?_, ⟨by omega, ?_, ?_, fun k hk => absurd hk (by omega)⟩, ?_, ?_, fun o j k hjk => ?_, fun j k h1 => hI j k (by omega), fun j k h1 h7 h9 => ?_⟩
    · rw [hC _ g1, hE, bd_e, if_neg (by show ¬ ¬ nI 0 = nI 0; decide)]
    · rw [hS, g2]
      unfold sX7_readText_b49
      rw [e1, bd_e]
      simp (disch := omega) only [zl, zm, nI_add, pk_mul, inb_t, ix_n, gd_tt, bd_e, nm_v, ite_not, ↓reduceIte, le_t, le_f, lt_t, lt_f, eq_t, eq_f, mone_f, mone_f2, Bool.toNat_false, hcp2, r1]
    · rw [sN_I, q2 0 0 (by omega)]; exact e2
    · refine (hx1.fcg fun i hi => ?_).wcg fun b hb => ?_
      · rw [sN_I, q4 i hi]
      · rw [h7 b hb, a6 7 b (by omega)]
    · refine hp.cg ?_ (fun i hi => ?_) (hI 0 21 (by omega) (by omega) (by omega)) (fun k => hI 6 k (by omega) (by omega) (by omega)) h7
      · simp (disch := omega) only [gI_pI, gL_pL, gI_pL, gL_pI, qe, qn, not_true_eq_false, not_false_eq_true, true_and, and_true, false_and, and_false, and_self, Nat.add_right_cancel_iff, ↓reduceIte]
      · simp (disch := omega) only [gI_pI, gL_pL, gI_pL, gL_pI, qe, qn, not_true_eq_false, not_false_eq_true, true_and, and_true, false_and, and_false, and_self, Nat.add_right_cancel_iff, ↓reduceIte]
    · simp (disch := omega) only [gI_pI, gL_pL, gI_pL, gL_pI, qe, qn, not_true_eq_false, not_false_eq_true, true_and, and_true, false_and, and_false, and_self, Nat.add_right_cancel_iff, ↓reduceIte]
    · rw [sN_I, q2 0 2 (by omega), e5 0 2 (by omega), g8.1 0 2 (by omega) (by omega), zI 0 2 (by omega) (by omega) (by omega)]; exact a4
    · have : gI (sN M7 7 w2) 0 0 10 = gI t3 0 0 8 := by rw [sN_I, q2 0 10 (by omega), e3, y6, y4]
      rw [this]
      simp (disch := omega) only [gI_pI, gL_pL, gI_pL, gL_pI, qe, qn, not_true_eq_false, not_false_eq_true, true_and, and_true, false_and, and_false, and_self, Nat.add_right_cancel_iff, ↓reduceIte]
    · have : gI (sN M7 7 w2) 0 0 11 = gI t3 0 0 9 := by rw [sN_I, q2 0 11 (by omega), e4, y7, y5]
      rw [this]
      simp (disch := omega) only [gI_pI, gL_pL, gI_pL, gL_pI, qe, qn, not_true_eq_false, not_false_eq_true, true_and, and_true, false_and, and_false, and_self, Nat.add_right_cancel_iff, ↓reduceIte]
    · rw [gI_pI, if_neg (by omega), gI_pI, if_neg (by omega), gI_pI, if_neg (by omega)]
    · rw [sN_n _ _ _ h7, qL, e6, g8.2 j k h1 h7, zL j k h7 h9, a6 j k h1]
end
