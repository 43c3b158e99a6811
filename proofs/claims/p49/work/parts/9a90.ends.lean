/-! stage B: sendings end -/
def xT (x : St) (b a : Nat) : St := (fun o j i => if o = b + 1 ∧ j = 4 ∧ i < a then gI x (b + 1) 3 i else if j = 2 ∧ i = b ∧ 1 ≤ o ∧ o - 1 < a ∧ gI x (b + 1) 3 (o - 1) = nI 0 then gI x 0 0 5 else x.1 o j i, x.2)
def hB (x : St) (b : Nat) : Nat → Bool
  | 0 => false
  | a + 1 => hB x b a || decide (gI x (b + 1) 3 a = nI 0)
theorem hB_iff (x : St) (b : Nat) : ∀ a, hB x b a = true ↔ ∃ o, o < a ∧ gI x (b + 1) 3 o = nI 0
  | 0 => ⟨fun h => (by cases h), fun ⟨o, h, _⟩ => absurd h (by omega)⟩
  | a + 1 => by
    have ih := hB_iff x b a
    unfold hB
    rw [Bool.or_eq_true, ih, decide_eq_true_iff]
    constructor
    · rintro (⟨o, h1, h2⟩ | h)
      · exact ⟨o, by omega, h2⟩
      · exact ⟨a, by omega, h⟩
    · rintro ⟨o, h1, h2⟩
      rcases Nat.lt_or_ge o a with h3 | h3
      · exact Or.inl ⟨o, h3, h2⟩
      · obtain rfl : o = a := by omega
        exact Or.inr h2
section
variable {x : St} {a b n : Nat}
theorem xT_g (o j i : Nat) : gI (xT x b a) o j i = if o = b + 1 ∧ j = 4 ∧ i < a then gI x (b + 1) 3 i else if j = 2 ∧ i = b ∧ 1 ≤ o ∧ o - 1 < a ∧ gI x (b + 1) 3 (o - 1) = nI 0 then gI x 0 0 5 else gI x o j i := rfl
theorem xT_o {o j i : Nat} (h4 : ¬ j = 4) (h2 : ¬ j = 2) : gI (xT x b a) o j i = gI x o j i := by
  rw [xT_g, if_neg (fun q => h4 q.2.1), if_neg (fun q => h2 q.1)]
theorem xT_0 : xT x b 0 = x := by
  refine Prod.ext (funext fun o => funext fun j => funext fun i => ?_) rfl
  show gI (xT x b 0) o j i = gI x o j i
  rw [xT_g, if_neg (by omega), if_neg (by omega)]
theorem xT_n (h : ¬ gI x (b + 1) 3 a = nI 0) : pI (xT x b a) (b + 1) 4 a (gI x (b + 1) 3 a) = xT x b (a + 1) := by
  refine Prod.ext (funext fun o => funext fun j => funext fun i => ?_) rfl
  show (if o = b + 1 ∧ j = 4 ∧ i = a then gI x (b + 1) 3 a else gI (xT x b a) o j i) = gI (xT x b (a + 1)) o j i
  rw [xT_g, xT_g]
  by_cases h1 : o = b + 1 ∧ j = 4 ∧ i = a
  · rw [if_pos h1, if_pos (by omega), h1.2.2]
  · rw [if_neg h1]
    by_cases h2 : o = b + 1 ∧ j = 4 ∧ i < a
    · rw [if_pos h2, if_pos (by omega)]
    · rw [if_neg h2]
      by_cases h3 : j = 2 ∧ i = b ∧ 1 ≤ o ∧ o - 1 < a ∧ gI x (b + 1) 3 (o - 1) = nI 0
      · rw [if_pos h3, if_neg (show ¬ (o = b + 1 ∧ j = 4 ∧ i < a + 1) by omega), if_pos ⟨h3.1, h3.2.1, h3.2.2.1, by omega, h3.2.2.2.2⟩]
      · rw [if_neg h3, if_neg (show ¬ (o = b + 1 ∧ j = 4 ∧ i < a + 1) by omega), if_neg]
        intro q
        by_cases h4 : o - 1 = a
        · rw [h4] at q; exact h q.2.2.2.2
        · exact h3 ⟨q.1, q.2.1, q.2.2.1, by omega, q.2.2.2.2⟩
theorem xT_y (h : gI x (b + 1) 3 a = nI 0) : pI (pI (xT x b a) (b + 1) 4 a (gI x (b + 1) 3 a)) (a + 1) 2 b (gI x 0 0 5) = xT x b (a + 1) := by
  refine Prod.ext (funext fun o => funext fun j => funext fun i => ?_) rfl
  show (if o = a + 1 ∧ j = 2 ∧ i = b then gI x 0 0 5 else if o = b + 1 ∧ j = 4 ∧ i = a then gI x (b + 1) 3 a else gI (xT x b a) o j i) = gI (xT x b (a + 1)) o j i
  rw [xT_g, xT_g]
  by_cases h0 : o = a + 1 ∧ j = 2 ∧ i = b
  · rw [if_pos h0, if_neg (by omega), if_pos ⟨h0.2.1, h0.2.2, by omega, by omega, by rw [show o - 1 = a by omega]; exact h⟩]
  rw [if_neg h0]
  by_cases h1 : o = b + 1 ∧ j = 4 ∧ i = a
  · rw [if_pos h1, if_pos (by omega), h1.2.2]
  · rw [if_neg h1]
    by_cases h2 : o = b + 1 ∧ j = 4 ∧ i < a
    · rw [if_pos h2, if_pos (by omega)]
    · rw [if_neg h2]
      by_cases h3 : j = 2 ∧ i = b ∧ 1 ≤ o ∧ o - 1 < a ∧ gI x (b + 1) 3 (o - 1) = nI 0
      · rw [if_pos h3, if_neg (show ¬ (o = b + 1 ∧ j = 4 ∧ i < a + 1) by omega), if_pos ⟨h3.1, h3.2.1, h3.2.2.1, by omega, h3.2.2.2.2⟩]
      · rw [if_neg h3, if_neg (show ¬ (o = b + 1 ∧ j = 4 ∧ i < a + 1) by omega), if_neg (fun q => h3 ⟨q.1, q.2.1, q.2.2.1, by omega, q.2.2.2.2⟩)]
theorem c_tell (hn : n ≤ 8) (hx : gI x 0 0 2 = nI n) (hb : b < n) : sX5_tellEars (b + 1) x (nI b) = some (xT x b n, nI (hB x b n).toNat) := by
  have h0 : sX5_tellEars (b + 1) x (nI b) = sX5_tellEars_b5 FU (b + 1) (xT x b 0) (nI b) (nI (hB x b 0).toNat) (nI 0) := by rw [xT_0]; rfl
  refine h0.trans ?_
  refine fuel_up n (fun F k => sX5_tellEars_b5 F (b + 1) (xT x b k) (nI b) (nI (hB x b k).toNat) (nI k)) _ (fun F => ?_) (fun F k hk => ?_) n 0 FU (by omega) (FU_lt (by omega))
  · simp only [sX5_tellEars_b5]
    simp (disch := omega) only [zl, zm, nI_add, pk_mul, inb_t, ix_n, gd_tt, bd_e, nm_v, ite_not, ↓reduceIte, le_t, le_f, lt_t, lt_f, eq_t, eq_f, mone_f, mone_f2, xT_o, hx, isb_z]
  · simp only [sX5_tellEars_b5]
    by_cases h : gI x (b + 1) 3 k = nI 0
    · have e1 : hB x b (k + 1) = true := by
        show (hB x b k || decide (gI x (b + 1) 3 k = nI 0)) = true
        rw [decide_eq_true h, Bool.or_true]
      rw [e1, ← xT_y h]
      simp (disch := omega) only [zl, zm, nI_add, pk_mul, inb_t, ix_n, gd_tt, bd_e, nm_v, ite_not, ↓reduceIte, le_t, le_f, lt_t, lt_f, eq_t, eq_f, mone_f, mone_f2, xT_o, hx, gI_pI, gL_pL, gI_pL, gL_pI, qe, qn, not_true_eq_false, not_false_eq_true, true_and, and_true, false_and, and_false, and_self, Nat.add_right_cancel_iff, h, Bool.toNat_true]
    · have e1 : hB x b (k + 1) = hB x b k := by
        show (hB x b k || decide (gI x (b + 1) 3 k = nI 0)) = hB x b k
        rw [decide_eq_false h, Bool.or_false]
      rw [e1, ← xT_n h]
      simp (disch := omega) only [zl, zm, nI_add, pk_mul, inb_t, ix_n, gd_tt, bd_e, nm_v, ite_not, ↓reduceIte, le_t, le_f, lt_t, lt_f, eq_t, eq_f, mone_f, mone_f2, xT_o, hx, gI_pI, gL_pL, gI_pL, gL_pI, qe, qn, not_true_eq_false, not_false_eq_true, true_and, and_true, false_and, and_false, and_self, Nat.add_right_cancel_iff, h]
end
/-! the model -/
def eF (f : Nat → Int32) (b k : Nat) : Nat → Int32 := fun i => if 21 + 43 * b + 35 ≤ i ∧ i < 21 + 43 * b + (35 + k) then (if i = 21 + 43 * b + (35 + b) then nI 5 else f (i - 8)) else f i
section
variable {m : St} {f g : Nat → Int32} {n b k : Nat}
theorem eF_o {i : Nat} (h : ¬ (21 + 43 * b + 35 ≤ i ∧ i < 21 + 43 * b + (35 + k))) : eF f b k i = f i := if_neg h
theorem eF_i {o : Nat} (h : o < k) : eF f b k (21 + 43 * b + (35 + o)) = if o = b then nI 5 else f (21 + 43 * b + (27 + o)) := by
  refine (if_pos (by omega)).trans ?_
  by_cases h1 : o = b
  · rw [if_pos (by omega), if_pos h1]
  · rw [if_neg (by omega), if_neg h1]; congr 1; omega
theorem eF_0 : eF f b 0 = f := funext fun i => if_neg (by omega)
theorem eF_s : upd (eF f b k) (21 + 43 * b + (35 + k)) (if k = b then nI 5 else f (21 + 43 * b + (27 + k))) = eF f b (k + 1) := funext fun i => by
  rw [upd_e]
  by_cases h : i = 21 + 43 * b + (35 + k)
  · rw [if_pos h, h, eF_i (by omega)]
  · rw [if_neg h]
    by_cases h2 : 21 + 43 * b + 35 ≤ i ∧ i < 21 + 43 * b + (35 + k)
    · obtain ⟨o, rfl⟩ : ∃ o, i = 21 + 43 * b + (35 + o) := ⟨i - (21 + 43 * b + 35), by omega⟩
      rw [eF_i (by omega), eF_i (by omega)]
    · rw [eF_o h2, eF_o (by omega)]
/-- the ears that count -/
theorem m_earsOf {a : Nat} (hn : n ≤ 8) (h0 : f 0 = nI n) (hb : b < n) (ha : f (21 + 43 * b + 9) = nI a) : sX7_earsOf (sr m f) (nI b) = some (nI (a &&& (2 ^ n - 1))) := by
  unfold sX7_earsOf
  simp only [zl]
  rw [m_of (by omega), ha]
  have hp : 1 ≤ 2 ^ n := Nat.one_le_two_pow
  simp (disch := omega) only [zl, zm, nI_add, pk_mul, inb_t, ix_n, gd_tt, bd_e, nm_v, ite_not, ↓reduceIte, le_t, le_f, lt_t, lt_f, eq_t, eq_f, mone_f, mone_f2, sr_row, h0, sh1, zs]
  rw [n_and]
theorem ears_bit (a o : Nat) : (a &&& (2 ^ n - 1)).testBit o = (decide (o < n) && a.testBit o) := by
  rw [Nat.testBit_and, Nat.testBit_two_pow_sub_one, Bool.and_comm]
/-- the model's first loop -/
theorem m_ends (hn : n ≤ 8) (h0 : f 0 = nI n) (hb : b < n) : sX7_ends (sr m f) (nI b) = sX7_ends_b2 (FU - n) (sr m (eF f b n)) (nI b) (nI n) := by
  have key : ∀ k, k ≤ n → sX7_ends_b2 FU (sr m (eF f b 0)) (nI b) (nI 0) = sX7_ends_b2 (FU - k) (sr m (eF f b k)) (nI b) (nI k) := by
    intro k
    induction k with
    | zero => intro _; rfl
    | succ k ih =>
      intro hk
      rw [ih (by omega)]
      obtain ⟨F, hF⟩ : ∃ F, FU - k = F + 1 := ⟨FU - k - 1, by have : FU = 1000000 := rfl; omega⟩
      rw [show FU - (k + 1) = F by omega, hF]
      have e0 : eF f b k 0 = nI n := by rw [eF_o (by omega)]; exact h0
      have e1 : eF f b k (21 + 43 * b + (27 + k)) = f (21 + 43 * b + (27 + k)) := eF_o (by omega)
      rw [← eF_s]
      simp only [sX7_ends_b2, sX7_ends_b36]
      by_cases hkb : k = b
      · subst hkb
        simp (disch := omega) only [zl, zm, nI_add, pk_mul, inb_t, ix_n, gd_tt, bd_e, nm_v, ite_not, ↓reduceIte, le_t, le_f, lt_t, lt_f, eq_t, eq_f, mone_f, mone_f2, sr_row, e0, m_sets]
      · simp (disch := omega) only [zl, zm, nI_add, pk_mul, inb_t, ix_n, gd_tt, bd_e, nm_v, ite_not, ↓reduceIte, le_t, le_f, lt_t, lt_f, eq_t, eq_f, mone_f, mone_f2, sr_row, e0, hkb, m_sets, m_of, e1]
  have := key n (Nat.le_refl n)
  rw [eF_0] at this
  exact this
/-- the heard cells: who heard sets its time -/
def TO (n b E t : Nat) (k : Nat) (f g : Nat → Int32) : Prop := (∀ i, (∀ o, o < n → ¬ i = 21 + 43 * o + (19 + b)) → g i = f i) ∧ ∀ o, o < n → g (21 + 43 * o + (19 + b)) = if o < k ∧ E.testBit o = true then nI t else f (21 + 43 * o + (19 + b))
theorem m_well {a t : Nat} (hn : n ≤ 8) (h0 : f 0 = nI n) (h1 : f 1 = nI t) (hb : b < n) (ha : f (21 + 43 * b + 9) = nI a) (ha2 : a < 256) : ∃ g, sX7_goesWell (sr m f) (nI b) = some (sr m (upd (upd (upd (upd (upd g (21 + 43 * b + 7) (nI 0)) (21 + 43 * b + 11) (g (21 + 43 * b + 11) + nI 1)) 4 (g 4 + nI 1)) (21 + 43 * b + 5) (nI 0)) (21 + 43 * b + 6) (nI 0))) ∧ TO n b (a &&& (2 ^ n - 1)) t n f g := by
  refine one_up n (fun k g => TO n b (a &&& (2 ^ n - 1)) t k f g) (fun F g k => sX7_goesWell_b2 F (sr m g) (nI b) (nI k)) (fun g => some (sr m (upd (upd (upd (upd (upd g (21 + 43 * b + 7) (nI 0)) (21 + 43 * b + 11) (g (21 + 43 * b + 11) + nI 1)) 4 (g 4 + nI 1)) (21 + 43 * b + 5) (nI 0)) (21 + 43 * b + 6) (nI 0)))) (fun F g h => ?_) (fun k g hk h => ?_) n 0 FU f (by omega) (FU_lt (by omega)) ⟨fun _ _ => rfl, fun o ho => by rw [if_neg (by omega)]⟩
  · have g0 : g 0 = nI n := by rw [h.1 0 (fun o ho => by omega), h0]
    simp only [sX7_goesWell_b2, sX7_enters]
    simp (disch := omega) only [zl, zm, nI_add, pk_mul, inb_t, ix_n, gd_tt, bd_e, nm_v, ite_not, ↓reduceIte, le_t, le_f, lt_t, lt_f, eq_t, eq_f, mone_f, mone_f2, sr_row, sr_pI, g0, m_sets, m_adds, upd_e, qn, qe]
  · have g0 : g 0 = nI n := by rw [h.1 0 (fun o ho => by omega), h0]
    have g1 : g 1 = nI t := by rw [h.1 1 (fun o ho => by omega), h1]
    have g9 : g (21 + 43 * b + 9) = nI a := by rw [h.1 _ (fun o ho => by omega), ha]
    have hE : a &&& (2 ^ n - 1) < 256 := and_lt8 _ ha2
    have hh : sX7_has (nI (a &&& (2 ^ n - 1))) (nI k) = some (nI ((a &&& (2 ^ n - 1)).testBit k).toNat) := m_has (by omega) (by omega)
    cases hc : (a &&& (2 ^ n - 1)).testBit k with
    | false =>
      refine ⟨g, fun F => ?_, h.1, fun o ho => ?_⟩
      · simp only [sX7_goesWell_b2]
        simp (disch := omega) only [zl, zm, nI_add, pk_mul, inb_t, ix_n, gd_tt, bd_e, nm_v, ite_not, ↓reduceIte, le_t, le_f, lt_t, lt_f, eq_t, eq_f, mone_f, mone_f2, sr_row, g0, m_earsOf hn g0 hb g9, hh, hc, Bool.toNat_false]
      · rw [h.2 o ho]
        by_cases hok : o = k
        · subst hok; rw [if_neg (by omega), if_neg (fun q => by rw [hc] at q; cases q.2)]
        · by_cases hz : o < k ∧ (a &&& (2 ^ n - 1)).testBit o = true
          · rw [if_pos hz, if_pos ⟨by omega, hz.2⟩]
          · rw [if_neg hz, if_neg (fun q => hz ⟨by omega, q.2⟩)]
    | true =>
      refine ⟨upd g (21 + 43 * k + (19 + b)) (nI t), fun F => ?_, fun i hi => ?_, fun o ho => ?_⟩
      · simp only [sX7_goesWell_b2]
        simp (disch := omega) only [zl, zm, nI_add, pk_mul, inb_t, ix_n, gd_tt, bd_e, nm_v, ite_not, ↓reduceIte, le_t, le_f, lt_t, lt_f, eq_t, eq_f, mone_f, mone_f2, sr_row, g0, m_earsOf hn g0 hb g9, hh, hc, Bool.toNat_true, g1, m_sets]
      · rw [upd_e, if_neg (hi k hk)]; exact h.1 i hi
      · rw [upd_e]
        by_cases hok : o = k
        · subst hok; rw [if_pos rfl, if_pos ⟨by omega, hc⟩]
        · rw [if_neg (by omega), h.2 o ho]
          by_cases hz : o < k ∧ (a &&& (2 ^ n - 1)).testBit o = true
          · rw [if_pos hz, if_pos ⟨by omega, hz.2⟩]
          · rw [if_neg hz, if_neg (fun q => hz ⟨by omega, q.2⟩)]
end
