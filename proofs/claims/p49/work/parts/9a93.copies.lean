/-! stage B: copies -/
/-- an array of the model as a function -/
def sA (m : St) (a : Nat) (f : Nat → Int32) : St := (fun o j k => if o = 0 ∧ j = a then f k else m.1 o j k, m.2)
def sN (m : St) (a : Nat) (f : Nat → Int64) : St := (m.1, fun o j k => if o = 0 ∧ j = a then f k else m.2 o j k)
section
variable (m : St) (a : Nat) (f : Nat → Int32) (w : Nat → Int64)
theorem sA_g (o j k : Nat) : gI (sA m a f) o j k = if o = 0 ∧ j = a then f k else gI m o j k := rfl
theorem sA_2 : sA m 2 f = sr m f := rfl
theorem sA_L (o j k : Nat) : gL (sA m a f) o j k = gL m o j k := rfl
theorem sN_g (o j k : Nat) : gL (sN m a w) o j k = if o = 0 ∧ j = a then w k else gL m o j k := rfl
theorem sN_I (o j k : Nat) : gI (sN m a w) o j k = gI m o j k := rfl
theorem sA_i (k : Nat) : gI (sA m a f) 0 a k = f k := (sA_g m a f 0 a k).trans (if_pos ⟨rfl, rfl⟩)
theorem sA_n {j : Nat} (h : ¬ j = a) (k : Nat) : gI (sA m a f) 0 j k = gI m 0 j k := (sA_g m a f 0 j k).trans (if_neg (fun q => h q.2))
theorem sN_i (k : Nat) : gL (sN m a w) 0 a k = w k := (sN_g m a w 0 a k).trans (if_pos ⟨rfl, rfl⟩)
theorem sN_n {j : Nat} (h : ¬ j = a) (k : Nat) : gL (sN m a w) 0 j k = gL m 0 j k := (sN_g m a w 0 j k).trans (if_neg (fun q => h q.2))
theorem sA_p (i : Nat) (v : Int32) : pI (sA m a f) 0 a i v = sA m a (upd f i v) := by
  refine Prod.ext (funext fun o => funext fun b => funext fun c => ?_) rfl
  show (if o = 0 ∧ b = a ∧ c = i then v else if o = 0 ∧ b = a then f c else m.1 o b c) = if o = 0 ∧ b = a then (if c = i then v else f c) else m.1 o b c
  by_cases h : o = 0 <;> by_cases h1 : b = a <;> by_cases h2 : c = i <;> simp [h, h1, h2]
theorem sA_s : sA m a (gI m 0 a) = m := by
  refine Prod.ext (funext fun o => funext fun b => funext fun c => ?_) rfl
  show (if o = 0 ∧ b = a then m.1 0 a c else m.1 o b c) = m.1 o b c
  by_cases h : o = 0 ∧ b = a
  · obtain ⟨rfl, rfl⟩ := h; simp
  · simp [h]
theorem sN_p (i : Nat) (v : Int64) : pL (sN m a w) 0 a i v = sN m a (fun k => if k = i then v else w k) := by
  refine Prod.ext rfl (funext fun o => funext fun b => funext fun c => ?_)
  show (if o = 0 ∧ b = a ∧ c = i then v else if o = 0 ∧ b = a then w c else m.2 o b c) = if o = 0 ∧ b = a then (if c = i then v else w c) else m.2 o b c
  by_cases h : o = 0 <;> by_cases h1 : b = a <;> by_cases h2 : c = i <;> simp [h, h1, h2]
theorem sN_s : sN m a (gL m 0 a) = m := by
  refine Prod.ext rfl (funext fun o => funext fun b => funext fun c => ?_)
  show (if o = 0 ∧ b = a then m.2 0 a c else m.2 o b c) = m.2 o b c
  by_cases h : o = 0 ∧ b = a
  · obtain ⟨rfl, rfl⟩ := h; simp
  · simp [h]
end
/-- the first k cells of a row copied -/
def cpy (g h : Nat → Int32) (a b k : Nat) : Nat → Int32 := fun i => if b ≤ i ∧ i < b + k then g (a + (i - b)) else h i
theorem cpy_0 (g h : Nat → Int32) (a b : Nat) : cpy g h a b 0 = h := funext fun i => if_neg (by omega)
theorem cpy_s (g h : Nat → Int32) (a b k : Nat) : upd (cpy g h a b k) (b + k) (g (a + k)) = cpy g h a b (k + 1) := funext fun i => by
  rw [upd_e]
  show (if i = b + k then g (a + k) else if b ≤ i ∧ i < b + k then g (a + (i - b)) else h i) = if b ≤ i ∧ i < b + (k + 1) then g (a + (i - b)) else h i
  by_cases h1 : i = b + k
  · rw [if_pos h1, if_pos (by omega)]; congr 1; omega
  · rw [if_neg h1]
    by_cases h2 : b ≤ i ∧ i < b + k
    · rw [if_pos h2, if_pos (by omega)]
    · rw [if_neg h2, if_neg (by omega)]
theorem cpy_i {g h : Nat → Int32} {a b k i : Nat} (hi : i < k) : cpy g h a b k (b + i) = g (a + i) := by
  refine (if_pos (by omega)).trans ?_; congr 1; omega
theorem cpy_i0 {g h : Nat → Int32} {a k i : Nat} (hi : i < k) : cpy g h a 0 k i = g (a + i) := by
  have := @cpy_i g h a 0 k i hi
  rwa [Nat.zero_add] at this
theorem cpy_o {g h : Nat → Int32} {a b k i : Nat} (hi : ¬ (b ≤ i ∧ i < b + k)) : cpy g h a b k i = h i := if_neg hi
theorem m_copies {m : St} {a b j0 j2 : Nat} (hj : ¬ j0 = j2) (ha : a + 365 ≤ lenM j0) (hb : b + 365 ≤ lenM j2) (hl : lenM j0 ≤ 3000 ∧ lenM j2 ≤ 3000) : sX7_copiesRow j0 j2 m (nI a) (nI b) = some (sA m j2 (cpy (gI m 0 j0) (gI m 0 j2) a b 365)) := by
  have h0 : m = sA m j2 (cpy (gI m 0 j0) (gI m 0 j2) a b 0) := by rw [cpy_0, sA_s]
  refine (congrArg (fun z => sX7_copiesRow j0 j2 z (nI a) (nI b)) h0).trans ?_
  refine fuel_up 365 (fun F k => sX7_copiesRow_b3 F j0 j2 (sA m j2 (cpy (gI m 0 j0) (gI m 0 j2) a b k)) (nI a) (nI b) (nI k)) _ (fun F => ?_) (fun F k hk => ?_) 365 0 FU (by omega) (FU_lt (by omega))
  · simp only [sX7_copiesRow_b3]
    simp (disch := omega) only [zl, zm, nI_add, pk_mul, inb_t, ix_n, gd_tt, bd_e, nm_v, ite_not, ↓reduceIte, le_t, le_f, lt_t, lt_f, eq_t, eq_f, mone_f, mone_f2]
  · simp only [sX7_copiesRow_b3]
    have e1 : gI (sA m j2 (cpy (gI m 0 j0) (gI m 0 j2) a b k)) 0 j0 (a + k) = gI m 0 j0 (a + k) := by
      rw [sA_g, if_neg (fun q => hj q.2)]
    simp (disch := omega) only [zl, zm, nI_add, pk_mul, inb_t, ix_n, gd_tt, bd_e, nm_v, ite_not, ↓reduceIte, le_t, le_f, lt_t, lt_f, eq_t, eq_f, mone_f, mone_f2, e1, sA_p, cpy_s]
theorem m_names {m : St} {j0 j1 : Nat} (hj : ¬ j0 = j1) (hl : lenM j0 = 8 ∧ lenM j1 = 8) : ∃ w, sX7_copiesNames j0 j1 m = some (sN m j1 w) ∧ ∀ k, k < 8 → w k = gL m 0 j0 k := by
  obtain ⟨w, e1, e2⟩ := one_up 8 (fun k w => ∀ i, i < k → w i = gL m 0 j0 i) (fun F w k => sX7_copiesNames_b2 F j0 j1 (sN m j1 w) (nI k)) (fun w => some (sN m j1 w)) (fun F w h => by
    simp only [sX7_copiesNames_b2]
    simp (disch := omega) only [zl, zm, nI_add, pk_mul, inb_t, ix_n, gd_tt, bd_e, nm_v, ite_not, ↓reduceIte, le_t, le_f, lt_t, lt_f, eq_t, eq_f, mone_f, mone_f2]) (fun k w hk h => by
    refine ⟨fun i => if i = k then gL m 0 j0 k else w i, fun F => ?_, fun i hi => ?_⟩
    · simp only [sX7_copiesNames_b2]
      have e1 : gL (sN m j1 w) 0 j0 k = gL m 0 j0 k := by rw [sN_g, if_neg (fun q => hj q.2)]
      simp (disch := omega) only [zl, zm, nI_add, pk_mul, inb_t, ix_n, gd_tt, bd_e, nm_v, ite_not, ↓reduceIte, le_t, le_f, lt_t, lt_f, eq_t, eq_f, mone_f, mone_f2, hl.1, hl.2, e1, sN_p]
    · dsimp only
      by_cases hik : i = k
      · rw [if_pos hik, hik]
      · rw [if_neg hik]; exact h i (by omega)) 8 0 FU (gL m 0 j1) (by omega) (FU_lt (by omega)) (fun i hi => absurd hi (by omega))
  refine ⟨w, ?_, e2⟩
  rw [sN_s] at e1
  exact e1
/-! the class -/
def relC (j k : Nat) : Prop := (j = 0 ∧ 1 ≤ k ∧ k ≤ 13) ∨ (j = 1 ∧ k < 4) ∨ (2 ≤ j ∧ j ≤ 4 ∧ k < 8)
/-- a beacon is as another one -/
def CB (y x x' : St) (b : Nat) : Prop := (∀ o j k, ¬ o = b + 1 → gI x' o j k = gI x o j k ∧ gL x' o j k = gL x o j k) ∧ (∀ j k, relC j k → gI x' (b + 1) j k = gI y (b + 1) j k) ∧ gL x' (b + 1) 0 0 = gL y (b + 1) 0 0
theorem c_copyB {y x : St} {b : Nat} (hs : isb (gI y (b + 1) 0 9) = true) : ∃ x', sX0_copyFrom y (b + 1) (b + 1) x = some x' ∧ CB y x x' b := by
  unfold sX0_copyFrom
  simp only [nm_v]
  rw [hs]
  simp only [gd_tt]
  generalize hz : pI (pI (pI (pI (pI (pI (pI (pI (pI (pI (pI (pI (pI (pL x (b + 1) 0 0 (gL y (b + 1) 0 0)) (b + 1) 0 1 (gI y (b + 1) 0 1)) (b + 1) 0 2 (gI y (b + 1) 0 2)) (b + 1) 0 3 (gI y (b + 1) 0 3)) (b + 1) 0 4 (gI y (b + 1) 0 4)) (b + 1) 0 5 (gI y (b + 1) 0 5)) (b + 1) 0 6 (gI y (b + 1) 0 6)) (b + 1) 0 7 (gI y (b + 1) 0 7)) (b + 1) 0 8 (gI y (b + 1) 0 8)) (b + 1) 0 9 (gI y (b + 1) 0 9)) (b + 1) 0 10 (gI y (b + 1) 0 10)) (b + 1) 0 11 (gI y (b + 1) 0 11)) (b + 1) 0 12 (gI y (b + 1) 0 12)) (b + 1) 0 13 (gI y (b + 1) 0 13) = z
  have z1 : ∀ o j k, ¬ o = b + 1 → gI z o j k = gI x o j k ∧ gL z o j k = gL x o j k := fun o j k ho => by
    rw [← hz]
    simp (disch := omega) only [gI_pI, gL_pL, gI_pL, gL_pI, qn, not_true_eq_false, not_false_eq_true, true_and, and_true, false_and, and_false, and_self, Nat.add_right_cancel_iff, ↓reduceIte]
  have z2 : ∀ k, 1 ≤ k → k ≤ 13 → gI z (b + 1) 0 k = gI y (b + 1) 0 k := fun k h1 h2 => by
    rw [← hz]
    rcases (by omega : k = 1 ∨ k = 2 ∨ k = 3 ∨ k = 4 ∨ k = 5 ∨ k = 6 ∨ k = 7 ∨ k = 8 ∨ k = 9 ∨ k = 10 ∨ k = 11 ∨ k = 12 ∨ k = 13) with rfl | rfl | rfl | rfl | rfl | rfl | rfl | rfl | rfl | rfl | rfl | rfl | rfl <;> simp (disch := omega) only [gI_pI, gL_pL, gI_pL, gL_pI, qn, qe, not_true_eq_false, not_false_eq_true, true_and, and_true, false_and, and_false, and_self, Nat.add_right_cancel_iff, ↓reduceIte]
  have z3 : gL z (b + 1) 0 0 = gL y (b + 1) 0 0 := by
    rw [← hz]
    simp (disch := omega) only [gI_pI, gL_pL, gI_pL, gL_pI, qn, qe, not_true_eq_false, not_false_eq_true, true_and, and_true, false_and, and_false, and_self, Nat.add_right_cancel_iff, ↓reduceIte]
  obtain ⟨u, e1, e2, e3⟩ := one_up 4 (fun a u => (∀ k, k < a → gI u (b + 1) 1 k = gI y (b + 1) 1 k) ∧ (∀ o j k, ¬ (o = b + 1 ∧ j = 1) → gI u o j k = gI z o j k) ∧ ∀ o j k, gL u o j k = gL z o j k) (fun F u a => sX0_copyFrom_b114 F y (b + 1) (b + 1) u (nI a)) (fun u => sX0_copyFrom_b139 FU y (b + 1) (b + 1) u (nI 0)) (fun F u h => by
    simp only [sX0_copyFrom_b114]
    simp (disch := omega) only [zl, zm, nI_add, pk_mul, inb_t, ix_n, gd_tt, bd_e, nm_v, ite_not, ↓reduceIte, le_t, le_f, lt_t, lt_f, eq_t, eq_f, mone_f, mone_f2]) (fun a u ha h => by
    refine ⟨pI u (b + 1) 1 a (gI y (b + 1) 1 a), fun F => ?_, fun k hk => ?_, fun o j k ho => ?_, fun o j k => ?_⟩
    · simp only [sX0_copyFrom_b114]
      simp (disch := omega) only [zl, zm, nI_add, pk_mul, inb_t, ix_n, gd_tt, bd_e, nm_v, ite_not, ↓reduceIte, le_t, le_f, lt_t, lt_f, eq_t, eq_f, mone_f, mone_f2]
    · rw [gI_pI]
      by_cases hka : k = a
      · rw [if_pos ⟨rfl, rfl, hka⟩, hka]
      · rw [if_neg (fun q => hka q.2.2)]; exact h.1 k (by omega)
    · rw [gI_pI, if_neg (fun q => ho ⟨q.1, q.2.1⟩)]; exact h.2.1 o j k ho
    · rw [gL_pI]; exact h.2.2 o j k) 4 0 FU z (by omega) (FU_lt (by omega)) ⟨fun k hk => absurd hk (by omega), fun _ _ _ _ => rfl, fun _ _ _ => rfl⟩
  obtain ⟨v, f1, f2, f3⟩ := one_up 8 (fun a v => (∀ j k, 2 ≤ j → j ≤ 4 → k < a → gI v (b + 1) j k = gI y (b + 1) j k) ∧ (∀ o j k, ¬ (o = b + 1 ∧ 2 ≤ j ∧ j ≤ 4) → gI v o j k = gI u o j k) ∧ ∀ o j k, gL v o j k = gL u o j k) (fun F v a => sX0_copyFrom_b139 F y (b + 1) (b + 1) v (nI a)) some (fun F v h => by
    simp only [sX0_copyFrom_b139]
    simp (disch := omega) only [zl, zm, nI_add, pk_mul, inb_t, ix_n, gd_tt, bd_e, nm_v, ite_not, ↓reduceIte, le_t, le_f, lt_t, lt_f, eq_t, eq_f, mone_f, mone_f2]) (fun a v ha h => by
    refine ⟨pI (pI (pI v (b + 1) 2 a (gI y (b + 1) 2 a)) (b + 1) 3 a (gI y (b + 1) 3 a)) (b + 1) 4 a (gI y (b + 1) 4 a), fun F => ?_, fun j k h2 h4 hk => ?_, fun o j k ho => ?_, fun o j k => ?_⟩
    · simp only [sX0_copyFrom_b139]
      simp (disch := omega) only [zl, zm, nI_add, pk_mul, inb_t, ix_n, gd_tt, bd_e, nm_v, ite_not, ↓reduceIte, le_t, le_f, lt_t, lt_f, eq_t, eq_f, mone_f, mone_f2]
    · by_cases hka : k = a
      · subst hka
        rcases (by omega : j = 2 ∨ j = 3 ∨ j = 4) with rfl | rfl | rfl <;> simp (disch := omega) only [gI_pI, gL_pL, gI_pL, gL_pI, qn, qe, not_true_eq_false, not_false_eq_true, true_and, and_true, false_and, and_false, and_self, Nat.add_right_cancel_iff, ↓reduceIte]
      · simp (disch := omega) only [gI_pI, gL_pL, gI_pL, gL_pI, qn, qe, not_true_eq_false, not_false_eq_true, true_and, and_true, false_and, and_false, and_self, Nat.add_right_cancel_iff, ↓reduceIte]
        exact h.1 j k h2 h4 (by omega)
    · have : ¬ (o = b + 1 ∧ j = 4 ∧ k = a) ∧ ¬ (o = b + 1 ∧ j = 3 ∧ k = a) ∧ ¬ (o = b + 1 ∧ j = 2 ∧ k = a) := by omega
      rw [gI_pI, gI_pI, gI_pI, if_neg this.1, if_neg this.2.1, if_neg this.2.2]; exact h.2.1 o j k ho
    · rw [gL_pI, gL_pI, gL_pI]; exact h.2.2 o j k) 8 0 FU u (by omega) (FU_lt (by omega)) ⟨fun j k _ _ hk => absurd hk (by omega), fun _ _ _ _ => rfl, fun _ _ _ => rfl⟩
  refine ⟨v, (show sX0_copyFrom_b114 FU y (b + 1) (b + 1) z (nI 0) = some v from e1.trans f1), fun o j k ho => ⟨?_, ?_⟩, fun j k hr => ?_, ?_⟩
  · rw [f3.1 o j k (fun q => ho q.1), e3.1 o j k (fun q => ho q.1)]; exact (z1 o j k ho).1
  · rw [f3.2, e3.2]; exact (z1 o j k ho).2
  · rcases hr with ⟨rfl, h1, h2⟩ | ⟨rfl, h1⟩ | ⟨h1, h2, h3⟩
    · rw [f3.1 _ _ _ (by omega), e3.1 _ _ _ (by omega)]; exact z2 k h1 h2
    · rw [f3.1 _ _ _ (by omega)]; exact e2 k h1
    · exact f2 j k h1 h2 h3
  · rw [f3.2, e3.2, z3]
