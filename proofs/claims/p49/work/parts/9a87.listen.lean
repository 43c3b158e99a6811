/-! stage B: who hears whom in a slot -/
/-- why ear i, near those of N, in state st, doesn't hear s, when S send -/
def rsn (N S s : Nat) (st : Int32) : Nat := if N.testBit s = false then 1 else if st = nI 3 then 3 else if opB st = false then 2 else if 1 < pcN (N &&& S) 8 then 4 else 0
theorem rsn_le (N S s : Nat) (st : Int32) : rsn N S s st ≤ 4 := by
  unfold rsn
  split
  · omega
  · split
    · omega
    · split
      · omega
      · split <;> omega
theorem and_lt8 {a : Nat} (b : Nat) (h : a < 256) : a &&& b < 256 := Nat.lt_of_le_of_lt Nat.and_le_left h
theorem c_reason {z : St} {i N S s : Nat} {c : Bool} (hN : gI z (i + 1) 0 10 = nI N) (hN2 : N < 256) (hs : s < 8) (hc : c = decide (1 < pcN (N &&& S) 8)) : sX5_reasonAgainst (i + 1) z (nI s) (nI c.toNat) = some (nI (rsn N S s (gI z (i + 1) 0 6))) := by
  unfold sX5_reasonAgainst rsn
  rw [hN, c_isIn (by omega) (by omega), c_open, hc]
  simp only [zl, bd_e]
  cases h1 : N.testBit s with
  | false => rfl
  | true =>
    by_cases h2 : gI z (i + 1) 0 6 = nI 3
    · simp (disch := omega) only [Bool.toNat_true, eq_f, not_false_eq_true, ↓reduceIte, h2, not_true_eq_false, Bool.true_eq_false]
    · cases h3 : opB (gI z (i + 1) 0 6) with
      | false => simp (disch := omega) only [Bool.toNat_true, Bool.toNat_false, eq_f, not_false_eq_true, ↓reduceIte, h2, not_true_eq_false, Bool.true_eq_false]
      | true =>
        by_cases h4 : 1 < pcN (N &&& S) 8
        · simp (disch := omega) only [Bool.toNat_true, Bool.toNat_false, eq_f, not_false_eq_true, ↓reduceIte, h2, not_true_eq_false, Bool.true_eq_false, h4, decide_true]
        · simp (disch := omega) only [Bool.toNat_true, Bool.toNat_false, eq_f, not_false_eq_true, ↓reduceIte, h2, not_true_eq_false, Bool.true_eq_false, h4, decide_false]
/-- after the ears below a, and of ear a the senders below s -/
def xL (x : St) (S a s cc : Nat) : St := (fun o j i => if o = 0 ∧ j = 0 ∧ i = 9 then nI cc else if j = 3 ∧ 1 ≤ o ∧ S.testBit (o - 1) = true ∧ (i < a ∨ (i = a ∧ o - 1 < s)) ∧ gI x o 3 i = nI 0 then nI (rsn (NB x i) S (o - 1) (gI x (i + 1) 0 6)) else x.1 o j i, x.2)
section
variable {x : St} {S a s cc n : Nat}
theorem xL_g (o j i : Nat) : gI (xL x S a s cc) o j i = if o = 0 ∧ j = 0 ∧ i = 9 then nI cc else if j = 3 ∧ 1 ≤ o ∧ S.testBit (o - 1) = true ∧ (i < a ∨ (i = a ∧ o - 1 < s)) ∧ gI x o 3 i = nI 0 then nI (rsn (NB x i) S (o - 1) (gI x (i + 1) 0 6)) else gI x o j i := rfl
theorem xL_o {o j i : Nat} (h : ¬ (o = 0 ∧ j = 0 ∧ i = 9)) (h3 : ¬ j = 3) : gI (xL x S a s cc) o j i = gI x o j i := by
  rw [xL_g, if_neg h, if_neg (fun q => h3 q.1)]
theorem xL_c (c2 : Nat) : pI (xL x S a s cc) 0 0 9 (nI c2) = xL x S a s c2 := by
  refine Prod.ext (funext fun o => funext fun j => funext fun i => ?_) rfl
  show (if o = 0 ∧ j = 0 ∧ i = 9 then nI c2 else gI (xL x S a s cc) o j i) = gI (xL x S a s c2) o j i
  rw [xL_g, xL_g]
  by_cases h : o = 0 ∧ j = 0 ∧ i = 9
  · rw [if_pos h, if_pos h]
  · rw [if_neg h, if_neg h, if_neg h]
theorem xL_0 (h : gI x 0 0 9 = nI cc) : xL x S 0 0 cc = x := by
  refine Prod.ext (funext fun o => funext fun j => funext fun i => ?_) rfl
  show gI (xL x S 0 0 cc) o j i = gI x o j i
  rw [xL_g]
  by_cases h2 : o = 0 ∧ j = 0 ∧ i = 9
  · rw [if_pos h2, h2.1, h2.2.1, h2.2.2, h]
  · rw [if_neg h2, if_neg (by omega)]
theorem xL_row (hS : S < 2 ^ n) : xL x S a n cc = xL x S (a + 1) 0 cc := by
  refine Prod.ext (funext fun o => funext fun j => funext fun i => ?_) rfl
  show gI (xL x S a n cc) o j i = gI (xL x S (a + 1) 0 cc) o j i
  rw [xL_g, xL_g]
  have hb : S.testBit (o - 1) = true → o - 1 < n := fun h => by
    rcases Nat.lt_or_ge (o - 1) n with h2 | h2
    · exact h2
    · rw [Nat.testBit_lt_two_pow (Nat.lt_of_lt_of_le hS (Nat.pow_le_pow_right (n := 2) (by decide) h2))] at h; cases h
  by_cases h2 : o = 0 ∧ j = 0 ∧ i = 9
  · rw [if_pos h2, if_pos h2]
  · rw [if_neg h2, if_neg h2]
    by_cases h3 : j = 3 ∧ 1 ≤ o ∧ S.testBit (o - 1) = true ∧ (i < a ∨ (i = a ∧ o - 1 < n)) ∧ gI x o 3 i = nI 0
    · rw [if_pos h3, if_pos ⟨h3.1, h3.2.1, h3.2.2.1, by have := h3.2.2.2.1; omega, h3.2.2.2.2⟩]
    · rw [if_neg h3, if_neg (fun q => h3 ⟨q.1, q.2.1, q.2.2.1, by have := hb q.2.2.1; have := q.2.2.2.1; omega, q.2.2.2.2⟩)]
theorem xL_same (h : ¬ (S.testBit s = true ∧ gI x (s + 1) 3 a = nI 0)) : xL x S a s cc = xL x S a (s + 1) cc := by
  refine Prod.ext (funext fun o => funext fun j => funext fun i => ?_) rfl
  show gI (xL x S a s cc) o j i = gI (xL x S a (s + 1) cc) o j i
  rw [xL_g, xL_g]
  by_cases h2 : o = 0 ∧ j = 0 ∧ i = 9
  · rw [if_pos h2, if_pos h2]
  · rw [if_neg h2, if_neg h2]
    by_cases h3 : j = 3 ∧ 1 ≤ o ∧ S.testBit (o - 1) = true ∧ (i < a ∨ (i = a ∧ o - 1 < s)) ∧ gI x o 3 i = nI 0
    · rw [if_pos h3, if_pos ⟨h3.1, h3.2.1, h3.2.2.1, by have := h3.2.2.2.1; omega, h3.2.2.2.2⟩]
    · rw [if_neg h3, if_neg]
      intro q
      by_cases h4 : i = a ∧ o - 1 = s
      · obtain ⟨rfl, rfl⟩ := h4
        refine h ⟨q.2.2.1, ?_⟩
        rw [show o - 1 + 1 = o by omega]; exact q.2.2.2.2
      · exact h3 ⟨q.1, q.2.1, q.2.2.1, by have := q.2.2.2.1; omega, q.2.2.2.2⟩
theorem xL_put (h : S.testBit s = true) (h0 : gI x (s + 1) 3 a = nI 0) : pI (xL x S a s cc) (s + 1) 3 a (nI (rsn (NB x a) S s (gI x (a + 1) 0 6))) = xL x S a (s + 1) cc := by
  refine Prod.ext (funext fun o => funext fun j => funext fun i => ?_) rfl
  show (if o = s + 1 ∧ j = 3 ∧ i = a then nI (rsn (NB x a) S s (gI x (a + 1) 0 6)) else gI (xL x S a s cc) o j i) = gI (xL x S a (s + 1) cc) o j i
  rw [xL_g, xL_g]
  by_cases h4 : o = s + 1 ∧ j = 3 ∧ i = a
  · obtain ⟨rfl, rfl, rfl⟩ := h4
    rw [if_pos ⟨rfl, rfl, rfl⟩, if_neg (by omega), if_pos ⟨rfl, by omega, h, by omega, h0⟩]
    rfl
  · rw [if_neg h4]
    by_cases h2 : o = 0 ∧ j = 0 ∧ i = 9
    · rw [if_pos h2, if_pos h2]
    · rw [if_neg h2, if_neg h2]
      by_cases h3 : j = 3 ∧ 1 ≤ o ∧ S.testBit (o - 1) = true ∧ (i < a ∨ (i = a ∧ o - 1 < s)) ∧ gI x o 3 i = nI 0
      · rw [if_pos h3, if_pos ⟨h3.1, h3.2.1, h3.2.2.1, by have := h3.2.2.2.1; omega, h3.2.2.2.2⟩]
      · rw [if_neg h3, if_neg (fun q => h3 ⟨q.1, q.2.1, q.2.2.1, by have := q.2.2.2.1; omega, q.2.2.2.2⟩)]
def cL (x : St) (S : Nat) : Nat → Nat := smN fun i => (decide (1 < pcN (NB x i &&& S) 8) && opB (gI x (i + 1) 0 6)).toNat
/-- the class's walk over ears and senders -/
theorem c_ear (hn : n ≤ 8) (hx : gI x 0 0 2 = nI n) (hS : gI x 0 0 10 = nI S) (hS8 : S < 2 ^ n) (hN : ∀ k, k < n → gI x (k + 1) 0 10 = nI (NB x k) ∧ NB x k < 256) (k19 : St → Int32 → Option St) (ha : a < n) : sX5_listenToSenders_b80 FU k19 (xL x S a 0 cc) (nI a) (a + 1) (nI (decide (1 < pcN (NB x a &&& S) 8)).toNat) (nI 0) = k19 (xL x S (a + 1) 0 cc) (nI (a + 1)) := by
  have hS9 : S < 256 := Nat.lt_of_lt_of_le hS8 (Nat.pow_le_pow_right (n := 2) (by decide) hn)
  rw [← xL_row hS8]
  refine fuel_up n (fun F s => sX5_listenToSenders_b80 F k19 (xL x S a s cc) (nI a) (a + 1) (nI (decide (1 < pcN (NB x a &&& S) 8)).toNat) (nI s)) _ (fun F => ?_) (fun F s hs => ?_) n 0 FU (by omega) (FU_lt (by omega))
  · simp only [sX5_listenToSenders_b80]
    simp (disch := omega) only [zl, zm, nI_add, pk_mul, inb_t, ix_n, gd_tt, bd_e, nm_v, ite_not, ↓reduceIte, le_t, le_f, lt_t, lt_f, eq_t, eq_f, mone_f, mone_f2, xL_o, hx]
  · simp only [sX5_listenToSenders_b80]
    have e1 : gI (xL x S a s cc) (s + 1) 3 a = gI x (s + 1) 3 a := by
      rw [xL_g, if_neg (by omega), if_neg (by omega)]
    have e2 : sX6_isIn (nI S) (nI s) = some (nI (S.testBit s).toNat) := c_isIn (by omega) (by omega)
    have e3 : sX5_reasonAgainst (a + 1) (xL x S a s cc) (nI s) (nI (decide (1 < pcN (NB x a &&& S) 8)).toNat) = some (nI (rsn (NB x a) S s (gI x (a + 1) 0 6))) := by
      rw [c_reason (S := S) (by rw [xL_o (by omega) (by omega)]; exact (hN a ha).1) (hN a ha).2 (by omega) rfl, xL_o (by omega) (by omega)]
    cases h1 : S.testBit s with
    | false =>
      rw [← xL_same (s := s) (fun q => by rw [h1] at q; cases q.1)]
      simp (disch := omega) only [zl, zm, nI_add, pk_mul, inb_t, ix_n, gd_tt, bd_e, nm_v, ite_not, ↓reduceIte, le_t, le_f, lt_t, lt_f, eq_t, eq_f, mone_f, mone_f2, xL_o, hx, hS, e2, h1, Bool.toNat_false]
    | true =>
      by_cases h2 : gI x (s + 1) 3 a = nI 0
      · rw [← xL_put h1 h2]
        simp (disch := omega) only [zl, zm, nI_add, pk_mul, inb_t, ix_n, gd_tt, bd_e, nm_v, ite_not, ↓reduceIte, le_t, le_f, lt_t, lt_f, eq_t, eq_f, mone_f, mone_f2, xL_o, hx, hS, e2, h1, Bool.toNat_true, e1, h2, e3]
      · rw [← xL_same (s := s) (fun q => h2 q.2)]
        simp (disch := omega) only [zl, zm, nI_add, pk_mul, inb_t, ix_n, gd_tt, bd_e, nm_v, ite_not, ↓reduceIte, le_t, le_f, lt_t, lt_f, eq_t, eq_f, mone_f, mone_f2, xL_o, hx, hS, e2, h1, Bool.toNat_true, e1, h2]
theorem c_ears (hn : n ≤ 8) (hx : gI x 0 0 2 = nI n) (hS : gI x 0 0 10 = nI S) (hS8 : S < 2 ^ n) (hN : ∀ k, k < n → gI x (k + 1) 0 10 = nI (NB x k) ∧ NB x k < 256) (hc : gI x 0 0 9 = nI cc) (hc2 : cc < 2 ^ 30) : sX5_listenToSenders_b19 FU x (nI 0) = some (xL x S n 0 (cc + cL x S n)) := by
  have h0 : x = xL x S 0 0 (cc + cL x S 0) := (xL_0 (cc := cc + 0) hc).symm
  refine (congrArg (fun z => sX5_listenToSenders_b19 FU z (nI 0)) h0).trans ?_
  refine fuel_up n (fun F a => sX5_listenToSenders_b19 F (xL x S a 0 (cc + cL x S a)) (nI a)) _ (fun F => ?_) (fun F a ha => ?_) n 0 FU (by omega) (FU_lt (by omega))
  · simp only [sX5_listenToSenders_b19]
    simp (disch := omega) only [zl, zm, nI_add, pk_mul, inb_t, ix_n, gd_tt, bd_e, nm_v, ite_not, ↓reduceIte, le_t, le_f, lt_t, lt_f, eq_t, eq_f, mone_f, mone_f2, xL_o, hx]
  · have hb1 : cL x S a ≤ a * 1 := smN_le (fun k => Bool.toNat_le _) a
    have hN1 := and_lt8 S (hN a ha).2
    have hp : pcN (NB x a &&& S) 8 ≤ 8 := pcN_le _ 8
    have he (cc) := c_ear (cc := cc) hn hx hS hS8 hN (fun x' a1' => sX5_listenToSenders_b19 F x' a1') ha
    have hst : cL x S (a + 1) = cL x S a + (decide (1 < pcN (NB x a &&& S) 8) && opB (gI x (a + 1) 0 6)).toNat := rfl
    simp only [sX5_listenToSenders_b19, sX5_listenToSenders_b55]
    by_cases h1 : 1 < pcN (NB x a &&& S) 8
    · rw [decide_eq_true h1] at hst he
      simp only [Bool.toNat_true, Bool.true_and] at he hst
      cases h2 : opB (gI x (a + 1) 0 6) with
      | false =>
        rw [hst, h2]
        simp (disch := omega) only [zl, zm, nI_add, pk_mul, inb_t, ix_n, gd_tt, bd_e, nm_v, ite_not, ↓reduceIte, le_t, le_f, lt_t, lt_f, eq_t, eq_f, mone_f, mone_f2, xL_o, hx, hS, (hN a ha).1, n_and, c_bc hN1, c_open, h2, Bool.toNat_false, he, Nat.add_zero]
      | true =>
        have e9 : gI (xL x S a 0 (cc + cL x S a)) 0 0 9 = nI (cc + cL x S a) := by rw [xL_g, if_pos ⟨rfl, rfl, rfl⟩]
        rw [hst, h2]
        simp (disch := omega) only [zl, zm, nI_add, pk_mul, inb_t, ix_n, gd_tt, bd_e, nm_v, ite_not, ↓reduceIte, le_t, le_f, lt_t, lt_f, eq_t, eq_f, mone_f, mone_f2, xL_o, hx, hS, (hN a ha).1, n_and, c_bc hN1, c_open, h2, Bool.toNat_true, e9, xL_c, he, Nat.add_assoc]
    · rw [decide_eq_false h1] at hst he
      simp only [Bool.toNat_false, Bool.false_and] at he hst
      rw [hst]
      simp (disch := omega) only [zl, zm, nI_add, pk_mul, inb_t, ix_n, gd_tt, bd_e, nm_v, ite_not, ↓reduceIte, le_t, le_f, lt_t, lt_f, eq_t, eq_f, mone_f, mone_f2, xL_o, hx, hS, (hN a ha).1, n_and, c_bc hN1, he, Nat.add_zero]
end
