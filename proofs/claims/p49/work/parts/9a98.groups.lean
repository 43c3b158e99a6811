/-! stage B: hidden, groups -/
theorem smN_add (p q : Nat → Nat) : ∀ n, smN (fun k => p k + q k) n = smN p n + smN q n
  | 0 => rfl
  | n + 1 => by
    show smN (fun k => p k + q k) n + (p n + q n) = (smN p n + p n) + (smN q n + q n)
    rw [smN_add p q n]; omega
theorem smN_0 {p : Nat → Nat} : ∀ {n : Nat}, (∀ k, k < n → p k = 0) → smN p n = 0
  | 0, _ => rfl
  | n + 1, h => by
    show smN p n + p n = 0
    rw [smN_0 (n := n) fun k hk => h k (by omega), h n (by omega)]
theorem smN_more {p : Nat → Nat} {n : Nat} : ∀ d, (∀ k, n ≤ k → p k = 0) → smN p (n + d) = smN p n
  | 0, _ => rfl
  | d + 1, h => by
    show smN p (n + d) + p (n + d) = smN p n
    rw [smN_more d h, h _ (by omega), Nat.add_zero]
/-- each pair is met from both its ends -/
theorem smN_pairs {e : Nat → Nat → Nat} (hs : ∀ i j, e i j = e j i) (h0 : ∀ i, e i i = 0) : ∀ n, smN (fun i => smN (e i) n) n = 2 * smN (fun b => smN (fun a => e a b) b) n
  | 0 => rfl
  | n + 1 => by
    have ih := smN_pairs hs h0 n
    have h1 : smN (fun i => smN (e i) (n + 1)) (n + 1) = smN (fun i => smN (e i) n + e i n) n + (smN (e n) n + e n n) := rfl
    have h2 : smN (fun b => smN (fun a => e a b) b) (n + 1) = smN (fun b => smN (fun a => e a b) b) n + smN (fun a => e a n) n := rfl
    have h3 : smN (e n) n = smN (fun a => e a n) n := smN_cg fun k _ => hs n k
    rw [h1, h2, smN_add, ih, h0, h3]; omega
theorem pcN_sm (a : Nat) : ∀ n, pcN a n = smN (fun j => (a.testBit j).toNat) n
  | 0 => rfl
  | n + 1 => by
    show pcN a n + (a.testBit n).toNat = smN (fun j => (a.testBit j).toNat) n + (a.testBit n).toNat
    rw [pcN_sm a n]
section
variable {n t : Nat} {x m c : St} {f : Nat → Int32}
def hdE (x : St) (A i j : Nat) : Nat := (A.testBit i && A.testBit j && !(decide (i = j)) && !((NB x i).testBit j)).toNat
theorem q_hidden (h : WS n t x f) (a : Int32) : ∃ r code v, sX6_hidden x a = some r ∧ sX7_hidden (sr m f) a = some (sr (pI m 0 0 0 (nI code)) f, v) ∧ Ans P3 r code v := by
  have hn := h.n8
  have hxn := h.xn
  have hfn := h.fn
  unfold sX6_hidden sX7_hidden
  rw [c_req hn h.xn, m_isBeacon hn h.fn]
  simp only [bd_e]
  rw [m_goesR]
  rcases in_case a n with ha | ⟨a, ha, rfl⟩
  · rw [ha]
    exact ⟨.inr 3, 1, nI 0, by first | rfl | (simp only [Bool.false_and, Bool.and_false, Bool.false_eq_true, ↓reduceIte]; rfl), by first | rfl | (simp only [Bool.false_and, Bool.and_false, Bool.false_eq_true, ↓reduceIte]; rfl), Or.inr ⟨3, rfl, by decide⟩⟩
  · rw [inb_t ha (by omega)]
    have hA := h.nb ha
    have hAn : ∀ j, (NB x a).testBit j = true → j < n := fun j hj => (h.2.2 a ha j hj).1
    -- the class
    have hk : ∀ k, k < n → (if (NB x a).testBit k = true then pcN ((NB x a &&& (2 ^ k ^^^ 255)) &&& (NB x k ^^^ 255)) 8 else 0) = smN (hdE x (NB x a) k) n := by
      intro k hk
      have h8 : smN (hdE x (NB x a) k) 8 = smN (hdE x (NB x a) k) n := by
        have := smN_more (p := hdE x (NB x a) k) (n := n) (8 - n) (fun j hj => by
          unfold hdE
          cases hq : (NB x a).testBit j with
          | true => exact absurd (hAn j hq) (by omega)
          | false => simp)
        rw [show n + (8 - n) = 8 by omega] at this
        exact this
      rw [← h8]
      cases hb : (NB x a).testBit k with
      | false =>
        rw [if_neg (by decide), smN_0]
        intro j _
        unfold hdE
        rw [hb]; rfl
      | true =>
        rw [if_pos rfl, pcN_sm]
        refine smN_cg fun j hj => ?_
        unfold hdE
        rw [Nat.testBit_and, Nat.testBit_and, Nat.testBit_xor, Nat.testBit_xor, b255, Nat.testBit_two_pow, decide_eq_true hj, hb]
        simp
    have hsum : ∀ k, k ≤ n → smN (fun i => smN (hdE x (NB x a) i) n) k ≤ k * 8 := fun k _ => smN_le (fun i => by
      have := smN_le (p := hdE x (NB x a) i) (c := 1) (fun j => Bool.toNat_le _) n
      omega) k
    have k1 : sX6_hidden_b23 FU x (nI (NB x a)) (nI 0) (nI 0) = some (.inl (nI (smN (fun i => smN (hdE x (NB x a) i) n) n / 2))) := by
      refine fuel_up n (fun F k => sX6_hidden_b23 F x (nI (NB x a)) (nI (smN (fun i => smN (hdE x (NB x a) i) n) k)) (nI k)) _ (fun F => ?_) (fun F k hk2 => ?_) n 0 FU (by omega) (FU_lt (by omega))
      · have := hsum n (Nat.le_refl n)
        simp only [sX6_hidden_b23]
        rw [hxn]
        simp (disch := omega) only [zl, zm, nI_add, pk_mul, inb_t, ix_n, gd_tt, bd_e, nm_v, ite_not, ↓reduceIte, le_t, le_f, lt_t, lt_f, eq_t, eq_f, mone_f, mone_f2, pk_div]
      · have h1 := c_isIn (a := NB x a) (k := k) (by omega) (by omega)
        have h2 := hk k hk2
        have hs : smN (fun i => smN (hdE x (NB x a) i) n) (k + 1) = smN (fun i => smN (hdE x (NB x a) i) n) k + smN (hdE x (NB x a) k) n := rfl
        rw [hs, ← h2]
        simp only [sX6_hidden_b23]
        rw [hxn]
        cases hb : (NB x a).testBit k with
        | false =>
          simp (disch := omega) only [zl, zm, nI_add, pk_mul, inb_t, ix_n, gd_tt, bd_e, nm_v, ite_not, ↓reduceIte, le_t, le_f, lt_t, lt_f, eq_t, eq_f, mone_f, mone_f2, sm_il, sm_ir, Bool.toNat_true, Bool.toNat_false, Bool.and_true, Bool.and_false, Bool.true_and, Bool.false_and, Bool.not_true, Bool.not_false, Bool.false_eq_true, Bool.true_eq_false, sr_row, sr_L, h1, hb, Nat.add_zero]
        | true =>
          have h3 := and_lt8 (2 ^ k ^^^ 255) hA.2
          have h4 := and_lt8 (NB x k ^^^ 255) h3
          have h5 : nI (NB x a) &&& (nI (2 ^ k) ^^^ mone) = nI (NB x a &&& (2 ^ k ^^^ 255)) := n_not hA.2
          have h6 : nI (NB x a &&& (2 ^ k ^^^ 255)) &&& (nI (NB x k) ^^^ mone) = nI (NB x a &&& (2 ^ k ^^^ 255) &&& (NB x k ^^^ 255)) := n_not h3
          simp (disch := omega) only [zl, zm, nI_add, pk_mul, inb_t, ix_n, gd_tt, bd_e, nm_v, ite_not, ↓reduceIte, le_t, le_f, lt_t, lt_f, eq_t, eq_f, mone_f, mone_f2, sm_il, sm_ir, Bool.toNat_true, Bool.toNat_false, Bool.and_true, Bool.and_false, Bool.true_and, Bool.false_and, Bool.not_true, Bool.not_false, Bool.false_eq_true, Bool.true_eq_false, sr_row, sr_L, h1, hb, sh1, h5, (h.nb hk2).1, h6, c_bc h4]
    -- the model
    have k2 : sX7_hidden_b18 FU (sr (pI m 0 0 0 (nI 0)) f) (nI a) (nI 0) (nI 0) = some (sr (pI m 0 0 0 (nI 0)) f, nI (smN (fun b => smN (fun i => hdE x (NB x a) i b) b) n)) := by
      refine fuel_up n (fun F k => sX7_hidden_b18 F (sr (pI m 0 0 0 (nI 0)) f) (nI a) (nI (smN (fun b => smN (fun i => hdE x (NB x a) i b) b) k)) (nI k)) _ (fun F => ?_) (fun F b hb => ?_) n 0 FU (by omega) (FU_lt (by omega))
      · simp only [sX7_hidden_b18]
        simp (disch := omega) only [zl, zm, nI_add, pk_mul, inb_t, ix_n, gd_tt, bd_e, nm_v, ite_not, ↓reduceIte, le_t, le_f, lt_t, lt_f, eq_t, eq_f, mone_f, mone_f2, sr_row, hfn]
      · have hs : smN (fun b => smN (fun i => hdE x (NB x a) i b) b) (b + 1) = smN (fun b => smN (fun i => hdE x (NB x a) i b) b) b + smN (fun i => hdE x (NB x a) i b) b := rfl
        rw [hs]
        generalize smN (fun b => smN (fun i => hdE x (NB x a) i b) b) b = C
        simp only [sX7_hidden_b18]
        have hin : ∀ k18 : St → Int32 → Int32 → Int32 → Option (St × Int32), sX7_hidden_b31 FU k18 (sr (pI m 0 0 0 (nI 0)) f) (nI a) (nI C) (nI b) (nI 0) = k18 (sr (pI m 0 0 0 (nI 0)) f) (nI a) (nI (C + smN (fun i => hdE x (NB x a) i b) b)) (nI (b + 1)) := by
          intro k18
          refine fuel_up b (fun F i => sX7_hidden_b31 F k18 (sr (pI m 0 0 0 (nI 0)) f) (nI a) (nI (C + smN (fun i => hdE x (NB x a) i b) i)) (nI b) (nI i)) _ (fun F => ?_) (fun F i hi => ?_) b 0 FU (by omega) (FU_lt (by omega))
          · simp only [sX7_hidden_b31]
            simp (disch := omega) only [zl, zm, nI_add, pk_mul, inb_t, ix_n, gd_tt, bd_e, nm_v, ite_not, ↓reduceIte, le_t, le_f, lt_t, lt_f, eq_t, eq_f, mone_f, mone_f2]
          · have hs : smN (fun i => hdE x (NB x a) i b) (i + 1) = smN (fun i => hdE x (NB x a) i b) i + hdE x (NB x a) i b := rfl
            rw [hs]
            generalize smN (fun i => hdE x (NB x a) i b) i = D
            have e1 := m_areNear (m := pI m 0 0 0 (nI 0)) (f := f) (b := a) (c := i) (by omega) (by omega) (h.fb ha).2 (h.fb ha).1
            have e2 := m_areNear (m := pI m 0 0 0 (nI 0)) (f := f) (b := a) (c := b) (by omega) (by omega) (h.fb ha).2 (h.fb ha).1
            have e3 := m_areNear (m := pI m 0 0 0 (nI 0)) (f := f) (b := i) (c := b) (by omega) (by omega) (h.fb (by omega)).2 (h.fb (by omega)).1
            have hib : ¬ i = b := by omega
            simp only [sX7_hidden_b31, sX7_hidden_b72]
            unfold hdE
            rw [decide_eq_false hib]
            cases g1 : (NB x a).testBit i with
            | false => simp (disch := omega) only [zl, zm, nI_add, pk_mul, inb_t, ix_n, gd_tt, bd_e, nm_v, ite_not, ↓reduceIte, le_t, le_f, lt_t, lt_f, eq_t, eq_f, mone_f, mone_f2, sm_il, sm_ir, Bool.toNat_true, Bool.toNat_false, Bool.and_true, Bool.and_false, Bool.true_and, Bool.false_and, Bool.not_true, Bool.not_false, Bool.false_eq_true, Bool.true_eq_false, sr_row, sr_L, e1, g1, m_truth, not_true_eq_false, decide_false, Nat.add_zero]
            | true =>
              cases g2 : (NB x a).testBit b with
              | false => simp (disch := omega) only [zl, zm, nI_add, pk_mul, inb_t, ix_n, gd_tt, bd_e, nm_v, ite_not, ↓reduceIte, le_t, le_f, lt_t, lt_f, eq_t, eq_f, mone_f, mone_f2, sm_il, sm_ir, Bool.toNat_true, Bool.toNat_false, Bool.and_true, Bool.and_false, Bool.true_and, Bool.false_and, Bool.not_true, Bool.not_false, Bool.false_eq_true, Bool.true_eq_false, sr_row, sr_L, e1, e2, g1, g2, m_truth, not_true_eq_false, decide_false, Nat.add_zero]
              | true =>
                cases g3 : (NB x i).testBit b with
                | false =>
                  simp (disch := omega) only [zl, zm, nI_add, pk_mul, inb_t, ix_n, gd_tt, bd_e, nm_v, ite_not, ↓reduceIte, le_t, le_f, lt_t, lt_f, eq_t, eq_f, mone_f, mone_f2, sm_il, sm_ir, Bool.toNat_true, Bool.toNat_false, Bool.and_true, Bool.and_false, Bool.true_and, Bool.false_and, Bool.not_true, Bool.not_false, Bool.false_eq_true, Bool.true_eq_false, sr_row, sr_L, e1, e2, e3, g1, g2, g3, m_truth, not_false_eq_true, decide_true]
                  rw [Nat.add_assoc]
                | true => simp (disch := omega) only [zl, zm, nI_add, pk_mul, inb_t, ix_n, gd_tt, bd_e, nm_v, ite_not, ↓reduceIte, le_t, le_f, lt_t, lt_f, eq_t, eq_f, mone_f, mone_f2, sm_il, sm_ir, Bool.toNat_true, Bool.toNat_false, Bool.and_true, Bool.and_false, Bool.true_and, Bool.false_and, Bool.not_true, Bool.not_false, Bool.false_eq_true, Bool.true_eq_false, sr_row, sr_L, e1, e2, e3, g1, g2, g3, m_truth, not_true_eq_false, decide_false, Nat.add_zero]
        simp (disch := omega) only [zl, zm, nI_add, pk_mul, inb_t, ix_n, gd_tt, bd_e, nm_v, ite_not, ↓reduceIte, le_t, le_f, lt_t, lt_f, eq_t, eq_f, mone_f, mone_f2, sr_row, hfn, hin]
    have hsym : ∀ i j, i < n → j < n → hdE x (NB x a) i j = hdE x (NB x a) j i := fun i j hi hj => by
      unfold hdE
      rw [h.sym hi hj, Bool.and_comm ((NB x a).testBit i), show decide (i = j) = decide (j = i) from decide_eq_decide.mpr ⟨Eq.symm, Eq.symm⟩]
    have hfin : smN (fun i => smN (hdE x (NB x a) i) n) n / 2 = smN (fun b => smN (fun i => hdE x (NB x a) i b) b) n := by
      have hp := smN_pairs (e := fun i j => if i < n ∧ j < n then hdE x (NB x a) i j else 0) (fun i j => by
        by_cases hq : i < n ∧ j < n
        · rw [if_pos hq, if_pos ⟨hq.2, hq.1⟩]; exact hsym i j hq.1 hq.2
        · rw [if_neg hq, if_neg (fun z => hq ⟨z.2, z.1⟩)]) (fun i => by
        by_cases hq : i < n ∧ i < n
        · rw [if_pos hq]; unfold hdE; simp
        · rw [if_neg hq]) n
      have e1 : smN (fun i => smN ((fun i j => if i < n ∧ j < n then hdE x (NB x a) i j else 0) i) n) n = smN (fun i => smN (hdE x (NB x a) i) n) n := smN_cg fun i hi => smN_cg fun j hj => if_pos ⟨hi, hj⟩
      have e2 : smN (fun b => smN (fun i => (fun i j => if i < n ∧ j < n then hdE x (NB x a) i j else 0) i b) b) n = smN (fun b => smN (fun i => hdE x (NB x a) i b) b) n := smN_cg fun b hb => smN_cg fun i hi => if_pos ⟨by omega, hb⟩
      rw [← e1, hp, e2]; omega
    rw [hfin] at k1
    exact ⟨.inl _, 0, _, (by simp (disch := omega) only [zl, zm, nI_add, pk_mul, inb_t, ix_n, gd_tt, bd_e, nm_v, ite_not, ↓reduceIte, le_t, le_f, lt_t, lt_f, eq_t, eq_f, mone_f, mone_f2, sm_il, sm_ir, Bool.toNat_true, Bool.toNat_false, Bool.and_true, Bool.and_false, Bool.true_and, Bool.false_and, Bool.not_true, Bool.not_false, Bool.false_eq_true, Bool.true_eq_false, sr_row, sr_L, hA.1, k1]; rfl), (by simp (disch := omega) only [zl, zm, nI_add, pk_mul, inb_t, ix_n, gd_tt, bd_e, nm_v, ite_not, ↓reduceIte, le_t, le_f, lt_t, lt_f, eq_t, eq_f, mone_f, mone_f2, sm_il, sm_ir, Bool.toNat_true, Bool.toNat_false, Bool.and_true, Bool.and_false, Bool.true_and, Bool.false_and, Bool.not_true, Bool.not_false, Bool.false_eq_true, Bool.true_eq_false, sr_row, sr_L, k2]), Or.inl ⟨rfl, rfl⟩⟩
end
/-! closures -/
section
variable {N : Nat → Nat} {n : Nat}
theorem wnN_bit (N : Nat → Nat) (a : Nat) : ∀ n i, (wnN N a n).testBit i = true ↔ a.testBit i = true ∨ ∃ k, k < n ∧ a.testBit k = true ∧ (N k).testBit i = true
  | 0, i => ⟨fun h => Or.inl h, fun h => h.elim id (fun ⟨k, hk, _⟩ => absurd hk (by omega))⟩
  | n + 1, i => by
    have ih := wnN_bit N a n i
    have e : wnN N a (n + 1) = if a.testBit n = true then wnN N a n ||| N n else wnN N a n := rfl
    rw [e]
    by_cases h : a.testBit n = true
    · rw [if_pos h, Nat.testBit_or, Bool.or_eq_true, ih]
      constructor
      · rintro ((h1 | ⟨k, h1, h2⟩) | h1)
        · exact Or.inl h1
        · exact Or.inr ⟨k, by omega, h2⟩
        · exact Or.inr ⟨n, by omega, h, h1⟩
      · rintro (h1 | ⟨k, h1, h2, h3⟩)
        · exact Or.inl (Or.inl h1)
        · by_cases hk : k = n
          · subst hk; exact Or.inr h3
          · exact Or.inl (Or.inr ⟨k, by omega, h2, h3⟩)
    · rw [if_neg h, ih]
      constructor
      · rintro (h1 | ⟨k, h1, h2⟩)
        · exact Or.inl h1
        · exact Or.inr ⟨k, by omega, h2⟩
      · rintro (h1 | ⟨k, h1, h2, h3⟩)
        · exact Or.inl h1
        · by_cases hk : k = n
          · subst hk; exact absurd h2 h
          · exact Or.inr ⟨k, by omega, h2, h3⟩
theorem bits_eq {a b : Nat} (h : ∀ i, a.testBit i = true ↔ b.testBit i = true) : a = b := Nat.eq_of_testBit_eq fun i => by
  have := h i
  cases h1 : a.testBit i <;> cases h2 : b.testBit i <;> simp_all
theorem wnN_or (a b : Nat) : wnN N (a ||| b) n = wnN N a n ||| wnN N b n := bits_eq fun i => by
  rw [Nat.testBit_or, Bool.or_eq_true, wnN_bit, wnN_bit, wnN_bit, Nat.testBit_or, Bool.or_eq_true]
  constructor
  · rintro ((h | h) | ⟨k, h1, h2, h3⟩)
    · exact Or.inl (Or.inl h)
    · exact Or.inr (Or.inl h)
    · rw [Nat.testBit_or, Bool.or_eq_true] at h2
      exact h2.elim (fun z => Or.inl (Or.inr ⟨k, h1, z, h3⟩)) (fun z => Or.inr (Or.inr ⟨k, h1, z, h3⟩))
  · rintro ((h | ⟨k, h1, h2, h3⟩) | (h | ⟨k, h1, h2, h3⟩))
    · exact Or.inl (Or.inl h)
    · exact Or.inr ⟨k, h1, by rw [Nat.testBit_or, h2]; rfl, h3⟩
    · exact Or.inl (Or.inr h)
    · exact Or.inr ⟨k, h1, by rw [Nat.testBit_or, h2, Bool.or_true], h3⟩
def itN (N : Nat → Nat) (n a : Nat) : Nat → Nat
  | 0 => a
  | j + 1 => wnN N (itN N n a j) n
theorem itN_or (a b : Nat) : ∀ j, itN N n (a ||| b) j = itN N n a j ||| itN N n b j
  | 0 => rfl
  | j + 1 => by
    show wnN N (itN N n (a ||| b) j) n = _
    rw [itN_or a b j, wnN_or]; rfl
theorem itN_fix {a : Nat} (h : wnN N a n = a) : ∀ j, itN N n a j = a
  | 0 => rfl
  | j + 1 => by
    show wnN N (itN N n a j) n = a
    rw [itN_fix h j, h]
theorem itN_lt {a : Nat} (ha : a < 256) (hN : ∀ k, k < n → N k < 256) : ∀ j, itN N n a j < 256
  | 0 => ha
  | j + 1 => wnN_lt (itN_lt ha hN j) hN
theorem pcN_sub {a b : Nat} (h : ∀ i, a.testBit i = true → b.testBit i = true) : ∀ k, pcN a k ≤ pcN b k
  | 0 => Nat.le_refl _
  | k + 1 => by
    have ih := pcN_sub h k
    show pcN a k + (a.testBit k).toNat ≤ pcN b k + (b.testBit k).toNat
    have h1 : (a.testBit k).toNat ≤ (b.testBit k).toNat := by
      cases h2 : a.testBit k with
      | false => exact Nat.zero_le _
      | true => rw [h k h2]; exact Nat.le_refl _
    omega
theorem pcN_less {a b i : Nat} (h : ∀ i, a.testBit i = true → b.testBit i = true) (ha : a.testBit i = false) (hb : b.testBit i = true) : ∀ k, i < k → pcN a k < pcN b k
  | 0, hk => absurd hk (by omega)
  | k + 1, hk => by
    show pcN a k + (a.testBit k).toNat < pcN b k + (b.testBit k).toNat
    by_cases hik : i = k
    · subst hik
      have := pcN_sub h i
      rw [ha, hb]
      show pcN a i + 0 < pcN b i + 1
      omega
    · have := pcN_less h ha hb k (by omega)
      have h1 : (a.testBit k).toNat ≤ (b.testBit k).toNat := by
        cases h2 : a.testBit k with
        | false => exact Nat.zero_le _
        | true => rw [h k h2]; exact Nat.le_refl _
      omega
theorem itN_grow {a : Nat} (ha : a < 256) (hN : ∀ k, k < n → N k < 256) : ∀ j, wnN N (itN N n a j) n = itN N n a j ∨ j + pcN a 8 ≤ pcN (itN N n a j) 8
  | 0 => Or.inr (by show 0 + pcN a 8 ≤ pcN a 8; omega)
  | j + 1 => by
    rcases itN_grow ha hN j with h | h
    · exact Or.inl (by show wnN N (wnN N (itN N n a j) n) n = wnN N (itN N n a j) n; rw [h, h])
    · by_cases he : wnN N (itN N n a j) n = itN N n a j
      · exact Or.inl (by show wnN N (wnN N (itN N n a j) n) n = wnN N (itN N n a j) n; rw [he, he])
      · refine Or.inr ?_
        show j + 1 + pcN a 8 ≤ pcN (wnN N (itN N n a j) n) 8
        have hsub : ∀ i, (itN N n a j).testBit i = true → (wnN N (itN N n a j) n).testBit i = true := fun i hi => (wnN_bit N _ n i).mpr (Or.inl hi)
        have hex : ∃ i, ¬ ((wnN N (itN N n a j) n).testBit i = true → (itN N n a j).testBit i = true) := Classical.not_forall.mp fun hall => he (bits_eq fun i => ⟨hall i, hsub i⟩)
        obtain ⟨i, hi⟩ := hex
        have hi1 : (wnN N (itN N n a j) n).testBit i = true := by
          cases hz : (wnN N (itN N n a j) n).testBit i with
          | true => rfl
          | false => exact absurd (fun z => by rw [hz] at z; cases z) hi
        have hi2 : (itN N n a j).testBit i = false := by
          cases hz : (itN N n a j).testBit i with
          | false => rfl
          | true => exact absurd (fun _ => hz) hi
        have hi8 : i < 8 := by
          rcases Nat.lt_or_ge i 8 with h8 | h8
          · exact h8
          · have hlt := wnN_lt (itN_lt ha hN j) hN
            rw [Nat.testBit_lt_two_pow (Nat.lt_of_lt_of_le hlt (Nat.pow_le_pow_right (n := 2) (by decide) h8))] at hi1; cases hi1
        have := pcN_less hsub hi2 hi1 8 hi8
        omega
theorem pcN_full {a : Nat} : ∀ k, k ≤ pcN a k → ∀ i, i < k → a.testBit i = true
  | 0, _, i, hi => absurd hi (by omega)
  | k + 1, h, i, hi => by
    have h1 := pcN_le a k
    have h2 : (a.testBit k).toNat ≤ 1 := Bool.toNat_le _
    have h3 : pcN a (k + 1) = pcN a k + (a.testBit k).toNat := rfl
    by_cases hik : i = k
    · subst hik
      cases hz : a.testBit i with
      | true => rfl
      | false => rw [hz] at h3; have : Bool.toNat false = 0 := rfl; omega
    · exact pcN_full k (by omega) i (by omega)
theorem pcN_one {k : Nat} (hk : k < 8) : 1 ≤ pcN (2 ^ k) 8 := by
  have h0 : ∀ i, (0 : Nat).testBit i = true → (2 ^ k).testBit i = true := fun i hi => by rw [Nat.zero_testBit] at hi; cases hi
  have := pcN_less h0 (Nat.zero_testBit k) (by rw [Nat.testBit_two_pow]; exact decide_eq_true rfl) 8 hk
  omega
/-- what is reached from one beacon is closed -/
theorem itN_closed {k : Nat} (hk : k < 8) (hN : ∀ k, k < n → N k < 256) : wnN N (itN N n (2 ^ k) 7) n = itN N n (2 ^ k) 7 := by
  have h2k : 2 ^ k < 256 := Nat.pow_lt_pow_right (a := 2) (n := 8) (by decide) hk
  rcases itN_grow h2k hN 7 with h | h
  · exact h
  · have h1 := pcN_one hk
    have hf := pcN_full (a := itN N n (2 ^ k) 7) 8 (by omega)
    have hl := itN_lt h2k hN 7
    have hl2 := wnN_lt hl hN
    refine bits_eq fun i => ⟨fun hi => ?_, fun hi => (wnN_bit N _ n i).mpr (Or.inl hi)⟩
    rcases Nat.lt_or_ge i 8 with h8 | h8
    · exact hf i h8
    · rw [Nat.testBit_lt_two_pow (Nat.lt_of_lt_of_le hl2 (Nat.pow_le_pow_right (n := 2) (by decide) h8))] at hi; cases hi
end
section
variable {n t : Nat} {x m c : St} {f : Nat → Int32}
theorem q_groups (h : WS n t x f) : ∃ v, sX6_groups x = some v ∧ sX7_groups (sr m f) = some (sr (pI m 0 0 0 (nI 0)) f, v) := by
  have hn := h.n8
  have hxn := h.xn
  have hfn := h.fn
  have hNB : ∀ k, k < n → NB x k < 256 := fun k hk => (h.nb hk).2
  unfold sX6_groups sX7_groups
  simp only [nm_v]
  rw [sr_pIo _ _ _ _ (by omega)]
  have hall : ∀ a, a < 256 → sX5_withAllReached x (nI a) = some (nI (itN (NB x) n a 7)) := by
    intro a ha
    refine fuel_lo 1 8 (fun F j => sX5_withAllReached_b4 F x (nI (itN (NB x) n a (j - 1))) (nI j)) _ (fun F => ?_) (fun F j hl hj => ?_) 7 1 FU (by omega) (by omega) (FU_lt (by omega))
    · simp only [sX5_withAllReached_b4]
      simp (disch := omega) only [zl, zm, nI_add, pk_mul, inb_t, ix_n, gd_tt, bd_e, nm_v, ite_not, ↓reduceIte, le_t, le_f, lt_t, lt_f, eq_t, eq_f, mone_f, mone_f2]
    · have e := c_withNear hn hxn h.NBf (itN_lt ha hNB (j - 1))
      have e2 : itN (NB x) n a (j + 1 - 1) = wnN (NB x) (itN (NB x) n a (j - 1)) n := by
        obtain ⟨i, rfl⟩ : ∃ i, j = i + 1 := ⟨j - 1, by omega⟩
        rfl
      rw [e2]
      simp only [sX5_withAllReached_b4]
      simp (disch := omega) only [zl, zm, nI_add, pk_mul, inb_t, ix_n, gd_tt, bd_e, nm_v, ite_not, ↓reduceIte, le_t, le_f, lt_t, lt_f, eq_t, eq_f, mone_f, mone_f2, e]
  have hgrp : ∀ k, k < n → sX7_groupOf (sr (pI m 0 0 0 (nI 0)) f) (nI k) = some (nI (itN (NB x) n (2 ^ k) 7)) := by
    intro k hk
    have h2k : 2 ^ k < 256 := Nat.pow_lt_pow_right (a := 2) (n := 8) (by decide) (by omega)
    unfold sX7_groupOf
    simp only [zl, nm_v]
    rw [sh1 (by omega)]
    have e8 : itN (NB x) n (2 ^ k) 8 = itN (NB x) n (2 ^ k) 7 := itN_closed (by omega) hNB
    rw [← e8]
    refine fuel_up 8 (fun F j => sX7_groupOf_b6 F (sr (pI m 0 0 0 (nI 0)) f) (nI (itN (NB x) n (2 ^ k) j)) (nI j)) _ (fun F => ?_) (fun F j hj => ?_) 8 0 FU (by omega) (FU_lt (by omega))
    · simp only [sX7_groupOf_b6]
      simp (disch := omega) only [zl, zm, nI_add, pk_mul, inb_t, ix_n, gd_tt, bd_e, nm_v, ite_not, ↓reduceIte, le_t, le_f, lt_t, lt_f, eq_t, eq_f, mone_f, mone_f2]
    · have e := m_spread (m := pI m 0 0 0 (nI 0)) hn hfn (fun k hk => h.fb hk) (itN_lt h2k hNB j)
      simp only [sX7_groupOf_b6]
      simp (disch := omega) only [zl, zm, nI_add, pk_mul, inb_t, ix_n, gd_tt, bd_e, nm_v, ite_not, ↓reduceIte, le_t, le_f, lt_t, lt_f, eq_t, eq_f, mone_f, mone_f2, e]
      rfl
  obtain ⟨⟨v1, v2⟩, ⟨v3, v4⟩, e1, e2, e3⟩ := lock_up (X := Nat × Nat) (M := Nat × Nat) n (fun k u v => u = v ∧ u.1 ≤ k ∧ u.2 < 256 ∧ wnN (NB x) u.2 n = u.2) (fun F u k => sX6_groups_b6 F x (nI u.1) (nI u.2) (nI k)) (fun F v k => sX7_groups_b11 F (sr (pI m 0 0 0 (nI 0)) f) (nI v.2) (nI v.1) (nI k)) (fun u => some (nI u.1)) (fun v => some (sr (pI m 0 0 0 (nI 0)) f, nI v.1)) (fun F u v hR => by
      simp only [sX6_groups_b6]
      rw [hxn]
      simp (disch := omega) only [zl, zm, nI_add, pk_mul, inb_t, ix_n, gd_tt, bd_e, nm_v, ite_not, ↓reduceIte, le_t, le_f, lt_t, lt_f, eq_t, eq_f, mone_f, mone_f2]) (fun F u v hR => by
      simp only [sX7_groups_b11]
      simp (disch := omega) only [zl, zm, nI_add, pk_mul, inb_t, ix_n, gd_tt, bd_e, nm_v, ite_not, ↓reduceIte, le_t, le_f, lt_t, lt_f, eq_t, eq_f, mone_f, mone_f2, sr_row, hfn]) (fun k u v hk hR => by
      obtain ⟨rfl, hu1, hu2, hu3⟩ := hR
      obtain ⟨u1, u2⟩ := u
      have h2k : 2 ^ k < 256 := Nat.pow_lt_pow_right (a := 2) (n := 8) (by decide) (by omega)
      have hcl := itN_closed (N := NB x) (n := n) (k := k) (by omega) hNB
      have hg := hgrp k hk
      have i1 := c_isIn (a := u2) (k := k) (by omega) (by omega)
      have i2 := m_has (a := u2) (k := k) (by omega) (by omega)
      cases hb : u2.testBit k with
      | true =>
        have hsub : u2 ||| itN (NB x) n (2 ^ k) 7 = u2 := by
          have e1 : u2 ||| 2 ^ k = u2 := bits_eq fun i => by
            rw [Nat.testBit_or, Bool.or_eq_true, Nat.testBit_two_pow, decide_eq_true_iff]
            exact ⟨fun z => z.elim id (fun z => by rw [← z]; exact hb), Or.inl⟩
          have e2 := itN_or (N := NB x) (n := n) u2 (2 ^ k) 7
          rw [e1, itN_fix hu3] at e2
          exact e2.symm
        refine ⟨(u1, u2), (u1, u2), fun F => ?_, fun F => ?_, rfl, by omega, hu2, hu3⟩
        · simp only [sX6_groups_b6]
          rw [hxn]
          simp (disch := omega) only [zl, zm, nI_add, pk_mul, inb_t, ix_n, gd_tt, bd_e, nm_v, ite_not, ↓reduceIte, le_t, le_f, lt_t, lt_f, eq_t, eq_f, mone_f, mone_f2, sm_il, sm_ir, Bool.toNat_true, Bool.toNat_false, Bool.and_true, Bool.and_false, Bool.true_and, Bool.false_and, Bool.not_true, Bool.not_false, Bool.false_eq_true, Bool.true_eq_false, sr_row, sr_L, i1, hb]
        · simp only [sX7_groups_b11, sX7_groups_b35]
          simp (disch := omega) only [zl, zm, nI_add, pk_mul, inb_t, ix_n, gd_tt, bd_e, nm_v, ite_not, ↓reduceIte, le_t, le_f, lt_t, lt_f, eq_t, eq_f, mone_f, mone_f2, sm_il, sm_ir, Bool.toNat_true, Bool.toNat_false, Bool.and_true, Bool.and_false, Bool.true_and, Bool.false_and, Bool.not_true, Bool.not_false, Bool.false_eq_true, Bool.true_eq_false, sr_row, sr_L, hfn, i2, hb, m_truth, not_true_eq_false, decide_false, hg, n_or, hsub, Nat.add_zero]
      | false =>
        have hor : itN (NB x) n (u2 ||| 2 ^ k) 7 = u2 ||| itN (NB x) n (2 ^ k) 7 := by rw [itN_or, itN_fix hu3]
        have hlt : u2 ||| 2 ^ k < 256 := Nat.or_lt_two_pow (n := 8) hu2 h2k
        have hlt2 : u2 ||| itN (NB x) n (2 ^ k) 7 < 256 := Nat.or_lt_two_pow (n := 8) hu2 (itN_lt h2k hNB 7)
        refine ⟨(u1 + 1, u2 ||| itN (NB x) n (2 ^ k) 7), (u1 + 1, u2 ||| itN (NB x) n (2 ^ k) 7), fun F => ?_, fun F => ?_, rfl, by have : u1 ≤ k := hu1; show u1 + 1 ≤ k + 1; omega, hlt2, by rw [wnN_or, hu3, hcl]⟩
        · simp only [sX6_groups_b6]
          rw [hxn]
          simp (disch := omega) only [zl, zm, nI_add, pk_mul, inb_t, ix_n, gd_tt, bd_e, nm_v, ite_not, ↓reduceIte, le_t, le_f, lt_t, lt_f, eq_t, eq_f, mone_f, mone_f2, sm_il, sm_ir, Bool.toNat_true, Bool.toNat_false, Bool.and_true, Bool.and_false, Bool.true_and, Bool.false_and, Bool.not_true, Bool.not_false, Bool.false_eq_true, Bool.true_eq_false, sr_row, sr_L, i1, hb, sh1, n_or, hall _ hlt, hor]
        · simp only [sX7_groups_b11, sX7_groups_b35]
          simp (disch := omega) only [zl, zm, nI_add, pk_mul, inb_t, ix_n, gd_tt, bd_e, nm_v, ite_not, ↓reduceIte, le_t, le_f, lt_t, lt_f, eq_t, eq_f, mone_f, mone_f2, sm_il, sm_ir, Bool.toNat_true, Bool.toNat_false, Bool.and_true, Bool.and_false, Bool.true_and, Bool.false_and, Bool.not_true, Bool.not_false, Bool.false_eq_true, Bool.true_eq_false, sr_row, sr_L, hfn, i2, hb, m_truth, not_false_eq_true, decide_true, hg, n_or]) n 0 FU FU (0, 0) (0, 0) (by omega) (FU_lt (by omega)) (FU_lt (by omega)) ⟨rfl, Nat.le_refl _, by decide, bits_eq fun i => by
        rw [wnN_bit, Nat.zero_testBit]
        exact ⟨fun z => z.elim id (fun ⟨k, _, z, _⟩ => by rw [Nat.zero_testBit] at z; exact z), Or.inl⟩⟩
  refine ⟨nI v1, e1, ?_⟩
  rw [show v1 = v3 from congrArg Prod.fst e3.1]
  exact e2
end
