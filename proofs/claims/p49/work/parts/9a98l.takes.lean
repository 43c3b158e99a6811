/-! stage B: how either side takes the tokens -/
theorem lx_cL : ∀ v, v < 256 → sX4_isLetter (sgn v) = some (nI (lxL v).toNat) := by decide +kernel
theorem lx_cD : ∀ v, v < 256 → sX4_isDigit (sgn v) = some (nI (lxD v).toNat) := by decide +kernel
theorem lx_sg : ∀ v, v < 128 → sgn v = nI v := by decide +kernel
theorem lx_mL : ∀ v, v < 256 → sX7_isLetter (nI v) = some (nI (lxL v).toNat) := by decide +kernel
theorem lx_mD : ∀ v, v < 256 → sX7_isDigit (nI v) = some (nI (lxD v).toNat) := by decide +kernel
theorem lx_mL0 : sX7_isLetter mone = some (nI 0) := by decide +kernel
theorem lx_mD0 : sX7_isDigit mone = some (nI 0) := by decide +kernel
theorem lx_sq : ∀ v, v < 256 → ∀ c, c ∈ [59, 40, 41, 32, 10] → (sgn v = nI c ↔ v = c) := by decide +kernel
theorem cp_take : ∀ (l : List Nat) (j : Nat), j < l.length → cpN (l.take (j + 1)) = cpN (l.take j) + l.getD j 0 * 256 ^ j
  | [], j, h => absurd h (Nat.not_lt_zero _)
  | c :: l, 0, h => by
    show c + 256 * 0 = 0 + c * 1
    omega
  | c :: l, j + 1, h => by
    have ih := cp_take l j (Nat.lt_of_succ_lt_succ h)
    show c + 256 * cpN (l.take (j + 1)) = c + 256 * cpN (l.take j) + l.getD j 0 * 256 ^ (j + 1)
    have e : l.getD j 0 * 256 ^ (j + 1) = 256 * (l.getD j 0 * 256 ^ j) := by
      rw [Nat.pow_succ, ← Nat.mul_assoc, Nat.mul_comm]
    rw [ih, e]
    omega
theorem cp_take_lt {l : List Nat} (h : ∀ c, c ∈ l → c < 256) {j : Nat} (hj : j ≤ l.length) : cpN (l.take j) < 256 ^ j := by
  have h1 := cpN_lt (l := l.take j) fun c hc => h c (List.mem_of_mem_take hc)
  rw [List.length_take, Nat.min_eq_left hj] at h1
  exact h1
theorem or_add {a b i : Nat} (h : a < 2 ^ i) : a ||| b * 2 ^ i = a + b * 2 ^ i := by
  rw [Nat.or_comm, Nat.mul_comm b, ← Nat.two_pow_add_eq_or_of_lt h, Nat.add_comm]
section
variable {B : Nat → Nat} {len p q i c : Nat} {y t m : St}
theorem lx_word (hy : ∀ k, k < len → B k < 256 ∧ gI y 0 1 k = sgn (B k)) (hl : len ≤ 700) (hp : p < len) (hL : lxL (B p) = true) : sX4_addWord y t (nI p) (nI len) = bd (sX4_add t (nI (lxKd B len p)) (nI p) (lxVv B len p)) fun q => some (q, nI (lxNx B len p)) := by
  have h1 := lxNx_le (B := B) (Nat.le_of_lt hp)
  have hr := lxRun_sp (P := lxL) (B := B) (Nat.le_of_lt hp)
  rw [← lxNx_L hp hL] at hr
  have hlen := lxLs_len (B := B) (len := len) (p := p)
  have hok := lxLs_ok (B := B) hp hL
  have hv : lxVv B len p = lN (cpN (lxLs B len p)) := by unfold lxVv; rw [if_neg (by omega), if_pos hL]
  have hk : lxKd B len p = if lxNx B len p - p ≤ 8 then 1 else 3 := by unfold lxKd; rw [if_neg (by omega), if_pos hL]
  have hat := fun i hi => lxLs_at (B := B) (len := len) (p := p) (i := i) hi
  rw [hv, hk]
  generalize lxNx B len p = q at *
  generalize lxLs B len p = l at *
  have e0 : (0 : Int64) = lN (cpN (l.take (p - p))) := by rw [Nat.sub_self]; rfl
  unfold sX4_addWord
  refine (congrArg (fun z => sX4_addWord_b6 FU y t (nI p) (nI len) z (nI p)) e0).trans ?_
  refine fuel_lo p q (fun F k => sX4_addWord_b6 F y t (nI p) (nI len) (lN (cpN (l.take (k - p)))) (nI k)) _ (fun F => ?_) (fun F k hk1 hk2 => ?_) (q - p) p FU (Nat.le_refl _) (by omega) (FU_lt (by omega))
  · have ht : l.take (q - p) = l := List.take_of_length_le (by omega)
    have e : ∀ a4, sX4_addWord_b55 y t (nI p) a4 (nI q) = bd (sX4_add t (nI (if q - p ≤ 8 then 1 else 3)) (nI p) a4) fun z => some (z, nI q) := fun a4 => by
      unfold sX4_addWord_b55 sX4_addWord_b70
      by_cases h8 : q - p ≤ 8
      · rw [if_pos h8]; simp (disch := omega) only [zl, zs, le_t, ↓reduceIte]
      · rw [if_neg h8]; simp (disch := omega) only [zl, zs, le_f, ↓reduceIte]
    simp only [sX4_addWord_b6]
    rw [ht]
    rcases Nat.lt_or_ge q len with hql | hql
    · have hn := hr.2.2.2 hql
      have hlet : sX4_isLetter (gI y 0 1 q) = some (nI 0) := by
        rw [(hy q hql).2, lx_cL _ (hy q hql).1, hn]; rfl
      simp (disch := omega) only [zl, zm, nI_add, pk_mul, inb_t, ix_n, gd_tt, bd_e, nm_v, ite_not, ↓reduceIte, le_t, le_f, lt_t, lt_f, eq_t, eq_f, mone_f, mone_f2, hlet, e]
    · simp (disch := omega) only [zl, zm, nI_add, pk_mul, inb_t, ix_n, gd_tt, bd_e, nm_v, ite_not, ↓reduceIte, le_t, le_f, lt_t, lt_f, eq_t, eq_f, mone_f, mone_f2, e]
  · have hlet : sX4_isLetter (gI y 0 1 k) = some (nI 1) := by
      rw [(hy k (by omega)).2, lx_cL _ (hy k (by omega)).1, hr.2.2.1 k hk1 hk2]; rfl
    simp only [sX4_addWord_b6]
    rcases Nat.lt_or_ge (k - p) 8 with h8 | h8
    · have hj : k - p < l.length := by omega
      have hBk := lxL_of (hr.2.2.1 k hk1 hk2)
      have hlt : cpN (l.take (k - p)) < 2 ^ (8 * (k - p)) := by
        rw [Nat.pow_mul]; exact cp_take_lt hok.lt (Nat.le_of_lt hj)
      have hb : 2 ^ (8 * (k - p)) ≤ 2 ^ 56 := Nat.pow_le_pow_right (by decide) (by omega)
      have hsm : B k * 2 ^ (8 * (k - p)) < 2 ^ 64 := by
        have : B k * 2 ^ (8 * (k - p)) ≤ 122 * 2 ^ 56 := Nat.mul_le_mul hBk.2 hb
        omega
      have e1 : (gI y 0 1 k).toInt64 = lN (B k) := by
        rw [(hy k (by omega)).2, lx_sg _ (by omega), nI_l (by omega)]
      have hor : lN (cpN (l.take (k - p))) ||| (gI y 0 1 k).toInt64 <<< ((nI (8 * (k - p))).toInt64 &&& 63) = lN (cpN (l.take (k + 1 - p))) := by
        rw [e1, wb_shl _ (show 8 * (k - p) < 64 by omega), wb_or (by omega) hsm, or_add hlt, show k + 1 - p = (k - p) + 1 by omega, cp_take l _ hj, hat _ hj, show p + (k - p) = k by omega, Nat.pow_mul]
      simp (disch := omega) only [zl, zm, nI_add, pk_mul, inb_t, ix_n, gd_tt, bd_e, nm_v, ite_not, ↓reduceIte, le_t, le_f, lt_t, lt_f, eq_t, eq_f, mone_f, mone_f2, hlet, zs, hor]
    · have e2 : l.take (k + 1 - p) = l := List.take_of_length_le (by omega)
      have e3 : l.take (k - p) = l := List.take_of_length_le (by omega)
      rw [e2, e3]
      simp (disch := omega) only [zl, zm, nI_add, pk_mul, inb_t, ix_n, gd_tt, bd_e, nm_v, ite_not, ↓reduceIte, le_t, le_f, lt_t, lt_f, eq_t, eq_f, mone_f, mone_f2, hlet, zs]
theorem lx_number (hy : ∀ k, k < len → B k < 256 ∧ gI y 0 1 k = sgn (B k)) (hl : len ≤ 700) (hp : p < len) (hL : lxL (B p) = false) (hD : lxD (B p) = true) : sX4_addNumber y t (nI p) (nI len) = bd (sX4_add t (nI (lxKd B len p)) (nI p) (lxVv B len p)) fun q => some (q, nI (lxNx B len p)) := by
  have h1 := lxNx_le (B := B) (Nat.le_of_lt hp)
  have hr := lxRun_sp (P := lxD) (B := B) (Nat.le_of_lt hp)
  rw [← lxNx_D hp hL hD] at hr
  have hv : lxVv B len p = lN (lxNum B len p) := by unfold lxVv; rw [if_neg (by omega), hL, if_neg Bool.false_ne_true, if_pos hD]
  have hk : lxKd B len p = if lxNx B len p - p ≤ 3 then 2 else 3 := by unfold lxKd; rw [if_neg (by omega), hL, if_neg Bool.false_ne_true, if_pos hD]
  have hle := lxNum_le (B := B) hp hL hD
  rw [hv, hk]
  unfold lxNum at *
  generalize lxNx B len p = q at *
  unfold sX4_addNumber
  have hsm : ∀ k, p ≤ k → k ≤ q → lxNv B p (min 3 (k - p)) < 1000 := fun k hk1 hk2 => by
    have h2 : lxNv B p (min 3 (k - p)) < 10 ^ min 3 (k - p) := lxNv_lt fun i hi => hr.2.2.1 (p + i) (by omega) (by omega)
    have h3 : 10 ^ min 3 (k - p) ≤ 10 ^ 3 := Nat.pow_le_pow_right (by decide) (by omega)
    omega
  have e0 : (0 : Int32) = nI (lxNv B p (min 3 (p - p))) := by rw [Nat.sub_self]; rfl
  refine (congrArg (fun z => sX4_addNumber_b6 FU y t (nI p) (nI len) z (nI p)) e0).trans ?_
  refine fuel_lo p q (fun F k => sX4_addNumber_b6 F y t (nI p) (nI len) (nI (lxNv B p (min 3 (k - p)))) (nI k)) _ (fun F => ?_) (fun F k hk1 hk2 => ?_) (q - p) p FU (Nat.le_refl _) (by omega) (FU_lt (by omega))
  · have e : sX4_addNumber_b51 y t (nI p) (nI (lxNv B p (min 3 (q - p)))) (nI q) = bd (sX4_add t (nI (if q - p ≤ 3 then 2 else 3)) (nI p) (lN (lxNv B p (min 3 (q - p))))) fun z => some (z, nI q) := by
      unfold sX4_addNumber_b51 sX4_addNumber_b65
      rw [nI_l (by omega)]
      by_cases h8 : q - p ≤ 3
      · rw [if_pos h8]; simp (disch := omega) only [zl, zs, le_t, ↓reduceIte]
      · rw [if_neg h8]; simp (disch := omega) only [zl, zs, le_f, ↓reduceIte]
    simp only [sX4_addNumber_b6]
    rcases Nat.lt_or_ge q len with hql | hql
    · have hn := hr.2.2.2 hql
      have hlet : sX4_isDigit (gI y 0 1 q) = some (nI 0) := by
        rw [(hy q hql).2, lx_cD _ (hy q hql).1, hn]; rfl
      simp (disch := omega) only [zl, zm, nI_add, pk_mul, inb_t, ix_n, gd_tt, bd_e, nm_v, ite_not, ↓reduceIte, le_t, le_f, lt_t, lt_f, eq_t, eq_f, mone_f, mone_f2, hlet, e]
    · simp (disch := omega) only [zl, zm, nI_add, pk_mul, inb_t, ix_n, gd_tt, bd_e, nm_v, ite_not, ↓reduceIte, le_t, le_f, lt_t, lt_f, eq_t, eq_f, mone_f, mone_f2, e]
  · have hlet : sX4_isDigit (gI y 0 1 k) = some (nI 1) := by
      rw [(hy k (by omega)).2, lx_cD _ (hy k (by omega)).1, hr.2.2.1 k hk1 hk2]; rfl
    simp only [sX4_addNumber_b6]
    rcases Nat.lt_or_ge (k - p) 3 with h8 | h8
    · have hBk := lxD_of (hr.2.2.1 k hk1 hk2)
      have hor : nI (lxNv B p (min 3 (k - p)) * 10) + gI y 0 1 k - nI 48 = nI (lxNv B p (min 3 (k + 1 - p))) := by
        rw [(hy k (by omega)).2, lx_sg _ (by omega), nI_add, zs (by omega), show min 3 (k + 1 - p) = min 3 (k - p) + 1 by omega, lxNv_s, show p + min 3 (k - p) = k by omega]
        rw [show lxNv B p (min 3 (k - p)) * 10 + B k - 48 = 10 * lxNv B p (min 3 (k - p)) + (B k - 48) by omega]
      simp (disch := omega) only [zl, zm, nI_add, pk_mul, inb_t, ix_n, gd_tt, bd_e, nm_v, ite_not, ↓reduceIte, le_t, le_f, lt_t, lt_f, eq_t, eq_f, mone_f, mone_f2, hlet, zs, hor]
    · rw [show min 3 (k + 1 - p) = min 3 (k - p) by omega]
      simp (disch := omega) only [zl, zm, nI_add, pk_mul, inb_t, ix_n, gd_tt, bd_e, nm_v, ite_not, ↓reduceIte, le_t, le_f, lt_t, lt_f, eq_t, eq_f, mone_f, mone_f2, hlet, zs]
theorem lx_add (h : gI t 0 0 3 = nI i) (hi : i ≤ 700) (a b : Int32) (v : Int64) : ∃ t', sX4_add t a b v = some t' ∧ gI t' 0 0 3 = nI (i + 1) ∧ (gI t' 0 1 i = a ∧ gI t' 0 2 i = b ∧ gL t' 0 3 i = v) ∧ (∀ j, ¬ j = i → gI t' 0 1 j = gI t 0 1 j ∧ gI t' 0 2 j = gI t 0 2 j ∧ gL t' 0 3 j = gL t 0 3 j) ∧ (∀ k, ¬ k = 3 → gI t' 0 0 k = gI t 0 0 k) := by
  refine ⟨pI (pL (pI (pI t 0 1 i a) 0 2 i b) 0 3 i v) 0 0 3 (nI (i + 1)), ?_, ?_, ⟨?_, ?_, ?_⟩, fun j hj => ⟨?_, ?_, ?_⟩, fun k hk => ?_⟩
  · unfold sX4_add
    simp (disch := omega) only [zl, zm, nI_add, pk_mul, inb_t, ix_n, gd_tt, bd_e, nm_v, ite_not, ↓reduceIte, le_t, le_f, lt_t, lt_f, eq_t, eq_f, mone_f, mone_f2, h, gI_pI, gL_pL, gI_pL, gL_pI, qe, qn, not_true_eq_false, not_false_eq_true, true_and, and_true, false_and, and_false, and_self, Nat.add_right_cancel_iff]
  all_goals simp (disch := omega) only [gI_pI, gL_pL, gI_pL, gL_pI, qe, qn, not_true_eq_false, not_false_eq_true, true_and, and_true, false_and, and_false, and_self, Nat.add_right_cancel_iff, ↓reduceIte]
/-- the tokens so far -/
def LXP (B : Nat → Nat) (len i : Nat) (t : St) : Prop := gI t 0 0 3 = nI i ∧ ∀ j, j < i → lxAt B len j < len ∧ gI t 0 1 j = nI (lxKd B len (lxAt B len j)) ∧ gI t 0 2 j = nI (lxAt B len j) ∧ gL t 0 3 j = lxVv B len (lxAt B len j)
theorem lx_more (h : LXP B len i t) (hi : i ≤ 700) (hp : lxAt B len i < len) : ∃ t', sX4_add t (nI (lxKd B len (lxAt B len i))) (nI (lxAt B len i)) (lxVv B len (lxAt B len i)) = some t' ∧ LXP B len (i + 1) t' ∧ ∀ k, ¬ k = 3 → gI t' 0 0 k = gI t 0 0 k := by
  obtain ⟨t', e1, e2, e3, e4, e5⟩ := lx_add h.1 hi (nI (lxKd B len (lxAt B len i))) (nI (lxAt B len i)) (lxVv B len (lxAt B len i))
  refine ⟨t', e1, ⟨e2, fun j hj => ?_⟩, e5⟩
  by_cases hji : j = i
  · rw [hji]; exact ⟨hp, e3⟩
  · obtain ⟨f1, f2, f3⟩ := e4 j hji
    rw [f1, f2, f3]; exact h.2 j (by omega)
/-- all tokens of a text, the last one its end -/
def LXA (B : Nat → Nat) (len c : Nat) (t : St) : Prop := gI t 0 0 3 = nI (c + 1) ∧ c ≤ 700 ∧ lxAt B len c = len ∧ (∀ j, j < c → lxAt B len j < len) ∧ ∀ j, j ≤ c → gI t 0 1 j = nI (lxKd B len (lxAt B len j)) ∧ gI t 0 2 j = nI (lxAt B len j) ∧ gL t 0 3 j = lxVv B len (lxAt B len j)
/-- the token that the class stands at -/
def LXC (B : Nat → Nat) (len i : Nat) (t : St) : Prop := gI t 0 0 4 = nI (i + 1) ∧ gI t 0 0 5 = nI (lxKd B len (lxAt B len i)) ∧ gI t 0 0 6 = nI (lxAt B len i) ∧ gL t 0 0 7 = lxVv B len (lxAt B len i)
theorem lx_next (h : LXA B len c t) (h4 : gI t 0 0 4 = nI i) (hi : i ≤ c) : ∃ t', sX4_advance t = some t' ∧ LXA B len c t' ∧ LXC B len i t' ∧ gI t' 0 0 8 = gI t 0 0 8 ∧ gI t' 0 0 9 = gI t 0 0 9 := by
  obtain ⟨h1, h2, h3, h5, h6⟩ := h
  obtain ⟨g1, g2, g3⟩ := h6 i hi
  refine ⟨pI (pL (pI (pI t 0 0 5 (nI (lxKd B len (lxAt B len i)))) 0 0 6 (nI (lxAt B len i))) 0 0 7 (lxVv B len (lxAt B len i))) 0 0 4 (nI (i + 1)), ?_, ⟨?_, h2, h3, h5, fun j hj => ?_⟩, ⟨?_, ?_, ?_, ?_⟩, ?_, ?_⟩
  · unfold sX4_advance
    simp (disch := omega) only [zl, zm, nI_add, pk_mul, inb_t, ix_n, gd_tt, bd_e, nm_v, ite_not, ↓reduceIte, le_t, le_f, lt_t, lt_f, eq_t, eq_f, mone_f, mone_f2, h1, h4, gI_pI, gL_pL, gI_pL, gL_pI, qe, qn, not_true_eq_false, not_false_eq_true, true_and, and_true, false_and, and_false, and_self, Nat.add_right_cancel_iff, g1, g2, g3]
  · simp (disch := omega) only [gI_pI, gL_pL, gI_pL, gL_pI, qe, qn, not_true_eq_false, not_false_eq_true, true_and, and_true, false_and, and_false, and_self, Nat.add_right_cancel_iff, ↓reduceIte]; exact h1
  · obtain ⟨g1, g2, g3⟩ := h6 j hj
    refine ⟨?_, ?_, ?_⟩
    · simp (disch := omega) only [gI_pI, gL_pL, gI_pL, gL_pI, qe, qn, not_true_eq_false, not_false_eq_true, true_and, and_true, false_and, and_false, and_self, Nat.add_right_cancel_iff, ↓reduceIte]; exact g1
    · simp (disch := omega) only [gI_pI, gL_pL, gI_pL, gL_pI, qe, qn, not_true_eq_false, not_false_eq_true, true_and, and_true, false_and, and_false, and_self, Nat.add_right_cancel_iff, ↓reduceIte]; exact g2
    · simp (disch := omega) only [gI_pI, gL_pL, gI_pL, gL_pI, qe, qn, not_true_eq_false, not_false_eq_true, true_and, and_true, false_and, and_false, and_self, Nat.add_right_cancel_iff, ↓reduceIte]; exact g3
  all_goals simp (disch := omega) only [gI_pI, gL_pL, gI_pL, gL_pI, qe, qn, not_true_eq_false, not_false_eq_true, true_and, and_true, false_and, and_false, and_self, Nat.add_right_cancel_iff, ↓reduceIte]
theorem lx_stay (h : LXA B len c t) (h4 : gI t 0 0 4 = nI (c + 1)) : sX4_advance t = some t := by
  unfold sX4_advance
  rw [h.1, h4]
  exact if_pos (nI_le (Nat.le_refl _) (by have := h.2.1; omega))
theorem lx_fin (hl : len ≤ 700) (h : LXP B len i t) (hi : i ≤ 700) (he : lxAt B len i = len) (h4 : gI t 0 0 4 = nI 0) : ∃ t', sX4_begin_b112 y t (nI len) = some t' ∧ LXA B len i t' ∧ LXC B len 0 t' ∧ gI t' 0 0 8 = gI t 0 0 8 ∧ gI t' 0 0 9 = gI t 0 0 9 := by
  have hk : lxKd B len len = 0 := ((lxKd_sp (B := B) (Nat.le_refl len)).1).mpr rfl
  have hv : lxVv B len len = lN 0 := if_pos (Nat.le_refl _)
  obtain ⟨t', e1, e2, e3, e4, e5⟩ := lx_add h.1 hi (nI 0) (nI len) (lN 0)
  have hA : LXA B len i t' := by
    refine ⟨e2, hi, he, fun j hj => (h.2 j hj).1, fun j hj => ?_⟩
    by_cases hji : j = i
    · rw [hji, he, hk, hv]; exact e3
    · obtain ⟨f1, f2, f3⟩ := e4 j hji
      rw [f1, f2, f3]; exact (h.2 j (by omega)).2
  obtain ⟨t2, g1, g2, g3, g4, g5⟩ := lx_next (i := 0) hA ((e5 4 (by omega)).trans h4) (by omega)
  refine ⟨t2, ?_, g2, g3, g4.trans (e5 8 (by omega)), g5.trans (e5 9 (by omega))⟩
  unfold sX4_begin_b112
  have e1' : sX4_add t (0 : Int32) (nI len) (0 : Int64) = some t' := e1
  rw [e1', bd_e, g1, bd_e]
end
