/-! stage B: the tokens of a text -/
def lxL (v : Nat) : Bool := decide (97 ≤ v) && decide (v ≤ 122)
def lxD (v : Nat) : Bool := decide (48 ≤ v) && decide (v ≤ 57)
def lxS (v : Nat) : Bool := decide (v = 32) || decide (v = 10)
def lxScn (P : Nat → Bool) (B : Nat → Nat) (len : Nat) : Nat → Nat → Nat
  | 0, p => p
  | d + 1, p => if p < len ∧ P (B p) = true then lxScn P B len d (p + 1) else p
theorem lxScn_sp (P : Nat → Bool) (B : Nat → Nat) (len : Nat) : ∀ d p, len ≤ p + d → p ≤ len → p ≤ lxScn P B len d p ∧ lxScn P B len d p ≤ len ∧ (∀ i, p ≤ i → i < lxScn P B len d p → P (B i) = true) ∧ (lxScn P B len d p < len → P (B (lxScn P B len d p)) = false)
  | 0, p, h, h2 => by
    have e : lxScn P B len 0 p = p := rfl
    rw [e]
    exact ⟨Nat.le_refl _, h2, fun i h3 h4 => absurd h3 (by omega), fun h3 => absurd h3 (by omega)⟩
  | d + 1, p, h, h2 => by
    have e : lxScn P B len (d + 1) p = if p < len ∧ P (B p) = true then lxScn P B len d (p + 1) else p := rfl
    rw [e]
    by_cases hc : p < len ∧ P (B p) = true
    · rw [if_pos hc]
      obtain ⟨a1, a2, a3, a4⟩ := lxScn_sp P B len d (p + 1) (by omega) (by omega)
      refine ⟨by omega, a2, fun i h3 h4 => ?_, a4⟩
      rcases Nat.eq_or_lt_of_le h3 with z | z
      · rw [← z]; exact hc.2
      · exact a3 i z h4
    · rw [if_neg hc]
      refine ⟨Nat.le_refl _, h2, fun i h3 h4 => absurd h3 (by omega), fun h3 => ?_⟩
      cases hb : P (B p)
      · rfl
      · exact absurd ⟨h3, hb⟩ hc
def lxRun (P : Nat → Bool) (B : Nat → Nat) (len p : Nat) : Nat := lxScn P B len len p
section
variable {P : Nat → Bool} {B : Nat → Nat} {len p q i j : Nat}
theorem lxRun_sp (hp : p ≤ len) : p ≤ lxRun P B len p ∧ lxRun P B len p ≤ len ∧ (∀ i, p ≤ i → i < lxRun P B len p → P (B i) = true) ∧ (lxRun P B len p < len → P (B (lxRun P B len p)) = false) := lxScn_sp P B len len p (by omega) hp
theorem lxRun_eq (h1 : p ≤ q) (h2 : q ≤ len) (h3 : ∀ i, p ≤ i → i < q → P (B i) = true) (h4 : q < len → P (B q) = false) : lxRun P B len p = q := by
  obtain ⟨a1, a2, a3, a4⟩ := lxRun_sp (P := P) (B := B) (Nat.le_trans h1 h2)
  rcases Nat.lt_trichotomy (lxRun P B len p) q with h | h | h
  · have := h3 _ a1 h; rw [a4 (by omega)] at this; cases this
  · exact h
  · have := a3 _ h1 h; rw [h4 (by omega)] at this; cases this
theorem lxRun_step (h : p < len) (hP : P (B p) = true) : lxRun P B len (p + 1) = lxRun P B len p ∧ p < lxRun P B len p := by
  obtain ⟨a1, a2, a3, a4⟩ := lxRun_sp (P := P) (B := B) (show p + 1 ≤ len by omega)
  have e : lxRun P B len p = lxRun P B len (p + 1) := lxRun_eq (by omega) a2 (fun i h1 h2 => by
    rcases Nat.eq_or_lt_of_le h1 with z | z
    · rw [← z]; exact hP
    · exact a3 i z h2) a4
  exact ⟨e.symm, by omega⟩
theorem lxRun_stay (h : p ≤ len) (hP : p < len → P (B p) = false) : lxRun P B len p = p := lxRun_eq (Nat.le_refl _) h (fun i h1 h2 => absurd h1 (by omega)) hP
/-- behind the token that begins at p -/
def lxNx (B : Nat → Nat) (len p : Nat) : Nat := if len ≤ p then p else if lxL (B p) = true then lxRun lxL B len p else if lxD (B p) = true then lxRun lxD B len p else p + 1
theorem lxNx_le (h : p ≤ len) : p ≤ lxNx B len p ∧ lxNx B len p ≤ len ∧ (p < len → p < lxNx B len p) := by
  unfold lxNx
  by_cases h1 : len ≤ p
  · rw [if_pos h1]; omega
  · rw [if_neg h1]
    by_cases h2 : lxL (B p) = true
    · rw [if_pos h2]
      have := lxRun_step (show p < len by omega) h2
      have := lxRun_sp (P := lxL) (B := B) h
      omega
    · rw [if_neg h2]
      by_cases h3 : lxD (B p) = true
      · rw [if_pos h3]
        have := lxRun_step (show p < len by omega) h3
        have := lxRun_sp (P := lxD) (B := B) h
        omega
      · rw [if_neg h3]; omega
def lxSk (B : Nat → Nat) (len p : Nat) : Nat := lxRun lxS B len p
def lxAt (B : Nat → Nat) (len : Nat) : Nat → Nat
  | 0 => lxSk B len 0
  | i + 1 => lxSk B len (lxNx B len (lxAt B len i))
theorem lxAt_s (i : Nat) : lxAt B len (i + 1) = lxSk B len (lxNx B len (lxAt B len i)) := (fun h => h) rfl
theorem lxAt_le : ∀ i, lxAt B len i ≤ len
  | 0 => (lxRun_sp (Nat.zero_le len)).2.1
  | i + 1 => (lxRun_sp (lxNx_le (lxAt_le i)).2.1).2.1
theorem lxAt_end (h : lxAt B len i = len) : lxAt B len (i + 1) = len := by
  rw [lxAt_s, h]
  have e : lxNx B len len = len := if_pos (Nat.le_refl _)
  rw [e]
  exact lxRun_stay (Nat.le_refl _) fun z => absurd z (by omega)
/-- its kind: 0 the end, 1 a word, 2 a number, 3 none, or the sign -/
def lxKd (B : Nat → Nat) (len p : Nat) : Nat :=
  if len ≤ p then 0 else if lxL (B p) = true then (if lxNx B len p - p ≤ 8 then 1 else 3) else if lxD (B p) = true then (if lxNx B len p - p ≤ 3 then 2 else 3) else if B p = 59 ∨ B p = 40 ∨ B p = 41 then B p else 3
def lxLs (B : Nat → Nat) (len p : Nat) : List Nat := (List.range (min 8 (lxNx B len p - p))).map fun i => B (p + i)
def lxNv (B : Nat → Nat) (p : Nat) : Nat → Nat
  | 0 => 0
  | j + 1 => 10 * lxNv B p j + (B (p + j) - 48)
theorem lxNv_s (j : Nat) : lxNv B p (j + 1) = 10 * lxNv B p j + (B (p + j) - 48) := (fun h => h) rfl
def lxNum (B : Nat → Nat) (len p : Nat) : Nat := lxNv B p (min 3 (lxNx B len p - p))
def lxVv (B : Nat → Nat) (len p : Nat) : Int64 :=
  if len ≤ p then lN 0 else if lxL (B p) = true then lN (cpN (lxLs B len p)) else if lxD (B p) = true then lN (lxNum B len p) else lN 0
def lxSrt (k : Nat) : Nat := if k = 0 then 0 else if k = 1 then 1 else if k = 2 then 2 else if k = 3 then 4 else 3
theorem lxL_of {v : Nat} (h : lxL v = true) : 97 ≤ v ∧ v ≤ 122 := by
  have h1 := h
  unfold lxL at h1
  rw [Bool.and_eq_true, decide_eq_true_eq, decide_eq_true_eq] at h1
  exact h1
theorem lxD_of {v : Nat} (h : lxD v = true) : 48 ≤ v ∧ v ≤ 57 := by
  have h1 := h
  unfold lxD at h1
  rw [Bool.and_eq_true, decide_eq_true_eq, decide_eq_true_eq] at h1
  exact h1
theorem lxLs_len : (lxLs B len p).length = min 8 (lxNx B len p - p) := by
  unfold lxLs; rw [List.length_map, List.length_range]
theorem lxLs_at (h : i < (lxLs B len p).length) : (lxLs B len p).getD i 0 = B (p + i) := by
  rw [lxLs_len] at h
  unfold lxLs
  rw [List.getD_eq_getElem?_getD, List.getElem?_map, List.getElem?_range h]; rfl
theorem lxNx_L (h : p < len) (hL : lxL (B p) = true) : lxNx B len p = lxRun lxL B len p := by
  unfold lxNx; rw [if_neg (show ¬ len ≤ p by omega), if_pos hL]
theorem lxNx_D (h : p < len) (hL : lxL (B p) = false) (hD : lxD (B p) = true) : lxNx B len p = lxRun lxD B len p := by
  unfold lxNx; rw [if_neg (show ¬ len ≤ p by omega), hL, if_neg Bool.false_ne_true, if_pos hD]
theorem lxNx_O (h : p < len) (hL : lxL (B p) = false) (hD : lxD (B p) = false) : lxNx B len p = p + 1 := by
  unfold lxNx; rw [if_neg (show ¬ len ≤ p by omega), hL, hD, if_neg Bool.false_ne_true, if_neg Bool.false_ne_true]
theorem lxLs_ok (h : p < len) (hL : lxL (B p) = true) : okL (lxLs B len p) := by
  have h1 := lxNx_le (B := B) (Nat.le_of_lt h)
  have h2 := h1.2.2 h
  have h3 := lxLs_len (B := B) (len := len) (p := p)
  refine ⟨by omega, by omega, fun c hc => ?_⟩
  obtain ⟨i, hi, rfl⟩ := List.mem_iff_getElem.mp hc
  have e := lxLs_at hi
  rw [List.getD_eq_getElem?_getD, List.getElem?_eq_getElem hi] at e
  have e2 : (lxLs B len p)[i] = B (p + i) := e
  rw [e2]
  have hr := lxRun_sp (P := lxL) (B := B) (Nat.le_of_lt h)
  rw [← lxNx_L h hL] at hr
  exact lxL_of (hr.2.2.1 (p + i) (by omega) (by omega))
theorem lxNv_lt (hd : ∀ i, i < j → lxD (B (p + i)) = true) : lxNv B p j < 10 ^ j := by
  revert hd
  induction j with
  | zero => intro _; exact Nat.one_pos
  | succ j ih =>
    intro hd
    have h1 := ih fun i hi => hd i (by omega)
    have h2 := lxD_of (hd j (by omega))
    rw [lxNv_s, Nat.pow_succ]
    omega
theorem lxNum_le (h : p < len) (hL : lxL (B p) = false) (hD : lxD (B p) = true) : lxNum B len p ≤ 999 := by
  have h1 := lxNx_le (B := B) (Nat.le_of_lt h)
  have hr := lxRun_sp (P := lxD) (B := B) (Nat.le_of_lt h)
  rw [← lxNx_D h hL hD] at hr
  have h2 : lxNum B len p < 10 ^ min 3 (lxNx B len p - p) := lxNv_lt fun i hi => hr.2.2.1 (p + i) (by omega) (by omega)
  have h3 : 10 ^ min 3 (lxNx B len p - p) ≤ 10 ^ 3 := Nat.pow_le_pow_right (by decide) (by omega)
  omega
/-- what is known of a token by its kind -/
theorem lxKd_sp (h : p ≤ len) : (lxKd B len p = 0 ↔ p = len) ∧ (lxKd B len p = 1 → okL (lxLs B len p) ∧ lxVv B len p = lN (cpN (lxLs B len p))) ∧ (lxKd B len p = 2 → lxNum B len p ≤ 999 ∧ lxVv B len p = lN (lxNum B len p)) ∧ (lxKd B len p ≤ 3 ∨ lxKd B len p = 59 ∨ lxKd B len p = 40 ∨ lxKd B len p = 41) := by
  unfold lxKd lxVv
  by_cases h1 : len ≤ p
  · rw [if_pos h1]
    exact ⟨⟨fun _ => by omega, fun _ => rfl⟩, fun z => absurd z (by decide), fun z => absurd z (by decide), Or.inl (by omega)⟩
  · rw [if_neg h1, if_neg h1]
    cases hL : lxL (B p)
    · rw [if_neg Bool.false_ne_true, if_neg Bool.false_ne_true]
      cases hD : lxD (B p)
      · rw [if_neg Bool.false_ne_true, if_neg Bool.false_ne_true]
        by_cases hs : B p = 59 ∨ B p = 40 ∨ B p = 41
        · rw [if_pos hs]
          exact ⟨by omega, by omega, by omega, by omega⟩
        · rw [if_neg hs]
          exact ⟨by omega, by omega, by omega, by omega⟩
      · rw [if_pos rfl, if_pos rfl]
        have h2 := lxNum_le (show p < len by omega) hL hD
        by_cases hc : lxNx B len p - p ≤ 3
        · rw [if_pos hc]
          exact ⟨by omega, fun z => absurd z (by decide), fun _ => ⟨h2, rfl⟩, by omega⟩
        · rw [if_neg hc]
          exact ⟨by omega, fun z => absurd z (by decide), fun z => absurd z (by decide), by omega⟩
    · rw [if_pos rfl, if_pos rfl]
      have h2 := lxLs_ok (show p < len by omega) hL
      by_cases hc : lxNx B len p - p ≤ 8
      · rw [if_pos hc]
        exact ⟨by omega, fun _ => ⟨h2, rfl⟩, fun z => absurd z (by decide), by omega⟩
      · rw [if_neg hc]
        exact ⟨by omega, fun z => absurd z (by decide), fun z => absurd z (by decide), by omega⟩
end
