/-! the String constants and the statics at the entry -/
def oJS : List (String × Nat) := [(RX1, 70), (RX1, 72), (RX1, 74), (RX1, 76), (RX1, 78), (RX2, 77), (RX2, 83), (RX2, 85), (RX2, 87), (RX2, 89), (RX2, 91), (RX2, 93), (RX2, 95), (RX3, 38), (RX3, 51), (RX3, 56), (RX3, 61), (RX3, 66), (RX3, 122)]
def tmJS (i : Nat) : Term := .string (oJS.getD i ("", 0)).1 (oJS.getD i ("", 0)).2
def FL : List Cond := flatC (Jvm.Cond.and given_1 narrow_1)
theorem st_ex : ∀ i, i < 19 → Cond.exactly (tmJS i) "java/lang/String" ∈ FL := by decide +kernel
theorem st_co : ∀ i, i < 19 → Cond.eq (.field (tmJS i) "java/lang/String" "coder" "B") (.int 0) ∈ FL := by decide +kernel
theorem st_ar : ∀ i, i < 19 → Cond.arrayOf (.field (tmJS i) "java/lang/String" "value" "[B") .byte ∈ FL := by decide +kernel
theorem st_le : ∀ i, i < 19 → Cond.eq (.length (.field (tmJS i) "java/lang/String" "value" "[B")) (.int (Int32.ofNat (lenJS.getD i 0))) ∈ FL := by decide +kernel
theorem st_el : ∀ i, i < 19 → ∀ j, j < lenJS.getD i 0 → Cond.eq (.elem (.field (tmJS i) "java/lang/String" "value" "[B") (.int (Int32.ofNat j))) (.int ((bytJS.getD i []).getD j 0)) ∈ FL := by decide +kernel
def rxN (c : Nat) : String := match c with | 1 => RX1 | 2 => RX2 | _ => RX3
def mkN (q : Nat × Nat × Nat × Nat) : Cond := .not (.eq (.string (rxN q.1) q.2.1) (.string (rxN q.2.2.1) q.2.2.2))
def isN (c : Cond) : Bool := match c with | .not (.eq (.string _ _) (.string _ _)) => true | _ => false
def NEs : List (Nat × Nat × Nat × Nat) := [(1, 70, 1, 72), (1, 70, 1, 74), (1, 72, 1, 74), (1, 70, 1, 76), (1, 72, 1, 76), (1, 74, 1, 76), (1, 70, 1, 78), (1, 72, 1, 78), (1, 74, 1, 78), (1, 76, 1, 78), (1, 70, 3, 38), (1, 72, 3, 38), (1, 74, 3, 38), (1, 76, 3, 38), (1, 78, 3, 38), (1, 70, 3, 51), (1, 72, 3, 51), (1, 74, 3, 51), (1, 76, 3, 51), (1, 78, 3, 51), (3, 38, 3, 51), (1, 70, 3, 56), (1, 72, 3, 56), (1, 74, 3, 56), (1, 76, 3, 56), (1, 78, 3, 56), (3, 38, 3, 56), (3, 51, 3, 56), (1, 70, 3, 61), (1, 72, 3, 61), (1, 74, 3, 61), (1, 76, 3, 61), (1, 78, 3, 61), (3, 38, 3, 61), (3, 51, 3, 61), (3, 56, 3, 61), (1, 70, 3, 66), (1, 72, 3, 66), (1, 74, 3, 66), (1, 76, 3, 66), (1, 78, 3, 66), (3, 38, 3, 66), (3, 51, 3, 66), (3, 56, 3, 66), (3, 61, 3, 66), (1, 70, 3, 107), (1, 72, 3, 107), (1, 74, 3, 107), (1, 76, 3, 107), (1, 78, 3, 107), (3, 38, 3, 107), (3, 51, 3, 107), (3, 56, 3, 107), (3, 61, 3, 107), (3, 66, 3, 107), (1, 70, 3, 112), (1, 72, 3, 112), (1, 74, 3, 112), (1, 76, 3, 112), (1, 78, 3, 112), (3, 38, 3, 112), (3, 51, 3, 112), (3, 56, 3, 112), (3, 61, 3, 112), (3, 66, 3, 112), (3, 107, 3, 112), (1, 70, 3, 118), (1, 74, 3, 118), (1, 76, 3, 118), (1, 78, 3, 118), (3, 38, 3, 118), (3, 51, 3, 118), (3, 56, 3, 118), (3, 61, 3, 118), (3, 66, 3, 118), (3, 107, 3, 118), (3, 112, 3, 118), (1, 70, 3, 120), (1, 72, 3, 120), (1, 74, 3, 120), (1, 78, 3, 120), (3, 38, 3, 120), (3, 51, 3, 120), (3, 56, 3, 120), (3, 61, 3, 120), (3, 66, 3, 120), (3, 107, 3, 120), (3, 112, 3, 120), (3, 118, 3, 120), (1, 70, 3, 122), (1, 72, 3, 122), (1, 74, 3, 122), (1, 76, 3, 122), (1, 78, 3, 122), (3, 38, 3, 122), (3, 51, 3, 122), (3, 56, 3, 122), (3, 61, 3, 122), (3, 66, 3, 122), (3, 107, 3, 122), (3, 112, 3, 122), (3, 118, 3, 122), (3, 120, 3, 122), (1, 70, 3, 71), (1, 72, 3, 71), (1, 74, 3, 71), (1, 76, 3, 71), (1, 78, 3, 71), (3, 38, 3, 71), (3, 51, 3, 71), (3, 56, 3, 71), (3, 61, 3, 71), (3, 66, 3, 71), (3, 107, 3, 71), (3, 112, 3, 71), (3, 118, 3, 71), (3, 120, 3, 71), (3, 122, 3, 71), (1, 70, 2, 77), (1, 72, 2, 77), (1, 74, 2, 77), (1, 76, 2, 77), (1, 78, 2, 77), (3, 38, 2, 77), (3, 51, 2, 77), (3, 56, 2, 77), (3, 61, 2, 77), (3, 66, 2, 77), (3, 107, 2, 77), (3, 112, 2, 77), (3, 118, 2, 77), (3, 120, 2, 77), (3, 122, 2, 77), (3, 71, 2, 77), (1, 70, 2, 83), (1, 72, 2, 83), (1, 74, 2, 83), (1, 76, 2, 83), (1, 78, 2, 83), (3, 38, 2, 83), (3, 51, 2, 83), (3, 56, 2, 83), (3, 61, 2, 83), (3, 66, 2, 83), (3, 107, 2, 83), (3, 112, 2, 83), (3, 118, 2, 83), (3, 120, 2, 83), (3, 122, 2, 83), (3, 71, 2, 83), (2, 77, 2, 83), (1, 70, 2, 85), (1, 72, 2, 85), (1, 74, 2, 85), (1, 76, 2, 85), (1, 78, 2, 85), (3, 38, 2, 85), (3, 51, 2, 85), (3, 56, 2, 85), (3, 61, 2, 85), (3, 66, 2, 85), (3, 112, 2, 85), (3, 118, 2, 85), (3, 120, 2, 85), (3, 122, 2, 85), (3, 71, 2, 85), (2, 77, 2, 85), (2, 83, 2, 85), (1, 70, 2, 87), (1, 72, 2, 87), (1, 74, 2, 87), (1, 76, 2, 87), (1, 78, 2, 87), (3, 38, 2, 87), (3, 51, 2, 87), (3, 56, 2, 87), (3, 61, 2, 87), (3, 66, 2, 87), (3, 107, 2, 87), (3, 118, 2, 87), (3, 120, 2, 87), (3, 122, 2, 87), (3, 71, 2, 87), (2, 77, 2, 87), (2, 83, 2, 87), (2, 85, 2, 87), (1, 70, 2, 89), (1, 72, 2, 89), (1, 74, 2, 89), (1, 76, 2, 89), (1, 78, 2, 89), (3, 38, 2, 89), (3, 51, 2, 89), (3, 56, 2, 89), (3, 61, 2, 89), (3, 66, 2, 89), (3, 107, 2, 89), (3, 112, 2, 89), (3, 118, 2, 89), (3, 120, 2, 89), (3, 122, 2, 89), (3, 71, 2, 89), (2, 77, 2, 89), (2, 83, 2, 89), (2, 85, 2, 89), (2, 87, 2, 89), (1, 70, 2, 91), (1, 72, 2, 91), (1, 74, 2, 91), (1, 76, 2, 91), (1, 78, 2, 91), (3, 38, 2, 91), (3, 51, 2, 91), (3, 56, 2, 91), (3, 61, 2, 91), (3, 66, 2, 91), (3, 107, 2, 91), (3, 112, 2, 91), (3, 118, 2, 91), (3, 120, 2, 91), (3, 122, 2, 91), (2, 77, 2, 91), (2, 83, 2, 91), (2, 85, 2, 91), (2, 87, 2, 91), (2, 89, 2, 91), (1, 70, 2, 93), (1, 72, 2, 93), (1, 74, 2, 93), (1, 76, 2, 93), (1, 78, 2, 93), (3, 38, 2, 93), (3, 51, 2, 93), (3, 56, 2, 93), (3, 61, 2, 93), (3, 66, 2, 93), (3, 107, 2, 93), (3, 112, 2, 93), (3, 118, 2, 93), (3, 120, 2, 93), (3, 122, 2, 93), (3, 71, 2, 93), (2, 77, 2, 93), (2, 83, 2, 93), (2, 85, 2, 93), (2, 87, 2, 93), (2, 89, 2, 93), (2, 91, 2, 93), (1, 70, 2, 95), (1, 72, 2, 95), (1, 74, 2, 95), (1, 76, 2, 95), (1, 78, 2, 95), (3, 38, 2, 95), (3, 51, 2, 95), (3, 56, 2, 95), (3, 61, 2, 95), (3, 66, 2, 95), (3, 107, 2, 95), (3, 112, 2, 95), (3, 118, 2, 95), (3, 120, 2, 95), (3, 122, 2, 95), (3, 71, 2, 95), (2, 77, 2, 95), (2, 83, 2, 95), (2, 85, 2, 95), (2, 87, 2, 95), (2, 89, 2, 95), (2, 91, 2, 95), (2, 93, 2, 95)]
theorem NEs_ok : FL.filter isN = NEs.map mkN := by decide +kernel
def cJS : List (Nat × Nat) := [(1, 70), (1, 72), (1, 74), (1, 76), (1, 78), (2, 77), (2, 83), (2, 85), (2, 87), (2, 89), (2, 91), (2, 93), (2, 95), (3, 38), (3, 51), (3, 56), (3, 61), (3, 66), (3, 122)]
theorem cJS_tm : ∀ i, i < 19 → tmJS i = .string (rxN (cJS.getD i (0, 0)).1) (cJS.getD i (0, 0)).2 := by
  intro i hi
  match i, hi with
  | 0, _ => rfl
  | 1, _ => rfl
  | 2, _ => rfl
  | 3, _ => rfl
  | 4, _ => rfl
  | 5, _ => rfl
  | 6, _ => rfl
  | 7, _ => rfl
  | 8, _ => rfl
  | 9, _ => rfl
  | 10, _ => rfl
  | 11, _ => rfl
  | 12, _ => rfl
  | 13, _ => rfl
  | 14, _ => rfl
  | 15, _ => rfl
  | 16, _ => rfl
  | 17, _ => rfl
  | 18, _ => rfl
  | i + 19, hi => exact absurd hi (by omega)
theorem NE_mem {q : Nat × Nat × Nat × Nat} (h : q ∈ NEs) : mkN q ∈ FL := by
  have h1 : mkN q ∈ FL.filter isN := by rw [NEs_ok]; exact List.mem_map_of_mem h
  exact (List.mem_filter.mp h1).1
def prN (i j : Nat) : Nat × Nat × Nat × Nat := ((cJS.getD i (0, 0)).1, (cJS.getD i (0, 0)).2, (cJS.getD j (0, 0)).1, (cJS.getD j (0, 0)).2)
theorem cJS_ne : ∀ i, i < 19 → ∀ j, j < 19 → i ≠ j → (NEs.contains (prN i j) || NEs.contains (prN j i)) = true := by decide +kernel
theorem st_ne : ∀ i, i < 19 → ∀ j, j < 19 → i ≠ j → Cond.not (Cond.eq (tmJS i) (tmJS j)) ∈ FL ∨ Cond.not (Cond.eq (tmJS j) (tmJS i)) ∈ FL := by
  intro i hi j hj hn
  rw [cJS_tm i hi, cJS_tm j hj]
  rcases Bool.or_eq_true_iff.mp (cJS_ne i hi j hj hn) with h | h
  · exact Or.inl (NE_mem (q := prN i j) (List.contains_iff_mem.mp h))
  · exact Or.inr (NE_mem (q := prN j i) (List.contains_iff_mem.mp h))
theorem st_R : ∀ q ∈ SR, Term.string q.1 q.2.1 = tmJS q.2.2.2 ∨ Cond.eq (.string q.1 q.2.1) (tmJS q.2.2.2) ∈ FL ∨ Cond.eq (tmJS q.2.2.2) (.string q.1 q.2.1) ∈ FL := by decide +kernel
theorem st_W : ∀ q ∈ SR, Cond.stringRef q.1 q.2.1 q.2.2.1 ∈ lw_tbl ∧ q.2.2.2 < 19 := by decide +kernel
theorem st_ln : ∀ i, i < 19 → lenJS.getD i 0 < 2 ^ 31 := by decide +kernel
theorem eq_l {args : Array Value} {s : State} {t1 t2 : Term} (h : (Cond.eq t1 t2).before args s = true) {a : Nat} (h2 : t2.eval args s none [] s = some (.ref a)) : t1.eval args s none [] s = some (.ref a) := by
  cases hv : t1.eval args s none [] s with
  | none => simp [Cond.before, Cond.holds, Cond.value, hv] at h
  | some v => cases v <;> simp [Cond.before, Cond.holds, Cond.value, hv, h2] at h ⊢ <;> exact h
theorem eq_r {args : Array Value} {s : State} {t1 t2 : Term} (h : (Cond.eq t1 t2).before args s = true) {a : Nat} (h2 : t1.eval args s none [] s = some (.ref a)) : t2.eval args s none [] s = some (.ref a) := by
  cases hv : t2.eval args s none [] s with
  | none => simp [Cond.before, Cond.holds, Cond.value, hv, h2] at h
  | some v => cases v <;> simp [Cond.before, Cond.holds, Cond.value, hv, h2] at h ⊢ <;> exact h.symm
