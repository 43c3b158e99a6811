/-! stage B: one beacon changes its state, in the class's and the law's world -/
def bzN (a s : Nat) : Nat → Bool
  | 0 => false
  | o + 1 => bzN a s o || (a.testBit o && s.testBit o)
theorem bzN_e (a s o : Nat) : bzN a s (o + 1) = (bzN a s o || (a.testBit o && s.testBit o)) := rfl
theorem bzN_iff (a s : Nat) : ∀ n, bzN a s n = true ↔ ∃ o, o < n ∧ a.testBit o = true ∧ s.testBit o = true
  | 0 => by simp [bzN]
  | n + 1 => by
    rw [bzN_e, Bool.or_eq_true_iff, bzN_iff a s n, Bool.and_eq_true_iff]
    constructor
    · rintro (⟨o, h1, h2⟩ | h)
      · exact ⟨o, by omega, h2⟩
      · exact ⟨n, by omega, h⟩
    · rintro ⟨o, h1, h2⟩
      by_cases e : o = n
      · subst e; exact Or.inr h2
      · exact Or.inl ⟨o, by omega, h2⟩
theorem bz_and {a s n : Nat} (h : ∀ i, a.testBit i = true → i < n) : bzN a s n = false ↔ a &&& s = 0 := by
  constructor
  · intro h1
    refine Nat.eq_of_testBit_eq fun o => ?_
    rw [Nat.testBit_and, Nat.zero_testBit]
    cases ha : a.testBit o
    · rfl
    · cases hs : s.testBit o
      · rfl
      · have := (bzN_iff a s n).mpr ⟨o, h o ha, ha, hs⟩
        rw [h1] at this; cases this
  · intro h1
    cases hb : bzN a s n
    · rfl
    · obtain ⟨o, -, ha, hs⟩ := (bzN_iff a s n).mp hb
      have h2 := congrArg (fun z => z.testBit o) h1
      simp only [Nat.testBit_and, Nat.zero_testBit, ha, hs] at h2
      cases h2
theorem pcN_zero {a n : Nat} (h : ∀ i, a.testBit i = true → i < n) : pcN a n = 0 ↔ a = 0 := by
  constructor
  · intro h1
    refine Nat.eq_of_testBit_eq fun o => ?_
    rw [Nat.zero_testBit]
    cases ha : a.testBit o
    · rfl
    · exfalso
      have h2 : ∀ n o, o < n → a.testBit o = true → 1 ≤ pcN a n := by
        intro n
        induction n with
        | zero => intro o ho; omega
        | succ n ih =>
          intro o ho hb
          rw [pcN_e]
          by_cases e : o = n
          · subst e; rw [hb]; show 1 ≤ _ + 1; omega
          · have := ih o (by omega) hb; omega
      have := h2 n o (h o ha) ha
      omega
  · rintro rfl
    exact pcN_0 n
def YT (k : Nat) (Y Y' : St) : Prop := YC k Y Y' ∧ (Y' = Y ∨ (¬ gI Y (k + 1) 0 5 = nI 4 ∧ ¬ gI Y' (k + 1) 0 5 = nI 4 ∧ (gI Y' (k + 1) 0 5 = nI 0 → gI Y (k + 1) 0 5 = nI 0 ∧ gI Y' (k + 1) 0 6 = gI Y (k + 1) 0 6)))
section
variable {n t cm wl wm e k b : Nat} {q : Bool} {x x' m Y Y' : St} {f f' : Nat → Int32}
theorem y_busy {B : Bool} {st sn : Nat} {R : Option St} (y : FY n Y f) (h : WR n t cm wl wm q e x f) (hk : k < n) (hst : gI Y (k + 1) 0 5 = nI st) (hst4 : st ≤ 4) (hsn : f 12 = nI sn) (hsn2 : sn < 256) (hB : B = if st = 2 then bzN (NB x k) sn n else false) (hR : ∀ F, sX8_changes_b93 (F + 1) n Y 0 (nI k) k (nI B.toNat) (nI n) = R) : sX8_changes_b93 FU n Y 0 (nI k) k (nI 0) (nI 0) = R := by
  have hn := h.n8
  subst hB
  refine fuel_up n (fun F o => sX8_changes_b93 F n Y 0 (nI k) k (nI (if st = 2 then bzN (NB x k) sn o else false).toNat) (nI o)) R hR (fun F o ho => ?_) n 0 FU (by omega) (FU_lt (by omega)) |>.symm.symm ▸ (by
    by_cases h2 : st = 2
    · rw [if_pos h2]; rfl
    · rw [if_neg h2]; rfl) |> fun z => z
  simp only [sX8_changes_b93]
  by_cases h2 : st = 2
  · subst h2
    have h1 := y.nr h hk ho
    have h3 := y.1.2.2.2.2.2.2.2.2 o ho
    rw [hsn, ix_n (by omega)] at h3
    have h4 := bzN_e (NB x k) sn o
    cases hb : (NB x k).testBit o <;> cases hs : sn.testBit o <;> cases hz : bzN (NB x k) sn o <;> rw [hb] at h1 <;> rw [hs] at h3 <;> rw [hb, hs, hz] at h4
    all_goals simp (disch := omega) only [zl, zm, nI_add, pk_mul, inb_t, ix_n, gd_tt, bd_e, nm_v, ite_not, ↓reduceIte, le_t, le_f, lt_t, lt_f, eq_t, eq_f, mone_f, mone_f2, hst, h1, h3, h4, Bool.toNat_false, Bool.toNat_true, n_or, Bool.or_false, Bool.false_or, Bool.true_or, Bool.or_true, Bool.and_true, Bool.and_false, Bool.and_self, not_true_eq_false, not_false_eq_true]
    all_goals rfl
  · simp (disch := omega) only [zl, zm, nI_add, pk_mul, inb_t, ix_n, gd_tt, bd_e, nm_v, ite_not, ↓reduceIte, le_t, le_f, lt_t, lt_f, eq_t, eq_f, mone_f, mone_f2, hst, h2, Bool.toNat_false, n_or, not_false_eq_true]
    rfl
end
