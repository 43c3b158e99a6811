/-! stage B: the law's end of a sending -/
def lsY (Y : St) (k i : Nat) : Int32 := if i = k then nI 5 else gI Y (k + 1) 3 i
def yT (Y : St) (k a : Nat) : St := (fun o j i => if o = k + 1 ∧ j = 4 ∧ i < a then lsY Y k i else if j = 2 ∧ i = k ∧ 1 ≤ o ∧ o - 1 < a ∧ ¬ o - 1 = k ∧ gI Y (k + 1) 3 (o - 1) = nI 0 then gI Y 0 0 0 else Y.1 o j i, Y.2)
def hK (Y : St) (k : Nat) : Nat → Bool
  | 0 => false
  | o + 1 => hK Y k o || (!(decide (o = k)) && decide (gI Y (k + 1) 3 o = nI 0))
section
variable {n t cm wl wm e k b : Nat} {q : Bool} {x x' m Y Y' : St} {f f' : Nat → Int32} {N : Nat → Nat} {S a s cc o : Nat}
theorem hK_e (o : Nat) : hK Y k (o + 1) = (hK Y k o || (!(decide (o = k)) && decide (gI Y (k + 1) 3 o = nI 0))) := rfl
theorem hK_iff : ∀ a, hK Y k a = true ↔ ∃ o, o < a ∧ ¬ o = k ∧ gI Y (k + 1) 3 o = nI 0
  | 0 => by simp [hK]
  | a + 1 => by
    rw [hK_e, Bool.or_eq_true_iff, hK_iff a, Bool.and_eq_true_iff]
    constructor
    · rintro (⟨o, h1, h2⟩ | h)
      · exact ⟨o, by omega, h2⟩
      · refine ⟨a, by omega, ?_, of_decide_eq_true h.2⟩
        intro e
        rw [decide_eq_true e] at h
        cases h.1
    · rintro ⟨o, h1, h2, h3⟩
      by_cases e : o = a
      · subst e; exact Or.inr ⟨by rw [decide_eq_false h2]; rfl, decide_eq_true h3⟩
      · exact Or.inl ⟨o, by omega, h2, h3⟩
theorem yT_g (o j i : Nat) : gI (yT Y k a) o j i = if o = k + 1 ∧ j = 4 ∧ i < a then lsY Y k i else if j = 2 ∧ i = k ∧ 1 ≤ o ∧ o - 1 < a ∧ ¬ o - 1 = k ∧ gI Y (k + 1) 3 (o - 1) = nI 0 then gI Y 0 0 0 else gI Y o j i := rfl
theorem yT_o {o j i : Nat} (h4 : ¬ (o = k + 1 ∧ j = 4)) (h2 : ¬ (j = 2 ∧ i = k)) : gI (yT Y k a) o j i = gI Y o j i := by
  rw [yT_g, if_neg (by omega), if_neg (by omega)]
theorem yT_0 : yT Y k 0 = Y := Prod.ext (funext fun o => funext fun j => funext fun i => by
  show gI (yT Y k 0) o j i = gI Y o j i
  rw [yT_g, if_neg (by omega), if_neg (by omega)]) rfl
theorem yT_n (h : s = k ∨ ¬ gI Y (k + 1) 3 s = nI 0) : pI (yT Y k s) (k + 1) 4 s (lsY Y k s) = yT Y k (s + 1) := by
  refine Prod.ext (funext fun o => funext fun j => funext fun i => ?_) rfl
  show gI (pI (yT Y k s) (k + 1) 4 s _) o j i = gI (yT Y k (s + 1)) o j i
  rw [gI_pI, yT_g, yT_g]
  by_cases h1 : o = k + 1 ∧ j = 4 ∧ i = s
  · obtain ⟨rfl, rfl, rfl⟩ := h1
    rw [if_pos ⟨rfl, rfl, rfl⟩, if_pos ⟨rfl, rfl, by omega⟩]
  · rw [if_neg h1]
    by_cases h2 : o = k + 1 ∧ j = 4 ∧ i < s
    · rw [if_pos h2, if_pos (by omega)]
    · rw [if_neg h2, if_neg (show ¬ (o = k + 1 ∧ j = 4 ∧ i < s + 1) by omega)]
      by_cases h3 : j = 2 ∧ i = k ∧ 1 ≤ o ∧ o - 1 < s ∧ ¬ o - 1 = k ∧ gI Y (k + 1) 3 (o - 1) = nI 0
      · rw [if_pos h3, if_pos ⟨h3.1, h3.2.1, h3.2.2.1, by omega, h3.2.2.2.2⟩]
      · rw [if_neg h3, if_neg (fun z => h3 ⟨z.1, z.2.1, z.2.2.1, by
          by_cases e : o - 1 = s
          · exfalso
            rcases h with h | h
            · exact z.2.2.2.2.1 (e.trans h)
            · exact h (e ▸ z.2.2.2.2.2)
          · omega, z.2.2.2.2⟩)]
theorem lsY_n (h1 : ¬ s = k) : lsY Y k s = gI Y (k + 1) 3 s := if_neg h1
theorem lsY_y : lsY Y k k = nI 5 := if_pos rfl
theorem yT_y (h1 : ¬ s = k) (h : gI Y (k + 1) 3 s = nI 0) : pI (pI (yT Y k s) (k + 1) 4 s (gI Y (k + 1) 3 s)) (s + 1) 2 k (gI Y 0 0 0) = yT Y k (s + 1) := by
  refine Prod.ext (funext fun o => funext fun j => funext fun i => ?_) rfl
  show gI (pI (pI (yT Y k s) (k + 1) 4 s _) (s + 1) 2 k _) o j i = gI (yT Y k (s + 1)) o j i
  rw [gI_pI, gI_pI, yT_g, yT_g]
  by_cases h9 : o = s + 1 ∧ j = 2 ∧ i = k
  · obtain ⟨rfl, rfl, rfl⟩ := h9
    rw [if_pos ⟨rfl, rfl, rfl⟩, if_neg (by omega), if_pos ⟨rfl, rfl, by omega, by omega, by omega, h⟩]
  · rw [if_neg h9]
    by_cases h2 : o = k + 1 ∧ j = 4 ∧ i = s
    · obtain ⟨rfl, rfl, rfl⟩ := h2
      rw [if_pos ⟨rfl, rfl, rfl⟩, if_pos ⟨rfl, rfl, by omega⟩, lsY_n h1]
    · rw [if_neg h2]
      by_cases h2 : o = k + 1 ∧ j = 4 ∧ i < s
      · rw [if_pos h2, if_pos (by omega)]
      · rw [if_neg h2, if_neg (show ¬ (o = k + 1 ∧ j = 4 ∧ i < s + 1) by omega)]
        by_cases h3 : j = 2 ∧ i = k ∧ 1 ≤ o ∧ o - 1 < s ∧ ¬ o - 1 = k ∧ gI Y (k + 1) 3 (o - 1) = nI 0
        · rw [if_pos h3, if_pos ⟨h3.1, h3.2.1, h3.2.2.1, by omega, h3.2.2.2.2⟩]
        · rw [if_neg h3, if_neg (fun z => h3 ⟨z.1, z.2.1, z.2.2.1, by omega, z.2.2.2.2⟩)]
theorem yT_2 (hb : b < n) : gI (yT Y k n) (b + 1) 2 o = if o = k ∧ ¬ b = k ∧ gI Y (k + 1) 3 b = nI 0 then gI Y 0 0 0 else gI Y (b + 1) 2 o := by
  rw [yT_g, if_neg (by omega)]
  simp only [Nat.add_sub_cancel]
  by_cases h : o = k ∧ ¬ b = k ∧ gI Y (k + 1) 3 b = nI 0
  · rw [if_pos h, if_pos ⟨trivial, h.1, by omega, hb, h.2⟩]
  · rw [if_neg h, if_neg (fun z => h ⟨z.2.1, z.2.2.2.2⟩)]
theorem xT_2 (hb : b < n) : gI (xT x k n) (b + 1) 2 o = if o = k ∧ gI x (k + 1) 3 b = nI 0 then gI x 0 0 5 else gI x (b + 1) 2 o := by
  rw [xT_g, if_neg (by omega)]
  simp only [Nat.add_sub_cancel]
  by_cases h : o = k ∧ gI x (k + 1) 3 b = nI 0
  · rw [if_pos h, if_pos ⟨trivial, h.1, by omega, hb, h.2⟩]
  · rw [if_neg h, if_neg (fun z => h ⟨z.2.1, z.2.2.2.2⟩)]
theorem yT_4 (ho : o < n) : gI (yT Y k n) (b + 1) 4 o = if b = k then lsY Y k o else gI Y (b + 1) 4 o := by
  rw [yT_g]
  by_cases h : b = k
  · subst h; rw [if_pos ⟨rfl, rfl, ho⟩, if_pos rfl]
  · rw [if_neg h, if_neg (by omega), if_neg (by omega)]
theorem xT_4 (ho : o < n) : gI (xT x k n) (b + 1) 4 o = if b = k then gI x (k + 1) 3 o else gI x (b + 1) 4 o := by
  rw [xT_g]
  by_cases h : b = k
  · subst h; rw [if_pos ⟨rfl, rfl, ho⟩, if_pos rfl]
  · rw [if_neg h, if_neg (by omega), if_neg (by omega)]
theorem y_tell (hn : n ≤ 8) (hk : k < n) : sX8_ends n Y (nI k) = sX8_ends_b122 n (yT Y k n) (nI k) k (nI (hK Y k n).toNat) (if hK Y k n = true then nI 0 else gI Y (k + 1) 0 7 + nI 1) k := by
  unfold sX8_ends
  simp (disch := omega) only [zl, zm, nI_add, pk_mul, inb_t, ix_n, gd_tt, bd_e, nm_v, ite_not, ↓reduceIte, le_t, le_f, lt_t, lt_f, eq_t, eq_f, mone_f, mone_f2]
  conv => lhs; rw [← yT_0 (Y := Y) (k := k)]
  refine fuel_up n (fun F o => sX8_ends_b19 F n (yT Y k o) (nI k) k (nI (hK Y k o).toNat) (nI o)) _ (fun F => ?_) (fun F o ho => ?_) n 0 FU (by omega) (FU_lt (by omega))
  · simp only [sX8_ends_b19]
    have h7 : gI (yT Y k n) (k + 1) 0 7 = gI Y (k + 1) 0 7 := yT_o (by omega) (by omega)
    cases hh : hK Y k n
    · simp (disch := omega) only [zl, zm, nI_add, pk_mul, inb_t, ix_n, gd_tt, bd_e, nm_v, ite_not, ↓reduceIte, le_t, le_f, lt_t, lt_f, eq_t, eq_f, mone_f, mone_f2, Bool.toNat_false, h7, reduceCtorEq]
    · simp (disch := omega) only [zl, zm, nI_add, pk_mul, inb_t, ix_n, gd_tt, bd_e, nm_v, ite_not, ↓reduceIte, le_t, le_f, lt_t, lt_f, eq_t, eq_f, mone_f, mone_f2, Bool.toNat_true, h7]
  · simp only [sX8_ends_b19]
    have hw : ∀ i, gI (yT Y k o) (k + 1) 3 i = gI Y (k + 1) 3 i := fun i => yT_o (by omega) (by omega)
    have hw2 : ∀ v, gI (pI (yT Y k o) (k + 1) 4 o v) (k + 1) 3 o = gI Y (k + 1) 3 o := fun v => by rw [gI_pI, if_neg (by omega)]; exact hw o
    have ht : ∀ v, gI (pI (yT Y k o) (k + 1) 4 o v) 0 0 0 = gI Y 0 0 0 := fun v => by rw [gI_pI, if_neg (by omega)]; exact yT_o (by omega) (by omega)
    have he := hK_e (Y := Y) (k := k) o
    by_cases e : o = k
    · subst e
      have h1 := yT_n (Y := Y) (k := o) (s := o) (Or.inl rfl)
      rw [lsY_y] at h1
      rw [decide_eq_true rfl, Bool.not_true, Bool.false_and, Bool.or_false] at he
      unfold sX8_ends_b56
      simp (disch := omega) only [zl, zm, nI_add, pk_mul, inb_t, ix_n, gd_tt, bd_e, nm_v, ite_not, ↓reduceIte, le_t, le_f, lt_t, lt_f, eq_t, eq_f, mone_f, mone_f2, not_true_eq_false, h1, he]
    · rw [decide_eq_false e, Bool.not_false, Bool.true_and] at he
      by_cases h0 : gI Y (k + 1) 3 o = nI 0
      · have h1 := yT_y e h0
        rw [decide_eq_true h0, Bool.or_true] at he
        unfold sX8_ends_b56
        simp (disch := omega) only [zl, zm, nI_add, pk_mul, inb_t, ix_n, gd_tt, bd_e, nm_v, ite_not, ↓reduceIte, le_t, le_f, lt_t, lt_f, eq_t, eq_f, mone_f, mone_f2, e, not_false_eq_true, hw, hw2, ht, h0, he, Bool.toNat_true]
        rw [h0] at h1
        rw [h1]
      · have h1 := yT_n (Y := Y) (k := k) (s := o) (Or.inr h0)
        rw [lsY_n e] at h1
        rw [decide_eq_false h0, Bool.or_false] at he
        unfold sX8_ends_b56
        simp (disch := omega) only [zl, zm, nI_add, pk_mul, inb_t, ix_n, gd_tt, bd_e, nm_v, ite_not, ↓reduceIte, le_t, le_f, lt_t, lt_f, eq_t, eq_f, mone_f, mone_f2, e, not_false_eq_true, hw, hw2, h0, he]
        rw [h1]
/-- the two tellings -/
theorem XY.tell (h : XY n x Y) (hk : k < n) (h3 : gI x (k + 1) 0 6 = nI 3) (hs : ¬ gI x (k + 1) 3 k = nI 0) : XY n (xT x k n) (yT Y k n) ∧ hK Y k n = hB x k n := by
  obtain ⟨⟨z0, z1, z2, z3, z4, z5, z6, z7, z8⟩, hNr, hBB⟩ := h
  have hw := (hBB k hk).2.2.2.2.2.2.2.2.2.2.2.2.2.2.2 h3
  have xo : ∀ o j i, ¬ j = 4 → ¬ j = 2 → gI (xT x k n) o j i = gI x o j i := fun o j i h4 h2 => xT_o h4 h2
  refine ⟨⟨⟨?_, ?_, ?_, ?_, ?_, ?_, ?_, fun k' hk' => ?_, fun o ho => ?_⟩, fun b hb o ho => ?_, fun b hb => ?_⟩, ?_⟩
  · rw [yT_o (by omega) (by omega), xo _ _ _ (by omega) (by omega)]; exact z0
  · rw [yT_o (by omega) (by omega), xo _ _ _ (by omega) (by omega)]; exact z1
  · rw [yT_o (by omega) (by omega), xo _ _ _ (by omega) (by omega)]; exact z2
  · rw [yT_o (by omega) (by omega), xo _ _ _ (by omega) (by omega)]; exact z3
  · rw [yT_o (by omega) (by omega), xo _ _ _ (by omega) (by omega)]; exact z4
  · rw [yT_o (by omega) (by omega), xo _ _ _ (by omega) (by omega)]; exact z5
  · rw [yT_o (by omega) (by omega), xo _ _ _ (by omega) (by omega)]; exact z6
  · rw [yT_o (by omega) (by omega), xo _ _ _ (by omega) (by omega)]; exact z7 k' hk'
  · rw [yT_o (by omega) (by omega), xo _ _ _ (by omega) (by omega)]; exact z8 o ho
  · rw [yT_o (by omega) (by omega)]
    have : NB (xT x k n) b = NB x b := by unfold NB; rw [xo _ _ _ (by omega) (by omega)]
    rw [this]; exact hNr b hb o ho
  · obtain ⟨y0, y1, y2, y3, y4, y5, y6, y7, y8, y9, y10, y11, y12, y13, y14, y15⟩ := hBB b hb
    refine ⟨?_, ?_, ?_, ?_, ?_, ?_, ?_, ?_, ?_, ?_, ?_, ?_, fun k' hk' => ?_, fun o ho => ?_, fun o ho => ?_, fun h4 o ho hob => ?_⟩
    case refine_14 =>
      rw [yT_2 hb, xT_2 hb]
      by_cases e1 : o = k
      · by_cases e2 : b = k
        · rw [if_neg (fun z => z.2.1 e2), if_neg (fun z => hs (by rw [← e2]; rw [← e2] at z; exact z.2))]
          exact y13 _ ho
        · by_cases e3 : gI x (k + 1) 3 b = nI 0
          · rw [if_pos ⟨e1, e2, by rw [hw b hb e2]; exact e3⟩, if_pos ⟨e1, e3⟩]
            exact z0
          · rw [if_neg (fun z => e3 (by rw [← hw b hb e2]; exact z.2.2)), if_neg (fun z => e3 z.2)]
            exact y13 _ ho
      · rw [if_neg (fun z => e1 z.1), if_neg (fun z => e1 z.1)]
        exact y13 _ ho
    case refine_15 =>
      rw [yT_4 ho, xT_4 ho]
      by_cases e2 : b = k
      · subst e2
        rw [if_pos rfl, if_pos rfl]
        by_cases e1 : o = b
        · rw [if_pos e1, e1, lsY_y]
        · rw [if_neg e1, lsY_n e1]; exact hw o ho e1
      · rw [if_neg e2, if_neg e2]
        exact y14 o ho
    case refine_16 =>
      rw [xo _ _ _ (by omega) (by omega)] at h4
      rw [yT_o (by omega) (by omega), xo _ _ _ (by omega) (by omega)]
      exact y15 h4 o ho hob
    all_goals rw [yT_o (by omega) (by omega), xo _ _ _ (by omega) (by omega)]
    all_goals first | assumption | exact y12 _ (by assumption)
  · cases h1 : hB x k n
    · cases h2 : hK Y k n
      · rfl
      · obtain ⟨o, a1, a2, a3⟩ := (hK_iff n).mp h2
        have := (hB_iff x k n).mpr ⟨o, a1, by rw [← hw o a1 a2]; exact a3⟩
        rw [h1] at this; cases this
    · obtain ⟨o, a1, a2⟩ := (hB_iff x k n).mp h1
      have a3 : ¬ o = k := fun e => hs (e ▸ a2)
      exact (hK_iff n).mpr ⟨o, a1, a3, by rw [hw o a1 a3]; exact a2⟩
end
