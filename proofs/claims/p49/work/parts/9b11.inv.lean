/-! stage B: what holds between the slots in the law's world -/
def IC (n : Nat) (Y : St) : Prop := ∀ b, b < n → ∀ o, o < n → ¬ o = b → gI Y (b + 1) 4 o = nI 0 → ¬ gI Y (o + 1) 2 b = mone
def IS (n wm : Nat) (Y : St) : Prop := ∃ W U : Nat → Nat, (∀ b, b < n → gI Y (b + 1) 0 8 = nI (W b) ∧ gI Y (b + 1) 0 9 = nI (U b)) ∧ gI Y 0 0 4 = nI (smN W n) ∧ gI Y 0 0 5 = nI (smN U n) ∧ smN W n ≤ wm
def IV (n t tb wm : Nat) (Y : St) : Prop := (∀ b, b < n → IB n t tb (gI Y 0 1) (gI Y (b + 1))) ∧ IC n Y ∧ IS n wm Y
section
variable {n t tb cm wl wm e k b : Nat} {q : Bool} {x x' m Y Y' Z : St} {f f' : Nat → Int32}
theorem add0 (v : Int32) : v + nI 0 = v := Int32.add_zero v
theorem smN_one {W W' : Nat → Nat} {d : Nat} : ∀ n, k < n → (∀ b, ¬ b = k → W' b = W b) → W' k = W k + d → smN W' n = smN W n + d
  | 0, h, _, _ => absurd h (by omega)
  | n + 1, h, h1, h2 => by
    show smN W' n + W' n = smN W n + W n + d
    by_cases e : k = n
    · subst e
      have : smN W' k = smN W k := smN_cg fun i hi => h1 i (by omega)
      omega
    · have := smN_one (W := W) (W' := W') (d := d) n (by omega) h1 h2
      have := h1 n (by omega)
      omega
theorem smN_same {W W' : Nat → Nat} (h : ∀ b, b < n → W' b = W b) : smN W' n = smN W n := smN_cg h
theorem IB.cg {v v' : Nat → Nat → Int32} {c c' : Nat → Int32} (h : IB n t tb c v) (hc : ∀ i, i < 4 → c' i = c i) (h1 : ∀ i, i < 4 → v' 1 i = v 1 i) (h10 : v' 0 10 = v 0 10) (he : v' 0 4 = nI 0 ↔ v' 0 5 = nI 4) (hl : v' 0 5 = nI 0 ∨ v' 0 5 = nI 4 → v' 0 6 = nI 0) (hh : HT n t v') : IB n t tb c' v' := by
  obtain ⟨⟨s0, s1, s2, s3, L, ⟨a0, a1, a2, a3⟩, b1, b2, b3⟩, -, -, -⟩ := h
  refine ⟨⟨s0, s1, s2, s3, L, ⟨?_, ?_, ?_, ?_⟩, ?_, b2, ?_⟩, he, hl, hh⟩
  · rw [h1 0 (by omega)]; exact a0
  · rw [h1 1 (by omega)]; exact a1
  · rw [h1 2 (by omega)]; exact a2
  · rw [h1 3 (by omega)]; exact a3
  · rw [h10]; exact b1
  · rw [hc 0 (by omega), hc 1 (by omega), hc 2 (by omega), hc 3 (by omega)]; exact b3
/-- a beacon's step keeps it all -/
theorem IV.step {dw du : Nat} (h : IV n t tb wm Z) (hk : k < n) (hdw : dw ≤ 1) (hfr : ∀ o j i, ¬ (o = k + 1 ∧ j = 0 ∧ (5 ≤ i ∧ i ≤ 9 ∨ i = 11)) → ¬ (o = 0 ∧ j = 0 ∧ (i = 1 ∨ i = 4 ∨ i = 5)) → ¬ j = 3 → gI Y' o j i = gI Z o j i) (hs : ¬ gI Z (k + 1) 0 5 = nI 4) (hs' : ¬ gI Y' (k + 1) 0 5 = nI 4) (hl : gI Y' (k + 1) 0 5 = nI 0 → gI Y' (k + 1) 0 6 = nI 0) (h8 : gI Y' (k + 1) 0 8 = gI Z (k + 1) 0 8 + nI dw) (h9 : gI Y' (k + 1) 0 9 = gI Z (k + 1) 0 9 + nI du) (h4 : gI Y' 0 0 4 = gI Z 0 0 4 + nI dw) (h5 : gI Y' 0 0 5 = gI Z 0 0 5 + nI du) : IV n t tb (wm + dw) Y' := by
  obtain ⟨hB, hC, W, U, hS, hW, hU, hwm⟩ := h
  refine ⟨fun b hb => ?_, fun b hb o ho hob h0 => ?_, fun i => if i = k then W i + dw else W i, fun i => if i = k then U i + du else U i, fun b hb => ?_, ?_, ?_, ?_⟩
  · obtain ⟨-, e1, e2, e3⟩ := hB b hb
    refine (hB b hb).cg (fun i hi => hfr _ _ _ (by omega) (by omega) (by omega)) (fun i hi => hfr _ _ _ (by omega) (by omega) (by omega)) (hfr _ _ _ (by omega) (by omega) (by omega)) ?_ ?_ (fun o ho => ?_)
    · by_cases e : b = k
      · subst e
        rw [hfr _ 0 4 (by omega) (by omega) (by omega)]
        exact ⟨fun z => absurd (e1.mp z) hs, fun z => absurd z hs'⟩
      · rw [hfr _ _ _ (by omega) (by omega) (by omega), hfr _ _ _ (by omega) (by omega) (by omega)]; exact e1
    · by_cases e : b = k
      · subst e
        rintro (z | z)
        · exact hl z
        · exact absurd z hs'
      · rw [hfr _ _ _ (by omega) (by omega) (by omega), hfr _ _ _ (by omega) (by omega) (by omega)]; exact e2
    · rw [hfr _ _ _ (by omega) (by omega) (by omega)]; exact e3 o ho
  · rw [hfr _ _ _ (by omega) (by omega) (by omega)] at h0 ⊢
    exact hC b hb o ho hob h0
  · obtain ⟨e1, e2⟩ := hS b hb
    dsimp only
    by_cases e : b = k
    · subst e
      rw [if_pos rfl, if_pos rfl, h8, h9, e1, e2, nI_add, nI_add]; exact ⟨rfl, rfl⟩
    · rw [if_neg e, if_neg e, hfr _ _ _ (by omega) (by omega) (by omega), hfr _ _ _ (by omega) (by omega) (by omega)]; exact ⟨e1, e2⟩
  · rw [h4, hW, nI_add, smN_one (W := W) (W' := fun i => if i = k then W i + dw else W i) (d := dw) n hk (fun b hb => if_neg hb) (if_pos rfl)]
  · rw [h5, hU, nI_add, smN_one (W := U) (W' := fun i => if i = k then U i + du else U i) (d := du) n hk (fun b hb => if_neg hb) (if_pos rfl)]
  · rw [smN_one (W := W) (W' := fun i => if i = k then W i + dw else W i) (d := dw) n hk (fun b hb => if_neg hb) (if_pos rfl)]; omega
theorem nt_mone {t : Nat} (ht : t < 2 ^ 31) : ¬ nI t = mone := fun z => by
  have := mone_f (a := t) ht
  rw [z] at this
  exact cast this rfl
/-- who heard it knows when -/
theorem IV.tell (h : IV n t tb wm Y) (ht : gI Y 0 0 0 = nI t) (ht2 : t < 2 ^ 30) : IV n t tb wm (yT Y k n) := by
  obtain ⟨hB, hC, W, U, hS, hW, hU, hwm⟩ := h
  have yo : ∀ o j i, ¬ j = 4 → ¬ j = 2 → gI (yT Y k n) o j i = gI Y o j i := fun o j i h4 h2 => yT_o (by omega) (by omega)
  refine ⟨fun b hb => ?_, fun b hb o ho hob h0 => ?_, W, U, fun b hb => ?_, ?_, ?_, hwm⟩
  · obtain ⟨-, e1, e2, e3⟩ := hB b hb
    refine (hB b hb).cg (fun i hi => yo _ _ _ (by omega) (by omega)) (fun i hi => yo _ _ _ (by omega) (by omega)) (yo _ _ _ (by omega) (by omega)) ?_ ?_ (fun o ho => ?_)
    · rw [yo _ _ _ (by omega) (by omega), yo _ _ _ (by omega) (by omega)]; exact e1
    · rw [yo _ _ _ (by omega) (by omega), yo _ _ _ (by omega) (by omega)]; exact e2
    · rw [yT_2 hb]
      by_cases hz : o = k ∧ ¬ b = k ∧ gI Y (k + 1) 3 b = nI 0
      · rw [if_pos hz]; exact Or.inr ⟨t, Nat.le_refl _, ht⟩
      · rw [if_neg hz]; exact e3 o ho
  · rw [yT_4 ho] at h0
    rw [yT_2 ho]
    by_cases e : b = k
    · subst e
      rw [if_pos rfl, lsY_n hob] at h0
      rw [if_pos ⟨rfl, hob, h0⟩, ht]
      exact nt_mone (by omega)
    · rw [if_neg e] at h0
      rw [if_neg (fun z => e z.1)]
      exact hC b hb o ho hob h0
  · rw [yo _ _ _ (by omega) (by omega), yo _ _ _ (by omega) (by omega)]; exact hS b hb
  · rw [yo _ _ _ (by omega) (by omega)]; exact hW
  · rw [yo _ _ _ (by omega) (by omega)]; exact hU
end
