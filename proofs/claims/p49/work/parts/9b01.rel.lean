/-! stage B: the law's world and a row of numbers -/
def FB (n b : Nat) (v : Nat → Nat → Int32) (f : Nat → Int32) : Prop :=
  v 0 0 = f (21 + 43 * b + 0) ∧ v 0 1 = f (21 + 43 * b + 1) ∧ v 0 2 = f (21 + 43 * b + 2) ∧ v 0 3 = f (21 + 43 * b + 3) ∧ v 0 4 = f (21 + 43 * b + 4) ∧ v 0 5 = f (21 + 43 * b + 5) ∧ v 0 6 = f (21 + 43 * b + 6) ∧ v 0 7 = f (21 + 43 * b + 7) ∧ v 0 8 = f (21 + 43 * b + 11) ∧ v 0 9 = f (21 + 43 * b + 12) ∧ v 0 10 = f (21 + 43 * b + 13) ∧ v 0 11 = f (21 + 43 * b + 8) ∧ (∀ k, k < 4 → v 1 k = f (21 + 43 * b + (14 + k))) ∧ (∀ o, o < n → v 2 o = f (21 + 43 * b + (19 + o))) ∧ (∀ o, o < n → v 4 o = f (21 + 43 * b + (35 + o))) ∧ (f (21 + 43 * b + 5) = nI 3 → ∀ o, o < n → ¬ o = b → v 3 o = f (21 + 43 * b + (27 + o)))
def FH (n : Nat) (v : Nat → Nat → Int32) (f : Nat → Int32) : Prop :=
  v 0 0 = f 1 ∧ v 0 1 = f 7 ∧ v 0 2 = f 2 ∧ v 0 3 = f 3 ∧ v 0 4 = f 4 ∧ v 0 5 = f 5 ∧ v 0 6 = f 6 ∧ (∀ k, k < 4 → v 1 k = f (8 + k)) ∧ ∀ o, o < n → v 3 o = nI ((ix (f 12)).testBit o).toNat
def FN (n : Nat) (v : Nat → Nat → Int32) (f : Nat → Int32) : Prop := ∀ b, b < n → ∀ o, o < n → v (b + 6) o = nI ((ix (f (13 + b))).testBit o).toNat
def FY (n : Nat) (Y : St) (f : Nat → Int32) : Prop := FH n (gI Y 0) f ∧ FN n (gI Y 0) f ∧ ∀ b, b < n → FB n b (gI Y (b + 1)) f
section
variable {n t cm wl wm e k b : Nat} {q : Bool} {x x' m Y Y' : St} {f f' : Nat → Int32}
theorem FB.cg {v : Nat → Nat → Int32} (h : FB n b v f) (hn : n ≤ 8) (hb : b < n) (hf : ∀ w, w < 43 → f' (21 + 43 * b + w) = f (21 + 43 * b + w)) : FB n b v f' := by
  obtain ⟨y0, y1, y2, y3, y4, y5, y6, y7, y8, y9, y10, y11, y12, y13, y14, y15⟩ := h
  refine ⟨?_, ?_, ?_, ?_, ?_, ?_, ?_, ?_, ?_, ?_, ?_, ?_, fun k hk => ?_, fun o ho => ?_, fun o ho => ?_, fun h3 o ho hob => ?_⟩
  all_goals rw [hf _ (by omega)]
  all_goals first | assumption | exact y12 _ (by assumption) | exact y13 _ (by assumption) | exact y14 _ (by assumption) | skip
  exact y15 (by rw [← hf 5 (by omega)]; exact h3) o ho hob
theorem FH.cg {v : Nat → Nat → Int32} (h : FH n v f) (hf : ∀ i, i < 13 → f' i = f i) : FH n v f' := by
  obtain ⟨y0, y1, y2, y3, y4, y5, y6, y7, y8⟩ := h
  refine ⟨?_, ?_, ?_, ?_, ?_, ?_, ?_, fun k hk => ?_, fun o ho => ?_⟩
  all_goals rw [hf _ (by omega)]
  all_goals first | assumption | exact y7 _ (by assumption) | exact y8 _ (by assumption)
/-- one beacon changes, and what all have together -/
theorem FY.one (h : FY n Y f) (hn : n ≤ 8) (hk : k < n) (hx : ∀ b, ¬ b = k → gI Y' (b + 1) = gI Y (b + 1)) (hh : FH n (gI Y' 0) f') (h0 : ∀ b o, gI Y' 0 (b + 6) o = gI Y 0 (b + 6) o) (hf : ∀ i, 13 ≤ i → ¬ (21 + 43 * k ≤ i ∧ i < 21 + 43 * k + 43) → f' i = f i) (hb : FB n k (gI Y' (k + 1)) f') : FY n Y' f' := by
  refine ⟨hh, fun b hbn o ho => ?_, fun b hbn => ?_⟩
  · rw [h0, hf _ (by omega) (by omega)]
    exact h.2.1 b hbn o ho
  · by_cases e : b = k
    · subst e; exact hb
    · rw [hx b e]
      exact (h.2.2 b hbn).cg hn hbn fun w hw => hf _ (by omega) (by omega)
theorem sr_inj {m : St} (h : some (sr m f) = some (sr m f')) : f = f' := by
  have h1 := Option.some.inj h
  have h2 : gI (sr m f) 0 2 = gI (sr m f') 0 2 := by rw [h1]
  rw [sr_rw, sr_rw] at h2
  exact h2
theorem hd_kY {j i : Nat} {u : Int32} : gI (pI Y (k + 1) j i u) 0 = gI Y 0 := hd_k
/-- the beacon's own numbers, one by one -/
theorem FY.fb (h : FY n Y f) (hb : b < n) : FB n b (gI Y (b + 1)) f := h.2.2 b hb
theorem FY.nr (h : FY n Y f) (w : WR n t cm wl wm q e x f) (hb : b < n) {o : Nat} (ho : o < n) : gI Y 0 (b + 6) o = nI ((NB x b).testBit o).toNat := by
  have h1 := h.2.1 b hb o ho
  rw [(w.fb hb).1, ix_n (by have := (w.fb hb).2; omega)] at h1
  exact h1
end
