/-! stage B: the law's world and the class's, said of each other; the listening -/
def XB (n b : Nat) (v w : Nat → Nat → Int32) : Prop :=
  v 0 0 = w 0 1 ∧ v 0 1 = w 0 2 ∧ v 0 2 = w 0 3 ∧ v 0 3 = w 0 4 ∧ v 0 4 = w 0 5 ∧ v 0 5 = w 0 6 ∧ v 0 6 = w 0 7 ∧ v 0 7 = w 0 8 ∧ v 0 8 = w 0 11 ∧ v 0 9 = w 0 12 ∧ v 0 10 = w 0 13 ∧ v 0 11 = w 0 9 ∧ (∀ k, k < 4 → v 1 k = w 1 k) ∧ (∀ o, o < n → v 2 o = w 2 o) ∧ (∀ o, o < n → v 4 o = if o = b then nI 5 else w 4 o) ∧ (w 0 6 = nI 3 → ∀ o, o < n → ¬ o = b → v 3 o = w 3 o)
def XH (n : Nat) (v w : Nat → Nat → Int32) : Prop :=
  v 0 0 = w 0 5 ∧ v 0 1 = w 0 6 ∧ v 0 2 = w 0 3 ∧ v 0 3 = w 0 4 ∧ v 0 4 = w 0 7 ∧ v 0 5 = w 0 8 ∧ v 0 6 = w 0 9 ∧ (∀ k, k < 4 → v 1 k = w 1 k) ∧ ∀ o, o < n → v 3 o = nI ((ix (w 0 10)).testBit o).toNat
def XN (n : Nat) (v : Nat → Nat → Int32) (x : St) : Prop := ∀ b, b < n → ∀ o, o < n → v (b + 6) o = nI ((NB x b).testBit o).toNat
def XY (n : Nat) (x Y : St) : Prop := XH n (gI Y 0) (gI x 0) ∧ XN n (gI Y 0) x ∧ ∀ b, b < n → XB n b (gI Y (b + 1)) (gI x (b + 1))
section
variable {n t cm wl wm e k b : Nat} {q : Bool} {x x' m Y Y' : St} {f f' : Nat → Int32}
theorem FY.of (w : WR n t cm wl wm q e x f) (h : XY n x Y) : FY n Y f := by
  obtain ⟨c9, w9, tr, sn, w1, w2, w3, w4, w5, w6, w7, w8, v9, w10, w11, w12, w13, w14, w15, w16, w17, w18, w19, w20, w21, w22, w23, w24, w25⟩ := w.1
  obtain ⟨⟨z0, z1, z2, z3, z4, z5, z6, z7, z8⟩, hN, hB⟩ := h
  refine ⟨⟨z0.trans w17.symm, z1.trans w23.symm, z2.trans w18.symm, z3.trans w19.symm, z4.trans w20.symm, z5.trans w21.symm, z6.trans w22.symm, fun k hk => (z7 k hk).trans (w25 k hk).symm, fun o ho => by rw [w24]; exact z8 o ho⟩, fun b hb o ho => ?_, fun b hb => ?_⟩
  · rw [hN b hb o ho, (w.bd hb).1.1]; rfl
  · obtain ⟨⟨d0, d00⟩, d1, d2, d3, d4, d5, d6, d7, d8, d9, d10, d11, d12, d13, d14, d15⟩ := w.bd hb
    obtain ⟨y0, y1, y2, y3, y4, y5, y6, y7, y8, y9, y10, y11, y12, y13, y14, y15⟩ := hB b hb
    refine ⟨y0.trans d1.symm, y1.trans d2.symm, y2.trans d3.symm, y3.trans d4.symm, y4.trans d5.symm, y5.trans d6.symm, y6.trans d7.symm, y7.trans d8.symm, y8.trans d10.symm, y9.trans d11.symm, y10.trans d12.symm, y11.trans d9.symm, fun k hk => (y12 k hk).trans (d13 k hk).symm, fun o ho => (y13 o ho).trans (d14 o ho).symm, fun o ho => ?_, fun h3 o ho hob => ?_⟩
    · rw [y14 o ho]
      by_cases e : o = b
      · rw [if_pos e, e]; exact d00.symm
      · rw [if_neg e]; exact (d15 o ho e).symm
    · have h4 : gI x (b + 1) 0 6 = nI 3 := d6.symm.trans h3
      obtain ⟨⟨a, s1, s2, s3, s4⟩, s5⟩ := (w.2.1 b hb).2.2 h4
      rw [y15 h4 o ho hob, (s4 o ho hob).1]
theorem FY.to (w : WR n t cm wl wm q e x f) (h : FY n Y f) : XY n x Y := by
  obtain ⟨c9, w9, tr, sn, w1, w2, w3, w4, w5, w6, w7, w8, v9, w10, w11, w12, w13, w14, w15, w16, w17, w18, w19, w20, w21, w22, w23, w24, w25⟩ := w.1
  obtain ⟨⟨z0, z1, z2, z3, z4, z5, z6, z7, z8⟩, hN, hB⟩ := h
  refine ⟨⟨z0.trans w17, z1.trans w23, z2.trans w18, z3.trans w19, z4.trans w20, z5.trans w21, z6.trans w22, fun k hk => (z7 k hk).trans (w25 k hk), fun o ho => by rw [← w24]; exact z8 o ho⟩, fun b hb o ho => ?_, fun b hb => ?_⟩
  · rw [hN b hb o ho, (w.bd hb).1.1]; rfl
  · obtain ⟨⟨d0, d00⟩, d1, d2, d3, d4, d5, d6, d7, d8, d9, d10, d11, d12, d13, d14, d15⟩ := w.bd hb
    obtain ⟨y0, y1, y2, y3, y4, y5, y6, y7, y8, y9, y10, y11, y12, y13, y14, y15⟩ := hB b hb
    refine ⟨y0.trans d1, y1.trans d2, y2.trans d3, y3.trans d4, y4.trans d5, y5.trans d6, y6.trans d7, y7.trans d8, y8.trans d10, y9.trans d11, y10.trans d12, y11.trans d9, fun k hk => (y12 k hk).trans (d13 k hk), fun o ho => (y13 o ho).trans (d14 o ho), fun o ho => ?_, fun h4 o ho hob => ?_⟩
    · rw [y14 o ho]
      by_cases e : o = b
      · rw [if_pos e, e]; exact d00
      · rw [if_neg e]; exact d15 o ho e
    · obtain ⟨⟨a, s1, s2, s3, s4⟩, s5⟩ := (w.2.1 b hb).2.2 h4
      rw [y15 (d6.trans h4) o ho hob, (s4 o ho hob).1]
/-- who is near whom, who sends -/
def NS (n : Nat) (N : Nat → Nat) (S : Nat) (Y : St) : Prop := (∀ b, b < n → ∀ o, o < n → gI Y 0 (b + 6) o = nI ((N b).testBit o).toNat) ∧ ∀ o, o < n → ∃ st, st ≤ 4 ∧ gI Y (o + 1) 0 5 = nI st ∧ (S.testBit o = true ↔ st = 3)
variable {N : Nat → Nat} {S a s cc o : Nat}
theorem y_sn (h : NS n N S Y) (hn : n ≤ 8) (hk : k < n) : sX8_sendersNear n Y (nI k) = some (nI (pcN (N k &&& S) n)) := by
  refine fuel_up n (fun F o => sX8_sendersNear_b4 F n Y (nI k) (nI (pcN (N k &&& S) o)) (nI o)) _ (fun F => ?_) (fun F o ho => ?_) n 0 FU (by omega) (FU_lt (by omega))
  · simp only [sX8_sendersNear_b4]
    simp (disch := omega) only [zl, zm, nI_add, pk_mul, inb_t, ix_n, gd_tt, bd_e, nm_v, ite_not, ↓reduceIte, le_t, le_f, lt_t, lt_f, eq_t, eq_f, mone_f, mone_f2]
  · simp only [sX8_sendersNear_b4]
    have h1 := h.1 k hk o ho
    obtain ⟨st, q1, q2, q3⟩ := h.2 o ho
    have h2 := pcN_e (N k &&& S) o
    rw [Nat.testBit_and] at h2
    cases hb : (N k).testBit o <;> rw [hb] at h1 h2
    · simp (disch := omega) only [zl, zm, nI_add, pk_mul, inb_t, ix_n, gd_tt, bd_e, nm_v, ite_not, ↓reduceIte, le_t, le_f, lt_t, lt_f, eq_t, eq_f, mone_f, mone_f2, h1, h2, Bool.toNat_false, Bool.false_and]
    · by_cases h3 : st = 3
      · have h4 := q3.mpr h3
        subst h3
        rw [h4] at h2
        simp (disch := omega) only [zl, zm, nI_add, pk_mul, inb_t, ix_n, gd_tt, bd_e, nm_v, ite_not, ↓reduceIte, le_t, le_f, lt_t, lt_f, eq_t, eq_f, mone_f, mone_f2, h1, h2, q2, Bool.toNat_true, Bool.and_self]
      · have h4 : S.testBit o = false := by
          cases hs : S.testBit o
          · rfl
          · exact absurd (q3.mp hs) h3
        rw [h4] at h2
        simp (disch := omega) only [zl, zm, nI_add, pk_mul, inb_t, ix_n, gd_tt, bd_e, nm_v, ite_not, ↓reduceIte, le_t, le_f, lt_t, lt_f, eq_t, eq_f, mone_f, mone_f2, h1, h2, q2, Bool.toNat_true, Bool.toNat_false, Bool.and_false]
theorem y_deaf (h : NS n N S Y) (hn : n ≤ 8) (ho : o < n) (hk : k < n) (hN : N o &&& S < 2 ^ n) : sX8_deaf n Y (nI o) (nI k) = some (nI (rsn (N o) S k (gI Y (o + 1) 0 5))) := by
  have h1 := h.1 o ho k hk
  obtain ⟨st, q1, q2, q3⟩ := h.2 o ho
  have h8 : pcN (N o &&& S) 8 = pcN (N o &&& S) n := by
    have := pcN_more hN (8 - n)
    rw [show n + (8 - n) = 8 by omega] at this
    exact this
  have hle := pcN_le (N o &&& S) n
  unfold sX8_deaf rsn
  rw [q2, h8]
  have ho1 : opB (nI 1) = true := by decide
  have ho2 : opB (nI 2) = true := by decide
  have ho0 : opB (nI 0) = false := by decide
  have ho4 : opB (nI 4) = false := by decide
  cases hb : (N o).testBit k
  · rw [hb] at h1
    simp (disch := omega) only [zl, zm, nI_add, pk_mul, inb_t, ix_n, gd_tt, bd_e, nm_v, ite_not, ↓reduceIte, le_t, le_f, lt_t, lt_f, eq_t, eq_f, mone_f, mone_f2, h1, Bool.toNat_false]
  · rw [hb] at h1
    rcases (by omega : st = 0 ∨ st = 1 ∨ st = 2 ∨ st = 3 ∨ st = 4) with rfl | rfl | rfl | rfl | rfl
    · simp (disch := omega) only [zl, zm, nI_add, pk_mul, inb_t, ix_n, gd_tt, bd_e, nm_v, ite_not, ↓reduceIte, le_t, le_f, lt_t, lt_f, eq_t, eq_f, mone_f, mone_f2, q2, h1, Bool.toNat_true, reduceCtorEq, ho0]
    · by_cases hp : 1 < pcN (N o &&& S) n
      · simp (disch := omega) only [zl, zm, nI_add, pk_mul, inb_t, ix_n, gd_tt, bd_e, nm_v, ite_not, ↓reduceIte, le_t, le_f, lt_t, lt_f, eq_t, eq_f, mone_f, mone_f2, q2, h1, Bool.toNat_true, reduceCtorEq, ho1, y_sn h hn ho, hp]
      · simp (disch := omega) only [zl, zm, nI_add, pk_mul, inb_t, ix_n, gd_tt, bd_e, nm_v, ite_not, ↓reduceIte, le_t, le_f, lt_t, lt_f, eq_t, eq_f, mone_f, mone_f2, q2, h1, Bool.toNat_true, reduceCtorEq, ho1, y_sn h hn ho, hp]
    · by_cases hp : 1 < pcN (N o &&& S) n
      · simp (disch := omega) only [zl, zm, nI_add, pk_mul, inb_t, ix_n, gd_tt, bd_e, nm_v, ite_not, ↓reduceIte, le_t, le_f, lt_t, lt_f, eq_t, eq_f, mone_f, mone_f2, q2, h1, Bool.toNat_true, reduceCtorEq, ho2, y_sn h hn ho, hp]
      · simp (disch := omega) only [zl, zm, nI_add, pk_mul, inb_t, ix_n, gd_tt, bd_e, nm_v, ite_not, ↓reduceIte, le_t, le_f, lt_t, lt_f, eq_t, eq_f, mone_f, mone_f2, q2, h1, Bool.toNat_true, reduceCtorEq, ho2, y_sn h hn ho, hp]
    · simp (disch := omega) only [zl, zm, nI_add, pk_mul, inb_t, ix_n, gd_tt, bd_e, nm_v, ite_not, ↓reduceIte, le_t, le_f, lt_t, lt_f, eq_t, eq_f, mone_f, mone_f2, q2, h1, Bool.toNat_true, reduceCtorEq]
    · simp (disch := omega) only [zl, zm, nI_add, pk_mul, inb_t, ix_n, gd_tt, bd_e, nm_v, ite_not, ↓reduceIte, le_t, le_f, lt_t, lt_f, eq_t, eq_f, mone_f, mone_f2, q2, h1, Bool.toNat_true, reduceCtorEq, ho4]
end
