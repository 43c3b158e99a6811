/-! stage B: what the law's world tells of itself -/
/-- times of hearing -/
def HT (n t : Nat) (v : Nat → Nat → Int32) : Prop := ∀ o, o < n → v 2 o = mone ∨ ∃ a, a ≤ t ∧ v 2 o = nI a
section
variable {n t cm wl wm e k b : Nat} {q : Bool} {x x' m Y Y' : St} {f f' : Nat → Int32}
theorem leastN {p : Nat → Prop} : ∀ o, p o → ∃ o, p o ∧ ∀ j, j < o → ¬ p j := fun o => by
  induction o using Nat.strongRecOn with
  | ind o ih =>
    intro h
    by_cases hc : ∃ j, j < o ∧ p j
    · obtain ⟨j, hj, hp⟩ := hc
      exact ih j hj hp
    · exact ⟨o, h, fun j hj hp => hc ⟨j, hj, hp⟩⟩
theorem pcN_e (a o : Nat) : pcN a (o + 1) = pcN a o + (a.testBit o).toNat := rfl
theorem y_near (h : FY n Y f) (w : WR n t cm wl wm q e x f) (hk : k < n) : sX8_near n Y (nI k) = some (nI (pcN (NB x k) n)) := by
  have hn := w.n8
  refine fuel_up n (fun F o => sX8_near_b4 F n Y (nI k) (nI (pcN (NB x k) o)) (nI o)) _ (fun F => ?_) (fun F o ho => ?_) n 0 FU (by omega) (FU_lt (by omega))
  · simp only [sX8_near_b4]
    simp (disch := omega) only [zl, zm, nI_add, pk_mul, inb_t, ix_n, gd_tt, bd_e, nm_v, ite_not, ↓reduceIte, le_t, le_f, lt_t, lt_f, eq_t, eq_f, mone_f, mone_f2]
  · simp only [sX8_near_b4]
    have h1 := h.nr w hk ho
    have h2 := pcN_e (NB x k) o
    cases hb : (NB x k).testBit o <;> rw [hb] at h1 h2
    · simp (disch := omega) only [zl, zm, nI_add, pk_mul, inb_t, ix_n, gd_tt, bd_e, nm_v, ite_not, ↓reduceIte, le_t, le_f, lt_t, lt_f, eq_t, eq_f, mone_f, mone_f2, h1, h2, Bool.toNat_false]
    · simp (disch := omega) only [zl, zm, nI_add, pk_mul, inb_t, ix_n, gd_tt, bd_e, nm_v, ite_not, ↓reduceIte, le_t, le_f, lt_t, lt_f, eq_t, eq_f, mone_f, mone_f2, h1, h2, Bool.toNat_true]
theorem lt0 {v : Int32} {t : Nat} (ht : t < 2 ^ 30) (h : v = mone ∨ ∃ a, a ≤ t ∧ v = nI a) : (v < nI 0) = (v = mone) := by
  rcases h with rfl | ⟨a, ha, rfl⟩
  · exact propext ⟨fun _ => rfl, fun _ => by decide⟩
  · rw [lt_f (by omega) (by omega), mone_f (by omega)]
theorem y_knows (h : FY n Y f) (w : WR n t cm wl wm q e x f) (hk : k < n) {o : Nat} (ho : o < n) (hh : HT n t (gI Y (k + 1))) : sX8_knows n Y (nI k) (nI o) = some (nI (knF f k o).toNat) := by
  have hn := w.n8
  obtain ⟨y0, y1, y2, y3, y4, y5, y6, y7, y8, y9, y10, y11, y12, y13, y14, y15⟩ := h.fb hk
  obtain ⟨z0, z1, z2, z3, z4, z5, z6, z7, z8⟩ := h.1
  have hl := lt0 (by have := w.tl; omega) (hh o ho)
  unfold sX8_knows knF
  rw [y13 o ho] at hl
  simp (disch := omega) only [zl, zm, nI_add, pk_mul, inb_t, ix_n, gd_tt, bd_e, nm_v, ite_not, ↓reduceIte, le_t, le_f, lt_t, lt_f, eq_t, eq_f, mone_f, mone_f2, y13, z3, z0, hl]
  by_cases h1 : f (21 + 43 * k + (19 + o)) = mone
  · rw [if_pos h1, decide_eq_true h1]; rfl
  · rw [if_neg h1, decide_eq_false h1]
    by_cases h2 : f 3 < f 1 - f (21 + 43 * k + (19 + o))
    · rw [if_pos h2, decide_eq_true h2]; rfl
    · rw [if_neg h2, decide_eq_false h2]; rfl
theorem y_knowsAll (h : FY n Y f) (w : WR n t cm wl wm q e x f) (hk : k < n) (hh : HT n t (gI Y (k + 1))) : sX8_knowsAll n Y (nI k) = some (nI (decide (NB x k &&& (mkS (knF f k) n ^^^ 255) = 0)).toNat) := by
  have hn := w.n8
  have hz : (NB x k &&& (mkS (knF f k) n ^^^ 255) = 0) ↔ ∀ o, o < n → (NB x k).testBit o = true → knF f k o = true := by
    constructor
    · intro h0 o ho hb
      have h1 := congrArg (fun a => a.testBit o) h0
      simp only [Nat.testBit_and, Nat.testBit_xor, mkS_bit, b255, Nat.zero_testBit] at h1
      rw [hb, decide_eq_true ho, decide_eq_true (by omega : o < 8)] at h1
      cases hc : knF f k o <;> rw [hc] at h1 <;> simp at h1 ⊢
    · intro h0
      refine Nat.eq_of_testBit_eq fun o => ?_
      rw [Nat.testBit_and, Nat.testBit_xor, mkS_bit, b255, Nat.zero_testBit]
      cases hb : (NB x k).testBit o
      · rfl
      · have ho := (w.2.2 k hk o hb).1
        rw [h0 o ho hb, decide_eq_true ho, decide_eq_true (by omega : o < 8)]; rfl
  by_cases ha : NB x k &&& (mkS (knF f k) n ^^^ 255) = 0
  · rw [decide_eq_true ha]
    refine fuel_up n (fun F o => sX8_knowsAll_b2 F n Y (nI k) (nI o)) _ (fun F => ?_) (fun F o ho => ?_) n 0 FU (by omega) (FU_lt (by omega))
    · simp only [sX8_knowsAll_b2]
      simp (disch := omega) only [zl, zm, nI_add, pk_mul, inb_t, ix_n, gd_tt, bd_e, nm_v, ite_not, ↓reduceIte, le_t, le_f, lt_t, lt_f, eq_t, eq_f, mone_f, mone_f2, Bool.toNat_true]
    · simp only [sX8_knowsAll_b2]
      have h1 := h.nr w hk ho
      cases hb : (NB x k).testBit o <;> rw [hb] at h1
      · simp (disch := omega) only [zl, zm, nI_add, pk_mul, inb_t, ix_n, gd_tt, bd_e, nm_v, ite_not, ↓reduceIte, le_t, le_f, lt_t, lt_f, eq_t, eq_f, mone_f, mone_f2, h1, Bool.toNat_false]
      · simp (disch := omega) only [zl, zm, nI_add, pk_mul, inb_t, ix_n, gd_tt, bd_e, nm_v, ite_not, ↓reduceIte, le_t, le_f, lt_t, lt_f, eq_t, eq_f, mone_f, mone_f2, h1, Bool.toNat_true, y_knows h w hk ho hh, hz.mp ha o ho hb, not_false_eq_true]
  · rw [decide_eq_false ha]
    -- the first one that isn't known
    have hex : ∃ o, o < n ∧ (NB x k).testBit o = true ∧ knF f k o = false ∧ ∀ j, j < o → (NB x k).testBit j = true → knF f k j = true := by
      have h1 : ∃ o, o < n ∧ (NB x k).testBit o = true ∧ knF f k o = false := by
        refine Classical.byContradiction fun hc => ha (hz.mpr fun o ho hb => ?_)
        cases hkn : knF f k o
        · exact absurd ⟨o, ho, hb, hkn⟩ hc
        · rfl
      obtain ⟨o, ho⟩ := h1
      obtain ⟨o, this, hmin⟩ := leastN (p := fun o => o < n ∧ (NB x k).testBit o = true ∧ knF f k o = false) o ho
      refine ⟨_, this.1, this.2.1, this.2.2, fun j hj hb => ?_⟩
      have hm := hmin j hj
      cases hkn : knF f k j
      · exact absurd ⟨by omega, hb, hkn⟩ hm
      · rfl
    obtain ⟨d, hd, hdb, hdk, hdj⟩ := hex
    refine fuel_up d (fun F o => sX8_knowsAll_b2 F n Y (nI k) (nI o)) _ (fun F => ?_) (fun F o ho => ?_) d 0 FU (by omega) (FU_lt (by omega))
    · simp only [sX8_knowsAll_b2]
      have h1 := h.nr w hk hd
      rw [hdb] at h1
      simp (disch := omega) only [zl, zm, nI_add, pk_mul, inb_t, ix_n, gd_tt, bd_e, nm_v, ite_not, ↓reduceIte, le_t, le_f, lt_t, lt_f, eq_t, eq_f, mone_f, mone_f2, h1, Bool.toNat_true, y_knows h w hk hd hh, hdk, Bool.toNat_false]
    · simp only [sX8_knowsAll_b2]
      have h1 := h.nr w hk (by omega : o < n)
      cases hb : (NB x k).testBit o <;> rw [hb] at h1
      · simp (disch := omega) only [zl, zm, nI_add, pk_mul, inb_t, ix_n, gd_tt, bd_e, nm_v, ite_not, ↓reduceIte, le_t, le_f, lt_t, lt_f, eq_t, eq_f, mone_f, mone_f2, h1, Bool.toNat_false]
      · simp (disch := omega) only [zl, zm, nI_add, pk_mul, inb_t, ix_n, gd_tt, bd_e, nm_v, ite_not, ↓reduceIte, le_t, le_f, lt_t, lt_f, eq_t, eq_f, mone_f, mone_f2, h1, Bool.toNat_true, y_knows h w hk (show o < n by omega) hh, hdj o ho hb, not_false_eq_true]
theorem y_due {p g T : Nat} (h : FY n Y f) (hn : n ≤ 8) (hk : k < n) (hp : f (21 + 43 * k + 0) = nI p) (hg : f (21 + 43 * k + 1) = nI g) (hp0 : 0 < p) (hp2 : p < 2 ^ 30) (hg2 : g < 2 ^ 30) (hT : T < 2 ^ 30) : sX8_isDue n Y (nI k) (nI T) = some (nI (dueB T g p).toNat) := by
  obtain ⟨y0, y1, y2, y3, y4, y5, y6, y7, y8, y9, y10, y11, y12, y13, y14, y15⟩ := h.fb hk
  unfold sX8_isDue dueB
  simp (disch := omega) only [zl, zm, nI_add, pk_mul, inb_t, ix_n, gd_tt, bd_e, nm_v, ite_not, ↓reduceIte, le_t, le_f, lt_t, lt_f, eq_t, eq_f, mone_f, mone_f2, y0, y1, hp, hg, nz_t]
  by_cases h1 : T < g
  · rw [if_pos (nI_lt h1 (by omega)), decide_eq_false (by omega : ¬ g ≤ T)]; rfl
  · rw [if_neg (nI_nlt (by omega) (by omega)), zs (by omega), pk_rem (by omega) hp0 (by omega), decide_eq_true (by omega : g ≤ T)]
    have hm : (T - g) % p < p := Nat.mod_lt _ hp0
    by_cases h3 : (T - g) % p = 0
    · rw [h3]; simp (disch := omega) only [zl, zm, nI_add, pk_mul, inb_t, ix_n, gd_tt, bd_e, nm_v, ite_not, ↓reduceIte, le_t, le_f, lt_t, lt_f, eq_t, eq_f, mone_f, mone_f2]; rfl
    · rw [decide_eq_false h3]; simp (disch := omega) only [zl, zm, nI_add, pk_mul, inb_t, ix_n, gd_tt, bd_e, nm_v, ite_not, ↓reduceIte, le_t, le_f, lt_t, lt_f, eq_t, eq_f, mone_f, mone_f2]; rfl
theorem y_win {fl : Nat} (h : FY n Y f) (hn : n ≤ 8) (hk : k < n) (hf : f (21 + 43 * k + 7) = nI fl) (hfl : fl < 9) : sX8_window n Y (nI k) = some (nI (min 32 (2 * 2 ^ fl))) := by
  obtain ⟨y0, y1, y2, y3, y4, y5, y6, y7, y8, y9, y10, y11, y12, y13, y14, y15⟩ := h.fb hk
  unfold sX8_window
  simp (disch := omega) only [zl, zm, nI_add, pk_mul, inb_t, ix_n, gd_tt, bd_e, nm_v, ite_not, ↓reduceIte, le_t, le_f, lt_t, lt_f, eq_t, eq_f, mone_f, mone_f2, y7, hf]
  have : ∀ k, k < 9 → (if (nI 2 <<< (nI k &&& nI 31)) < nI 32 then nI 2 <<< (nI k &&& nI 31) else nI 32) = nI (min 32 (2 * 2 ^ k)) := by decide +kernel
  rw [this fl hfl]
end
