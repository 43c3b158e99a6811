/-! stage B: who hears whom, on the model's side; the two together -/
section
variable {m : St} {f g : Nat → Int32} {n S b o : Nat}
theorem m_deaf {N st : Nat} (ho : o < 8) (hb : b < 8) (hN : f (13 + o) = nI N) (hN2 : N < 256) (hst : f (21 + 43 * o + 5) = nI st) (hst2 : st ≤ 4) : sX7_deafness (sr m f) (nI o) (nI b) (nI S) = some (nI (rsn N S b (nI st))) := by
  unfold sX7_deafness
  simp only [zl]
  rw [m_areNear ho (by omega) hN2 hN, m_isAt _ rfl (by omega), m_isAt _ rfl (by omega), m_isAt _ rfl (by omega), hst]
  have hand := and_lt8 S hN2
  have hp : pcN (N &&& S) 8 ≤ 8 := pcN_le _ 8
  unfold rsn opB
  cases h1 : N.testBit b with
  | false => simp (disch := omega) only [bd_e, Bool.toNat_false, ite_not, ↓reduceIte]
  | true =>
    rcases (by omega : st = 0 ∨ st = 1 ∨ st = 2 ∨ st = 3 ∨ st = 4) with rfl | rfl | rfl | rfl | rfl
    · simp (disch := omega) only [zl, zm, nI_add, pk_mul, inb_t, ix_n, gd_tt, bd_e, nm_v, ite_not, ↓reduceIte, le_t, le_f, lt_t, lt_f, eq_t, eq_f, mone_f, mone_f2, Bool.toNat_true, Bool.toNat_false, decide_true, decide_false, Bool.true_eq_false, Bool.or_false, Bool.false_or]
    · by_cases h2 : 1 < pcN (N &&& S) 8
      · simp (disch := omega) only [zl, zm, nI_add, pk_mul, inb_t, ix_n, gd_tt, bd_e, nm_v, ite_not, ↓reduceIte, le_t, le_f, lt_t, lt_f, eq_t, eq_f, mone_f, mone_f2, sr_row, hN, n_and, m_bits hand, h2, Bool.toNat_true, Bool.toNat_false, decide_true, decide_false, Bool.true_eq_false, Bool.or_false, Bool.false_or]
      · simp (disch := omega) only [zl, zm, nI_add, pk_mul, inb_t, ix_n, gd_tt, bd_e, nm_v, ite_not, ↓reduceIte, le_t, le_f, lt_t, lt_f, eq_t, eq_f, mone_f, mone_f2, sr_row, hN, n_and, m_bits hand, h2, Bool.toNat_true, Bool.toNat_false, decide_true, decide_false, Bool.true_eq_false, Bool.or_false, Bool.false_or]
    · by_cases h2 : 1 < pcN (N &&& S) 8
      · simp (disch := omega) only [zl, zm, nI_add, pk_mul, inb_t, ix_n, gd_tt, bd_e, nm_v, ite_not, ↓reduceIte, le_t, le_f, lt_t, lt_f, eq_t, eq_f, mone_f, mone_f2, sr_row, hN, n_and, m_bits hand, h2, Bool.toNat_true, Bool.toNat_false, decide_true, decide_false, Bool.true_eq_false, Bool.or_false, Bool.false_or]
      · simp (disch := omega) only [zl, zm, nI_add, pk_mul, inb_t, ix_n, gd_tt, bd_e, nm_v, ite_not, ↓reduceIte, le_t, le_f, lt_t, lt_f, eq_t, eq_f, mone_f, mone_f2, sr_row, hN, n_and, m_bits hand, h2, Bool.toNat_true, Bool.toNat_false, decide_true, decide_false, Bool.true_eq_false, Bool.or_false, Bool.false_or]
    · simp (disch := omega) only [zl, zm, nI_add, pk_mul, inb_t, ix_n, gd_tt, bd_e, nm_v, ite_not, ↓reduceIte, le_t, le_f, lt_t, lt_f, eq_t, eq_f, mone_f, mone_f2, Bool.toNat_true, Bool.toNat_false, decide_true, decide_false, Bool.true_eq_false, Bool.or_false, Bool.false_or]
    · simp (disch := omega) only [zl, zm, nI_add, pk_mul, inb_t, ix_n, gd_tt, bd_e, nm_v, ite_not, ↓reduceIte, le_t, le_f, lt_t, lt_f, eq_t, eq_f, mone_f, mone_f2, Bool.toNat_true, Bool.toNat_false, decide_true, decide_false, Bool.true_eq_false, Bool.or_false, Bool.false_or]
theorem upd_s (f : Nat → Int32) (k : Nat) : upd f k (f k) = f := funext fun j => by
  rw [upd_e]; split
  · rename_i h; rw [h]
  · rfl
theorem upd_u (f : Nat → Int32) (k : Nat) (v w : Int32) : upd (upd f k v) k w = upd f k w := funext fun j => by
  rw [upd_e, upd_e, upd_e]; split <;> rfl
def cM (N : Nat → Nat) (st : Nat → Int32) (S : Nat) : Nat → Nat := smN fun i => (decide (1 < pcN (N i &&& S) 8) && opB (st i)).toNat
theorem m_collides {N : Nat → Nat} {c : Nat} (hn : n ≤ 8) (h0 : f 0 = nI n) (hN : ∀ k, k < n → f (13 + k) = nI (N k) ∧ N k < 256) (h6 : f 6 = nI c) : sX7_collides (sr m f) (nI S) = some (sr m (upd f 6 (nI (c + cM N (fun k => f (21 + 43 * k + 5)) S n)))) := by
  have hf : f = upd f 6 (nI (c + cM N (fun k => f (21 + 43 * k + 5)) S 0)) := by
    refine ((congrArg (upd f 6) ?_).trans (upd_s f 6)).symm
    exact h6.symm
  refine (congrArg (fun z => sX7_collides (sr m z) (nI S)) hf).trans ?_
  refine fuel_up n (fun F k => sX7_collides_b2 F (sr m (upd f 6 (nI (c + cM N (fun k => f (21 + 43 * k + 5)) S k)))) (nI S) (nI k)) _ (fun F => ?_) (fun F k hk => ?_) n 0 FU (by omega) (FU_lt (by omega))
  · simp only [sX7_collides_b2]
    simp (disch := omega) only [zl, zm, nI_add, pk_mul, inb_t, ix_n, gd_tt, bd_e, nm_v, ite_not, ↓reduceIte, le_t, le_f, lt_t, lt_f, eq_t, eq_f, mone_f, mone_f2, sr_row, upd_e, qn, h0]
  · have hst : cM N (fun k => f (21 + 43 * k + 5)) S (k + 1) = cM N (fun k => f (21 + 43 * k + 5)) S k + (decide (1 < pcN (N k &&& S) 8) && opB (f (21 + 43 * k + 5))).toNat := rfl
    generalize cM N (fun k => f (21 + 43 * k + 5)) S k = C at hst ⊢
    have he : sX7_hasEars (sr m (upd f 6 (nI (c + C)))) (nI k) = some (nI (opB (f (21 + 43 * k + 5))).toNat) := by
      rw [m_hasEars (by omega), upd_e, if_neg (by omega)]
    have hN1 := and_lt8 S (hN k hk).2
    have hp : pcN (N k &&& S) 8 ≤ 8 := pcN_le _ 8
    simp only [sX7_collides_b2, sX7_collides_b51]
    rw [hst]
    cases h1 : opB (f (21 + 43 * k + 5)) with
    | false =>
      simp (disch := omega) only [zl, zm, nI_add, pk_mul, inb_t, ix_n, gd_tt, bd_e, nm_v, ite_not, ↓reduceIte, le_t, le_f, lt_t, lt_f, eq_t, eq_f, mone_f, mone_f2, sr_row, sr_pI, upd_e, qn, qe, h0, he, h1, Bool.toNat_false, Bool.and_false, m_truth, not_true_eq_false, decide_false, Nat.add_zero, upd_u]
    | true =>
      by_cases h2 : 1 < pcN (N k &&& S) 8
      · simp (disch := omega) only [zl, zm, nI_add, pk_mul, inb_t, ix_n, gd_tt, bd_e, nm_v, ite_not, ↓reduceIte, le_t, le_f, lt_t, lt_f, eq_t, eq_f, mone_f, mone_f2, sr_row, sr_pI, upd_e, qn, qe, h0, he, h1, (hN k hk).1, n_and, m_bits hN1, h2, Bool.toNat_true, Bool.and_true, m_truth, not_false_eq_true, decide_true, Nat.add_assoc c C 1, upd_u]
      · simp (disch := omega) only [zl, zm, nI_add, pk_mul, inb_t, ix_n, gd_tt, bd_e, nm_v, ite_not, ↓reduceIte, le_t, le_f, lt_t, lt_f, eq_t, eq_f, mone_f, mone_f2, sr_row, sr_pI, upd_e, qn, qe, h0, he, h1, (hN k hk).1, n_and, m_bits hN1, h2, Bool.toNat_true, Bool.and_true, m_truth, not_true_eq_false, decide_false, Bool.toNat_false, Nat.add_zero, upd_u]
/-- what a sender's row of ears and reasons has become, ears below o done -/
def HO (N : Nat → Nat) (st : Nat → Int32) (S b o : Nat) (f g : Nat → Int32) : Prop :=
  (∃ a a', f (21 + 43 * b + 9) = nI a ∧ g (21 + 43 * b + 9) = nI a' ∧ a' < 256 ∧ ∀ i, i < 8 → a'.testBit i = (a.testBit i && (decide (o ≤ i) || decide (i = b) || decide (rsn (N i) S b (st i) = 0)))) ∧
  ∀ i, i < 8 → g (21 + 43 * b + (27 + i)) = if i < o ∧ ¬ i = b ∧ f (21 + 43 * b + (27 + i)) = nI 0 then nI (rsn (N i) S b (st i)) else f (21 + 43 * b + (27 + i))
def OF (b : Nat) (f g : Nat → Int32) : Prop := ∀ i, ¬ i = 21 + 43 * b + 9 → ¬ (21 + 43 * b + 27 ≤ i ∧ i < 21 + 43 * b + 35) → g i = f i
theorem m_hears {N st : Nat → Nat} {a : Nat} (hn : n ≤ 8) (hb : b < n) (h0 : f 0 = nI n) (hN : ∀ k, k < n → f (13 + k) = nI (N k) ∧ N k < 256) (hst : ∀ k, k < n → f (21 + 43 * k + 5) = nI (st k) ∧ st k ≤ 4) (ha : f (21 + 43 * b + 9) = nI a) (ha2 : a < 256) : ∃ g, sX7_hears (sr m f) (nI b) (nI S) = some (sr m g) ∧ OF b f g ∧ HO N (fun k => nI (st k)) S b n f g := by
  refine one_up (α := Option St) n (fun o g => OF b f g ∧ HO N (fun k => nI (st k)) S b o f g) (fun F g o => sX7_hears_b2 F (sr m g) (nI b) (nI S) (nI o)) (fun g => some (sr m g)) (fun F g h => ?_) (fun o g ho h => ?_) n 0 FU f (by omega) (FU_lt (by omega)) ⟨fun _ _ _ => rfl, ⟨a, a, ha, ha, ha2, fun i hi => ?_⟩, fun i hi => ?_⟩
  · have e0 : g 0 = nI n := by rw [h.1 0 (by omega) (by omega), h0]
    simp only [sX7_hears_b2]
    simp (disch := omega) only [zl, zm, nI_add, pk_mul, inb_t, ix_n, gd_tt, bd_e, nm_v, ite_not, ↓reduceIte, le_t, le_f, lt_t, lt_f, eq_t, eq_f, mone_f, mone_f2, sr_row, e0]
  · obtain ⟨hO, ⟨a1, a2, h1, h2, h3, h4⟩, h5⟩ := h
    have e0 : g 0 = nI n := by rw [hO 0 (by omega) (by omega), h0]
    by_cases hw : o = b ∨ rsn (N o) S b (nI (st o)) = 0
    · refine ⟨g, fun F => ?_, hO, ⟨a1, a2, h1, h2, h3, fun i hi => ?_⟩, fun i hi => ?_⟩
      · simp only [sX7_hears_b2, sX7_hears_b28]
        by_cases hob : o = b
        · simp (disch := omega) only [zl, zm, nI_add, pk_mul, inb_t, ix_n, gd_tt, bd_e, nm_v, ite_not, ↓reduceIte, le_t, le_f, lt_t, lt_f, eq_t, eq_f, mone_f, mone_f2, sr_row, e0]
        · have hd : sX7_deafness (sr m g) (nI o) (nI b) (nI S) = some (nI 0) := by
            rw [m_deaf (N := N o) (st := st o) (by omega) (by omega) (by rw [hO _ (by omega) (by omega)]; exact (hN o ho).1) (hN o ho).2 (by rw [hO _ (by omega) (by omega)]; exact (hst o ho).1) (hst o ho).2, hw.resolve_left hob]
          simp (disch := omega) only [zl, zm, nI_add, pk_mul, inb_t, ix_n, gd_tt, bd_e, nm_v, ite_not, ↓reduceIte, le_t, le_f, lt_t, lt_f, eq_t, eq_f, mone_f, mone_f2, sr_row, e0, hd]
      · rw [h4 i hi]
        by_cases hio : i = o
        · subst hio
          rw [decide_eq_true (Nat.le_refl i), decide_eq_false (by omega : ¬ i + 1 ≤ i)]
          rcases hw with hw | hw
          · rw [decide_eq_true hw]; simp
          · rw [decide_eq_true hw]; simp
        · have h6 : decide (o ≤ i) = decide (o + 1 ≤ i) := decide_eq_decide.mpr (by omega)
          rw [h6]
      · rw [h5 i hi]
        by_cases hio : i = o
        · subst hio
          rw [if_neg (by omega)]
          by_cases hz : i < i + 1 ∧ ¬ i = b ∧ f (21 + 43 * b + (27 + i)) = nI 0
          · rw [if_pos hz, hz.2.2, hw.resolve_left hz.2.1]
          · rw [if_neg hz]
        · have h6 : (i < o ∧ ¬ i = b ∧ f (21 + 43 * b + (27 + i)) = nI 0) ↔ (i < o + 1 ∧ ¬ i = b ∧ f (21 + 43 * b + (27 + i)) = nI 0) := ⟨fun q => ⟨by omega, q.2⟩, fun q => ⟨by omega, q.2⟩⟩
          by_cases hz : i < o ∧ ¬ i = b ∧ f (21 + 43 * b + (27 + i)) = nI 0
          · rw [if_pos hz, if_pos (h6.mp hz)]
          · rw [if_neg hz, if_neg (fun q => hz (h6.mpr q))]
    · have hob : ¬ o = b := fun q => hw (Or.inl q)
      have hr0 : ¬ rsn (N o) S b (nI (st o)) = 0 := fun q => hw (Or.inr q)
      have hr := rsn_le (N o) S b (nI (st o))
      have hd : ∀ z, (z = g) → sX7_deafness (sr m z) (nI o) (nI b) (nI S) = some (nI (rsn (N o) S b (nI (st o)))) := by
        intro z hz; subst hz
        rw [m_deaf (N := N o) (st := st o) (by omega) (by omega) (by rw [hO _ (by omega) (by omega)]; exact (hN o ho).1) (hN o ho).2 (by rw [hO _ (by omega) (by omega)]; exact (hst o ho).1) (hst o ho).2]
      have ho9 : g (21 + 43 * b + (27 + o)) = f (21 + 43 * b + (27 + o)) := by rw [h5 o (by omega), if_neg (by omega)]
      have hbits : ∀ i, i < 8 → (a2 &&& (2 ^ o ^^^ 255)).testBit i = (a1.testBit i && (decide (o + 1 ≤ i) || decide (i = b) || decide (rsn (N i) S b (nI (st i)) = 0))) := by
        intro i hi
        rw [Nat.testBit_and, Nat.testBit_xor, b255, Nat.testBit_two_pow, h4 i hi, decide_eq_true hi]
        by_cases hio : i = o
        · subst hio
          rw [decide_eq_false hob, decide_eq_false hr0, decide_eq_false (by omega : ¬ i + 1 ≤ i)]; simp
        · have h6 : decide (o ≤ i) = decide (o + 1 ≤ i) := decide_eq_decide.mpr (by omega)
          rw [h6, decide_eq_false (fun q => hio q.symm : ¬ o = i)]; simp
      have hG : ∀ v, g (21 + 43 * b + (27 + o)) = v → ∀ F, sX7_hears_b2 (F + 1) (sr m g) (nI b) (nI S) (nI o) = if v = nI 0 then sX7_hears_b2 F (sr m (upd (upd g (21 + 43 * b + 9) (nI (a2 &&& (2 ^ o ^^^ 255)))) (21 + 43 * b + (27 + o)) (nI (rsn (N o) S b (nI (st o)))))) (nI b) (nI S) (nI (o + 1)) else sX7_hears_b2 F (sr m (upd g (21 + 43 * b + 9) (nI (a2 &&& (2 ^ o ^^^ 255))))) (nI b) (nI S) (nI (o + 1)) := by
        intro v hv F
        simp only [sX7_hears_b2, sX7_hears_b28]
        by_cases hv0 : v = nI 0
        · simp (disch := omega) only [zl, zm, nI_add, pk_mul, inb_t, ix_n, gd_tt, bd_e, nm_v, ite_not, ↓reduceIte, le_t, le_f, lt_t, lt_f, eq_t, eq_f, mone_f, mone_f2, sr_row, e0, hd g rfl, m_of, h2, sh1, n_not, m_sets, upd_e, qn, qe, hv, hv0]
        · simp (disch := omega) only [zl, zm, nI_add, pk_mul, inb_t, ix_n, gd_tt, bd_e, nm_v, ite_not, ↓reduceIte, le_t, le_f, lt_t, lt_f, eq_t, eq_f, mone_f, mone_f2, sr_row, e0, hd g rfl, m_of, h2, sh1, n_not, m_sets, upd_e, qn, qe, hv, hv0]
      by_cases hz : f (21 + 43 * b + (27 + o)) = nI 0
      · refine ⟨_, fun F => (hG _ (ho9.trans hz) F).trans (if_pos rfl), fun i hi hi2 => ?_, ⟨a1, a2 &&& (2 ^ o ^^^ 255), h1, ?_, and_lt8 _ h3, hbits⟩, fun i hi => ?_⟩
        · simp (disch := omega) only [upd_e, qn, ↓reduceIte]; exact hO i hi hi2
        · simp (disch := omega) only [upd_e, qn, qe, ↓reduceIte]
        · by_cases hio : i = o
          · subst hio
            rw [if_pos ⟨by omega, hob, hz⟩]
            simp (disch := omega) only [upd_e, qn, qe, ↓reduceIte]
          · simp (disch := omega) only [upd_e, qn, qe, ↓reduceIte]
            rw [h5 i hi]
            have h6 : (i < o ∧ ¬ i = b ∧ f (21 + 43 * b + (27 + i)) = nI 0) ↔ (i < o + 1 ∧ ¬ i = b ∧ f (21 + 43 * b + (27 + i)) = nI 0) := ⟨fun q => ⟨by omega, q.2⟩, fun q => ⟨by omega, q.2⟩⟩
            by_cases hz : i < o ∧ ¬ i = b ∧ f (21 + 43 * b + (27 + i)) = nI 0
            · rw [if_pos hz, if_pos (h6.mp hz)]
            · rw [if_neg hz, if_neg (fun q => hz (h6.mpr q))]
      · refine ⟨_, fun F => (hG _ ho9 F).trans (if_neg hz), fun i hi hi2 => ?_, ⟨a1, a2 &&& (2 ^ o ^^^ 255), h1, ?_, and_lt8 _ h3, hbits⟩, fun i hi => ?_⟩
        · simp (disch := omega) only [upd_e, qn, ↓reduceIte]; exact hO i hi hi2
        · simp (disch := omega) only [upd_e, qn, qe, ↓reduceIte]
        · simp (disch := omega) only [upd_e, qn, qe, ↓reduceIte]
          rw [h5 i hi]
          by_cases hio : i = o
          · subst hio
            rw [if_neg (by omega), if_neg (fun q => hz q.2.2)]
          · have h6 : (i < o ∧ ¬ i = b ∧ f (21 + 43 * b + (27 + i)) = nI 0) ↔ (i < o + 1 ∧ ¬ i = b ∧ f (21 + 43 * b + (27 + i)) = nI 0) := ⟨fun q => ⟨by omega, q.2⟩, fun q => ⟨by omega, q.2⟩⟩
            by_cases hz : i < o ∧ ¬ i = b ∧ f (21 + 43 * b + (27 + i)) = nI 0
            · rw [if_pos hz, if_pos (h6.mp hz)]
            · rw [if_neg hz, if_neg (fun q => hz (h6.mpr q))]
  · rw [decide_eq_true (Nat.zero_le i)]; simp
  · rw [if_neg (by omega)]
end
