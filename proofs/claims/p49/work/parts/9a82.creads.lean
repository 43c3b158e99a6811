/-! stage B: what the class's functions answer that change nothing -/
def dueB (t f p : Nat) : Bool := decide (f ≤ t) && decide ((t - f) % p = 0)
theorem c_due {x : St} {o t p f : Nat} (h1 : gI x o 0 1 = nI p) (h2 : gI x o 0 2 = nI f) (hp : 0 < p) (hp2 : p < 2 ^ 30) (hf : f < 2 ^ 30) (ht : t < 2 ^ 30) : sX0_isDueAt o x (nI t) = some (nI (dueB t f p).toNat) := by
  unfold sX0_isDueAt dueB
  rw [h1, h2]
  by_cases h : t < f
  · rw [if_pos (pk_sneg hf h), decide_eq_false (by omega : ¬ f ≤ t)]; rfl
  · rw [zs (by omega), pk_rem (by omega) hp (by omega), decide_eq_true (by omega : f ≤ t)]
    have hm : (t - f) % p < p := Nat.mod_lt _ hp
    by_cases h3 : (t - f) % p = 0
    · rw [h3]; simp (disch := omega) only [zl, zm, nI_add, pk_mul, inb_t, ix_n, gd_tt, bd_e, nm_v, ite_not, ↓reduceIte, le_t, le_f, lt_t, lt_f, eq_t, eq_f, mone_f, mone_f2, nz_t]; rfl
    · rw [decide_eq_false h3]; simp (disch := omega) only [zl, zm, nI_add, pk_mul, inb_t, ix_n, gd_tt, bd_e, nm_v, ite_not, ↓reduceIte, le_t, le_f, lt_t, lt_f, eq_t, eq_f, mone_f, mone_f2, nz_t]; rfl
def dueP (t f p d : Nat) : Prop := 1 ≤ d ∧ d ≤ 99 ∧ dueB (t + d) f p = true ∧ ∀ j, 1 ≤ j → j < d → dueB (t + j) f p = false
theorem due_ex {t f p : Nat} (hp : 2 ≤ p) (hp2 : p ≤ 99) (hf : f < p) : ∃ d, dueP t f p d := by
  have h1 : ∃ d, 1 ≤ d ∧ d ≤ 99 ∧ dueB (t + d) f p = true := by
    unfold dueB
    by_cases h : t < f
    · refine ⟨f - t, by omega, by omega, ?_⟩
      rw [decide_eq_true (by omega), show t + (f - t) - f = 0 by omega]
      simp
    · have hm : (t - f) % p < p := Nat.mod_lt _ (by omega)
      have hd := Nat.div_add_mod (t - f) p
      refine ⟨p - (t - f) % p, by omega, by omega, ?_⟩
      rw [decide_eq_true (by omega), show t + (p - (t - f) % p) - f = p * ((t - f) / p + 1) by rw [Nat.mul_add]; omega]
      simp
  obtain ⟨d, ⟨h2, h3, h4⟩, h5⟩ := pk_least (fun d => 1 ≤ d ∧ d ≤ 99 ∧ dueB (t + d) f p = true) h1
  refine ⟨d, h2, h3, h4, fun j hj hjd => ?_⟩
  have h6 := h5 j hjd
  cases h7 : dueB (t + j) f p with
  | false => rfl
  | true => exact absurd ⟨hj, by omega, h7⟩ h6
theorem due_un {t f p d e : Nat} (h : dueP t f p d) (h2 : dueP t f p e) : d = e := by
  rcases Nat.lt_trichotomy d e with h3 | h3 | h3
  · have := h2.2.2.2 d h.1 h3; rw [h.2.2.1] at this; cases this
  · exact h3
  · have := h.2.2.2 e h2.1 h3; rw [h2.2.2.1] at this; cases this
theorem c_until {x : St} {o t p f d : Nat} (h1 : gI x o 0 1 = nI p) (h2 : gI x o 0 2 = nI f) (hp : 0 < p) (hp2 : p < 2 ^ 30) (hf : f < 2 ^ 30) (ht : t < 2 ^ 29) (hd : dueP t f p d) : sX0_slotsUntilDue o x (nI t) = some (nI d) := by
  obtain ⟨d1, d2, d3, d4⟩ := hd
  refine fuel_lo 1 d (fun F k => sX0_slotsUntilDue_b2 F o x (nI t) (nI k)) _ (fun F => ?_) (fun F k hl hk => ?_) (d - 1) 1 FU (by omega) (by omega) (FU_lt (by omega))
  · simp only [sX0_slotsUntilDue_b2, nI_add]
    rw [c_due h1 h2 hp hp2 hf (by omega), d3]
    rcases Nat.lt_or_ge d 99 with h | h
    · simp (disch := omega) only [zl, zm, nI_add, pk_mul, inb_t, ix_n, gd_tt, bd_e, nm_v, ite_not, ↓reduceIte, le_t, le_f, lt_t, lt_f, eq_t, eq_f, mone_f, mone_f2, Bool.toNat_true]
    · simp (disch := omega) only [zl, zm, nI_add, pk_mul, inb_t, ix_n, gd_tt, bd_e, nm_v, ite_not, ↓reduceIte, le_t, le_f, lt_t, lt_f, eq_t, eq_f, mone_f, mone_f2]
  · simp only [sX0_slotsUntilDue_b2, nI_add]
    rw [c_due h1 h2 hp hp2 hf (by omega), d4 k hl hk]
    simp (disch := omega) only [zl, zm, nI_add, pk_mul, inb_t, ix_n, gd_tt, bd_e, nm_v, ite_not, ↓reduceIte, le_t, le_f, lt_t, lt_f, eq_t, eq_f, mone_f, mone_f2, Bool.toNat_false]
theorem c_win {x : St} {o : Nat} : sX0_windowSize o x = some (if (nI 2 <<< (gI x o 0 8 &&& nI 31)) < nI 32 then nI 2 <<< (gI x o 0 8 &&& nI 31) else nI 32) := rfl
def opB (v : Int32) : Bool := decide (v = nI 1) || decide (v = nI 2)
theorem c_open {x : St} {o : Nat} : sX0_hasOpenEars o x = some (nI (opB (gI x o 0 6)).toNat) := by
  unfold sX0_hasOpenEars opB
  simp only [zl]
  by_cases h : gI x o 0 6 = nI 1
  · rw [if_pos h, decide_eq_true h]; rfl
  · rw [if_neg h, decide_eq_false h]
    by_cases h2 : gI x o 0 6 = nI 2
    · rw [if_neg (fun q => q h2), decide_eq_true h2]; rfl
    · rw [if_pos h2, decide_eq_false h2]; rfl
theorem c_isIn {a k : Nat} (ha : a < 2 ^ 31) (hk : k < 31) : sX6_isIn (nI a) (nI k) = some (nI (a.testBit k).toNat) := by
  unfold sX6_isIn
  simp only [zl]
  rw [n_bit ha hk]
  cases a.testBit k <;> rfl
section
variable {x : St} {n : Nat}
def knP (x : St) (o : Nat) (k : Nat) : Bool := !(decide (gI x o 2 k = mone)) && !(decide (gI x 0 0 4 < gI x 0 0 5 - gI x o 2 k))
theorem c_known (hn : n ≤ 8) (hx : gI x 0 0 2 = nI n) (o : Nat) : sX5_knownTo o x = some (nI (mkS (knP x o) n)) := by
  refine fuel_up n (fun F k => sX5_knownTo_b4 F o x (nI (mkS (knP x o) k)) (nI k)) _ (fun F => ?_) (fun F k hk => ?_) n 0 FU (by omega) (FU_lt (by omega))
  · simp only [sX5_knownTo_b4]
    rw [hx]
    simp (disch := omega) only [zl, zm, nI_add, pk_mul, inb_t, ix_n, gd_tt, bd_e, nm_v, ite_not, ↓reduceIte, le_t, le_f, lt_t, lt_f, eq_t, eq_f, mone_f, mone_f2]
  · simp only [sX5_knownTo_b4]
    rw [hx]
    have hb := mkS_lt8 (knP x o) (n := k) (by omega)
    simp (disch := omega) only [zl, zm, nI_add, pk_mul, inb_t, ix_n, gd_tt, bd_e, nm_v, ite_not, ↓reduceIte, le_t, le_f, lt_t, lt_f, eq_t, eq_f, mone_f, mone_f2]
    by_cases h1 : gI x o 2 k = mone
    · have h3 : knP x o k = false := by unfold knP; rw [decide_eq_true h1]; rfl
      rw [if_pos h1, mkS_f h3]
    · rw [if_neg h1]
      by_cases h2 : gI x 0 0 4 < gI x 0 0 5 - gI x o 2 k
      · have h3 : knP x o k = false := by unfold knP; rw [decide_eq_true h2]; simp
        rw [if_pos h2, mkS_f h3]
      · have h3 : knP x o k = true := by unfold knP; rw [decide_eq_false h2, decide_eq_false h1]; rfl
        rw [if_neg h2, mkS_t h3, sh1 (by omega), n_or]
theorem c_inState (hn : n ≤ 8) (hx : gI x 0 0 2 = nI n) (v : Int32) : sX5_inState x v = some (nI (mkS (fun k => decide (gI x (k + 1) 0 6 = v)) n)) := by
  refine fuel_up n (fun F k => sX5_inState_b4 F x v (nI (mkS (fun k => decide (gI x (k + 1) 0 6 = v)) k)) (nI k)) _ (fun F => ?_) (fun F k hk => ?_) n 0 FU (by omega) (FU_lt (by omega))
  · simp only [sX5_inState_b4]
    rw [hx]
    simp (disch := omega) only [zl, zm, nI_add, pk_mul, inb_t, ix_n, gd_tt, bd_e, nm_v, ite_not, ↓reduceIte, le_t, le_f, lt_t, lt_f, eq_t, eq_f, mone_f, mone_f2]
  · simp only [sX5_inState_b4]
    rw [hx]
    simp (disch := omega) only [zl, zm, nI_add, pk_mul, inb_t, ix_n, gd_tt, bd_e, nm_v, ite_not, ↓reduceIte, le_t, le_f, lt_t, lt_f, eq_t, eq_f, mone_f, mone_f2]
    by_cases h1 : gI x (k + 1) 0 6 = v
    · rw [if_pos h1, mkS_t (decide_eq_true h1), sh1 (by omega), n_or]
    · rw [if_neg h1, mkS_f (decide_eq_false h1)]
theorem bc_all : ∀ a, a < 256 → sJ6_bitCount_0f7a4 (nI a) = some (nI (pcN a 8)) := by decide +kernel
theorem c_bc {a : Nat} (h : a < 256) : sJ6_bitCount_0f7a4 (nI a) = some (nI (pcN a 8)) := bc_all a h
/-- sums over beacons -/
def smN (p : Nat → Nat) : Nat → Nat
  | 0 => 0
  | n + 1 => smN p n + p n
theorem smN_le {p : Nat → Nat} {c : Nat} (h : ∀ k, p k ≤ c) : ∀ n, smN p n ≤ n * c
  | 0 => Nat.zero_le _
  | n + 1 => by have := smN_le h n; have := h n; unfold smN; rw [Nat.succ_mul]; omega
theorem smN_cg {p q : Nat → Nat} : ∀ {n : Nat}, (∀ k, k < n → p k = q k) → smN p n = smN q n
  | 0, _ => rfl
  | n + 1, h => by unfold smN; rw [h n (by omega), smN_cg fun k hk => h k (by omega)]
theorem c_pairs (hn : n ≤ 8) (hx : gI x 0 0 2 = nI n) {N : Nat → Nat} (hN : ∀ k, k < n → gI x (k + 1) 0 10 = nI (N k) ∧ N k < 256) : sX5_nearPairs x = some (nI (smN (fun k => pcN (N k) 8) n)) := by
  refine fuel_up n (fun F k => sX5_nearPairs_b4 F x (nI (smN (fun k => pcN (N k) 8) k)) (nI k)) _ (fun F => ?_) (fun F k hk => ?_) n 0 FU (by omega) (FU_lt (by omega))
  · simp only [sX5_nearPairs_b4]
    rw [hx]
    simp (disch := omega) only [zl, zm, nI_add, pk_mul, inb_t, ix_n, gd_tt, bd_e, nm_v, ite_not, ↓reduceIte, le_t, le_f, lt_t, lt_f, eq_t, eq_f, mone_f, mone_f2]
  · simp only [sX5_nearPairs_b4]
    rw [hx]
    simp (disch := omega) only [zl, zm, nI_add, pk_mul, inb_t, ix_n, gd_tt, bd_e, nm_v, ite_not, ↓reduceIte, le_t, le_f, lt_t, lt_f, eq_t, eq_f, mone_f, mone_f2, (hN k hk).1, c_bc (hN k hk).2]
    rfl
theorem c_allKnown (hn : n ≤ 8) (hx : gI x 0 0 2 = nI n) {N : Nat → Nat} (hN : ∀ k, k < n → gI x (k + 1) 0 10 = nI (N k) ∧ N k < 256) : sX5_isAllKnown x = some (nI (decide (∀ k, k < n → N k &&& (mkS (knP x (k + 1)) n ^^^ 255) = 0)).toNat) := by
  have hl : ∀ (d k F : Nat), k + d = n → d < F → (∀ j, j < k → N j &&& (mkS (knP x (j + 1)) n ^^^ 255) = 0) → sX5_isAllKnown_b2 F x (nI k) = some (nI (decide (∀ k, k < n → N k &&& (mkS (knP x (k + 1)) n ^^^ 255) = 0)).toNat) := by
    intro d
    induction d with
    | zero =>
      intro k F hk hF hj
      obtain ⟨F, rfl⟩ : ∃ G, F = G + 1 := ⟨F - 1, by omega⟩
      simp only [sX5_isAllKnown_b2]
      rw [hx, decide_eq_true (fun j hj2 => hj j (by omega))]
      simp (disch := omega) only [zl, zm, nI_add, pk_mul, inb_t, ix_n, gd_tt, bd_e, nm_v, ite_not, ↓reduceIte, le_t, le_f, lt_t, lt_f, eq_t, eq_f, mone_f, mone_f2]
      rfl
    | succ d ih =>
      intro k F hk hF hj
      obtain ⟨F, rfl⟩ : ∃ G, F = G + 1 := ⟨F - 1, by omega⟩
      simp only [sX5_isAllKnown_b2]
      rw [hx]
      have hand : N k &&& (mkS (knP x (k + 1)) n ^^^ 255) < 2 ^ 31 := Nat.lt_of_le_of_lt Nat.and_le_left (by have := (hN k (by omega)).2; omega)
      have h0 : (nI (N k) &&& (nI (mkS (knP x (k + 1)) n) ^^^ mone)) = nI (N k &&& (mkS (knP x (k + 1)) n ^^^ 255)) := n_not (hN k (by omega)).2
      simp (disch := omega) only [zl, zm, nI_add, pk_mul, inb_t, ix_n, gd_tt, bd_e, nm_v, ite_not, ↓reduceIte, le_t, le_f, lt_t, lt_f, eq_t, eq_f, mone_f, mone_f2, (hN k (by omega)).1, c_known hn hx (k + 1), h0]
      by_cases h : N k &&& (mkS (knP x (k + 1)) n ^^^ 255) = 0
      · simp (disch := omega) only [zl, zm, nI_add, pk_mul, inb_t, ix_n, gd_tt, bd_e, nm_v, ite_not, ↓reduceIte, le_t, le_f, lt_t, lt_f, eq_t, eq_f, mone_f, mone_f2]
        refine ih (k + 1) F (by omega) (by omega) (fun j hj2 => ?_)
        rcases Nat.lt_or_ge j k with h2 | h2
        · exact hj j h2
        · rw [show j = k by omega]; exact h
      · rw [decide_eq_false (fun q => h (q k (by omega)))]
        simp (disch := omega) only [zl, zm, nI_add, pk_mul, inb_t, ix_n, gd_tt, bd_e, nm_v, ite_not, ↓reduceIte, le_t, le_f, lt_t, lt_f, eq_t, eq_f, mone_f, mone_f2]
        rfl
  exact hl n 0 FU (by omega) (FU_lt (by omega)) (fun j hj => by omega)
/-- a set and all near one of it -/
def wnN (N : Nat → Nat) (a : Nat) : Nat → Nat
  | 0 => a
  | n + 1 => if a.testBit n = true then wnN N a n ||| N n else wnN N a n
theorem wnN_lt {N : Nat → Nat} {a : Nat} (ha : a < 256) : ∀ {n : Nat}, (∀ k, k < n → N k < 256) → wnN N a n < 256
  | 0, _ => ha
  | n + 1, h => by
    have ih := wnN_lt ha (n := n) fun k hk => h k (by omega)
    unfold wnN
    split
    · exact Nat.or_lt_two_pow (n := 8) ih (h n (by omega))
    · exact ih
theorem c_withNear (hn : n ≤ 8) (hx : gI x 0 0 2 = nI n) {N : Nat → Nat} (hN : ∀ k, k < n → gI x (k + 1) 0 10 = nI (N k) ∧ N k < 256) {a : Nat} (ha : a < 256) : sX5_withNear x (nI a) = some (nI (wnN N a n)) := by
  refine fuel_up n (fun F k => sX5_withNear_b4 F x (nI a) (nI (wnN N a k)) (nI k)) _ (fun F => ?_) (fun F k hk => ?_) n 0 FU (by omega) (FU_lt (by omega))
  · simp only [sX5_withNear_b4]
    rw [hx]
    simp (disch := omega) only [zl, zm, nI_add, pk_mul, inb_t, ix_n, gd_tt, bd_e, nm_v, ite_not, ↓reduceIte, le_t, le_f, lt_t, lt_f, eq_t, eq_f, mone_f, mone_f2]
  · simp only [sX5_withNear_b4]
    rw [hx, c_isIn (by omega) (by omega)]
    cases h : a.testBit k with
    | false => 
      simp (disch := omega) only [zl, zm, nI_add, pk_mul, inb_t, ix_n, gd_tt, bd_e, nm_v, ite_not, ↓reduceIte, le_t, le_f, lt_t, lt_f, eq_t, eq_f, mone_f, mone_f2, Bool.toNat_false, wnN, h]
      rfl
    | true =>
      simp (disch := omega) only [zl, zm, nI_add, pk_mul, inb_t, ix_n, gd_tt, bd_e, nm_v, ite_not, ↓reduceIte, le_t, le_f, lt_t, lt_f, eq_t, eq_f, mone_f, mone_f2, Bool.toNat_true, wnN, h, (hN k hk).1, n_or]
end
