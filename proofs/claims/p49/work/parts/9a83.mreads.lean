/-! stage B: what the model's functions answer that change nothing -/
section
variable {m : St} {f : Nat → Int32} {n b : Nat}
theorem m_of {w : Nat} (h : 21 + 43 * b + w < 365) : sX7_of (sr m f) (nI b) (nI w) = some (f (21 + 43 * b + w)) := by
  unfold sX7_of sX7_cellOf
  simp (disch := omega) only [zl, zm, nI_add, pk_mul, inb_t, ix_n, gd_tt, bd_e, nm_v, ite_not, ↓reduceIte, le_t, le_f, lt_t, lt_f, eq_t, eq_f, mone_f, mone_f2, sr_row]
theorem m_sets {w : Nat} (v : Int32) (h : 21 + 43 * b + w < 365) : sX7_sets (sr m f) (nI b) (nI w) v = some (sr m (upd f (21 + 43 * b + w) v)) := by
  unfold sX7_sets sX7_cellOf
  simp (disch := omega) only [zl, zm, nI_add, pk_mul, inb_t, ix_n, gd_tt, bd_e, nm_v, ite_not, ↓reduceIte, le_t, le_f, lt_t, lt_f, eq_t, eq_f, mone_f, mone_f2, sr_pI]
theorem m_adds {w : Nat} (v : Int32) (h : 21 + 43 * b + w < 365) : sX7_adds (sr m f) (nI b) (nI w) v = some (sr m (upd f (21 + 43 * b + w) (f (21 + 43 * b + w) + v))) := by
  unfold sX7_adds sX7_cellOf
  simp (disch := omega) only [zl, zm, nI_add, pk_mul, inb_t, ix_n, gd_tt, bd_e, nm_v, ite_not, ↓reduceIte, le_t, le_f, lt_t, lt_f, eq_t, eq_f, mone_f, mone_f2, sr_pI, sr_row]
theorem lgn_le (x y : Int64) : (lg_cmp x y ≤ nI 0) = (x ≤ y) := propext (lg_cmp_le x y)
theorem lgn_lt (x y : Int64) : (lg_cmp x y < nI 0) = (x < y) := propext (lg_cmp_lt x y)
theorem lgn_gt (x y : Int64) : (nI 0 < lg_cmp x y) = (y < x) := propext (lg_cmp_gt x y)
theorem lgn_eq (x y : Int64) : (lg_cmp x y = nI 0) = (x = y) := propext (lg_cmp_eq x y)
theorem l_lt (a b : Int32) : (a.toInt64 < b.toInt64) = (a < b) := propext (by
  rw [Int64.lt_iff_toInt_lt, Int32.lt_iff_toInt_lt, Int32.toInt_toInt64, Int32.toInt_toInt64])
theorem l_le (a b : Int32) : (a.toInt64 ≤ b.toInt64) = (a ≤ b) := propext (by
  rw [Int64.le_iff_toInt_le, Int32.le_iff_toInt_le, Int32.toInt_toInt64, Int32.toInt_toInt64])
theorem i_nlt {a b : Int32} : ¬ a < b ↔ b ≤ a := by
  rw [Int32.lt_iff_toInt_lt, Int32.le_iff_toInt_le]; omega
theorem i_nle {a b : Int32} : ¬ a ≤ b ↔ b < a := by
  rw [Int32.lt_iff_toInt_lt, Int32.le_iff_toInt_le]; omega
def inR (a b c : Int32) : Bool := decide (b ≤ a) && decide (a ≤ c)
theorem m_isIn (a b c : Int32) : sX7_isIn a.toInt64 b.toInt64 c.toInt64 = some (nI (inR a b c).toNat) := by
  unfold sX7_isIn inR
  simp only [zl, lgn_lt, lgn_gt, l_lt]
  by_cases h1 : a < b
  · rw [if_pos h1, decide_eq_false (i_nle.mpr h1)]; rfl
  · rw [if_neg h1, decide_eq_true (i_nlt.mp h1)]
    by_cases h2 : c < a
    · rw [if_pos h2, decide_eq_false (i_nle.mpr h2)]; rfl
    · rw [if_neg h2, decide_eq_true (i_nlt.mp h2)]; rfl
theorem m_truth (v : Int32) : sX7_truth v = some (nI (decide (¬ v = nI 0)).toNat) := by
  unfold sX7_truth
  simp only [zl]
  by_cases h : v = nI 0
  · rw [if_pos h, decide_eq_false (fun q => q h)]; rfl
  · rw [if_neg h, decide_eq_true h]; rfl
theorem m_has {a k : Nat} (ha : a < 2 ^ 31) (hk : k < 31) : sX7_has (nI a) (nI k) = some (nI (a.testBit k).toNat) := by
  unfold sX7_has
  simp only [zl]
  rw [n_bit ha hk]
  cases a.testBit k <;> rfl
/-- the code of a call, then whether it goes on -/
theorem m_goes (c : Bool) : sX7_goes m (nI c.toNat) = some (pI m 0 0 0 (nI (!c).toNat), nI c.toNat) := by
  cases c <;> rfl
theorem m_goesBoth (c d : Bool) : sX7_goesBoth m (nI c.toNat) (nI d.toNat) = some (pI m 0 0 0 (nI (if c = false then 1 else if d = false then 2 else 0)), nI (c && d).toNat) := by
  cases c <;> cases d <;> rfl
theorem m_isBeacon (hn : n ≤ 8) (h0 : f 0 = nI n) (a : Int32) : sX7_isBeacon (sr m f) a = some (nI (inb a n).toNat) := by
  unfold sX7_isBeacon
  have h1 : (0 : Int64) = (0 : Int32).toInt64 := by decide
  have hz : ix (0 : Int32) = 0 := by decide
  rw [hz, sr_row, h0, h1, m_isIn]
  have h2 : inR a 0 (nI n - 1) = inb a n := by
    unfold inR inb
    have h3 : (nI n - 1).toInt = (n : Int) - 1 := pk_sub_toInt (a := n) (b := 1) (by omega) (by decide)
    have h4 : (0 : Int32).toInt = 0 := by decide
    rw [← Bool.decide_and]
    refine decide_eq_decide.mpr ?_
    rw [Int32.le_iff_toInt_le, Int32.le_iff_toInt_le, h3, h4]
    omega
  rw [h2]
  simp (disch := omega) only [zl, zm, nI_add, pk_mul, inb_t, ix_n, gd_tt, bd_e, nm_v, ite_not, ↓reduceIte, le_t, le_f, lt_t, lt_f, eq_t, eq_f, mone_f, mone_f2, isb_z]
theorem m_areBeacons (hn : n ≤ 8) (h0 : f 0 = nI n) (a c : Int32) : sX7_areBeacons (sr m f) a c = some (nI (inb a n && inb c n).toNat) := by
  unfold sX7_areBeacons
  rw [m_isBeacon hn h0, m_isBeacon hn h0]
  cases inb a n <;> cases inb c n <;> rfl
theorem m_isAt (v : Int32) {w : Nat} (hw : w = 21 + 43 * b + 5) (h : w < 365) : sX7_isAt (sr m f) (nI b) v = some (nI (decide (f w = v)).toNat) := by
  unfold sX7_isAt
  simp only [zl]
  rw [m_of (by omega)]
  subst hw
  by_cases h : f (21 + 43 * b + 5) = v
  · simp (disch := omega) only [bd_e, h]; rfl
  · simp (disch := omega) only [bd_e, h]; rfl
def knF (f : Nat → Int32) (b k : Nat) : Bool := !(decide (f (21 + 43 * b + (19 + k)) = mone)) && !(decide (f 3 < f 1 - f (21 + 43 * b + (19 + k))))
theorem m_isKnown {k : Nat} (h : 21 + 43 * b + (19 + k) < 365) : sX7_isKnown (sr m f) (nI b) (nI k) = some (nI (knF f b k).toNat) := by
  unfold sX7_isKnown
  simp only [zl, nI_add]
  rw [m_of h]
  unfold knF
  simp (disch := omega) only [zl, zm, nI_add, pk_mul, inb_t, ix_n, gd_tt, bd_e, nm_v, ite_not, ↓reduceIte, le_t, le_f, lt_t, lt_f, eq_t, eq_f, mone_f, mone_f2, sr_row]
  by_cases h1 : f (21 + 43 * b + (19 + k)) = mone
  · rw [if_pos h1, decide_eq_true h1]; rfl
  · rw [if_neg h1, decide_eq_false h1]
    by_cases h2 : f 3 < f 1 - f (21 + 43 * b + (19 + k))
    · rw [if_pos h2, decide_eq_true h2]; rfl
    · rw [if_neg h2, decide_eq_false h2]; rfl
theorem m_knownSet (hn : n ≤ 8) (h0 : f 0 = nI n) (hb : b < 8) : sX7_knownSet (sr m f) (nI b) = some (nI (mkS (knF f b) n)) := by
  refine fuel_up n (fun F k => sX7_knownSet_b4 F (sr m f) (nI b) (nI (mkS (knF f b) k)) (nI k)) _ (fun F => ?_) (fun F k hk => ?_) n 0 FU (by omega) (FU_lt (by omega))
  · simp only [sX7_knownSet_b4]
    simp (disch := omega) only [zl, zm, nI_add, pk_mul, inb_t, ix_n, gd_tt, bd_e, nm_v, ite_not, ↓reduceIte, le_t, le_f, lt_t, lt_f, eq_t, eq_f, mone_f, mone_f2, sr_row, h0]
  · simp only [sX7_knownSet_b4]
    rw [m_isKnown (by omega)]
    cases h : knF f b k with
    | false =>
      simp (disch := omega) only [zl, zm, nI_add, pk_mul, inb_t, ix_n, gd_tt, bd_e, nm_v, ite_not, ↓reduceIte, le_t, le_f, lt_t, lt_f, eq_t, eq_f, mone_f, mone_f2, sr_row, h0, Bool.toNat_false, mkS_f h, n_or, Nat.or_zero]
    | true =>
      simp (disch := omega) only [zl, zm, nI_add, pk_mul, inb_t, ix_n, gd_tt, bd_e, nm_v, ite_not, ↓reduceIte, le_t, le_f, lt_t, lt_f, eq_t, eq_f, mone_f, mone_f2, sr_row, h0, Bool.toNat_true, mkS_t h, n_or, sh1]
theorem m_knowsAll (hn : n ≤ 8) (h0 : f 0 = nI n) (hb : b < 8) {a : Nat} (ha : a < 256) (hN : f (13 + b) = nI a) : sX7_knowsAll (sr m f) (nI b) = some (nI (decide (a &&& (mkS (knF f b) n ^^^ 255) = 0)).toNat) := by
  unfold sX7_knowsAll
  rw [m_knownSet hn h0 hb]
  have hand : a &&& (mkS (knF f b) n ^^^ 255) < 2 ^ 31 := Nat.lt_of_le_of_lt Nat.and_le_left (by omega)
  have h1 : (nI a &&& (nI (mkS (knF f b) n) ^^^ mone)) = nI (a &&& (mkS (knF f b) n ^^^ 255)) := n_not ha
  simp (disch := omega) only [zl, zm, nI_add, pk_mul, inb_t, ix_n, gd_tt, bd_e, nm_v, ite_not, ↓reduceIte, le_t, le_f, lt_t, lt_f, eq_t, eq_f, mone_f, mone_f2, sr_row, hN, h1]
  by_cases h : a &&& (mkS (knF f b) n ^^^ 255) = 0
  · rw [decide_eq_true h]
    simp (disch := omega) only [zl, zm, nI_add, pk_mul, inb_t, ix_n, gd_tt, bd_e, nm_v, ite_not, ↓reduceIte, le_t, le_f, lt_t, lt_f, eq_t, eq_f, mone_f, mone_f2]
    rfl
  · rw [decide_eq_false h]
    simp (disch := omega) only [zl, zm, nI_add, pk_mul, inb_t, ix_n, gd_tt, bd_e, nm_v, ite_not, ↓reduceIte, le_t, le_f, lt_t, lt_f, eq_t, eq_f, mone_f, mone_f2]
    rfl
theorem bits_all : ∀ a, a < 256 → sX7_bits (nI a) = some (nI (pcN a 8)) := by decide +kernel
theorem m_bits {a : Nat} (h : a < 256) : sX7_bits (nI a) = some (nI (pcN a 8)) := bits_all a h
theorem m_senders (hn : n ≤ 8) (h0 : f 0 = nI n) : sX7_senders (sr m f) = some (nI (mkS (fun k => decide (f (21 + 43 * k + 5) = nI 3)) n)) := by
  refine fuel_up n (fun F k => sX7_senders_b4 F (sr m f) (nI (mkS (fun k => decide (f (21 + 43 * k + 5) = nI 3)) k)) (nI k)) _ (fun F => ?_) (fun F k hk => ?_) n 0 FU (by omega) (FU_lt (by omega))
  · simp only [sX7_senders_b4]
    simp (disch := omega) only [zl, zm, nI_add, pk_mul, inb_t, ix_n, gd_tt, bd_e, nm_v, ite_not, ↓reduceIte, le_t, le_f, lt_t, lt_f, eq_t, eq_f, mone_f, mone_f2, sr_row, h0]
  · simp only [sX7_senders_b4, zl]
    rw [m_isAt _ rfl (by omega)]
    by_cases h : f (21 + 43 * k + 5) = nI 3
    · have h2 := decide_eq_true h
      simp (disch := omega) only [zl, zm, nI_add, pk_mul, inb_t, ix_n, gd_tt, bd_e, nm_v, ite_not, ↓reduceIte, le_t, le_f, lt_t, lt_f, eq_t, eq_f, mone_f, mone_f2, sr_row, h0, h2, Bool.toNat_true, mkS_t (p := fun k => decide (f (21 + 43 * k + 5) = nI 3)) (k := k) h2, n_or, sh1]
    · have h2 := decide_eq_false h
      simp (disch := omega) only [zl, zm, nI_add, pk_mul, inb_t, ix_n, gd_tt, bd_e, nm_v, ite_not, ↓reduceIte, le_t, le_f, lt_t, lt_f, eq_t, eq_f, mone_f, mone_f2, sr_row, h0, h2, Bool.toNat_false, mkS_f (p := fun k => decide (f (21 + 43 * k + 5) = nI 3)) (k := k) h2, n_or, Nat.or_zero]
theorem m_hasEars (hb : b < 8) : sX7_hasEars (sr m f) (nI b) = some (nI (opB (f (21 + 43 * b + 5))).toNat) := by
  unfold sX7_hasEars opB
  simp only [zl]
  rw [m_isAt _ rfl (by omega), m_isAt _ rfl (by omega)]
  cases decide (f (21 + 43 * b + 5) = nI 1) <;> cases decide (f (21 + 43 * b + 5) = nI 2) <;> rfl
theorem m_due {t p g : Nat} (hb : b < 8) (h1 : f (21 + 43 * b + 0) = nI p) (h2 : f (21 + 43 * b + 1) = nI g) (hp : 0 < p) (hp2 : p < 2 ^ 30) (hf : g < 2 ^ 30) (ht : t < 2 ^ 30) : sX7_isDueAt (sr m f) (nI b) (nI t) = some (nI (dueB t g p).toNat) := by
  unfold sX7_isDueAt dueB
  simp only [zl]
  rw [m_of (by omega), m_of (by omega), h1, h2]
  simp only [bd_e]
  by_cases h : t < g
  · rw [if_pos (show nI t - nI g < nI 0 from pk_sneg hf h), decide_eq_false (by omega : ¬ g ≤ t)]; rfl
  · rw [zs (by omega), pk_rem (by omega) hp (by omega), decide_eq_true (by omega : g ≤ t)]
    have hm : (t - g) % p < p := Nat.mod_lt _ hp
    by_cases h3 : (t - g) % p = 0
    · rw [h3]; simp (disch := omega) only [zl, zm, nI_add, pk_mul, inb_t, ix_n, gd_tt, bd_e, nm_v, ite_not, ↓reduceIte, le_t, le_f, lt_t, lt_f, eq_t, eq_f, mone_f, mone_f2, nz_t]; rfl
    · rw [decide_eq_false h3]; simp (disch := omega) only [zl, zm, nI_add, pk_mul, inb_t, ix_n, gd_tt, bd_e, nm_v, ite_not, ↓reduceIte, le_t, le_f, lt_t, lt_f, eq_t, eq_f, mone_f, mone_f2, nz_t]; rfl
theorem m_until {t p g d : Nat} (hb : b < 8) (ht1 : f 1 = nI t) (h1 : f (21 + 43 * b + 0) = nI p) (h2 : f (21 + 43 * b + 1) = nI g) (hp : 0 < p) (hp2 : p < 2 ^ 30) (hf : g < 2 ^ 30) (ht : t < 2 ^ 29) (hd : dueP t g p d) : sX7_dueFor (sr m f) (nI b) = some (nI d) := by
  obtain ⟨d1, d2, d3, d4⟩ := hd
  refine fuel_lo 1 d (fun F k => sX7_dueFor_b2 F (sr m f) (nI b) (nI k)) _ (fun F => ?_) (fun F k hl hk => ?_) (d - 1) 1 FU (by omega) (by omega) (FU_lt (by omega))
  · simp only [sX7_dueFor_b2, zl]
    simp (disch := omega) only [inb_t, ix_n, gd_tt, sr_row, ht1, nI_add]
    rw [m_due hb h1 h2 hp hp2 hf (by omega), d3]
    simp (disch := omega) only [zl, zm, nI_add, pk_mul, inb_t, ix_n, gd_tt, bd_e, nm_v, ite_not, ↓reduceIte, le_t, le_f, lt_t, lt_f, eq_t, eq_f, mone_f, mone_f2, Bool.toNat_true]
  · simp only [sX7_dueFor_b2, zl]
    simp (disch := omega) only [inb_t, ix_n, gd_tt, sr_row, ht1, nI_add]
    rw [m_due hb h1 h2 hp hp2 hf (by omega), d4 k hl hk]
    simp (disch := omega) only [zl, zm, nI_add, pk_mul, inb_t, ix_n, gd_tt, bd_e, nm_v, ite_not, ↓reduceIte, le_t, le_f, lt_t, lt_f, eq_t, eq_f, mone_f, mone_f2, Bool.toNat_false]
theorem m_win (hb : b < 8) {k : Nat} (hk : k < 9) (h : f (21 + 43 * b + 7) = nI k) : sX7_windowOf (sr m f) (nI b) = some (nI (min 32 (2 * 2 ^ k))) := by
  unfold sX7_windowOf
  simp only [zl]
  rw [m_of (by omega), h]
  have : ∀ k, k < 9 → (bd (some (nI k)) fun q1 => bd (sX7_lesser (nI 4) q1) fun q2 => bd (sX7_lesser (nI 32) (nI 2 <<< (q2 &&& nI 31))) fun q3 => some q3) = some (nI (min 32 (2 * 2 ^ k))) := by decide +kernel
  exact this k hk
theorem c_win' {x : St} {o k : Nat} (hk : k < 9) (h : gI x o 0 8 = nI k) : sX0_windowSize o x = some (nI (min 32 (2 * 2 ^ k))) := by
  rw [c_win, h]
  have : ∀ k, k < 9 → (if (nI 2 <<< (nI k &&& nI 31)) < nI 32 then nI 2 <<< (nI k &&& nI 31) else nI 32) = nI (min 32 (2 * 2 ^ k)) := by decide +kernel
  rw [this k hk]
theorem m_areNear {a c : Nat} (hb : b < 8) (hc : c < 31) (ha : a < 256) (h : f (13 + b) = nI a) : sX7_areNear (sr m f) (nI b) (nI c) = some (nI (a.testBit c).toNat) := by
  unfold sX7_areNear
  simp (disch := omega) only [zl, zm, nI_add, pk_mul, inb_t, ix_n, gd_tt, bd_e, nm_v, ite_not, ↓reduceIte, le_t, le_f, lt_t, lt_f, eq_t, eq_f, mone_f, mone_f2, sr_row, h]
  rw [m_has (by omega) hc]
  simp (disch := omega) only [bd_e, isb_z, gd_tt]
theorem m_pairs (hn : n ≤ 8) (h0 : f 0 = nI n) {N : Nat → Nat} (hN : ∀ k, k < n → f (13 + k) = nI (N k) ∧ N k < 256) : sX7_pairs (sr m f) = some (nI (smN (fun k => pcN (N k) 8) n)) := by
  refine fuel_up n (fun F k => sX7_pairs_b4 F (sr m f) (nI (smN (fun k => pcN (N k) 8) k)) (nI k)) _ (fun F => ?_) (fun F k hk => ?_) n 0 FU (by omega) (FU_lt (by omega))
  · simp only [sX7_pairs_b4]
    simp (disch := omega) only [zl, zm, nI_add, pk_mul, inb_t, ix_n, gd_tt, bd_e, nm_v, ite_not, ↓reduceIte, le_t, le_f, lt_t, lt_f, eq_t, eq_f, mone_f, mone_f2, sr_row, h0]
  · simp only [sX7_pairs_b4]
    simp (disch := omega) only [zl, zm, nI_add, pk_mul, inb_t, ix_n, gd_tt, bd_e, nm_v, ite_not, ↓reduceIte, le_t, le_f, lt_t, lt_f, eq_t, eq_f, mone_f, mone_f2, sr_row, h0, (hN k hk).1, m_bits (hN k hk).2]
    rfl
theorem m_outMany (hn : n ≤ 8) (h0 : f 0 = nI n) : sX7_outMany (sr m f) = some (nI (smN (fun k => (decide (f (21 + 43 * k + 5) = nI 4)).toNat) n)) := by
  refine fuel_up n (fun F k => sX7_outMany_b4 F (sr m f) (nI (smN (fun k => (decide (f (21 + 43 * k + 5) = nI 4)).toNat) k)) (nI k)) _ (fun F => ?_) (fun F k hk => ?_) n 0 FU (by omega) (FU_lt (by omega))
  · simp only [sX7_outMany_b4]
    simp (disch := omega) only [zl, zm, nI_add, pk_mul, inb_t, ix_n, gd_tt, bd_e, nm_v, ite_not, ↓reduceIte, le_t, le_f, lt_t, lt_f, eq_t, eq_f, mone_f, mone_f2, sr_row, h0]
  · simp only [sX7_outMany_b4, zl]
    rw [m_isAt _ rfl (by omega)]
    simp only [bd_e]
    rw [m_truth]
    have h1 : decide (¬ nI (decide (f (21 + 43 * k + 5) = nI 4)).toNat = nI 0) = decide (f (21 + 43 * k + 5) = nI 4) := by
      cases decide (f (21 + 43 * k + 5) = nI 4) <;> rfl
    rw [h1]
    simp (disch := omega) only [zl, zm, nI_add, pk_mul, inb_t, ix_n, gd_tt, bd_e, nm_v, ite_not, ↓reduceIte, le_t, le_f, lt_t, lt_f, eq_t, eq_f, mone_f, mone_f2, sr_row, h0]
    rfl
theorem m_spread (hn : n ≤ 8) (h0 : f 0 = nI n) {N : Nat → Nat} (hN : ∀ k, k < n → f (13 + k) = nI (N k) ∧ N k < 256) {a : Nat} (ha : a < 256) : sX7_spread (sr m f) (nI a) = some (nI (wnN N a n)) := by
  refine fuel_up n (fun F k => sX7_spread_b4 F (sr m f) (nI a) (nI (wnN N a k)) (nI k)) _ (fun F => ?_) (fun F k hk => ?_) n 0 FU (by omega) (FU_lt (by omega))
  · simp only [sX7_spread_b4]
    simp (disch := omega) only [zl, zm, nI_add, pk_mul, inb_t, ix_n, gd_tt, bd_e, nm_v, ite_not, ↓reduceIte, le_t, le_f, lt_t, lt_f, eq_t, eq_f, mone_f, mone_f2, sr_row, h0]
  · simp only [sX7_spread_b4]
    rw [m_has (by omega) (by omega)]
    cases h : a.testBit k with
    | false =>
      simp (disch := omega) only [zl, zm, nI_add, pk_mul, inb_t, ix_n, gd_tt, bd_e, nm_v, ite_not, ↓reduceIte, le_t, le_f, lt_t, lt_f, eq_t, eq_f, mone_f, mone_f2, sr_row, h0, Bool.toNat_false, wnN, h]
      rfl
    | true =>
      simp (disch := omega) only [zl, zm, nI_add, pk_mul, inb_t, ix_n, gd_tt, bd_e, nm_v, ite_not, ↓reduceIte, le_t, le_f, lt_t, lt_f, eq_t, eq_f, mone_f, mone_f2, sr_row, h0, Bool.toNat_true, wnN, h, (hN k hk).1, n_or]
theorem m_allKnow (hn : n ≤ 8) (h0 : f 0 = nI n) {N : Nat → Nat} (hN : ∀ k, k < n → f (13 + k) = nI (N k) ∧ N k < 256) : sX7_allKnow (sr m f) = some (nI (decide (∀ k, k < n → N k &&& (mkS (knF f k) n ^^^ 255) = 0)).toNat) := by
  refine (fuel_up n (fun F k => sX7_allKnow_b4 F (sr m f) (nI (decide (∀ j, j < k → N j &&& (mkS (knF f j) n ^^^ 255) = 0)).toNat) (nI k)) _ (fun F => ?_) (fun F k hk => ?_) n 0 FU (by omega) (FU_lt (by omega)))
  · simp only [sX7_allKnow_b4]
    simp (disch := omega) only [zl, zm, nI_add, pk_mul, inb_t, ix_n, gd_tt, bd_e, nm_v, ite_not, ↓reduceIte, le_t, le_f, lt_t, lt_f, eq_t, eq_f, mone_f, mone_f2, sr_row, h0, isb_z]
  · simp only [sX7_allKnow_b4]
    rw [m_knowsAll hn h0 (by omega) (hN k hk).2 (hN k hk).1]
    by_cases h1 : ∀ j, j < k → N j &&& (mkS (knF f j) n ^^^ 255) = 0
    · by_cases h2 : N k &&& (mkS (knF f k) n ^^^ 255) = 0
      · have h3 : ∀ j, j < k + 1 → N j &&& (mkS (knF f j) n ^^^ 255) = 0 := fun j hj => by
          rcases Nat.lt_or_ge j k with h | h
          · exact h1 j h
          · rw [show j = k by omega]; exact h2
        rw [decide_eq_true h1, decide_eq_true h2, decide_eq_true h3]
        simp (disch := omega) only [zl, zm, nI_add, pk_mul, inb_t, ix_n, gd_tt, bd_e, nm_v, ite_not, ↓reduceIte, le_t, le_f, lt_t, lt_f, eq_t, eq_f, mone_f, mone_f2, sr_row, h0, Bool.toNat_true]
      · rw [decide_eq_true h1, decide_eq_false h2, decide_eq_false (fun q => h2 (q k (by omega)))]
        simp (disch := omega) only [zl, zm, nI_add, pk_mul, inb_t, ix_n, gd_tt, bd_e, nm_v, ite_not, ↓reduceIte, le_t, le_f, lt_t, lt_f, eq_t, eq_f, mone_f, mone_f2, sr_row, h0, Bool.toNat_true, Bool.toNat_false]
    · have h3 : ¬ ∀ j, j < k + 1 → N j &&& (mkS (knF f j) n ^^^ 255) = 0 := fun q => h1 fun j hj => q j (by omega)
      rw [decide_eq_false h1, decide_eq_false h3]
      simp (disch := omega) only [zl, zm, nI_add, pk_mul, inb_t, ix_n, gd_tt, bd_e, nm_v, ite_not, ↓reduceIte, le_t, le_f, lt_t, lt_f, eq_t, eq_f, mone_f, mone_f2, sr_row, h0, Bool.toNat_false]
end
