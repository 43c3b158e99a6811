/-! stage B, tools: a row as a function, small numbers, sets, loops -/
def sr (m : St) (f : Nat → Int32) : St := (fun o j k => if o = 0 ∧ j = 2 then f k else m.1 o j k, m.2)
section
variable (m : St) (f g : Nat → Int32)
theorem sr_g (o j k : Nat) : gI (sr m f) o j k = if o = 0 ∧ j = 2 then f k else gI m o j k := rfl
theorem sr_row (k : Nat) : gI (sr m f) 0 2 k = f k := (sr_g m f 0 2 k).trans (if_pos ⟨rfl, rfl⟩)
theorem sr_rw : gI (sr m f) 0 2 = f := funext fun k => sr_row m f k
theorem sr_o {o j : Nat} (k : Nat) (h : ¬ (o = 0 ∧ j = 2)) : gI (sr m f) o j k = gI m o j k := (sr_g m f o j k).trans (if_neg h)
theorem sr_0 (k : Nat) : gI (sr m f) 0 0 k = gI m 0 0 k := sr_o m f k (by omega)
theorem sr_j {j : Nat} (k : Nat) (h : ¬ j = 2) : gI (sr m f) 0 j k = gI m 0 j k := sr_o m f k (by omega)
theorem sr_L (o j k : Nat) : gL (sr m f) o j k = gL m o j k := rfl
theorem sr_pI (i : Nat) (v : Int32) : pI (sr m f) 0 2 i v = sr m (upd f i v) := by
  refine Prod.ext (funext fun a => funext fun b => funext fun c => ?_) rfl
  show (if a = 0 ∧ b = 2 ∧ c = i then v else if a = 0 ∧ b = 2 then f c else m.1 a b c) = if a = 0 ∧ b = 2 then (if c = i then v else f c) else m.1 a b c
  by_cases h : a = 0 <;> by_cases h1 : b = 2 <;> by_cases h2 : c = i <;> simp [h, h1, h2]
theorem sr_sr : sr (sr m f) g = sr m g := by
  refine Prod.ext (funext fun a => funext fun b => funext fun c => ?_) rfl
  show (if a = 0 ∧ b = 2 then g c else if a = 0 ∧ b = 2 then f c else m.1 a b c) = if a = 0 ∧ b = 2 then g c else m.1 a b c
  by_cases h : a = 0 ∧ b = 2 <;> simp [h]
theorem sr_self : sr m (gI m 0 2) = m := by
  refine Prod.ext (funext fun a => funext fun b => funext fun c => ?_) rfl
  show (if a = 0 ∧ b = 2 then m.1 0 2 c else m.1 a b c) = m.1 a b c
  by_cases h : a = 0 ∧ b = 2
  · obtain ⟨rfl, rfl⟩ := h; simp
  · simp [h]
theorem sr_pIo {o j : Nat} (i : Nat) (v : Int32) (h : ¬ (o = 0 ∧ j = 2)) : pI (sr m f) o j i v = sr (pI m o j i v) f := by
  refine Prod.ext (funext fun a => funext fun b => funext fun c => ?_) rfl
  show (if a = o ∧ b = j ∧ c = i then v else if a = 0 ∧ b = 2 then f c else m.1 a b c) = if a = 0 ∧ b = 2 then f c else if a = o ∧ b = j ∧ c = i then v else m.1 a b c
  by_cases h1 : a = 0 ∧ b = 2
  · have h2 : ¬ (a = o ∧ b = j ∧ c = i) := fun e => h ⟨e.1.symm.trans h1.1, e.2.1.symm.trans h1.2⟩
    rw [if_neg h2, if_pos h1, if_pos h1]
  · rw [if_neg h1, if_neg h1]
theorem sr_pL (o j i : Nat) (v : Int64) : pL (sr m f) o j i v = sr (pL m o j i v) f := rfl
end
theorem upd_e (f : Nat → Int32) (k : Nat) (v : Int32) (j : Nat) : upd f k v j = if j = k then v else f j := rfl
/-! small numbers -/
theorem zl (c : Nat) : (OfNat.ofNat c : Int32) = nI (OfNat.ofNat c) := (fun h => h) rfl
def mone : Int32 := -1
theorem zm : -(nI 1) = mone := (fun h => h) rfl
theorem inb_t {a N : Nat} (h : a < N) (hN : N ≤ 2 ^ 31) : inb (nI a) N = true := by
  have h1 := nI_toInt (n := a) (by omega)
  exact decide_eq_true (by rw [h1]; omega)
theorem le_t {a b : Nat} (h : a ≤ b) (hb : b < 2 ^ 31) : (nI a ≤ nI b) = True := eq_true (nI_le h hb)
theorem le_f {a b : Nat} (h : b < a) (ha : a < 2 ^ 31) : (nI a ≤ nI b) = False := eq_false (nI_ge h ha)
theorem lt_t {a b : Nat} (h : a < b) (hb : b < 2 ^ 31) : (nI a < nI b) = True := eq_true (nI_lt h hb)
theorem lt_f {a b : Nat} (h : b ≤ a) (ha : a < 2 ^ 31) : (nI a < nI b) = False := eq_false (nI_nlt h ha)
theorem eq_t {a b : Nat} (h : a = b) : (nI a = nI b) = True := eq_true (congrArg nI h)
theorem eq_f {a b : Nat} (h : ¬ a = b) (ha : a < 2 ^ 31) (hb : b < 2 ^ 31) : (nI a = nI b) = False := eq_false (fun e => h ((nI_eq ha hb).mp e))
theorem zs {a b : Nat} (h : b ≤ a) : nI a - nI b = nI (a - b) := pk_sub h
theorem mone_f {a : Nat} (h : a < 2 ^ 31) : (nI a = mone) = False := eq_false (fun e => by
  have h1 := congrArg Int32.toInt e
  rw [nI_toInt h] at h1
  have h2 : mone.toInt = -1 := by decide
  omega)
theorem mone_f2 {a : Nat} (h : a < 2 ^ 31) : (mone = nI a) = False := eq_false (fun e => cast (mone_f h) e.symm)
theorem zt (c : Bool) : nI c.toNat = nI 0 ↔ c = false := by cases c <;> decide
theorem zt1 (c : Bool) : nI c.toNat = nI 1 ↔ c = true := by cases c <;> decide
theorem isb_z (c : Bool) : isb (nI c.toNat) = true := by cases c <;> decide
theorem isb_0 : isb (nI 0) = true := by decide
theorem isb_1 : isb (nI 1) = true := by decide
theorem gd_tt {α : Type} (x : Option α) : gd true x = x := (fun h => h) rfl
/-- no 'rfl': the kernel would unfold a loop with its whole fuel -/
theorem bd_e {α β : Type} (a : α) (f : α → Option β) : bd (some a) f = f a := (fun h => h) rfl
theorem nm_v {α β : Type} (a : α) (f : α → β) : nm a f = f a := (fun h => h) rfl
theorem nz_t {a : Nat} (h : 0 < a) (ha : a < 2 ^ 31) : nz (nI a) = true := by
  have h1 : ¬ nI a = 0 := nI_ne0 h ha
  show (!(nI a == 0)) = true
  simp [h1]
theorem FU_lt {a : Nat} (h : a < 1000000) : a < FU := h
theorem inb_of {v : Int32} {N : Nat} (h : inb v N = true) : v = nI (ix v) ∧ ix v < N := by
  have h1 := of_decide_eq_true h
  have h2 : ix v = v.toInt.toNat := rfl
  have h3 := Int32.toInt_lt v
  have h4 : ix v < 2 ^ 31 := by omega
  refine ⟨Int32.toInt_inj.mp ?_, by omega⟩
  rw [nI_toInt h4]
  omega
theorem inb_ex {v : Int32} {N : Nat} (h : inb v N = true) : ∃ a, a < N ∧ v = nI a := ⟨ix v, (inb_of h).2, (inb_of h).1⟩
theorem lit_sh1 : ∀ k, k < 31 → nI 1 <<< (nI k &&& nI 31) = nI (2 ^ k) := by decide +kernel
theorem sh1 {k : Nat} (h : k < 31) : nI 1 <<< (nI k &&& nI 31) = nI (2 ^ k) := lit_sh1 k h
theorem lit_am : ∀ k, k < 32 → ((nI k &&& nI 31).toBitVec.smod 32).toNat = k := by decide +kernel
theorem n_and (a b : Nat) : nI a &&& nI b = nI (a &&& b) := by
  refine Int32.toBitVec_inj.mp ?_
  show BitVec.ofNat 32 a &&& BitVec.ofNat 32 b = BitVec.ofNat 32 (a &&& b)
  exact BitVec.eq_of_getLsbD_eq fun i hi => by simp [Nat.testBit_and]
theorem n_or (a b : Nat) : nI a ||| nI b = nI (a ||| b) := by
  refine Int32.toBitVec_inj.mp ?_
  show BitVec.ofNat 32 a ||| BitVec.ofNat 32 b = BitVec.ofNat 32 (a ||| b)
  exact BitVec.eq_of_getLsbD_eq fun i hi => by simp [Nat.testBit_or]
theorem n_xor (a b : Nat) : nI a ^^^ nI b = nI (a ^^^ b) := by
  refine Int32.toBitVec_inj.mp ?_
  show BitVec.ofNat 32 a ^^^ BitVec.ofNat 32 b = BitVec.ofNat 32 (a ^^^ b)
  exact BitVec.eq_of_getLsbD_eq fun i hi => by simp [Nat.testBit_xor]
theorem n_bit {a k : Nat} (ha : a < 2 ^ 31) (hk : k < 31) : (nI a >>> (nI k &&& nI 31)) &&& nI 1 = nI (a.testBit k).toNat := by
  rw [pk_shrN ha _ k (lit_am k (by omega)), n_and]
  congr 1
  rw [Nat.testBit_eq_decide_div_mod_eq, Nat.and_one_is_mod]
  rcases Nat.mod_two_eq_zero_or_one (a / 2 ^ k) with h | h <;> rw [h] <;> rfl
/-- what isn't in b -/
theorem n_not {a b : Nat} (ha : a < 256) : nI a &&& (nI b ^^^ mone) = nI (a &&& (b ^^^ 255)) := by
  refine Int32.toBitVec_inj.mp ?_
  show BitVec.ofNat 32 a &&& (BitVec.ofNat 32 b ^^^ BitVec.allOnes 32) = BitVec.ofNat 32 (a &&& (b ^^^ 255))
  refine BitVec.eq_of_getLsbD_eq fun i hi => ?_
  have h255 : Nat.testBit 255 i = decide (i < 8) := by
    have := Nat.testBit_two_pow_sub_one 8 i
    exact this
  rw [BitVec.getLsbD_and, BitVec.getLsbD_xor, BitVec.getLsbD_ofNat, BitVec.getLsbD_ofNat, BitVec.getLsbD_ofNat, BitVec.getLsbD_allOnes, Nat.testBit_and, Nat.testBit_xor, h255]
  by_cases h8 : i < 8
  · rw [decide_eq_true h8, decide_eq_true hi]; simp
  · have h9 : a.testBit i = false := Nat.testBit_lt_two_pow (Nat.lt_of_lt_of_le ha (Nat.pow_le_pow_right (n := 2) (by decide) (by omega : 8 ≤ i)))
    rw [h9]; simp
theorem b255 (i : Nat) : Nat.testBit 255 i = decide (i < 8) := Nat.testBit_two_pow_sub_one 8 i
theorem n_zero {a : Nat} (ha : a < 2 ^ 31) : nI a = nI 0 ↔ ∀ i, a.testBit i = false := by
  rw [nI_eq ha (by decide)]
  exact ⟨fun h i => by rw [h, Nat.zero_testBit], fun h => Nat.eq_of_testBit_eq fun i => by rw [h i, Nat.zero_testBit]⟩
/-! sets -/
def mkS (p : Nat → Bool) : Nat → Nat
  | 0 => 0
  | n + 1 => if p n = true then mkS p n ||| 2 ^ n else mkS p n
theorem mkS_e (p : Nat → Bool) (n : Nat) : mkS p (n + 1) = if p n = true then mkS p n ||| 2 ^ n else mkS p n := rfl
theorem mkS_bit (p : Nat → Bool) : ∀ n i, (mkS p n).testBit i = (decide (i < n) && p i)
  | 0, i => by simp [mkS]
  | n + 1, i => by
    have ih := mkS_bit p n i
    unfold mkS
    by_cases h : p n = true
    · rw [if_pos h, Nat.testBit_or, ih, Nat.testBit_two_pow]
      by_cases e : n = i
      · subst e; simp [h]
      · have h1 : decide (i < n + 1) = decide (i < n) := decide_eq_decide.mpr (by omega)
        simp [h1, e]
    · rw [if_neg h, ih]
      by_cases e : n = i
      · subst e; simp [h]
      · have h1 : decide (i < n + 1) = decide (i < n) := decide_eq_decide.mpr (by omega)
        rw [h1]
theorem mkS_lt (p : Nat → Bool) : ∀ n, mkS p n < 2 ^ n
  | 0 => Nat.zero_lt_one
  | n + 1 => by
    have ih := mkS_lt p n
    have h2 : 2 ^ n < 2 ^ (n + 1) := Nat.pow_lt_pow_right (by decide) (by omega)
    unfold mkS
    split
    · exact Nat.or_lt_two_pow (Nat.lt_trans ih h2) h2
    · exact Nat.lt_trans ih h2
theorem mkS_lt8 (p : Nat → Bool) {n : Nat} (h : n ≤ 8) : mkS p n < 256 := Nat.lt_of_lt_of_le (mkS_lt p n) (Nat.pow_le_pow_right (n := 2) (by decide) h)
theorem mkS_cg {p q : Nat → Bool} : ∀ {n : Nat}, (∀ i, i < n → p i = q i) → mkS p n = mkS q n
  | 0, _ => rfl
  | n + 1, h => by
    unfold mkS
    rw [h n (by omega), mkS_cg fun i hi => h i (by omega)]
theorem mkS_t {p : Nat → Bool} {k : Nat} (h : p k = true) : mkS p (k + 1) = mkS p k ||| 2 ^ k := (mkS_e p k).trans (if_pos h)
theorem mkS_f {p : Nat → Bool} {k : Nat} (h : p k = false) : mkS p (k + 1) = mkS p k := (mkS_e p k).trans (if_neg (by rw [h]; decide))
theorem lt8_of_bits {a n : Nat} (h : ∀ i, n ≤ i → a.testBit i = false) : a < 2 ^ n := Nat.lt_pow_two_of_testBit a h
/-- how many are in a set -/
def pcN (a : Nat) : Nat → Nat
  | 0 => 0
  | n + 1 => pcN a n + (a.testBit n).toNat
theorem pcN_le (a : Nat) : ∀ n, pcN a n ≤ n
  | 0 => Nat.le_refl _
  | n + 1 => by have := pcN_le a n; have h : (a.testBit n).toNat ≤ 1 := Bool.toNat_le _; unfold pcN; omega
/-! loops -/
theorem fuel_up {α : Type} (n : Nat) (f : Nat → Nat → α) (r : α) (he : ∀ F, f (F + 1) n = r) (hs : ∀ F k, k < n → f (F + 1) k = f F (k + 1)) : ∀ (d k F : Nat), k + d = n → d < F → f F k = r
  | 0, k, 0, _, h => absurd h (by omega)
  | 0, k, F + 1, hk, _ => by rw [show k = n by omega]; exact he F
  | d + 1, k, 0, _, h => absurd h (by omega)
  | d + 1, k, F + 1, hk, h => by rw [hs F k (by omega)]; exact fuel_up n f r he hs d (k + 1) F (by omega) (by omega)
theorem fuel_lo {α : Type} (lo n : Nat) (f : Nat → Nat → α) (r : α) (he : ∀ F, f (F + 1) n = r) (hs : ∀ F k, lo ≤ k → k < n → f (F + 1) k = f F (k + 1)) : ∀ (d k F : Nat), lo ≤ k → k + d = n → d < F → f F k = r
  | 0, k, 0, _, _, h => absurd h (by omega)
  | 0, k, F + 1, _, hk, _ => by rw [show k = n by omega]; exact he F
  | d + 1, k, 0, _, _, h => absurd h (by omega)
  | d + 1, k, F + 1, hl, hk, h => by rw [hs F k hl (by omega)]; exact fuel_lo lo n f r he hs d (k + 1) F (by omega) (by omega) (by omega)
/-- two loops in step -/
theorem lock_up {X M α β : Type} (n : Nat) (R : Nat → X → M → Prop) (f : Nat → X → Nat → α) (g : Nat → M → Nat → β) (fe : X → α) (ge : M → β) (hf : ∀ F x m, R n x m → f (F + 1) x n = fe x) (hg : ∀ F x m, R n x m → g (F + 1) m n = ge m)
    (hs : ∀ k x m, k < n → R k x m → ∃ x' m', (∀ F, f (F + 1) x k = f F x' (k + 1)) ∧ (∀ F, g (F + 1) m k = g F m' (k + 1)) ∧ R (k + 1) x' m') :
    ∀ (d k F G : Nat) (x : X) (m : M), k + d = n → d < F → d < G → R k x m → ∃ x' m', f F x k = fe x' ∧ g G m k = ge m' ∧ R n x' m'
  | 0, k, 0, _, _, _, _, h, _, _ => absurd h (by omega)
  | 0, k, _, 0, _, _, _, _, h, _ => absurd h (by omega)
  | 0, k, F + 1, G + 1, x, m, hk, _, _, hR => by
    obtain rfl : k = n := by omega
    exact ⟨x, m, hf F x m hR, hg G x m hR, hR⟩
  | d + 1, k, 0, _, _, _, _, h, _, _ => absurd h (by omega)
  | d + 1, k, _, 0, _, _, _, _, h, _ => absurd h (by omega)
  | d + 1, k, F + 1, G + 1, x, m, hk, h1, h2, hR => by
    obtain ⟨x', m', e1, e2, hR'⟩ := hs k x m (by omega) hR
    obtain ⟨x2, m2, e3, e4, hR2⟩ := lock_up n R f g fe ge hf hg hs d (k + 1) F G x' m' (by omega) (by omega) (by omega) hR'
    exact ⟨x2, m2, (e1 F).trans e3, (e2 G).trans e4, hR2⟩
/-- one loop over a state, with what holds of it -/
theorem one_up {X α : Type} (n : Nat) (R : Nat → X → Prop) (f : Nat → X → Nat → α) (fe : X → α) (hf : ∀ F x, R n x → f (F + 1) x n = fe x)
    (hs : ∀ k x, k < n → R k x → ∃ x', (∀ F, f (F + 1) x k = f F x' (k + 1)) ∧ R (k + 1) x') :
    ∀ (d k F : Nat) (x : X), k + d = n → d < F → R k x → ∃ x', f F x k = fe x' ∧ R n x'
  | 0, k, 0, _, _, h, _ => absurd h (by omega)
  | 0, k, F + 1, x, hk, _, hR => by
    obtain rfl : k = n := by omega
    exact ⟨x, hf F x hR, hR⟩
  | d + 1, k, 0, _, _, h, _ => absurd h (by omega)
  | d + 1, k, F + 1, x, hk, h1, hR => by
    obtain ⟨x', e1, hR'⟩ := hs k x (by omega) hR
    obtain ⟨x2, e3, hR2⟩ := one_up n R f fe hf hs d (k + 1) F x' (by omega) (by omega) hR'
    exact ⟨x2, (e1 F).trans e3, hR2⟩
