/-! stage B: the law's loops of the listening -/
def yL (Y : St) (N : Nat → Nat) (S n a s cc : Nat) : St := (fun o j i => if o = 0 ∧ j = 0 ∧ i = 6 then nI cc else if j = 3 ∧ 1 ≤ o ∧ S.testBit (o - 1) = true ∧ (o - 1 < a ∧ i < n ∨ o - 1 = a ∧ i < s) ∧ ¬ i = o - 1 ∧ gI Y o 3 i = nI 0 then nI (rsn (N i) S (o - 1) (gI Y (i + 1) 0 5)) else Y.1 o j i, Y.2)
def yS (Y : St) (S a : Nat) : St := (fun o j i => if o = 0 ∧ j = 3 ∧ i < a then nI (S.testBit i).toNat else Y.1 o j i, Y.2)
section
variable {n t cm wl wm e k b : Nat} {q : Bool} {x x' m Y Y' : St} {f f' : Nat → Int32} {N : Nat → Nat} {S a s cc o : Nat}
theorem yL_g (o j i : Nat) : gI (yL Y N S n a s cc) o j i = if o = 0 ∧ j = 0 ∧ i = 6 then nI cc else if j = 3 ∧ 1 ≤ o ∧ S.testBit (o - 1) = true ∧ (o - 1 < a ∧ i < n ∨ o - 1 = a ∧ i < s) ∧ ¬ i = o - 1 ∧ gI Y o 3 i = nI 0 then nI (rsn (N i) S (o - 1) (gI Y (i + 1) 0 5)) else gI Y o j i := rfl
theorem yL_o {o j i : Nat} (h : ¬ (o = 0 ∧ j = 0 ∧ i = 6)) (h3 : ¬ j = 3 ∨ o = 0) : gI (yL Y N S n a s cc) o j i = gI Y o j i := by
  rw [yL_g, if_neg h, if_neg (fun z => by omega)]
theorem yS_g (o j i : Nat) : gI (yS Y S a) o j i = if o = 0 ∧ j = 3 ∧ i < a then nI (S.testBit i).toNat else gI Y o j i := rfl
theorem yL_c (c2 : Nat) : pI (yL Y N S n a s cc) 0 0 6 (nI c2) = yL Y N S n a s c2 := by
  refine Prod.ext (funext fun o => funext fun j => funext fun i => ?_) rfl
  show gI (pI (yL Y N S n a s cc) 0 0 6 (nI c2)) o j i = gI (yL Y N S n a s c2) o j i
  rw [gI_pI, yL_g, yL_g]
  by_cases h : o = 0 ∧ j = 0 ∧ i = 6
  · rw [if_pos h, if_pos h]
  · rw [if_neg h, if_neg h, if_neg h]
theorem yL_0 (h : gI Y 0 0 6 = nI cc) : yL Y N S n 0 0 cc = Y := by
  refine Prod.ext (funext fun o => funext fun j => funext fun i => ?_) rfl
  show gI (yL Y N S n 0 0 cc) o j i = gI Y o j i
  rw [yL_g]
  by_cases h1 : o = 0 ∧ j = 0 ∧ i = 6
  · rw [if_pos h1]; obtain ⟨rfl, rfl, rfl⟩ := h1; exact h.symm
  · rw [if_neg h1, if_neg (fun z => by omega)]
theorem yL_row : yL Y N S n a n cc = yL Y N S n (a + 1) 0 cc := by
  refine Prod.ext (funext fun o => funext fun j => funext fun i => ?_) rfl
  show gI (yL Y N S n a n cc) o j i = gI (yL Y N S n (a + 1) 0 cc) o j i
  rw [yL_g, yL_g]
  by_cases h1 : o = 0 ∧ j = 0 ∧ i = 6
  · rw [if_pos h1, if_pos h1]
  · rw [if_neg h1, if_neg h1]
    by_cases h2 : j = 3 ∧ 1 ≤ o ∧ S.testBit (o - 1) = true ∧ (o - 1 < a ∧ i < n ∨ o - 1 = a ∧ i < n) ∧ ¬ i = o - 1 ∧ gI Y o 3 i = nI 0
    · rw [if_pos h2, if_pos ⟨h2.1, h2.2.1, h2.2.2.1, by have := h2.2.2.2.1; omega, h2.2.2.2.2⟩]
    · rw [if_neg h2, if_neg (fun z => h2 ⟨z.1, z.2.1, z.2.2.1, by have := z.2.2.2.1; omega, z.2.2.2.2⟩)]
/-- a beacon that doesn't send -/
theorem yL_skip (h : S.testBit a = false) : yL Y N S n a 0 cc = yL Y N S n (a + 1) 0 cc := by
  refine Prod.ext (funext fun o => funext fun j => funext fun i => ?_) rfl
  show gI (yL Y N S n a 0 cc) o j i = gI (yL Y N S n (a + 1) 0 cc) o j i
  rw [yL_g, yL_g]
  by_cases h1 : o = 0 ∧ j = 0 ∧ i = 6
  · rw [if_pos h1, if_pos h1]
  · rw [if_neg h1, if_neg h1]
    by_cases h2 : j = 3 ∧ 1 ≤ o ∧ S.testBit (o - 1) = true ∧ (o - 1 < a ∧ i < n ∨ o - 1 = a ∧ i < 0) ∧ ¬ i = o - 1 ∧ gI Y o 3 i = nI 0
    · rw [if_pos h2, if_pos ⟨h2.1, h2.2.1, h2.2.2.1, by have := h2.2.2.2.1; omega, h2.2.2.2.2⟩]
    · rw [if_neg h2, if_neg (fun z => h2 ⟨z.1, z.2.1, z.2.2.1, by
        rcases z.2.2.2.1 with g | g
        · by_cases e : o - 1 = a
          · have := z.2.2.1; rw [e, h] at this; cases this
          · exact Or.inl ⟨by omega, g.2⟩
        · omega, z.2.2.2.2⟩)]
theorem yL_same (h : ¬ (¬ s = a ∧ gI Y (a + 1) 3 s = nI 0)) : yL Y N S n a s cc = yL Y N S n a (s + 1) cc := by
  refine Prod.ext (funext fun o => funext fun j => funext fun i => ?_) rfl
  show gI (yL Y N S n a s cc) o j i = gI (yL Y N S n a (s + 1) cc) o j i
  rw [yL_g, yL_g]
  by_cases h1 : o = 0 ∧ j = 0 ∧ i = 6
  · rw [if_pos h1, if_pos h1]
  · rw [if_neg h1, if_neg h1]
    by_cases h2 : j = 3 ∧ 1 ≤ o ∧ S.testBit (o - 1) = true ∧ (o - 1 < a ∧ i < n ∨ o - 1 = a ∧ i < s) ∧ ¬ i = o - 1 ∧ gI Y o 3 i = nI 0
    · rw [if_pos h2, if_pos ⟨h2.1, h2.2.1, h2.2.2.1, by have := h2.2.2.2.1; omega, h2.2.2.2.2⟩]
    · rw [if_neg h2, if_neg (fun z => h2 ⟨z.1, z.2.1, z.2.2.1, by
        rcases z.2.2.2.1 with g | g
        · exact Or.inl g
        · by_cases e : i = s
          · exfalso
            refine h ⟨?_, ?_⟩
            · have := z.2.2.2.2.1; omega
            · have h9 := z.2.2.2.2.2
              rw [e, show o = a + 1 by have := z.2.1; omega] at h9
              exact h9
          · exact Or.inr ⟨g.1, by omega⟩, z.2.2.2.2⟩)]
theorem yL_put (h : S.testBit a = true) (ha : ¬ s = a) (h0 : gI Y (a + 1) 3 s = nI 0) : pI (yL Y N S n a s cc) (a + 1) 3 s (nI (rsn (N s) S a (gI Y (s + 1) 0 5))) = yL Y N S n a (s + 1) cc := by
  refine Prod.ext (funext fun o => funext fun j => funext fun i => ?_) rfl
  show gI (pI (yL Y N S n a s cc) (a + 1) 3 s _) o j i = gI (yL Y N S n a (s + 1) cc) o j i
  rw [gI_pI, yL_g, yL_g]
  by_cases h9 : o = a + 1 ∧ j = 3 ∧ i = s
  · obtain ⟨rfl, rfl, rfl⟩ := h9
    rw [if_pos ⟨rfl, rfl, rfl⟩, if_neg (by omega), if_pos ⟨rfl, by omega, h, Or.inr ⟨rfl, by omega⟩, ha, h0⟩]
    rfl
  · rw [if_neg h9]
    by_cases h1 : o = 0 ∧ j = 0 ∧ i = 6
    · rw [if_pos h1, if_pos h1]
    · rw [if_neg h1, if_neg h1]
      by_cases h2 : j = 3 ∧ 1 ≤ o ∧ S.testBit (o - 1) = true ∧ (o - 1 < a ∧ i < n ∨ o - 1 = a ∧ i < s) ∧ ¬ i = o - 1 ∧ gI Y o 3 i = nI 0
      · rw [if_pos h2, if_pos ⟨h2.1, h2.2.1, h2.2.2.1, by have := h2.2.2.2.1; omega, h2.2.2.2.2⟩]
      · rw [if_neg h2, if_neg (fun z => h2 ⟨z.1, z.2.1, z.2.2.1, by have := z.2.2.2.1; have := z.1; have := z.2.1; omega, z.2.2.2.2⟩)]
theorem NS.yL (h : NS n N S Y) : NS n N S (yL Y N S n a s cc) :=
  ⟨fun b hb o ho => by rw [yL_o (by omega) (Or.inr rfl)]; exact h.1 b hb o ho, fun o ho => by rw [yL_o (by omega) (Or.inl (by omega))]; exact h.2 o ho⟩
/-- one sender is heard, or not -/
theorem y_row {k179 : St → Nat → Int32 → Int32 → Option (St × Int32)} {u : Nat} {a1 : Int32} (h : NS n N S Y) (hn : n ≤ 8) (ha : a < n) (hS : S.testBit a = true) (hN : ∀ o, o < n → N o &&& S < 2 ^ n) : sX8_slot_b255 FU k179 n (yL Y N S n a 0 cc) u a1 (nI a) a (nI 0) = k179 (yL Y N S n (a + 1) 0 cc) u a1 (nI (a + 1)) := by
  rw [← yL_row (n := n)]
  refine fuel_up n (fun F s => sX8_slot_b255 F k179 n (yL Y N S n a s cc) u a1 (nI a) a (nI s)) _ (fun F => ?_) (fun F s hs => ?_) n 0 FU (by omega) (FU_lt (by omega))
  · simp only [sX8_slot_b255]
    simp (disch := omega) only [zl, zm, nI_add, pk_mul, inb_t, ix_n, gd_tt, bd_e, nm_v, ite_not, ↓reduceIte, le_t, le_f, lt_t, lt_f, eq_t, eq_f, mone_f, mone_f2]
  · simp only [sX8_slot_b255]
    have hw : gI (yL Y N S n a s cc) (a + 1) 3 s = gI Y (a + 1) 3 s := by
      rw [yL_g, if_neg (by omega), if_neg (fun z => by have := z.2.2.2.1; omega)]
    by_cases e : s = a
    · subst e
      rw [yL_same (s := s) (fun z => z.1 rfl)]
      simp (disch := omega) only [zl, zm, nI_add, pk_mul, inb_t, ix_n, gd_tt, bd_e, nm_v, ite_not, ↓reduceIte, le_t, le_f, lt_t, lt_f, eq_t, eq_f, mone_f, mone_f2]
    · by_cases h0 : gI Y (a + 1) 3 s = nI 0
      · have hd := y_deaf (h.yL (a := a) (s := s) (cc := cc)) hn hs ha (hN s hs)
        rw [yL_o (by omega) (Or.inl (by omega))] at hd
        simp (disch := omega) only [zl, zm, nI_add, pk_mul, inb_t, ix_n, gd_tt, bd_e, nm_v, ite_not, ↓reduceIte, le_t, le_f, lt_t, lt_f, eq_t, eq_f, mone_f, mone_f2, e, hw, h0, hd, not_true_eq_false]
        rw [yL_put hS e h0]
      · rw [← yL_same (s := s) (fun z => h0 z.2)]
        simp (disch := omega) only [zl, zm, nI_add, pk_mul, inb_t, ix_n, gd_tt, bd_e, nm_v, ite_not, ↓reduceIte, le_t, le_f, lt_t, lt_f, eq_t, eq_f, mone_f, mone_f2, e, hw, h0, not_false_eq_true]
def cY (Y : St) (N : Nat → Nat) (S : Nat) : Nat → Nat := smN fun i => (decide (1 < pcN (N i &&& S) 8) && opB (gI Y (i + 1) 0 5)).toNat
theorem cY_e (k : Nat) : cY Y N S (k + 1) = cY Y N S k + (decide (1 < pcN (N k &&& S) 8) && opB (gI Y (k + 1) 0 5)).toNat := rfl
theorem y_rows {u : Nat} {a1 : Int32} (h : NS n N S Y) (hn : n ≤ 8) (hN : ∀ o, o < n → N o &&& S < 2 ^ n) (hc : gI Y 0 0 6 = nI cc) : sX8_slot_b179 FU n Y u a1 (nI 0) = sX8_slot_b313 FU n (yL Y N S n n 0 (cc + cY Y N S n)) u a1 (nI 0) := by
  have h00 : yL Y N S n 0 0 (cc + cY Y N S 0) = Y := yL_0 hc
  rw [← h00]
  rw [h00]
  conv => lhs; rw [← h00]
  refine fuel_up n (fun F k => sX8_slot_b179 F n (yL Y N S n k 0 (cc + cY Y N S k)) u a1 (nI k)) _ (fun F => ?_) (fun F k hk => ?_) n 0 FU (by omega) (FU_lt (by omega))
  · simp only [sX8_slot_b179]
    simp (disch := omega) only [zl, zm, nI_add, pk_mul, inb_t, ix_n, gd_tt, bd_e, nm_v, ite_not, ↓reduceIte, le_t, le_f, lt_t, lt_f, eq_t, eq_f, mone_f, mone_f2]
  · simp only [sX8_slot_b179]
    obtain ⟨st, q1, q2, q3⟩ := h.2 k hk
    have hst : gI (yL Y N S n k 0 (cc + cY Y N S k)) (k + 1) 0 5 = nI st := by rw [yL_o (by omega) (Or.inl (by omega))]; exact q2
    have hcy := cY_e (Y := Y) (N := N) (S := S) k
    rw [q2] at hcy
    have h8 : pcN (N k &&& S) 8 = pcN (N k &&& S) n := by
      have := pcN_more (hN k hk) (8 - n)
      rw [show n + (8 - n) = 8 by omega] at this
      exact this
    have hle := pcN_le (N k &&& S) n
    have hsn := y_sn (h.yL (a := k) (s := 0) (cc := cc + cY Y N S k)) hn hk
    have h6 : gI (yL Y N S n k 0 (cc + cY Y N S k)) 0 0 6 = nI (cc + cY Y N S k) := by rw [yL_g, if_pos ⟨rfl, rfl, rfl⟩]
    rw [h8] at hcy
    have ho1 : opB (nI 1) = true := by decide
    have ho2 : opB (nI 2) = true := by decide
    have ho0 : opB (nI 0) = false := by decide
    have ho3 : opB (nI 3) = false := by decide
    have ho4 : opB (nI 4) = false := by decide
    have hS0 : ¬ st = 3 → S.testBit k = false := fun h3 => by
      cases hs : S.testBit k
      · rfl
      · exact absurd (q3.mp hs) h3
    rcases (by omega : st = 0 ∨ st = 1 ∨ st = 2 ∨ st = 3 ∨ st = 4) with rfl | rfl | rfl | rfl | rfl
    · rw [ho0, Bool.and_false, Bool.toNat_false] at hcy
      have hsk := yL_skip (Y := Y) (N := N) (n := n) (cc := cc + cY Y N S k) (hS0 (by omega))
      unfold sX8_slot_b241
      simp (disch := omega) only [zl, zm, nI_add, pk_mul, inb_t, ix_n, gd_tt, bd_e, nm_v, ite_not, ↓reduceIte, le_t, le_f, lt_t, lt_f, eq_t, eq_f, mone_f, mone_f2, hst, not_false_eq_true, hcy, Nat.add_zero]
      rw [hsk]
    · rw [ho1, Bool.and_true] at hcy
      by_cases hp : 1 < pcN (N k &&& S) n
      · rw [decide_eq_true hp, Bool.toNat_true] at hcy
        have hsk := yL_skip (Y := Y) (N := N) (n := n) (cc := cc + cY Y N S k + 1) (hS0 (by omega))
        unfold sX8_slot_b222 sX8_slot_b241
        simp (disch := omega) only [zl, zm, nI_add, pk_mul, inb_t, ix_n, gd_tt, bd_e, nm_v, ite_not, ↓reduceIte, le_t, le_f, lt_t, lt_f, eq_t, eq_f, mone_f, mone_f2, hst, hsn, h6, yL_c, hcy, ← Nat.add_assoc]
        rw [show gI (yL Y N S n k 0 (cc + cY Y N S k + 1)) (k + 1) 0 5 = nI 1 by rw [yL_o (by omega) (Or.inl (by omega))]; exact q2]
        simp (disch := omega) only [zl, zm, nI_add, pk_mul, inb_t, ix_n, gd_tt, bd_e, nm_v, ite_not, ↓reduceIte, le_t, le_f, lt_t, lt_f, eq_t, eq_f, mone_f, mone_f2]
        rw [hsk]
      · rw [decide_eq_false hp, Bool.toNat_false] at hcy
        have hsk := yL_skip (Y := Y) (N := N) (n := n) (cc := cc + cY Y N S k) (hS0 (by omega))
        unfold sX8_slot_b222 sX8_slot_b241
        simp (disch := omega) only [zl, zm, nI_add, pk_mul, inb_t, ix_n, gd_tt, bd_e, nm_v, ite_not, ↓reduceIte, le_t, le_f, lt_t, lt_f, eq_t, eq_f, mone_f, mone_f2, hst, hsn, hcy, Nat.add_zero]
        rw [hsk]
    · rw [ho2, Bool.and_true] at hcy
      by_cases hp : 1 < pcN (N k &&& S) n
      · rw [decide_eq_true hp, Bool.toNat_true] at hcy
        have hsk := yL_skip (Y := Y) (N := N) (n := n) (cc := cc + cY Y N S k + 1) (hS0 (by omega))
        unfold sX8_slot_b222 sX8_slot_b241
        simp (disch := omega) only [zl, zm, nI_add, pk_mul, inb_t, ix_n, gd_tt, bd_e, nm_v, ite_not, ↓reduceIte, le_t, le_f, lt_t, lt_f, eq_t, eq_f, mone_f, mone_f2, hst, hsn, h6, yL_c, hcy, ← Nat.add_assoc, not_true_eq_false]
        rw [show gI (yL Y N S n k 0 (cc + cY Y N S k + 1)) (k + 1) 0 5 = nI 2 by rw [yL_o (by omega) (Or.inl (by omega))]; exact q2]
        simp (disch := omega) only [zl, zm, nI_add, pk_mul, inb_t, ix_n, gd_tt, bd_e, nm_v, ite_not, ↓reduceIte, le_t, le_f, lt_t, lt_f, eq_t, eq_f, mone_f, mone_f2]
        rw [hsk]
      · rw [decide_eq_false hp, Bool.toNat_false] at hcy
        have hsk := yL_skip (Y := Y) (N := N) (n := n) (cc := cc + cY Y N S k) (hS0 (by omega))
        unfold sX8_slot_b222 sX8_slot_b241
        simp (disch := omega) only [zl, zm, nI_add, pk_mul, inb_t, ix_n, gd_tt, bd_e, nm_v, ite_not, ↓reduceIte, le_t, le_f, lt_t, lt_f, eq_t, eq_f, mone_f, mone_f2, hst, hsn, hcy, Nat.add_zero, not_true_eq_false]
        rw [hsk]
    · rw [ho3, Bool.and_false, Bool.toNat_false] at hcy
      have hr := y_row (k179 := fun Y' u' a1' a2' => sX8_slot_b179 F n Y' u' a1' a2') (u := u) (a1 := a1) (cc := cc + cY Y N S k) h hn hk (q3.mpr rfl) hN
      unfold sX8_slot_b241
      simp (disch := omega) only [zl, zm, nI_add, pk_mul, inb_t, ix_n, gd_tt, bd_e, nm_v, ite_not, ↓reduceIte, le_t, le_f, lt_t, lt_f, eq_t, eq_f, mone_f, mone_f2, hst, not_false_eq_true, hcy, Nat.add_zero, hr]
    · rw [ho4, Bool.and_false, Bool.toNat_false] at hcy
      have hsk := yL_skip (Y := Y) (N := N) (n := n) (cc := cc + cY Y N S k) (hS0 (by omega))
      unfold sX8_slot_b241
      simp (disch := omega) only [zl, zm, nI_add, pk_mul, inb_t, ix_n, gd_tt, bd_e, nm_v, ite_not, ↓reduceIte, le_t, le_f, lt_t, lt_f, eq_t, eq_f, mone_f, mone_f2, hst, not_false_eq_true, hcy, Nat.add_zero]
      rw [hsk]
theorem yS_0 : yS Y S 0 = Y := Prod.ext (funext fun o => funext fun j => funext fun i => if_neg (by omega)) rfl
theorem yS_s : pI (yS Y S a) 0 3 a (nI (S.testBit a).toNat) = yS Y S (a + 1) := by
  refine Prod.ext (funext fun o => funext fun j => funext fun i => ?_) rfl
  show gI (pI (yS Y S a) 0 3 a _) o j i = gI (yS Y S (a + 1)) o j i
  rw [gI_pI, yS_g, yS_g]
  by_cases h1 : o = 0 ∧ j = 3 ∧ i = a
  · obtain ⟨rfl, rfl, rfl⟩ := h1
    rw [if_pos ⟨rfl, rfl, rfl⟩, if_pos ⟨rfl, rfl, by omega⟩]
  · rw [if_neg h1]
    by_cases h2 : o = 0 ∧ j = 3 ∧ i < a
    · rw [if_pos h2, if_pos (by omega)]
    · rw [if_neg h2, if_neg (by omega)]
theorem y_sents {u : Nat} {a1 : Int32} (h : NS n N S Y) (hn : n ≤ 8) : sX8_slot_b313 FU n Y u a1 (nI 0) = sX8_slot_b365 FU n (yS Y S n) u a1 (nI 0) := by
  conv => lhs; rw [← yS_0 (Y := Y) (S := S)]
  refine fuel_up n (fun F k => sX8_slot_b313 F n (yS Y S k) u a1 (nI k)) _ (fun F => ?_) (fun F k hk => ?_) n 0 FU (by omega) (FU_lt (by omega))
  · simp only [sX8_slot_b313]
    simp (disch := omega) only [zl, zm, nI_add, pk_mul, inb_t, ix_n, gd_tt, bd_e, nm_v, ite_not, ↓reduceIte, le_t, le_f, lt_t, lt_f, eq_t, eq_f, mone_f, mone_f2]
  · simp only [sX8_slot_b313]
    obtain ⟨st, q1, q2, q3⟩ := h.2 k hk
    have hst : gI (yS Y S k) (k + 1) 0 5 = nI st := by rw [yS_g, if_neg (by omega)]; exact q2
    rw [← yS_s (a := k)]
    cases hs : S.testBit k
    · have h3 : ¬ st = 3 := fun z => by rw [q3.mpr z] at hs; cases hs
      simp (disch := omega) only [zl, zm, nI_add, pk_mul, inb_t, ix_n, gd_tt, bd_e, nm_v, ite_not, ↓reduceIte, le_t, le_f, lt_t, lt_f, eq_t, eq_f, mone_f, mone_f2, hst, not_false_eq_true, Bool.toNat_false]
    · have h3 := q3.mp hs
      subst h3
      simp (disch := omega) only [zl, zm, nI_add, pk_mul, inb_t, ix_n, gd_tt, bd_e, nm_v, ite_not, ↓reduceIte, le_t, le_f, lt_t, lt_f, eq_t, eq_f, mone_f, mone_f2, hst, not_true_eq_false, Bool.toNat_true]
end
