/-! stage B: the steps of a script, as they are read -/
theorem wd_run : WDX 5 19118 [114, 117, 110] := ⟨⟨by decide, by decide, by decide⟩, by decide, rfl, by decide +kernel, by decide +kernel⟩
theorem wd_wake : WDX 6 755045 [119, 97, 107, 101] := ⟨⟨by decide, by decide, by decide⟩, by decide, rfl, by decide +kernel, by decide +kernel⟩
theorem wd_charge : WDX 9 109103333 [99, 104, 97, 114, 103, 101] := ⟨⟨by decide, by decide, by decide⟩, by decide, rfl, by decide +kernel, by decide +kernel⟩
theorem wd_far : WDX 11 6194 [102, 97, 114] := ⟨⟨by decide, by decide, by decide⟩, by decide, rfl, by decide +kernel, by decide +kernel⟩
theorem wd_repeat : WDX 12 609752116 [114, 101, 112, 101, 97, 116] := ⟨⟨by decide, by decide, by decide⟩, by decide, rfl, by decide +kernel, by decide +kernel⟩
/-- a step of a script is one that can stand there; the repeats open before and behind it -/
def STV (n i k a b : Nat) (s s' : List Nat) : Prop := (k = 0 → a ≤ 999) ∧ (1 ≤ k → k ≤ 6 → a < n) ∧ (2 ≤ k → k ≤ 4 → b ≤ 999) ∧ (k = 5 ∨ k = 6 → b < n ∧ ¬ b = a) ∧ (k = 7 → 1 ≤ a ∧ a ≤ 20 ∧ s' = i :: s) ∧ (k = 8 → s = a :: s') ∧ (k ≤ 6 → s' = s)
def STP (n i : Nat) (s s' : List Nat) (S m : St) : Prop := ∃ k a b : Nat, gI S 0 1 i = nI k ∧ gI S 0 2 i = nI a ∧ gI S 0 3 i = nI b ∧ gI m 0 10 i = nI k ∧ (¬ k = 8 → gI m 0 11 i = nI a) ∧ (2 ≤ k → k ≤ 6 → gI m 0 12 i = nI b) ∧ k ≤ 8 ∧ STV n i k a b s s'
def SCR (n N : Nat) (stk : Nat → List Nat) (S m : St) : Prop := gI S 0 0 4 = nI N ∧ gI m 0 0 29 = nI N ∧ stk 0 = [] ∧ (∀ i, i ≤ N → (stk i).length ≤ 2) ∧ ∀ i, i < N → STP n i (stk i) (stk (i + 1)) S m
def OPN (S : St) : List Nat → Prop
  | [] => True
  | r :: s => gI S 0 4 s.length = nI r ∧ OPN S s
def PSC (n C N : Nat) (stk : Nat → List Nat) (S m : St) : Prop := SCR n N stk S m ∧ OPN S (stk N) ∧ gI S 0 0 5 = nI C ∧ gI m 0 0 30 = nI C ∧ gI S 0 0 8 = nI (stk N).length ∧ gI m 0 0 31 = nI (stk N).length ∧ C ≤ 30 ∧ N + (stk N).length ≤ 2 * C
/-- the names are the same -/
def XN (n : Nat) (x m : St) : Prop := n ≤ 8 ∧ gI x 0 0 2 = nI n ∧ gI m 0 2 0 = nI n ∧ NWd n x (gL m 0 7)
/-- what the reading of a script leaves -/
def SF (m m' : St) : Prop := (∀ j k, ¬ (j = 0 ∧ (4 ≤ k ∧ k ≤ 9 ∨ 29 ≤ k ∧ k ≤ 31)) → ¬ (10 ≤ j ∧ j ≤ 12) → gI m' 0 j k = gI m 0 j k) ∧ ∀ j k, ¬ (j = 0 ∧ k = 12) → gL m' 0 j k = gL m 0 j k
def SF2 (N : Nat) (m m' : St) : Prop := (∀ j k, ¬ (j = 0 ∧ 4 ≤ k ∧ k ≤ 9) → ¬ ((j = 11 ∨ j = 12) ∧ k = N) → gI m' 0 j k = gI m 0 j k) ∧ ∀ j k, ¬ (j = 0 ∧ k = 12) → gL m' 0 j k = gL m 0 j k
theorem sf_trans {a b c : St} (h : SF a b) (h2 : SF b c) : SF a c := ⟨fun j k p q => (h2.1 j k p q).trans (h.1 j k p q), fun j k p => (h2.2 j k p).trans (h.2 j k p)⟩
theorem LGE.sf {a b : St} (h : LGE a b) : SF a b := ⟨fun j k p _ => h.1 j k (by omega), h.2⟩
theorem LGE.sf2 {N : Nat} {a b : St} (h : LGE a b) : SF2 N a b := ⟨fun j k p _ => h.1 j k p, h.2⟩
theorem sf2_trans {N : Nat} {a b c : St} (h : SF2 N a b) (h2 : SF2 N b c) : SF2 N a c := ⟨fun j k p q => (h2.1 j k p q).trans (h.1 j k p q), fun j k p => (h2.2 j k p).trans (h.2 j k p)⟩
theorem sf2_set {N j : Nat} (hj : j = 11 ∨ j = 12) (m : St) (v : Int32) : SF2 N m (pI m 0 j N v) := ⟨fun j' k p q => by rw [gI_pI, if_neg (by omega)], fun _ _ _ => rfl⟩
theorem XN.cg {n : Nat} {x m m' : St} (h : XN n x m) (e : gI m' 0 2 0 = gI m 0 2 0) (e2 : gL m' 0 7 = gL m 0 7) : XN n x m' := ⟨h.1, h.2.1, e.trans h.2.2.1, by rw [e2]; exact h.2.2.2⟩
theorem XN.sf {n : Nat} {x m m' : St} (h : XN n x m) (e : SF m m') : XN n x m' := h.cg (e.1 2 0 (by omega) (by omega)) (funext fun k => e.2 7 k (by omega))
theorem XN.sf2 {n N : Nat} {x m m' : St} (h : XN n x m) (e : SF2 N m m') : XN n x m' := h.cg (e.1 2 0 (by omega) (by omega)) (funext fun k => e.2 7 k (by omega))
theorem OPN.cg {S S' : St} : ∀ {s : List Nat}, OPN S s → (∀ i, i < s.length → gI S' 0 4 i = gI S 0 4 i) → OPN S' s
  | [], _, _ => trivial
  | r :: s, h, e => ⟨(e s.length (Nat.lt_succ_self _)).trans h.1, OPN.cg h.2 fun i hi => e i (Nat.lt_succ_of_lt hi)⟩
section
variable {B : Nat → Nat} {len c i n N C : Nat} {t m x S : St} {stk : Nat → List Nat}
theorem SCR.cg {S' m' : St} (h : SCR n N stk S m) (e1 : ∀ j i, ¬ j = 0 → j ≤ 3 → gI S' 0 j i = gI S 0 j i) (e2 : gI S' 0 0 4 = gI S 0 0 4) (e3 : gI m' 0 0 29 = gI m 0 0 29) (e4 : ∀ j i, 10 ≤ j → j ≤ 12 → i < N → gI m' 0 j i = gI m 0 j i) : SCR n N stk S' m' := by
  obtain ⟨h1, h2, h3, h4, h5⟩ := h
  refine ⟨e2.trans h1, e3.trans h2, h3, h4, fun i hi => ?_⟩
  obtain ⟨k, a, b, a1, a2, a3, a4, a5, a6, a7, a8⟩ := h5 i hi
  exact ⟨k, a, b, (e1 1 i (by omega) (by omega)).trans a1, (e1 2 i (by omega) (by omega)).trans a2, (e1 3 i (by omega) (by omega)).trans a3, (e4 10 i (by omega) (by omega) hi).trans a4, fun z => (e4 11 i (by omega) (by omega) hi).trans (a5 z), fun y z => (e4 12 i (by omega) (by omega) hi).trans (a6 y z), a7, a8⟩
theorem scr_grow (h : SCR n N stk S m) {k a b : Nat} {s' : List Nat} {S' m' : St} (hv : STV n N k a b (stk N) s') (hl : s'.length ≤ 2) (c1 : ∀ j i, 1 ≤ j → j ≤ 3 → i < N → gI S' 0 j i = gI S 0 j i) (c5 : ∀ j i, 10 ≤ j → j ≤ 12 → i < N → gI m' 0 j i = gI m 0 j i) (c2 : gI S' 0 0 4 = nI (N + 1)) (c3 : gI m' 0 0 29 = nI (N + 1)) (c4 : gI S' 0 1 N = nI k ∧ gI S' 0 2 N = nI a ∧ gI S' 0 3 N = nI b ∧ gI m' 0 10 N = nI k ∧ (¬ k = 8 → gI m' 0 11 N = nI a) ∧ (2 ≤ k → k ≤ 6 → gI m' 0 12 N = nI b) ∧ k ≤ 8) : SCR n (N + 1) (fun i => if i = N + 1 then s' else stk i) S' m' := by
  obtain ⟨h1, h2, h3, h4, h5⟩ := h
  refine ⟨c2, c3, (if_neg (by omega)).trans h3, fun i hi => ?_, fun i hi => ?_⟩
  · show (if i = N + 1 then s' else stk i).length ≤ 2
    by_cases hiN : i = N + 1
    · rw [if_pos hiN]; exact hl
    · rw [if_neg hiN]; exact h4 i (by omega)
  · show STP n i (if i = N + 1 then s' else stk i) (if i + 1 = N + 1 then s' else stk (i + 1)) S' m'
    rw [if_neg (by omega)]
    by_cases hiN : i = N
    · subst hiN
      rw [if_pos rfl]
      obtain ⟨a1, a2, a3, a4, a5, a6, a7⟩ := c4
      exact ⟨k, a, b, a1, a2, a3, a4, a5, a6, a7, hv⟩
    · rw [if_neg (by omega)]
      obtain ⟨k', a', b', a1, a2, a3, a4, a5, a6, a7, a8⟩ := h5 i (by omega)
      exact ⟨k', a', b', (c1 1 i (by omega) (by omega) (by omega)).trans a1, (c1 2 i (by omega) (by omega) (by omega)).trans a2, (c1 3 i (by omega) (by omega) (by omega)).trans a3, (c5 10 i (by omega) (by omega) (by omega)).trans a4, fun z => (c5 11 i (by omega) (by omega) (by omega)).trans (a5 z), fun y z => (c5 12 i (by omega) (by omega) (by omega)).trans (a6 y z), a7, a8⟩
/-- the store of steps with one more -/
def sAdd (S : St) (N : Nat) (a b d : Int32) : St := pI (pI (pI (pI S 0 1 N a) 0 2 N b) 0 3 N d) 0 0 4 (nI (N + 1))
theorem s_add (h : gI S 0 0 4 = nI N) (hN : N < 60) (a b d : Int32) : sX2_add S a b d = some (sAdd S N a b d) := by
  unfold sX2_add sAdd
  simp (disch := omega) only [zl, zm, nI_add, pk_mul, inb_t, ix_n, gd_tt, bd_e, nm_v, ite_not, ↓reduceIte, le_t, le_f, lt_t, lt_f, eq_t, eq_f, mone_f, mone_f2, h, gI_pI, gL_pL, gI_pL, gL_pI, qe, qn, not_true_eq_false, not_false_eq_true, true_and, and_true, false_and, and_false, and_self, Nat.add_right_cancel_iff]
theorem sAdd_o {j k : Nat} (a b d : Int32) (h : ¬ (1 ≤ j ∧ j ≤ 3 ∧ k = N)) (h2 : ¬ (j = 0 ∧ k = 4)) : gI (sAdd S N a b d) 0 j k = gI S 0 j k := by
  unfold sAdd
  rw [gI_pI, if_neg (by omega), gI_pI, if_neg (by omega), gI_pI, if_neg (by omega), gI_pI, if_neg (by omega)]
theorem sAdd_v (a b d : Int32) : gI (sAdd S N a b d) 0 1 N = a ∧ gI (sAdd S N a b d) 0 2 N = b ∧ gI (sAdd S N a b d) 0 3 N = d ∧ gI (sAdd S N a b d) 0 0 4 = nI (N + 1) := by
  unfold sAdd
  refine ⟨?_, ?_, ?_, ?_⟩
  all_goals simp (disch := omega) only [gI_pI, gL_pL, gI_pL, gL_pI, qe, qn, not_true_eq_false, not_false_eq_true, true_and, and_true, false_and, and_false, and_self, Nat.add_right_cancel_iff, ↓reduceIte]
theorem y_isSign (h : YG B len c i t m) : sX7_isSign m (nI 41) = some (nI (decide (yk B len i = 41)).toNat) := by
  have hmk := h.mk
  have hsr := h.srt
  have h60 := h.k60
  unfold sX7_isSign
  by_cases hk : yk B len i = 41
  · have h7 := h.cs (by omega)
    rw [hsr.2.2.2.2.1.mpr (by omega)] at hmk
    rw [hk] at h7
    simp (disch := omega) only [zl, zm, nI_add, pk_mul, inb_t, ix_n, gd_tt, bd_e, nm_v, ite_not, ↓reduceIte, le_t, le_f, lt_t, lt_f, eq_t, eq_f, mone_f, mone_f2, h.m8, hmk, h7, hk, decide_true]; rfl
  · have hd : decide (yk B len i = 41) = false := decide_eq_false hk
    rw [hd]
    by_cases hs3 : lxSrt (yk B len i) = 3
    · have h7 := h.cs (hsr.2.2.2.2.1.mp hs3)
      rw [hs3] at hmk
      simp (disch := omega) only [zl, zm, nI_add, pk_mul, inb_t, ix_n, gd_tt, bd_e, nm_v, ite_not, ↓reduceIte, le_t, le_f, lt_t, lt_f, eq_t, eq_f, mone_f, mone_f2, h.m8, hmk, h7]; rfl
    · simp (disch := omega) only [zl, zm, nI_add, pk_mul, inb_t, ix_n, gd_tt, bd_e, nm_v, ite_not, ↓reduceIte, le_t, le_f, lt_t, lt_f, eq_t, eq_f, mone_f, mone_f2, h.m8, hmk]; rfl
theorem y_kind (h : YG B len c i t m) : (∃ k, k ≤ 7 ∧ yk B len i = 1 ∧ sX2_kindHere t = some (nI k) ∧ sX7_commandHere m = some (nI k)) ∨ (sX2_kindHere t = some mone ∧ sX7_commandHere m = some mone) := by
  have hif0 : ∀ (α : Type) (u v : α), (if nI false.toNat = 0 then u else v) = u := fun α u v => if_pos (by decide)
  have hif1 : ∀ (α : Type) (u v : α), (if nI true.toNat = 0 then u else v) = v := fun α u v => if_neg (by decide)
  unfold sX2_kindHere sX7_commandHere
  obtain ⟨b0, p0, q0, r0⟩ := y_word wd_run h
  rw [p0, q0]
  cases b0 with
  | true =>
    simp only [bd_e, hif1]
    exact Or.inl ⟨0, by omega, (r0.mp rfl).1, rfl, rfl⟩
  | false =>
  simp only [bd_e, hif0]
  obtain ⟨b1, p1, q1, r1⟩ := y_word wd_wake h
  rw [p1, q1]
  cases b1 with
  | true =>
    simp only [bd_e, hif1]
    exact Or.inl ⟨1, by omega, (r1.mp rfl).1, rfl, rfl⟩
  | false =>
  simp only [bd_e, hif0]
  obtain ⟨b2, p2, q2, r2⟩ := y_word wd_every h
  rw [p2, q2]
  cases b2 with
  | true =>
    simp only [bd_e, hif1]
    exact Or.inl ⟨2, by omega, (r2.mp rfl).1, rfl, rfl⟩
  | false =>
  simp only [bd_e, hif0]
  obtain ⟨b3, p3, q3, r3⟩ := y_word wd_at h
  rw [p3, q3]
  cases b3 with
  | true =>
    simp only [bd_e, hif1]
    exact Or.inl ⟨3, by omega, (r3.mp rfl).1, rfl, rfl⟩
  | false =>
  simp only [bd_e, hif0]
  obtain ⟨b4, p4, q4, r4⟩ := y_word wd_charge h
  rw [p4, q4]
  cases b4 with
  | true =>
    simp only [bd_e, hif1]
    exact Or.inl ⟨4, by omega, (r4.mp rfl).1, rfl, rfl⟩
  | false =>
  simp only [bd_e, hif0]
  obtain ⟨b5, p5, q5, r5⟩ := y_word wd_near h
  rw [p5, q5]
  cases b5 with
  | true =>
    simp only [bd_e, hif1]
    exact Or.inl ⟨5, by omega, (r5.mp rfl).1, rfl, rfl⟩
  | false =>
  simp only [bd_e, hif0]
  obtain ⟨b6, p6, q6, r6⟩ := y_word wd_far h
  rw [p6, q6]
  cases b6 with
  | true =>
    simp only [bd_e, hif1]
    exact Or.inl ⟨6, by omega, (r6.mp rfl).1, rfl, rfl⟩
  | false =>
  simp only [bd_e, hif0]
  obtain ⟨b7, p7, q7, r7⟩ := y_word wd_repeat h
  rw [p7, q7]
  cases b7 with
  | true =>
    simp only [bd_e, hif1]
    exact Or.inl ⟨7, by omega, (r7.mp rfl).1, rfl, rfl⟩
  | false =>
  simp only [bd_e, hif0]
  exact Or.inr ⟨rfl, rfl⟩
/-! the numbers of a command -/
theorem rn_0 {m2 : St} {v : Int32} (h : sX7_number m (nI 0) (nI 999) = some (m2, v)) (hN : N < 60) : sX7_readsNumbers m (nI N) (nI 0) = some (pI m2 0 11 N v) := by
  unfold sX7_readsNumbers sX7_readsNumbers_b14 sX7_readsNumbers_b35 sX7_readsNumbers_b55 sX7_readsNumbers_b82 sX7_readsNumbers_b101 sX7_any
  simp (disch := omega) only [zl, zm, nI_add, pk_mul, inb_t, ix_n, gd_tt, bd_e, nm_v, ite_not, ↓reduceIte, le_t, le_f, lt_t, lt_f, eq_t, eq_f, mone_f, mone_f2, h]
theorem rn_1 {m2 : St} {v : Int32} (h : sX7_told m = some (m2, v)) (hN : N < 60) : sX7_readsNumbers m (nI N) (nI 1) = some (pI m2 0 11 N v) := by
  unfold sX7_readsNumbers sX7_readsNumbers_b14 sX7_readsNumbers_b35 sX7_readsNumbers_b55 sX7_readsNumbers_b82 sX7_readsNumbers_b101
  simp (disch := omega) only [zl, zm, nI_add, pk_mul, inb_t, ix_n, gd_tt, bd_e, nm_v, ite_not, ↓reduceIte, le_t, le_f, lt_t, lt_f, eq_t, eq_f, mone_f, mone_f2, h]
theorem rn_4 {m2 m3 : St} {v u : Int32} {k : Nat} (hk : k = 2 ∨ k = 3 ∨ k = 4) (h : sX7_told m = some (m2, v)) (h2 : sX7_number (pI m2 0 11 N v) (nI 0) (nI 999) = some (m3, u)) (hN : N < 60) : sX7_readsNumbers m (nI N) (nI k) = some (pI m3 0 12 N u) := by
  unfold sX7_readsNumbers sX7_readsNumbers_b14 sX7_readsNumbers_b35 sX7_readsNumbers_b55 sX7_readsNumbers_b82 sX7_readsNumbers_b101 sX7_any
  rcases hk with rfl | rfl | rfl <;> simp (disch := omega) only [zl, zm, nI_add, pk_mul, inb_t, ix_n, gd_tt, bd_e, nm_v, ite_not, ↓reduceIte, le_t, le_f, lt_t, lt_f, eq_t, eq_f, mone_f, mone_f2, h, h2]
theorem rn_6 {m2 m3 : St} {v u : Int32} {k : Nat} (hk : k = 5 ∨ k = 6) (h : sX7_told m = some (m2, v)) (h2 : sX7_otherTold (pI m2 0 11 N v) v = some (m3, u)) (hN : N < 60) : sX7_readsNumbers m (nI N) (nI k) = some (pI m3 0 12 N u) := by
  have e : gI (pI m2 0 11 N v) 0 11 N = v := by rw [gI_pI, if_pos ⟨rfl, rfl, rfl⟩]
  unfold sX7_readsNumbers sX7_readsNumbers_b14 sX7_readsNumbers_b35 sX7_readsNumbers_b55 sX7_readsNumbers_b66 sX7_readsNumbers_b82 sX7_readsNumbers_b101
  rcases hk with rfl | rfl <;> simp (disch := omega) only [zl, zm, nI_add, pk_mul, inb_t, ix_n, gd_tt, bd_e, nm_v, ite_not, ↓reduceIte, le_t, le_f, lt_t, lt_f, eq_t, eq_f, mone_f, mone_f2, h, e, h2]
theorem rn_7 {m2 m3 : St} {v : Int32} (h : sX7_number m (nI 1) (nI 20) = some (m2, v)) (h2 : sX7_mustSign (pI m2 0 11 N v) (nI 40) = some m3) (hN : N < 60) : sX7_readsNumbers m (nI N) (nI 7) = some m3 := by
  unfold sX7_readsNumbers sX7_readsNumbers_b14 sX7_readsNumbers_b35 sX7_readsNumbers_b55 sX7_readsNumbers_b82 sX7_readsNumbers_b101
  simp (disch := omega) only [zl, zm, nI_add, pk_mul, inb_t, ix_n, gd_tt, bd_e, nm_v, ite_not, ↓reduceIte, le_t, le_f, lt_t, lt_f, eq_t, eq_f, mone_f, mone_f2, h, h2]
/-- another beacon's name -/
theorem y_other (h : YG B len c i t m) (hx : XN n x m) {k0 : Nat} (hk0 : k0 < n) : (∃ k t' m', k < n ∧ ¬ k = k0 ∧ sX2_readBehindName_b30 x t (nI k0) = some (t', nI k) ∧ sX7_otherTold m (nI k0) = some (m', nI k) ∧ YG B len c (i + 1) t' m' ∧ LGE m m') ∨ (∃ t' m', sX2_readBehindName_b30 x t (nI k0) = some (t', mone) ∧ sX7_otherTold m (nI k0) = some (m', mone) ∧ YB t' m' ∧ LGE m m') := by
  obtain ⟨x1, x2, x3, x4⟩ := hx
  have hgd := h.good
  unfold sX2_readBehindName_b30 sX7_otherTold sX7_otherTold_b24
  rcases y_told h x1 x2 x3 x4 with ⟨k, t', m', k1, k2, k3, k4, k5, k6, k7, k8, k9, k10⟩ | ⟨t', m', k1, k2, k3, k4, k5⟩
  · by_cases hk : k = k0
    · subst hk
      right
      obtain ⟨t', m', e1, e2, e3, e4⟩ := y_fail h (show 1 ≤ 3 by omega) (by omega) (fun z => absurd z (by omega))
      refine ⟨t', m', ?_, ?_, e3, e4⟩
      · simp (disch := omega) only [zl, zm, nI_add, pk_mul, inb_t, ix_n, gd_tt, bd_e, nm_v, ite_not, ↓reduceIte, le_t, le_f, lt_t, lt_f, eq_t, eq_f, mone_f, mone_f2, k3, e1]
      · simp (disch := omega) only [zl, zm, nI_add, pk_mul, inb_t, ix_n, gd_tt, bd_e, nm_v, ite_not, ↓reduceIte, le_t, le_f, lt_t, lt_f, eq_t, eq_f, mone_f, mone_f2, k6, hgd, k5, e2, b_told e3.bad]
    · left
      refine ⟨k, t', m', k1, hk, ?_, ?_, k9, k10⟩
      · simp (disch := omega) only [zl, zm, nI_add, pk_mul, inb_t, ix_n, gd_tt, bd_e, nm_v, ite_not, ↓reduceIte, le_t, le_f, lt_t, lt_f, eq_t, eq_f, mone_f, mone_f2, k3, k4]
      · simp (disch := omega) only [zl, zm, nI_add, pk_mul, inb_t, ix_n, gd_tt, bd_e, nm_v, ite_not, ↓reduceIte, le_t, le_f, lt_t, lt_f, eq_t, eq_f, mone_f, mone_f2, k6, hgd, k5, k8]
  · right
    refine ⟨t', m', ?_, ?_, k3, k4⟩
    · simp (disch := omega) only [zl, zm, nI_add, pk_mul, inb_t, ix_n, gd_tt, bd_e, nm_v, ite_not, ↓reduceIte, le_t, le_f, lt_t, lt_f, eq_t, eq_f, mone_f, mone_f2, k1]
    · rcases k5 with ⟨z1, z2⟩ | ⟨z0, z1, z2, z3⟩
      · simp (disch := omega) only [zl, zm, nI_add, pk_mul, inb_t, ix_n, gd_tt, bd_e, nm_v, ite_not, ↓reduceIte, le_t, le_f, lt_t, lt_f, eq_t, eq_f, mone_f, mone_f2, z1, b_good k3.bad, b_told k3.bad]
      · simp (disch := omega) only [zl, zm, nI_add, pk_mul, inb_t, ix_n, gd_tt, bd_e, nm_v, ite_not, ↓reduceIte, le_t, le_f, lt_t, lt_f, eq_t, eq_f, mone_f, mone_f2, z1, hgd, z2, k2]
end
