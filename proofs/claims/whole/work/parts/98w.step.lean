/-! stage B: a step of a script is read -/
/-- a command of the model, with its sign unless it opens -/
def mStep (m : St) : Option St := bd (sX7_command m) fun q => if ¬ gI q 0 0 31 = gI m 0 0 31 then some q else sX7_mustSign q (nI 59)
section
variable {B : Nat → Nat} {len c i n N C : Nat} {t m x S : St} {stk : Nat → List Nat}
theorem YG.set {j : Nat} (h : YG B len c i t m) (hj : 10 ≤ j) (k : Nat) (v : Int32) : YG B len c i t (pI m 0 j k v) := h.cg2 (fun _ _ _ => by rw [gI_pI, if_neg (by omega)]) (fun _ => by rw [gI_pI, if_neg (by omega)]) rfl
theorem YG.fld {k : Nat} (h : YG B len c i t m) (hk : 10 ≤ k) (v : Int32) : YG B len c i t (pI m 0 0 k v) := h.cg2 (fun _ _ _ => by rw [gI_pI, if_neg (by omega)]) (fun _ => by rw [gI_pI, if_neg (by omega)]) rfl
theorem YB.set {j : Nat} (h : YB t m) (hj : 10 ≤ j) (k : Nat) (v : Int32) : YB t (pI m 0 j k v) := h.cg (by rw [gI_pI, if_neg (by omega)]) (by rw [gI_pI, if_neg (by omega)])
theorem b_other (h : BMD m) (v : Int32) : sX7_otherTold m v = some (m, mone) := by
  unfold sX7_otherTold sX7_otherTold_b24
  simp (disch := omega) only [zl, zm, nI_add, pk_mul, inb_t, ix_n, gd_tt, bd_e, nm_v, ite_not, ↓reduceIte, le_t, le_f, lt_t, lt_f, eq_t, eq_f, mone_f, mone_f2, b_mustBe h, b_good h, b_told h]
theorem b_b34 (h : BMD m) (a : Int32) : sX7_command_b34 m a = some m := by
  have h48 : sX7_command_b48 m a = some m := by
    unfold sX7_command_b48
    simp (disch := omega) only [zl, zm, nI_add, pk_mul, inb_t, ix_n, gd_tt, bd_e, nm_v, ite_not, ↓reduceIte, le_t, le_f, lt_t, lt_f, eq_t, eq_f, mone_f, mone_f2, b_good h]
  unfold sX7_command_b34
  by_cases e : gI m 0 0 30 = (30 : Int32)
  · rw [if_neg (fun z => z e), b_wrong h, bd_e, h48]
  · rw [if_pos e, h48]
theorem b_b15 (h : BMD m) (a : Int32) : sX7_command_b15 m a = some m := by
  unfold sX7_command_b15
  by_cases e : a = (7 : Int32)
  · rw [if_neg (fun z => z e)]
    by_cases e2 : gI m 0 0 31 = (2 : Int32)
    · rw [if_neg (fun z => z e2), b_wrong h, bd_e, b_b34 h]
    · rw [if_pos e2, b_b34 h]
  · rw [if_pos e, b_b34 h]
theorem mstep_bad {q : St} (h : sX7_command m = some q) (hb : BMD q) (e : gI q 0 0 31 = gI m 0 0 31) : mStep m = some q := by
  unfold mStep
  rw [h, bd_e, if_neg (fun z => z e), b_mustSign hb]
/-- what stands behind a command's word -/
theorem y_nums (h : YG B len c i t m) (hx : XN n x m) (hS : gI S 0 0 4 = nI N) (hN : N < 60) {k : Nat} (hk : k ≤ 6) : (∃ a b t' m' i', sX2_readCommand x t S (nI k) = some (t', sAdd S N (nI k) (nI a) (nI b), nI 1) ∧ sX7_readsNumbers m (nI N) (nI k) = some m' ∧ i ≤ i' ∧ YG B len c i' t' m' ∧ ((k = 0 → a ≤ 999) ∧ (1 ≤ k → a < n) ∧ (2 ≤ k → k ≤ 4 → b ≤ 999) ∧ (k = 5 ∨ k = 6 → b < n ∧ ¬ b = a)) ∧ gI m' 0 11 N = nI a ∧ (2 ≤ k → gI m' 0 12 N = nI b) ∧ SF2 N m m') ∨ (∃ t' S' m', sX2_readCommand x t S (nI k) = some (t', S', nI 0) ∧ sX7_readsNumbers m (nI N) (nI k) = some m' ∧ YB t' m' ∧ SF2 N m m') := by
  have hadd := fun a b d => s_add (S := S) hS hN a b d
  rcases (by omega : k = 0 ∨ k = 1 ∨ (k = 2 ∨ k = 3 ∨ k = 4) ∨ k = 5 ∨ k = 6) with rfl | rfl | h24 | h56
  · rcases y_number h (lo := 0) (hi := 999) (by omega) (by omega) with ⟨s, t', m', s1, s2, s3, e1, e2, e3, e4⟩ | ⟨t', m', v, e1, e2, e3, e4⟩
    · left
      refine ⟨s, 0, t', pI m' 0 11 N (nI s), i + 1, ?_, rn_0 e2 hN, by omega, e3.set (by omega) _ _, ⟨fun _ => s3, fun z => absurd z (by omega), fun z => absurd z (by omega), fun z => absurd z (by omega)⟩, by rw [gI_pI, if_pos ⟨rfl, rfl, rfl⟩], fun z => absurd z (by omega), sf2_trans e4.sf2 (sf2_set (Or.inl rfl) _ _)⟩
      unfold sX2_readCommand
      simp (disch := omega) only [zl, zm, nI_add, pk_mul, inb_t, ix_n, gd_tt, bd_e, nm_v, ite_not, ↓reduceIte, le_t, le_f, lt_t, lt_f, eq_t, eq_f, mone_f, mone_f2, e1, hadd]
    · right
      refine ⟨t', sAdd S N (nI 0) mone (nI 0), pI m' 0 11 N v, ?_, rn_0 e2 hN, e3.set (by omega) _ _, sf2_trans e4.sf2 (sf2_set (Or.inl rfl) _ _)⟩
      unfold sX2_readCommand
      simp (disch := omega) only [zl, zm, nI_add, pk_mul, inb_t, ix_n, gd_tt, bd_e, nm_v, ite_not, ↓reduceIte, le_t, le_f, lt_t, lt_f, eq_t, eq_f, mone_f, mone_f2, e1, hadd]
  · obtain ⟨x1, x2, x3, x4⟩ := hx
    rcases y_told h x1 x2 x3 x4 with ⟨k, t', m', k1, k2, k3, k4, k5, k6, k7, k8, k9, k10⟩ | ⟨t', m', k1, k2, k3, k4, k5⟩
    · left
      refine ⟨k, 0, t', pI m' 0 11 N (nI k), i + 1, ?_, rn_1 k8 hN, by omega, k9.set (by omega) _ _, ⟨fun z => absurd z (by omega), fun _ => k1, fun z => absurd z (by omega), fun z => absurd z (by omega)⟩, by rw [gI_pI, if_pos ⟨rfl, rfl, rfl⟩], fun z => absurd z (by omega), sf2_trans k10.sf2 (sf2_set (Or.inl rfl) _ _)⟩
      unfold sX2_readCommand sX2_readBehindName
      simp (disch := omega) only [zl, zm, nI_add, pk_mul, inb_t, ix_n, gd_tt, bd_e, nm_v, ite_not, ↓reduceIte, le_t, le_f, lt_t, lt_f, eq_t, eq_f, mone_f, mone_f2, k3, k4, hadd]
    · right
      refine ⟨t', S, pI m' 0 11 N mone, ?_, rn_1 k2 hN, k3.set (by omega) _ _, sf2_trans k4.sf2 (sf2_set (Or.inl rfl) _ _)⟩
      unfold sX2_readCommand
      simp (disch := omega) only [zl, zm, nI_add, pk_mul, inb_t, ix_n, gd_tt, bd_e, nm_v, ite_not, ↓reduceIte, le_t, le_f, lt_t, lt_f, eq_t, eq_f, mone_f, mone_f2, k1]
  · have hx0 := hx
    obtain ⟨x1, x2, x3, x4⟩ := hx
    rcases y_told h x1 x2 x3 x4 with ⟨k', t', m', k1, k2, k3, k4, k5, k6, k7, k8, k9, k10⟩ | ⟨t', m', k1, k2, k3, k4, k5⟩
    · rcases y_number (k9.set (j := 11) (by omega) N (nI k')) (lo := 0) (hi := 999) (by omega) (by omega) with ⟨s, t2, m2, s1, s2, s3, e1, e2, e3, e4⟩ | ⟨t2, m2, v, e1, e2, e3, e4⟩
      · left
        refine ⟨k', s, t2, pI m2 0 12 N (nI s), i + 1 + 1, ?_, rn_4 h24 k8 e2 hN, by omega, e3.set (by omega) _ _, ⟨fun z => absurd z (by omega), fun _ => k1, fun _ _ => s3, fun z => absurd z (by omega)⟩, ?_, fun _ => by rw [gI_pI, if_pos ⟨rfl, rfl, rfl⟩], sf2_trans k10.sf2 (sf2_trans (sf2_set (Or.inl rfl) _ _) (sf2_trans e4.sf2 (sf2_set (Or.inr rfl) _ _)))⟩
        · unfold sX2_readCommand sX2_readBehindName
          rcases h24 with rfl | rfl | rfl <;> simp (disch := omega) only [zl, zm, nI_add, pk_mul, inb_t, ix_n, gd_tt, bd_e, nm_v, ite_not, ↓reduceIte, le_t, le_f, lt_t, lt_f, eq_t, eq_f, mone_f, mone_f2, k3, k4, e1, hadd]
        · rw [gI_pI, if_neg (by omega), e4.1 11 N (by omega), gI_pI, if_pos ⟨rfl, rfl, rfl⟩]
      · right
        refine ⟨t2, sAdd S N (nI k) (nI k') mone, pI m2 0 12 N v, ?_, rn_4 h24 k8 e2 hN, e3.set (by omega) _ _, sf2_trans k10.sf2 (sf2_trans (sf2_set (Or.inl rfl) _ _) (sf2_trans e4.sf2 (sf2_set (Or.inr rfl) _ _)))⟩
        unfold sX2_readCommand sX2_readBehindName
        rcases h24 with rfl | rfl | rfl <;> simp (disch := omega) only [zl, zm, nI_add, pk_mul, inb_t, ix_n, gd_tt, bd_e, nm_v, ite_not, ↓reduceIte, le_t, le_f, lt_t, lt_f, eq_t, eq_f, mone_f, mone_f2, k3, k4, e1, hadd]
    · right
      have hb := k3.set (j := 11) (by omega) N mone
      refine ⟨t', S, pI (pI m' 0 11 N mone) 0 12 N (gI (pI m' 0 11 N mone) 0 0 7), ?_, rn_4 h24 k2 (b_number hb.bad _ _) hN, hb.set (by omega) _ _, sf2_trans k4.sf2 (sf2_trans (sf2_set (Or.inl rfl) _ _) (sf2_set (Or.inr rfl) _ _))⟩
      unfold sX2_readCommand
      rcases h24 with rfl | rfl | rfl <;> simp (disch := omega) only [zl, zm, nI_add, pk_mul, inb_t, ix_n, gd_tt, bd_e, nm_v, ite_not, ↓reduceIte, le_t, le_f, lt_t, lt_f, eq_t, eq_f, mone_f, mone_f2, k1]
  · have hx0 := hx
    obtain ⟨x1, x2, x3, x4⟩ := hx
    rcases y_told h x1 x2 x3 x4 with ⟨k', t', m', k1, k2, k3, k4, k5, k6, k7, k8, k9, k10⟩ | ⟨t', m', k1, k2, k3, k4, k5⟩
    · have hf : SF2 N m (pI m' 0 11 N (nI k')) := sf2_trans k10.sf2 (sf2_set (Or.inl rfl) _ _)
      rcases y_other (k9.set (j := 11) (by omega) N (nI k')) (hx0.sf2 hf) k1 with ⟨s, t2, m2, s1, s2, e1, e2, e3, e4⟩ | ⟨t2, m2, e1, e2, e3, e4⟩
      · left
        refine ⟨k', s, t2, pI m2 0 12 N (nI s), i + 1 + 1, ?_, rn_6 h56 k8 e2 hN, by omega, e3.set (by omega) _ _, ⟨fun z => absurd z (by omega), fun _ => k1, fun z z2 => absurd z2 (by omega), fun _ => ⟨s1, s2⟩⟩, ?_, fun _ => by rw [gI_pI, if_pos ⟨rfl, rfl, rfl⟩], sf2_trans hf (sf2_trans e4.sf2 (sf2_set (Or.inr rfl) _ _))⟩
        · unfold sX2_readCommand sX2_readBehindName
          rcases h56 with rfl | rfl <;> simp (disch := omega) only [zl, zm, nI_add, pk_mul, inb_t, ix_n, gd_tt, bd_e, nm_v, ite_not, ↓reduceIte, le_t, le_f, lt_t, lt_f, eq_t, eq_f, mone_f, mone_f2, k3, k4, e1, hadd]
        · rw [gI_pI, if_neg (by omega), e4.1 11 N (by omega), gI_pI, if_pos ⟨rfl, rfl, rfl⟩]
      · right
        refine ⟨t2, sAdd S N (nI k) (nI k') mone, pI m2 0 12 N mone, ?_, rn_6 h56 k8 e2 hN, e3.set (by omega) _ _, sf2_trans hf (sf2_trans e4.sf2 (sf2_set (Or.inr rfl) _ _))⟩
        unfold sX2_readCommand sX2_readBehindName
        rcases h56 with rfl | rfl <;> simp (disch := omega) only [zl, zm, nI_add, pk_mul, inb_t, ix_n, gd_tt, bd_e, nm_v, ite_not, ↓reduceIte, le_t, le_f, lt_t, lt_f, eq_t, eq_f, mone_f, mone_f2, k3, k4, e1, hadd]
    · right
      have hb := k3.set (j := 11) (by omega) N mone
      refine ⟨t', S, pI (pI m' 0 11 N mone) 0 12 N mone, ?_, rn_6 h56 k2 (b_other hb.bad _) hN, hb.set (by omega) _ _, sf2_trans k4.sf2 (sf2_trans (sf2_set (Or.inl rfl) _ _) (sf2_set (Or.inr rfl) _ _))⟩
      unfold sX2_readCommand
      rcases h56 with rfl | rfl <;> simp (disch := omega) only [zl, zm, nI_add, pk_mul, inb_t, ix_n, gd_tt, bd_e, nm_v, ite_not, ↓reduceIte, le_t, le_f, lt_t, lt_f, eq_t, eq_f, mone_f, mone_f2, k1]
theorem sc_pre (h : YG B len c i t m) (hp : PSC n C N stk S m) (hk : yk B len i = 1) (k : Nat) : ∃ t1 m1, sX4_advance t = some t1 ∧ sX7_goOn (pI m 0 0 30 (nI (C + 1))) = some m1 ∧ gI m1 0 0 29 = nI N ∧ YG B len c (i + 1) t1 (pI m1 0 10 N (nI k)) ∧ gI (pI m1 0 10 N (nI k)) 0 0 30 = nI (C + 1) ∧ (∀ j k', ¬ (j = 0 ∧ (4 ≤ k' ∧ k' ≤ 9 ∨ k' = 30)) → ¬ (j = 10 ∧ k' = N) → gI (pI m1 0 10 N (nI k)) 0 j k' = gI m 0 j k') ∧ (∀ j k', ¬ (j = 0 ∧ k' = 12) → gL (pI m1 0 10 N (nI k)) 0 j k' = gL m 0 j k') ∧ gI (pI m1 0 10 N (nI k)) 0 10 N = nI k := by
  obtain ⟨hsc, hop, p5, p30, p8, p31, hC, hNC⟩ := hp
  obtain ⟨t1, m1, e1, e2, e3, e4⟩ := y_next (h.fld (k := 30) (by omega) (nI (C + 1))) (by omega)
  refine ⟨t1, m1, e1, e2, ?_, e3.set (by omega) _ _, ?_, fun j k' h1 h2 => ?_, fun j k' h1 => ?_, by rw [gI_pI, if_pos ⟨rfl, rfl, rfl⟩]⟩
  · rw [e4.1 0 29 (by omega), gI_pI, if_neg (by omega)]; exact hsc.2.1
  · rw [gI_pI, if_neg (by omega), e4.1 0 30 (by omega), gI_pI, if_pos ⟨rfl, rfl, rfl⟩]
  · rw [gI_pI, if_neg (by omega), e4.1 j k' (by omega), gI_pI, if_neg (by omega)]
  · rw [gL_pI, e4.2 j k' h1, gL_pI]
/-- a command that doesn't open -/
theorem sc_six (h : YG B len c i t m) (hx : XN n x m) (hp : PSC n C N stk S m) (hC : C < 30) (hk1 : yk B len i = 1) {k : Nat} (hk : k ≤ 6) : (∃ t' S' m' C' N' stk' i', sX2_readStep_b66 x t S (nI k) = some (t', S', nI 1) ∧ (sX7_command m = sX7_command_b48 m (nI k) → mStep m = some m') ∧ i < i' ∧ YG B len c i' t' m' ∧ PSC n C' N' stk' S' m' ∧ SF m m') ∨ (∃ t' S' m', sX2_readStep_b66 x t S (nI k) = some (t', S', nI 0) ∧ (sX7_command m = sX7_command_b48 m (nI k) → mStep m = some m') ∧ YB t' m' ∧ SF m m') := by
  have hp0 := hp
  obtain ⟨hsc, hop, p5, p30, p8, p31, _, hNC⟩ := hp
  have hl := hsc.2.2.2.1 N (Nat.le_refl _)
  have hN : N < 60 := by omega
  obtain ⟨t1, m1, a1, a2, a3, a4, a5, a6, a7, a8⟩ := sc_pre h hp0 hk1 k
  have hS : gI (pI S 0 0 5 (nI (C + 1))) 0 0 4 = nI N := by rw [gI_pI, if_neg (by omega)]; exact hsc.1
  have hx2 : XN n x (pI m1 0 10 N (nI k)) := hx.cg (a6 2 0 (by omega) (by omega)) (funext fun k' => a7 7 k' (by omega))
  have hk7 : ¬ k = 7 := by omega
  unfold sX2_readStep_b66
  rcases y_nums a4 hx2 hS hN hk with ⟨a, b, t3, m3, i3, g1, g2, g3, g4, g5, g6, g7, g8⟩ | ⟨t3, S3, m3, g1, g2, g3, g4⟩
  · have f31 : gI (pI m3 0 0 29 (nI (N + 1))) 0 0 31 = nI (stk N).length := by rw [gI_pI, if_neg (by omega), g8.1 0 31 (by omega) (by omega), a6 0 31 (by omega) (by omega)]; exact p31
    have f29 : gI m3 0 0 29 = nI N := by rw [g8.1 0 29 (by omega) (by omega), gI_pI, if_neg (by omega)]; exact a3
    have hq : sX7_command_b48 m (nI k) = some (pI (pI m3 0 0 29 (nI (N + 1))) 0 0 31 (nI (stk N).length)) := by
      unfold sX7_command_b48 sX7_command_b122 sX7_truth
      simp (disch := omega) only [zl, zm, nI_add, pk_mul, inb_t, ix_n, gd_tt, bd_e, nm_v, ite_not, ↓reduceIte, le_t, le_f, lt_t, lt_f, eq_t, eq_f, mone_f, mone_f2, h.good, p30, a2, a3, g2, g4.good, f29, f31, Nat.add_zero]
    have hYq : YG B len c i3 t3 (pI (pI m3 0 0 29 (nI (N + 1))) 0 0 31 (nI (stk N).length)) := (g4.fld (by omega) _).fld (by omega) _
    have hqf : ∀ j k', ¬ (j = 0 ∧ (4 ≤ k' ∧ k' ≤ 9 ∨ 29 ≤ k' ∧ k' ≤ 31)) → ¬ ((j = 10 ∨ j = 11 ∨ j = 12) ∧ k' = N) → gI (pI (pI m3 0 0 29 (nI (N + 1))) 0 0 31 (nI (stk N).length)) 0 j k' = gI m 0 j k' := fun j k' h1 h2 => by
      rw [gI_pI, if_neg (by omega), gI_pI, if_neg (by omega), g8.1 j k' (by omega) (by omega), a6 j k' (by omega) (by omega)]
    have hqL : ∀ j k', ¬ (j = 0 ∧ k' = 12) → gL (pI (pI m3 0 0 29 (nI (N + 1))) 0 0 31 (nI (stk N).length)) 0 j k' = gL m 0 j k' := fun j k' h1 => by
      rw [gL_pI, gL_pI, g8.2 j k' h1, a7 j k' h1]
    have q29 : gI (pI (pI m3 0 0 29 (nI (N + 1))) 0 0 31 (nI (stk N).length)) 0 0 29 = nI (N + 1) := by simp (disch := omega) only [gI_pI, gL_pL, gI_pL, gL_pI, qe, qn, not_true_eq_false, not_false_eq_true, true_and, and_true, false_and, and_false, and_self, Nat.add_right_cancel_iff, ↓reduceIte]
    have q31 : gI (pI (pI m3 0 0 29 (nI (N + 1))) 0 0 31 (nI (stk N).length)) 0 0 31 = nI (stk N).length := by simp (disch := omega) only [gI_pI, gL_pL, gI_pL, gL_pI, qe, qn, not_true_eq_false, not_false_eq_true, true_and, and_true, false_and, and_false, and_self, Nat.add_right_cancel_iff, ↓reduceIte]
    have q30 : gI (pI (pI m3 0 0 29 (nI (N + 1))) 0 0 31 (nI (stk N).length)) 0 0 30 = nI (C + 1) := by
      rw [gI_pI, if_neg (by omega), gI_pI, if_neg (by omega), g8.1 0 30 (by omega) (by omega)]; exact a5
    have q10 : gI (pI (pI m3 0 0 29 (nI (N + 1))) 0 0 31 (nI (stk N).length)) 0 10 N = nI k := by
      rw [gI_pI, if_neg (by omega), gI_pI, if_neg (by omega), g8.1 10 N (by omega) (by omega)]; exact a8
    have q11 : gI (pI (pI m3 0 0 29 (nI (N + 1))) 0 0 31 (nI (stk N).length)) 0 11 N = nI a := by
      rw [gI_pI, if_neg (by omega), gI_pI, if_neg (by omega)]; exact g6
    have q12 : 2 ≤ k → gI (pI (pI m3 0 0 29 (nI (N + 1))) 0 0 31 (nI (stk N).length)) 0 12 N = nI b := fun z => by
      rw [gI_pI, if_neg (by omega), gI_pI, if_neg (by omega)]; exact g7 z
    generalize pI (pI m3 0 0 29 (nI (N + 1))) 0 0 31 (nI (stk N).length) = Q at *
    obtain ⟨bb, t4, m4, s1, s2, s3, s4, s5⟩ := y_sign hYq (s := 59) (Or.inl rfl)
    have hms : sX7_command m = sX7_command_b48 m (nI k) → mStep m = some m4 := fun z => by
      unfold mStep
      rw [z, hq, bd_e, q31, p31, if_neg (fun z => z rfl), s2]
    have hsf : SF m m4 := ⟨fun j k' h1 h2 => by rw [s3.1 j k' (by omega), hqf j k' h1 (by omega)], fun j k' h1 => by rw [s3.2 j k' h1, hqL j k' h1]⟩
    cases bb with
    | true =>
      left
      obtain ⟨v1, v2, v3, v4⟩ := sAdd_v (S := pI S 0 0 5 (nI (C + 1))) (N := N) (nI k) (nI a) (nI b)
      have hst : (if N + 1 = N + 1 then stk N else stk (N + 1)) = stk N := if_pos rfl
      refine ⟨t4, sAdd (pI S 0 0 5 (nI (C + 1))) N (nI k) (nI a) (nI b), m4, C + 1, N + 1, fun i => if i = N + 1 then stk N else stk i, i3 + 1, ?_, hms, by omega, (s4 rfl).2, ⟨?_, ?_, ?_, ?_, ?_, ?_, by omega, ?_⟩, hsf⟩
      · simp (disch := omega) only [zl, zm, nI_add, pk_mul, inb_t, ix_n, gd_tt, bd_e, nm_v, ite_not, ↓reduceIte, le_t, le_f, lt_t, lt_f, eq_t, eq_f, mone_f, mone_f2, p5, a1, g1, s1, Bool.toNat_true]
      · refine scr_grow (k := k) (a := a) (b := b) hsc ⟨g5.1, fun z _ => g5.2.1 z, g5.2.2.1, g5.2.2.2, fun z => absurd z (by omega), fun z => absurd z (by omega), fun _ => rfl⟩ hl (fun j i h1 h2 h3 => ?_) (fun j i h1 h2 h3 => ?_) v4 ?_ ⟨v1, v2, v3, ?_, fun _ => ?_, fun z _ => ?_, by omega⟩
        · rw [sAdd_o _ _ _ (by omega) (by omega), gI_pI, if_neg (by omega)]
        · rw [s3.1 j i (by omega), hqf j i (by omega) (by omega)]
        · rw [s3.1 0 29 (by omega)]; exact q29
        · rw [s3.1 10 N (by omega)]; exact q10
        · rw [s3.1 11 N (by omega)]; exact q11
        · rw [s3.1 12 N (by omega)]; exact q12 z
      · show OPN _ (if N + 1 = N + 1 then stk N else stk (N + 1))
        rw [hst]
        exact hop.cg fun i hi => by rw [sAdd_o _ _ _ (by omega) (by omega), gI_pI, if_neg (by omega)]
      · rw [sAdd_o _ _ _ (by omega) (by omega), gI_pI, if_pos ⟨rfl, rfl, rfl⟩]
      · rw [s3.1 0 30 (by omega)]; exact q30
      · show _ = nI (if N + 1 = N + 1 then stk N else stk (N + 1)).length
        rw [hst, sAdd_o _ _ _ (by omega) (by omega), gI_pI, if_neg (by omega)]; exact p8
      · show _ = nI (if N + 1 = N + 1 then stk N else stk (N + 1)).length
        rw [hst, s3.1 0 31 (by omega)]; exact q31
      · show N + 1 + (if N + 1 = N + 1 then stk N else stk (N + 1)).length ≤ 2 * (C + 1)
        rw [hst]; omega
    | false =>
      right
      refine ⟨t4, sAdd (pI S 0 0 5 (nI (C + 1))) N (nI k) (nI a) (nI b), m4, ?_, hms, s5 rfl, hsf⟩
      simp (disch := omega) only [zl, zm, nI_add, pk_mul, inb_t, ix_n, gd_tt, bd_e, nm_v, ite_not, ↓reduceIte, le_t, le_f, lt_t, lt_f, eq_t, eq_f, mone_f, mone_f2, p5, a1, g1, s1, Bool.toNat_false]
  · right
    refine ⟨t3, S3, m3, ?_, fun z => ?_, g3, ⟨fun j k' h1 h2 => by rw [g4.1 j k' (by omega) (by omega), a6 j k' (by omega) (by omega)], fun j k' h1 => by rw [g4.2 j k' h1, a7 j k' h1]⟩⟩
    · simp (disch := omega) only [zl, zm, nI_add, pk_mul, inb_t, ix_n, gd_tt, bd_e, nm_v, ite_not, ↓reduceIte, le_t, le_f, lt_t, lt_f, eq_t, eq_f, mone_f, mone_f2, p5, a1, g1]
    · refine mstep_bad (z.trans ?_) g3.bad (by rw [g4.1 0 31 (by omega) (by omega), a6 0 31 (by omega) (by omega)])
      unfold sX7_command_b48
      simp (disch := omega) only [zl, zm, nI_add, pk_mul, inb_t, ix_n, gd_tt, bd_e, nm_v, ite_not, ↓reduceIte, le_t, le_f, lt_t, lt_f, eq_t, eq_f, mone_f, mone_f2, h.good, p30, a2, a3, g2, b_good g3.bad]
/-- a command that opens -/
theorem sc_rep (h : YG B len c i t m) (hp : PSC n C N stk S m) (hC : C < 30) (hk1 : yk B len i = 1) (hl2 : (stk N).length < 2) : (∃ t' S' m' C' N' stk' i', sX2_readStep_b66 x t S (nI 7) = some (t', S', nI 1) ∧ (sX7_command m = sX7_command_b48 m (nI 7) → mStep m = some m') ∧ i < i' ∧ YG B len c i' t' m' ∧ PSC n C' N' stk' S' m' ∧ SF m m') ∨ (∃ t' S' m', sX2_readStep_b66 x t S (nI 7) = some (t', S', nI 0) ∧ (sX7_command m = sX7_command_b48 m (nI 7) → mStep m = some m') ∧ YB t' m' ∧ SF m m') := by
  have hp0 := hp
  obtain ⟨hsc, hop, p5, p30, p8, p31, _, hNC⟩ := hp
  have hN : N < 60 := by omega
  obtain ⟨t1, m1, a1, a2, a3, a4, a5, a6, a7, a8⟩ := sc_pre h hp0 hk1 7
  have hS : gI (pI S 0 0 5 (nI (C + 1))) 0 0 4 = nI N := by rw [gI_pI, if_neg (by omega)]; exact hsc.1
  have hS8 : gI (pI S 0 0 5 (nI (C + 1))) 0 0 8 = nI (stk N).length := by rw [gI_pI, if_neg (by omega)]; exact p8
  have hbad : ∀ t3 m3, YB t3 m3 → SF2 N (pI m1 0 10 N (nI 7)) m3 → sX7_readsNumbers (pI m1 0 10 N (nI 7)) (nI N) (nI 7) = some m3 → (sX7_command m = sX7_command_b48 m (nI 7) → mStep m = some m3) ∧ SF m m3 := fun t3 m3 g3 g4 g2 => by
    refine ⟨fun z => ?_, ⟨fun j k' h1 h2 => by rw [g4.1 j k' (by omega) (by omega), a6 j k' (by omega) (by omega)], fun j k' h1 => by rw [g4.2 j k' h1, a7 j k' h1]⟩⟩
    refine mstep_bad (z.trans ?_) g3.bad (by rw [g4.1 0 31 (by omega) (by omega), a6 0 31 (by omega) (by omega)])
    unfold sX7_command_b48
    simp (disch := omega) only [zl, zm, nI_add, pk_mul, inb_t, ix_n, gd_tt, bd_e, nm_v, ite_not, ↓reduceIte, le_t, le_f, lt_t, lt_f, eq_t, eq_f, mone_f, mone_f2, h.good, p30, a2, a3, g2, b_good g3.bad]
  unfold sX2_readStep_b66
  rcases y_number a4 (lo := 1) (hi := 20) (by omega) (by omega) with ⟨s, t3, m3, u1, u2, u3, e1, e2, e3, e4⟩ | ⟨t3, m3, v, e1, e2, e3, e4⟩
  · obtain ⟨bb, t4, m4, s1, s2, s3, s4, s5⟩ := y_sign (e3.set (j := 11) (by omega) N (nI s)) (s := 40) (Or.inr (Or.inl rfl))
    have hrn := rn_7 e2 s2 hN
    have hsf2 : SF2 N (pI m1 0 10 N (nI 7)) m4 := sf2_trans e4.sf2 (sf2_trans (sf2_set (Or.inl rfl) _ _) s3.sf2)
    cases bb with
    | true =>
      left
      have hY4 := (s4 rfl).2
      have f29 : gI m4 0 0 29 = nI N := by rw [hsf2.1 0 29 (by omega) (by omega), gI_pI, if_neg (by omega)]; exact a3
      have f31 : gI (pI m4 0 0 29 (nI (N + 1))) 0 0 31 = nI (stk N).length := by rw [gI_pI, if_neg (by omega), hsf2.1 0 31 (by omega) (by omega), a6 0 31 (by omega) (by omega)]; exact p31
      have hq : sX7_command_b48 m (nI 7) = some (pI (pI m4 0 0 29 (nI (N + 1))) 0 0 31 (nI ((stk N).length + 1))) := by
        unfold sX7_command_b48 sX7_command_b122 sX7_truth
        simp (disch := omega) only [zl, zm, nI_add, pk_mul, inb_t, ix_n, gd_tt, bd_e, nm_v, ite_not, ↓reduceIte, le_t, le_f, lt_t, lt_f, eq_t, eq_f, mone_f, mone_f2, h.good, p30, a2, a3, hrn, hY4.good, f29, f31]
      have hYq : YG B len c (i + 1 + 1 + 1) t4 (pI (pI m4 0 0 29 (nI (N + 1))) 0 0 31 (nI ((stk N).length + 1))) := (hY4.fld (by omega) _).fld (by omega) _
      have hqf : ∀ j k', ¬ (j = 0 ∧ (4 ≤ k' ∧ k' ≤ 9 ∨ 29 ≤ k' ∧ k' ≤ 31)) → ¬ ((j = 10 ∨ j = 11 ∨ j = 12) ∧ k' = N) → gI (pI (pI m4 0 0 29 (nI (N + 1))) 0 0 31 (nI ((stk N).length + 1))) 0 j k' = gI m 0 j k' := fun j k' h1 h2 => by
        rw [gI_pI, if_neg (by omega), gI_pI, if_neg (by omega), hsf2.1 j k' (by omega) (by omega), a6 j k' (by omega) (by omega)]
      have hqL : ∀ j k', ¬ (j = 0 ∧ k' = 12) → gL (pI (pI m4 0 0 29 (nI (N + 1))) 0 0 31 (nI ((stk N).length + 1))) 0 j k' = gL m 0 j k' := fun j k' h1 => by
        rw [gL_pI, gL_pI, hsf2.2 j k' h1, a7 j k' h1]
      have hst : (if N + 1 = N + 1 then N :: stk N else stk (N + 1)) = N :: stk N := if_pos rfl
      have z8 : gI (pI (pI (pI S 0 0 5 (nI (C + 1))) 0 4 (stk N).length (nI N)) 0 0 8 (nI ((stk N).length + 1))) 0 0 4 = nI N := by rw [gI_pI, if_neg (by omega), gI_pI, if_neg (by omega)]; exact hS
      obtain ⟨v1, v2, v3, v4⟩ := sAdd_v (S := pI (pI (pI S 0 0 5 (nI (C + 1))) 0 4 (stk N).length (nI N)) 0 0 8 (nI ((stk N).length + 1))) (N := N) (nI 7) (nI s) (nI 0)
      have hrr : sX2_readRepeat t1 (pI S 0 0 5 (nI (C + 1))) = some (t4, sAdd (pI (pI (pI S 0 0 5 (nI (C + 1))) 0 4 (stk N).length (nI N)) 0 0 8 (nI ((stk N).length + 1))) N (nI 7) (nI s) (nI 0), nI 1) := by
        have e8 : gI (pI (pI S 0 0 5 (nI (C + 1))) 0 4 (stk N).length (nI N)) 0 0 8 = nI (stk N).length := by rw [gI_pI, if_neg (by omega)]; exact hS8
        unfold sX2_readRepeat
        simp (disch := omega) only [zl, zm, nI_add, pk_mul, inb_t, ix_n, gd_tt, bd_e, nm_v, ite_not, ↓reduceIte, le_t, le_f, lt_t, lt_f, eq_t, eq_f, mone_f, mone_f2, e1, s1, Bool.toNat_true, hS8, hS, e8, s_add z8 hN]
      refine ⟨t4, sAdd (pI (pI (pI S 0 0 5 (nI (C + 1))) 0 4 (stk N).length (nI N)) 0 0 8 (nI ((stk N).length + 1))) N (nI 7) (nI s) (nI 0), pI (pI m4 0 0 29 (nI (N + 1))) 0 0 31 (nI ((stk N).length + 1)), C + 1, N + 1, fun i => if i = N + 1 then N :: stk N else stk i, i + 1 + 1 + 1, ?_, fun z => ?_, by omega, hYq, ⟨?_, ?_, ?_, ?_, ?_, ?_, by omega, ?_⟩, ⟨fun j k' h1 h2 => hqf j k' h1 (by omega), hqL⟩⟩
      · simp (disch := omega) only [zl, zm, nI_add, pk_mul, inb_t, ix_n, gd_tt, bd_e, nm_v, ite_not, ↓reduceIte, le_t, le_f, lt_t, lt_f, eq_t, eq_f, mone_f, mone_f2, p5, a1, hrr, isb_1]
      · unfold mStep
        have e31 : gI (pI (pI m4 0 0 29 (nI (N + 1))) 0 0 31 (nI ((stk N).length + 1))) 0 0 31 = nI ((stk N).length + 1) := by rw [gI_pI, if_pos ⟨rfl, rfl, rfl⟩]
        rw [z, hq, bd_e, e31, p31]
        simp (disch := omega) only [zl, zm, nI_add, pk_mul, inb_t, ix_n, gd_tt, bd_e, nm_v, ite_not, ↓reduceIte, le_t, le_f, lt_t, lt_f, eq_t, eq_f, mone_f, mone_f2]
      · refine scr_grow (k := 7) (a := s) (b := 0) hsc ⟨fun z => absurd z (by omega), fun _ z => absurd z (by omega), fun _ z => absurd z (by omega), fun z => absurd z (by omega), fun _ => ⟨u1, u2, rfl⟩, fun z => absurd z (by omega), fun z => absurd z (by omega)⟩ (by show (stk N).length + 1 ≤ 2; omega) (fun j i h1 h2 h3 => ?_) (fun j i h1 h2 h3 => hqf j i (by omega) (by omega)) v4 ?_ ⟨v1, v2, v3, ?_, fun _ => ?_, fun _ z => absurd z (by omega), by omega⟩
        · rw [sAdd_o _ _ _ (by omega) (by omega), gI_pI, if_neg (by omega), gI_pI, if_neg (by omega), gI_pI, if_neg (by omega)]
        · simp (disch := omega) only [gI_pI, gL_pL, gI_pL, gL_pI, qe, qn, not_true_eq_false, not_false_eq_true, true_and, and_true, false_and, and_false, and_self, Nat.add_right_cancel_iff, ↓reduceIte]
        · rw [gI_pI, if_neg (by omega), gI_pI, if_neg (by omega), hsf2.1 10 N (by omega) (by omega)]; exact a8
        · rw [gI_pI, if_neg (by omega), gI_pI, if_neg (by omega), s3.1 11 N (by omega), gI_pI, if_pos ⟨rfl, rfl, rfl⟩]
      · show OPN _ (if N + 1 = N + 1 then N :: stk N else stk (N + 1))
        rw [hst]
        refine ⟨?_, hop.cg fun i hi => ?_⟩
        · rw [sAdd_o _ _ _ (by omega) (by omega), gI_pI, if_neg (by omega), gI_pI, if_pos ⟨rfl, rfl, rfl⟩]
        · rw [sAdd_o _ _ _ (by omega) (by omega), gI_pI, if_neg (by omega), gI_pI, if_neg (by omega), gI_pI, if_neg (by omega)]
      · rw [sAdd_o _ _ _ (by omega) (by omega), gI_pI, if_neg (by omega), gI_pI, if_neg (by omega), gI_pI, if_pos ⟨rfl, rfl, rfl⟩]
      · rw [gI_pI, if_neg (by omega), gI_pI, if_neg (by omega), hsf2.1 0 30 (by omega) (by omega)]; exact a5
      · show _ = nI (if N + 1 = N + 1 then N :: stk N else stk (N + 1)).length
        rw [hst, sAdd_o _ _ _ (by omega) (by omega), gI_pI, if_pos ⟨rfl, rfl, rfl⟩]; rfl
      · show _ = nI (if N + 1 = N + 1 then N :: stk N else stk (N + 1)).length
        rw [hst, gI_pI, if_pos ⟨rfl, rfl, rfl⟩]; rfl
      · show N + 1 + (if N + 1 = N + 1 then N :: stk N else stk (N + 1)).length ≤ 2 * (C + 1)
        rw [hst]; show N + 1 + ((stk N).length + 1) ≤ 2 * (C + 1); omega
    | false =>
      right
      obtain ⟨b1, b2⟩ := hbad t4 m4 (s5 rfl) hsf2 hrn
      refine ⟨t4, pI S 0 0 5 (nI (C + 1)), m4, ?_, b1, s5 rfl, b2⟩
      unfold sX2_readRepeat
      simp (disch := omega) only [zl, zm, nI_add, pk_mul, inb_t, ix_n, gd_tt, bd_e, nm_v, ite_not, ↓reduceIte, le_t, le_f, lt_t, lt_f, eq_t, eq_f, mone_f, mone_f2, p5, a1, e1, s1, Bool.toNat_false, isb_0]
  · right
    have hb := e3.set (j := 11) (by omega) N v
    have hrn := rn_7 e2 (b_mustSign hb.bad _) hN
    have hsf2 : SF2 N (pI m1 0 10 N (nI 7)) (pI m3 0 11 N v) := sf2_trans e4.sf2 (sf2_set (Or.inl rfl) _ _)
    obtain ⟨b1, b2⟩ := hbad t3 _ hb hsf2 hrn
    refine ⟨t3, pI S 0 0 5 (nI (C + 1)), pI m3 0 11 N v, ?_, b1, hb, b2⟩
    unfold sX2_readRepeat
    simp (disch := omega) only [zl, zm, nI_add, pk_mul, inb_t, ix_n, gd_tt, bd_e, nm_v, ite_not, ↓reduceIte, le_t, le_f, lt_t, lt_f, eq_t, eq_f, mone_f, mone_f2, p5, a1, e1, isb_0]
/-- a step that isn't a closing -/
theorem sc_step (h : YG B len c i t m) (hx : XN n x m) (hp : PSC n C N stk S m) : (∃ t' S' m' C' N' stk' i', sX2_readStep_b24 x t S = some (t', S', nI 1) ∧ mStep m = some m' ∧ i < i' ∧ YG B len c i' t' m' ∧ PSC n C' N' stk' S' m' ∧ SF m m') ∨ (∃ t' S' m', sX2_readStep_b24 x t S = some (t', S', nI 0) ∧ mStep m = some m' ∧ YB t' m' ∧ SF m m') := by
  have hp0 := hp
  obtain ⟨hsc, hop, p5, p30, p8, p31, hC, hNC⟩ := hp
  have hl := hsc.2.2.2.1 N (Nat.le_refl _)
  rcases y_kind h with ⟨k, k7, hk1, e1, e2⟩ | ⟨e1, e2⟩
  · by_cases c1 : k = 7 ∧ (stk N).length = 2
    · right
      obtain ⟨t', m', f1, f2, f3, f4⟩ := y_fail h (show 1 ≤ 3 by omega) (by omega) (fun z => absurd z (by omega))
      obtain ⟨rfl, hl2⟩ := c1
      rw [hl2] at p31 p8
      refine ⟨t', S, m', ?_, mstep_bad ?_ f3.bad (f4.1 0 31 (by omega)), f3, f4.sf⟩
      · unfold sX2_readStep_b24
        simp (disch := omega) only [zl, zm, nI_add, pk_mul, inb_t, ix_n, gd_tt, bd_e, nm_v, ite_not, ↓reduceIte, le_t, le_f, lt_t, lt_f, eq_t, eq_f, mone_f, mone_f2, e1, p8, f1, isb_0]
      · unfold sX7_command sX7_command_b15
        simp (disch := omega) only [zl, zm, nI_add, pk_mul, inb_t, ix_n, gd_tt, bd_e, nm_v, ite_not, ↓reduceIte, le_t, le_f, lt_t, lt_f, eq_t, eq_f, mone_f, mone_f2, e2, p31, f2, b_b34 f3.bad]
    · have hb24 : sX2_readStep_b24 x t S = sX2_readStep_b66 x t S (nI k) := by
        unfold sX2_readStep_b24
        by_cases h7 : k = 7
        · subst h7
          simp (disch := omega) only [zl, zm, nI_add, pk_mul, inb_t, ix_n, gd_tt, bd_e, nm_v, ite_not, ↓reduceIte, le_t, le_f, lt_t, lt_f, eq_t, eq_f, mone_f, mone_f2, e1, p8]
        · simp (disch := omega) only [zl, zm, nI_add, pk_mul, inb_t, ix_n, gd_tt, bd_e, nm_v, ite_not, ↓reduceIte, le_t, le_f, lt_t, lt_f, eq_t, eq_f, mone_f, mone_f2, e1]
      have hcm : sX7_command m = sX7_command_b34 m (nI k) := by
        unfold sX7_command sX7_command_b15
        by_cases h7 : k = 7
        · subst h7
          simp (disch := omega) only [zl, zm, nI_add, pk_mul, inb_t, ix_n, gd_tt, bd_e, nm_v, ite_not, ↓reduceIte, le_t, le_f, lt_t, lt_f, eq_t, eq_f, mone_f, mone_f2, e2, p31]
        · simp (disch := omega) only [zl, zm, nI_add, pk_mul, inb_t, ix_n, gd_tt, bd_e, nm_v, ite_not, ↓reduceIte, le_t, le_f, lt_t, lt_f, eq_t, eq_f, mone_f, mone_f2, e2]
      by_cases c2 : C = 30
      · right
        obtain ⟨t', m', f1, f2, f3, f4⟩ := y_fail h (show 1 ≤ 5 by omega) (by omega) (fun z => absurd z (by omega))
        rw [c2] at p5 p30
        refine ⟨t', S, m', ?_, mstep_bad ?_ f3.bad (f4.1 0 31 (by omega)), f3, f4.sf⟩
        · rw [hb24]
          unfold sX2_readStep_b66
          simp (disch := omega) only [zl, zm, nI_add, pk_mul, inb_t, ix_n, gd_tt, bd_e, nm_v, ite_not, ↓reduceIte, le_t, le_f, lt_t, lt_f, eq_t, eq_f, mone_f, mone_f2, p5, f1, isb_0]
        · have h48 : sX7_command_b48 m' (nI k) = some m' := by
            unfold sX7_command_b48
            simp (disch := omega) only [zl, zm, nI_add, pk_mul, inb_t, ix_n, gd_tt, bd_e, nm_v, ite_not, ↓reduceIte, le_t, le_f, lt_t, lt_f, eq_t, eq_f, mone_f, mone_f2, b_good f3.bad]
          rw [hcm]
          unfold sX7_command_b34
          simp (disch := omega) only [zl, zm, nI_add, pk_mul, inb_t, ix_n, gd_tt, bd_e, nm_v, ite_not, ↓reduceIte, le_t, le_f, lt_t, lt_f, eq_t, eq_f, mone_f, mone_f2, p30, f2, h48]
      · have hcm2 : sX7_command m = sX7_command_b48 m (nI k) := by
          rw [hcm]
          unfold sX7_command_b34
          simp (disch := omega) only [zl, zm, nI_add, pk_mul, inb_t, ix_n, gd_tt, bd_e, nm_v, ite_not, ↓reduceIte, le_t, le_f, lt_t, lt_f, eq_t, eq_f, mone_f, mone_f2, p30]
        rw [hb24]
        by_cases h7 : k = 7
        · subst h7
          rcases sc_rep (x := x) h hp0 (by omega) hk1 (by omega) with ⟨t', S', m', C', N', stk', i', g1, g2, g3, g4, g5, g6⟩ | ⟨t', S', m', g1, g2, g3, g4⟩
          · exact Or.inl ⟨t', S', m', C', N', stk', i', g1, g2 hcm2, g3, g4, g5, g6⟩
          · exact Or.inr ⟨t', S', m', g1, g2 hcm2, g3, g4⟩
        · rcases sc_six h hx hp0 (by omega) hk1 (k := k) (by omega) with ⟨t', S', m', C', N', stk', i', g1, g2, g3, g4, g5, g6⟩ | ⟨t', S', m', g1, g2, g3, g4⟩
          · exact Or.inl ⟨t', S', m', C', N', stk', i', g1, g2 hcm2, g3, g4, g5, g6⟩
          · exact Or.inr ⟨t', S', m', g1, g2 hcm2, g3, g4⟩
  · right
    obtain ⟨t', m', f1, f2, f3, f4⟩ := y_fail h (show 1 ≤ 1 by omega) (by omega) (fun _ => rfl)
    refine ⟨t', S, m', ?_, mstep_bad ?_ f3.bad (f4.1 0 31 (by omega)), f3, f4.sf⟩
    · unfold sX2_readStep_b24
      simp (disch := omega) only [zl, zm, nI_add, pk_mul, inb_t, ix_n, gd_tt, bd_e, nm_v, ite_not, ↓reduceIte, le_t, le_f, lt_t, lt_f, eq_t, eq_f, mone_f, mone_f2, e1, f1, isb_0]
    · unfold sX7_command
      simp (disch := omega) only [zl, zm, nI_add, pk_mul, inb_t, ix_n, gd_tt, bd_e, nm_v, ite_not, ↓reduceIte, le_t, le_f, lt_t, lt_f, eq_t, eq_f, mone_f, mone_f2, e2, f2, b_b15 f3.bad]
end
