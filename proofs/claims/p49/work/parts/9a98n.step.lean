/-! stage B: reading on in step: what stands at a token, right or wrong -/
def YG (B : Nat → Nat) (len c i : Nat) (t m : St) : Prop := len ≤ 700 ∧ LXA B len c t ∧ LXC B len i t ∧ i ≤ c ∧ LXM B len m ∧ LMS B len (lxAt B len i) m ∧ gI t 0 0 8 = nI 0 ∧ gI t 0 0 9 = mone ∧ gI m 0 0 8 = nI 0 ∧ gI m 0 0 9 = mone
def YB (t m : St) : Prop := ∃ e p, 1 ≤ e ∧ e ≤ 5 ∧ p ≤ 700 ∧ gI t 0 0 8 = nI e ∧ gI t 0 0 9 = nI p ∧ gI m 0 0 8 = nI e ∧ gI m 0 0 9 = nI p
def BMD (m : St) : Prop := ∃ e, 1 ≤ e ∧ e ≤ 5 ∧ gI m 0 0 8 = nI e
theorem YB.bad {t m : St} (h : YB t m) : BMD m := by obtain ⟨e, p, h1, h2, h3, h4, h5, h6, h7⟩ := h; exact ⟨e, h1, h2, h6⟩
/-- what the model's reading of tokens leaves -/
def LGE (m m' : St) : Prop := (∀ j k, ¬ (j = 0 ∧ 4 ≤ k ∧ k ≤ 9) → gI m' 0 j k = gI m 0 j k) ∧ ∀ j k, ¬ (j = 0 ∧ k = 12) → gL m' 0 j k = gL m 0 j k
theorem lge_refl (m : St) : LGE m m := ⟨fun _ _ _ => rfl, fun _ _ _ => rfl⟩
theorem lge_trans {a b c : St} (h : LGE a b) (h2 : LGE b c) : LGE a c := ⟨fun j k p => (h2.1 j k p).trans (h.1 j k p), fun j k p => (h2.2 j k p).trans (h.2 j k p)⟩
theorem LGO.e {a b : St} (h : LGO a b) : LGE a b := ⟨fun j k p => h.1 j k (by omega), h.2⟩
section
variable {B : Nat → Nat} {len c i : Nat} {t m : St}
/-- kind, letters, number at the token -/
abbrev yk (B : Nat → Nat) (len i : Nat) : Nat := lxKd B len (lxAt B len i)
abbrev yl (B : Nat → Nat) (len i : Nat) : List Nat := lxLs B len (lxAt B len i)
abbrev yn (B : Nat → Nat) (len i : Nat) : Nat := lxNum B len (lxAt B len i)
theorem YG.sp (h : YG B len c i t m) : (yk B len i = 0 ↔ lxAt B len i = len) ∧ (yk B len i = 1 → okL (yl B len i) ∧ lxVv B len (lxAt B len i) = lN (cpN (yl B len i))) ∧ (yk B len i = 2 → yn B len i ≤ 999 ∧ lxVv B len (lxAt B len i) = lN (yn B len i)) ∧ (yk B len i ≤ 3 ∨ yk B len i = 59 ∨ yk B len i = 40 ∨ yk B len i = 41) := lxKd_sp (lxAt_le i)
theorem YG.k60 (h : YG B len c i t m) : yk B len i < 60 := by have := h.sp.2.2.2; omega
theorem YG.ck (h : YG B len c i t m) : gI t 0 0 5 = nI (yk B len i) := h.2.2.1.2.1
theorem YG.mk (h : YG B len c i t m) : gI m 0 0 6 = nI (lxSrt (yk B len i)) := h.2.2.2.2.2.1.2.2.1
theorem YG.m8 (h : YG B len c i t m) : gI m 0 0 8 = nI 0 := h.2.2.2.2.2.2.2.2.1
theorem YG.cl (h : YG B len c i t m) (hk : yk B len i = 1) : okL (yl B len i) ∧ gL t 0 0 7 = lN (cpN (yl B len i)) ∧ gL m 0 0 12 = lN (mpN (yl B len i)) := ⟨(h.sp.2.1 hk).1, h.2.2.1.2.2.2.trans (h.sp.2.1 hk).2, h.2.2.2.2.2.1.2.2.2.1 hk⟩
theorem YG.cn (h : YG B len c i t m) (hk : yk B len i = 2) : yn B len i ≤ 999 ∧ gL t 0 0 7 = lN (yn B len i) ∧ gI m 0 0 7 = nI (yn B len i) := ⟨(h.sp.2.2.1 hk).1, h.2.2.1.2.2.2.trans (h.sp.2.2.1 hk).2, h.2.2.2.2.2.1.2.2.2.2.1 hk⟩
theorem YG.cs (h : YG B len c i t m) (hk : 40 ≤ yk B len i) : gI m 0 0 7 = nI (yk B len i) := h.2.2.2.2.2.1.2.2.2.2.2 hk
theorem srt_k {k s : Nat} (h : k ≤ 3 ∨ k = 59 ∨ k = 40 ∨ k = 41) : lxSrt k ≤ 4 ∧ (lxSrt k = 0 ↔ k = 0) ∧ (lxSrt k = 1 ↔ k = 1) ∧ (lxSrt k = 2 ↔ k = 2) ∧ (lxSrt k = 3 ↔ 40 ≤ k) ∧ (lxSrt k = 4 ↔ k = 3) := by
  rcases h with h | h | h | h
  · rcases (by omega : k = 0 ∨ k = 1 ∨ k = 2 ∨ k = 3) with rfl | rfl | rfl | rfl <;> decide
  all_goals subst h; decide
theorem YG.srt (h : YG B len c i t m) : lxSrt (yk B len i) ≤ 4 ∧ (lxSrt (yk B len i) = 0 ↔ yk B len i = 0) ∧ (lxSrt (yk B len i) = 1 ↔ yk B len i = 1) ∧ (lxSrt (yk B len i) = 2 ↔ yk B len i = 2) ∧ (lxSrt (yk B len i) = 3 ↔ 40 ≤ yk B len i) ∧ (lxSrt (yk B len i) = 4 ↔ yk B len i = 3) := srt_k (s := 0) h.sp.2.2.2
theorem y_next (h : YG B len c i t m) (hk : ¬ yk B len i = 0) : ∃ t' m', sX4_advance t = some t' ∧ sX7_goOn m = some m' ∧ YG B len c (i + 1) t' m' ∧ LGO m m' := by
  have hsp := h.sp.1
  obtain ⟨h0, h1, h2, h3, h4, h5, h6, h7, h8, h9⟩ := h
  have hic : i < c := by
    rcases Nat.eq_or_lt_of_le h3 with z | z
    · exact absurd (hsp.mpr (by rw [z]; exact h1.2.2.1)) hk
    · exact z
  obtain ⟨t', a1, a2, a3, a4, a5⟩ := lx_next (i := i + 1) h1 h2.1 hic
  have hnx := lxNx_le (B := B) (lxAt_le (B := B) (len := len) i)
  obtain ⟨m', b1, b2, b3⟩ := lx_goOn h0 h4 h5.1 hnx.2.1
  exact ⟨t', m', a1, b1, ⟨h0, a2, a3, hic, lxm_go h4 b2, b3, a4.trans h6, a5.trans h7, (b2.1 0 8 (by omega)).trans h8, (b2.1 0 9 (by omega)).trans h9⟩, b2⟩
theorem y_fail (h : YG B len c i t m) {e : Nat} (he : 1 ≤ e) (he5 : e ≤ 5) (hk : yk B len i = 3 → e = 1) : ∃ t' m', sX4_fail t (nI e) = some (t', nI 0) ∧ sX7_wrong m (nI e) = some m' ∧ YB t' m' ∧ LGE m m' := by
  have hs := h.srt
  have hmk := h.mk
  obtain ⟨h0, h1, h2, h3, h4, h5, h6, h7, h8, h9⟩ := h
  have hat := lxAt_le (B := B) (len := len) i
  refine ⟨pI (pI t 0 0 8 (nI e)) 0 0 9 (nI (lxAt B len i)), pI (pI m 0 0 8 (nI e)) 0 0 9 (nI (lxAt B len i)), ?_, ?_, ⟨e, lxAt B len i, he, he5, by omega, ?_, ?_, ?_, ?_⟩, fun j k p => ?_, fun j k p => rfl⟩
  · unfold sX4_fail
    simp (disch := omega) only [zl, zm, nI_add, pk_mul, inb_t, ix_n, gd_tt, bd_e, nm_v, ite_not, ↓reduceIte, le_t, le_f, lt_t, lt_f, eq_t, eq_f, mone_f, mone_f2, gI_pI, gL_pL, gI_pL, gL_pI, qe, qn, not_true_eq_false, not_false_eq_true, true_and, and_true, false_and, and_false, and_self, Nat.add_right_cancel_iff, h2.2.2.1]
  · unfold sX7_wrong
    by_cases h4 : lxSrt (yk B len i) = 4
    · rw [hk (hs.2.2.2.2.2.mp h4)]
      rw [h4] at hmk
      simp (disch := omega) only [zl, zm, nI_add, pk_mul, inb_t, ix_n, gd_tt, bd_e, nm_v, ite_not, ↓reduceIte, le_t, le_f, lt_t, lt_f, eq_t, eq_f, mone_f, mone_f2, gI_pI, gL_pL, gI_pL, gL_pI, qe, qn, not_true_eq_false, not_false_eq_true, true_and, and_true, false_and, and_false, and_self, Nat.add_right_cancel_iff, h8, hmk, h5.2.1]
    · simp (disch := omega) only [zl, zm, nI_add, pk_mul, inb_t, ix_n, gd_tt, bd_e, nm_v, ite_not, ↓reduceIte, le_t, le_f, lt_t, lt_f, eq_t, eq_f, mone_f, mone_f2, gI_pI, gL_pL, gI_pL, gL_pI, qe, qn, not_true_eq_false, not_false_eq_true, true_and, and_true, false_and, and_false, and_self, Nat.add_right_cancel_iff, h8, hmk, h5.2.1]
  · simp (disch := omega) only [gI_pI, gL_pL, gI_pL, gL_pI, qe, qn, not_true_eq_false, not_false_eq_true, true_and, and_true, false_and, and_false, and_self, Nat.add_right_cancel_iff, ↓reduceIte]
  · simp (disch := omega) only [gI_pI, gL_pL, gI_pL, gL_pI, qe, qn, not_true_eq_false, not_false_eq_true, true_and, and_true, false_and, and_false, and_self, Nat.add_right_cancel_iff, ↓reduceIte]
  · simp (disch := omega) only [gI_pI, gL_pL, gI_pL, gL_pI, qe, qn, not_true_eq_false, not_false_eq_true, true_and, and_true, false_and, and_false, and_self, Nat.add_right_cancel_iff, ↓reduceIte]
  · simp (disch := omega) only [gI_pI, gL_pL, gI_pL, gL_pI, qe, qn, not_true_eq_false, not_false_eq_true, true_and, and_true, false_and, and_false, and_self, Nat.add_right_cancel_iff, ↓reduceIte]
  · rw [gI_pI, if_neg (by omega), gI_pI, if_neg (by omega)]
/-! a wrong model reads nothing -/
theorem b_good (h : BMD m) : sX7_isGood m = some (nI 0) := by
  obtain ⟨e, h1, h2, h3⟩ := h
  unfold sX7_isGood
  simp (disch := omega) only [zl, zm, nI_add, pk_mul, inb_t, ix_n, gd_tt, bd_e, nm_v, ite_not, ↓reduceIte, le_t, le_f, lt_t, lt_f, eq_t, eq_f, mone_f, mone_f2, h3]
theorem b_wrong (h : BMD m) (a : Int32) : sX7_wrong m a = some m := by
  obtain ⟨e, h1, h2, h3⟩ := h
  unfold sX7_wrong
  simp (disch := omega) only [zl, zm, nI_add, pk_mul, inb_t, ix_n, gd_tt, bd_e, nm_v, ite_not, ↓reduceIte, le_t, le_f, lt_t, lt_f, eq_t, eq_f, mone_f, mone_f2, h3]
theorem b_isWord (h : BMD m) (w : Int64) : sX7_isWord m w = some (nI 0) := by
  obtain ⟨e, h1, h2, h3⟩ := h
  unfold sX7_isWord
  simp (disch := omega) only [zl, zm, nI_add, pk_mul, inb_t, ix_n, gd_tt, bd_e, nm_v, ite_not, ↓reduceIte, le_t, le_f, lt_t, lt_f, eq_t, eq_f, mone_f, mone_f2, h3]
theorem b_isSign (h : BMD m) (a : Int32) : sX7_isSign m a = some (nI 0) := by
  obtain ⟨e, h1, h2, h3⟩ := h
  unfold sX7_isSign
  simp (disch := omega) only [zl, zm, nI_add, pk_mul, inb_t, ix_n, gd_tt, bd_e, nm_v, ite_not, ↓reduceIte, le_t, le_f, lt_t, lt_f, eq_t, eq_f, mone_f, mone_f2, h3]
theorem b_mustSign (h : BMD m) (a : Int32) : sX7_mustSign m a = some m := by
  unfold sX7_mustSign sX7_mustSign_b20
  simp (disch := omega) only [b_good h, zl, zm, nI_add, pk_mul, inb_t, ix_n, gd_tt, bd_e, nm_v, ite_not, ↓reduceIte, le_t, le_f, lt_t, lt_f, eq_t, eq_f, mone_f, mone_f2]
theorem b_mustWord (h : BMD m) (w : Int64) : sX7_mustWord m w = some m := by
  unfold sX7_mustWord sX7_mustWord_b20
  simp (disch := omega) only [b_good h, zl, zm, nI_add, pk_mul, inb_t, ix_n, gd_tt, bd_e, nm_v, ite_not, ↓reduceIte, le_t, le_f, lt_t, lt_f, eq_t, eq_f, mone_f, mone_f2]
theorem b_mustBe (h : BMD m) : sX7_mustBeWord m = some m := by
  unfold sX7_mustBeWord
  simp (disch := omega) only [b_good h, zl, zm, nI_add, pk_mul, inb_t, ix_n, gd_tt, bd_e, nm_v, ite_not, ↓reduceIte, le_t, le_f, lt_t, lt_f, eq_t, eq_f, mone_f, mone_f2]
theorem b_number (h : BMD m) (a b : Int32) : sX7_number m a b = some (m, gI m 0 0 7) := by
  unfold sX7_number sX7_looks sX7_looks_b20
  simp (disch := omega) only [b_good h, zl, zm, nI_add, pk_mul, inb_t, ix_n, gd_tt, bd_e, nm_v, ite_not, ↓reduceIte, le_t, le_f, lt_t, lt_f, eq_t, eq_f, mone_f, mone_f2]
theorem b_perhaps (h : BMD m) (w : Int64) (a b d : Int32) : sX7_perhaps m w a b d = some (m, d) := by
  unfold sX7_perhaps
  simp (disch := omega) only [b_isWord h, zl, zm, nI_add, pk_mul, inb_t, ix_n, gd_tt, bd_e, nm_v, ite_not, ↓reduceIte, le_t, le_f, lt_t, lt_f, eq_t, eq_f, mone_f, mone_f2]
theorem b_told (h : BMD m) : sX7_told m = some (m, mone) := by
  unfold sX7_told sX7_told_b19 sX7_told_b37
  simp (disch := omega) only [b_mustBe h, b_good h, zl, zm, nI_add, pk_mul, inb_t, ix_n, gd_tt, bd_e, nm_v, ite_not, ↓reduceIte, le_t, le_f, lt_t, lt_f, eq_t, eq_f, mone_f, mone_f2]
theorem bmd_f {m' : St} (h : BMD m) (e : gI m' 0 0 8 = gI m 0 0 8) : BMD m' := by obtain ⟨k, h1, h2, h3⟩ := h; exact ⟨k, h1, h2, e.trans h3⟩
theorem YG.good (h : YG B len c i t m) : sX7_isGood m = some (nI 1) := by
  unfold sX7_isGood
  simp (disch := omega) only [zl, zm, nI_add, pk_mul, inb_t, ix_n, gd_tt, bd_e, nm_v, ite_not, ↓reduceIte, le_t, le_f, lt_t, lt_f, eq_t, eq_f, mone_f, mone_f2, h.m8]
/-! words -/
def WDX (w : Nat) (W : Int64) (l0 : List Nat) : Prop := okL l0 ∧ l0.length ≤ 7 ∧ lenJS.getD w 0 = l0.length ∧ (∀ k, k < l0.length → chJ w k = nI (l0.getD k 0)) ∧ W = lN (mpN l0)
theorem lw_true {w : Nat} {l l0 : List Nat} (ho : okL l) (h0 : l0.length ≤ 7) (hlen : lenJS.getD w 0 = l0.length) (hc : ∀ k, k < l0.length → chJ w k = nI (l0.getD k 0)) (hv : gL t 0 0 7 = lN (cpN l)) : ∀ (d k F : Nat), k + d = l0.length → d < F → (∀ j, k ≤ j → j < l0.length → l.getD j 0 = l0.getD j 0) → sX4_isWord_b26 F w t (nI k) = some (nI 1)
  | d, k, 0, _, h, _ => absurd h (by omega)
  | 0, k, F + 1, h1, h2, h3 => by
    simp only [sX4_isWord_b26]
    rw [hlen]
    simp (disch := omega) only [zl, zm, nI_add, pk_mul, inb_t, ix_n, gd_tt, bd_e, nm_v, ite_not, ↓reduceIte, le_t, le_f, lt_t, lt_f, eq_t, eq_f, mone_f, mone_f2]
  | d + 1, k, F + 1, h1, h2, h3 => by
    simp only [sX4_isWord_b26]
    rw [hlen, hv]
    have e1 := c_letter ho (show k < 8 by omega)
    have e2 := hc k (by omega)
    rw [← h3 k (Nat.le_refl _) (by omega)] at e2
    simp (disch := omega) only [zl, zm, nI_add, pk_mul, inb_t, ix_n, gd_tt, bd_e, nm_v, ite_not, ↓reduceIte, le_t, le_f, lt_t, lt_f, eq_t, eq_f, mone_f, mone_f2, e1, e2]
    exact lw_true ho h0 hlen hc hv d (k + 1) F (by omega) (by omega) fun j p q => h3 j (by omega) q
theorem lw_false {w : Nat} {l l0 : List Nat} (ho : okL l) (ho0 : okL l0) (h0 : l0.length ≤ 7) (hlen : lenJS.getD w 0 = l0.length) (hc : ∀ k, k < l0.length → chJ w k = nI (l0.getD k 0)) (hv : gL t 0 0 7 = lN (cpN l)) : ∀ (d k F : Nat), k + d = l0.length → d < F → (∃ j, k ≤ j ∧ j < l0.length ∧ ¬ l.getD j 0 = l0.getD j 0) → sX4_isWord_b26 F w t (nI k) = some (nI 0)
  | d, k, 0, _, h, _ => absurd h (by omega)
  | 0, k, F + 1, h1, h2, h3 => by obtain ⟨j, p, q, r⟩ := h3; exact absurd p (by omega)
  | d + 1, k, F + 1, h1, h2, h3 => by
    simp only [sX4_isWord_b26]
    rw [hlen, hv]
    have e1 := c_letter ho (show k < 8 by omega)
    have e2 := hc k (by omega)
    have g1 := ho.le k
    have g2 := ho0.le k
    by_cases hq : l.getD k 0 = l0.getD k 0
    · rw [← hq] at e2
      simp (disch := omega) only [zl, zm, nI_add, pk_mul, inb_t, ix_n, gd_tt, bd_e, nm_v, ite_not, ↓reduceIte, le_t, le_f, lt_t, lt_f, eq_t, eq_f, mone_f, mone_f2, e1, e2]
      refine lw_false ho ho0 h0 hlen hc hv d (k + 1) F (by omega) (by omega) ?_
      obtain ⟨j, p, q, r⟩ := h3
      refine ⟨j, ?_, q, r⟩
      rcases Nat.eq_or_lt_of_le p with z | z
      · subst z; exact absurd hq r
      · exact z
    · simp (disch := omega) only [zl, zm, nI_add, pk_mul, inb_t, ix_n, gd_tt, bd_e, nm_v, ite_not, ↓reduceIte, le_t, le_f, lt_t, lt_f, eq_t, eq_f, mone_f, mone_f2, e1, e2]
theorem y_word {w : Nat} {W : Int64} {l0 : List Nat} (hw : WDX w W l0) (h : YG B len c i t m) : ∃ b : Bool, sX4_isWord w t = some (nI b.toNat) ∧ sX7_isWord m W = some (nI b.toNat) ∧ (b = true ↔ yk B len i = 1 ∧ yl B len i = l0) := by
  obtain ⟨o1, o2, o3, o4, rfl⟩ := hw
  have hck := h.ck
  have hmk := h.mk
  have hsr := h.srt
  have h60 := h.k60
  by_cases hk : yk B len i = 1
  · obtain ⟨ho, hv, hm⟩ := h.cl hk
    have hs1 := hsr.2.2.1.mpr hk
    rw [hk] at hck
    rw [hs1] at hmk
    have hml : sX7_isWord m (lN (mpN l0)) = some (nI (decide (yl B len i = l0)).toNat) := by
      unfold sX7_isWord
      have e : (lg_cmp (gL m 0 0 12) (lN (mpN l0)) = nI 0) = (yl B len i = l0) := by rw [lgn_eq, hm]; exact propext (mp_inj ho o1)
      simp (disch := omega) only [zl, zm, nI_add, pk_mul, inb_t, ix_n, gd_tt, bd_e, nm_v, ite_not, ↓reduceIte, le_t, le_f, lt_t, lt_f, eq_t, eq_f, mone_f, mone_f2, h.m8, hmk, e]
      by_cases hq : yl B len i = l0
      · rw [if_pos hq, decide_eq_true hq]; rfl
      · rw [if_neg hq, decide_eq_false hq]; rfl
    refine ⟨decide (yl B len i = l0), ?_, hml, ?_⟩
    · unfold sX4_isWord
      have e1 := c_letter ho (show l0.length < 8 by omega)
      have g1 := ho.le l0.length
      rw [o3, hv]
      simp (disch := omega) only [zl, zm, nI_add, pk_mul, inb_t, ix_n, gd_tt, bd_e, nm_v, ite_not, ↓reduceIte, le_t, le_f, lt_t, lt_f, eq_t, eq_f, mone_f, mone_f2, hck, e1]
      by_cases hq : yl B len i = l0
      · have hz : (yl B len i).getD l0.length 0 = 0 := by rw [hq]; exact getD_out (Nat.le_refl _)
        rw [hz, if_pos rfl, decide_eq_true hq]
        exact lw_true ho o2 o3 o4 hv l0.length 0 FU (by omega) (FU_lt (by omega)) fun j _ _ => by rw [hq]
      · rw [decide_eq_false hq]
        by_cases hz : (yl B len i).getD l0.length 0 = 0
        · rw [hz, if_pos rfl]
          refine lw_false ho o1 o2 o3 o4 hv l0.length 0 FU (by omega) (FU_lt (by omega)) ?_
          have hll : (yl B len i).length ≤ l0.length := by
            rcases Nat.lt_or_ge l0.length (yl B len i).length with z | z
            · have := (ho.at z).1; omega
            · exact z
          rcases Nat.eq_or_lt_of_le hll with z | z
          · refine Classical.byContradiction fun hno => hq (list_ext z fun j hj => Classical.byContradiction fun hj2 => hno ⟨j, Nat.zero_le _, by omega, hj2⟩)
          · refine ⟨(yl B len i).length, Nat.zero_le _, z, ?_⟩
            rw [getD_out (Nat.le_refl _)]
            have := (o1.at z).1; omega
        · simp (disch := omega) only [eq_f, ↓reduceIte]; rfl
    · rw [decide_eq_true_eq]; exact ⟨fun z => ⟨hk, z⟩, fun z => z.2⟩
  · have hs1 : ¬ lxSrt (yk B len i) = 1 := fun z => hk (hsr.2.2.1.mp z)
    refine ⟨false, ?_, ?_, ⟨fun z => absurd z (by decide), fun z => absurd z.1 hk⟩⟩
    · unfold sX4_isWord
      simp (disch := omega) only [zl, zm, nI_add, pk_mul, inb_t, ix_n, gd_tt, bd_e, nm_v, ite_not, ↓reduceIte, le_t, le_f, lt_t, lt_f, eq_t, eq_f, mone_f, mone_f2, hck]; rfl
    · unfold sX7_isWord
      simp (disch := omega) only [zl, zm, nI_add, pk_mul, inb_t, ix_n, gd_tt, bd_e, nm_v, ite_not, ↓reduceIte, le_t, le_f, lt_t, lt_f, eq_t, eq_f, mone_f, mone_f2, h.m8, hmk]; rfl
end
