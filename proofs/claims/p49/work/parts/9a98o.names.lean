/-! stage B: signs, words and numbers that must stand, names -/
section
variable {B : Nat → Nat} {len c i n : Nat} {t m x : St}
theorem y_sign (h : YG B len c i t m) {s : Nat} (hs : s = 59 ∨ s = 40 ∨ s = 41) : ∃ (b : Bool) (t' m' : St), sX4_takeSign t (nI s) = some (t', nI b.toNat) ∧ sX7_mustSign m (nI s) = some m' ∧ LGE m m' ∧ (b = true → yk B len i = s ∧ YG B len c (i + 1) t' m') ∧ (b = false → YB t' m') := by
  have hck := h.ck
  have hmk := h.mk
  have hsr := h.srt
  have h60 := h.k60
  have hgd := h.good
  unfold sX4_takeSign sX7_mustSign sX7_mustSign_b20
  rw [hck]
  by_cases hk : yk B len i = s
  · obtain ⟨t', m', e1, e2, e3, e4⟩ := y_next h (by omega)
    have hs3 := hsr.2.2.2.2.1.mpr (by omega)
    have h7 := h.cs (by omega)
    rw [hs3] at hmk
    rw [hk] at h7
    have hsg : sX7_isSign m (nI s) = some (nI 1) := by
      unfold sX7_isSign
      simp (disch := omega) only [zl, zm, nI_add, pk_mul, inb_t, ix_n, gd_tt, bd_e, nm_v, ite_not, ↓reduceIte, le_t, le_f, lt_t, lt_f, eq_t, eq_f, mone_f, mone_f2, h.m8, hmk, h7]
    refine ⟨true, t', m', ?_, ?_, e4.e, fun _ => ⟨hk, e3⟩, fun z => absurd z (by decide)⟩
    · rw [hk]; simp (disch := omega) only [zl, zm, nI_add, pk_mul, inb_t, ix_n, gd_tt, bd_e, nm_v, ite_not, ↓reduceIte, le_t, le_f, lt_t, lt_f, eq_t, eq_f, mone_f, mone_f2, e1]; rfl
    · simp (disch := omega) only [zl, zm, nI_add, pk_mul, inb_t, ix_n, gd_tt, bd_e, nm_v, ite_not, ↓reduceIte, le_t, le_f, lt_t, lt_f, eq_t, eq_f, mone_f, mone_f2, hgd, hsg, e2]
  · obtain ⟨t', m', e1, e2, e3, e4⟩ := y_fail h (show 1 ≤ 1 by omega) (by omega) (fun _ => rfl)
    have hsg : sX7_isSign m (nI s) = some (nI 0) := by
      unfold sX7_isSign
      by_cases hs3 : lxSrt (yk B len i) = 3
      · have h7 := h.cs (hsr.2.2.2.2.1.mp hs3)
        rw [hs3] at hmk
        simp (disch := omega) only [zl, zm, nI_add, pk_mul, inb_t, ix_n, gd_tt, bd_e, nm_v, ite_not, ↓reduceIte, le_t, le_f, lt_t, lt_f, eq_t, eq_f, mone_f, mone_f2, h.m8, hmk, h7]
      · simp (disch := omega) only [zl, zm, nI_add, pk_mul, inb_t, ix_n, gd_tt, bd_e, nm_v, ite_not, ↓reduceIte, le_t, le_f, lt_t, lt_f, eq_t, eq_f, mone_f, mone_f2, h.m8, hmk]
    refine ⟨false, t', m', ?_, ?_, e4, fun z => absurd z (by decide), fun _ => e3⟩
    · simp (disch := omega) only [zl, zm, nI_add, pk_mul, inb_t, ix_n, gd_tt, bd_e, nm_v, ite_not, ↓reduceIte, le_t, le_f, lt_t, lt_f, eq_t, eq_f, mone_f, mone_f2, e1, isb_0]; rfl
    · simp (disch := omega) only [zl, zm, nI_add, pk_mul, inb_t, ix_n, gd_tt, bd_e, nm_v, ite_not, ↓reduceIte, le_t, le_f, lt_t, lt_f, eq_t, eq_f, mone_f, mone_f2, hgd, hsg, e2, b_good e3.bad]
theorem y_takeWord {w : Nat} {W : Int64} {l0 : List Nat} (hw : WDX w W l0) (h : YG B len c i t m) : ∃ (b : Bool) (t' m' : St), sX4_takeWord w t = some (t', nI b.toNat) ∧ sX7_mustWord m W = some m' ∧ LGE m m' ∧ (b = true → YG B len c (i + 1) t' m') ∧ (b = false → YB t' m') := by
  obtain ⟨b, e1, e2, e3⟩ := y_word hw h
  unfold sX4_takeWord sX7_mustWord sX7_mustWord_b20
  rw [e1]
  cases b with
  | true =>
    obtain ⟨t', m', g1, g2, g3, g4⟩ := y_next h (by have := (e3.mp rfl).1; omega)
    refine ⟨true, t', m', ?_, ?_, g4.e, fun _ => g3, fun z => absurd z (by decide)⟩
    · simp (disch := omega) only [zl, zm, nI_add, pk_mul, inb_t, ix_n, gd_tt, bd_e, nm_v, ite_not, ↓reduceIte, le_t, le_f, lt_t, lt_f, eq_t, eq_f, mone_f, mone_f2, Bool.toNat_true, g1]
    · simp (disch := omega) only [zl, zm, nI_add, pk_mul, inb_t, ix_n, gd_tt, bd_e, nm_v, ite_not, ↓reduceIte, le_t, le_f, lt_t, lt_f, eq_t, eq_f, mone_f, mone_f2, h.good, e2, Bool.toNat_true, g2]
  | false =>
    obtain ⟨t', m', g1, g2, g3, g4⟩ := y_fail h (show 1 ≤ 1 by omega) (by omega) (fun _ => rfl)
    refine ⟨false, t', m', ?_, ?_, g4, fun z => absurd z (by decide), fun _ => g3⟩
    · simp (disch := omega) only [zl, zm, nI_add, pk_mul, inb_t, ix_n, gd_tt, bd_e, nm_v, ite_not, ↓reduceIte, le_t, le_f, lt_t, lt_f, eq_t, eq_f, mone_f, mone_f2, Bool.toNat_false, g1, isb_0]
    · simp (disch := omega) only [zl, zm, nI_add, pk_mul, inb_t, ix_n, gd_tt, bd_e, nm_v, ite_not, ↓reduceIte, le_t, le_f, lt_t, lt_f, eq_t, eq_f, mone_f, mone_f2, h.good, e2, Bool.toNat_false, g2, b_good g3.bad]
/-- the number that stands here, in a range -/
theorem y_number (h : YG B len c i t m) {lo hi : Nat} (hlo : lo < 2 ^ 31) (hhi : hi < 2 ^ 31) : (∃ s t' m', lo ≤ s ∧ s ≤ hi ∧ s ≤ 999 ∧ sX4_takeNumber t (nI lo) (nI hi) = some (t', nI s) ∧ sX7_number m (nI lo) (nI hi) = some (m', nI s) ∧ YG B len c (i + 1) t' m' ∧ LGE m m') ∨ (∃ t' m' v, sX4_takeNumber t (nI lo) (nI hi) = some (t', mone) ∧ sX7_number m (nI lo) (nI hi) = some (m', v) ∧ YB t' m' ∧ LGE m m') := by
  have hck := h.ck
  have hmk := h.mk
  have hsr := h.srt
  have h60 := h.k60
  have hgd := h.good
  unfold sX4_takeNumber sX4_takeNumber_b36 sX7_number sX7_looks sX7_looks_b20
  rw [hck]
  by_cases hk : yk B len i = 2
  · obtain ⟨g1, g2, g3⟩ := h.cn hk
    rw [hsr.2.2.2.1.mpr hk] at hmk
    have hin : sX7_isIn (gI m 0 0 7).toInt64 (nI lo).toInt64 (nI hi).toInt64 = some (nI (inR (gI m 0 0 7) (nI lo) (nI hi)).toNat) := m_isIn _ _ _
    have hl1 : (lg_cmp (lN (yn B len i)) (nI lo).toInt64 < nI 0) = (yn B len i < lo) := by
      rw [lgn_lt, nI_l hlo]; exact propext (pk_lLT (by omega) (by omega))
    have hl2 : (lg_cmp (lN (yn B len i)) (nI hi).toInt64 ≤ nI 0) = (yn B len i ≤ hi) := by
      rw [lgn_le, nI_l hhi]; exact propext (pk_lLE (by omega) (by omega))
    have hir : inR (gI m 0 0 7) (nI lo) (nI hi) = decide (lo ≤ yn B len i ∧ yn B len i ≤ hi) := by
      rw [g3]; unfold inR
      rw [← Bool.decide_and]
      refine decide_eq_decide.mpr ?_
      rw [Int32.le_iff_toInt_le, Int32.le_iff_toInt_le, nI_toInt hlo, nI_toInt hhi, nI_toInt (by omega)]
      omega
    rw [hir, g3] at hin
    by_cases hr : lo ≤ yn B len i ∧ yn B len i ≤ hi
    · left
      rw [decide_eq_true hr] at hin
      obtain ⟨t', m', e1, e2, e3, e4⟩ := y_next h (by omega)
      have q1 : ¬ yn B len i < lo := by omega
      have q2 : yn B len i ≤ hi := hr.2
      refine ⟨yn B len i, t', m', hr.1, hr.2, g1, ?_, ?_, e3, e4.e⟩
      · rw [hk, g2]; simp (disch := omega) only [zl, zm, nI_add, pk_mul, inb_t, ix_n, gd_tt, bd_e, nm_v, ite_not, ↓reduceIte, le_t, le_f, lt_t, lt_f, eq_t, eq_f, mone_f, mone_f2, hl1, hl2, q1, q2, e1, lN_i]
      · rw [g3]; simp (disch := omega) only [zl, zm, nI_add, pk_mul, inb_t, ix_n, gd_tt, bd_e, nm_v, ite_not, ↓reduceIte, le_t, le_f, lt_t, lt_f, eq_t, eq_f, mone_f, mone_f2, hgd, hmk, hin, Bool.toNat_true, e2, g3]
    · right
      rw [decide_eq_false hr] at hin
      obtain ⟨t', m', e1, e2, e3, e4⟩ := y_fail h (show 1 ≤ 2 by omega) (by omega) (fun z => absurd z (by omega))
      refine ⟨t', m', gI m' 0 0 7, ?_, ?_, e3, e4⟩
      · rw [hk, g2]
        by_cases q1 : yn B len i < lo
        · simp (disch := omega) only [zl, zm, nI_add, pk_mul, inb_t, ix_n, gd_tt, bd_e, nm_v, ite_not, ↓reduceIte, le_t, le_f, lt_t, lt_f, eq_t, eq_f, mone_f, mone_f2, hl1, q1, e1]
        · have q2 : ¬ yn B len i ≤ hi := fun z => hr ⟨by omega, z⟩
          simp (disch := omega) only [zl, zm, nI_add, pk_mul, inb_t, ix_n, gd_tt, bd_e, nm_v, ite_not, ↓reduceIte, le_t, le_f, lt_t, lt_f, eq_t, eq_f, mone_f, mone_f2, hl1, hl2, q1, q2, e1]
      · rw [g3]; simp (disch := omega) only [zl, zm, nI_add, pk_mul, inb_t, ix_n, gd_tt, bd_e, nm_v, ite_not, ↓reduceIte, le_t, le_f, lt_t, lt_f, eq_t, eq_f, mone_f, mone_f2, hgd, hmk, hin, Bool.toNat_false, e2, g3, b_good e3.bad]
  · right
    have hs2 : ¬ lxSrt (yk B len i) = 2 := fun z => hk (hsr.2.2.2.1.mp z)
    obtain ⟨t', m', e1, e2, e3, e4⟩ := y_fail h (show 1 ≤ 1 by omega) (by omega) (fun _ => rfl)
    refine ⟨t', m', gI m' 0 0 7, ?_, ?_, e3, e4⟩
    · simp (disch := omega) only [zl, zm, nI_add, pk_mul, inb_t, ix_n, gd_tt, bd_e, nm_v, ite_not, ↓reduceIte, le_t, le_f, lt_t, lt_f, eq_t, eq_f, mone_f, mone_f2, e1]
    · simp (disch := omega) only [zl, zm, nI_add, pk_mul, inb_t, ix_n, gd_tt, bd_e, nm_v, ite_not, ↓reduceIte, le_t, le_f, lt_t, lt_f, eq_t, eq_f, mone_f, mone_f2, hgd, hmk, e2, b_good e3.bad]
/-- a part that may be told -/
theorem y_part {w : Nat} {W : Int64} {l0 : List Nat} (hw : WDX w W l0) (h : YG B len c i t m) {lo hi wo : Nat} (hlo : lo < 2 ^ 31) (hhi : hi < 2 ^ 31) (h1 : lo ≤ wo) (h2 : wo ≤ hi) : (∃ s t' m' i', lo ≤ s ∧ s ≤ hi ∧ i ≤ i' ∧ sX3_readPart w t (nI lo) (nI hi) (nI wo) = some (t', nI s) ∧ sX7_perhaps m W (nI lo) (nI hi) (nI wo) = some (m', nI s) ∧ YG B len c i' t' m' ∧ LGE m m') ∨ (∃ t' m' v, sX3_readPart w t (nI lo) (nI hi) (nI wo) = some (t', mone) ∧ sX7_perhaps m W (nI lo) (nI hi) (nI wo) = some (m', v) ∧ YB t' m' ∧ LGE m m') := by
  obtain ⟨b, e1, e2, e3⟩ := y_word hw h
  unfold sX3_readPart sX7_perhaps
  rw [e1, e2]
  cases b with
  | true =>
    obtain ⟨t', m', g1, g2, g3, g4⟩ := y_next h (by have := (e3.mp rfl).1; omega)
    rcases y_number g3 hlo hhi with ⟨s, t2, m2, a1, a2, a3, a4, a5, a6, a7⟩ | ⟨t2, m2, v, a4, a5, a6, a7⟩
    · left
      refine ⟨s, t2, m2, _, a1, a2, by omega, ?_, ?_, a6, lge_trans g4.e a7⟩
      · simp (disch := omega) only [zl, zm, nI_add, pk_mul, inb_t, ix_n, gd_tt, bd_e, nm_v, ite_not, ↓reduceIte, le_t, le_f, lt_t, lt_f, eq_t, eq_f, mone_f, mone_f2, Bool.toNat_true, g1, a4]
      · simp (disch := omega) only [zl, zm, nI_add, pk_mul, inb_t, ix_n, gd_tt, bd_e, nm_v, ite_not, ↓reduceIte, le_t, le_f, lt_t, lt_f, eq_t, eq_f, mone_f, mone_f2, Bool.toNat_true, g2, a5]
    · right
      refine ⟨t2, m2, v, ?_, ?_, a6, lge_trans g4.e a7⟩
      · simp (disch := omega) only [zl, zm, nI_add, pk_mul, inb_t, ix_n, gd_tt, bd_e, nm_v, ite_not, ↓reduceIte, le_t, le_f, lt_t, lt_f, eq_t, eq_f, mone_f, mone_f2, Bool.toNat_true, g1, a4]
      · simp (disch := omega) only [zl, zm, nI_add, pk_mul, inb_t, ix_n, gd_tt, bd_e, nm_v, ite_not, ↓reduceIte, le_t, le_f, lt_t, lt_f, eq_t, eq_f, mone_f, mone_f2, Bool.toNat_true, g2, a5]
  | false =>
    left
    refine ⟨wo, t, m, i, h1, h2, Nat.le_refl _, ?_, ?_, h, lge_refl m⟩
    · simp (disch := omega) only [zl, zm, nI_add, pk_mul, inb_t, ix_n, gd_tt, bd_e, nm_v, ite_not, ↓reduceIte, le_t, le_f, lt_t, lt_f, eq_t, eq_f, mone_f, mone_f2, Bool.toNat_false]
    · simp (disch := omega) only [zl, zm, nI_add, pk_mul, inb_t, ix_n, gd_tt, bd_e, nm_v, ite_not, ↓reduceIte, le_t, le_f, lt_t, lt_f, eq_t, eq_f, mone_f, mone_f2, Bool.toNat_false]
/-! names -/
theorem y_lookup {l : List Nat} {w : Nat → Int64} (hw : NWd n x w) (ho : okL l) : (∃ k, k < n ∧ w k = lN (mpN l) ∧ gL x (k + 1) 0 0 = lN (cpN l)) ∨ ∀ k, k < n → ¬ w k = lN (mpN l) ∧ ¬ gL x (k + 1) 0 0 = lN (cpN l) := by
  by_cases hq : ∃ k, k < n ∧ w k = lN (mpN l)
  · obtain ⟨k, hk, e⟩ := hq
    left
    obtain ⟨l', o1, o2, o3⟩ := hw.1 k hk
    have : l' = l := (mp_inj o1 ho).mp (o3.symm.trans e)
    exact ⟨k, hk, e, by rw [o2, this]⟩
  · right
    refine fun k hk => ⟨fun e => hq ⟨k, hk, e⟩, fun e => hq ⟨k, hk, ?_⟩⟩
    obtain ⟨l', o1, o2, o3⟩ := hw.1 k hk
    have : l' = l := (cp_inj o1 ho).mp (o2.symm.trans e)
    rw [o3, this]
theorem c_findN (hn : n ≤ 8) (hx : gI x 0 0 2 = nI n) {v : Int64} (h : ∀ k, k < n → ¬ gL x (k + 1) 0 0 = v) : sX5_find x v = some mone := by
  refine fuel_up n (fun F k => sX5_find_b2 F x v (nI k)) _ (fun F => ?_) (fun F k hk => ?_) n 0 FU (by omega) (FU_lt (by omega))
  · simp only [sX5_find_b2]
    rw [hx]
    simp (disch := omega) only [zl, zm, nI_add, pk_mul, inb_t, ix_n, gd_tt, bd_e, nm_v, ite_not, ↓reduceIte, le_t, le_f, lt_t, lt_f, eq_t, eq_f, mone_f, mone_f2]
  · simp only [sX5_find_b2]
    rw [hx]
    have e : (lg_cmp (gL x (k + 1) 0 0) v = nI 0) = False := by rw [lgn_eq]; exact eq_false (h k hk)
    simp (disch := omega) only [zl, zm, nI_add, pk_mul, inb_t, ix_n, gd_tt, bd_e, nm_v, ite_not, ↓reduceIte, le_t, le_f, lt_t, lt_f, eq_t, eq_f, mone_f, mone_f2, e]
theorem c_findS (hn : n ≤ 8) (hx : gI x 0 0 2 = nI n) {v : Int64} {b : Nat} (hb : b < n) (he : gL x (b + 1) 0 0 = v) (h : ∀ k, k < b → ¬ gL x (k + 1) 0 0 = v) : sX5_find x v = some (nI b) := by
  refine fuel_up b (fun F k => sX5_find_b2 F x v (nI k)) _ (fun F => ?_) (fun F k hk => ?_) b 0 FU (by omega) (FU_lt (by omega))
  · simp only [sX5_find_b2]
    rw [hx]
    have e : (lg_cmp (gL x (b + 1) 0 0) v = nI 0) = True := by rw [lgn_eq]; exact eq_true he
    simp (disch := omega) only [zl, zm, nI_add, pk_mul, inb_t, ix_n, gd_tt, bd_e, nm_v, ite_not, ↓reduceIte, le_t, le_f, lt_t, lt_f, eq_t, eq_f, mone_f, mone_f2, e]
  · simp only [sX5_find_b2]
    rw [hx]
    have e : (lg_cmp (gL x (k + 1) 0 0) v = nI 0) = False := by rw [lgn_eq]; exact eq_false (h k hk)
    simp (disch := omega) only [zl, zm, nI_add, pk_mul, inb_t, ix_n, gd_tt, bd_e, nm_v, ite_not, ↓reduceIte, le_t, le_f, lt_t, lt_f, eq_t, eq_f, mone_f, mone_f2, e]
theorem m_findN (hn : n ≤ 8) (hm : gI m 0 2 0 = nI n) (h : ∀ k, k < n → ¬ gL m 0 7 k = gL m 0 0 12) : sX7_named m = some mone := by
  refine fuel_up n (fun F k => sX7_named_b4 F m mone (nI k)) _ (fun F => ?_) (fun F k hk => ?_) n 0 FU (by omega) (FU_lt (by omega))
  · simp only [sX7_named_b4]
    simp (disch := omega) only [zl, zm, nI_add, pk_mul, inb_t, ix_n, gd_tt, bd_e, nm_v, ite_not, ↓reduceIte, le_t, le_f, lt_t, lt_f, eq_t, eq_f, mone_f, mone_f2, hm]
  · simp only [sX7_named_b4]
    have e : (lg_cmp (gL m 0 7 k) (gL m 0 0 12) = nI 0) = False := by rw [lgn_eq]; exact eq_false (h k hk)
    simp (disch := omega) only [zl, zm, nI_add, pk_mul, inb_t, ix_n, gd_tt, bd_e, nm_v, ite_not, ↓reduceIte, le_t, le_f, lt_t, lt_f, eq_t, eq_f, mone_f, mone_f2, hm, e]
theorem m_findS (hn : n ≤ 8) (hm : gI m 0 2 0 = nI n) {b : Nat} (hb : b < n) (he : gL m 0 7 b = gL m 0 0 12) (h : ∀ k, k < n → ¬ k = b → ¬ gL m 0 7 k = gL m 0 0 12) : sX7_named m = some (nI b) := by
  refine fuel_up n (fun F k => sX7_named_b4 F m (if b < k then nI b else mone) (nI k)) _ (fun F => ?_) (fun F k hk => ?_) n 0 FU (by omega) (FU_lt (by omega))
  · simp only [sX7_named_b4]
    rw [if_pos hb]
    simp (disch := omega) only [zl, zm, nI_add, pk_mul, inb_t, ix_n, gd_tt, bd_e, nm_v, ite_not, ↓reduceIte, le_t, le_f, lt_t, lt_f, eq_t, eq_f, mone_f, mone_f2, hm]
  · simp only [sX7_named_b4]
    by_cases hkb : k = b
    · have e : (lg_cmp (gL m 0 7 b) (gL m 0 0 12) = nI 0) = True := by rw [lgn_eq]; exact eq_true he
      have e1 : (if b < b then nI b else mone) = mone := if_neg (by omega)
      have e2 : (if b < b + 1 then nI b else mone) = nI b := if_pos (by omega)
      rw [hkb, e1, e2]
      simp (disch := omega) only [zl, zm, nI_add, pk_mul, inb_t, ix_n, gd_tt, bd_e, nm_v, ite_not, ↓reduceIte, le_t, le_f, lt_t, lt_f, eq_t, eq_f, mone_f, mone_f2, hm, e]
    · have e : (lg_cmp (gL m 0 7 k) (gL m 0 0 12) = nI 0) = False := by rw [lgn_eq]; exact eq_false (h k hk hkb)
      have e1 : (if b < k + 1 then nI b else mone) = if b < k then nI b else mone := by
        by_cases z : b < k
        · rw [if_pos z, if_pos (by omega)]
        · rw [if_neg z, if_neg (by omega)]
      rw [e1]
      simp (disch := omega) only [zl, zm, nI_add, pk_mul, inb_t, ix_n, gd_tt, bd_e, nm_v, ite_not, ↓reduceIte, le_t, le_f, lt_t, lt_f, eq_t, eq_f, mone_f, mone_f2, hm, e]
/-- a name, looked for on both sides -/
theorem y_find (h : YG B len c i t m) (hk : yk B len i = 1) (hn : n ≤ 8) (hx : gI x 0 0 2 = nI n) (hm : gI m 0 2 0 = nI n) (hw : NWd n x (gL m 0 7)) : (∃ k, k < n ∧ sX5_find x (gL t 0 0 7) = some (nI k) ∧ sX7_named m = some (nI k)) ∨ (sX5_find x (gL t 0 0 7) = some mone ∧ sX7_named m = some mone ∧ ∀ k, k < n → ¬ gL m 0 7 k = gL m 0 0 12) := by
  obtain ⟨ho, hv, hv2⟩ := h.cl hk
  rcases y_lookup hw ho with ⟨k, k1, k2, k3⟩ | hno
  · left
    refine ⟨k, k1, c_findS hn hx k1 (k3.trans hv.symm) fun j hj he => ?_, m_findS hn hm k1 (k2.trans hv2.symm) fun j hj hjk he => hjk (hw.2 j k hj k1 ((he.trans hv2).trans k2.symm))⟩
    obtain ⟨l', o1, o2, o3⟩ := hw.1 j (by omega)
    have e1 : l' = yl B len i := (cp_inj o1 ho).mp (o2.symm.trans (he.trans hv))
    have e2 := hw.2 j k (by omega) k1 (by rw [o3, e1, k2])
    omega
  · right
    refine ⟨c_findN hn hx fun k hk => ?_, m_findN hn hm fun k hk => ?_, fun k hk => ?_⟩
    · rw [hv]; exact (hno k hk).2
    · rw [hv2]; exact (hno k hk).1
    · rw [hv2]; exact (hno k hk).1
end
