/-! stage B: all statements of a text -/
theorem wd_costs : WDX 13 3657363 [99, 111, 115, 116, 115] := ⟨⟨by decide, by decide, by decide⟩, by decide, rfl, by decide +kernel, by decide +kernel⟩
theorem wd_seed : WDX 14 627876 [115, 101, 101, 100] := ⟨⟨by decide, by decide, by decide⟩, by decide, rfl, by decide +kernel, by decide +kernel⟩
theorem wd_tries : WDX 15 21570739 [116, 114, 105, 101, 115] := ⟨⟨by decide, by decide, by decide⟩, by decide, rfl, by decide +kernel, by decide +kernel⟩
theorem wd_memory : WDX 16 441892441 [109, 101, 109, 111, 114, 121] := ⟨⟨by decide, by decide, by decide⟩, by decide, rfl, by decide +kernel, by decide +kernel⟩
theorem wd_beacon : WDX 17 72388078 [98, 101, 97, 99, 111, 110] := ⟨⟨by decide, by decide, by decide⟩, by decide, rfl, by decide +kernel, by decide +kernel⟩
theorem wd_near : WDX 10 463922 [110, 101, 97, 114] := ⟨⟨by decide, by decide, by decide⟩, by decide, rfl, by decide +kernel, by decide +kernel⟩
section
variable {B : Nat → Nat} {len c i i' n : Nat} {t t' m x x1 d x' m' X : St} {f f' : Nat → Int32} {w w' : Nat → Int64}
theorem th_dr {s : Nat} (h : TH n (gI x 0) f) : TH n (gI (pI x 0 0 6 (nI s)) 0) (upd f 7 (nI s)) := by
  obtain ⟨tr, h1, h2, h3, h4, h5, h6, h7, h8, h9, h10, h11, h12, h13, h14, h15, h16, h17, h18⟩ := h
  refine ⟨tr, h1, ?_, ?_, ?_, ?_, ?_, ?_, ?_, ?_, ?_, ?_, ?_, ?_, ?_, ?_, ?_, ?_, fun j hj => ?lst⟩
  case lst =>
    obtain ⟨z, z1, z2, z3⟩ := h18 j hj
    exact ⟨z, z1, by rw [gI_pI, if_neg (by omega)]; exact z2, by rw [upd_e, if_neg (by omega)]; exact z3⟩
  all_goals try simp (disch := omega) only [upd_e, gI_pI, gL_pL, gI_pL, gL_pI, qe, qn, not_true_eq_false, not_false_eq_true, true_and, and_true, false_and, and_false, and_self, Nat.add_right_cancel_iff, ↓reduceIte]
  all_goals assumption
theorem th_me {s : Nat} (h : TH n (gI x 0) f) : TH n (gI (pI x 0 0 4 (nI s)) 0) (upd f 3 (nI s)) := by
  obtain ⟨tr, h1, h2, h3, h4, h5, h6, h7, h8, h9, h10, h11, h12, h13, h14, h15, h16, h17, h18⟩ := h
  refine ⟨tr, h1, ?_, ?_, ?_, ?_, ?_, ?_, ?_, ?_, ?_, ?_, ?_, ?_, ?_, ?_, ?_, ?_, fun j hj => ?lst⟩
  case lst =>
    obtain ⟨z, z1, z2, z3⟩ := h18 j hj
    exact ⟨z, z1, by rw [gI_pI, if_neg (by omega)]; exact z2, by rw [upd_e, if_neg (by omega)]; exact z3⟩
  all_goals try simp (disch := omega) only [upd_e, gI_pI, gL_pL, gI_pL, gL_pI, qe, qn, not_true_eq_false, not_false_eq_true, true_and, and_true, false_and, and_false, and_self, Nat.add_right_cancel_iff, ↓reduceIte]
  all_goals assumption
theorem th_tr {s : Nat} (h : TH n (gI x 0) f) (hs : s ≤ 9) : TH n (gI (pI x 0 0 3 (nI s)) 0) (upd f 2 (nI s)) := by
  obtain ⟨tr, h1, h2, h3, h4, h5, h6, h7, h8, h9, h10, h11, h12, h13, h14, h15, h16, h17, h18⟩ := h
  refine ⟨s, hs, ?_, ?_, ?_, ?_, ?_, ?_, ?_, ?_, ?_, ?_, ?_, ?_, ?_, ?_, ?_, ?_, fun j hj => ?lst⟩
  case lst =>
    obtain ⟨z, z1, z2, z3⟩ := h18 j hj
    exact ⟨z, z1, by rw [gI_pI, if_neg (by omega)]; exact z2, by rw [upd_e, if_neg (by omega)]; exact z3⟩
  all_goals try simp (disch := omega) only [upd_e, gI_pI, gL_pL, gI_pL, gL_pI, qe, qn, not_true_eq_false, not_false_eq_true, true_and, and_true, false_and, and_false, and_self, Nat.add_right_cancel_iff, ↓reduceIte]
  all_goals assumption
/-- a statement but its ';' -/
theorem y_st0 (h : YG B len c i t m) (hw : TW n x (gI m 0 2) (gL m 0 7)) (hd : DT d m) : SGD B len c i (sX3_readStatement x t d) (sX7_statement m) m ∨ SBD (sX3_readStatement x t d) (sX7_statement m) m := by
  have hif0 : ∀ (α : Type) (u v : α), (if nI false.toNat = 0 then u else v) = u := fun α u v => if_pos (by decide)
  have hif1 : ∀ (α : Type) (u v : α), (if nI true.toNat = 0 then u else v) = v := fun α u v => if_neg (by decide)
  unfold sX3_readStatement sX7_statement

  obtain ⟨b1, p1, q1, r1⟩ := y_word wd_costs h
  rw [p1, q1]
  cases b1 with
  | true =>
    have hk := (r1.mp rfl).1
    simp only [bd_e, hif1]
    rcases tx_once (bit := 0) (wh := 1) (by decide) h hk hd with ⟨t1, d1, m1, a1, a2, a3, a4, a5, a6, a7⟩ | ⟨t1, d1, m1, a1, a2, a3, a4⟩
    · rcases tx_costs 4 0 FU FU (i + 1) x t1 m1 rfl (FU_lt (by omega)) (FU_lt (by omega)) a3 (by rw [a6, a7]; exact hw) with ⟨x', t', m', i', g1, g2, g3, g4, g5, g6, g7⟩ | ⟨x', t', m', g2, g3, g4, g5⟩
      · left
        refine ⟨x', t', d1, m', i', n, ?_, ?_, by omega, g4, g5, a4.cg g7, tf_trans a5 g6⟩
        · unfold sX3_readCosts
          simp (disch := omega) only [zl, zm, nI_add, pk_mul, inb_t, ix_n, gd_tt, bd_e, nm_v, ite_not, ↓reduceIte, le_t, le_f, lt_t, lt_f, eq_t, eq_f, mone_f, mone_f2, a1, g2]
        · simp (disch := omega) only [zl, zm, nI_add, pk_mul, inb_t, ix_n, gd_tt, bd_e, nm_v, ite_not, ↓reduceIte, le_t, le_f, lt_t, lt_f, eq_t, eq_f, mone_f, mone_f2, a2, g3]
      · right
        refine ⟨x', t', d1, m', ?_, ?_, g4, tf_trans a5 g5⟩
        · unfold sX3_readCosts
          simp (disch := omega) only [zl, zm, nI_add, pk_mul, inb_t, ix_n, gd_tt, bd_e, nm_v, ite_not, ↓reduceIte, le_t, le_f, lt_t, lt_f, eq_t, eq_f, mone_f, mone_f2, a1, g2]
        · simp (disch := omega) only [zl, zm, nI_add, pk_mul, inb_t, ix_n, gd_tt, bd_e, nm_v, ite_not, ↓reduceIte, le_t, le_f, lt_t, lt_f, eq_t, eq_f, mone_f, mone_f2, a2, g3]
    · right
      obtain ⟨m', g1, g2, g3, g4⟩ := bx_costs 4 0 FU m1 a3.bad rfl (FU_lt (by omega))
      refine ⟨x, t1, d1, m', ?_, ?_, a3.cg g3 g4, tf_trans a4 g2⟩
      · simp (disch := omega) only [zl, zm, nI_add, pk_mul, inb_t, ix_n, gd_tt, bd_e, nm_v, ite_not, ↓reduceIte, le_t, le_f, lt_t, lt_f, eq_t, eq_f, mone_f, mone_f2, a1]
      · simp (disch := omega) only [zl, zm, nI_add, pk_mul, inb_t, ix_n, gd_tt, bd_e, nm_v, ite_not, ↓reduceIte, le_t, le_f, lt_t, lt_f, eq_t, eq_f, mone_f, mone_f2, a2, g1]
  | false =>
  simp only [bd_e, hif0]
  obtain ⟨b2, p2, q2, r2⟩ := y_word wd_seed h
  rw [p2, q2]
  cases b2 with
  | true =>
    simp only [bd_e, hif1]
    exact tx_one (kc := 6) (km := 7) (lo := 0) (hi := 999) (bit := 1) (wh := 2) sX3_readSeed (fun x t => (fun h => h) rfl) (by omega) (by omega) (by omega) (fun s x f hs1 hs2 hh => th_dr hh) (by decide) h (r2.mp rfl).1 hd hw ((fun h => h) rfl) ((fun h => h) rfl)
  | false =>
  simp only [bd_e, hif0]
  obtain ⟨b3, p3, q3, r3⟩ := y_word wd_tries h
  rw [p3, q3]
  cases b3 with
  | true =>
    simp only [bd_e, hif1]
    exact tx_one (kc := 3) (km := 2) (lo := 1) (hi := 9) (bit := 2) (wh := 4) sX3_readTries (fun x t => (fun h => h) rfl) (by omega) (by omega) (by omega) (fun s x f hs1 hs2 hh => th_tr hh hs2) (by decide) h (r3.mp rfl).1 hd hw ((fun h => h) rfl) ((fun h => h) rfl)
  | false =>
  simp only [bd_e, hif0]
  obtain ⟨b4, p4, q4, r4⟩ := y_word wd_memory h
  rw [p4, q4]
  cases b4 with
  | true =>
    simp only [bd_e, hif1]
    exact tx_one (kc := 4) (km := 3) (lo := 1) (hi := 999) (bit := 3) (wh := 8) sX3_readMemory (fun x t => (fun h => h) rfl) (by omega) (by omega) (by omega) (fun s x f hs1 hs2 hh => th_me hh) (by decide) h (r4.mp rfl).1 hd hw ((fun h => h) rfl) ((fun h => h) rfl)
  | false =>
  simp only [bd_e, hif0]
  obtain ⟨b5, p5, q5, r5⟩ := y_word wd_beacon h
  rw [p5, q5]
  cases b5 with
  | true =>
    simp only [bd_e, hif1]
    rcases tx_beacon h (r5.mp rfl).1 hw with ⟨X, t', m', i', n', g1, g2, g3, g4, g5, g6, g7⟩ | ⟨x', t', m', g1, g2, g3, g4⟩
    · left
      refine ⟨X, t', d, m', i', n', ?_, ?_, g3, g4, g5, hd.cg g7, g6⟩
      · rw [g1, bd_e]; exact if_pos isb_1
      · rw [g2, bd_e]
    · right
      refine ⟨x', t', d, m', ?_, ?_, g3, g4⟩
      · rw [g1, bd_e]; exact if_pos isb_0
      · rw [g2, bd_e]; exact b_182 g3.bad
  | false =>
  simp only [bd_e, hif0]
  obtain ⟨b6, p6, q6, r6⟩ := y_word wd_near h
  rw [p6, q6]
  cases b6 with
  | true =>
    simp only [bd_e, hif1]
    rcases tx_near h (r6.mp rfl).1 hw with ⟨X, f', ⟨t', m', i', g1, g2, g3, g4, g5, g6, g7, g8⟩, g9⟩ | ⟨x', t', m', g1, g2, g3, g4⟩
    · left
      refine ⟨X, t', d, m', i', n, ?_, ?_, by omega, g4, ?_, hd.cg g8, g7⟩
      · rw [g1, bd_e]; exact if_pos isb_1
      · rw [g2, bd_e]
      · rw [g5, g6]; exact g9
    · right
      refine ⟨x', t', d, m', ?_, ?_, g3, g4⟩
      · rw [g1, bd_e]; exact if_pos isb_0
      · rw [g2, bd_e]; exact b_182 g3.bad
  | false =>
  simp only [bd_e, hif0]
  right
  obtain ⟨t', m', e1, e2, e3, e4⟩ := y_fail h (show 1 ≤ 1 by omega) (by omega) (fun _ => rfl)
  refine ⟨x, t', d, m', ?_, ?_, e3, e4.tf⟩
  · simp (disch := omega) only [zl, zm, nI_add, pk_mul, inb_t, ix_n, gd_tt, bd_e, nm_v, ite_not, ↓reduceIte, le_t, le_f, lt_t, lt_f, eq_t, eq_f, mone_f, mone_f2, e1, isb_0]
  · simp (disch := omega) only [zl, zm, nI_add, pk_mul, inb_t, ix_n, gd_tt, bd_e, nm_v, ite_not, ↓reduceIte, le_t, le_f, lt_t, lt_f, eq_t, eq_f, mone_f, mone_f2, e2, b_182 e3.bad]
/-- a statement with its ';' -/
theorem y_st (h : YG B len c i t m) (hw : TW n x (gI m 0 2) (gL m 0 7)) (hd : DT d m) : (∃ x' t' t2 d' m' i' n', sX3_readStatement x t d = some (x', t', d', nI 1) ∧ sX4_takeSign t' (nI 59) = some (t2, nI 1) ∧ sX7_statement m = some m' ∧ i < i' ∧ YG B len c i' t2 m' ∧ TW n' x' (gI m' 0 2) (gL m' 0 7) ∧ DT d' m' ∧ TF m m') ∨ (∃ x' t' t2 d' m', (sX3_readStatement x t d = some (x', t2, d', nI 0) ∨ (sX3_readStatement x t d = some (x', t', d', nI 1) ∧ sX4_takeSign t' (nI 59) = some (t2, nI 0))) ∧ sX7_statement m = some m' ∧ YB t2 m' ∧ TF m m') := by
  rcases y_st0 h hw hd with ⟨x', t', d', m', i', n', g1, g2, g3, g4, g5, g6, g7⟩ | ⟨x', t', d', m', g1, g2, g3, g4⟩
  · obtain ⟨b, t2, m2, e1, e2, e3, e4, e5⟩ := y_sign (s := 59) g4 (Or.inl rfl)
    have hM : sX7_statement m = some m2 := by
      rw [g2]; unfold sX7_statement_b182
      simp (disch := omega) only [zl, zm, nI_add, pk_mul, inb_t, ix_n, gd_tt, bd_e, nm_v, ite_not, ↓reduceIte, le_t, le_f, lt_t, lt_f, eq_t, eq_f, mone_f, mone_f2, e2]
    cases b with
    | true =>
      left
      refine ⟨x', t', t2, d', m2, i' + 1, n', g1, e1, hM, by omega, (e4 rfl).2, ?_, g6.cg e3.f23, tf_trans g7 e3.tf⟩
      rw [e3.row, e3.nam]; exact g5
    | false =>
      right
      exact ⟨x', t', t2, d', m2, Or.inr ⟨g1, e1⟩, hM, e5 rfl, tf_trans g7 e3.tf⟩
  · right
    exact ⟨x', t', t', d', m', Or.inl g1, g2, g3, g4⟩
theorem tx_all : ∀ (e k i n F G : Nat) (x t d m : St), c < i + e → k ≤ i → e ≤ F → e ≤ G → YG B len c i t m → TW n x (gI m 0 2) (gL m 0 7) → DT d m → (∃ x' t' d' m' n', sX3_readAll_b11 F x t d (nI k) = some (x', t', d', nI 1) ∧ sX7_readText_b28 G m = sX7_readText_b49 m' ∧ gI t' 0 0 8 = nI 0 ∧ gI t' 0 0 9 = mone ∧ gI m' 0 0 8 = nI 0 ∧ gI m' 0 0 9 = mone ∧ TW n' x' (gI m' 0 2) (gL m' 0 7) ∧ TF m m') ∨ (∃ x' t' d' m', sX3_readAll_b11 F x t d (nI k) = some (x', t', d', nI 0) ∧ sX7_readText_b28 G m = sX7_readText_b49 m' ∧ YB t' m' ∧ TF m m')
  | 0, k, i, n, F, G, x, t, d, m, h1, _, _, _, h, _, _ => absurd h.2.2.2.1 (by omega)
  | e + 1, k, i, n, 0, G, x, t, d, m, _, _, h, _, _, _, _ => absurd h (by omega)
  | e + 1, k, i, n, F, 0, x, t, d, m, _, _, _, h, _, _, _ => absurd h (by omega)
  | e + 1, k, i, n, F + 1, G + 1, x, t, d, m, h1, h2, h3, h4, h, hw, hd => by
    have hck := h.ck
    have hmk := h.mk
    have hsr := h.srt
    have h60 := h.k60
    have hic := h.2.2.2.1
    have hc7 := h.2.1.2.1
    have hcl := h.2.1.2.2.1
    have hsp := h.sp.1
    simp only [sX3_readAll_b11, sX7_readText_b28]
    by_cases hk : yk B len i = 0
    · left
      rw [hk] at hck
      rw [hsr.2.1.mpr hk] at hmk
      refine ⟨x, t, d, m, n, ?_, ?_, h.2.2.2.2.2.2.1, h.2.2.2.2.2.2.2.1, h.2.2.2.2.2.2.2.2.1, h.2.2.2.2.2.2.2.2.2, hw, tf_refl m⟩
      · by_cases hk7 : 700 ≤ k
        · simp (disch := omega) only [zl, zm, nI_add, pk_mul, inb_t, ix_n, gd_tt, bd_e, nm_v, ite_not, ↓reduceIte, le_t, le_f, lt_t, lt_f, eq_t, eq_f, mone_f, mone_f2]
        · simp (disch := omega) only [zl, zm, nI_add, pk_mul, inb_t, ix_n, gd_tt, bd_e, nm_v, ite_not, ↓reduceIte, le_t, le_f, lt_t, lt_f, eq_t, eq_f, mone_f, mone_f2, hck]
      · simp (disch := omega) only [zl, zm, nI_add, pk_mul, inb_t, ix_n, gd_tt, bd_e, nm_v, ite_not, ↓reduceIte, le_t, le_f, lt_t, lt_f, eq_t, eq_f, mone_f, mone_f2, h.good, hmk]
    · have hlt : i < c := by
        rcases Nat.eq_or_lt_of_le hic with z | z
        · exact absurd (hsp.mpr (by rw [z]; exact hcl)) hk
        · exact z
      have hs0 : ¬ lxSrt (yk B len i) = 0 := fun z => hk (hsr.2.1.mp z)
      have hso : lxSrt (yk B len i) ≤ 4 := hsr.1
      rcases y_st h hw hd with ⟨x', t', t2, d', m', i', n', g1, g2, g3, g4, g5, g6, g7, g8⟩ | ⟨x', t', t2, d', m', g1, g3, g4, g5⟩
      · rcases tx_all e (k + 1) i' n' F G x' t2 d' m' (by omega) (by omega) (by omega) (by omega) g5 g6 g7 with ⟨x3, t3, d3, m3, n3, f1, f2, f3, f4, f5, f6, f7, f8⟩ | ⟨x3, t3, d3, m3, f1, f2, f3, f4⟩
        · left
          refine ⟨x3, t3, d3, m3, n3, ?_, ?_, f3, f4, f5, f6, f7, tf_trans g8 f8⟩
          · simp (disch := omega) only [zl, zm, nI_add, pk_mul, inb_t, ix_n, gd_tt, bd_e, nm_v, ite_not, ↓reduceIte, le_t, le_f, lt_t, lt_f, eq_t, eq_f, mone_f, mone_f2, hck, g1, g2]; exact f1
          · simp (disch := omega) only [zl, zm, nI_add, pk_mul, inb_t, ix_n, gd_tt, bd_e, nm_v, ite_not, ↓reduceIte, le_t, le_f, lt_t, lt_f, eq_t, eq_f, mone_f, mone_f2, h.good, hmk, g3]; exact f2
        · right
          refine ⟨x3, t3, d3, m3, ?_, ?_, f3, tf_trans g8 f4⟩
          · simp (disch := omega) only [zl, zm, nI_add, pk_mul, inb_t, ix_n, gd_tt, bd_e, nm_v, ite_not, ↓reduceIte, le_t, le_f, lt_t, lt_f, eq_t, eq_f, mone_f, mone_f2, hck, g1, g2]; exact f1
          · simp (disch := omega) only [zl, zm, nI_add, pk_mul, inb_t, ix_n, gd_tt, bd_e, nm_v, ite_not, ↓reduceIte, le_t, le_f, lt_t, lt_f, eq_t, eq_f, mone_f, mone_f2, h.good, hmk, g3]; exact f2
      · right
        refine ⟨x', t2, d', m', ?_, ?_, g4, g5⟩
        · rcases g1 with q | ⟨q, q2⟩
          · simp (disch := omega) only [zl, zm, nI_add, pk_mul, inb_t, ix_n, gd_tt, bd_e, nm_v, ite_not, ↓reduceIte, le_t, le_f, lt_t, lt_f, eq_t, eq_f, mone_f, mone_f2, hck, q]
          · simp (disch := omega) only [zl, zm, nI_add, pk_mul, inb_t, ix_n, gd_tt, bd_e, nm_v, ite_not, ↓reduceIte, le_t, le_f, lt_t, lt_f, eq_t, eq_f, mone_f, mone_f2, hck, q, q2]
        · have hend : sX7_readText_b28 G m' = sX7_readText_b49 m' := by
            obtain ⟨G, rfl⟩ : ∃ G', G = G' + 1 := ⟨G - 1, by omega⟩
            simp only [sX7_readText_b28]
            simp (disch := omega) only [zl, zm, nI_add, pk_mul, inb_t, ix_n, gd_tt, bd_e, nm_v, ite_not, ↓reduceIte, le_t, le_f, lt_t, lt_f, eq_t, eq_f, mone_f, mone_f2, b_good g4.bad]
          simp (disch := omega) only [zl, zm, nI_add, pk_mul, inb_t, ix_n, gd_tt, bd_e, nm_v, ite_not, ↓reduceIte, le_t, le_f, lt_t, lt_f, eq_t, eq_f, mone_f, mone_f2, h.good, hmk, g3]; exact hend
end