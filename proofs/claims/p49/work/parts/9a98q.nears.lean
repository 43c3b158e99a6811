/-! stage B: costs, and who is near -/
section
variable {B : Nat → Nat} {len c i n : Nat} {t m x d x' m' : St} {f f' : Nat → Int32} {w w' : Nat → Int64}
theorem bx_costs : ∀ (d k F : Nat) (m : St), BMD m → k + d = 4 → d < F → ∃ m', sX7_statement_b17 F m (nI k) = some m' ∧ TF m m' ∧ gI m' 0 0 8 = gI m 0 0 8 ∧ gI m' 0 0 9 = gI m 0 0 9
  | d, k, 0, m, _, _, h => absurd h (by omega)
  | 0, k, F + 1, m, hb, h1, h2 => by
    refine ⟨m, ?_, tf_refl m, rfl, rfl⟩
    simp only [sX7_statement_b17]
    simp (disch := omega) only [zl, zm, nI_add, pk_mul, inb_t, ix_n, gd_tt, bd_e, nm_v, ite_not, ↓reduceIte, le_t, le_f, lt_t, lt_f, eq_t, eq_f, mone_f, mone_f2, b_182 hb]
  | d + 1, k, F + 1, m, hb, h1, h2 => by
    have e : ∀ k', gI (pI m 0 2 (8 + k) (gI m 0 0 7)) 0 0 k' = gI m 0 0 k' := fun k' => by rw [gI_pI, if_neg (by omega)]
    obtain ⟨m', a1, a2, a3, a4⟩ := bx_costs d (k + 1) F (pI m 0 2 (8 + k) (gI m 0 0 7)) (bmd_f hb (e 8)) (by omega) (by omega)
    have hh : TF m (pI m 0 2 (8 + k) (gI m 0 0 7)) := ⟨fun j k p q => by rw [gI_pI, if_neg (by omega)], fun j k p q => rfl⟩
    refine ⟨m', ?_, tf_trans hh a2, a3.trans (e 8), a4.trans (e 9)⟩
    simp only [sX7_statement_b17]
    simp (disch := omega) only [zl, zm, nI_add, pk_mul, inb_t, ix_n, gd_tt, bd_e, nm_v, ite_not, ↓reduceIte, le_t, le_f, lt_t, lt_f, eq_t, eq_f, mone_f, mone_f2, b_number hb]
    exact a1
theorem th_cost {k s : Nat} (h : TH n (gI x 0) f) (hk : k < 4) (hs : s ≤ 99) : TH n (gI (pI x 0 1 k (nI s)) 0) (upd f (8 + k) (nI s)) := by
  obtain ⟨tr, h1, h2, h3, h4, h5, h6, h7, h8, h9, h10, h11, h12, h13, h14, h15, h16, h17, h18⟩ := h
  refine ⟨tr, h1, ?_, ?_, ?_, ?_, ?_, ?_, ?_, ?_, ?_, ?_, ?_, ?_, ?_, ?_, ?_, ?_, fun j hj => ?lst⟩
  case lst =>
    by_cases hjk : j = k
    · subst hjk
      exact ⟨s, hs, by rw [gI_pI, if_pos ⟨rfl, rfl, rfl⟩], by rw [upd_e, if_pos rfl]⟩
    · obtain ⟨z, z1, z2, z3⟩ := h18 j hj
      exact ⟨z, z1, by rw [gI_pI, if_neg (by omega)]; exact z2, by rw [upd_e, if_neg (by omega)]; exact z3⟩
  all_goals try simp (disch := omega) only [upd_e, gI_pI, gL_pL, gI_pL, gL_pI, qe, qn, not_true_eq_false, not_false_eq_true, true_and, and_true, false_and, and_false, and_self, Nat.add_right_cancel_iff, ↓reduceIte]
  all_goals assumption
theorem row_pI (m : St) (k : Nat) (v : Int32) : gI (pI m 0 2 k v) 0 2 = upd (gI m 0 2) k v := funext fun j => by
  rw [gI_pI, upd_e]
  by_cases e : j = k
  · rw [if_pos ⟨rfl, rfl, e⟩, if_pos e]
  · rw [if_neg (by omega), if_neg e]
theorem tx_costs : ∀ (d k F G i : Nat) (x t m : St), k + d = 4 → d < F → d < G → YG B len c i t m → TW n x (gI m 0 2) (gL m 0 7) → (∃ x' t' m' i', i ≤ i' ∧ sX3_readCosts_b2 F x t (nI k) = some (x', t', nI 1) ∧ sX7_statement_b17 G m (nI k) = sX7_statement_b182 m' ∧ YG B len c i' t' m' ∧ TW n x' (gI m' 0 2) (gL m' 0 7) ∧ TF m m' ∧ gI m' 0 0 23 = gI m 0 0 23) ∨ (∃ x' t' m', sX3_readCosts_b2 F x t (nI k) = some (x', t', nI 0) ∧ sX7_statement_b17 G m (nI k) = some m' ∧ YB t' m' ∧ TF m m')
  | d, k, 0, _, i, x, t, m, _, h, _, _, _ => absurd h (by omega)
  | d, k, _, 0, i, x, t, m, _, _, h, _, _ => absurd h (by omega)
  | 0, k, F + 1, G + 1, i, x, t, m, h1, h2, h3, h4, h5 => by
    left
    refine ⟨x, t, m, i, Nat.le_refl _, ?_, ?_, h4, h5, tf_refl m, rfl⟩
    · simp only [sX3_readCosts_b2]; simp (disch := omega) only [zl, zm, nI_add, pk_mul, inb_t, ix_n, gd_tt, bd_e, nm_v, ite_not, ↓reduceIte, le_t, le_f, lt_t, lt_f, eq_t, eq_f, mone_f, mone_f2]
    · simp only [sX7_statement_b17]; simp (disch := omega) only [zl, zm, nI_add, pk_mul, inb_t, ix_n, gd_tt, bd_e, nm_v, ite_not, ↓reduceIte, le_t, le_f, lt_t, lt_f, eq_t, eq_f, mone_f, mone_f2]
  | d + 1, k, F + 1, G + 1, i, x, t, m, h1, h2, h3, h4, h5 => by
    simp only [sX3_readCosts_b2, sX7_statement_b17, zl]
    rcases y_number (lo := 0) (hi := 99) h4 (by omega) (by omega) with ⟨s, t2, m2, b1, b2, b3, b4, b5, b6, b7⟩ | ⟨t2, m2, v, b4, b5, b6, b7⟩
    · have hW : TW n (pI x 0 1 k (nI s)) (gI (pI m2 0 2 (8 + k) (nI s)) 0 2) (gL (pI m2 0 2 (8 + k) (nI s)) 0 7) := by
        rw [row_pI, b7.row, show gL (pI m2 0 2 (8 + k) (nI s)) 0 7 = gL m 0 7 from b7.nam]
        exact tw_head h5 (fun b => bv_0) rfl (fun k hk => by rw [upd_e, if_neg (by omega)]) (th_cost h5.2.1 (by omega) b2)
      have hG : YG B len c (i + 1) t2 (pI m2 0 2 (8 + k) (nI s)) := b6.cg (fun j k p q => by rw [gI_pI, if_neg (by omega)]) (fun j k p => rfl)
      have hh : TF m2 (pI m2 0 2 (8 + k) (nI s)) := ⟨fun j k p q => by rw [gI_pI, if_neg (by omega)], fun j k p q => rfl⟩
      have h23 : gI (pI m2 0 2 (8 + k) (nI s)) 0 0 23 = gI m 0 0 23 := by rw [gI_pI, if_neg (by omega)]; exact b7.f23
      rcases tx_costs d (k + 1) F G (i + 1) _ t2 _ (by omega) (by omega) (by omega) hG hW with ⟨x', t', m', i', a1, a2, a3, a4, a5, a6, a7⟩ | ⟨x', t', m', a2, a3, a4, a5⟩
      · left
        refine ⟨x', t', m', i', by omega, ?_, ?_, a4, a5, tf_trans b7.tf (tf_trans hh a6), a7.trans h23⟩
        · simp (disch := omega) only [zl, zm, nI_add, pk_mul, inb_t, ix_n, gd_tt, bd_e, nm_v, ite_not, ↓reduceIte, le_t, le_f, lt_t, lt_f, eq_t, eq_f, mone_f, mone_f2, b4]; exact a2
        · simp (disch := omega) only [zl, zm, nI_add, pk_mul, inb_t, ix_n, gd_tt, bd_e, nm_v, ite_not, ↓reduceIte, le_t, le_f, lt_t, lt_f, eq_t, eq_f, mone_f, mone_f2, b5]; exact a3
      · right
        refine ⟨x', t', m', ?_, ?_, a4, tf_trans b7.tf (tf_trans hh a5)⟩
        · simp (disch := omega) only [zl, zm, nI_add, pk_mul, inb_t, ix_n, gd_tt, bd_e, nm_v, ite_not, ↓reduceIte, le_t, le_f, lt_t, lt_f, eq_t, eq_f, mone_f, mone_f2, b4]; exact a2
        · simp (disch := omega) only [zl, zm, nI_add, pk_mul, inb_t, ix_n, gd_tt, bd_e, nm_v, ite_not, ↓reduceIte, le_t, le_f, lt_t, lt_f, eq_t, eq_f, mone_f, mone_f2, b5]; exact a3
    · right
      have e : ∀ k', gI (pI m2 0 2 (8 + k) v) 0 0 k' = gI m2 0 0 k' := fun k' => by rw [gI_pI, if_neg (by omega)]
      obtain ⟨m', a1, a2, a3, a4⟩ := bx_costs d (k + 1) G (pI m2 0 2 (8 + k) v) (bmd_f b6.bad (e 8)) (by omega) (by omega)
      have hh : TF m2 (pI m2 0 2 (8 + k) v) := ⟨fun j k p q => by rw [gI_pI, if_neg (by omega)], fun j k p q => rfl⟩
      refine ⟨x, t2, m', ?_, ?_, b6.cg (a3.trans (e 8)) (a4.trans (e 9)), tf_trans b7.tf (tf_trans hh a2)⟩
      · simp (disch := omega) only [zl, zm, nI_add, pk_mul, inb_t, ix_n, gd_tt, bd_e, nm_v, ite_not, ↓reduceIte, le_t, le_f, lt_t, lt_f, eq_t, eq_f, mone_f, mone_f2, b4]
      · simp (disch := omega) only [zl, zm, nI_add, pk_mul, inb_t, ix_n, gd_tt, bd_e, nm_v, ite_not, ↓reduceIte, le_t, le_f, lt_t, lt_f, eq_t, eq_f, mone_f, mone_f2, b5]; exact a1
/-- a text's world is a world -/
theorem tw_ws (h : TW n x f w) : WS n 0 x f := by
  obtain ⟨a1, ⟨tr, h1, h2, h3, h4, h5, h6, h7, h8, h9, h10, h11, h12, h13, h14, h15, h16, h17, h18⟩, a3, a4, a5, a6⟩ := h
  refine ⟨⟨0, 0, tr, 0, a1, by omega, by omega, by omega, by omega, by omega, h1, by omega, h2, h4, h14, h10, h6, h16, fun k hk => ?_, h3.trans h2.symm, h5.trans h4.symm, h7.trans h6.symm, h8, h11.trans h10.symm, h13.trans h12.symm, h15.trans h14.symm, h9, h17.trans h16.symm, fun k hk => ?_⟩, fun b hb => ?_, a5⟩
  · obtain ⟨z, z1, z2, z3⟩ := h18 k hk; exact ⟨z, z1, z2⟩
  · obtain ⟨z, z1, z2, z3⟩ := h18 k hk; exact z3.trans z2.symm
  · obtain ⟨⟨p, g, l, s, en, a, ⟨b1, b2, b3, b4, b5, b6⟩, ⟨c1, c2, c3, c4, c5, c6⟩, b7⟩, ⟨v1, v2, v3, v4, v5, v6, v7, v8, v9⟩⟩ := a3 b hb
    obtain ⟨f1, f2, f3⟩ := a4 b (by omega)
    refine ⟨⟨⟨c6.trans b6.symm, (f2 b (by omega)).2⟩, c1.trans b1.symm, c2.trans b2.symm, c3.trans b3.symm, c4.trans b4.symm, c5.trans b5.symm, (f1 5 (by omega) (by omega)).trans v1.symm, (f1 6 (by omega) (by omega)).trans v2.symm, (f1 7 (by omega) (by omega)).trans v3.symm, (f1 8 (by omega) (by omega)).trans v4.symm, (f1 11 (by omega) (by omega)).trans v5.symm, (f1 12 (by omega) (by omega)).trans v6.symm, (f1 13 (by omega) (by omega)).trans v7.symm, fun k hk => (f1 (14 + k) (by omega) (by omega)).trans (v8 k hk).symm, fun o ho => (f2 o (by omega)).1.trans (v9 o (by omega)).1.symm, fun o ho hob => (f2 o (by omega)).2.trans (v9 o (by omega)).2.symm⟩, ⟨p, g, l, s, en, 0, 0, 0, a, false, b1, b2, b3, b4, b5, v1, v2, v3, v4, b6, (v9 b (by omega)).1, by omega⟩, fun z => ?_⟩
    rw [v1] at z
    exact absurd z (by decide)
/-- two become near: what is left, written out -/
theorem s_nearE {b o : Nat} (h : WS n 0 x (gI m 0 2)) (hb : b < n) (ho : o < n) (hbo : ¬ b = o) (hN : (NB x b).testBit o = false) : sX5_switchNear x (nI b) (nI o) = some (pI (pI x (b + 1) 0 10 (nI (NB x b ^^^ 2 ^ o))) (o + 1) 0 10 (nI (NB x o ^^^ 2 ^ b))) ∧ sX7_nears m (nI b) (nI o) (nI 1) = some (pI (pI m 0 2 (13 + b) (nI (NB x b ^^^ 2 ^ o))) 0 2 (13 + o) (nI (NB x o ^^^ 2 ^ b))) := by
  have h : WR n 0 (8 * 0) 0 (8 * 0) true 99 x (gI m 0 2) := h
  have hn := h.n8
  have hxb := h.nb hb
  have hxo := h.nb ho
  have hfb := h.fb hb
  have hfo := h.fb ho
  have hsym := h.sym hb ho
  refine ⟨?_, ?_⟩
  · unfold sX5_switchNear
    simp (disch := omega) only [zl, zm, nI_add, pk_mul, inb_t, ix_n, gd_tt, bd_e, nm_v, ite_not, ↓reduceIte, le_t, le_f, lt_t, lt_f, eq_t, eq_f, mone_f, mone_f2, sh1, hxb.1, gI_pI, gL_pL, gI_pL, gL_pI, qe, qn, not_true_eq_false, not_false_eq_true, true_and, and_true, false_and, and_false, and_self, Nat.add_right_cancel_iff, hxo.1, n_xor]
  · have hor : ∀ a c, a.testBit c = false → a ||| 2 ^ c = a ^^^ 2 ^ c := fun a c hz => Nat.eq_of_testBit_eq fun i => by
      rw [Nat.testBit_or, Nat.testBit_xor, Nat.testBit_two_pow]
      by_cases hci : c = i
      · subst hci; rw [hz]; simp
      · rw [decide_eq_false hci]; simp
    unfold sX7_nears sX7_nears_b51
    have h2 : (NB x o).testBit b = false := by rw [← hsym]; exact hN
    rw [← hor _ _ hN, ← hor _ _ h2]
    simp (disch := omega) only [zl, zm, nI_add, pk_mul, inb_t, ix_n, gd_tt, bd_e, nm_v, ite_not, ↓reduceIte, le_t, le_f, lt_t, lt_f, eq_t, eq_f, mone_f, mone_f2, sh1, hfb.1, hfo.1, gI_pI, gL_pL, gI_pL, gL_pI, qn, qe, not_true_eq_false, not_false_eq_true, true_and, and_true, false_and, and_false, and_self, Nat.add_right_cancel_iff]
    rw [n_or, n_or]
theorem tw_near {b o : Nat} (h : TW n x f w) (hb : b < n) (ho : o < n) (hbo : ¬ b = o) : TW n (pI (pI x (b + 1) 0 10 (nI (NB x b ^^^ 2 ^ o))) (o + 1) 0 10 (nI (NB x o ^^^ 2 ^ b))) (upd (upd f (13 + b) (nI (NB x b ^^^ 2 ^ o))) (13 + o) (nI (NB x o ^^^ 2 ^ b))) w := by
  have hws : WR n 0 (8 * 0) 0 (8 * 0) true 99 x f := tw_ws h
  have hn := hws.n8
  have hr := r_near hws hb ho hbo
  have h2 : ∀ k, k < n → 2 ^ k < 256 := fun k hk => Nat.pow_lt_pow_right (a := 2) (n := 8) (by decide) (by omega)
  have hA : NB x b ^^^ 2 ^ o < 256 := Nat.xor_lt_two_pow (n := 8) (hws.nb hb).2 (h2 o ho)
  have hB : NB x o ^^^ 2 ^ b < 256 := Nat.xor_lt_two_pow (n := 8) (hws.nb ho).2 (h2 b hb)
  obtain ⟨a1, a2, a3, a4, a5, a6⟩ := h
  refine ⟨a1, ?_, fun k hk => ?_, fun k hk => ?_, hr.2.2, ?_⟩
  · rw [hd_k, hd_k]
    obtain ⟨tr, g1, g2, g3, g4, g5, g6, g7, g8, g9, g10, g11, g12, g13, g14, g15, g16, g17, g18⟩ := a2
    refine ⟨tr, g1, g2, ?_, g4, ?_, g6, ?_, ?_, ?_, g10, ?_, g12, ?_, g14, ?_, g16, ?_, fun j hj => ?lst⟩
    case lst =>
      obtain ⟨z, z1, z2, z3⟩ := g18 j hj
      exact ⟨z, z1, z2, by rw [upd_e, if_neg (by omega), upd_e, if_neg (by omega)]; exact z3⟩
    all_goals try simp (disch := omega) only [upd_e, qe, qn, ↓reduceIte]
    all_goals assumption
  · obtain ⟨⟨p, g, l, s, en, a, ⟨b1, b2, b3, b4, b5, b6⟩, ⟨c1, c2, c3, c4, c5, c6⟩, b7⟩, v⟩ := a3 k hk
    have hfu : ∀ q, 21 ≤ q → upd (upd f (13 + b) (nI (NB x b ^^^ 2 ^ o))) (13 + o) (nI (NB x o ^^^ 2 ^ b)) q = f q := fun q hq => by rw [upd_e, if_neg (by omega), upd_e, if_neg (by omega)]
    have hxu : ∀ j q, ¬ (j = 0 ∧ q = 10) → gI (pI (pI x (b + 1) 0 10 (nI (NB x b ^^^ 2 ^ o))) (o + 1) 0 10 (nI (NB x o ^^^ 2 ^ b))) (k + 1) j q = gI x (k + 1) j q := fun j q hq => by rw [gI_pI, if_neg (by omega), gI_pI, if_neg (by omega)]
    refine ⟨⟨p, g, l, s, en, if k = o then NB x o ^^^ 2 ^ b else if k = b then NB x b ^^^ 2 ^ o else a, ⟨(hxu _ _ (by omega)).trans b1, (hxu _ _ (by omega)).trans b2, (hxu _ _ (by omega)).trans b3, (hxu _ _ (by omega)).trans b4, (hxu _ _ (by omega)).trans b5, ?_⟩, ⟨(hfu _ (by omega)).trans c1, (hfu _ (by omega)).trans c2, (hfu _ (by omega)).trans c3, (hfu _ (by omega)).trans c4, (hfu _ (by omega)).trans c5, ?_⟩, ?_⟩, ?_⟩
    · rw [gI_pI, gI_pI]
      by_cases e1 : k = o
      · rw [if_pos (by omega), if_pos e1]
      · by_cases e2 : k = b
        · rw [if_neg (by omega), if_pos (by omega), if_neg e1, if_pos e2]
        · rw [if_neg (by omega), if_neg (by omega), if_neg e1, if_neg e2]; exact b6
    · rw [upd_e, upd_e]
      by_cases e1 : k = o
      · rw [if_pos (by omega), if_pos e1]
      · by_cases e2 : k = b
        · rw [if_neg (by omega), if_pos (by omega), if_neg e1, if_pos e2]
        · rw [if_neg (by omega), if_neg (by omega), if_neg e1, if_neg e2]; exact c6
    · by_cases e1 : k = o
      · rw [if_pos e1]; omega
      · by_cases e2 : k = b
        · rw [if_neg e1, if_pos e2]; omega
        · rw [if_neg e1, if_neg e2]; omega
    · obtain ⟨v1, v2, v3, v4, v5, v6, v7, v8, v9⟩ := v
      exact ⟨(hxu _ _ (by omega)).trans v1, (hxu _ _ (by omega)).trans v2, (hxu _ _ (by omega)).trans v3, (hxu _ _ (by omega)).trans v4, (hxu _ _ (by omega)).trans v5, (hxu _ _ (by omega)).trans v6, (hxu _ _ (by omega)).trans v7, fun q hq => (hxu _ _ (by omega)).trans (v8 q hq), fun q hq => ⟨(hxu _ _ (by omega)).trans (v9 q hq).1, (hxu _ _ (by omega)).trans (v9 q hq).2⟩⟩
  · obtain ⟨f1, f2, f3⟩ := a4 k hk
    have hfu : ∀ q, 21 ≤ q → upd (upd f (13 + b) (nI (NB x b ^^^ 2 ^ o))) (13 + o) (nI (NB x o ^^^ 2 ^ b)) q = f q := fun q hq => by rw [upd_e, if_neg (by omega), upd_e, if_neg (by omega)]
    exact ⟨fun j p q => (hfu _ (by omega)).trans (f1 j p q), fun j p => ⟨(hfu _ (by omega)).trans (f2 j p).1, (hfu _ (by omega)).trans (f2 j p).2⟩, fun p => by rw [upd_e, if_neg (by omega), upd_e, if_neg (by omega)]; exact f3 p⟩
  · exact ⟨fun q hq => a6.1 q hq, a6.2⟩
/-- a beacon that there is -/
theorem y_told (h : YG B len c i t m) (hn : n ≤ 8) (hx : gI x 0 0 2 = nI n) (hm : gI m 0 2 0 = nI n) (hw : NWd n x (gL m 0 7)) : (∃ k t' m', k < n ∧ yk B len i = 1 ∧ sX4_beaconHere x t = some (t, nI k) ∧ sX4_advance t = some t' ∧ sX7_named m = some (nI k) ∧ sX7_mustBeWord m = some m ∧ sX7_goOn m = some m' ∧ sX7_told m = some (m', nI k) ∧ YG B len c (i + 1) t' m' ∧ LGE m m') ∨ (∃ t' m', sX4_beaconHere x t = some (t', mone) ∧ sX7_told m = some (m', mone) ∧ YB t' m' ∧ LGE m m' ∧ ((sX7_mustBeWord m = some m' ∧ ¬ yk B len i = 1) ∨ (yk B len i = 1 ∧ sX7_mustBeWord m = some m ∧ sX7_named m = some mone ∧ sX7_wrong m (nI 4) = some m'))) := by
  have hck := h.ck
  have hmk := h.mk
  have hsr := h.srt
  have h60 := h.k60
  have hgd := h.good
  by_cases hk : yk B len i = 1
  · rw [hk] at hck
    rw [hsr.2.2.1.mpr hk] at hmk
    have hmw : sX7_mustBeWord m = some m := by
      unfold sX7_mustBeWord
      simp (disch := omega) only [zl, zm, nI_add, pk_mul, inb_t, ix_n, gd_tt, bd_e, nm_v, ite_not, ↓reduceIte, le_t, le_f, lt_t, lt_f, eq_t, eq_f, mone_f, mone_f2, hgd, hmk]
    rcases y_find h hk hn hx hm hw with ⟨k, k1, k2, k3⟩ | ⟨k2, k3, k4⟩
    · left
      obtain ⟨t', m', e1, e2, e3, e4⟩ := y_next h (by omega)
      refine ⟨k, t', m', k1, hk, ?_, e1, k3, hmw, e2, ?_, e3, e4.e⟩
      · unfold sX4_beaconHere
        simp (disch := omega) only [zl, zm, nI_add, pk_mul, inb_t, ix_n, gd_tt, bd_e, nm_v, ite_not, ↓reduceIte, le_t, le_f, lt_t, lt_f, eq_t, eq_f, mone_f, mone_f2, hck, k2]
      · unfold sX7_told sX7_told_b19 sX7_told_b37
        simp (disch := omega) only [zl, zm, nI_add, pk_mul, inb_t, ix_n, gd_tt, bd_e, nm_v, ite_not, ↓reduceIte, le_t, le_f, lt_t, lt_f, eq_t, eq_f, mone_f, mone_f2, hmw, hgd, k3, e2]
    · right
      obtain ⟨t', m', e1, e2, e3, e4⟩ := y_fail h (show 1 ≤ 4 by omega) (by omega) (fun z => absurd z (by omega))
      refine ⟨t', m', ?_, ?_, e3, e4, Or.inr ⟨hk, hmw, k3, e2⟩⟩
      · unfold sX4_beaconHere
        simp (disch := omega) only [zl, zm, nI_add, pk_mul, inb_t, ix_n, gd_tt, bd_e, nm_v, ite_not, ↓reduceIte, le_t, le_f, lt_t, lt_f, eq_t, eq_f, mone_f, mone_f2, hck, k2, e1]
      · unfold sX7_told sX7_told_b19 sX7_told_b37
        simp (disch := omega) only [zl, zm, nI_add, pk_mul, inb_t, ix_n, gd_tt, bd_e, nm_v, ite_not, ↓reduceIte, le_t, le_f, lt_t, lt_f, eq_t, eq_f, mone_f, mone_f2, hmw, hgd, k3, e2, b_good e3.bad]
  · right
    have hs1 : ¬ lxSrt (yk B len i) = 1 := fun z => hk (hsr.2.2.1.mp z)
    obtain ⟨t', m', e1, e2, e3, e4⟩ := y_fail h (show 1 ≤ 1 by omega) (by omega) (fun _ => rfl)
    have hmw : sX7_mustBeWord m = some m' := by
      unfold sX7_mustBeWord
      simp (disch := omega) only [zl, zm, nI_add, pk_mul, inb_t, ix_n, gd_tt, bd_e, nm_v, ite_not, ↓reduceIte, le_t, le_f, lt_t, lt_f, eq_t, eq_f, mone_f, mone_f2, hgd, hmk, e2]
    refine ⟨t', m', ?_, ?_, e3, e4, Or.inl ⟨hmw, hk⟩⟩
    · unfold sX4_beaconHere
      simp (disch := omega) only [zl, zm, nI_add, pk_mul, inb_t, ix_n, gd_tt, bd_e, nm_v, ite_not, ↓reduceIte, le_t, le_f, lt_t, lt_f, eq_t, eq_f, mone_f, mone_f2, hck, e1]
    · unfold sX7_told sX7_told_b19 sX7_told_b37
      simp (disch := omega) only [zl, zm, nI_add, pk_mul, inb_t, ix_n, gd_tt, bd_e, nm_v, ite_not, ↓reduceIte, le_t, le_f, lt_t, lt_f, eq_t, eq_f, mone_f, mone_f2, hmw, b_good e3.bad]
end
