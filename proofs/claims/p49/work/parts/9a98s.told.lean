/-! stage B: a statement, all statements -/
section
variable {B : Nat → Nat} {len c i i' n : Nat} {t t' m x x1 d x' m' X : St} {f f' : Nat → Int32} {w w' : Nat → Int64}
theorem xbc_0 (p g l s en : Int32) (j k : Nat) : gI (XBC x n p g l s en) 0 j k = if j = 0 ∧ k = 2 then nI (n + 1) else gI x 0 j k := by
  unfold XBC
  rw [gI_pI]
  by_cases e : j = 0 ∧ k = 2
  · rw [if_pos ⟨rfl, e.1, e.2⟩, if_pos e]
  · rw [if_neg (by omega), if_neg e, gI_pI, if_neg (by omega), gI_pI, if_neg (by omega), gI_pI, if_neg (by omega), gI_pI, if_neg (by omega), gI_pI, if_neg (by omega)]
theorem xbc_o (p g l s en : Int32) {o : Nat} (h0 : ¬ o = 0) (h1 : ¬ o = n + 1) : gI (XBC x n p g l s en) o = gI x o := funext fun j => funext fun k => by
  unfold XBC
  rw [gI_pI, if_neg (by omega), gI_pI, if_neg (by omega), gI_pI, if_neg (by omega), gI_pI, if_neg (by omega), gI_pI, if_neg (by omega), gI_pI, if_neg (by omega)]
theorem xbc_b (p g l s en : Int32) (j k : Nat) (h : ¬ (j = 0 ∧ 1 ≤ k ∧ k ≤ 5)) : gI (XBC x n p g l s en) (n + 1) j k = gI x (n + 1) j k := by
  unfold XBC
  rw [gI_pI, if_neg (by omega), gI_pI, if_neg (by omega), gI_pI, if_neg (by omega), gI_pI, if_neg (by omega), gI_pI, if_neg (by omega), gI_pI, if_neg (by omega)]
theorem tw_beacon {l0 : List Nat} {p g l s en : Nat} (h : TW n x f w) (hn : n < 8) (b1 : gL x1 (n + 1) 0 0 = lN (cpN l0)) (b2 : TV (gI x1 (n + 1))) (b3 : gI x1 (n + 1) 0 10 = nI 0) (b4 : ∀ o', ¬ o' = n + 1 → gI x1 o' = gI x o' ∧ gL x1 o' = gL x o') (ok : okL l0) (hw : ∀ k, w' k = if k = n then lN (mpN l0) else w k) (hno : ∀ k, k < n → ¬ w k = lN (mpN l0)) (hb : 2 ≤ p ∧ p ≤ 99 ∧ g < p ∧ 1 ≤ l ∧ l ≤ 9 ∧ 1 ≤ s ∧ s ≤ 9 ∧ en ≤ 999) : TW (n + 1) (XBC x1 n (nI p) (nI g) (nI l) (nI s) (nI en)) (upd (upd (upd (upd (upd (upd f (21 + 43 * n + 0) (nI p)) (21 + 43 * n + 1) (nI g)) (21 + 43 * n + 2) (nI l)) (21 + 43 * n + 3) (nI s)) (21 + 43 * n + 4) (nI en)) 0 (nI (n + 1))) w' := by
  obtain ⟨a1, a2, a3, a4, a5, a6⟩ := h
  have hfo : ∀ k, ¬ k = 0 → ¬ (21 + 43 * n ≤ k ∧ k ≤ 21 + 43 * n + 4) → upd (upd (upd (upd (upd (upd f (21 + 43 * n + 0) (nI p)) (21 + 43 * n + 1) (nI g)) (21 + 43 * n + 2) (nI l)) (21 + 43 * n + 3) (nI s)) (21 + 43 * n + 4) (nI en)) 0 (nI (n + 1)) k = f k := fun k h0 h1 => by
    rw [upd_e, if_neg h0, upd_e, if_neg (by omega), upd_e, if_neg (by omega), upd_e, if_neg (by omega), upd_e, if_neg (by omega), upd_e, if_neg (by omega)]
  have hx0 : ∀ j k, ¬ (j = 0 ∧ k = 2) → gI (XBC x1 n (nI p) (nI g) (nI l) (nI s) (nI en)) 0 j k = gI x 0 j k := fun j k hh => by
    rw [xbc_0, if_neg hh, (b4 0 (by omega)).1]
  have hxo : ∀ b, b < n → gI (XBC x1 n (nI p) (nI g) (nI l) (nI s) (nI en)) (b + 1) = gI x (b + 1) := fun b hb => by
    rw [xbc_o _ _ _ _ _ (by omega) (by omega), (b4 (b + 1) (by omega)).1]
  have hLx : ∀ o j k, gL (XBC x1 n (nI p) (nI g) (nI l) (nI s) (nI en)) o j k = gL x1 o j k := fun _ _ _ => rfl
  refine ⟨by omega, ?_, fun b hb2 => ?_, fun b hb2 => ?_, fun b hb2 o ho => ?_, ?_, ?_⟩
  · obtain ⟨tr, g1, g2, g3, g4, g5, g6, g7, g8, g9, g10, g11, g12, g13, g14, g15, g16, g17, g18⟩ := a2
    refine ⟨tr, g1, ?_, ?_, (hx0 _ _ (by omega)).trans g4, (hfo _ (by omega) (by omega)).trans g5, (hx0 _ _ (by omega)).trans g6, (hfo _ (by omega) (by omega)).trans g7, (hfo _ (by omega) (by omega)).trans (g8.trans (hx0 _ _ (by omega)).symm), (hfo _ (by omega) (by omega)).trans (g9.trans (hx0 _ _ (by omega)).symm), (hx0 _ _ (by omega)).trans g10, (hfo _ (by omega) (by omega)).trans g11, (hx0 _ _ (by omega)).trans g12, (hfo _ (by omega) (by omega)).trans g13, (hx0 _ _ (by omega)).trans g14, (hfo _ (by omega) (by omega)).trans g15, (hx0 _ _ (by omega)).trans g16, (hfo _ (by omega) (by omega)).trans g17, fun k hk => ?_⟩
    · rw [xbc_0, if_pos ⟨rfl, rfl⟩]
    · rw [upd_e, if_pos rfl]
    · obtain ⟨z, z1, z2, z3⟩ := g18 k hk
      exact ⟨z, z1, (hx0 _ _ (by omega)).trans z2, (hfo _ (by omega) (by omega)).trans z3⟩
  · rcases Nat.lt_or_ge b n with hbn | hbn
    · obtain ⟨⟨p', g', l', s', en', a', q1, ⟨c1, c2, c3, c4, c5, c6⟩, q3⟩, v⟩ := a3 b hbn
      rw [hxo b hbn]
      exact ⟨⟨p', g', l', s', en', a', q1, ⟨(hfo _ (by omega) (by omega)).trans c1, (hfo _ (by omega) (by omega)).trans c2, (hfo _ (by omega) (by omega)).trans c3, (hfo _ (by omega) (by omega)).trans c4, (hfo _ (by omega) (by omega)).trans c5, (hfo _ (by omega) (by omega)).trans c6⟩, q3⟩, v⟩
    · obtain rfl : b = n := by omega
      obtain ⟨f1, f2, f3⟩ := a4 b hn
      obtain ⟨v1, v2, v3, v4, v5, v6, v7, v8, v9⟩ := b2
      refine ⟨⟨p, g, l, s, en, 0, ⟨?_, ?_, ?_, ?_, ?_, ?_⟩, ⟨?_, ?_, ?_, ?_, ?_, ?_⟩, by omega⟩, ?_, ?_, ?_, ?_, ?_, ?_, ?_, fun k hk => ?_, fun k hk => ⟨?_, ?_⟩⟩
      iterate 5
        · unfold XBC; simp (disch := omega) only [gI_pI, gL_pL, gI_pL, gL_pI, qe, qn, not_true_eq_false, not_false_eq_true, true_and, and_true, false_and, and_false, and_self, Nat.add_right_cancel_iff, ↓reduceIte]
      · rw [xbc_b _ _ _ _ _ _ _ (by omega)]; exact b3
      iterate 5
        · simp (disch := omega) only [upd_e, qe, qn, ↓reduceIte]
      · rw [hfo _ (by omega) (by omega)]; exact f3 (by omega)
      · exact (xbc_b _ _ _ _ _ _ _ (by omega)).trans v1
      · exact (xbc_b _ _ _ _ _ _ _ (by omega)).trans v2
      · exact (xbc_b _ _ _ _ _ _ _ (by omega)).trans v3
      · exact (xbc_b _ _ _ _ _ _ _ (by omega)).trans v4
      · exact (xbc_b _ _ _ _ _ _ _ (by omega)).trans v5
      · exact (xbc_b _ _ _ _ _ _ _ (by omega)).trans v6
      · exact (xbc_b _ _ _ _ _ _ _ (by omega)).trans v7
      · exact (xbc_b _ _ _ _ _ _ _ (by omega)).trans (v8 k hk)
      · exact (xbc_b _ _ _ _ _ _ _ (by omega)).trans (v9 k hk).1
      · exact (xbc_b _ _ _ _ _ _ _ (by omega)).trans (v9 k hk).2
  · obtain ⟨f1, f2, f3⟩ := a4 b hb2
    refine ⟨fun j q r => ?_, fun j q => ⟨?_, ?_⟩, fun q => ?_⟩
    · rw [hfo _ (by omega) (by rcases Nat.lt_or_ge b n with z | z <;> omega)]; exact f1 j q r
    · rw [hfo _ (by omega) (by rcases Nat.lt_or_ge b n with z | z <;> omega)]; exact (f2 j q).1
    · rw [hfo _ (by omega) (by rcases Nat.lt_or_ge b n with z | z <;> omega)]; exact (f2 j q).2
    · rw [hfo _ (by omega) (by omega)]; exact f3 (by omega)
  · have hN : ∀ b, b < n → NB (XBC x1 n (nI p) (nI g) (nI l) (nI s) (nI en)) b = NB x b := fun b hb => by unfold NB; rw [hxo b hb]
    have hNn : NB (XBC x1 n (nI p) (nI g) (nI l) (nI s) (nI en)) n = 0 := by
      unfold NB
      rw [xbc_b _ _ _ _ _ _ _ (by omega), b3]; exact ix_n (by omega)
    rcases Nat.lt_or_ge b n with hbn | hbn
    · rw [hN b hbn] at ho
      obtain ⟨r1, r2, r3⟩ := a5 b hbn o ho
      exact ⟨by omega, r2, by rw [hN o r1]; exact r3⟩
    · obtain rfl : b = n := by omega
      rw [hNn, Nat.zero_testBit] at ho
      cases ho
  · intro b hb2
    rw [hLx, hw]
    rcases Nat.lt_or_ge b n with hbn | hbn
    · obtain ⟨l', o1, o2, o3⟩ := a6.1 b hbn
      refine ⟨l', o1, ?_, ?_⟩
      · rw [(b4 (b + 1) (by omega)).2]; exact o2
      · rw [if_neg (by omega)]; exact o3
    · obtain rfl : b = n := by omega
      exact ⟨l0, ok, b1, if_pos rfl⟩
  · intro b b' hb2 hb3 he
    rw [hw, hw] at he
    by_cases e1 : b = n
    · by_cases e2 : b' = n
      · rw [e1, e2]
      · rw [if_pos e1, if_neg e2] at he
        exact absurd he.symm (hno b' (by omega))
    · by_cases e2 : b' = n
      · rw [if_neg e1, if_pos e2] at he
        exact absurd he (hno b (by omega))
      · rw [if_neg e1, if_neg e2] at he
        exact a6.2 b b' (by omega) (by omega) he
theorem b_b29 (h : BMD m) (a : Int32) : sX7_readsBeacon_b29 m a = some m := by
  unfold sX7_readsBeacon_b29 sX7_readsBeacon_b53
  simp (disch := omega) only [zl, zm, nI_add, pk_mul, inb_t, ix_n, gd_tt, bd_e, nm_v, ite_not, ↓reduceIte, le_t, le_f, lt_t, lt_f, eq_t, eq_f, mone_f, mone_f2, b_mustBe h, b_good h]
theorem b_b18 (h : BMD m) (a : Int32) : sX7_readsBeacon_b18 m a = some m := by
  unfold sX7_readsBeacon_b18
  simp (disch := omega) only [zl, zm, nI_add, pk_mul, inb_t, ix_n, gd_tt, bd_e, nm_v, ite_not, ↓reduceIte, le_t, le_f, lt_t, lt_f, eq_t, eq_f, mone_f, mone_f2, b_good h, b_b29 h]
theorem tx_beacon (h : YG B len c i t m) (hk : yk B len i = 1) (hw : TW n x (gI m 0 2) (gL m 0 7)) : (∃ X t' m' i' n', sX3_readBeacon x t = some (X, t', nI 1) ∧ sX7_readsBeacon m = some m' ∧ i < i' ∧ YG B len c i' t' m' ∧ TW n' X (gI m' 0 2) (gL m' 0 7) ∧ TF m m' ∧ gI m' 0 0 23 = gI m 0 0 23) ∨ SBB (sX3_readBeacon x t) (sX7_readsBeacon m) m := by
  have hn := hw.1
  have hx := (tw_ws hw : WR n 0 (8 * 0) 0 (8 * 0) true 99 x (gI m 0 2)).xn
  have hf0 := (tw_ws hw : WR n 0 (8 * 0) 0 (8 * 0) true 99 x (gI m 0 2)).fn
  unfold sX3_readBeacon sX7_readsBeacon
  rcases Nat.lt_or_ge n 8 with h8 | h8
  · obtain ⟨t1, m1, a1, a2, a3, a4⟩ := y_next h (by omega)
    have r1 : gI m1 0 2 = gI m 0 2 := a4.e.row
    have n1 : gL m1 0 7 = gL m 0 7 := a4.e.nam
    have hM : (gd (inb (0 : Int32) 365) (if ¬ gI m 0 2 (ix (0 : Int32)) = (8 : Int32) then sX7_readsBeacon_b18 m (gI m 0 2 (ix (0 : Int32))) else bd (sX7_wrong m (5 : Int32)) fun q3 => sX7_readsBeacon_b18 q3 (gI m 0 2 (ix (0 : Int32))))) = sX7_readsBeacon_b29 m1 (nI n) := by
      unfold sX7_readsBeacon_b18
      simp (disch := omega) only [zl, zm, nI_add, pk_mul, inb_t, ix_n, gd_tt, bd_e, nm_v, ite_not, ↓reduceIte, le_t, le_f, lt_t, lt_f, eq_t, eq_f, mone_f, mone_f2, hf0, h.good, a2]
    rw [hM]
    have hck := a3.ck
    have hmk := a3.mk
    have hsr := a3.srt
    have h60 := a3.k60
    by_cases hk1 : yk B len (i + 1) = 1
    · rw [hk1] at hck
      rw [hsr.2.2.1.mpr hk1] at hmk
      have hmw : sX7_mustBeWord m1 = some m1 := by
        unfold sX7_mustBeWord
        simp (disch := omega) only [zl, zm, nI_add, pk_mul, inb_t, ix_n, gd_tt, bd_e, nm_v, ite_not, ↓reduceIte, le_t, le_f, lt_t, lt_f, eq_t, eq_f, mone_f, mone_f2, a3.good, hmk]
      rcases y_find a3 hk1 hn hx (by rw [r1]; exact hf0) (by rw [n1]; exact hw.2.2.2.2.2) with ⟨k, k1, k2, k3⟩ | ⟨k2, k3, k4⟩
      · right
        obtain ⟨t2, m2, e1, e2, e3, e4⟩ := y_fail a3 (show 1 ≤ 3 by omega) (by omega) (fun z => absurd z (by omega))
        refine ⟨x, t2, m2, ?_, ?_, e3, tf_trans a4.e.tf e4.tf⟩
        · unfold sX3_takeNewName
          simp (disch := omega) only [zl, zm, nI_add, pk_mul, inb_t, ix_n, gd_tt, bd_e, nm_v, ite_not, ↓reduceIte, le_t, le_f, lt_t, lt_f, eq_t, eq_f, mone_f, mone_f2, hx, a1, hck, k2, e1, isb_0]
        · unfold sX7_readsBeacon_b29 sX7_readsBeacon_b53
          simp (disch := omega) only [zl, zm, nI_add, pk_mul, inb_t, ix_n, gd_tt, bd_e, nm_v, ite_not, ↓reduceIte, le_t, le_f, lt_t, lt_f, eq_t, eq_f, mone_f, mone_f2, hmw, a3.good, k3, e2, b_good e3.bad]
      · obtain ⟨ok, hv1, hv2⟩ := a3.cl hk1
        obtain ⟨x1, g1, g2, g3, g4, g5⟩ := c_begin (o := n) x (gL t1 0 0 7)
        have hG : YG B len c (i + 1) t1 (pL m1 0 7 n (gL m1 0 0 12)) := a3.cg (fun j k p q => rfl) (fun j k p => by rw [gL_pL, if_neg (by omega)])
        obtain ⟨t2, m2, e1, e2, e3, e4⟩ := y_next hG (by omega)
        have hT1 : TF m1 (pL m1 0 7 n (gL m1 0 0 12)) := ⟨fun j k p q => rfl, fun j k p q => by rw [gL_pL, if_neg (by omega)]⟩
        have hT2 : TF m m2 := tf_trans a4.e.tf (tf_trans hT1 e4.e.tf)
        have h23 : gI m2 0 0 23 = gI m 0 0 23 := e4.e.f23.trans a4.e.f23
        have hB : sX7_readsBeacon_b29 m1 (nI n) = mb1 m2 (nI n) := by
          unfold sX7_readsBeacon_b29
          rw [hmw, bd_e, a3.good, bd_e, k3, bd_e, mb_53, a3.good, bd_e]
          simp (disch := omega) only [zl, zm, nI_add, pk_mul, inb_t, ix_n, gd_tt, bd_e, nm_v, ite_not, ↓reduceIte, le_t, le_f, lt_t, lt_f, eq_t, eq_f, mone_f, mone_f2, e2]
        rw [hB]
        have hCC : ∀ q : St × Int32, sX4_takeWord 7 t2 = some q → (if gI x 0 0 2 < (8 : Int32) then gd (inb (gI x 0 0 2) 8) (bd (sX4_advance t) fun q3 => bd (sX3_takeNewName (ix (gI x 0 0 2) + 1) x q3) fun q4 => if q4.2.2 = 0 then some (q4.1, q4.2.1, (0 : Int32)) else bd (sX4_takeWord 7 q4.2.1) fun q6 => if ¬ q6.2 = 0 then bd (sX4_takeNumber q6.1 (2 : Int32) (99 : Int32)) fun q8 => if ¬ q8.2 = (-1 : Int32) then bd (sX3_readPart 8 q8.1 (0 : Int32) (q8.2 - (1 : Int32)) (0 : Int32)) fun q10 => sX3_readBeacon_b89 q4.1 q10.1 (ix (gI x 0 0 2) + 1) q8.2 q10.2 else sX3_readBeacon_b89 q4.1 q8.1 (ix (gI x 0 0 2) + 1) q8.2 (-1 : Int32) else some (q4.1, q6.1, (0 : Int32))) else bd (sX4_fail t (5 : Int32)) fun q11 => gd (isb q11.2) (some (x, q11.1, q11.2))) = if ¬ q.2 = nI 0 then bd (sX4_takeNumber q.1 (nI 2) (nI 99)) fun q8 => if ¬ q8.2 = mone then bd (sX3_readPart 8 q8.1 (nI 0) (q8.2 - nI 1) (nI 0)) fun q10 => sX3_readBeacon_b89 x1 q10.1 (n + 1) q8.2 q10.2 else sX3_readBeacon_b89 x1 q8.1 (n + 1) q8.2 mone else some (x1, q.1, nI 0) := fun q hq => by
          have ht : sX3_takeNewName (n + 1) x t1 = some (x1, t2, nI 1) := by
            unfold sX3_takeNewName
            simp (disch := omega) only [zl, zm, nI_add, pk_mul, inb_t, ix_n, gd_tt, bd_e, nm_v, ite_not, ↓reduceIte, le_t, le_f, lt_t, lt_f, eq_t, eq_f, mone_f, mone_f2, hck, k2, g1, e1]
          rw [hx, if_pos (show nI n < (8 : Int32) from (nI_lt (a := n) (b := 8) h8 (by omega))), inb_t h8 (by omega), gd_tt, a1, bd_e, ix_n (by omega), ht, bd_e]
          refine (if_neg (show ¬ nI 1 = 0 by decide)).trans ?_
          rw [hq, bd_e]
          rfl
        obtain ⟨b, t3, m3, c1, c2, c3, c4, c5⟩ := y_takeWord wd_every e3
        rw [hCC _ c1]
        unfold mb1
        rw [c2, bd_e]
        have hT3 : TF m m3 := tf_trans hT2 c3.tf
        cases b with
        | false =>
          right
          obtain ⟨m4, d1, d2, d3, d4⟩ := bb2 h8 m3 (c5 rfl).bad
          refine ⟨x1, t3, m4, ?_, d1, (c5 rfl).cg d3 d4, tf_trans hT3 d2⟩
          simp (disch := omega) only [zl, zm, nI_add, pk_mul, inb_t, ix_n, gd_tt, bd_e, nm_v, ite_not, ↓reduceIte, le_t, le_f, lt_t, lt_f, eq_t, eq_f, mone_f, mone_f2, Bool.toNat_false]
        | true =>
          have hg3 := c4 rfl
          have hx1 : gI x1 0 0 2 = nI n := by rw [(g5 0 (by omega)).1]; exact hx
          have hrow : gI m3 0 2 = gI m 0 2 := by rw [c3.row, e4.e.row]; exact r1
          have hif : ∀ (α : Type) (u v : α), (if ¬ nI true.toNat = nI 0 then u else v) = u := fun α u v => if_pos (by decide)
          simp only [hif]
          rcases st2 (x := x1) hg3 h8 hx1 hrow hf0 rfl with ⟨p, g, l, s, en, p1, p2, p3, p4, p5, p6, p7, p8, p9, ⟨t4, m4, i4, q1, q2, q3, q4, q5, q6, q7, q8⟩⟩ | hb
          · left
            refine ⟨_, t4, m4, i4, n + 1, q1, q2, by omega, q4, ?_, tf_trans hT3 q7, q8.trans (c3.f23.trans h23)⟩
            rw [q5, q6]
            refine tw_beacon (l0 := yl B len (i + 1)) hw h8 (g2.trans hv1) g3 g4 g5 ok (fun k => ?_) (fun k hk => ?_) ⟨p1, p2, p3, p4, p5, p6, p7, p9⟩
            · rw [c3.nam, e4.e.nam, gL_pL, n1, hv2]
              by_cases e : k = n
              · rw [if_pos ⟨rfl, rfl, e⟩, if_pos e]
              · rw [if_neg (by omega), if_neg e]
            · rw [← hv2, ← n1]; exact k4 k hk
          · right
            exact hb.back hT3 rfl rfl
    · right
      have hs1 : ¬ lxSrt (yk B len (i + 1)) = 1 := fun z => hk1 (hsr.2.2.1.mp z)
      obtain ⟨t2, m2, e1, e2, e3, e4⟩ := y_fail a3 (show 1 ≤ 1 by omega) (by omega) (fun _ => rfl)
      have hmw : sX7_mustBeWord m1 = some m2 := by
        unfold sX7_mustBeWord
        simp (disch := omega) only [zl, zm, nI_add, pk_mul, inb_t, ix_n, gd_tt, bd_e, nm_v, ite_not, ↓reduceIte, le_t, le_f, lt_t, lt_f, eq_t, eq_f, mone_f, mone_f2, a3.good, hmk, e2]
      refine ⟨x, t2, m2, ?_, ?_, e3, tf_trans a4.e.tf e4.tf⟩
      · unfold sX3_takeNewName
        simp (disch := omega) only [zl, zm, nI_add, pk_mul, inb_t, ix_n, gd_tt, bd_e, nm_v, ite_not, ↓reduceIte, le_t, le_f, lt_t, lt_f, eq_t, eq_f, mone_f, mone_f2, hx, a1, hck, e1, isb_0]
      · unfold sX7_readsBeacon_b29 sX7_readsBeacon_b53
        simp (disch := omega) only [zl, zm, nI_add, pk_mul, inb_t, ix_n, gd_tt, bd_e, nm_v, ite_not, ↓reduceIte, le_t, le_f, lt_t, lt_f, eq_t, eq_f, mone_f, mone_f2, hmw, b_good e3.bad]
  · right
    obtain rfl : n = 8 := by omega
    obtain ⟨t2, m2, e1, e2, e3, e4⟩ := y_fail h (show 1 ≤ 5 by omega) (by omega) (fun z => absurd z (by omega))
    refine ⟨x, t2, m2, ?_, ?_, e3, e4.tf⟩
    · simp (disch := omega) only [zl, zm, nI_add, pk_mul, inb_t, ix_n, gd_tt, bd_e, nm_v, ite_not, ↓reduceIte, le_t, le_f, lt_t, lt_f, eq_t, eq_f, mone_f, mone_f2, hx, e1, isb_0]
    · simp (disch := omega) only [zl, zm, nI_add, pk_mul, inb_t, ix_n, gd_tt, bd_e, nm_v, ite_not, ↓reduceIte, le_t, le_f, lt_t, lt_f, eq_t, eq_f, mone_f, mone_f2, hf0, e2, b_b18 e3.bad]

end