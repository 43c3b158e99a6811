/-! stage B: all tokens of a text; the model's next one -/
section
variable {B : Nat → Nat} {len p q i c a : Nat} {y t m : St}
theorem lx_sign (hB : B p < 256) (hp : p < len) (hL : lxL (B p) = false) (hD : lxD (B p) = false) : sX4_addSign t (sgn (B p)) (nI p) = if lxS (B p) = true then some t else sX4_add t (nI (lxKd B len p)) (nI p) (lxVv B len p) := by
  have hv : lxVv B len p = lN 0 := by unfold lxVv; rw [if_neg (by omega), hL, hD, if_neg Bool.false_ne_true, if_neg Bool.false_ne_true]
  have hk : lxKd B len p = if B p = 59 ∨ B p = 40 ∨ B p = 41 then B p else 3 := by unfold lxKd; rw [if_neg (by omega), hL, hD, if_neg Bool.false_ne_true, if_neg Bool.false_ne_true]
  have q1 := lx_sq _ hB
  have a1 := q1 59 (by decide)
  have a2 := q1 40 (by decide)
  have a3 := q1 41 (by decide)
  have a4 := q1 32 (by decide)
  have a5 := q1 10 (by decide)
  have hbd : ∀ z : Option St, (bd z fun q7 => some q7) = z := fun z => by cases z <;> rfl
  have h0 : (0 : Int64) = lN 0 := rfl
  rw [hk, hv]
  unfold sX4_addSign sX4_addSign_b18 lxS
  simp only [zl, hbd, a1, a2, a3, a4, a5, h0]
  generalize hb : B p = v at *
  by_cases e1 : v = 59
  · subst e1; rfl
  · by_cases e2 : v = 40
    · subst e2; rfl
    · by_cases e3 : v = 41
      · subst e3; rfl
      · rw [if_neg e1, if_neg e2, if_pos e3, if_neg (show ¬ (v = 59 ∨ v = 40 ∨ v = 41) by omega)]
        by_cases e4 : v = 32
        · subst e4; rfl
        · by_cases e5 : v = 10
          · subst e5; rfl
          · rw [if_neg e4, if_neg e5, decide_eq_false e4, decide_eq_false e5]; rfl
theorem lxS_of {v : Nat} (h : lxS v = true) : lxL v = false ∧ lxD v = false := by
  have h1 : v = 32 ∨ v = 10 := by
    have h2 := h
    unfold lxS at h2
    rw [Bool.or_eq_true, decide_eq_true_eq, decide_eq_true_eq] at h2
    exact h2
  rcases h1 with rfl | rfl <;> exact ⟨rfl, rfl⟩
theorem lxS_L {v : Nat} (h : lxL v = true) : lxS v = false := by
  cases hs : lxS v
  · rfl
  · rw [(lxS_of hs).1] at h; cases h
theorem lxS_D {v : Nat} (h : lxD v = true) : lxS v = false := by
  cases hs : lxS v
  · rfl
  · rw [(lxS_of hs).2] at h; cases h
theorem lx_loop (hy : ∀ k, k < len → B k < 256 ∧ gI y 0 1 k = sgn (B k)) (hl : len ≤ 700) : ∀ (d a k i F : Nat) (t : St), len ≤ a + d → a ≤ len → k ≤ a → i ≤ a → lxSk B len a = lxAt B len i → LXP B len i t → d < F → gI t 0 0 4 = nI 0 → ∃ t' c, sX4_begin_b33 F y t (nI len) (nI a) (nI k) = some t' ∧ LXA B len c t' ∧ LXC B len 0 t' ∧ gI t' 0 0 8 = gI t 0 0 8 ∧ gI t' 0 0 9 = gI t 0 0 9
  | d, a, k, i, 0, t, _, _, _, _, _, _, h, _ => absurd h (by omega)
  | d, a, k, i, F + 1, t, h1, h2, h3, h4, h5, h6, h7, h8 => by
    rcases Nat.lt_or_ge a len with hal | hal
    · obtain ⟨d, rfl⟩ : ∃ d', d = d' + 1 := ⟨d - 1, by omega⟩
      obtain ⟨hB, hyk⟩ := hy a hal
      have hnx := lxNx_le (B := B) h2
      have hrec := fun (a' i' : Nat) (t' : St) => lx_loop hy hl d a' (k + 1) i' F t'
      simp only [sX4_begin_b33]
      have hlet := lx_cL _ hB
      have hdig := lx_cD _ hB
      rw [← hyk] at hlet hdig
      cases hS : lxS (B a)
      · have hat : lxAt B len i = a := h5.symm.trans (lxRun_stay h2 fun _ => hS)
        have hmore := lx_more h6 (by omega) (by omega)
        rw [hat] at hmore
        obtain ⟨t', m1, m2, m3⟩ := hmore
        have h5' : lxSk B len (lxNx B len a) = lxAt B len (i + 1) := by rw [lxAt_s, hat]
        have hfin := hrec (lxNx B len a) (i + 1) t' (by omega) hnx.2.1 (by omega) (by omega) h5' m2 (by omega) ((m3 4 (by omega)).trans h8)
        rw [m3 8 (by omega), m3 9 (by omega)] at hfin
        cases hL : lxL (B a)
        · rw [hL] at hlet
          cases hD : lxD (B a)
          · rw [hD] at hdig
            have hs := lx_sign (t := t) (len := len) hB hal hL hD
            rw [hS, if_neg Bool.false_ne_true, ← hyk, m1] at hs
            rw [lxNx_O hal hL hD] at hfin
            simp (disch := omega) only [zl, zm, nI_add, pk_mul, inb_t, ix_n, gd_tt, bd_e, nm_v, ite_not, ↓reduceIte, le_t, le_f, lt_t, lt_f, eq_t, eq_f, mone_f, mone_f2, hlet, hdig, Bool.toNat_false, hs]
            exact hfin
          · rw [hD] at hdig
            have hs := lx_number (y := y) (t := t) hy hl hal hL hD
            rw [m1, bd_e] at hs
            simp (disch := omega) only [zl, zm, nI_add, pk_mul, inb_t, ix_n, gd_tt, bd_e, nm_v, ite_not, ↓reduceIte, le_t, le_f, lt_t, lt_f, eq_t, eq_f, mone_f, mone_f2, hlet, hdig, Bool.toNat_false, Bool.toNat_true, hs]
            exact hfin
        · rw [hL] at hlet
          have hs := lx_word (y := y) (t := t) hy hl hal hL
          rw [m1, bd_e] at hs
          simp (disch := omega) only [zl, zm, nI_add, pk_mul, inb_t, ix_n, gd_tt, bd_e, nm_v, ite_not, ↓reduceIte, le_t, le_f, lt_t, lt_f, eq_t, eq_f, mone_f, mone_f2, hlet, Bool.toNat_true, hs]
          exact hfin
      · obtain ⟨hL, hD⟩ := lxS_of hS
        rw [hL] at hlet
        rw [hD] at hdig
        have hs := lx_sign (t := t) (len := len) hB hal hL hD
        rw [hS, if_pos rfl, ← hyk] at hs
        simp (disch := omega) only [zl, zm, nI_add, pk_mul, inb_t, ix_n, gd_tt, bd_e, nm_v, ite_not, ↓reduceIte, le_t, le_f, lt_t, lt_f, eq_t, eq_f, mone_f, mone_f2, hlet, hdig, Bool.toNat_false, hs]
        exact hrec (a + 1) i t (by omega) (by omega) (by omega) (by omega) ((lxRun_step hal hS).1.trans h5) h6 (by omega) h8
    · obtain rfl : a = len := by omega
      have hat : lxAt B a i = a := h5.symm.trans (lxRun_stay h2 fun z => absurd z (by omega))
      obtain ⟨t', e1, e2, e3, e4, e5⟩ := lx_fin (y := y) hl h6 (by omega) hat h8
      refine ⟨t', i, ?_, e2, e3, e4, e5⟩
      simp only [sX4_begin_b33]
      rcases Nat.lt_or_ge k 700 with hk | hk
      · simp (disch := omega) only [zl, zm, nI_add, pk_mul, inb_t, ix_n, gd_tt, bd_e, nm_v, ite_not, ↓reduceIte, le_t, le_f, lt_t, lt_f, eq_t, eq_f, mone_f, mone_f2, e1]
      · simp (disch := omega) only [zl, zm, nI_add, pk_mul, inb_t, ix_n, gd_tt, bd_e, nm_v, ite_not, ↓reduceIte, le_t, le_f, lt_t, lt_f, eq_t, eq_f, mone_f, mone_f2, e1]
theorem lx_begin (hy : ∀ k, k < len → B k < 256 ∧ gI y 0 1 k = sgn (B k)) (hl : len ≤ 700) : ∃ t' c, sX4_begin y t (nI len) = some t' ∧ LXA B len c t' ∧ LXC B len 0 t' ∧ gI t' 0 0 8 = nI 0 ∧ gI t' 0 0 9 = mone := by
  unfold sX4_begin
  have e : (if (700 : Int32) < nI len then (700 : Int32) else nI len) = nI len := if_neg (nI_nlt hl (by omega))
  rw [e]
  simp only [nm_v, zl, zm]
  have e8 : gI (pI (pI (pI (pI t 0 0 3 (nI 0)) 0 0 4 (nI 0)) 0 0 8 (nI 0)) 0 0 9 mone) 0 0 8 = nI 0 := by simp (disch := omega) only [gI_pI, gL_pL, gI_pL, gL_pI, qe, qn, not_true_eq_false, not_false_eq_true, true_and, and_true, false_and, and_false, and_self, Nat.add_right_cancel_iff, ↓reduceIte]
  have e9 : gI (pI (pI (pI (pI t 0 0 3 (nI 0)) 0 0 4 (nI 0)) 0 0 8 (nI 0)) 0 0 9 mone) 0 0 9 = mone := by simp (disch := omega) only [gI_pI, gL_pL, gI_pL, gL_pI, qe, qn, not_true_eq_false, not_false_eq_true, true_and, and_true, false_and, and_false, and_self, Nat.add_right_cancel_iff, ↓reduceIte]
  obtain ⟨t', c, g1, g2, g3, g4, g5⟩ := lx_loop hy hl len 0 0 0 FU (pI (pI (pI (pI t 0 0 3 (nI 0)) 0 0 4 (nI 0)) 0 0 8 (nI 0)) 0 0 9 mone) (by omega) (Nat.zero_le _) (Nat.le_refl _) (Nat.le_refl _) ((fun h => h) rfl) ⟨by simp (disch := omega) only [gI_pI, gL_pL, gI_pL, gL_pI, qe, qn, not_true_eq_false, not_false_eq_true, true_and, and_true, false_and, and_false, and_self, Nat.add_right_cancel_iff, ↓reduceIte], fun j hj => absurd hj (by omega)⟩ (FU_lt (by omega)) (by simp (disch := omega) only [gI_pI, gL_pL, gI_pL, gL_pI, qe, qn, not_true_eq_false, not_false_eq_true, true_and, and_true, false_and, and_false, and_self, Nat.add_right_cancel_iff, ↓reduceIte])
  exact ⟨t', c, g1, g2, g3, g4.trans e8, g5.trans e9⟩
/-! the model -/
def LXM (B : Nat → Nat) (len : Nat) (m : St) : Prop := gI m 0 0 3 = nI len ∧ ∀ k, k < len → B k < 256 ∧ gI m 0 1 k = nI (B k)
def LMS (B : Nat → Nat) (len p : Nat) (m : St) : Prop := gI m 0 0 4 = nI (lxNx B len p) ∧ gI m 0 0 5 = nI p ∧ gI m 0 0 6 = nI (lxSrt (lxKd B len p)) ∧ (lxKd B len p = 1 → gL m 0 0 12 = lN (mpN (lxLs B len p))) ∧ (lxKd B len p = 2 → gI m 0 0 7 = nI (lxNum B len p)) ∧ (40 ≤ lxKd B len p → gI m 0 0 7 = nI (lxKd B len p))
/-- what the model's going on leaves -/
def LGO (m m' : St) : Prop := (∀ j k, ¬ (j = 0 ∧ 4 ≤ k ∧ k ≤ 7) → gI m' 0 j k = gI m 0 j k) ∧ ∀ j k, ¬ (j = 0 ∧ k = 12) → gL m' 0 j k = gL m 0 j k
theorem lgo_refl (m : St) : LGO m m := ⟨fun _ _ _ => rfl, fun _ _ _ => rfl⟩
theorem lgo_trans {a b c : St} (h : LGO a b) (h2 : LGO b c) : LGO a c := ⟨fun j k p => (h2.1 j k p).trans (h.1 j k p), fun j k p => (h2.2 j k p).trans (h.2 j k p)⟩
theorem lxm_go {m m' : St} (h : LXM B len m) (g : LGO m m') : LXM B len m' := ⟨(g.1 0 3 (by omega)).trans h.1, fun k hk => ⟨(h.2 k hk).1, (g.1 1 k (by omega)).trans (h.2 k hk).2⟩⟩
theorem lx_here (h : LXM B len m) (hl : len ≤ 700) (ha : gI m 0 0 4 = nI p) {j : Nat} (hp : p + j ≤ 3000) : sX7_here m (nI j) = some (if p + j < len then nI (B (p + j)) else mone) := by
  unfold sX7_here
  rw [h.1, ha]
  rcases Nat.lt_or_ge (p + j) len with hc | hc
  · rw [if_pos hc]
    simp (disch := omega) only [zl, zm, nI_add, pk_mul, inb_t, ix_n, gd_tt, bd_e, nm_v, ite_not, ↓reduceIte, le_t, le_f, lt_t, lt_f, eq_t, eq_f, mone_f, mone_f2, (h.2 _ hc).2]
  · rw [if_neg (show ¬ p + j < len by omega)]
    simp (disch := omega) only [zl, zm, nI_add, pk_mul, inb_t, ix_n, gd_tt, bd_e, nm_v, ite_not, ↓reduceIte, le_t, le_f, lt_t, lt_f, eq_t, eq_f, mone_f, mone_f2]
theorem lx_hL (h : LXM B len m) {j : Nat} : sX7_isLetter (if p + j < len then nI (B (p + j)) else mone) = some (nI (decide (p + j < len) && lxL (B (p + j))).toNat) := by
  by_cases hc : p + j < len
  · rw [if_pos hc, lx_mL _ (h.2 _ hc).1, decide_eq_true hc, Bool.true_and]
  · rw [if_neg hc, lx_mL0, decide_eq_false hc]; rfl
theorem lx_hD (h : LXM B len m) {j : Nat} : sX7_isDigit (if p + j < len then nI (B (p + j)) else mone) = some (nI (decide (p + j < len) && lxD (B (p + j))).toNat) := by
  by_cases hc : p + j < len
  · rw [if_pos hc, lx_mD _ (h.2 _ hc).1, decide_eq_true hc, Bool.true_and]
  · rw [if_neg hc, lx_mD0, decide_eq_false hc]; rfl
theorem lx_mword (h : LXM B len m) (hl : len ≤ 700) (hp : p < len) (hL : lxL (B p) = true) (h4 : gI m 0 0 4 = nI p) (h12 : gL m 0 0 12 = lN 0) : ∃ m', sX7_goOn_b76 FU m (nI 0) = some m' ∧ (∀ j k, ¬ (j = 0 ∧ (k = 4 ∨ k = 6)) → gI m' 0 j k = gI m 0 j k) ∧ (∀ j k, ¬ (j = 0 ∧ k = 12) → gL m' 0 j k = gL m 0 j k) ∧ gI m' 0 0 4 = nI (lxNx B len p) ∧ gI m' 0 0 6 = nI (lxSrt (lxKd B len p)) ∧ gL m' 0 0 12 = lN (mpN (lxLs B len p)) := by
  have h1 := lxNx_le (B := B) (Nat.le_of_lt hp)
  have hr := lxRun_sp (P := lxL) (B := B) (Nat.le_of_lt hp)
  rw [← lxNx_L hp hL] at hr
  have hlen := lxLs_len (B := B) (len := len) (p := p)
  have hok := lxLs_ok (B := B) hp hL
  have hk : lxSrt (lxKd B len p) = if lxNx B len p - p ≤ 8 then 1 else 4 := by
    unfold lxKd; rw [if_neg (by omega), if_pos hL]
    by_cases hc : lxNx B len p - p ≤ 8
    · rw [if_pos hc, if_pos hc]; rfl
    · rw [if_neg hc, if_neg hc]; rfl
  have hat := fun i hi => lxLs_at (B := B) (len := len) (p := p) (i := i) hi
  rw [hk]
  generalize lxNx B len p = q at *
  generalize lxLs B len p = l at *
  have hend : ∀ x : St, gI x 0 0 4 = nI p → ∃ x', sX7_goOn_b133 x (nI (q - p)) (nI (if q - p ≤ 8 then 1 else 4)) = some x' ∧ (∀ j k, ¬ (j = 0 ∧ (k = 4 ∨ k = 6)) → gI x' 0 j k = gI x 0 j k) ∧ (∀ j k, gL x' 0 j k = gL x 0 j k) ∧ gI x' 0 0 4 = nI q ∧ gI x' 0 0 6 = nI (if q - p ≤ 8 then 1 else 4) := fun x hx => by
    refine ⟨pI (pI x 0 0 6 (nI (if q - p ≤ 8 then 1 else 4))) 0 0 4 (nI q), ?_, fun j k hjk => ?_, fun j k => ?_, ?_, ?_⟩
    · unfold sX7_goOn_b133
      have : p + (q - p) = q := by omega
      simp (disch := omega) only [nm_v, zl, gI_pI, gL_pL, gI_pL, gL_pI, qe, qn, not_true_eq_false, not_false_eq_true, true_and, and_true, false_and, and_false, and_self, Nat.add_right_cancel_iff, ↓reduceIte, hx, nI_add, this]
    · rw [gI_pI, if_neg (by omega), gI_pI, if_neg (by omega)]
    · rfl
    · rw [gI_pI, if_pos ⟨rfl, rfl, rfl⟩]
    · rw [gI_pI, if_neg (by omega), gI_pI, if_pos ⟨rfl, rfl, rfl⟩]
  obtain ⟨x, e1, f1, f2, f3⟩ := one_up (q - p) (fun k (x : St) => (∀ j k', gI x 0 j k' = gI m 0 j k') ∧ (∀ j k', ¬ (j = 0 ∧ k' = 12) → gL x 0 j k' = gL m 0 j k') ∧ gL x 0 0 12 = lN (mpJ l (min k 8))) (fun F x k => sX7_goOn_b76 F x (nI k)) (fun x => sX7_goOn_b133 x (nI (q - p)) (nI (if q - p ≤ 8 then 1 else 4))) (fun F x hR => by
    obtain ⟨r1, r2, r3⟩ := hR
    have hx : LXM B len x := ⟨(r1 0 3).trans h.1, fun k hk => ⟨(h.2 k hk).1, (r1 1 k).trans (h.2 k hk).2⟩⟩
    have hh := lx_here (j := q - p) hx hl ((r1 0 4).trans h4) (by omega)
    have hf : (decide (p + (q - p) < len) && lxL (B (p + (q - p)))) = false := by
      rw [show p + (q - p) = q by omega]
      by_cases hc : q < len
      · rw [hr.2.2.2 hc, Bool.and_false]
      · rw [decide_eq_false hc, Bool.false_and]
    have hq := lx_hL (p := p) (j := q - p) hx
    rw [hf] at hq
    simp only [sX7_goOn_b76]
    rw [hh]
    simp only [bd_e]
    rw [hq]
    by_cases h8 : q - p ≤ 8
    · rw [if_pos h8]; simp (disch := omega) only [zl, zm, nI_add, pk_mul, inb_t, ix_n, gd_tt, bd_e, nm_v, ite_not, ↓reduceIte, le_t, le_f, lt_t, lt_f, eq_t, eq_f, mone_f, mone_f2, Bool.toNat_false]
    · rw [if_neg h8]; simp (disch := omega) only [zl, zm, nI_add, pk_mul, inb_t, ix_n, gd_tt, bd_e, nm_v, ite_not, ↓reduceIte, le_t, le_f, lt_t, lt_f, eq_t, eq_f, mone_f, mone_f2, Bool.toNat_false]) (fun k x hk1 hR => by
    obtain ⟨r1, r2, r3⟩ := hR
    have hx : LXM B len x := ⟨(r1 0 3).trans h.1, fun k hk => ⟨(h.2 k hk).1, (r1 1 k).trans (h.2 k hk).2⟩⟩
    have hh := lx_here (j := k) hx hl ((r1 0 4).trans h4) (by omega)
    rw [if_pos (show p + k < len by omega)] at hh
    have hLk := hr.2.2.1 (p + k) (by omega) (by omega)
    have hBk := lxL_of hLk
    have hq := lx_mL _ (hx.2 (p + k) (by omega)).1
    rw [hLk] at hq
    rcases Nat.lt_or_ge k 8 with h8 | h8
    · have hb := mpJ_bd hok (j := k) (by omega)
      rw [Nat.min_eq_left (by omega)] at r3
      have hor : lN (mpJ l k) <<< ((nI 5).toInt64 &&& 63) ||| (nI (B (p + k) - 97 + 1)).toInt64 = lN (mpJ l (k + 1)) := by
        rw [wb_shl _ (show 5 < 64 by omega), nI_l (by omega), wb_or (by omega) (by omega), mpJ_s, hat k (by omega), Nat.or_comm, or_add (show B (p + k) - 97 + 1 < 2 ^ 5 by omega), show B (p + k) - 97 + 1 + mpJ l k * 2 ^ 5 = mpJ l k * 32 + (B (p + k) - 96) by omega]
      refine ⟨pL x 0 0 12 (lN (mpJ l (k + 1))), fun F => ?_, ⟨fun j k' => r1 j k', fun j k' hjk => ?_, ?_⟩⟩
      · simp only [sX7_goOn_b76]
        rw [hh]
        simp only [bd_e]
        rw [hq]
        simp (disch := omega) only [zl, zm, nI_add, pk_mul, inb_t, ix_n, gd_tt, bd_e, nm_v, ite_not, ↓reduceIte, le_t, le_f, lt_t, lt_f, eq_t, eq_f, mone_f, mone_f2, Bool.toNat_true, r3, zs, hor]
      · rw [gL_pL, if_neg (by omega)]; exact r2 j k' hjk
      · rw [gL_pL, if_pos ⟨rfl, rfl, rfl⟩, Nat.min_eq_left (by omega)]
    · refine ⟨x, fun F => ?_, ⟨r1, r2, ?_⟩⟩
      · simp only [sX7_goOn_b76]
        rw [hh]
        simp only [bd_e]
        rw [hq]
        simp (disch := omega) only [zl, zm, nI_add, pk_mul, inb_t, ix_n, gd_tt, bd_e, nm_v, ite_not, ↓reduceIte, le_t, le_f, lt_t, lt_f, eq_t, eq_f, mone_f, mone_f2, Bool.toNat_true]
      · rw [r3, show min (k + 1) 8 = min k 8 by omega]) (q - p) 0 FU m (by omega) (FU_lt (by omega)) ⟨fun _ _ => rfl, fun _ _ _ => rfl, h12⟩
  obtain ⟨x', g1, g2, g3, g4, g5⟩ := hend x ((f1 0 4).trans h4)
  refine ⟨x', e1.trans g1, fun j k hjk => (g2 j k hjk).trans (f1 j k), fun j k hjk => (g3 j k).trans (f2 j k hjk), g4, g5, ?_⟩
  rw [g3 0 12, f3]
  unfold mpN
  rw [show min (q - p) 8 = l.length by omega]
theorem lx_mnum (h : LXM B len m) (hl : len ≤ 700) (hp : p < len) (hL : lxL (B p) = false) (hD : lxD (B p) = true) (h4 : gI m 0 0 4 = nI p) (h7 : gI m 0 0 7 = nI 0) : ∃ m', sX7_goOn_b146 FU m (nI 0) = some m' ∧ (∀ j k, ¬ (j = 0 ∧ (k = 4 ∨ k = 6 ∨ k = 7)) → gI m' 0 j k = gI m 0 j k) ∧ (∀ j k, gL m' 0 j k = gL m 0 j k) ∧ gI m' 0 0 4 = nI (lxNx B len p) ∧ gI m' 0 0 6 = nI (lxSrt (lxKd B len p)) ∧ gI m' 0 0 7 = nI (lxNum B len p) := by
  have h1 := lxNx_le (B := B) (Nat.le_of_lt hp)
  have hr := lxRun_sp (P := lxD) (B := B) (Nat.le_of_lt hp)
  rw [← lxNx_D hp hL hD] at hr
  have hk : lxSrt (lxKd B len p) = if lxNx B len p - p ≤ 3 then 2 else 4 := by
    unfold lxKd; rw [if_neg (by omega), hL, if_neg Bool.false_ne_true, if_pos hD]
    by_cases hc : lxNx B len p - p ≤ 3
    · rw [if_pos hc, if_pos hc]; rfl
    · rw [if_neg hc, if_neg hc]; rfl
  have hv : lxNum B len p = lxNv B p (min (lxNx B len p - p) 3) := by unfold lxNum; rw [Nat.min_comm]
  rw [hk, hv]
  generalize lxNx B len p = q at *
  have hsm : ∀ k, k ≤ q - p → lxNv B p (min k 3) < 1000 := fun k hk2 => by
    have h2 : lxNv B p (min k 3) < 10 ^ min k 3 := lxNv_lt fun i hi => hr.2.2.1 (p + i) (by omega) (by omega)
    have h3 : 10 ^ min k 3 ≤ 10 ^ 3 := Nat.pow_le_pow_right (by decide) (by omega)
    omega
  have hend : ∀ x : St, gI x 0 0 4 = nI p → ∃ x', sX7_goOn_b199 x (nI (q - p)) (nI (if q - p ≤ 3 then 2 else 4)) = some x' ∧ (∀ j k, ¬ (j = 0 ∧ (k = 4 ∨ k = 6)) → gI x' 0 j k = gI x 0 j k) ∧ (∀ j k, gL x' 0 j k = gL x 0 j k) ∧ gI x' 0 0 4 = nI q ∧ gI x' 0 0 6 = nI (if q - p ≤ 3 then 2 else 4) := fun x hx => by
    refine ⟨pI (pI x 0 0 6 (nI (if q - p ≤ 3 then 2 else 4))) 0 0 4 (nI q), ?_, fun j k hjk => ?_, fun j k => ?_, ?_, ?_⟩
    · unfold sX7_goOn_b199
      have : p + (q - p) = q := by omega
      simp (disch := omega) only [nm_v, zl, gI_pI, gL_pL, gI_pL, gL_pI, qe, qn, not_true_eq_false, not_false_eq_true, true_and, and_true, false_and, and_false, and_self, Nat.add_right_cancel_iff, ↓reduceIte, hx, nI_add, this]
    · rw [gI_pI, if_neg (by omega), gI_pI, if_neg (by omega)]
    · rfl
    · rw [gI_pI, if_pos ⟨rfl, rfl, rfl⟩]
    · rw [gI_pI, if_neg (by omega), gI_pI, if_pos ⟨rfl, rfl, rfl⟩]
  obtain ⟨x, e1, f1, f2, f3⟩ := one_up (q - p) (fun k (x : St) => (∀ j k', ¬ (j = 0 ∧ k' = 7) → gI x 0 j k' = gI m 0 j k') ∧ (∀ j k', gL x 0 j k' = gL m 0 j k') ∧ gI x 0 0 7 = nI (lxNv B p (min k 3))) (fun F x k => sX7_goOn_b146 F x (nI k)) (fun x => sX7_goOn_b199 x (nI (q - p)) (nI (if q - p ≤ 3 then 2 else 4))) (fun F x hR => by
    obtain ⟨r1, r2, r3⟩ := hR
    have hx : LXM B len x := ⟨(r1 0 3 (by omega)).trans h.1, fun k hk => ⟨(h.2 k hk).1, (r1 1 k (by omega)).trans (h.2 k hk).2⟩⟩
    have hh := lx_here (j := q - p) hx hl ((r1 0 4 (by omega)).trans h4) (by omega)
    have hf : (decide (p + (q - p) < len) && lxD (B (p + (q - p)))) = false := by
      rw [show p + (q - p) = q by omega]
      by_cases hc : q < len
      · rw [hr.2.2.2 hc, Bool.and_false]
      · rw [decide_eq_false hc, Bool.false_and]
    have hq := lx_hD (p := p) (j := q - p) hx
    rw [hf] at hq
    simp only [sX7_goOn_b146]
    rw [hh]
    simp only [bd_e]
    rw [hq]
    by_cases h8 : q - p ≤ 3
    · rw [if_pos h8]; simp (disch := omega) only [zl, zm, nI_add, pk_mul, inb_t, ix_n, gd_tt, bd_e, nm_v, ite_not, ↓reduceIte, le_t, le_f, lt_t, lt_f, eq_t, eq_f, mone_f, mone_f2, Bool.toNat_false]
    · rw [if_neg h8]; simp (disch := omega) only [zl, zm, nI_add, pk_mul, inb_t, ix_n, gd_tt, bd_e, nm_v, ite_not, ↓reduceIte, le_t, le_f, lt_t, lt_f, eq_t, eq_f, mone_f, mone_f2, Bool.toNat_false]) (fun k x hk1 hR => by
    obtain ⟨r1, r2, r3⟩ := hR
    have hx : LXM B len x := ⟨(r1 0 3 (by omega)).trans h.1, fun k hk => ⟨(h.2 k hk).1, (r1 1 k (by omega)).trans (h.2 k hk).2⟩⟩
    have hh := lx_here (j := k) hx hl ((r1 0 4 (by omega)).trans h4) (by omega)
    rw [if_pos (show p + k < len by omega)] at hh
    have hLk := hr.2.2.1 (p + k) (by omega) (by omega)
    have hBk := lxD_of hLk
    have hq := lx_mD _ (hx.2 (p + k) (by omega)).1
    rw [hLk] at hq
    rcases Nat.lt_or_ge k 3 with h8 | h8
    · have hb := hsm k (by omega)
      rw [Nat.min_eq_left (by omega)] at r3 hb
      have hor : nI (10 * lxNv B p k + B (p + k) - 48) = nI (lxNv B p (k + 1)) := by
        rw [lxNv_s, show 10 * lxNv B p k + B (p + k) - 48 = 10 * lxNv B p k + (B (p + k) - 48) by omega]
      refine ⟨pI x 0 0 7 (nI (lxNv B p (k + 1))), fun F => ?_, ⟨fun j k' hjk => ?_, fun j k' => r2 j k', ?_⟩⟩
      · simp only [sX7_goOn_b146]
        rw [hh]
        simp only [bd_e]
        rw [hq]
        simp (disch := omega) only [zl, zm, nI_add, pk_mul, inb_t, ix_n, gd_tt, bd_e, nm_v, ite_not, ↓reduceIte, le_t, le_f, lt_t, lt_f, eq_t, eq_f, mone_f, mone_f2, Bool.toNat_true, r3, zs, hor]
      · rw [gI_pI, if_neg (by omega)]; exact r1 j k' hjk
      · rw [gI_pI, if_pos ⟨rfl, rfl, rfl⟩, Nat.min_eq_left (by omega)]
    · refine ⟨x, fun F => ?_, ⟨r1, r2, ?_⟩⟩
      · simp only [sX7_goOn_b146]
        rw [hh]
        simp only [bd_e]
        rw [hq]
        simp (disch := omega) only [zl, zm, nI_add, pk_mul, inb_t, ix_n, gd_tt, bd_e, nm_v, ite_not, ↓reduceIte, le_t, le_f, lt_t, lt_f, eq_t, eq_f, mone_f, mone_f2, Bool.toNat_true]
      · rw [r3, show min (k + 1) 3 = min k 3 by omega]) (q - p) 0 FU m (by omega) (FU_lt (by omega)) ⟨fun _ _ _ => rfl, fun _ _ => rfl, h7⟩
  obtain ⟨x', g1, g2, g3, g4, g5⟩ := hend x ((f1 0 4 (by omega)).trans h4)
  refine ⟨x', e1.trans g1, fun j k hjk => (g2 j k (by omega)).trans (f1 j k (by omega)), fun j k => (g3 j k).trans (f2 j k), g4, g5, ?_⟩
  rw [g2 0 7 (by omega), f3]
/-- the model takes a token -/
theorem lx_tok (h : LXM B len m) (hl : len ≤ 700) (ha : gI m 0 0 4 = nI p) (hp : p ≤ len) (hns : p < len → lxS (B p) = false) : ∃ m', (∀ F, sX7_goOn_b0 (F + 1) m = some m') ∧ LGO m m' ∧ LMS B len p m' := by
  have hz : LGO m (pI (pL (pI m 0 0 5 (nI p)) 0 0 12 (lN 0)) 0 0 7 (nI 0)) := ⟨fun j k hjk => by rw [gI_pI, if_neg (by omega), gI_pL, gI_pI, if_neg (by omega)], fun j k hjk => by rw [gL_pI, gL_pL, if_neg (by omega)]; rfl⟩
  have z4 : gI (pI (pL (pI m 0 0 5 (nI p)) 0 0 12 (lN 0)) 0 0 7 (nI 0)) 0 0 4 = nI p := by simp (disch := omega) only [gI_pI, gL_pL, gI_pL, gL_pI, qe, qn, not_true_eq_false, not_false_eq_true, true_and, and_true, false_and, and_false, and_self, Nat.add_right_cancel_iff, ↓reduceIte]; exact ha
  have z5 : gI (pI (pL (pI m 0 0 5 (nI p)) 0 0 12 (lN 0)) 0 0 7 (nI 0)) 0 0 5 = nI p := by simp (disch := omega) only [gI_pI, gL_pL, gI_pL, gL_pI, qe, qn, not_true_eq_false, not_false_eq_true, true_and, and_true, false_and, and_false, and_self, Nat.add_right_cancel_iff, ↓reduceIte]
  have z7 : gI (pI (pL (pI m 0 0 5 (nI p)) 0 0 12 (lN 0)) 0 0 7 (nI 0)) 0 0 7 = nI 0 := by simp (disch := omega) only [gI_pI, gL_pL, gI_pL, gL_pI, qe, qn, not_true_eq_false, not_false_eq_true, true_and, and_true, false_and, and_false, and_self, Nat.add_right_cancel_iff, ↓reduceIte]
  have z12 : gL (pI (pL (pI m 0 0 5 (nI p)) 0 0 12 (lN 0)) 0 0 7 (nI 0)) 0 0 12 = lN 0 := by simp (disch := omega) only [gI_pI, gL_pL, gI_pL, gL_pI, qe, qn, not_true_eq_false, not_false_eq_true, true_and, and_true, false_and, and_false, and_self, Nat.add_right_cancel_iff, ↓reduceIte]
  have hx := lxm_go h hz
  have hh := lx_here (j := 0) h hl ha (by omega)
  have hh2 := lx_here (j := 0) hx hl z4 (by omega)
  have h0 : (0 : Int64) = lN 0 := rfl
  have hd : ∀ F, sX7_goOn_b0 (F + 1) m = bd (sX7_here m (nI 0)) fun q1 => if q1 = nI 32 then sX7_goOn_b0 F (pI m 0 0 4 (gI m 0 0 4 + nI 1)) else bd (sX7_here m (nI 0)) fun q4 => if ¬ q4 = nI 10 then bd (sX7_here (pI (pL (pI m 0 0 5 (gI m 0 0 4)) 0 0 12 (lN 0)) 0 0 7 (nI 0)) (nI 0)) fun q9 => if nI 0 ≤ q9 then bd (sX7_isLetter q9) fun q11 => if q11 = nI 0 then bd (sX7_isDigit q9) fun q13 => if q13 = nI 0 then if q9 = nI 59 then sX7_goOn_b229 (pI (pL (pI m 0 0 5 (gI m 0 0 4)) 0 0 12 (lN 0)) 0 0 7 (nI 0)) q9 (nI 3) else if q9 = nI 40 then sX7_goOn_b229 (pI (pL (pI m 0 0 5 (gI m 0 0 4)) 0 0 12 (lN 0)) 0 0 7 (nI 0)) q9 (nI 3) else if ¬ q9 = nI 41 then sX7_goOn_b229 (pI (pL (pI m 0 0 5 (gI m 0 0 4)) 0 0 12 (lN 0)) 0 0 7 (nI 0)) q9 (nI 4) else sX7_goOn_b229 (pI (pL (pI m 0 0 5 (gI m 0 0 4)) 0 0 12 (lN 0)) 0 0 7 (nI 0)) q9 (nI 3) else sX7_goOn_b146 FU (pI (pL (pI m 0 0 5 (gI m 0 0 4)) 0 0 12 (lN 0)) 0 0 7 (nI 0)) (nI 0) else sX7_goOn_b76 FU (pI (pL (pI m 0 0 5 (gI m 0 0 4)) 0 0 12 (lN 0)) 0 0 7 (nI 0)) (nI 0) else some (pI (pI (pL (pI m 0 0 5 (gI m 0 0 4)) 0 0 12 (lN 0)) 0 0 7 (nI 0)) 0 0 6 (nI 0)) else sX7_goOn_b0 F (pI m 0 0 4 (gI m 0 0 4 + nI 1)) := fun F => (fun h => h) rfl
  rw [Nat.add_zero] at hh hh2
  rw [ha] at hd
  generalize pI (pL (pI m 0 0 5 (nI p)) 0 0 12 (lN 0)) 0 0 7 (nI 0) = z at *
  rcases Nat.lt_or_ge p len with hpl | hpl
  · rw [if_pos hpl] at hh hh2
    obtain ⟨hB, _⟩ := h.2 p hpl
    have hs := hns hpl
    have hs2 : ¬ B p = 32 ∧ ¬ B p = 10 := by
      unfold lxS at hs
      rw [Bool.or_eq_false_iff, decide_eq_false_iff_not, decide_eq_false_iff_not] at hs
      exact hs
    have qL := lx_mL _ hB
    have qD := lx_mD _ hB
    have hk0 : lxKd B len p = if lxL (B p) = true then (if lxNx B len p - p ≤ 8 then 1 else 3) else if lxD (B p) = true then (if lxNx B len p - p ≤ 3 then 2 else 3) else if B p = 59 ∨ B p = 40 ∨ B p = 41 then B p else 3 := by unfold lxKd; rw [if_neg (by omega)]
    cases hL : lxL (B p)
    · rw [hL] at qL
      rw [hL, if_neg Bool.false_ne_true] at hk0
      cases hD : lxD (B p)
      · rw [hD] at qD
        rw [hD, if_neg Bool.false_ne_true] at hk0
        have hnx := lxNx_O hpl hL hD
        have hend : ∀ s : Nat, ∃ z', sX7_goOn_b229 z (nI (B p)) (nI s) = some z' ∧ LGO m z' ∧ gI z' 0 0 4 = nI (lxNx B len p) ∧ gI z' 0 0 5 = nI p ∧ gI z' 0 0 6 = nI s ∧ gI z' 0 0 7 = nI (B p) := fun s => by
          refine ⟨pI (pI (pI z 0 0 6 (nI s)) 0 0 7 (nI (B p))) 0 0 4 (nI (p + 1)), ?_, lgo_trans hz ⟨fun j k hjk => ?_, fun j k hjk => rfl⟩, ?_, ?_, ?_, ?_⟩
          · unfold sX7_goOn_b229
            simp (disch := omega) only [nm_v, zl, gI_pI, gL_pL, gI_pL, gL_pI, qe, qn, not_true_eq_false, not_false_eq_true, true_and, and_true, false_and, and_false, and_self, Nat.add_right_cancel_iff, ↓reduceIte, z4, nI_add]
          · rw [gI_pI, if_neg (by omega), gI_pI, if_neg (by omega), gI_pI, if_neg (by omega)]
          · rw [gI_pI, if_pos ⟨rfl, rfl, rfl⟩, hnx]
          · rw [gI_pI, if_neg (by omega), gI_pI, if_neg (by omega), gI_pI, if_neg (by omega)]; exact z5
          · rw [gI_pI, if_neg (by omega), gI_pI, if_neg (by omega), gI_pI, if_pos ⟨rfl, rfl, rfl⟩]
          · rw [gI_pI, if_neg (by omega), gI_pI, if_pos ⟨rfl, rfl, rfl⟩]
        by_cases hsg : B p = 59 ∨ B p = 40 ∨ B p = 41
        · rw [if_pos hsg] at hk0
          obtain ⟨z', e1, e2, e3, e4, e5, e6⟩ := hend 3
          refine ⟨z', fun F => ?_, e2, e3, e4, ?_, ?_, ?_, ?_⟩
          · rw [hd]
            rcases hsg with e | e | e
            · rw [e] at e1 hh hh2 qL qD
              simp (disch := omega) only [zl, zm, nI_add, pk_mul, inb_t, ix_n, gd_tt, bd_e, nm_v, ite_not, ↓reduceIte, le_t, le_f, lt_t, lt_f, eq_t, eq_f, mone_f, mone_f2, hh, hh2, qL, qD, Bool.toNat_false, e1]
            · rw [e] at e1 hh hh2 qL qD
              simp (disch := omega) only [zl, zm, nI_add, pk_mul, inb_t, ix_n, gd_tt, bd_e, nm_v, ite_not, ↓reduceIte, le_t, le_f, lt_t, lt_f, eq_t, eq_f, mone_f, mone_f2, hh, hh2, qL, qD, Bool.toNat_false, e1]
            · rw [e] at e1 hh hh2 qL qD
              simp (disch := omega) only [zl, zm, nI_add, pk_mul, inb_t, ix_n, gd_tt, bd_e, nm_v, ite_not, ↓reduceIte, le_t, le_f, lt_t, lt_f, eq_t, eq_f, mone_f, mone_f2, hh, hh2, qL, qD, Bool.toNat_false, e1]
          · rw [e5, hk0]; rcases hsg with e | e | e <;> rw [e] <;> rfl
          · intro g; exact absurd g (by omega)
          · intro g; exact absurd g (by omega)
          · intro g; rw [e6, hk0]
        · rw [if_neg hsg] at hk0
          obtain ⟨z', e1, e2, e3, e4, e5, e6⟩ := hend 4
          refine ⟨z', fun F => ?_, e2, e3, e4, ?_, ?_, ?_, ?_⟩
          · rw [hd]
            simp (disch := omega) only [zl, zm, nI_add, pk_mul, inb_t, ix_n, gd_tt, bd_e, nm_v, ite_not, ↓reduceIte, le_t, le_f, lt_t, lt_f, eq_t, eq_f, mone_f, mone_f2, hh, hh2, qL, qD, Bool.toNat_false, e1]
          · rw [e5, hk0]; rfl
          · intro g; exact absurd g (by omega)
          · intro g; exact absurd g (by omega)
          · intro g; exact absurd g (by omega)
      · rw [hD] at qD
        rw [hD, if_pos rfl] at hk0
        have hk1 : ¬ lxKd B len p = 1 ∧ ¬ 40 ≤ lxKd B len p := by
          by_cases hc : lxNx B len p - p ≤ 3
          · rw [if_pos hc] at hk0; omega
          · rw [if_neg hc] at hk0; omega
        obtain ⟨z', e1, e2, e3, e4, e5, e6⟩ := lx_mnum hx hl hpl hL hD z4 z7
        refine ⟨z', fun F => ?_, lgo_trans hz ⟨fun j k hjk => e2 j k (by omega), fun j k hjk => e3 j k⟩, e4, (e2 0 5 (by omega)).trans z5, e5, ?_, fun _ => e6, ?_⟩
        · rw [hd]
          simp (disch := omega) only [zl, zm, nI_add, pk_mul, inb_t, ix_n, gd_tt, bd_e, nm_v, ite_not, ↓reduceIte, le_t, le_f, lt_t, lt_f, eq_t, eq_f, mone_f, mone_f2, hh, hh2, qL, qD, Bool.toNat_false, Bool.toNat_true, e1]
        · intro g; exact absurd g hk1.1
        · intro g; exact absurd g hk1.2
    · rw [hL] at qL
      rw [hL, if_pos rfl] at hk0
      have hk1 : ¬ lxKd B len p = 2 ∧ ¬ 40 ≤ lxKd B len p := by
        by_cases hc : lxNx B len p - p ≤ 8
        · rw [if_pos hc] at hk0; omega
        · rw [if_neg hc] at hk0; omega
      obtain ⟨z', e1, e2, e3, e4, e5, e6⟩ := lx_mword hx hl hpl hL z4 z12
      refine ⟨z', fun F => ?_, lgo_trans hz ⟨fun j k hjk => e2 j k (by omega), fun j k hjk => e3 j k hjk⟩, e4, (e2 0 5 (by omega)).trans z5, e5, fun _ => e6, ?_, ?_⟩
      · rw [hd]
        simp (disch := omega) only [zl, zm, nI_add, pk_mul, inb_t, ix_n, gd_tt, bd_e, nm_v, ite_not, ↓reduceIte, le_t, le_f, lt_t, lt_f, eq_t, eq_f, mone_f, mone_f2, hh, hh2, qL, qD, Bool.toNat_false, Bool.toNat_true, e1]
      · intro g; exact absurd g hk1.1
      · intro g; exact absurd g hk1.2
  · obtain rfl : p = len := by omega
    rw [if_neg (by omega)] at hh hh2
    have hk : lxKd B p p = 0 := ((lxKd_sp (B := B) (Nat.le_refl p)).1).mpr rfl
    have hnx : lxNx B p p = p := if_pos (Nat.le_refl _)
    have hm0 : ¬ nI 0 ≤ mone := by decide
    refine ⟨pI z 0 0 6 (nI 0), fun F => ?_, lgo_trans hz ⟨fun j k hjk => ?_, fun j k hjk => rfl⟩, ?_, ?_, ?_, ?_, ?_, ?_⟩
    · rw [hd]
      simp (disch := omega) only [zl, zm, nI_add, pk_mul, inb_t, ix_n, gd_tt, bd_e, nm_v, ite_not, ↓reduceIte, le_t, le_f, lt_t, lt_f, eq_t, eq_f, mone_f, mone_f2, hh, hh2, hm0]
    · rw [gI_pI, if_neg (by omega)]
    · rw [gI_pI, if_neg (by omega), z4, hnx]
    · rw [gI_pI, if_neg (by omega), z5]
    · rw [gI_pI, if_pos ⟨rfl, rfl, rfl⟩, hk]; rfl
    · intro g; exact absurd g (by omega)
    · intro g; exact absurd g (by omega)
    · intro g; exact absurd g (by omega)
theorem lx_skip (hl : len ≤ 700) : ∀ (d a F : Nat) (m : St), len ≤ a + d → a ≤ len → LXM B len m → gI m 0 0 4 = nI a → d < F → ∃ m', sX7_goOn_b0 F m = some m' ∧ LGO m m' ∧ LMS B len (lxSk B len a) m'
  | d, a, 0, m, _, _, _, _, h => absurd h (by omega)
  | d, a, F + 1, m, h1, h2, h3, h4, h5 => by
    by_cases hc : a < len ∧ lxS (B a) = true
    · obtain ⟨d, rfl⟩ : ∃ d', d = d' + 1 := ⟨d - 1, by omega⟩
      have hg : LGO m (pI m 0 0 4 (nI (a + 1))) := ⟨fun j k hjk => by rw [gI_pI, if_neg (by omega)], fun j k _ => rfl⟩
      obtain ⟨m', e1, e2, e3⟩ := lx_skip hl d (a + 1) F (pI m 0 0 4 (nI (a + 1))) (by omega) (by omega) (lxm_go h3 hg) (by rw [gI_pI, if_pos ⟨rfl, rfl, rfl⟩]) (by omega)
      refine ⟨m', ?_, lgo_trans hg e2, ?_⟩
      · have hh := lx_here (j := 0) h3 hl h4 (by omega)
        rw [Nat.add_zero, if_pos hc.1] at hh
        have hs : B a = 32 ∨ B a = 10 := by
          have h2 := hc.2
          unfold lxS at h2
          rw [Bool.or_eq_true, decide_eq_true_eq, decide_eq_true_eq] at h2
          exact h2
        simp only [sX7_goOn_b0, zl, nm_v]
        rcases hs with e | e
        · rw [e] at hh
          simp (disch := omega) only [zl, zm, nI_add, pk_mul, inb_t, ix_n, gd_tt, bd_e, nm_v, ite_not, ↓reduceIte, le_t, le_f, lt_t, lt_f, eq_t, eq_f, mone_f, mone_f2, hh, h4]
          exact e1
        · rw [e] at hh
          simp (disch := omega) only [zl, zm, nI_add, pk_mul, inb_t, ix_n, gd_tt, bd_e, nm_v, ite_not, ↓reduceIte, le_t, le_f, lt_t, lt_f, eq_t, eq_f, mone_f, mone_f2, hh, h4]
          exact e1
      · have := (lxRun_step hc.1 hc.2).1
        unfold lxSk at e3 ⊢
        rw [← this]; exact e3
    · have hst : lxSk B len a = a := lxRun_stay h2 fun z => by
        cases hs : lxS (B a)
        · rfl
        · exact absurd ⟨z, hs⟩ hc
      obtain ⟨m', e1, e2, e3⟩ := lx_tok h3 hl h4 h2 fun z => by
        cases hs : lxS (B a)
        · rfl
        · exact absurd ⟨z, hs⟩ hc
      exact ⟨m', e1 F, e2, by rw [hst]; exact e3⟩
theorem lx_goOn (hl : len ≤ 700) (h : LXM B len m) (ha : gI m 0 0 4 = nI a) (h2 : a ≤ len) : ∃ m', sX7_goOn m = some m' ∧ LGO m m' ∧ LMS B len (lxSk B len a) m' := lx_skip hl len a FU m (by omega) h2 h ha (FU_lt (by omega))
end
