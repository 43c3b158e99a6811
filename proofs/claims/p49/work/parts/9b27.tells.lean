/-! stage B: the other statements of a text that is known -/
section
variable {B : Nat → Nat} {len c i n p k v a b : Nat} {t t' x d : St} {l l' w : List Nat}
theorem told_tab : ∀ v, v < 8 → (v < 1 → v &&& 1 = 0 ∧ v ||| 1 < 2) ∧ (v < 2 → v &&& 2 = 0 ∧ v ||| 2 < 4) ∧ (v < 4 → v &&& 4 = 0 ∧ v ||| 4 < 8) ∧ v &&& 8 = 0 ∧ v ||| 8 < 16 := by decide
theorem k_tell {wh : Nat} (h : RDP B len c (w ++ ([32] ++ l)) t) (ho : okL w) (hl : hdN lxS l = true) (hd : gI d 0 0 1 = nI v) (hv : v &&& wh = 0) : ∃ t', sX3_tellOnce t d (nI wh) = some (t', pI d 0 0 1 (nI (v ||| wh)), nI 1) ∧ RDP B len c l t' := by
  obtain ⟨a1, a2, t1, a3, a4⟩ := k_word h ho hl
  refine ⟨t1, ?_, a4⟩
  unfold sX3_tellOnce
  rw [hd, n_and, hv, if_pos (show nI 0 = 0 from rfl), nm_v, n_or, a3]
  rfl
def csT (c0 c1 c2 c3 : Nat) (l : List Nat) : List Nat := wCos ++ ([32] ++ (dN c0 ++ ([32] ++ (dN c1 ++ ([32] ++ (dN c2 ++ ([32] ++ (dN c3 ++ ([32] ++ ([59] ++ ([10] ++ l)))))))))))
theorem k_costs {c0 c1 c2 c3 : Nat} (h : RDP B len c (csT c0 c1 c2 c3 l) t) (h0 : c0 ≤ 99) (h1 : c1 ≤ 99) (h2 : c2 ≤ 99) (h3 : c3 ≤ 99) (hd : gI d 0 0 1 = nI 0) : ∃ t', gI t 0 0 5 = nI 1 ∧ sX3_readStatement x t d = some (pI (pI (pI (pI x 0 1 0 (nI c0)) 0 1 1 (nI c1)) 0 1 2 (nI c2)) 0 1 3 (nI c3), t', pI d 0 0 1 (nI 1), nI 1) ∧ RDP B len c ([59] ++ ([10] ++ l)) t' := by
  have ok := ok_w.2.2.2.2.2.2.1
  obtain ⟨a1, a2, -⟩ := k_word h ok (hd_D (by omega) _)
  obtain ⟨t1, b1, b2⟩ := k_tell (wh := 1) h ok (hd_D (by omega) _) hd rfl
  obtain ⟨t2, c1', c2'⟩ := k_numB (lo := 0) (hi := 99) b2 (hd_D (by omega) _) (by omega) h0 (by omega)
  obtain ⟨t3, d1, d2⟩ := k_numB (lo := 0) (hi := 99) c2' (hd_D (by omega) _) (by omega) h1 (by omega)
  obtain ⟨t4, e1, e2⟩ := k_numB (lo := 0) (hi := 99) d2 (hd_D (by omega) _) (by omega) h2 (by omega)
  obtain ⟨t5, f1, f2⟩ := k_numB (lo := 0) (hi := 99) e2 rfl (by omega) h3 (by omega)
  obtain ⟨w1, -⟩ := k_first a1 ok a2
  rw [show decide (wCos = wCos) = true by decide] at w1
  refine ⟨t5, a1, ?_, f2⟩
  obtain ⟨F, hF⟩ : ∃ F, FU = F + 1 + 1 + 1 + 1 + 1 := ⟨FU - 5, by have : FU = 1000000 := rfl; omega⟩
  have hc : sX3_readCosts x t1 = some (pI (pI (pI (pI x 0 1 0 (nI c0)) 0 1 1 (nI c1)) 0 1 2 (nI c2)) 0 1 3 (nI c3), t5, nI 1) := by
    unfold sX3_readCosts
    rw [hF]
    simp only [sX3_readCosts_b2]
    simp (disch := omega) only [↓nm_v, zl, zm, nI_add, pk_mul, inb_t, ix_n, gd_tt, bd_e, nm_v, ite_not, ↓reduceIte, le_t, le_f, lt_t, lt_f, eq_t, eq_f, mone_f, mone_f2, c1', d1, e1, f1]
  unfold sX3_readStatement
  simp (disch := omega) only [↓nm_v, zl, zm, nI_add, pk_mul, inb_t, ix_n, gd_tt, bd_e, nm_v, ite_not, ↓reduceIte, le_t, le_f, lt_t, lt_f, eq_t, eq_f, mone_f, mone_f2, w1, Bool.toNat_true, b1, hc]
  rfl
theorem k_seed {s : Nat} (h : RDP B len c (wSee ++ ([32] ++ (dN s ++ ([59] ++ l)))) t) (h0 : s ≤ 999) (hd : gI d 0 0 1 = nI v) (hv : v &&& 2 = 0) : ∃ t', gI t 0 0 5 = nI 1 ∧ sX3_readStatement x t d = some (pI x 0 0 6 (nI s), t', pI d 0 0 1 (nI (v ||| 2)), nI 1) ∧ RDP B len c ([59] ++ l) t' := by
  have ok := ok_w.2.2.2.2.2.2.2.1
  obtain ⟨a1, a2, -⟩ := k_word h ok (hd_D (by omega) _)
  obtain ⟨t1, b1, b2⟩ := k_tell (wh := 2) h ok (hd_D (by omega) _) hd hv
  obtain ⟨t2, c1', c2'⟩ := k_num0 (lo := 0) (hi := 999) b2 (by omega) h0 (by omega)
  obtain ⟨w1, w2, -⟩ := k_first a1 ok a2
  rw [show decide (wSee = wCos) = false by decide] at w1
  rw [show decide (wSee = wSee) = true by decide] at w2
  refine ⟨t2, a1, ?_, c2'⟩
  have hc : sX3_readSeed x t1 = some (pI x 0 0 6 (nI s), t2, nI 1) := by
    unfold sX3_readSeed
    simp (disch := omega) only [↓nm_v, zl, zm, nI_add, pk_mul, inb_t, ix_n, gd_tt, bd_e, nm_v, ite_not, ↓reduceIte, le_t, le_f, lt_t, lt_f, eq_t, eq_f, mone_f, mone_f2, c1', gI_pI, gL_pL, gI_pL, gL_pI, qe, qn, not_true_eq_false, not_false_eq_true, true_and, and_true, false_and, and_false, and_self, Nat.add_right_cancel_iff]
  unfold sX3_readStatement
  simp (disch := omega) only [↓nm_v, zl, zm, nI_add, pk_mul, inb_t, ix_n, gd_tt, bd_e, nm_v, ite_not, ↓reduceIte, le_t, le_f, lt_t, lt_f, eq_t, eq_f, mone_f, mone_f2, w1, w2, Bool.toNat_true, Bool.toNat_false, b1, hc]
theorem k_tries {s : Nat} (h : RDP B len c (wTri ++ ([32] ++ (dN s ++ ([59] ++ l)))) t) (h00 : 1 ≤ s) (h0 : s ≤ 9) (hd : gI d 0 0 1 = nI v) (hv : v &&& 4 = 0) : ∃ t', gI t 0 0 5 = nI 1 ∧ sX3_readStatement x t d = some (pI x 0 0 3 (nI s), t', pI d 0 0 1 (nI (v ||| 4)), nI 1) ∧ RDP B len c ([59] ++ l) t' := by
  have ok := ok_w.2.2.2.2.2.2.2.2.1
  obtain ⟨a1, a2, -⟩ := k_word h ok (hd_D (by omega) _)
  obtain ⟨t1, b1, b2⟩ := k_tell (wh := 4) h ok (hd_D (by omega) _) hd hv
  obtain ⟨t2, c1', c2'⟩ := k_num0 (lo := 1) (hi := 9) b2 h00 h0 (by omega)
  obtain ⟨w1, w2, w3, -⟩ := k_first a1 ok a2
  rw [show decide (wTri = wCos) = false by decide] at w1
  rw [show decide (wTri = wSee) = false by decide] at w2
  rw [show decide (wTri = wTri) = true by decide] at w3
  refine ⟨t2, a1, ?_, c2'⟩
  have hc : sX3_readTries x t1 = some (pI x 0 0 3 (nI s), t2, nI 1) := by
    unfold sX3_readTries
    simp (disch := omega) only [↓nm_v, zl, zm, nI_add, pk_mul, inb_t, ix_n, gd_tt, bd_e, nm_v, ite_not, ↓reduceIte, le_t, le_f, lt_t, lt_f, eq_t, eq_f, mone_f, mone_f2, c1', gI_pI, gL_pL, gI_pL, gL_pI, qe, qn, not_true_eq_false, not_false_eq_true, true_and, and_true, false_and, and_false, and_self, Nat.add_right_cancel_iff]
  unfold sX3_readStatement
  simp (disch := omega) only [↓nm_v, zl, zm, nI_add, pk_mul, inb_t, ix_n, gd_tt, bd_e, nm_v, ite_not, ↓reduceIte, le_t, le_f, lt_t, lt_f, eq_t, eq_f, mone_f, mone_f2, w1, w2, w3, Bool.toNat_true, Bool.toNat_false, b1, hc]
theorem k_memory {s : Nat} (h : RDP B len c (wMem ++ ([32] ++ (dN s ++ ([59] ++ l)))) t) (h00 : 1 ≤ s) (h0 : s ≤ 999) (hd : gI d 0 0 1 = nI v) (hv : v &&& 8 = 0) : ∃ t', gI t 0 0 5 = nI 1 ∧ sX3_readStatement x t d = some (pI x 0 0 4 (nI s), t', pI d 0 0 1 (nI (v ||| 8)), nI 1) ∧ RDP B len c ([59] ++ l) t' := by
  have ok := ok_w.2.2.2.2.2.2.2.2.2.1
  obtain ⟨a1, a2, -⟩ := k_word h ok (hd_D (by omega) _)
  obtain ⟨t1, b1, b2⟩ := k_tell (wh := 8) h ok (hd_D (by omega) _) hd hv
  obtain ⟨t2, c1', c2'⟩ := k_num0 (lo := 1) (hi := 999) b2 h00 h0 (by omega)
  obtain ⟨w1, w2, w3, w4, -⟩ := k_first a1 ok a2
  rw [show decide (wMem = wCos) = false by decide] at w1
  rw [show decide (wMem = wSee) = false by decide] at w2
  rw [show decide (wMem = wTri) = false by decide] at w3
  rw [show decide (wMem = wMem) = true by decide] at w4
  refine ⟨t2, a1, ?_, c2'⟩
  have hc : sX3_readMemory x t1 = some (pI x 0 0 4 (nI s), t2, nI 1) := by
    unfold sX3_readMemory
    simp (disch := omega) only [↓nm_v, zl, zm, nI_add, pk_mul, inb_t, ix_n, gd_tt, bd_e, nm_v, ite_not, ↓reduceIte, le_t, le_f, lt_t, lt_f, eq_t, eq_f, mone_f, mone_f2, c1', gI_pI, gL_pL, gI_pL, gL_pI, qe, qn, not_true_eq_false, not_false_eq_true, true_and, and_true, false_and, and_false, and_self, Nat.add_right_cancel_iff]
  unfold sX3_readStatement
  simp (disch := omega) only [↓nm_v, zl, zm, nI_add, pk_mul, inb_t, ix_n, gd_tt, bd_e, nm_v, ite_not, ↓reduceIte, le_t, le_f, lt_t, lt_f, eq_t, eq_f, mone_f, mone_f2, w1, w2, w3, w4, Bool.toNat_true, Bool.toNat_false, b1, hc]
theorem k_here (hn : n ≤ 8) (hx : gI x 0 0 2 = nI n) (hnm : ∀ k, k < n → gL x (k + 1) 0 0 = lN (cpN [97 + k])) (ha : a < n) (h1 : gI t 0 0 5 = nI 1) (h2 : gL t 0 0 7 = lN (cpN [97 + a])) : sX4_beaconHere x t = some (t, nI a) := by
  have hf : sX5_find x (gL t 0 0 7) = some (nI a) := by
    refine c_findS hn hx ha (by rw [hnm a ha, h2]) (fun k hk he => ?_)
    rw [hnm k (by omega), h2] at he
    have := (cp_inj (ok_nm (show k < 8 by omega)) (ok_nm (show a < 8 by omega))).mp he
    have := (List.cons.inj this).1
    omega
  unfold sX4_beaconHere
  simp (disch := omega) only [↓nm_v, zl, zm, nI_add, pk_mul, inb_t, ix_n, gd_tt, bd_e, nm_v, ite_not, ↓reduceIte, le_t, le_f, lt_t, lt_f, eq_t, eq_f, mone_f, mone_f2, h1, hf]
theorem k_near (h : RDP B len c (wNea ++ ([32] ++ ([97 + a] ++ ([32] ++ ([97 + b] ++ ([59] ++ l)))))) t) (hn : n ≤ 8) (hx : gI x 0 0 2 = nI n) (hnm : ∀ k, k < n → gL x (k + 1) 0 0 = lN (cpN [97 + k])) (ha : a < n) (hb : b < n) (hab : ¬ a = b) (hxa : gI x (a + 1) 0 10 = nI (NB x a) ∧ NB x a < 256) (hxb : gI x (b + 1) 0 10 = nI (NB x b) ∧ NB x b < 256) (hf : (NB x a).testBit b = false) : ∃ t', gI t 0 0 5 = nI 1 ∧ sX3_readStatement x t d = some (swX x a b, t', d, nI 1) ∧ RDP B len c ([59] ++ l) t' := by
  have ok := ok_w.2.2.2.2.2.2.2.2.2.2
  obtain ⟨a1, a2, t1, a3, a4⟩ := k_word h ok (hd_L (ok_nm (show a < 8 by omega)) _)
  obtain ⟨b1, b2, t2, b3, b4⟩ := k_word a4 (ok_nm (show a < 8 by omega)) (hd_L (ok_nm (show b < 8 by omega)) _)
  obtain ⟨c1', c2', t3, c3', c4'⟩ := k_word0 b4 (ok_nm (show b < 8 by omega))
  have e1 := k_here hn hx hnm ha b1 b2
  have e2 := k_here hn hx hnm hb c1' c2'
  obtain ⟨w1, w2, w3, w4, w5, w6⟩ := k_first a1 ok a2
  rw [show decide (wNea = wCos) = false by decide] at w1
  rw [show decide (wNea = wSee) = false by decide] at w2
  rw [show decide (wNea = wTri) = false by decide] at w3
  rw [show decide (wNea = wMem) = false by decide] at w4
  rw [show decide (wNea = wBea) = false by decide] at w5
  rw [show decide (wNea = wNea) = true by decide] at w6
  have hin := c_isIn (a := NB x a) (k := b) (by omega) (by omega)
  rw [hf] at hin
  have hsw : sX5_switchNear x (nI a) (nI b) = some (swX x a b) := by
    unfold sX5_switchNear swX
    simp (disch := omega) only [zl, zm, nI_add, pk_mul, inb_t, ix_n, gd_tt, bd_e, nm_v, ite_not, ↓reduceIte, le_t, le_f, lt_t, lt_f, eq_t, eq_f, mone_f, mone_f2, sh1, hxa.1, gI_pI, gL_pL, gI_pL, gL_pI, qe, qn, not_true_eq_false, not_false_eq_true, true_and, and_true, false_and, and_false, and_self, Nat.add_right_cancel_iff, hxb.1, n_xor]
  have hc : sX3_readNear x t = some (swX x a b, t3, nI 1) := by
    unfold sX3_readNear
    have hba : ¬ b = a := fun z => hab z.symm
    simp (disch := omega) only [↓nm_v, zl, zm, nI_add, pk_mul, inb_t, ix_n, gd_tt, bd_e, nm_v, ite_not, ↓reduceIte, le_t, le_f, lt_t, lt_f, eq_t, eq_f, mone_f, mone_f2, a3, e1, b3, e2, hba, hxa.1, hin, Bool.toNat_false, hsw, c3']
  refine ⟨t3, a1, ?_, c4'⟩
  unfold sX3_readStatement
  simp (disch := omega) only [↓nm_v, zl, zm, nI_add, pk_mul, inb_t, ix_n, gd_tt, bd_e, nm_v, ite_not, ↓reduceIte, le_t, le_f, lt_t, lt_f, eq_t, eq_f, mone_f, mone_f2, w1, w2, w3, w4, w5, w6, Bool.toNat_true, Bool.toNat_false, hc, show isb (nI 1) = true from rfl]
/-- a statement and its sign: one step of the reading -/
theorem k_step {x' d' tm : St} {s : List Nat} (h1 : gI t 0 0 5 = nI 1) (h2 : sX3_readStatement x t d = some (x', tm, d', nI 1)) (h3 : RDP B len c ([59] ++ (s ++ l)) tm) (hs : s.all lxS = true) (hl : hdN lxS l = true) : ∃ t', (∀ F k, k < 700 → sX3_readAll_b11 (F + 1) x t d (nI k) = sX3_readAll_b11 F x' t' d' (nI (k + 1))) ∧ RDP B len c l t' := by
  obtain ⟨t', e1, e2⟩ := k_sign h3 hs hl
  refine ⟨t', fun F k hk => ?_, e2⟩
  simp only [sX3_readAll_b11]
  simp (disch := omega) only [↓nm_v, zl, zm, nI_add, pk_mul, inb_t, ix_n, gd_tt, bd_e, nm_v, ite_not, ↓reduceIte, le_t, le_f, lt_t, lt_f, eq_t, eq_f, mone_f, mone_f2, h1, h2, e1]
end
