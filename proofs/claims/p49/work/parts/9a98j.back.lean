/-! stage B: undo, save, restore, feed, truncate -/
def SV (x2 c m : St) : Prop := ∃ kq : Bool, gI c 0 0 7 = nI kq.toNat ∧ gI m 0 0 22 = nI kq.toNat ∧ (kq = true → WO (gL m 0 8) x2 (gI m 0 3))
def sgn (v : Nat) : Int32 := (nI v).toInt8.toInt32
def BF (len : Nat) (c m : St) : Prop := len ≤ 700 ∧ gI c 0 0 1 = nI len ∧ gI m 0 0 2 = nI len ∧ ∀ k, k < len → ∃ v, v < 256 ∧ gI m 0 1 k = nI v ∧ gI c 0 1 k = sgn v
section
variable {L n t b len : Nat} {pg m x c x2 : St} {f : Nat → Int32} {ps : Nat → St}
theorem q_undo (hx : WO (gL m 0 7) x (gI m 0 2)) (hp : PR ps c m) : ∃ x' c' v m', sX6_undo x ps c = some (x', c', v) ∧ sX7_undo m = some (m', v) ∧ WO (gL m' 0 7) x' (gI m' 0 2) ∧ PR ps c' m' ∧ KC c c' ∧ KXM m m' := by
  obtain ⟨u, hu, a1, a2, π, a3, a4, a5⟩ := hp
  unfold sX6_undo sX7_undo
  simp only [zl, nm_v]
  have e21 : gI (pI m 0 0 0 (nI 0)) 0 0 21 = nI u := by rw [gI_pI, if_neg (by omega)]; exact a2
  rw [a1, e21]
  by_cases h0 : u = 0
  · subst h0
    refine ⟨x, c, mone, pI m 0 0 0 (nI 0), ?_, ?_, ?_, ?_, fun _ _ _ _ _ => rfl, ⟨fun k hk _ => by rw [gI_pI, if_neg (by omega)], fun j k h0 _ _ _ => by rw [gI_pI, if_neg (by omega)], fun _ _ => rfl⟩⟩
    · simp (disch := omega) only [zl, zm, nI_add, pk_mul, inb_t, ix_n, gd_tt, bd_e, nm_v, ite_not, ↓reduceIte, le_t, le_f, lt_t, lt_f, eq_t, eq_f, mone_f, mone_f2]
    · simp (disch := omega) only [zl, zm, nI_add, pk_mul, inb_t, ix_n, gd_tt, bd_e, nm_v, ite_not, ↓reduceIte, le_t, le_f, lt_t, lt_f, eq_t, eq_f, mone_f, mone_f2]
    · have e : gI (pI m 0 0 0 (nI 0)) 0 2 = gI m 0 2 := funext fun k => by rw [gI_pI, if_neg (by omega)]
      rw [e]; exact hx
    · exact ⟨0, by omega, a1, by rw [gI_pI, if_neg (by omega)]; exact a2, π, a3, a4, fun i hi => absurd hi (by omega)⟩
  · obtain ⟨v, rfl⟩ : ∃ v, u = v + 1 := ⟨u - 1, by omega⟩
    obtain ⟨p1, p2⟩ := a3 v (by omega)
    have hlt : ltN (π v) 6 = true := decide_eq_true p2
    obtain ⟨x', e1, e2, _⟩ := (a5 v (by omega)).copy x
    have hM : ∀ j k, ¬ (j = 0 ∧ (k = 0 ∨ k = 21)) → gI (pI (pI m 0 0 0 (nI 0)) 0 0 21 (nI v)) 0 j k = gI m 0 j k := fun j k hjk => by
      rw [gI_pI, if_neg (by omega), gI_pI, if_neg (by omega)]
    have hM21 : gI (pI (pI m 0 0 0 (nI 0)) 0 0 21 (nI v)) 0 0 21 = nI v := by rw [gI_pI, if_pos ⟨rfl, rfl, rfl⟩]
    have hML : ∀ j k, gL (pI (pI m 0 0 0 (nI 0)) 0 0 21 (nI v)) 0 j k = gL m 0 j k := fun _ _ => rfl
    generalize hMM : pI (pI m 0 0 0 (nI 0)) 0 0 21 (nI v) = M at hM hM21 hML
    have hcp := m_copies (m := M) (a := 365 * v) (b := 0) (j0 := 6) (j2 := 2) (by omega) (by show 365 * v + 365 ≤ 2190; omega) (by decide) (by decide)
    refine ⟨x', pI c 0 0 9 (nI v), nI v, sA M 2 (cpy (gI M 0 6) (gI M 0 2) (365 * v) 0 365), ?_, ?_, ?_, ?_, fun o j k h1 h2 => by rw [gI_pI, if_neg h1], ?_⟩
    rotate_left
    · simp (disch := omega) only [zl, zm, nI_add, pk_mul, inb_t, ix_n, gd_tt, bd_e, nm_v, ite_not, ↓reduceIte, le_t, le_f, lt_t, lt_f, eq_t, eq_f, mone_f, mone_f2, zs, Nat.add_sub_cancel, hMM, hM21, hcp]
      rw [sA_n _ _ _ (by omega), hM21]
    · rw [show gL (sA M 2 (cpy (gI M 0 6) (gI M 0 2) (365 * v) 0 365)) 0 7 = gL m 0 7 from funext fun k => hML 7 k]
      refine WO.fcg e2 fun i hi => ?_
      rw [sA_i, cpy_i0 hi, hM _ _ (by omega)]
    · refine ⟨v, by omega, by rw [gI_pI, if_pos ⟨rfl, rfl, rfl⟩], by rw [sA_n _ _ _ (by omega), hM21], π, fun i hi => ?_, a4, fun i hi => ?_⟩
      · rw [gI_pI, if_neg (by omega)]; exact a3 i hi
      · refine ((a5 i (by omega)).wcg fun b _ => hML 7 b).fcg fun k _ => ?_
        rw [sA_n _ _ _ (by omega), hM _ _ (by omega)]
    · refine ⟨fun k h1 h2 => ?_, fun j k h0 h2 _ _ => ?_, fun j k => hML j k⟩
      · rw [sA_n _ _ _ (by omega), hM _ _ (by omega)]
      · rw [sA_n _ _ _ h2, hM _ _ (by omega)]
    · simp (disch := omega) only [zl, zm, nI_add, pk_mul, inb_t, ix_n, gd_tt, bd_e, nm_v, ite_not, ↓reduceIte, le_t, le_f, lt_t, lt_f, eq_t, eq_f, mone_f, mone_f2, zs, Nat.add_sub_cancel, gI_pI, gL_pL, gI_pL, gL_pI, qe, qn, not_true_eq_false, not_false_eq_true, true_and, and_true, false_and, and_false, and_self, Nat.add_right_cancel_iff, p1, hlt, e1]
theorem q_save (hx : WO (gL m 0 7) x (gI m 0 2)) : ∃ x2' c' v m', sX6_save x x2 c = some (x2', c', v) ∧ sX7_save m = some (m', v) ∧ SV x2' c' m' ∧ (∀ o j k, ¬ (o = 0 ∧ j = 0 ∧ k = 7) → gI c' o j k = gI c o j k) ∧ (∀ j k, ¬ (j = 0 ∧ (k = 0 ∨ k = 22)) → ¬ j = 3 → gI m' 0 j k = gI m 0 j k) ∧ (∀ j k, ¬ j = 8 → gL m' 0 j k = gL m 0 j k) := by
  obtain ⟨x2', e1, e2, e3⟩ := hx.copy x2
  obtain ⟨n, t, ht, hws, hnw⟩ := hx
  unfold sX6_save sX7_save
  simp only [zl, nm_v]
  rw [e1]
  have hM : ∀ j k, ¬ (j = 0 ∧ k = 0) → gI (pI m 0 0 0 (nI 0)) 0 j k = gI m 0 j k := fun j k hjk => by rw [gI_pI, if_neg (by omega)]
  have hML : ∀ j k, gL (pI m 0 0 0 (nI 0)) 0 j k = gL m 0 j k := fun _ _ => rfl
  generalize pI m 0 0 0 (nI 0) = M at hM hML
  have hcp := m_copies (m := M) (a := 0) (b := 0) (j0 := 2) (j2 := 3) (by omega) (by decide) (by decide) (by decide)
  have hQ : ∀ j k, ¬ j = 3 → gI (sA M 3 (cpy (gI M 0 2) (gI M 0 3) 0 0 365)) 0 j k = gI M 0 j k := fun j k hj => sA_n _ _ _ hj k
  have hQ3 : ∀ i, i < 365 → gI (sA M 3 (cpy (gI M 0 2) (gI M 0 3) 0 0 365)) 0 3 i = gI m 0 2 i := fun i hi => by
    rw [sA_i, cpy_i0 hi, Nat.zero_add, hM _ _ (by omega)]
  have hQL : ∀ j k, gL (sA M 3 (cpy (gI M 0 2) (gI M 0 3) 0 0 365)) 0 j k = gL m 0 j k := fun j k => hML j k
  generalize sA M 3 (cpy (gI M 0 2) (gI M 0 3) 0 0 365) = Q at hcp hQ hQ3 hQL
  obtain ⟨w, g1, g2⟩ := m_names (m := Q) (j0 := 7) (j1 := 8) (by omega) (by decide)
  have hft : gI m 0 2 1 = nI t := hws.ft
  refine ⟨x2', pI c 0 0 7 (nI 1), nI t, pI (sN Q 8 w) 0 0 22 (nI 1), ?_, ?_, ⟨true, by rw [gI_pI, if_pos ⟨rfl, rfl, rfl⟩]; rfl, by rw [gI_pI, if_pos ⟨rfl, rfl, rfl⟩]; rfl, fun _ => ?_⟩, fun o j k h => by rw [gI_pI, if_neg h], fun j k h1 h3 => ?_, fun j k h8 => ?_⟩
  · simp (disch := omega) only [zl, zm, nI_add, pk_mul, inb_t, ix_n, gd_tt, bd_e, nm_v, ite_not, ↓reduceIte, le_t, le_f, lt_t, lt_f, eq_t, eq_f, mone_f, mone_f2, hws.xt]
  · have e1 : gI (pI (sN Q 8 w) 0 0 22 (nI 1)) 0 2 1 = nI t := by
      rw [gI_pI, if_neg (by omega), sN_I, hQ _ _ (by omega), hM _ _ (by omega)]; exact hft
    simp (disch := omega) only [zl, zm, nI_add, pk_mul, inb_t, ix_n, gd_tt, bd_e, nm_v, ite_not, ↓reduceIte, le_t, le_f, lt_t, lt_f, eq_t, eq_f, mone_f, mone_f2, hcp, g1, e1]
  · refine (e2.fcg fun i hi => ?_).wcg fun b hb => ?_
    · rw [gI_pI, if_neg (by omega), sN_I]; exact hQ3 i hi
    · rw [gL_pI, sN_i, g2 b hb]; exact hQL 7 b
  · rw [gI_pI, if_neg (by omega), sN_I, hQ _ _ h3, hM _ _ (by omega)]
  · rw [gL_pI, sN_n _ _ _ h8]; exact hQL j k
theorem q_restore (hx : WO (gL m 0 7) x (gI m 0 2)) (hp : PR ps c m) (hs : SV x2 c m) : ∃ x' c' r code v m', sX6_restore x x2 c = some (x', c', r) ∧ sX7_restore m = some (m', v) ∧ gI m' 0 0 0 = nI code ∧ Ans [(1, 1)] r code v ∧ WO (gL m' 0 7) x' (gI m' 0 2) ∧ PR ps c' m' ∧ (∀ o j k, ¬ (o = 0 ∧ j = 0 ∧ k = 9) → gI c' o j k = gI c o j k) ∧ (∀ j k, ¬ (j = 0 ∧ (k = 0 ∨ k = 21)) → ¬ j = 2 → gI m' 0 j k = gI m 0 j k) ∧ (∀ j k, ¬ j = 7 → gL m' 0 j k = gL m 0 j k) := by
  obtain ⟨kq, h1, h2, h3⟩ := hs
  unfold sX6_restore sX7_restore
  rw [h1, h2, m_goes]
  cases kq with
  | false =>
    refine ⟨x, c, .inr 1, 1, nI 0, pI m 0 0 0 (nI 1), ?_, ?_, by rw [gI_pI, if_pos ⟨rfl, rfl, rfl⟩], Or.inr ⟨1, rfl, by decide⟩, ?_, ?_, fun _ _ _ _ => rfl, fun j k hjk _ => by rw [gI_pI, if_neg (by omega)], fun _ _ _ => rfl⟩
    · simp (disch := omega) only [zl, zm, nI_add, pk_mul, inb_t, ix_n, gd_tt, bd_e, nm_v, ite_not, ↓reduceIte, le_t, le_f, lt_t, lt_f, eq_t, eq_f, mone_f, mone_f2, sm_il, sm_ir, Bool.toNat_true, Bool.toNat_false, Bool.and_true, Bool.and_false, Bool.true_and, Bool.false_and, Bool.not_true, Bool.not_false, Bool.false_eq_true, Bool.true_eq_false, sr_row, sr_L]
    · simp (disch := omega) only [zl, zm, nI_add, pk_mul, inb_t, ix_n, gd_tt, bd_e, nm_v, ite_not, ↓reduceIte, le_t, le_f, lt_t, lt_f, eq_t, eq_f, mone_f, mone_f2, sm_il, sm_ir, Bool.toNat_true, Bool.toNat_false, Bool.and_true, Bool.and_false, Bool.true_and, Bool.false_and, Bool.not_true, Bool.not_false, Bool.false_eq_true, Bool.true_eq_false, sr_row, sr_L]
    · rw [show gI (pI m 0 0 0 (nI 1)) 0 2 = gI m 0 2 from funext fun k => by rw [gI_pI, if_neg (by omega)]]; exact hx
    · exact hp.cg rfl (fun _ _ => rfl) (by rw [gI_pI, if_neg (by omega)]) (fun k => by rw [gI_pI, if_neg (by omega)]) (fun _ _ => rfl)
  | true =>
    have hs := h3 rfl
    obtain ⟨x', e1, e2, e3⟩ := hs.copy x
    obtain ⟨n, t, ht, hws, hnw⟩ := hs
    have hM : ∀ j k, ¬ (j = 0 ∧ k = 0) → gI (pI m 0 0 0 (nI 0)) 0 j k = gI m 0 j k := fun j k hjk => by rw [gI_pI, if_neg (by omega)]
    have hM0 : gI (pI m 0 0 0 (nI 0)) 0 0 0 = nI 0 := by rw [gI_pI, if_pos ⟨rfl, rfl, rfl⟩]
    have hML : ∀ j k, gL (pI m 0 0 0 (nI 0)) 0 j k = gL m 0 j k := fun _ _ => rfl
    simp only [zl, Bool.not_true, Bool.toNat_false, Bool.toNat_true]
    generalize pI m 0 0 0 (nI 0) = M at hM hM0 hML
    have hcp := m_copies (m := M) (a := 0) (b := 0) (j0 := 3) (j2 := 2) (by omega) (by decide) (by decide) (by decide)
    have hQ : ∀ j k, ¬ j = 2 → gI (sA M 2 (cpy (gI M 0 3) (gI M 0 2) 0 0 365)) 0 j k = gI M 0 j k := fun j k hj => sA_n _ _ _ hj k
    have hQ2 : ∀ i, i < 365 → gI (sA M 2 (cpy (gI M 0 3) (gI M 0 2) 0 0 365)) 0 2 i = gI m 0 3 i := fun i hi => by
      rw [sA_i, cpy_i0 hi, Nat.zero_add, hM _ _ (by omega)]
    have hQL : ∀ j k, gL (sA M 2 (cpy (gI M 0 3) (gI M 0 2) 0 0 365)) 0 j k = gL m 0 j k := fun j k => hML j k
    generalize sA M 2 (cpy (gI M 0 3) (gI M 0 2) 0 0 365) = Q at hcp hQ hQ2 hQL
    obtain ⟨w, g1, g2⟩ := m_names (m := Q) (j0 := 8) (j1 := 7) (by omega) (by decide)
    have hft : gI m 0 3 1 = nI t := hws.ft
    have hxt : gI x' 0 0 5 = nI t := e3.trans hws.xt
    obtain ⟨u, hu, p1, p2, π, p3, p4, p5⟩ := hp
    refine ⟨x', pI c 0 0 9 (nI 0), .inl (nI t), 0, nI t, pI (sN Q 7 w) 0 0 21 (nI 0), ?_, ?_, ?_, Or.inl ⟨rfl, rfl⟩, ?_, ⟨0, by omega, by rw [gI_pI, if_pos ⟨rfl, rfl, rfl⟩], by rw [gI_pI, if_pos ⟨rfl, rfl, rfl⟩], π, fun i hi => by rw [gI_pI, if_neg (by omega)]; exact p3 i hi, p4, fun i hi => absurd hi (by omega)⟩, fun o j k h => by rw [gI_pI, if_neg h], fun j k h1 h3 => ?_, fun j k h7 => ?_⟩
    · simp (disch := omega) only [zl, zm, nI_add, pk_mul, inb_t, ix_n, gd_tt, bd_e, nm_v, ite_not, ↓reduceIte, le_t, le_f, lt_t, lt_f, eq_t, eq_f, mone_f, mone_f2, sm_il, sm_ir, Bool.toNat_true, Bool.toNat_false, Bool.and_true, Bool.and_false, Bool.true_and, Bool.false_and, Bool.not_true, Bool.not_false, Bool.false_eq_true, Bool.true_eq_false, sr_row, sr_L, e1, hxt]
    · have e4 : gI (pI (sN Q 7 w) 0 0 21 (nI 0)) 0 2 1 = nI t := by
        rw [gI_pI, if_neg (by omega), sN_I, hQ2 1 (by omega)]; exact hft
      simp (disch := omega) only [zl, zm, nI_add, pk_mul, inb_t, ix_n, gd_tt, bd_e, nm_v, ite_not, ↓reduceIte, le_t, le_f, lt_t, lt_f, eq_t, eq_f, mone_f, mone_f2, sm_il, sm_ir, Bool.toNat_true, Bool.toNat_false, Bool.and_true, Bool.and_false, Bool.true_and, Bool.false_and, Bool.not_true, Bool.not_false, Bool.false_eq_true, Bool.true_eq_false, sr_row, sr_L, hcp, g1, e4]
    · rw [gI_pI, if_neg (by omega), sN_I, hQ _ _ (by omega)]; exact hM0
    · refine (e2.fcg fun i hi => ?_).wcg fun b hb => ?_
      · rw [gI_pI, if_neg (by omega), sN_I]; exact hQ2 i hi
      · rw [gL_pI, sN_i, g2 b hb]; exact hQL 8 b
    · rw [gI_pI, if_neg (by omega), sN_I, hQ _ _ h3, hM _ _ (by omega)]
    · rw [gL_pI, sN_n _ _ _ h7]; exact hQL j k
/-! bytes -/
theorem by_two (z : Int32) : z.toInt8.toInt32.toInt8.toInt32 = z.toInt8.toInt32 := by
  have := pk_vb z
  rwa [vp_nar_byte] at this
theorem by_low (z : Int32) : (z &&& nI 255).toInt8 = z.toInt8 := by
  refine Int8.toBitVec_inj.mp ?_
  refine BitVec.eq_of_getLsbD_eq fun i hi => ?_
  show ((z &&& nI 255).toBitVec.signExtend 8).getLsbD i = (z.toBitVec.signExtend 8).getLsbD i
  have h2 : (nI 255).toBitVec.getLsbD i = true := by
    have : ∀ i, i < 8 → (nI 255).toBitVec.getLsbD i = true := by decide +kernel
    exact this i hi
  rw [BitVec.getLsbD_signExtend, BitVec.getLsbD_signExtend, Int32.toBitVec_and, BitVec.getLsbD_and, h2]
  simp [show i < 32 by omega]
/-- the byte of an int at a shift, on both sides -/
theorem by_at (a : Int32) {s : Nat} (hs : s = 0 ∨ s = 8 ∨ s = 16 ∨ s = 24) : ∃ v, v < 256 ∧ (a >>> (nI s &&& nI 31)) &&& nI 255 = nI v ∧ ((a.toUInt32 >>> ((nI s).toUInt32 &&& (nI 31).toUInt32)).toInt32).toInt8.toInt32 = sgn v := by
  have h1 : (a >>> (nI s &&& nI 31)) &&& nI 255 = nI ((a >>> (nI s &&& nI 31)).toBitVec.toNat % 2 ^ 8) := pk_and _ 8 (by decide)
  have h2 : (a.toUInt32 >>> ((nI s).toUInt32 &&& (nI 31).toUInt32)).toInt32.toBitVec.toNat = a.toBitVec.toNat / 2 ^ s := pk_ushr a (nI s) s (by rcases hs with rfl | rfl | rfl | rfl <;> decide)
  have h3 : (a >>> (nI s &&& nI 31)).toInt = a.toInt >>> s := pk_shr a _ s (lit_am s (by omega))
  have h4 : (a >>> (nI s &&& nI 31)).toBitVec.toNat % 2 ^ 8 = a.toBitVec.toNat / 2 ^ s % 2 ^ 8 := by
    have e1 : (a >>> (nI s &&& nI 31)).toInt = (a >>> (nI s &&& nI 31)).toBitVec.toInt := rfl
    have e2 : a.toInt = a.toBitVec.toInt := rfl
    rw [e1, e2, BitVec.toInt_eq_toNat_cond, BitVec.toInt_eq_toNat_cond, Int.shiftRight_eq_div_pow] at h3
    have l1 := a.toBitVec.isLt
    have l2 := (a >>> (nI s &&& nI 31)).toBitVec.isLt
    generalize a.toBitVec.toNat = A at h3 l1 ⊢
    generalize (a >>> (nI s &&& nI 31)).toBitVec.toNat = B at h3 l2 ⊢
    rcases hs with rfl | rfl | rfl | rfl <;> (split at h3 <;> split at h3 <;> simp only [Nat.reducePow, Int.reducePow, Nat.pow_zero] at h3 ⊢ <;> omega)
  refine ⟨a.toBitVec.toNat / 2 ^ s % 2 ^ 8, Nat.mod_lt _ (by decide), by rw [h1, h4], ?_⟩
  unfold sgn
  rw [← by_low]
  have h5 : (a.toUInt32 >>> ((nI s).toUInt32 &&& (nI 31).toUInt32)).toInt32 &&& nI 255 = nI ((a.toUInt32 >>> ((nI s).toUInt32 &&& (nI 31).toUInt32)).toInt32.toBitVec.toNat % 2 ^ 8) := pk_and _ 8 (by decide)
  rw [h5, h2]
/-- what feeding leaves -/
def FC (c c' : St) : Prop := ∀ o j k, ¬ (o = 0 ∧ j = 0 ∧ k = 1) → ¬ (o = 0 ∧ j = 1) → gI c' o j k = gI c o j k
def FM (m m' : St) : Prop := (∀ j k, ¬ (j = 0 ∧ k = 2) → ¬ j = 1 → gI m' 0 j k = gI m 0 j k) ∧ ∀ j k, gL m' 0 j k = gL m 0 j k
theorem f_byte (h : BF len c m) (hl : len < 700) (a : Int32) {s : Nat} (hs : s = 0 ∨ s = 8 ∨ s = 16 ∨ s = 24) : ∃ c' m', (∀ F, sX6_append_b3 (F + 1) c a (nI s) = sX6_append_b3 F c' a (nI s + -nI 8)) ∧ (∀ F, sX7_four_b3 (F + 1) m a (nI s) = sX7_four_b3 F m' a (nI s + -nI 8)) ∧ BF (len + 1) c' m' ∧ FC c c' ∧ FM m m' := by
  obtain ⟨h0, h1, h2, h3⟩ := h
  obtain ⟨v, v1, v2, v3⟩ := by_at a hs
  refine ⟨pI (pI c 0 1 len (sgn v)) 0 0 1 (nI (len + 1)), pI (pI m 0 1 len (nI v)) 0 0 2 (nI (len + 1)), fun F => ?_, fun F => ?_, ⟨by omega, by rw [gI_pI, if_pos ⟨rfl, rfl, rfl⟩], by rw [gI_pI, if_pos ⟨rfl, rfl, rfl⟩], fun k hk => ?_⟩, fun o j k p q => ?_, fun j k p q => ?_, fun j k => rfl⟩
  · have hsl : ¬ nI s < nI 0 := nI_nlt (by omega) (by omega)
    simp only [sX6_append_b3]
    simp (disch := omega) only [zl, hsl, ↓reduceIte, h1, le_f, nm_v, v3, by_two, inb_t, ix_n, gd_tt, gI_pI, gL_pL, gI_pL, gL_pI, qe, qn, not_true_eq_false, not_false_eq_true, true_and, and_true, false_and, and_false, and_self, Nat.add_right_cancel_iff, nI_add]
    have : sgn v = (sgn v).toInt8.toInt32 := (by_two (nI v)).symm
    rw [← this]
  · have hsl : ¬ nI s < nI 0 := nI_nlt (by omega) (by omega)
    simp only [sX7_four_b3]
    simp (disch := omega) only [zl, hsl, ↓reduceIte, h2, nm_v, v2, inb_t, ix_n, gd_tt, gI_pI, gL_pL, gI_pL, gL_pI, qe, qn, not_true_eq_false, not_false_eq_true, true_and, and_true, false_and, and_false, and_self, Nat.add_right_cancel_iff, nI_add]
  · by_cases hk2 : k = len
    · rw [hk2]
      refine ⟨v, v1, ?_, ?_⟩
      · simp (disch := omega) only [gI_pI, gL_pL, gI_pL, gL_pI, qe, qn, not_true_eq_false, not_false_eq_true, true_and, and_true, false_and, and_false, and_self, Nat.add_right_cancel_iff, ↓reduceIte]
      · simp (disch := omega) only [gI_pI, gL_pL, gI_pL, gL_pI, qe, qn, not_true_eq_false, not_false_eq_true, true_and, and_true, false_and, and_false, and_self, Nat.add_right_cancel_iff, ↓reduceIte]
    · rw [gI_pI, if_neg (by omega), gI_pI, if_neg (by omega), gI_pI, if_neg (by omega), gI_pI, if_neg (by omega)]
      exact h3 k (by omega)
  · rw [gI_pI, if_neg p, gI_pI, if_neg (by omega)]
  · rw [gI_pI, if_neg (by omega), gI_pI, if_neg (by omega)]
theorem fc_trans {a b c : St} (h : FC a b) (h2 : FC b c) : FC a c := fun o j k p q => (h2 o j k p q).trans (h o j k p q)
theorem fm_trans {a b c : St} (h : FM a b) (h2 : FM b c) : FM a c := ⟨fun j k p q => (h2.1 j k p q).trans (h.1 j k p q), fun j k => (h2.2 j k).trans (h.2 j k)⟩
theorem f_four (h : BF len c m) (hl : len + 4 ≤ 700) (a : Int32) : ∃ c' m', sX6_append c a = some c' ∧ sX7_four m a = some m' ∧ BF (len + 4) c' m' ∧ FC c c' ∧ FM m m' := by
  obtain ⟨c1, m1, a1, a2, a3, a4, a5⟩ := f_byte h (by omega) a (s := 24) (by omega)
  obtain ⟨c2, m2, b1, b2, b3, b4, b5⟩ := f_byte a3 (by omega) a (s := 16) (by omega)
  obtain ⟨c3, m3, d1, d2, d3, d4, d5⟩ := f_byte b3 (by omega) a (s := 8) (by omega)
  obtain ⟨c4, m4, e1, e2, e3, e4, e5⟩ := f_byte d3 (by omega) a (s := 0) (by omega)
  obtain ⟨F, hF⟩ : ∃ F, FU = F + 1 + 1 + 1 + 1 + 1 := ⟨999995, rfl⟩
  have hneg : nI 0 + -nI 8 < 0 := by decide
  refine ⟨c4, m4, ?_, ?_, e3, fc_trans a4 (fc_trans b4 (fc_trans d4 e4)), fm_trans a5 (fm_trans b5 (fm_trans d5 e5))⟩
  · have h0 : sX6_append c a = sX6_append_b3 (F + 1 + 1 + 1 + 1 + 1) c a (nI 24) := by rw [← hF]; rfl
    rw [h0, a1, show nI 24 + -nI 8 = nI 16 by decide, b1, show nI 16 + -nI 8 = nI 8 by decide, d1, show nI 8 + -nI 8 = nI 0 by decide, e1]
    simp only [sX6_append_b3]
    rw [if_pos hneg]
  · have h0 : sX7_four m a = sX7_four_b3 (F + 1 + 1 + 1 + 1 + 1) m a (nI 24) := by rw [← hF]; rfl
    rw [h0, a2, show nI 24 + -nI 8 = nI 16 by decide, b2, show nI 16 + -nI 8 = nI 8 by decide, d2, show nI 8 + -nI 8 = nI 0 by decide, e2]
    simp only [sX7_four_b3]
    rw [if_pos hneg]
theorem q_feed (h : BF len c m) (a1 a2 a3 a4 a5 : Int32) : ∃ c' r code v m' len', sX6_feed c a1 a2 a3 a4 a5 = some (c', r) ∧ sX7_feed m a1 a2 a3 a4 a5 = some (m', v) ∧ gI m' 0 0 0 = nI code ∧ Ans [(1, 1)] r code v ∧ BF len' c' m' ∧ FC c c' ∧ (∀ j k, ¬ (j = 0 ∧ (k = 0 ∨ k = 2)) → ¬ j = 1 → gI m' 0 j k = gI m 0 j k) ∧ ∀ j k, gL m' 0 j k = gL m 0 j k := by
  obtain ⟨h0, h1, h2, h3⟩ := h
  unfold sX6_feed sX7_feed sX7_feed_b19
  simp only [zl]
  rw [h1, h2, nI_add]
  have hg0 : sX7_goes m (nI 0) = some (pI m 0 0 0 (nI 1), nI 0) := m_goes false
  have hg1 : sX7_goes m (nI 1) = some (pI m 0 0 0 (nI 0), nI 1) := m_goes true
  have hBF : ∀ v, BF len c (pI m 0 0 0 v) := fun v => ⟨h0, h1, by rw [gI_pI, if_neg (by omega)]; exact h2, fun k hk => by
    obtain ⟨z, z1, z2, z3⟩ := h3 k hk
    exact ⟨z, z1, by rw [gI_pI, if_neg (by omega)]; exact z2, z3⟩⟩
  by_cases hl : len + 20 ≤ 700
  · obtain ⟨c1, m1, p1, p2, p3, p4, p5⟩ := f_four (hBF (nI 0)) (by omega) a1
    obtain ⟨c2, m2, q1, q2, q3, q4, q5⟩ := f_four p3 (by omega) a2
    obtain ⟨c3, m3, r1, r2, r3, r4, r5⟩ := f_four q3 (by omega) a3
    obtain ⟨c4, m4, s1, s2, s3, s4, s5⟩ := f_four r3 (by omega) a4
    obtain ⟨c5, m5, t1, t2, t3, t4, t5⟩ := f_four s3 (by omega) a5
    have hm := fm_trans p5 (fm_trans q5 (fm_trans r5 (fm_trans s5 t5)))
    refine ⟨c5, .inl (nI (len + 4 + 4 + 4 + 4 + 4)), 0, nI (len + 4 + 4 + 4 + 4 + 4), m5, len + 4 + 4 + 4 + 4 + 4, ?_, ?_, ?_, Or.inl ⟨rfl, rfl⟩, t3, fc_trans p4 (fc_trans q4 (fc_trans r4 (fc_trans s4 t4))), fun j k hjk hj => ?_, fun j k => ?_⟩
    · rw [if_pos (nI_le hl (by omega)), p1, bd_e, q1, bd_e, r1, bd_e, s1, bd_e, t1, bd_e, t3.2.1]
    · rw [if_neg (nI_nlt hl (by omega)), hg1]
      simp (disch := omega) only [bd_e, eq_f, not_false_eq_true, ↓reduceIte, p2, q2, r2, s2, t2, t3.2.2.1]
    · rw [hm.1 0 0 (by omega) (by omega), gI_pI, if_pos ⟨rfl, rfl, rfl⟩]
    · rw [hm.1 j k (by omega) hj, gI_pI, if_neg (by omega)]
    · rw [hm.2 j k]; rfl
  · refine ⟨c, .inr 1, 1, nI 0, pI m 0 0 0 (nI 1), len, ?_, ?_, by rw [gI_pI, if_pos ⟨rfl, rfl, rfl⟩], Or.inr ⟨1, rfl, by decide⟩, hBF _, fun _ _ _ _ _ => rfl, fun j k hjk _ => by rw [gI_pI, if_neg (by omega)], fun _ _ => rfl⟩
    · rw [if_neg (nI_ge (by omega) (by omega))]
    · rw [if_pos (nI_lt (by omega) (by omega)), hg0]
      simp (disch := omega) only [bd_e, not_true_eq_false, ↓reduceIte]
theorem q_truncate (h : BF len c m) (a : Int32) : ∃ c' r code v m' len', sX6_truncate c a = some (c', r) ∧ sX7_truncate m a = some (m', v) ∧ gI m' 0 0 0 = nI code ∧ Ans P2 r code v ∧ BF len' c' m' ∧ FC c c' ∧ (∀ j k, ¬ (j = 0 ∧ (k = 0 ∨ k = 2)) → ¬ j = 1 → gI m' 0 j k = gI m 0 j k) ∧ ∀ j k, gL m' 0 j k = gL m 0 j k := by
  obtain ⟨h0, h1, h2, h3⟩ := h
  unfold sX6_truncate sX7_truncate sX6_truncate_b12
  simp only [zl]
  rw [h1, h2]
  have hg0 : sX7_goes m (nI false.toNat) = some (pI m 0 0 0 (nI 1), nI 0) := m_goes false
  have hg1 : sX7_goes m (nI true.toNat) = some (pI m 0 0 0 (nI 0), nI 1) := m_goes true
  have hin : sX7_isIn a.toInt64 (0 : Int64) (nI len).toInt64 = some (nI (inR a (nI 0) (nI len)).toNat) := m_isIn a (nI 0) _
  rw [hin, bd_e]
  rcases rng a 0 len (by omega) (by omega) with ⟨e1, e2⟩ | ⟨s, hs1, hs2, rfl, e1⟩
  · rw [e1, hg0]
    refine ⟨c, .inr 2, 1, nI 0, pI m 0 0 0 (nI 1), len, ?_, ?_, by rw [gI_pI, if_pos ⟨rfl, rfl, rfl⟩], Or.inr ⟨2, rfl, by decide⟩, ⟨h0, h1, by rw [gI_pI, if_neg (by omega)]; exact h2, fun k hk => by
      obtain ⟨z, z1, z2, z3⟩ := h3 k hk
      exact ⟨z, z1, by rw [gI_pI, if_neg (by omega)]; exact z2, z3⟩⟩, fun _ _ _ _ _ => rfl, fun j k hjk _ => by rw [gI_pI, if_neg (by omega)], fun _ _ => rfl⟩
    · by_cases ha : a < nI 0
      · rw [if_pos ha]
      · rw [if_neg ha, if_neg (i_nle.mpr (e2.resolve_left ha))]
    · simp (disch := omega) only [bd_e, not_true_eq_false, ↓reduceIte]
  · rw [e1, hg1]
    refine ⟨pI c 0 0 1 (nI s), .inl (nI s), 0, nI s, pI (pI m 0 0 0 (nI 0)) 0 0 2 (nI s), s, ?_, ?_, ?_, Or.inl ⟨rfl, rfl⟩, ⟨by omega, by rw [gI_pI, if_pos ⟨rfl, rfl, rfl⟩], by rw [gI_pI, if_pos ⟨rfl, rfl, rfl⟩], fun k hk => ?_⟩, fun o j k p q => by rw [gI_pI, if_neg p], fun j k hjk hj => ?_, fun _ _ => rfl⟩
    · rw [if_neg (nI_nlt (Nat.zero_le _) (by omega)), if_pos (nI_le hs2 (by omega))]; rfl
    · simp (disch := omega) only [bd_e, eq_f, not_false_eq_true, ↓reduceIte, nm_v]
    · rw [gI_pI, if_neg (by omega), gI_pI, if_pos ⟨rfl, rfl, rfl⟩]
    · obtain ⟨z, z1, z2, z3⟩ := h3 k (by omega)
      exact ⟨z, z1, by rw [gI_pI, if_neg (by omega), gI_pI, if_neg (by omega)]; exact z2, by rw [gI_pI, if_neg (by omega)]; exact z3⟩
    · rw [gI_pI, if_neg (by omega), gI_pI, if_neg (by omega)]
end
