/-! stage B: what can be undone -/
def WO (w : Nat → Int64) (x : St) (f : Nat → Int32) : Prop := ∃ n t, t ≤ 99999 ∧ WS n t x f ∧ NWd n x w
theorem WO.fcg {w : Nat → Int64} {x : St} {f f' : Nat → Int32} (h : WO w x f) (hf : ∀ i, i < 365 → f' i = f i) : WO w x f' := by
  obtain ⟨n, t, h1, h2, h3⟩ := h
  exact ⟨n, t, h1, WR.fcg h2 hf, h3⟩
theorem WO.wcg {w w' : Nat → Int64} {x : St} {f : Nat → Int32} (h : WO w x f) (hw : ∀ b, b < 8 → w' b = w b) : WO w' x f := by
  obtain ⟨n, t, h1, h2, h3⟩ := h
  exact ⟨n, t, h1, h2, h3.wcg fun b hb => hw b (by have := WR.n8 h2; omega)⟩
/-- a world copied, with its names -/
theorem WO.copy {w : Nat → Int64} {y : St} {f : Nat → Int32} (h : WO w y f) (x : St) : ∃ x', sX5_copyFrom y x = some x' ∧ WO w x' f ∧ gI x' 0 0 5 = gI y 0 0 5 := by
  obtain ⟨n, t, h1, h2, h3⟩ := h
  obtain ⟨x', e1, e2, e3⟩ := s_copy h2 x
  exact ⟨x', e1, ⟨n, t, h1, e3, h3.ag e2⟩, e2.1 5 (by omega) (by omega)⟩
def PR (ps : Nat → St) (c m : St) : Prop := ∃ u, u ≤ 6 ∧ gI c 0 0 9 = nI u ∧ gI m 0 0 21 = nI u ∧ ∃ π : Nat → Nat, (∀ i, i < 6 → gI c 0 2 i = nI (π i) ∧ π i < 6) ∧ (∀ i j, i < 6 → j < 6 → π i = π j → i = j) ∧ ∀ i, i < u → WO (gL m 0 7) (ps (π i)) (fun k => gI m 0 6 (365 * i + k))
section
variable {x0 c m m1 : St} {ps : Nat → St} {f f' : Nat → Int32}
theorem PR.cg {c' m' : St} (h : PR ps c m) (h1 : gI c' 0 0 9 = gI c 0 0 9) (h2 : ∀ i, i < 6 → gI c' 0 2 i = gI c 0 2 i) (h3 : gI m' 0 0 21 = gI m 0 0 21) (h4 : ∀ k, gI m' 0 6 k = gI m 0 6 k) (h5 : ∀ k, k < 8 → gL m' 0 7 k = gL m 0 7 k) : PR ps c' m' := by
  obtain ⟨u, hu, a1, a2, π, a3, a4, a5⟩ := h
  exact ⟨u, hu, h1.trans a1, h3.trans a2, π, fun i hi => ⟨(h2 i hi).trans (a3 i hi).1, (a3 i hi).2⟩, a4, fun i hi => ((a5 i hi).fcg fun k _ => h4 _).wcg h5⟩
/-- the frames of a keep -/
def KC (c c' : St) : Prop := (∀ o j k, ¬ (o = 0 ∧ j = 0 ∧ k = 9) → ¬ (o = 0 ∧ j = 2) → gI c' o j k = gI c o j k)
def KM (m m' : St) : Prop := (∀ j k, ¬ (j = 0 ∧ k = 21) → ¬ j = 6 → gI m' 0 j k = gI m 0 j k) ∧ ∀ j k, gL m' 0 j k = gL m 0 j k
/-- there is room for one more -/
theorem keep_room {u : Nat} {π : Nat → Nat} (hu : u < 6) (hcu : gI c 0 0 9 = nI u) (hmu : gI m1 0 0 21 = nI u) (h4 : ∀ i, i < 365 → gI m1 0 4 i = f i) (hx : WO (gL m1 0 7) x0 f) (a3 : ∀ i, i < 6 → gI c 0 2 i = nI (π i) ∧ π i < 6) (a4 : ∀ i j, i < 6 → j < 6 → π i = π j → i = j) (a5 : ∀ i, i < u → WO (gL m1 0 7) (ps (π i)) (fun k => gI m1 0 6 (365 * i + k))) :
    ∃ ps' c' m2, sX6_keepForUndo_b56 x0 ps c = some (ps', c') ∧ sX7_keeps_b55 (sr m1 f') = some (sr m2 f') ∧ PR ps' c' (sr m2 f') ∧ KC c c' ∧ KM (sr m1 f') (sr m2 f') := by
  obtain ⟨q, e1, e2, _⟩ := hx.copy (ps (π u))
  have hcp := m_copies (m := sr m1 f') (a := 0) (b := 365 * u) (j0 := 4) (j2 := 6) (by omega) (by decide) (by show 365 * u + 365 ≤ 2190; omega) (by decide)
  obtain ⟨G, hG⟩ : ∃ G, cpy (gI (sr m1 f') 0 4) (gI (sr m1 f') 0 6) 0 (365 * u) 365 = G := ⟨_, rfl⟩
  rw [hG] at hcp
  have e6 : sA (sr m1 f') 6 G = sr (sA m1 6 G) f' := by
    refine Prod.ext (funext fun o => funext fun j => funext fun k => ?_) rfl
    show gI (sA (sr m1 f') 6 G) o j k = gI (sr (sA m1 6 G) f') o j k
    rw [sA_g, sr_g, sr_g, sA_g]
    by_cases h1 : o = 0 ∧ j = 6
    · rw [if_pos h1, if_neg (by omega), if_pos h1]
    · rw [if_neg h1, if_neg h1]
  rw [e6] at hcp
  obtain ⟨p1, p2⟩ := a3 u hu
  refine ⟨uP ps (π u) q, pI c 0 0 9 (nI (u + 1)), pI (sA m1 6 G) 0 0 21 (nI (u + 1)), ?_, ?_, ?_, fun o j k h1 h2 => ?_, fun j k h1 h2 => ?_, fun j k => rfl⟩
  · unfold sX6_keepForUndo_b56
    have hlt : ltN (π u) 6 = true := decide_eq_true p2
    simp (disch := omega) only [zl, zm, nI_add, pk_mul, inb_t, ix_n, gd_tt, bd_e, nm_v, ite_not, ↓reduceIte, le_t, le_f, lt_t, lt_f, eq_t, eq_f, mone_f, mone_f2, sm_il, sm_ir, Bool.toNat_true, Bool.toNat_false, Bool.and_true, Bool.and_false, Bool.true_and, Bool.false_and, Bool.not_true, Bool.not_false, Bool.false_eq_true, Bool.true_eq_false, sr_row, sr_L, hcu, p1, hlt, e1]
  · unfold sX7_keeps_b55
    have e21 : gI (sr (sA m1 6 G) f') 0 0 21 = nI u := by rw [sr_0, sA_n _ _ _ (by omega)]; exact hmu
    simp only [zl]
    rw [sr_0, hmu, pk_mul, hcp]
    simp (disch := omega) only [zl, zm, nI_add, pk_mul, inb_t, ix_n, gd_tt, bd_e, nm_v, ite_not, ↓reduceIte, le_t, le_f, lt_t, lt_f, eq_t, eq_f, mone_f, mone_f2, sm_il, sm_ir, Bool.toNat_true, Bool.toNat_false, Bool.and_true, Bool.and_false, Bool.true_and, Bool.false_and, Bool.not_true, Bool.not_false, Bool.false_eq_true, Bool.true_eq_false, sr_row, sr_L, e21, sr_pIo]
  · refine ⟨u + 1, by omega, by rw [gI_pI, if_pos ⟨rfl, rfl, rfl⟩], by rw [sr_0, gI_pI, if_pos ⟨rfl, rfl, rfl⟩], π, fun i hi => ?_, a4, fun i hi => ?_⟩
    · rw [gI_pI, if_neg (by omega)]; exact a3 i hi
    · have h6 : ∀ k, gI (sr (pI (sA m1 6 G) 0 0 21 (nI (u + 1))) f') 0 6 k = G k := fun k => by
        rw [sr_j _ _ _ (by omega), gI_pI, if_neg (by omega), sA_i]
      have h7 : ∀ k, gL (sr (pI (sA m1 6 G) 0 0 21 (nI (u + 1))) f') 0 7 k = gL m1 0 7 k := fun k => rfl
      by_cases hiu : i = u
      · subst hiu
        have hps : uP ps (π i) q (π i) = q := if_pos rfl
        rw [hps]
        refine (e2.wcg fun b _ => h7 b).fcg fun k hk => ?_
        rw [h6, ← hG, cpy_i hk, sr_j _ _ _ (by omega), Nat.zero_add]
        exact h4 k hk
      · have hne : ¬ π i = π u := fun z => hiu (a4 i u (by omega) hu z)
        have hps : uP ps (π u) q (π i) = ps (π i) := if_neg hne
        rw [hps]
        refine ((a5 i (by omega)).wcg fun b _ => h7 b).fcg fun k hk => ?_
        rw [h6, ← hG, cpy_o (by omega), sr_j _ _ _ (by omega)]
  · rw [gI_pI, if_neg h1]
  · by_cases hj : j = 2
    · subst hj; rw [sr_row, sr_row]
    · rw [sr_j _ _ _ hj, sr_j _ _ _ hj, gI_pI, if_neg (by omega), sA_n _ _ _ h2]
/-- a change is kept, to be undone -/
theorem s_keep (h : PR ps c m1) (h4 : ∀ i, i < 365 → gI m1 0 4 i = f i) (hx : WO (gL m1 0 7) x0 f) (f' : Nat → Int32) :
    ∃ ps' c' m2, sX6_keepForUndo x0 ps c = some (ps', c') ∧ sX7_keeps (sr m1 f') = some (sr m2 f') ∧ PR ps' c' (sr m2 f') ∧ KC c c' ∧ KM (sr m1 f') (sr m2 f') := by
  obtain ⟨u, hu, a1, a2, π, a3, a4, a5⟩ := h
  unfold sX6_keepForUndo sX7_keeps
  simp only [zl]
  rw [a1, sr_0, a2]
  by_cases h6 : u < 6
  · rw [if_pos (nI_lt h6 (by omega)), if_pos (show ¬ nI u = nI 6 from fun z => by have := (nI_eq (by omega) (by omega)).mp z; omega)]
    exact keep_room h6 a1 a2 h4 hx a3 a4 a5
  · obtain rfl : u = 6 := by omega
    rw [if_neg (nI_nlt (by omega) (by omega)), if_neg (show ¬ ¬ nI 6 = nI 6 from fun z => z rfl)]
    -- the class turns its row of worlds
    obtain ⟨z0, z1⟩ := a3 0 (by omega)
    have hl0 : ltN (π 0) 6 = true := decide_eq_true z1
    have kc : ∃ c1, sX6_keepForUndo_b18 FU x0 ps c (π 0) (nI 1) = sX6_keepForUndo_b56 x0 ps (pI (pI c1 0 2 5 (nI (π 0))) 0 0 9 (nI 5)) ∧ (∀ i, i < 5 → gI c1 0 2 i = nI (π (i + 1))) ∧ ∀ o j k, ¬ (o = 0 ∧ j = 2) → gI c1 o j k = gI c o j k := by
      obtain ⟨c1, e1, e2, e3⟩ := one_up 5 (fun k c1 => (∀ i, i < 6 → gI c1 0 2 i = nI (π (if i < k then i + 1 else i))) ∧ ∀ o j k, ¬ (o = 0 ∧ j = 2) → gI c1 o j k = gI c o j k) (fun F c1 k => sX6_keepForUndo_b18 F x0 ps c1 (π 0) (nI (k + 1))) (fun c1 => sX6_keepForUndo_b56 x0 ps (pI (pI c1 0 2 5 (nI (π 0))) 0 0 9 (nI 5))) (fun F c1 hR => by
        simp only [sX6_keepForUndo_b18]
        simp (disch := omega) only [zl, zm, nI_add, pk_mul, inb_t, ix_n, gd_tt, bd_e, nm_v, ite_not, ↓reduceIte, le_t, le_f, lt_t, lt_f, eq_t, eq_f, mone_f, mone_f2, sm_il, sm_ir, Bool.toNat_true, Bool.toNat_false, Bool.and_true, Bool.and_false, Bool.true_and, Bool.false_and, Bool.not_true, Bool.not_false, Bool.false_eq_true, Bool.true_eq_false, sr_row, sr_L]) (fun k c1 hk hR => by
        have g1 := hR.1 (k + 1) (by omega)
        rw [if_neg (by omega)] at g1
        have g2 := (a3 (k + 1) (by omega)).2
        have hl : ltN (π (k + 1)) 6 = true := decide_eq_true g2
        refine ⟨pI c1 0 2 k (nI (π (k + 1))), fun F => ?_, fun i hi => ?_, fun o j i ho => ?_⟩
        · simp only [sX6_keepForUndo_b18]
          simp (disch := omega) only [zl, zm, nI_add, pk_mul, inb_t, ix_n, gd_tt, bd_e, nm_v, ite_not, ↓reduceIte, le_t, le_f, lt_t, lt_f, eq_t, eq_f, mone_f, mone_f2, sm_il, sm_ir, Bool.toNat_true, Bool.toNat_false, Bool.and_true, Bool.and_false, Bool.true_and, Bool.false_and, Bool.not_true, Bool.not_false, Bool.false_eq_true, Bool.true_eq_false, sr_row, sr_L, g1, hl, zs, Nat.add_sub_cancel]
        · rw [gI_pI]
          by_cases hik : i = k
          · subst hik; rw [if_pos ⟨rfl, rfl, rfl⟩, if_pos (by omega)]
          · rw [if_neg (by omega), hR.1 i hi]
            by_cases h1 : i < k
            · rw [if_pos h1, if_pos (by omega)]
            · rw [if_neg h1, if_neg (by omega)]
        · rw [gI_pI, if_neg (fun z => ho ⟨z.1, z.2.1⟩)]; exact hR.2 o j i ho) 5 0 FU c (by omega) (FU_lt (by omega)) ⟨fun i hi => by rw [if_neg (by omega)]; exact (a3 i hi).1, fun _ _ _ _ => rfl⟩
      exact ⟨c1, e1, fun i hi => by rw [e2 i (by omega), if_pos hi], e3⟩
    obtain ⟨c1, k1, k2, k3⟩ := kc
    -- the model moves its rows
    have km : ∃ G, sX7_keeps_b21 FU (sr (pI m1 0 0 21 (nI 5)) f') (nI 0) = sX7_keeps_b55 (sr (sA (pI m1 0 0 21 (nI 5)) 6 G) f') ∧ ∀ i, i < 1825 → G i = gI m1 0 6 (i + 365) := by
      have hsa : ∀ G, sA (sr (pI m1 0 0 21 (nI 5)) f') 6 G = sr (sA (pI m1 0 0 21 (nI 5)) 6 G) f' := fun G => by
        refine Prod.ext (funext fun o => funext fun j => funext fun k => ?_) rfl
        show gI (sA (sr (pI m1 0 0 21 (nI 5)) f') 6 G) o j k = gI (sr (sA (pI m1 0 0 21 (nI 5)) 6 G) f') o j k
        rw [sA_g, sr_g, sr_g, sA_g]
        by_cases h1 : o = 0 ∧ j = 6
        · rw [if_pos h1, if_neg (by omega), if_pos h1]
        · rw [if_neg h1, if_neg h1]
      obtain ⟨G, e1, e2⟩ := one_up 1825 (fun k G => ∀ i, G i = if i < k then gI m1 0 6 (i + 365) else gI m1 0 6 i) (fun F G k => sX7_keeps_b21 F (sA (sr (pI m1 0 0 21 (nI 5)) f') 6 G) (nI k)) (fun G => sX7_keeps_b55 (sA (sr (pI m1 0 0 21 (nI 5)) f') 6 G)) (fun F G hR => by
        have e21 : gI (sA (sr (pI m1 0 0 21 (nI 5)) f') 6 G) 0 0 21 = nI 5 := by rw [sA_n _ _ _ (by omega), sr_0, gI_pI, if_pos ⟨rfl, rfl, rfl⟩]
        simp only [sX7_keeps_b21]
        rw [e21]
        simp (disch := omega) only [zl, zm, nI_add, pk_mul, inb_t, ix_n, gd_tt, bd_e, nm_v, ite_not, ↓reduceIte, le_t, le_f, lt_t, lt_f, eq_t, eq_f, mone_f, mone_f2, sm_il, sm_ir, Bool.toNat_true, Bool.toNat_false, Bool.and_true, Bool.and_false, Bool.true_and, Bool.false_and, Bool.not_true, Bool.not_false, Bool.false_eq_true, Bool.true_eq_false, sr_row, sr_L]) (fun k G hk hR => by
        have e21 : gI (sA (sr (pI m1 0 0 21 (nI 5)) f') 6 G) 0 0 21 = nI 5 := by rw [sA_n _ _ _ (by omega), sr_0, gI_pI, if_pos ⟨rfl, rfl, rfl⟩]
        refine ⟨upd G k (gI m1 0 6 (k + 365)), fun F => ?_, fun i => ?_⟩
        · have e6 : gI (sA (sr (pI m1 0 0 21 (nI 5)) f') 6 G) 0 6 (k + 365) = gI m1 0 6 (k + 365) := by rw [sA_i, hR, if_neg (by omega)]
          simp only [sX7_keeps_b21]
          rw [e21]
          simp (disch := omega) only [zl, zm, nI_add, pk_mul, inb_t, ix_n, gd_tt, bd_e, nm_v, ite_not, ↓reduceIte, le_t, le_f, lt_t, lt_f, eq_t, eq_f, mone_f, mone_f2, sm_il, sm_ir, Bool.toNat_true, Bool.toNat_false, Bool.and_true, Bool.and_false, Bool.true_and, Bool.false_and, Bool.not_true, Bool.not_false, Bool.false_eq_true, Bool.true_eq_false, sr_row, sr_L, e6, sA_p]
        · rw [upd_e]
          by_cases hik : i = k
          · subst hik; rw [if_pos rfl, if_pos (by omega)]
          · rw [if_neg hik, hR]
            by_cases h1 : i < k
            · rw [if_pos h1, if_pos (by omega)]
            · rw [if_neg h1, if_neg (by omega)]) 1825 0 FU (gI (sr (pI m1 0 0 21 (nI 5)) f') 0 6) (by omega) (FU_lt (by omega)) (fun i => by rw [if_neg (by omega), sr_j _ _ _ (by omega), gI_pI, if_neg (by omega)])
      refine ⟨G, ?_, fun i hi => by rw [e2, if_pos hi]⟩
      rw [← hsa, ← e1, sA_s]
    obtain ⟨G, g1, g2⟩ := km
    have hm4 : ∀ i, i < 365 → gI (sA (pI m1 0 0 21 (nI 5)) 6 G) 0 4 i = f i := fun i hi => by
      rw [sA_n _ _ _ (by omega), gI_pI, if_neg (by omega)]; exact h4 i hi
    obtain ⟨ps', c', m2, r1, r2, r3, r4, r5⟩ := keep_room (u := 5) (c := pI (pI c1 0 2 5 (nI (π 0))) 0 0 9 (nI 5)) (m1 := sA (pI m1 0 0 21 (nI 5)) 6 G) (f := f) (f' := f') (x0 := x0) (ps := ps) (π := fun i => if i = 5 then π 0 else π (i + 1)) (by omega) (by rw [gI_pI, if_pos ⟨rfl, rfl, rfl⟩]) (by rw [sA_n _ _ _ (by omega), gI_pI, if_pos ⟨rfl, rfl, rfl⟩]) hm4 hx (fun i hi => by
      rw [gI_pI, if_neg (by omega), gI_pI]
      by_cases hi5 : i = 5
      · rw [if_pos (by omega)]
        simp only [if_pos hi5]
        exact ⟨trivial, z1⟩
      · rw [if_neg (by omega)]
        simp only [if_neg hi5]
        exact ⟨k2 i (by omega), (a3 (i + 1) (by omega)).2⟩) (fun i j hi hj hij => by
      by_cases hi5 : i = 5 <;> by_cases hj5 : j = 5
      · omega
      · simp only [if_pos hi5, if_neg hj5] at hij
        have := a4 0 (j + 1) (by omega) (by omega) hij; omega
      · simp only [if_neg hi5, if_pos hj5] at hij
        have := a4 (i + 1) 0 (by omega) (by omega) hij; omega
      · simp only [if_neg hi5, if_neg hj5] at hij
        have := a4 (i + 1) (j + 1) (by omega) (by omega) hij; omega) (fun i hi => by
      simp only [if_neg (show ¬ i = 5 by omega)]
      refine (a5 (i + 1) (by omega)).fcg fun k hk => ?_
      show gI (sA (pI m1 0 0 21 (nI 5)) 6 G) 0 6 (365 * i + k) = gI m1 0 6 (365 * (i + 1) + k)
      rw [sA_i, g2 _ (by omega), show 365 * i + k + 365 = 365 * (i + 1) + k by omega])
    refine ⟨ps', c', m2, ?_, ?_, r3, fun o j k h1 h2 => ?_, fun j k h1 h2 => ?_, fun j k => ?_⟩
    · rw [← r1, ← k1]
      simp (disch := omega) only [inb_t, ix_n, gd_tt, z0, hl0]
    · rw [← r2, ← g1]
      simp (disch := omega) only [zl, zm, nI_add, pk_mul, inb_t, ix_n, gd_tt, bd_e, nm_v, ite_not, ↓reduceIte, le_t, le_f, lt_t, lt_f, eq_t, eq_f, mone_f, mone_f2, sm_il, sm_ir, Bool.toNat_true, Bool.toNat_false, Bool.and_true, Bool.and_false, Bool.true_and, Bool.false_and, Bool.not_true, Bool.not_false, Bool.false_eq_true, Bool.true_eq_false, sr_row, sr_L, sr_pIo, zs]
    · rw [r4 o j k h1 h2, gI_pI, if_neg h1, gI_pI, if_neg (by omega)]; exact k3 o j k h2
    · rw [r5.1 j k h1 h2]
      by_cases hj : j = 2
      · subst hj; rw [sr_row, sr_row]
      · rw [sr_j _ _ _ hj, sr_j _ _ _ hj, sA_n _ _ _ h2, gI_pI, if_neg (by omega)]
    · rw [r5.2 j k]; rfl
end
