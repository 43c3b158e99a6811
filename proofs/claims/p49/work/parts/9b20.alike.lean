/-! stage B: the class and the law's world are alike -/
section
variable {n t tb cm wl wm e k j b : Nat} {q : Bool} {x x' m Y Y' Z : St} {f f' : Nat → Int32} {T : TT} {a2 a3 : Int32}
theorem y_knowsP (h : RY n t T.1 Y) (hk : k < n) (hj : j < n) : sX8_knows n Y (nI k) (nI j) = some (nI (knP T.1 (k + 1) j).toNat) := by
  have hh := (h.2.1 k hk).2.2.2
  obtain ⟨⟨f, w, y⟩, -⟩ := h
  rw [y_knows y w hk hj hh, w.knq hk hj]
theorem y_dueIn {p g d : Nat} (h : RY n t T.1 Y) (hk : k < n) (h1 : gI Y (k + 1) 0 0 = nI p) (h2 : gI Y (k + 1) 0 1 = nI g) (hp : 2 ≤ p) (hp2 : p ≤ 99) (hg : g < p) (hd : dueP t g p d) : sX8_due n Y (nI k) = some (nI d) := by
  have hn := h.n8
  have hyt := h.yt
  have htl := h.xt.2
  obtain ⟨⟨f, w, y⟩, -⟩ := h
  have hfb := y.fb hk
  have hdue : ∀ T', T' < 2 ^ 30 → sX8_isDue n Y (nI k) (nI T') = some (nI (dueB T' g p).toNat) := fun T' hT => y_due y hn hk (hfb.1.symm.trans h1) (hfb.2.1.symm.trans h2) (by omega) (by omega) (by omega) hT
  obtain ⟨d1, d2, d3, d4⟩ := hd
  refine fuel_lo 1 d (fun F k' => sX8_due_b2 F n Y (nI k) (nI k')) _ (fun F => ?_) (fun F k' hl hk' => ?_) (d - 1) 1 FU (by omega) (by omega) (FU_lt (by omega))
  · simp only [sX8_due_b2]
    simp only [zl]
    rw [hyt, nI_add, hdue _ (by omega), d3]
    simp (disch := omega) only [zl, zm, nI_add, pk_mul, inb_t, ix_n, gd_tt, bd_e, nm_v, ite_not, ↓reduceIte, le_t, le_f, lt_t, lt_f, eq_t, eq_f, mone_f, mone_f2, Bool.toNat_true, not_false_eq_true]
  · simp only [sX8_due_b2]
    simp only [zl]
    rw [hyt, nI_add, hdue _ (by omega), d4 k' hl hk']
    simp (disch := omega) only [zl, zm, nI_add, pk_mul, inb_t, ix_n, gd_tt, bd_e, nm_v, ite_not, ↓reduceIte, le_t, le_f, lt_t, lt_f, eq_t, eq_f, mone_f, mone_f2, Bool.toNat_false]
theorem l_364 {u : Nat} {k7 : TT → St → Nat → Int32 → Int32 → Int32 → Option Int32} (h : RY n t T.1 Y) (hk : k < n) : sL_alike_b364 FU k7 n T Y u a2 a3 (nI k) k (nI 0) (nI 0) = k7 T Y u a2 (a3 + nI (decide (gI Y (k + 1) 0 5 = nI 4)).toNat) (nI (k + 1)) := by
  have hn := h.n8
  obtain ⟨p, g, d, g1, g2, g3, g4, g5, g6, g7⟩ := r_due h hk
  have hyd := y_dueIn h hk g1 g2 g3 g4 g5 g6
  obtain ⟨fl, v1, v2, v3⟩ := r_win h hk
  have hyw : sX8_window n Y (nI k) = some (nI (min 32 (2 * 2 ^ fl))) := by
    obtain ⟨⟨f, w, y⟩, -⟩ := h
    exact y_win y hn hk ((y.fb hk).2.2.2.2.2.2.2.1.symm.trans v2) (by omega)
  have hend : ∀ F, sL_alike_b364 (F + 1) k7 n T Y u a2 a3 (nI k) k (rkV (gI Y (k + 1) 1) (gI Y 0 1)) (nI 4) = k7 T Y u a2 (a3 + nI (decide (gI Y (k + 1) 0 5 = nI 4)).toNat) (nI (k + 1)) := by
    intro F
    simp only [sL_alike_b364]
    simp only [zl]
    rw [r_rec h hk, v3, hyw, g7, hyd]
    by_cases h4 : gI Y (k + 1) 0 5 = nI 4
    · rw [decide_eq_true h4]
      simp (disch := omega) only [zl, zm, nI_add, pk_mul, inb_t, ix_n, gd_tt, bd_e, nm_v, ite_not, ↓reduceIte, le_t, le_f, lt_t, lt_f, eq_t, eq_f, mone_f, mone_f2, h4, not_true_eq_false, Bool.toNat_true]
    · rw [decide_eq_false h4]
      simp (disch := omega) only [zl, zm, nI_add, pk_mul, inb_t, ix_n, gd_tt, bd_e, nm_v, ite_not, ↓reduceIte, le_t, le_f, lt_t, lt_f, eq_t, eq_f, mone_f, mone_f2, h4, not_false_eq_true, not_true_eq_false, Bool.toNat_false]
  have st : ∀ F i acc, i < 4 → sL_alike_b364 (F + 1) k7 n T Y u a2 a3 (nI k) k acc (nI i) = sL_alike_b364 F k7 n T Y u a2 a3 (nI k) k (acc + gI Y (k + 1) 1 i * gI Y 0 1 i) (nI (i + 1)) := by
    intro F i acc hi
    have hq := r_slo h hk hi
    simp only [sL_alike_b364]
    simp (disch := omega) only [zl, zm, nI_add, pk_mul, inb_t, ix_n, gd_tt, bd_e, nm_v, ite_not, ↓reduceIte, le_t, le_f, lt_t, lt_f, eq_t, eq_f, mone_f, mone_f2, hq]
  obtain ⟨F, hF⟩ : ∃ F, FU = F + 1 + 1 + 1 + 1 + 1 := ⟨FU - 5, by have : FU = 1000000 := rfl; omega⟩
  rw [hF, st _ 0 _ (by omega), st _ 1 _ (by omega), st _ 2 _ (by omega), st _ 3 _ (by omega)]
  exact hend F
theorem l_330 {u : Nat} {k7 : TT → St → Nat → Int32 → Int32 → Int32 → Option Int32} {f9 : Nat → Int32} (h : RY n t T.1 Y) (hk : k < n) (hf : ∀ i, i < 14 → sT_X6_beacon T (nI k) (nI i) = some (f9 i)) : sL_alike_b330 FU k7 n T Y u a2 a3 (nI k) k (nI 0) (nI 0) f9 = k7 T Y u a2 (a3 + nI (decide (gI Y (k + 1) 0 5 = nI 4)).toNat) (nI (k + 1)) := by
  rw [← l_364 (u := u) (k7 := k7) (a2 := a2) (a3 := a3) h hk]
  refine fuel_up 14 (fun F i => sL_alike_b330 F k7 n T Y u a2 a3 (nI k) k (nI 0) (nI i) f9) _ (fun F => ?_) (fun F i hi => ?_) 14 0 FU (by omega) (FU_lt (by omega))
  · simp only [sL_alike_b330]
    simp (disch := omega) only [zl, zm, nI_add, pk_mul, inb_t, ix_n, gd_tt, bd_e, nm_v, ite_not, ↓reduceIte, le_t, le_f, lt_t, lt_f, eq_t, eq_f, mone_f, mone_f2]
  · simp only [sL_alike_b330]
    simp (disch := omega) only [zl, zm, nI_add, pk_mul, inb_t, ix_n, gd_tt, bd_e, nm_v, ite_not, ↓reduceIte, le_t, le_f, lt_t, lt_f, eq_t, eq_f, mone_f, mone_f2, hf i hi]
/-- a beacon and its pairs -/
theorem l_beacon {u : Nat} {P : Nat} {k7 : TT → St → Nat → Int32 → Int32 → Int32 → Option Int32} (h : RY n t T.1 Y) (hk : k < n) (hu : u < 9) : sL_alike_b49 FU k7 n T Y u (nI P) a3 (nI k) k (nI 0) (nI 0) (nI 0) (nI 0) = k7 T Y (u + 1) (nI (P + pcN (NB T.1 k) n)) (a3 + nI (decide (gI Y (k + 1) 0 5 = nI 4)).toNat) (nI (k + 1)) := by
  have hn := h.n8
  have hrb := r_bea h hk
  obtain ⟨sk, e11, e8⟩ := r_bea8 h hk
  have hNk : mkS (fun p => (NB T.1 k).testBit p) n = NB T.1 k := Nat.eq_of_testBit_eq fun i => by
    rw [mkS_bit]
    cases hb : (NB T.1 k).testBit i
    · rw [Bool.and_false]
    · rw [decide_eq_true (h.wn k hk i hb).1, Bool.true_and]
  refine fuel_up n (fun F p => sL_alike_b49 F k7 n T Y u (nI (P + pcN (NB T.1 k) p)) a3 (nI k) k (nI (mkS (fun p => (NB T.1 k).testBit p) p)) (nI (mkS (knP T.1 (k + 1)) p)) (nI 0) (nI p)) _ (fun F => ?_) (fun F p hp => ?_) n 0 FU (by omega) (FU_lt (by omega))
  · have hlt : ltN u 9 = true := decide_eq_true hu
    obtain ⟨G, hG⟩ : ∃ G, upd (upd (upd (upd (upd (upd (upd (upd (upd (upd (upd (upd (upd (upd (fun _ => nI 0) 0 (gI Y (k + 1) 0 0)) 1 (gI Y (k + 1) 0 1)) 2 (gI Y (k + 1) 0 2)) 3 (gI Y (k + 1) 0 3)) 4 (gI Y (k + 1) 0 4)) 5 (gI Y (k + 1) 0 5)) 6 (gI Y (k + 1) 0 6)) 7 (gI Y (k + 1) 0 7)) 8 (nI sk.toNat)) 9 (nI (NB T.1 k))) 10 (nI (mkS (knP T.1 (k + 1)) n))) 11 (gI Y (k + 1) 0 8)) 12 (gI Y (k + 1) 0 9)) 13 (gI Y (k + 1) 0 10) = G := ⟨_, rfl⟩
    have hG9 := l_330 (a2 := nI (P + pcN (NB T.1 k) n)) (a3 := a3) (u := u + 1) (k7 := k7) (f9 := G) h hk (fun i hi => by
      rw [← hG]
      rcases (by omega : i < 8 ∨ i = 8 ∨ i = 9 ∨ i = 10 ∨ i = 11 ∨ i = 12 ∨ i = 13) with g | rfl | rfl | rfl | rfl | rfl | rfl
      · rw [hrb.1 i g]
        rcases (by omega : i = 0 ∨ i = 1 ∨ i = 2 ∨ i = 3 ∨ i = 4 ∨ i = 5 ∨ i = 6 ∨ i = 7) with rfl | rfl | rfl | rfl | rfl | rfl | rfl | rfl
        all_goals simp (disch := omega) only [upd_e, qn, qe, ↓reduceIte]
      · rw [e8]; simp (disch := omega) only [upd_e, qn, qe, ↓reduceIte]
      · rw [hrb.2.1]; simp (disch := omega) only [upd_e, qn, qe, ↓reduceIte]
      · rw [hrb.2.2.1]; simp (disch := omega) only [upd_e, qn, qe, ↓reduceIte]
      · rw [hrb.2.2.2.1]; simp (disch := omega) only [upd_e, qn, qe, ↓reduceIte]
      · rw [hrb.2.2.2.2.1]; simp (disch := omega) only [upd_e, qn, qe, ↓reduceIte]
      · rw [hrb.2.2.2.2.2]; simp (disch := omega) only [upd_e, qn, qe, ↓reduceIte])
    simp only [sL_alike_b49, sL_alike_b285]
    rw [hNk]
    cases sk
    · simp (disch := omega) only [zl, zm, nI_add, pk_mul, inb_t, ix_n, gd_tt, bd_e, nm_v, ite_not, ↓reduceIte, le_t, le_f, lt_t, lt_f, eq_t, eq_f, mone_f, mone_f2, hlt, e11, Bool.toNat_false] at hG ⊢
      rw [hG]; exact hG9
    · simp (disch := omega) only [zl, zm, nI_add, pk_mul, inb_t, ix_n, gd_tt, bd_e, nm_v, ite_not, ↓reduceIte, le_t, le_f, lt_t, lt_f, eq_t, eq_f, mone_f, mone_f2, hlt, e11, Bool.toNat_true] at hG ⊢
      rw [hG]; exact hG9
  · have hnr : gI Y 0 (k + 6) p = nI ((NB T.1 k).testBit p).toNat := h.xy.2.1 k hk p hp
    have hkn := y_knowsP h hk hp
    have q1 := r_hea h hk hp
    have q2 := r_why h hk hp
    have q3 := r_kno h hk hp
    have m1 := mkS_e (fun p => (NB T.1 k).testBit p) p
    have m2 := mkS_e (knP T.1 (k + 1)) p
    have m3 := pcN_e (NB T.1 k) p
    simp only [sL_alike_b49, sL_alike_b86, sL_alike_b110, sL_alike_b132]
    cases hb : (NB T.1 k).testBit p <;> cases hc : knP T.1 (k + 1) p <;> rw [hb] at hnr m1 m3 <;> rw [hc] at hkn m2 q3
    all_goals simp (disch := omega) only [zl, zm, nI_add, pk_mul, inb_t, ix_n, gd_tt, bd_e, nm_v, ite_not, ↓reduceIte, le_t, le_f, lt_t, lt_f, eq_t, eq_f, mone_f, mone_f2, hnr, hkn, q1, q2, q3, m1, m2, m3, Bool.toNat_true, Bool.toNat_false, not_true_eq_false, not_false_eq_true, n_or, sh1, Nat.or_zero, reduceCtorEq, Nat.add_zero, Nat.add_assoc]
theorem l_568 {u : Nat} {f9 : Nat → Int32} (hf : ∀ i, i < 10 → sT_X6_setting T (nI i) = some (f9 i)) : sL_alike_b568 FU n T Y u (nI 0) f9 = some (nI 1) := by
  refine fuel_up 10 (fun F i => sL_alike_b568 F n T Y u (nI i) f9) _ (fun F => ?_) (fun F i hi => ?_) 10 0 FU (by omega) (FU_lt (by omega))
  · simp only [sL_alike_b568]
    simp (disch := omega) only [zl, zm, nI_add, pk_mul, inb_t, ix_n, gd_tt, bd_e, nm_v, ite_not, ↓reduceIte, le_t, le_f, lt_t, lt_f, eq_t, eq_f, mone_f, mone_f2]
  · simp only [sL_alike_b568]
    simp (disch := omega) only [zl, zm, nI_add, pk_mul, inb_t, ix_n, gd_tt, bd_e, nm_v, ite_not, ↓reduceIte, le_t, le_f, lt_t, lt_f, eq_t, eq_f, mone_f, mone_f2, hf i hi]
theorem l_alike (h : RY n t T.1 Y) : sL_alike n T Y 0 = some (nI 1) := by
  have hn := h.n8
  have hrs := r_set h
  refine fuel_up n (fun F k => sL_alike_b7 F n T Y k (nI (smN (fun k => pcN (NB T.1 k) n) k)) (nI (smN (fun k => (decide (gI Y (k + 1) 0 5 = nI 4)).toNat) k)) (nI k)) _ (fun F => ?_) (fun F k hk => ?_) n 0 FU (by omega) (FU_lt (by omega))
  · have hlt : ltN n 9 = true := decide_eq_true (by omega)
    obtain ⟨G, hG⟩ : ∃ G, upd (upd (upd (upd (upd (upd (upd (upd (upd (upd (fun _ => nI 0) 0 (nI n)) 1 (nI (smN (fun k => pcN (NB T.1 k) n) n) / nI 2)) 2 (gI Y 0 0 0)) 3 (gI Y 0 0 2)) 4 (gI Y 0 0 3)) 5 (gI Y 0 0 4)) 6 (gI Y 0 0 5)) 7 (gI Y 0 0 6)) 8 (nI (smN (fun k => (decide (gI Y (k + 1) 0 5 = nI 4)).toNat) n))) 9 (gI Y 0 0 1) = G := ⟨_, rfl⟩
    have h9 := l_568 (n := n) (Y := Y) (u := n + 1) (T := T) (f9 := G) (fun i hi => by
      rw [← hG]
      rcases (by omega : i = 0 ∨ i = 1 ∨ i = 2 ∨ i = 3 ∨ i = 4 ∨ i = 5 ∨ i = 6 ∨ i = 7 ∨ i = 8 ∨ i = 9) with rfl | rfl | rfl | rfl | rfl | rfl | rfl | rfl | rfl | rfl
      · rw [hrs.1]; simp (disch := omega) only [upd_e, qn, qe, ↓reduceIte]
      · rw [r_set1 h]; simp (disch := omega) only [upd_e, qn, qe, ↓reduceIte]
      · rw [hrs.2.1]; simp (disch := omega) only [upd_e, qn, qe, ↓reduceIte]
      · rw [hrs.2.2.1]; simp (disch := omega) only [upd_e, qn, qe, ↓reduceIte]
      · rw [hrs.2.2.2.1]; simp (disch := omega) only [upd_e, qn, qe, ↓reduceIte]
      · rw [hrs.2.2.2.2.1]; simp (disch := omega) only [upd_e, qn, qe, ↓reduceIte]
      · rw [hrs.2.2.2.2.2.1]; simp (disch := omega) only [upd_e, qn, qe, ↓reduceIte]
      · rw [hrs.2.2.2.2.2.2.1]; simp (disch := omega) only [upd_e, qn, qe, ↓reduceIte]
      · rw [r_set8 h]; simp (disch := omega) only [upd_e, qn, qe, ↓reduceIte]
      · rw [hrs.2.2.2.2.2.2.2]; simp (disch := omega) only [upd_e, qn, qe, ↓reduceIte])
    simp only [sL_alike_b7]
    simp (disch := omega) only [zl, zm, nI_add, pk_mul, inb_t, ix_n, gd_tt, bd_e, nm_v, ite_not, ↓reduceIte, le_t, le_f, lt_t, lt_f, eq_t, eq_f, mone_f, mone_f2, hlt]
    rw [hG]; exact h9
  · have hb := l_beacon (P := smN (fun k => pcN (NB T.1 k) n) k) (a3 := nI (smN (fun k => (decide (gI Y (k + 1) 0 5 = nI 4)).toNat) k)) (u := k) (k7 := fun T' Y' u' a2' a3' a4' => sL_alike_b7 F n T' Y' u' a2' a3' a4') h hk (by omega)
    simp only [sL_alike_b7]
    simp only [zl]
    rw [inb_t hk (by omega), gd_tt, if_neg (by rw [le_f (by omega) (by omega)]; exact id)]
    rw [show ix (nI k) = k from ix_n (by omega), hb, nI_add]
    rfl
end
