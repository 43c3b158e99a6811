/-! stage B: what one turn of the law does -/
section
variable {n t tb wm k b o L9 : Nat} {x x' Y Y' : St} {f f' xs : Nat → Int32} {T : TT} {L : List St}
theorem XB.cgw {v w w' : Nat → Nat → Int32} (h : XB n b v w) (hw : ∀ j i, ¬ (j = 0 ∧ i = 10) → w' j i = w j i) : XB n b v w' := by
  obtain ⟨y0, y1, y2, y3, y4, y5, y6, y7, y8, y9, y10, y11, y12, y13, y14, y15⟩ := h
  refine ⟨?_, ?_, ?_, ?_, ?_, ?_, ?_, ?_, ?_, ?_, ?_, ?_, fun k hk => ?_, fun o ho => ?_, fun o ho => ?_, fun h4 o ho hob => ?_⟩
  case refine_16 =>
    rw [hw _ _ (by omega)] at h4 ⊢
    exact y15 h4 o ho hob
  all_goals rw [hw _ _ (by omega)]
  all_goals first | assumption | exact y12 _ (by assumption) | exact y13 _ (by assumption) | exact y14 _ (by assumption)
def swX (x : St) (b o : Nat) : St := pI (pI x (b + 1) 0 10 (nI (NB x b ^^^ 2 ^ o))) (o + 1) 0 10 (nI (NB x o ^^^ 2 ^ b))
def swY (Y : St) (b o : Nat) (v : Int32) : St := pI (pI Y 0 (b + 6) o v) 0 (o + 6) b v
theorem XY.near (h : XY n x Y) (hn : n ≤ 8) (hb : b < n) (ho : o < n) (hbo : ¬ b = o) {N : Bool} (hxb : NB x b < 256) (hxo : NB x o < 256) (hsym : (NB x o).testBit b = (NB x b).testBit o) (hN : ¬ (NB x b).testBit o = N) : XY n (swX x b o) (swY Y b o (nI N.toNat)) := by
  have h2 : ∀ k, k < n → 2 ^ k < 256 := fun k hk => Nat.pow_lt_pow_right (a := 2) (n := 8) (by decide) (by omega)
  have hA : NB x b ^^^ 2 ^ o < 256 := Nat.xor_lt_two_pow (n := 8) hxb (h2 o ho)
  have hB : NB x o ^^^ 2 ^ b < 256 := Nat.xor_lt_two_pow (n := 8) hxo (h2 b hb)
  have hNB : ∀ k, NB (swX x b o) k = if k = o then NB x o ^^^ 2 ^ b else if k = b then NB x b ^^^ 2 ^ o else NB x k := fun k => by
    unfold swX
    unfold NB at hA hB ⊢
    rw [gI_pI]
    by_cases hko : k = o
    · rw [if_pos (by omega), if_pos hko, ix_n (by omega)]
    · rw [if_neg (by omega), if_neg hko, gI_pI]
      by_cases hkb : k = b
      · rw [if_pos (by omega), if_pos hkb, ix_n (by omega)]
      · rw [if_neg (by omega), if_neg hkb]
  obtain ⟨⟨z0, z1, z2, z3, z4, z5, z6, z7, z8⟩, hNr, hBB⟩ := h
  have fl : ∀ a b : Bool, ¬ a = b → (!a) = b := by decide
  refine ⟨?_, fun c hc i hi => ?_, fun c hc => ?_⟩
  · have e : gI (swX x b o) 0 = gI x 0 := by unfold swX; rw [hd_k, hd_k]
    rw [e]
    unfold swY
    refine ⟨?_, ?_, ?_, ?_, ?_, ?_, ?_, fun k' hk' => ?_, fun o ho => ?_⟩
    all_goals rw [gI_pI, if_neg (by omega), gI_pI, if_neg (by omega)]
    all_goals first | assumption | exact z7 _ (by assumption) | exact z8 _ (by assumption)
  · rw [hNB]
    unfold swY
    rw [gI_pI, gI_pI]
    by_cases hco : c = o
    · subst hco
      rw [if_pos rfl, Nat.testBit_xor, Nat.testBit_two_pow]
      by_cases hib : i = b
      · subst hib
        rw [if_pos ⟨rfl, rfl, rfl⟩, decide_eq_true rfl, Bool.xor_true, hsym, fl _ _ hN]
      · rw [if_neg (by omega), if_neg (by omega), decide_eq_false (fun z => hib z.symm), Bool.xor_false]
        exact hNr c hc i hi
    · rw [if_neg hco]
      by_cases hcb : c = b
      · subst hcb
        rw [if_pos rfl, Nat.testBit_xor, Nat.testBit_two_pow]
        by_cases hio : i = o
        · subst hio
          rw [if_neg (by omega), if_pos ⟨rfl, rfl, rfl⟩, decide_eq_true rfl, Bool.xor_true, fl _ _ hN]
        · rw [if_neg (by omega), if_neg (by omega), decide_eq_false (fun z => hio z.symm), Bool.xor_false]
          exact hNr c hc i hi
      · rw [if_neg hcb, if_neg (by omega), if_neg (by omega)]
        exact hNr c hc i hi
  · have e : gI (swY Y b o (nI N.toNat)) (c + 1) = gI Y (c + 1) := by unfold swY; rw [bv_0, bv_0]
    rw [e]
    refine (hBB c hc).cgw fun j i hji => ?_
    unfold swX
    rw [gI_pI, if_neg (by omega), gI_pI, if_neg (by omega)]
theorem XY.nearS (h : XY n x Y) (hb : b < n) (ho : o < n) {N : Bool} (hsym : (NB x o).testBit b = (NB x b).testBit o) (hN : (NB x b).testBit o = N) : XY n x (swY Y b o (nI N.toNat)) := by
  refine h.cgY (funext fun p => funext fun j => funext fun i => ?_)
  unfold swY
  rw [gI_pI, gI_pI]
  by_cases h1 : p = 0 ∧ j = o + 6 ∧ i = b
  · obtain ⟨rfl, rfl, rfl⟩ := h1
    rw [if_pos ⟨rfl, rfl, rfl⟩, h.2.1 o ho i hb, hsym, hN]
  · rw [if_neg h1]
    by_cases h2 : p = 0 ∧ j = b + 6 ∧ i = o
    · obtain ⟨rfl, rfl, rfl⟩ := h2
      rw [if_pos ⟨rfl, rfl, rfl⟩, h.2.1 b hb i ho, hN]
    · rw [if_neg h2]
theorem t_setNear (h : RT n t L T Y) (hL : L.length ≤ 5) (hb : b < n) (ho : o < n) (hbo : ¬ b = o) (N : Bool) : ∃ T', sT_X6_setNear T (nI b) (nI o) (nI N.toNat) = some (T', nI (decide (¬ gI Y 0 (b + 6) o = nI N.toNat)).toNat) ∧ RT n t [] T' (swY Y b o (nI N.toNat)) := by
  obtain ⟨ps', c', g1, g2⟩ := h.chg hL
  have hR := h.1
  have hn := hR.n8
  have hnb := hR.nb hb
  have hno := hR.nb ho
  have hYb := hR.xy.2.1 b hb o ho
  have hsym : (NB T.1 o).testBit b = (NB T.1 b).testBit o := by
    have w1 := hR.wn b hb o
    have w2 := hR.wn o ho b
    cases e1 : (NB T.1 o).testBit b <;> cases e2 : (NB T.1 b).testBit o
    · rfl
    · have := (w1 e2).2.2; rw [this] at e1; cases e1
    · have := (w2 e1).2.2; rw [this] at e2; cases e2
    · rfl
  have hin := c_isIn (a := NB T.1 b) (k := o) (by omega) (by omega)
  obtain ⟨⟨f, w, y⟩, i⟩ := id hR
  have hI : IV n t t (8 * t) (swY Y b o (nI N.toNat)) := i.fr fun p j i h1 h2 => by
    unfold swY
    rw [gI_pI, if_neg (by omega), gI_pI, if_neg (by omega)]
  have zb : ∀ a c : Bool, nI a.toNat = nI c.toNat ↔ a = c := by decide
  by_cases hN : (NB T.1 b).testBit o = N
  · refine ⟨rtT T T.1 T.2.2.2.1 T.2.2.2.2.2.2.2.2.2.1, ?_, (RT.nil (⟨RY.mk w (hR.xy.nearS hb ho hsym hN) hI, h.2⟩ : RT n t L (rtT T T.1 T.2.2.2.1 T.2.2.2.2.2.2.2.2.2.1) _))⟩
    rw [decide_eq_false (by rw [hYb, hN]; exact fun z => z rfl)]
    have : sX6_setNear T.1 T.2.2.2.1 T.2.2.2.2.2.2.2.2.2.1 (nI b) (nI o) (nI N.toNat) = some (T.1, T.2.2.2.1, T.2.2.2.2.2.2.2.2.2.1, .inl (nI 0)) := by
      unfold sX6_setNear
      rw [hN] at hin
      simp (disch := omega) only [zl, zm, nI_add, pk_mul, inb_t, ix_n, gd_tt, bd_e, nm_v, ite_not, ↓reduceIte, le_t, le_f, lt_t, lt_f, eq_t, eq_f, mone_f, mone_f2, c_reqT hR hb, c_reqT hR ho, sm_il, hbo, hnb.1, hin, eq_self]
    unfold sT_X6_setNear
    rw [this]
    rfl
  · refine ⟨rtT T (swX T.1 b o) ps' c', ?_, g2 t _ _ (RY.mk (r_near w hb ho hbo) (hR.xy.near hn hb ho hbo hnb.2 hno.2 hsym hN) hI)⟩
    rw [decide_eq_true (by rw [hYb, zb]; exact hN)]
    have hne : (nI ((NB T.1 b).testBit o).toNat = nI N.toNat) = False := eq_false (by rw [zb]; exact hN)
    have hsw : sX5_switchNear T.1 (nI b) (nI o) = some (swX T.1 b o) := by
      unfold sX5_switchNear swX
      simp (disch := omega) only [zl, zm, nI_add, pk_mul, inb_t, ix_n, gd_tt, bd_e, nm_v, ite_not, ↓reduceIte, le_t, le_f, lt_t, lt_f, eq_t, eq_f, mone_f, mone_f2, sh1, hnb.1, gI_pI, gL_pL, gI_pL, gL_pI, qe, qn, not_true_eq_false, not_false_eq_true, true_and, and_true, false_and, and_false, and_self, Nat.add_right_cancel_iff, hno.1, n_xor]
    have : sX6_setNear T.1 T.2.2.2.1 T.2.2.2.2.2.2.2.2.2.1 (nI b) (nI o) (nI N.toNat) = some (swX T.1 b o, ps', c', .inl (nI 1)) := by
      unfold sX6_setNear
      simp (disch := omega) only [zl, zm, nI_add, pk_mul, inb_t, ix_n, gd_tt, bd_e, nm_v, ite_not, ↓reduceIte, le_t, le_f, lt_t, lt_f, eq_t, eq_f, mone_f, mone_f2, c_reqT hR hb, c_reqT hR ho, sm_il, hbo, hnb.1, hin, hne, g1, hsw]
    unfold sT_X6_setNear
    rw [this]
    rfl
theorem a_442 (h : RT n t L T Y) (hL : L.length ≤ 5) (hb : b < n) (ho : o < n) (N : Bool) : ∃ T' Y', sL_acts_b442 L9 xs n T Y 0 (nI b) (nI o) (nI N.toNat) = some (T', Y', nI 1) ∧ RT n t [] T' Y' := by
  have hn := h.1.n8
  by_cases hbo : b = o
  · subst hbo
    refine ⟨T, Y, ?_, h.nil⟩
    unfold sL_acts_b442
    simp (disch := omega) only [zl, zm, nI_add, pk_mul, inb_t, ix_n, gd_tt, bd_e, nm_v, ite_not, ↓reduceIte, le_t, le_f, lt_t, lt_f, eq_t, eq_f, mone_f, mone_f2, eq_self]
  · obtain ⟨T', e1, e2⟩ := t_setNear h hL hb ho hbo N
    refine ⟨T', _, ?_, e2⟩
    unfold sL_acts_b442 sL_acts_b473 swY
    by_cases hv : gI Y 0 (b + 6) o = nI N.toNat
    · rw [decide_eq_false (fun z => z hv)] at e1
      simp (disch := omega) only [zl, zm, nI_add, pk_mul, inb_t, ix_n, gd_tt, bd_e, nm_v, ite_not, ↓reduceIte, le_t, le_f, lt_t, lt_f, eq_t, eq_f, mone_f, mone_f2, hbo, hv, eq_self, isb_z, e1, Bool.toNat_false]
    · rw [decide_eq_true hv] at e1
      simp (disch := omega) only [zl, zm, nI_add, pk_mul, inb_t, ix_n, gd_tt, bd_e, nm_v, ite_not, ↓reduceIte, le_t, le_f, lt_t, lt_f, eq_t, eq_f, mone_f, mone_f2, hbo, hv, eq_self, isb_z, e1, Bool.toNat_true]
theorem y_run (h : RY n t x Y) {s : Nat} (hs : s ≤ 25) (ht : t + s < 199000) : ∃ Y', sX8_run n Y 0 (nI s) = some (Y', gI Y' 0 0 4 - gI Y 0 0 4) ∧ itY n s Y = some Y' := by
  have key : ∀ (d i F : Nat) (x Yi : St), i + d = s → d < F → RY n (t + i) x Yi → itY n i Y = some Yi → ∃ Y', sX8_run_b4 F n Yi (9 * i) (nI s) (gI Yi 0 0 4 - gI Y 0 0 4) (nI i) = some (Y', gI Y' 0 0 4 - gI Y 0 0 4) ∧ itY n s Y = some Y' := by
    intro d
    induction d with
    | zero =>
      intro i F x Yi hi hF hR hit
      obtain rfl : i = s := by omega
      obtain ⟨F, rfl⟩ : ∃ z, F = z + 1 := ⟨F - 1, by omega⟩
      refine ⟨Yi, ?_, hit⟩
      simp only [sX8_run_b4]
      rw [if_pos (nI_le (Nat.le_refl _) (by omega))]
    | succ d ih =>
      intro i F x Yi hi hF hR hit
      obtain ⟨F, rfl⟩ : ∃ z, F = z + 1 := ⟨F - 1, by omega⟩
      obtain ⟨x', Y2, e1, e2, e3, e4, e5⟩ := t_oneR hR (by omega)
      obtain ⟨Y', q1, q2⟩ := ih (i + 1) F x' Y2 (by omega) (by omega) e3 (itY_s hit e2)
      refine ⟨Y', ?_, q2⟩
      simp only [sX8_run_b4]
      have hlt : ltN (9 * i + 8) 225 = true := decide_eq_true (by omega)
      simp (disch := omega) only [zl, zm, nI_add, pk_mul, inb_t, ix_n, gd_tt, bd_e, nm_v, ite_not, ↓reduceIte, le_t, le_f, lt_t, lt_f, eq_t, eq_f, mone_f, mone_f2, hlt, e2, i_tel]
      exact q1
  obtain ⟨Y', q1, q2⟩ := key s 0 FU x Y (by omega) (FU_lt (by omega)) h rfl
  refine ⟨Y', ?_, q2⟩
  rw [Int32.sub_self] at q1
  exact q1
theorem l_acts (h : RT n t [] T Y) (hL9 : L9 ≤ 260) {i : Nat} (hi : i < 40) (ht : t ≤ 9000) : ∃ T' Y' t', sL_acts L9 xs n T Y 0 (nI i) = some (T', Y', nI 1) ∧ t' ≤ t + 25 ∧ RT n t' [] T' Y' := by
  have hn := h.1.n8
  obtain ⟨q, hq, e1⟩ := p_pick (xs := xs) (L := L9) (i := 340 + i) (m := 400000) hL9 (by omega) (by omega) (by omega)
  obtain ⟨v, hv, e2⟩ := p_pick (xs := xs) (L := L9) (i := 300 + i) (m := 14) hL9 (by omega) (by omega) (by omega)
  have p1 : sL_pick L9 xs ((340 : Int32) + nI i) (400000 : Int32) = some (nI q) := by
    show sL_pick L9 xs (nI 340 + nI i) (nI 400000) = _
    rw [nI_add]; exact e1
  have p2 : sL_pick L9 xs ((300 : Int32) + nI i) (14 : Int32) = some (nI v) := by
    show sL_pick L9 xs (nI 300 + nI i) (nI 14) = _
    rw [nI_add]; exact e2
  have l0 : ([] : List St).length ≤ 5 := Nat.zero_le _
  have r8 : nI q / nI 8 = nI (q / 8) := pk_div (by omega) (by omega) (by omega)
  by_cases c6 : v < 6
  · have r25 : nI q - nI q / nI 25 * nI 25 = nI (q % 25) := pk_rem (by omega) (by omega) (by omega)
    obtain ⟨T', Y', a1, a2, a3, a4⟩ := t_run h (s := 1 + q % 25) (by omega) (by omega) (by omega) l0
    obtain ⟨Y2, b1, b2⟩ := y_run h.1 (s := 1 + q % 25) (by omega) (by omega)
    obtain rfl := itY_un a2 b2
    refine ⟨T', Y', _, ?_, by omega, a3.nil⟩
    unfold sL_acts
    rw [p1, bd_e, p2, bd_e]
    simp (disch := omega) only [↓nm_v, zl, zm, nI_add, pk_mul, inb_t, ix_n, gd_tt, bd_e, nm_v, ite_not, ↓reduceIte, le_t, le_f, lt_t, lt_f, eq_t, eq_f, mone_f, mone_f2, r25, a1, b1, eq_self, show ltN (0 + 224) 225 = true from rfl, show ltN 224 225 = true from rfl]
  by_cases c7 : v = 6
  · have r9 : nI q - nI q / nI 9 * nI 9 = nI (q % 9) := pk_rem (by omega) (by omega) (by omega)
    obtain ⟨T', a1, a2⟩ := t_setTries h l0 (v := 1 + q % 9) (by omega) (by omega)
    refine ⟨T', _, t, ?_, by omega, a2⟩
    unfold sL_acts
    rw [p1, bd_e, p2, bd_e]
    simp (disch := omega) only [↓nm_v, zl, zm, nI_add, pk_mul, inb_t, ix_n, gd_tt, bd_e, nm_v, ite_not, ↓reduceIte, le_t, le_f, lt_t, lt_f, eq_t, eq_f, mone_f, mone_f2, r9, a1, eq_self, gI_pI, gL_pL, gI_pL, gL_pI, qe, qn, not_true_eq_false, not_false_eq_true, true_and, and_true, false_and, and_false, and_self, Nat.add_right_cancel_iff]
  by_cases h0 : n = 0
  · refine ⟨T, Y, t, ?_, by omega, h⟩
    unfold sL_acts
    rw [p1, bd_e, p2, bd_e]
    simp (disch := omega) only [↓nm_v, zl, zm, nI_add, pk_mul, inb_t, ix_n, gd_tt, bd_e, nm_v, ite_not, ↓reduceIte, le_t, le_f, lt_t, lt_f, eq_t, eq_f, mone_f, mone_f2, h0]
  have hk : q % n < n := Nat.mod_lt _ (by omega)
  have hj : q / 8 % n < n := Nat.mod_lt _ (by omega)
  obtain ⟨k, hkq⟩ : ∃ k, q % n = k := ⟨_, rfl⟩
  obtain ⟨j, hjq⟩ : ∃ j, q / 8 % n = j := ⟨_, rfl⟩
  rw [hkq] at hk
  rw [hjq] at hj
  have rn : nI q - nI q / nI n * nI n = nI k := by rw [← hkq]; exact pk_rem (by omega) (by omega) (by omega)
  have rm : nI (q / 8) - nI (q / 8) / nI n * nI n = nI j := by rw [← hjq]; exact pk_rem (by omega) (by omega) (by omega)
  have hz : nz (nI n) = true := nz_t (by omega) (by omega)
  obtain ⟨p, g, d, hp, hg, h2p, hp99, hgp, -, -⟩ := r_due h.1 hk
  by_cases c9 : v < 9
  · by_cases hs : gI Y (k + 1) 0 5 = nI 0
    · obtain ⟨T', a1, a2⟩ := t_wakeUp h l0 hk hs
      refine ⟨T', _, t, ?_, by omega, a2⟩
      unfold sL_acts
      rw [p1, bd_e, p2, bd_e]
      simp (disch := omega) only [↓nm_v, zl, zm, nI_add, pk_mul, inb_t, ix_n, gd_tt, bd_e, nm_v, ite_not, ↓reduceIte, le_t, le_f, lt_t, lt_f, eq_t, eq_f, mone_f, mone_f2, h0, hz, r8, rn, rm, hs, a1, eq_self, gI_pI, gL_pL, gI_pL, gL_pI, qe, qn, not_true_eq_false, not_false_eq_true, true_and, and_true, false_and, and_false, and_self, Nat.add_right_cancel_iff]
    · refine ⟨T, Y, t, ?_, by omega, h⟩
      unfold sL_acts
      rw [p1, bd_e, p2, bd_e]
      simp (disch := omega) only [↓nm_v, zl, zm, nI_add, pk_mul, inb_t, ix_n, gd_tt, bd_e, nm_v, ite_not, ↓reduceIte, le_t, le_f, lt_t, lt_f, eq_t, eq_f, mone_f, mone_f2, h0, hz, r8, rn, rm, hs]
  by_cases c10 : v = 9
  · have r20 : nI (q / 8) - nI (q / 8) / nI 20 * nI 20 = nI (q / 8 % 20) := pk_rem (by omega) (by omega) (by omega)
    by_cases hm : g + 1 < 2 + q / 8 % 20
    · obtain ⟨T', a1, a2⟩ := t_setEvery h l0 hk (v := 2 + q / 8 % 20) hg (by omega) (by omega) (by omega) (by omega)
      refine ⟨T', _, t, ?_, by omega, a2⟩
      unfold sL_acts
      rw [p1, bd_e, p2, bd_e]
      simp (disch := omega) only [↓nm_v, zl, zm, nI_add, pk_mul, inb_t, ix_n, gd_tt, bd_e, nm_v, ite_not, ↓reduceIte, le_t, le_f, lt_t, lt_f, eq_t, eq_f, mone_f, mone_f2, h0, hz, r8, rn, rm, r20, hg, hm, a1, eq_self, gI_pI, gL_pL, gI_pL, gL_pI, qe, qn, not_true_eq_false, not_false_eq_true, true_and, and_true, false_and, and_false, and_self, Nat.add_right_cancel_iff]
    · obtain ⟨T', a1, a2⟩ := t_setEvery h l0 hk (v := g + 1) hg (by omega) (by omega) (by omega) (by omega)
      refine ⟨T', _, t, ?_, by omega, a2⟩
      unfold sL_acts
      rw [p1, bd_e, p2, bd_e]
      simp (disch := omega) only [↓nm_v, zl, zm, nI_add, pk_mul, inb_t, ix_n, gd_tt, bd_e, nm_v, ite_not, ↓reduceIte, le_t, le_f, lt_t, lt_f, eq_t, eq_f, mone_f, mone_f2, h0, hz, r8, rn, rm, r20, hg, hm, a1, eq_self, gI_pI, gL_pL, gI_pL, gL_pI, qe, qn, not_true_eq_false, not_false_eq_true, true_and, and_true, false_and, and_false, and_self, Nat.add_right_cancel_iff]
  by_cases c11 : v = 10
  · have hpm : q / 8 % p < p := Nat.mod_lt _ (by omega)
    have rp : nI (q / 8) - nI (q / 8) / nI p * nI p = nI (q / 8 % p) := pk_rem (by omega) (by omega) (by omega)
    have hzp : nz (nI p) = true := nz_t (by omega) (by omega)
    obtain ⟨T', a1, a2⟩ := t_setAt h l0 hk (v := q / 8 % p) hp (by omega) hpm
    refine ⟨T', _, t, ?_, by omega, a2⟩
    unfold sL_acts
    rw [p1, bd_e, p2, bd_e]
    simp (disch := omega) only [↓nm_v, zl, zm, nI_add, pk_mul, inb_t, ix_n, gd_tt, bd_e, nm_v, ite_not, ↓reduceIte, le_t, le_f, lt_t, lt_f, eq_t, eq_f, mone_f, mone_f2, h0, hz, r8, rn, rm, hp, hzp, rp, a1, eq_self, gI_pI, gL_pL, gI_pL, gL_pI, qe, qn, not_true_eq_false, not_false_eq_true, true_and, and_true, false_and, and_false, and_self, Nat.add_right_cancel_iff]
  by_cases c12 : v = 11
  · have r200 : nI (q / 8) - nI (q / 8) / nI 200 * nI 200 = nI (q / 8 % 200) := pk_rem (by omega) (by omega) (by omega)
    obtain ⟨T', en, hen, hen2, a1, a2⟩ := t_charge h l0 hk (v := 1 + q / 8 % 200) (by omega) (by omega)
    refine ⟨T', _, t, ?_, by omega, a2⟩
    unfold sL_acts chY
    rw [p1, bd_e, p2, bd_e]
    by_cases h4 : gI Y (k + 1) 0 5 = nI 4
    · rw [if_pos h4]
      by_cases hm : en + (1 + q / 8 % 200) < 9999
      · rw [show min 9999 (en + (1 + q / 8 % 200)) = en + (1 + q / 8 % 200) by omega] at a1 ⊢
        simp (disch := omega) only [↓nm_v, zl, zm, nI_add, pk_mul, inb_t, ix_n, gd_tt, bd_e, nm_v, ite_not, ↓reduceIte, le_t, le_f, lt_t, lt_f, eq_t, eq_f, mone_f, mone_f2, h0, hz, r8, rn, rm, r200, h4, sL_acts_b374, sL_acts_b389, hen2, hm, a1, eq_self, gI_pI, gL_pL, gI_pL, gL_pI, qe, qn, not_true_eq_false, not_false_eq_true, true_and, and_true, false_and, and_false, and_self, Nat.add_right_cancel_iff]
      · rw [show min 9999 (en + (1 + q / 8 % 200)) = 9999 by omega] at a1 ⊢
        simp (disch := omega) only [↓nm_v, zl, zm, nI_add, pk_mul, inb_t, ix_n, gd_tt, bd_e, nm_v, ite_not, ↓reduceIte, le_t, le_f, lt_t, lt_f, eq_t, eq_f, mone_f, mone_f2, h0, hz, r8, rn, rm, r200, h4, sL_acts_b374, sL_acts_b389, hen2, hm, a1, eq_self, gI_pI, gL_pL, gI_pL, gL_pI, qe, qn, not_true_eq_false, not_false_eq_true, true_and, and_true, false_and, and_false, and_self, Nat.add_right_cancel_iff]
    · rw [if_neg h4]
      by_cases hm : en + (1 + q / 8 % 200) < 9999
      · rw [show min 9999 (en + (1 + q / 8 % 200)) = en + (1 + q / 8 % 200) by omega] at a1 ⊢
        simp (disch := omega) only [↓nm_v, zl, zm, nI_add, pk_mul, inb_t, ix_n, gd_tt, bd_e, nm_v, ite_not, ↓reduceIte, le_t, le_f, lt_t, lt_f, eq_t, eq_f, mone_f, mone_f2, h0, hz, r8, rn, rm, r200, h4, sL_acts_b374, sL_acts_b389, hen2, hm, a1, eq_self, gI_pI, gL_pL, gI_pL, gL_pI, qe, qn, not_true_eq_false, not_false_eq_true, true_and, and_true, false_and, and_false, and_self, Nat.add_right_cancel_iff]
      · rw [show min 9999 (en + (1 + q / 8 % 200)) = 9999 by omega] at a1 ⊢
        simp (disch := omega) only [↓nm_v, zl, zm, nI_add, pk_mul, inb_t, ix_n, gd_tt, bd_e, nm_v, ite_not, ↓reduceIte, le_t, le_f, lt_t, lt_f, eq_t, eq_f, mone_f, mone_f2, h0, hz, r8, rn, rm, r200, h4, sL_acts_b374, sL_acts_b389, hen2, hm, a1, eq_self, gI_pI, gL_pL, gI_pL, gL_pI, qe, qn, not_true_eq_false, not_false_eq_true, true_and, and_true, false_and, and_false, and_self, Nat.add_right_cancel_iff]
  by_cases c13 : v = 12
  · obtain ⟨T', Y', a1, a2⟩ := a_442 (L9 := L9) (xs := xs) h l0 hk hj true
    refine ⟨T', Y', t, ?_, by omega, a2⟩
    rw [Bool.toNat_true] at a1
    unfold sL_acts
    rw [p1, bd_e, p2, bd_e]
    simp (disch := omega) only [↓nm_v, zl, zm, nI_add, pk_mul, inb_t, ix_n, gd_tt, bd_e, nm_v, ite_not, ↓reduceIte, le_t, le_f, lt_t, lt_f, eq_t, eq_f, mone_f, mone_f2, h0, hz, r8, rn, rm, a1]
  · obtain ⟨T', Y', a1, a2⟩ := a_442 (L9 := L9) (xs := xs) h l0 hk hj false
    refine ⟨T', Y', t, ?_, by omega, a2⟩
    rw [Bool.toNat_false] at a1
    unfold sL_acts
    rw [p1, bd_e, p2, bd_e]
    simp (disch := omega) only [↓nm_v, zl, zm, nI_add, pk_mul, inb_t, ix_n, gd_tt, bd_e, nm_v, ite_not, ↓reduceIte, le_t, le_f, lt_t, lt_f, eq_t, eq_f, mone_f, mone_f2, h0, hz, r8, rn, rm, a1]
end
