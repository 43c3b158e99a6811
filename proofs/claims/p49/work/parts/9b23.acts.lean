/-! stage B: the changes, in the class's and the law's world -/
section
variable {n t tb wm k b o : Nat} {x x' Y Y' : St} {f f' : Nat → Int32} {T : TT} {L : List St}
theorem i_tel (a b c : Int32) : a - b + (c - a) = c - b := by
  rw [Int32.add_comm, Int32.sub_eq_add_neg a b, ← Int32.add_assoc, Int32.sub_add_cancel, ← Int32.sub_eq_add_neg]
theorem p_pick {xs : Nat → Int32} {L i m : Nat} (hL : L ≤ 260) (hi : i < 2 ^ 30) (h0 : 0 < m) (hm : m < 2 ^ 31) : ∃ v, v < m ∧ sL_pick L xs (nI i) (nI m) = some (nI v) := by
  have hc : ∃ a : Int32, sL_cell L xs (nI i) = some a := by
    unfold sL_cell
    by_cases h : L ≤ i
    · exact ⟨_, if_pos (nI_le h (by omega))⟩
    · refine ⟨xs i, ?_⟩
      rw [if_neg (nI_ge (by omega) (by omega)), inb_t (by omega) (by omega), ix_n (by omega)]
      rfl
  obtain ⟨a, ha⟩ := hc
  have h1 : a &&& 2147483647 = nI (a.toBitVec.toNat % 2 ^ 31) := pk_and a 31 (by decide)
  refine ⟨a.toBitVec.toNat % 2 ^ 31 % m, Nat.mod_lt _ h0, ?_⟩
  unfold sL_pick
  rw [ha, bd_e, h1, nz_t h0 hm, gd_tt, pk_rem (Nat.mod_lt _ (by decide)) h0 hm]
theorem XY.cgY (h : XY n x Y) (e : gI Y' = gI Y) : XY n x Y' := by unfold XY; rw [e]; exact h
theorem IV.cgY (h : IV n t tb wm Y) (e : gI Y' = gI Y) : IV n t tb wm Y' := by unfold IV IC IS; rw [e]; exact h
theorem RY.mk (w : WS n t x f) (h : XY n x Y) (i : IV n t t (8 * t) Y) : RY n t x Y := ⟨⟨f, w, FY.of w h⟩, i⟩
theorem IV.fr (h : IV n t tb wm Y) (hf : ∀ o j i, ¬ (o = 0 ∧ ¬ j = 1 ∧ ¬ (j = 0 ∧ (i = 4 ∨ i = 5))) → ¬ (1 ≤ o ∧ j = 0 ∧ (i = 0 ∨ i = 1 ∨ i = 7 ∨ i = 11)) → gI Y' o j i = gI Y o j i) : IV n t tb wm Y' := by
  obtain ⟨hB, hC, W, U, hS, hW, hU, hwm⟩ := h
  have e : gI Y' 0 1 = gI Y 0 1 := funext fun i => hf _ _ _ (by omega) (by omega)
  refine ⟨fun b hb => ?_, fun b hb o ho hob h0 => ?_, W, U, fun b hb => ?_, (hf _ _ _ (by omega) (by omega)).trans hW, (hf _ _ _ (by omega) (by omega)).trans hU, hwm⟩
  · obtain ⟨-, e1, e2, e3⟩ := hB b hb
    rw [e]
    refine (hB b hb).cg (fun _ _ => rfl) (fun i hi => hf _ _ _ (by omega) (by omega)) (hf _ _ _ (by omega) (by omega)) ?_ ?_ (fun o ho => ?_)
    · rw [hf _ _ _ (by omega) (by omega), hf _ _ _ (by omega) (by omega)]; exact e1
    · rw [hf _ _ _ (by omega) (by omega), hf _ _ _ (by omega) (by omega)]; exact e2
    · rw [hf _ _ _ (by omega) (by omega)]; exact e3 o ho
  · rw [hf _ _ _ (by omega) (by omega)] at h0 ⊢
    exact hC b hb o ho hob h0
  · rw [hf _ _ _ (by omega) (by omega), hf _ _ _ (by omega) (by omega)]; exact hS b hb
theorem XY.tries (h : XY n x Y) (v : Int32) : XY n (pI x 0 0 3 v) (pI Y 0 0 2 v) := by
  obtain ⟨⟨z0, z1, z2, z3, z4, z5, z6, z7, z8⟩, hNr, hBB⟩ := h
  refine ⟨⟨?_, ?_, ?_, ?_, ?_, ?_, ?_, fun k' hk' => ?_, fun o ho => ?_⟩, fun b hb o ho => ?_, fun b hb => ?_⟩
  case refine_10 =>
    have : NB (pI x 0 0 3 v) b = NB x b := by unfold NB; rw [gI_pI, if_neg (by omega)]
    rw [this, gI_pI, if_neg (by omega)]; exact hNr b hb o ho
  case refine_11 => rw [bv_0, bv_0]; exact hBB b hb
  all_goals simp (disch := omega) only [gI_pI, gL_pL, gI_pL, gL_pI, qn, qe, not_true_eq_false, not_false_eq_true, true_and, and_true, false_and, and_false, and_self, Nat.add_right_cancel_iff, ↓reduceIte]
  all_goals first | assumption | exact z7 _ (by assumption) | exact z8 _ (by assumption)
/-- one number of a beacon, on both sides -/
theorem XY.put {i j : Nat} (h : XY n x Y) (hk : k < n) (v : Int32) (hij : (i = 0 ∧ j = 1) ∨ (i = 1 ∧ j = 2) ∨ (i = 4 ∧ j = 5) ∨ (i = 5 ∧ j = 6) ∨ (i = 6 ∧ j = 7) ∨ (i = 7 ∧ j = 8) ∨ (i = 11 ∧ j = 9)) (hv : i = 5 → ¬ v = nI 3) : XY n (pI x (k + 1) 0 j v) (pI Y (k + 1) 0 i v) := by
  obtain ⟨⟨z0, z1, z2, z3, z4, z5, z6, z7, z8⟩, hNr, hBB⟩ := h
  refine ⟨⟨?_, ?_, ?_, ?_, ?_, ?_, ?_, fun k' hk' => ?_, fun o ho => ?_⟩, fun b hb o ho => ?_, fun b hb => ?_⟩
  case refine_10 =>
    have : NB (pI x (k + 1) 0 j v) b = NB x b := by unfold NB; rw [gI_pI, if_neg (by omega)]
    rw [this, gI_pI, if_neg (by omega)]; exact hNr b hb o ho
  case refine_11 =>
    obtain ⟨y0, y1, y2, y3, y4, y5, y6, y7, y8, y9, y10, y11, y12, y13, y14, y15⟩ := hBB b hb
    by_cases e : b = k
    · subst e
      rcases hij with ⟨rfl, rfl⟩ | ⟨rfl, rfl⟩ | ⟨rfl, rfl⟩ | ⟨rfl, rfl⟩ | ⟨rfl, rfl⟩ | ⟨rfl, rfl⟩ | ⟨rfl, rfl⟩
      all_goals refine ⟨?_, ?_, ?_, ?_, ?_, ?_, ?_, ?_, ?_, ?_, ?_, ?_, fun k' hk' => ?_, fun o ho => ?_, fun o ho => ?_, fun h4 o ho hob => ?_⟩
      all_goals first | exact absurd ((gI_pI ..).symm.trans h4 |> fun z => by rw [if_pos ⟨rfl, rfl, rfl⟩] at z; exact z) (hv rfl) | skip
      all_goals try simp (disch := omega) only [gI_pI, gL_pL, gI_pL, gL_pI, qn, qe, not_true_eq_false, not_false_eq_true, true_and, and_true, false_and, and_false, and_self, Nat.add_right_cancel_iff, ↓reduceIte] at h4
      all_goals simp (disch := omega) only [gI_pI, gL_pL, gI_pL, gL_pI, qn, qe, not_true_eq_false, not_false_eq_true, true_and, and_true, false_and, and_false, and_self, Nat.add_right_cancel_iff, ↓reduceIte]
      all_goals first | assumption | exact y12 _ (by assumption) | exact y13 _ (by assumption) | exact y14 _ (by assumption) | exact y15 (by assumption) _ (by assumption) (by assumption)
    · rw [bv_ne e, bv_ne e]; exact hBB b hb
  all_goals simp (disch := omega) only [gI_pI, gL_pL, gI_pL, gL_pI, qn, qe, not_true_eq_false, not_false_eq_true, true_and, and_true, false_and, and_false, and_self, Nat.add_right_cancel_iff, ↓reduceIte]
  all_goals first | assumption | exact z7 _ (by assumption) | exact z8 _ (by assumption)
theorem RT.chg (h : RT n t L T Y) (hL : L.length ≤ 5) : ∃ ps' c', sX6_keepForUndo T.1 T.2.2.2.1 T.2.2.2.2.2.2.2.2.2.1 = some (ps', c') ∧ ∀ t' x' Y', RY n t' x' Y' → RT n t' [] (rtT T x' ps' c') Y' := by
  obtain ⟨ps', c', g1, ⟨u, q1, q2, q3, π, q4, q5, q6⟩, g3⟩ := c_keep h.2 hL h.1.okw
  exact ⟨ps', c', g1, fun t' x' Y' hR => ⟨hR, u, Nat.zero_le _, q2, q3, π, q4, q5, fun i y hi => by cases hi⟩⟩
theorem RT.nil (h : RT n t L T Y) : RT n t [] T Y := by
  obtain ⟨hR, u, q1, q2, q3, π, q4, q5, q6⟩ := h
  exact ⟨hR, u, Nat.zero_le _, q2, q3, π, q4, q5, fun i y hi => by cases hi⟩
theorem t_setTries (h : RT n t L T Y) (hL : L.length ≤ 5) {v : Nat} (h1 : 1 ≤ v) (h2 : v ≤ 9) : ∃ T', sT_X6_setTries T (nI v) = some (T', gI Y 0 0 2) ∧ RT n t [] T' (pI Y 0 0 2 (nI v)) := by
  obtain ⟨ps', c', g1, g2⟩ := h.chg hL
  have hR := h.1
  have z2 := hR.xy.1.2.2.1
  have hxy := hR.xy.tries (nI v)
  obtain ⟨⟨f, w, y⟩, i⟩ := id hR
  refine ⟨rtT T (pI T.1 0 0 3 (nI v)) ps' c', ?_, g2 t _ _ (RY.mk (r_tries w h2) hxy (i.fr fun o j i h1 h2 => by rw [gI_pI, if_neg (by omega)]))⟩
  have : sX6_setTries T.1 T.2.2.2.1 T.2.2.2.2.2.2.2.2.2.1 (nI v) = some (pI T.1 0 0 3 (nI v), ps', c', .inl (gI Y 0 0 2)) := by
    unfold sX6_setTries
    rw [z2]
    simp (disch := omega) only [zl, zm, nI_add, pk_mul, inb_t, ix_n, gd_tt, bd_e, nm_v, ite_not, ↓reduceIte, le_t, le_f, lt_t, lt_f, eq_t, eq_f, mone_f, mone_f2, g1]
  unfold sT_X6_setTries
  rw [this]
  rfl
theorem t_setEvery (h : RT n t L T Y) (hL : L.length ≤ 5) (hk : k < n) {v g : Nat} (hg : gI Y (k + 1) 0 1 = nI g) (hg2 : g < 99) (h1 : 2 ≤ v) (h2 : v ≤ 99) (h3 : g < v) : ∃ T', sT_X6_setEvery T (nI k) (nI v) = some (T', gI Y (k + 1) 0 0) ∧ RT n t [] T' (pI Y (k + 1) 0 0 (nI v)) := by
  obtain ⟨ps', c', g1, g2⟩ := h.chg hL
  have hR := h.1
  have hn := hR.n8
  have z0 := (hR.xy.2.2 k hk).1
  have z1 := (hR.xy.2.2 k hk).2.1
  have hxg : gI T.1 (k + 1) 0 2 = nI g := z1.symm.trans hg
  have hxy := hR.xy.put hk (nI v) (i := 0) (j := 1) (Or.inl ⟨rfl, rfl⟩) (fun z => absurd z (by omega))
  have ha := c_allowsP (b := nI v) hxg hg2
  have hin : inR (nI v) (nI 2) (nI 99) = true := by
    rcases rng (nI v) 2 99 (by omega) (by omega) with ⟨e1, e2⟩ | ⟨s, hs1, hs2, hs3, e1⟩
    · rcases e2 with e2 | e2
      · exact absurd e2 (nI_nlt (by omega) (by omega))
      · exact absurd e2 (nI_nlt (by omega) (by omega))
    · exact e1
  rw [hin, decide_eq_true (nI_lt h3 (by omega))] at ha
  obtain ⟨⟨f, w, y⟩, i⟩ := id hR
  refine ⟨rtT T (pI T.1 (k + 1) 0 1 (nI v)) ps' c', ?_, g2 t _ _ (RY.mk (r_period w hk h1 h2 (fun g' e1 e2 => by have := (nI_eq (by omega) e2).mp (hxg.symm.trans e1); omega)) hxy (i.fr fun o j i h1 h2 => by rw [gI_pI, if_neg (by omega)]))⟩
  have : sX6_setEvery T.1 T.2.2.2.1 T.2.2.2.2.2.2.2.2.2.1 (nI k) (nI v) = some (pI T.1 (k + 1) 0 1 (nI v), ps', c', .inl (gI Y (k + 1) 0 0)) := by
    unfold sX6_setEvery
    rw [z0]
    simp (disch := omega) only [zl, zm, nI_add, pk_mul, inb_t, ix_n, gd_tt, bd_e, nm_v, ite_not, ↓reduceIte, le_t, le_f, lt_t, lt_f, eq_t, eq_f, mone_f, mone_f2, c_reqT hR hk, sm_il, ha, Bool.and_self, Bool.toNat_true, g1]
  unfold sT_X6_setEvery
  rw [this]
  rfl
theorem t_setAt (h : RT n t L T Y) (hL : L.length ≤ 5) (hk : k < n) {v p : Nat} (hp : gI Y (k + 1) 0 0 = nI p) (hp2 : p ≤ 99) (h3 : v < p) : ∃ T', sT_X6_setAt T (nI k) (nI v) = some (T', gI Y (k + 1) 0 1) ∧ RT n t [] T' (pI Y (k + 1) 0 1 (nI v)) := by
  obtain ⟨ps', c', g1, g2⟩ := h.chg hL
  have hR := h.1
  have hn := hR.n8
  have z0 := (hR.xy.2.2 k hk).1
  have z1 := (hR.xy.2.2 k hk).2.1
  have hxp : gI T.1 (k + 1) 0 1 = nI p := z0.symm.trans hp
  have hxy := hR.xy.put hk (nI v) (i := 1) (j := 2) (Or.inr (Or.inl ⟨rfl, rfl⟩)) (fun z => absurd z (by omega))
  have ha := c_allowsF (b := nI v) hxp hp2
  rw [inb_t h3 (by omega)] at ha
  obtain ⟨⟨f, w, y⟩, i⟩ := id hR
  refine ⟨rtT T (pI T.1 (k + 1) 0 2 (nI v)) ps' c', ?_, g2 t _ _ (RY.mk (r_first w hk (fun g' e1 e2 => by have := (nI_eq (by omega) e2).mp (hxp.symm.trans e1); omega)) hxy (i.fr fun o j i h1 h2 => by rw [gI_pI, if_neg (by omega)]))⟩
  have : sX6_setAt T.1 T.2.2.2.1 T.2.2.2.2.2.2.2.2.2.1 (nI k) (nI v) = some (pI T.1 (k + 1) 0 2 (nI v), ps', c', .inl (gI Y (k + 1) 0 1)) := by
    unfold sX6_setAt
    rw [z1]
    simp (disch := omega) only [zl, zm, nI_add, pk_mul, inb_t, ix_n, gd_tt, bd_e, nm_v, ite_not, ↓reduceIte, le_t, le_f, lt_t, lt_f, eq_t, eq_f, mone_f, mone_f2, c_reqT hR hk, sm_il, ha, Bool.toNat_true, g1]
  unfold sT_X6_setAt
  rw [this]
  rfl
theorem t_wakeUp (h : RT n t L T Y) (hL : L.length ≤ 5) (hk : k < n) (h0 : gI Y (k + 1) 0 5 = nI 0) : ∃ T', sT_X6_wake T (nI k) = some (T', gI Y 0 0 0) ∧ RT n t [] T' (pI (pI (pI Y (k + 1) 0 5 (nI 1)) (k + 1) 0 6 (gI Y (k + 1) 0 2)) (k + 1) 0 11 (nI 0)) := by
  obtain ⟨ps', c', g1, g2⟩ := h.chg hL
  have hR := h.1
  have hn := hR.n8
  have z5 := (hR.xy.2.2 k hk).2.2.2.2.2.1
  have zt := hR.xy.1.1
  have hx0 : gI T.1 (k + 1) 0 6 = nI 0 := z5.symm.trans h0
  have zl2 := (hR.xy.2.2 k hk).2.2.1
  have hxy := ((hR.xy.put hk (nI 1) (i := 5) (j := 6) (by omega) (fun _ => by decide)).put hk (gI Y (k + 1) 0 2) (i := 6) (j := 7) (by omega) (fun z => absurd z (by omega))).put hk (nI 0) (i := 11) (j := 9) (by omega) (fun z => absurd z (by omega))
  obtain ⟨⟨f, w, y⟩, i⟩ := id hR
  obtain ⟨x', f', e1, e2, e3⟩ := l_listen (m := T.1) w hk (Or.inl rfl)
  have e1' : sX0_startListening (k + 1) T.1 = some (pI (pI (pI T.1 (k + 1) 0 6 (nI 1)) (k + 1) 0 7 (gI Y (k + 1) 0 2)) (k + 1) 0 9 (nI 0)) := by
    unfold sX0_startListening
    simp (disch := omega) only [nm_v, zl, gI_pI, gL_pL, gI_pL, gL_pI, qe, qn, not_true_eq_false, not_false_eq_true, true_and, and_true, false_and, and_false, and_self, Nat.add_right_cancel_iff, ↓reduceIte, zl2]
  obtain rfl := Option.some.inj (e1'.symm.trans e1)
  have hI : IV n t t (8 * t + 0) (pI (pI (pI Y (k + 1) 0 5 (nI 1)) (k + 1) 0 6 (gI Y (k + 1) 0 2)) (k + 1) 0 11 (nI 0)) := by
    refine i.step (dw := 0) (du := 0) hk (by omega) (fun o j i h1 h2 h3 => ?_) (by rw [h0]; decide) ?_ (fun z => ?_) ?_ ?_ ?_ ?_
    · repeat rw [gI_pI, if_neg (by omega)]
    · simp (disch := omega) only [gI_pI, gL_pL, gI_pL, gL_pI, qe, qn, not_true_eq_false, not_false_eq_true, true_and, and_true, false_and, and_false, and_self, Nat.add_right_cancel_iff, ↓reduceIte]; decide
    · simp (disch := omega) only [gI_pI, gL_pL, gI_pL, gL_pI, qe, qn, not_true_eq_false, not_false_eq_true, true_and, and_true, false_and, and_false, and_self, Nat.add_right_cancel_iff, ↓reduceIte] at z; exact absurd z (by decide)
    all_goals rw [add0]; repeat rw [gI_pI, if_neg (by omega)]
  refine ⟨rtT T _ ps' c', ?_, g2 t _ _ (RY.mk e3 hxy hI)⟩
  have : sX6_wake T.1 T.2.2.2.1 T.2.2.2.2.2.2.2.2.2.1 (nI k) = some (pI (pI (pI T.1 (k + 1) 0 6 (nI 1)) (k + 1) 0 7 (gI Y (k + 1) 0 2)) (k + 1) 0 9 (nI 0), ps', c', .inl (gI Y 0 0 0)) := by
    unfold sX6_wake
    rw [zt]
    simp (disch := omega) only [zl, zm, nI_add, pk_mul, inb_t, ix_n, gd_tt, bd_e, nm_v, ite_not, ↓reduceIte, le_t, le_f, lt_t, lt_f, eq_t, eq_f, mone_f, mone_f2, c_reqT hR hk, sm_il, hx0, g1, e1', gI_pI, gL_pL, gI_pL, gL_pI, qe, qn, not_true_eq_false, not_false_eq_true, true_and, and_true, false_and, and_false, and_self, Nat.add_right_cancel_iff]
  unfold sT_X6_wake
  rw [this]
  rfl
/-- charged -/
def chY (Y : St) (k E : Nat) : St := if gI Y (k + 1) 0 5 = nI 4 then pI (pI (pI Y (k + 1) 0 7 (nI 0)) (k + 1) 0 5 (nI 0)) (k + 1) 0 4 (nI E) else pI Y (k + 1) 0 4 (nI E)
theorem t_charge (h : RT n t L T Y) (hL : L.length ≤ 5) (hk : k < n) {v : Nat} (h1 : 1 ≤ v) (h2 : v ≤ 999) : ∃ T' en, en ≤ 9999 ∧ gI Y (k + 1) 0 4 = nI en ∧ sT_X6_charge T (nI k) (nI v) = some (T', nI (min 9999 (en + v))) ∧ RT n t [] T' (chY Y k (min 9999 (en + v))) := by
  obtain ⟨ps', c', g1, g2⟩ := h.chg hL
  have hR := h.1
  have hn := hR.n8
  have z4 := (hR.xy.2.2 k hk).2.2.2.2.1
  have z5 := (hR.xy.2.2 k hk).2.2.2.2.2.1
  obtain ⟨p, g, l, s, en, st, lf, fl, a, sk, q1, q2, q3, q4, q5, q6, q7, q8, q9, q10, q11, q12⟩ := hR.bk hk
  obtain ⟨⟨f, w, y⟩, i⟩ := id hR
  obtain ⟨hB, hC, W, U, hS, hW, hU, hwm⟩ := i
  obtain ⟨hB0, hB1, hB2, hB3⟩ := hB k hk
  obtain ⟨E, hE⟩ : ∃ E, min 9999 (en + v) = E := ⟨_, rfl⟩
  have hE1 : (if nI (en + v) < nI 9999 then nI (en + v) else nI 9999) = nI E := by
    by_cases hz : en + v < 9999
    · rw [if_pos (nI_lt hz (by omega)), show en + v = E by omega]
    · rw [if_neg (nI_nlt (by omega) (by omega)), show 9999 = E by omega]
  obtain ⟨x', f', v9, e1, e2, e3, e4, e5⟩ := s_charge (m := T.1) w hk h2
  have hE0 : ¬ nI E = nI 0 := fun z => by
    have := (nI_eq (by omega) (by omega)).mp z
    omega
  have hY : ∀ o j i, ¬ (o = k + 1 ∧ j = 0 ∧ (i = 4 ∨ i = 5 ∨ i = 7)) → gI (chY Y k E) o j i = gI Y o j i := fun o j i hh => by
    unfold chY
    by_cases h4 : gI Y (k + 1) 0 5 = nI 4
    · rw [if_pos h4]; repeat rw [gI_pI, if_neg (by omega)]
    · rw [if_neg h4]; repeat rw [gI_pI, if_neg (by omega)]
  have hY4 : gI (chY Y k E) (k + 1) 0 4 = nI E := by
    unfold chY
    by_cases h4 : gI Y (k + 1) 0 5 = nI 4
    · rw [if_pos h4, gI_pI, if_pos ⟨rfl, rfl, rfl⟩]
    · rw [if_neg h4, gI_pI, if_pos ⟨rfl, rfl, rfl⟩]
  have hY5 : gI (chY Y k E) (k + 1) 0 5 = if gI Y (k + 1) 0 5 = nI 4 then nI 0 else gI Y (k + 1) 0 5 := by
    unfold chY
    by_cases h4 : gI Y (k + 1) 0 5 = nI 4
    · rw [if_pos h4, if_pos h4]; simp (disch := omega) only [gI_pI, gL_pL, gI_pL, gL_pI, qe, qn, not_true_eq_false, not_false_eq_true, true_and, and_true, false_and, and_false, and_self, Nat.add_right_cancel_iff, ↓reduceIte]
    · rw [if_neg h4, if_neg h4]; simp (disch := omega) only [gI_pI, gL_pL, gI_pL, gL_pI, qe, qn, not_true_eq_false, not_false_eq_true, true_and, and_true, false_and, and_false, and_self, Nat.add_right_cancel_iff, ↓reduceIte]
  have hI : IV n t t (8 * t) (chY Y k E) := by
    have ec : gI (chY Y k E) 0 1 = gI Y 0 1 := funext fun i => hY _ _ _ (by omega)
    refine ⟨fun b hb => ?_, fun b hb o ho hob h0 => ?_, W, U, fun b hb => ?_, (hY _ _ _ (by omega)).trans hW, (hY _ _ _ (by omega)).trans hU, hwm⟩
    · rw [ec]
      by_cases e : b = k
      · subst e
        refine (hB b hb).cg (fun _ _ => rfl) (fun i hi => hY _ _ _ (by omega)) (hY _ _ _ (by omega)) ⟨fun z => absurd (hY4.symm.trans z) hE0, fun z => ?_⟩ (fun z => ?_) (fun o ho => ?_)
        · rw [hY5] at z
          by_cases h4 : gI Y (b + 1) 0 5 = nI 4
          · rw [if_pos h4] at z; exact absurd z (by decide)
          · rw [if_neg h4] at z; exact absurd z h4
        · rw [hY _ _ _ (by omega)]
          refine hB2 ?_
          by_cases h4 : gI Y (b + 1) 0 5 = nI 4
          · exact Or.inr h4
          · rw [hY5, if_neg h4] at z; exact z
        · rw [hY _ _ _ (by omega)]; exact hB3 o ho
      · have e9 : gI (chY Y k E) (b + 1) = gI Y (b + 1) := funext fun j => funext fun i => hY _ _ _ (by omega)
        rw [e9]; exact hB b hb
    · rw [hY _ _ _ (by omega)] at h0 ⊢
      exact hC b hb o ho hob h0
    · rw [hY _ _ _ (by omega), hY _ _ _ (by omega)]; exact hS b hb
  have hchg : sX6_isCharge (nI v) = some (nI 1) := by
    rw [c_isCharge]
    rcases rng (nI v) 1 999 (by omega) (by omega) with ⟨e1, e2⟩ | ⟨s, hs1, hs2, hs3, e1⟩
    · rcases e2 with e2 | e2
      · exact absurd e2 (nI_nlt (by omega) (by omega))
      · exact absurd e2 (nI_nlt (by omega) (by omega))
    · rw [e1]; rfl
  have fin : ∀ x9, sX0_takeEnergy (k + 1) T.1 (nI v) = some x9 → gI x9 (k + 1) 0 5 = nI E → XY n x9 (chY Y k E) → ∃ T', sT_X6_charge T (nI k) (nI v) = some (T', nI E) ∧ RT n t [] T' (chY Y k E) := fun x9 t1 t2 t3 => by
    obtain rfl := Option.some.inj (t1.symm.trans e1)
    refine ⟨rtT T x9 ps' c', ?_, g2 t _ _ (RY.mk e4 t3 hI)⟩
    have : sX6_charge T.1 T.2.2.2.1 T.2.2.2.2.2.2.2.2.2.1 (nI k) (nI v) = some (x9, ps', c', .inl (nI E)) := by
      unfold sX6_charge
      simp (disch := omega) only [zl, zm, nI_add, pk_mul, inb_t, ix_n, gd_tt, bd_e, nm_v, ite_not, ↓reduceIte, le_t, le_f, lt_t, lt_f, eq_t, eq_f, mone_f, mone_f2, c_reqT hR hk, sm_il, hchg, g1, t1, t2]
    unfold sT_X6_charge
    rw [this]
    rfl
  suffices hs : ∃ T', sT_X6_charge T (nI k) (nI v) = some (T', nI E) ∧ RT n t [] T' (chY Y k E) by
    obtain ⟨T', s1, s2⟩ := hs
    exact ⟨T', en, by omega, z4.trans q5, by rw [hE]; exact s1, by rw [hE]; exact s2⟩
  by_cases h4 : gI Y (k + 1) 0 5 = nI 4
  · have hx4 : gI T.1 (k + 1) 0 6 = nI 4 := z5.symm.trans h4
    refine fin (pI (pI (pI (pI T.1 (k + 1) 0 5 (nI E)) (k + 1) 0 6 (nI 0)) (k + 1) 0 7 (nI 0)) (k + 1) 0 8 (nI 0)) ?_ ?_ ?_
    · unfold sX0_takeEnergy sX0_fallAsleep
      simp only [zl]
      rw [q5, nI_add, hE1]
      simp (disch := omega) only [zl, zm, nI_add, pk_mul, inb_t, ix_n, gd_tt, bd_e, nm_v, ite_not, ↓reduceIte, le_t, le_f, lt_t, lt_f, eq_t, eq_f, mone_f, mone_f2, gI_pI, gL_pL, gI_pL, gL_pI, qe, qn, not_true_eq_false, not_false_eq_true, true_and, and_true, false_and, and_false, and_self, Nat.add_right_cancel_iff, hx4]
    · simp (disch := omega) only [gI_pI, gL_pL, gI_pL, gL_pI, qe, qn, not_true_eq_false, not_false_eq_true, true_and, and_true, false_and, and_false, and_self, Nat.add_right_cancel_iff, ↓reduceIte]
    · have h9 := (((hR.xy.put hk (nI E) (i := 4) (j := 5) (by omega) (fun z => absurd z (by omega))).put hk (nI 0) (i := 5) (j := 6) (by omega) (fun _ => by decide)).put hk (nI 0) (i := 6) (j := 7) (by omega) (fun z => absurd z (by omega))).put hk (nI 0) (i := 7) (j := 8) (by omega) (fun z => absurd z (by omega))
      refine h9.cgY (funext fun o => funext fun j => funext fun i => ?_)
      have h6 := hB2 (Or.inr h4)
      unfold chY
      rw [if_pos h4]
      simp only [gI_pI]
      by_cases c1 : o = k + 1 ∧ j = 0 ∧ i = 4
      · rw [if_pos c1, if_neg (by omega), if_neg (by omega), if_neg (by omega), if_pos c1]
      · rw [if_neg c1]
        by_cases c2 : o = k + 1 ∧ j = 0 ∧ i = 5
        · rw [if_pos c2, if_neg (by omega), if_neg (by omega), if_pos c2]
        · rw [if_neg c2]
          by_cases c3 : o = k + 1 ∧ j = 0 ∧ i = 7
          · rw [if_pos c3, if_pos c3]
          · rw [if_neg c3, if_neg c3]
            by_cases c4 : o = k + 1 ∧ j = 0 ∧ i = 6
            · rw [if_pos c4, c4.1, c4.2.1, c4.2.2]; exact h6
            · rw [if_neg c4, if_neg c2, if_neg c1]
  · have hx4 : ¬ gI T.1 (k + 1) 0 6 = nI 4 := fun z => h4 (z5.trans z)
    refine fin (pI T.1 (k + 1) 0 5 (nI E)) ?_ ?_ ?_
    · unfold sX0_takeEnergy
      simp only [zl]
      rw [q5, nI_add, hE1]
      simp (disch := omega) only [zl, zm, nI_add, pk_mul, inb_t, ix_n, gd_tt, bd_e, nm_v, ite_not, ↓reduceIte, le_t, le_f, lt_t, lt_f, eq_t, eq_f, mone_f, mone_f2, gI_pI, gL_pL, gI_pL, gL_pI, qe, qn, not_true_eq_false, not_false_eq_true, true_and, and_true, false_and, and_false, and_self, Nat.add_right_cancel_iff, hx4]
    · simp (disch := omega) only [gI_pI, gL_pL, gI_pL, gL_pI, qe, qn, not_true_eq_false, not_false_eq_true, true_and, and_true, false_and, and_false, and_self, Nat.add_right_cancel_iff, ↓reduceIte]
    · unfold chY
      rw [if_neg h4]
      exact hR.xy.put hk (nI E) (i := 4) (j := 5) (by omega) (fun z => absurd z (by omega))
end
