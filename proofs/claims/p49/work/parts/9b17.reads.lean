/-! stage B: what the class answers, said by the law's world -/
def RY (n t : Nat) (x Y : St) : Prop := (∃ f, WS n t x f ∧ FY n Y f) ∧ IV n t t (8 * t) Y
def hpV (N : Nat → Nat) (n j : Nat) : Nat → Nat → Nat → Int32
  | 0, _, _ => mone
  | d + 1, s, i => if s.testBit j = true then nI i else hpV N n j d (wnN N s n) (i + 1)
/-- what was reckoned -/
def rkV (v c : Nat → Int32) : Int32 := nI 0 + v 0 * c 0 + v 1 * c 1 + v 2 * c 2 + v 3 * c 3
section
variable {n t tb cm wl wm e k j b : Nat} {q : Bool} {x x' m Y Y' Z : St} {f f' : Nat → Int32} {T : TT}
theorem RY.n8 (h : RY n t x Y) : n ≤ 8 := by obtain ⟨⟨f, w, y⟩, i⟩ := h; exact w.n8
theorem RY.xy (h : RY n t x Y) : XY n x Y := by obtain ⟨⟨f, w, y⟩, i⟩ := h; exact y.to w
theorem RY.xn (h : RY n t x Y) : gI x 0 0 2 = nI n := by obtain ⟨⟨f, w, y⟩, i⟩ := h; exact w.xn
theorem RY.nb (h : RY n t x Y) (hb : b < n) : gI x (b + 1) 0 10 = nI (NB x b) ∧ NB x b < 256 := by obtain ⟨⟨f, w, y⟩, i⟩ := h; exact w.nb hb
theorem RY.wn (h : RY n t x Y) : WN n x := by obtain ⟨⟨f, w, y⟩, i⟩ := h; exact w.2.2
theorem RY.bk (h : RY n t x Y) (hb : b < n) : BK b 99 (gI x (b + 1)) := by obtain ⟨⟨f, w, y⟩, i⟩ := h; exact w.bk hb
theorem RY.xt (h : RY n t x Y) : gI x 0 0 5 = nI t ∧ t < 200000 := by obtain ⟨⟨f, w, y⟩, i⟩ := h; exact ⟨w.xt, w.tl⟩
theorem RY.yt (h : RY n t x Y) : gI Y 0 0 0 = nI t := h.xy.1.1.trans h.xt.1
theorem c_reqT (h : RY n t x Y) (hk : k < n) : sX6_requireBeacon x (nI k) = some (.inl ()) := by
  rw [c_req h.n8 h.xn, inb_t hk (by have := h.n8; omega), if_pos rfl]
theorem r_set (h : RY n t T.1 Y) : sT_X6_setting T (nI 0) = some (nI n) ∧ sT_X6_setting T (nI 2) = some (gI Y 0 0 0) ∧ sT_X6_setting T (nI 3) = some (gI Y 0 0 2) ∧ sT_X6_setting T (nI 4) = some (gI Y 0 0 3) ∧ sT_X6_setting T (nI 5) = some (gI Y 0 0 4) ∧ sT_X6_setting T (nI 6) = some (gI Y 0 0 5) ∧ sT_X6_setting T (nI 7) = some (gI Y 0 0 6) ∧ sT_X6_setting T (nI 9) = some (gI Y 0 0 1) := by
  obtain ⟨⟨z0, z1, z2, z3, z4, z5, z6, z7, z8⟩, -, -⟩ := h.xy
  have hxn := h.xn
  refine ⟨?_, ?_, ?_, ?_, ?_, ?_, ?_, ?_⟩
  all_goals unfold sT_X6_setting sX6_setting
  all_goals simp (disch := omega) only [zl, zm, nI_add, pk_mul, inb_t, ix_n, gd_tt, bd_e, nm_v, ite_not, ↓reduceIte, le_t, le_f, lt_t, lt_f, eq_t, eq_f, mone_f, mone_f2, hxn, z0, z1, z2, z3, z4, z5, z6]
theorem r_set1 (h : RY n t T.1 Y) : sT_X6_setting T (nI 1) = some (nI (smN (fun k => pcN (NB T.1 k) n) n) / nI 2) := by
  have hn := h.n8
  have hcp := c_pairs hn h.xn (fun k hk => h.nb hk)
  have e : smN (fun k => pcN (NB T.1 k) 8) n = smN (fun k => pcN (NB T.1 k) n) n := smN_cg fun k hk => by
    have hl : NB T.1 k < 2 ^ n := lt8_of_bits fun i hi => by
      cases hb : (NB T.1 k).testBit i
      · rfl
      · have := (h.wn k hk i hb).1; omega
    have := pcN_more hl (8 - n)
    rw [show n + (8 - n) = 8 by omega] at this
    exact this
  rw [e] at hcp
  unfold sT_X6_setting sX6_setting
  simp (disch := omega) only [zl, zm, nI_add, pk_mul, inb_t, ix_n, gd_tt, bd_e, nm_v, ite_not, ↓reduceIte, le_t, le_f, lt_t, lt_f, eq_t, eq_f, mone_f, mone_f2, hcp]
theorem r_set8 (h : RY n t T.1 Y) : sT_X6_setting T (nI 8) = some (nI (smN (fun k => (decide (gI Y (k + 1) 0 5 = nI 4)).toNat) n)) := by
  have hn := h.n8
  have hco := c_out hn h.xn
  have e : smN (fun k => (decide (gI T.1 (k + 1) 0 6 = nI 4)).toNat) n = smN (fun k => (decide (gI Y (k + 1) 0 5 = nI 4)).toNat) n := smN_cg fun k hk => by
    rw [(h.xy.2.2 k hk).2.2.2.2.2.1]
  rw [e] at hco
  unfold sT_X6_setting sX6_setting
  simp (disch := omega) only [zl, zm, nI_add, pk_mul, inb_t, ix_n, gd_tt, bd_e, nm_v, ite_not, ↓reduceIte, le_t, le_f, lt_t, lt_f, eq_t, eq_f, mone_f, mone_f2, hco]
theorem r_bea (h : RY n t T.1 Y) (hk : k < n) : (∀ i, i < 8 → sT_X6_beacon T (nI k) (nI i) = some (gI Y (k + 1) 0 i)) ∧ sT_X6_beacon T (nI k) (nI 9) = some (nI (NB T.1 k)) ∧ sT_X6_beacon T (nI k) (nI 10) = some (nI (mkS (knP T.1 (k + 1)) n)) ∧ sT_X6_beacon T (nI k) (nI 11) = some (gI Y (k + 1) 0 8) ∧ sT_X6_beacon T (nI k) (nI 12) = some (gI Y (k + 1) 0 9) ∧ sT_X6_beacon T (nI k) (nI 13) = some (gI Y (k + 1) 0 10) := by
  have hn := h.n8
  have hr := c_reqT h hk
  obtain ⟨y0, y1, y2, y3, y4, y5, y6, y7, y8, y9, y10, y11, y12, y13, y14, y15⟩ := h.xy.2.2 k hk
  refine ⟨fun i hi => ?_, ?_, ?_, ?_, ?_, ?_⟩
  · rcases (by omega : i = 0 ∨ i = 1 ∨ i = 2 ∨ i = 3 ∨ i = 4 ∨ i = 5 ∨ i = 6 ∨ i = 7) with rfl | rfl | rfl | rfl | rfl | rfl | rfl | rfl
    all_goals unfold sT_X6_beacon sX6_beacon
    all_goals simp (disch := omega) only [zl, zm, nI_add, pk_mul, inb_t, ix_n, gd_tt, bd_e, nm_v, ite_not, ↓reduceIte, le_t, le_f, lt_t, lt_f, eq_t, eq_f, mone_f, mone_f2, hr, sm_il, y0, y1, y2, y3, y4, y5, y6, y7]
  all_goals unfold sT_X6_beacon sX6_beacon
  all_goals simp (disch := omega) only [zl, zm, nI_add, pk_mul, inb_t, ix_n, gd_tt, bd_e, nm_v, ite_not, ↓reduceIte, le_t, le_f, lt_t, lt_f, eq_t, eq_f, mone_f, mone_f2, hr, sm_il, (h.nb hk).1, c_known hn h.xn, y8, y9, y10]
theorem r_bea8 (h : RY n t T.1 Y) (hk : k < n) : ∃ sk : Bool, gI Y (k + 1) 0 11 = nI sk.toNat ∧ sT_X6_beacon T (nI k) (nI 8) = some (nI sk.toNat) := by
  have hn := h.n8
  have hr := c_reqT h hk
  obtain ⟨y0, y1, y2, y3, y4, y5, y6, y7, y8, y9, y10, y11, y12, y13, y14, y15⟩ := h.xy.2.2 k hk
  obtain ⟨p, g, l, s, en, st, lf, fl, a, sk, h1, h2, h3, h4, h5, h6, h7, h8, h9, h10, h11, h12⟩ := h.bk hk
  refine ⟨sk, y11.trans h9, ?_⟩
  unfold sT_X6_beacon sX6_beacon
  cases sk
  · simp (disch := omega) only [zl, zm, nI_add, pk_mul, inb_t, ix_n, gd_tt, bd_e, nm_v, ite_not, ↓reduceIte, le_t, le_f, lt_t, lt_f, eq_t, eq_f, mone_f, mone_f2, hr, sm_il, h9, Bool.toNat_false]
  · simp (disch := omega) only [zl, zm, nI_add, pk_mul, inb_t, ix_n, gd_tt, bd_e, nm_v, ite_not, ↓reduceIte, le_t, le_f, lt_t, lt_f, eq_t, eq_f, mone_f, mone_f2, hr, sm_il, h9, Bool.toNat_true]
theorem r_slo (h : RY n t T.1 Y) (hk : k < n) {i : Nat} (hi : i < 4) : sT_X6_slots T (nI k) (nI i) = some (gI Y (k + 1) 1 i) := by
  have hn := h.n8
  have hr := c_reqT h hk
  have := (h.xy.2.2 k hk).2.2.2.2.2.2.2.2.2.2.2.2.1 i hi
  unfold sT_X6_slots sX6_slots
  simp (disch := omega) only [zl, zm, nI_add, pk_mul, inb_t, ix_n, gd_tt, bd_e, nm_v, ite_not, ↓reduceIte, le_t, le_f, lt_t, lt_f, eq_t, eq_f, mone_f, mone_f2, hr, sm_il, this]
theorem r_rec (h : RY n t T.1 Y) (hk : k < n) : sT_X6_reckoned T (nI k) = some (rkV (gI Y (k + 1) 1) (gI Y 0 1)) := by
  have hn := h.n8
  have hr := c_reqT h hk
  have e1 := fun i hi => (h.xy.2.2 k hk).2.2.2.2.2.2.2.2.2.2.2.2.1 i hi
  have e2 := fun i hi => h.xy.1.2.2.2.2.2.2.2.1 i hi
  have hl : ∀ F, sX6_reckoned_b9 (F + 1 + 1 + 1 + 1 + 1) T.1 (nI k) (nI 0) (nI 0) = some (.inl (rkV (gI Y (k + 1) 1) (gI Y 0 1))) := fun F => by
    unfold rkV
    rw [e1 0 (by omega), e1 1 (by omega), e1 2 (by omega), e1 3 (by omega), e2 0 (by omega), e2 1 (by omega), e2 2 (by omega), e2 3 (by omega)]
    simp only [sX6_reckoned_b9]
    simp (disch := omega) only [zl, zm, nI_add, pk_mul, inb_t, ix_n, gd_tt, bd_e, nm_v, ite_not, ↓reduceIte, le_t, le_f, lt_t, lt_f, eq_t, eq_f, mone_f, mone_f2]
  obtain ⟨F, hF⟩ : ∃ F, FU = F + 1 + 1 + 1 + 1 + 1 := ⟨FU - 5, by have : FU = 1000000 := rfl; omega⟩
  unfold sT_X6_reckoned sX6_reckoned
  rw [hr, hF]
  simp (disch := omega) only [bd_e, sm_il, zl, hl]
theorem r_hea (h : RY n t T.1 Y) (hk : k < n) (hj : j < n) : sT_X6_heard T (nI k) (nI j) = some (gI Y (k + 1) 2 j) := by
  have hn := h.n8
  have hr := c_reqT h hk
  have hr2 := c_reqT h hj
  have := (h.xy.2.2 k hk).2.2.2.2.2.2.2.2.2.2.2.2.2.1 j hj
  unfold sT_X6_heard sX6_heard
  simp (disch := omega) only [zl, zm, nI_add, pk_mul, inb_t, ix_n, gd_tt, bd_e, nm_v, ite_not, ↓reduceIte, le_t, le_f, lt_t, lt_f, eq_t, eq_f, mone_f, mone_f2, hr, hr2, sm_il, this]
theorem r_why (h : RY n t T.1 Y) (hk : k < n) (hj : j < n) : sT_X6_whyNot T (nI k) (nI j) = some (gI Y (k + 1) 4 j) := by
  have hn := h.n8
  have hr := c_reqT h hk
  have hr2 := c_reqT h hj
  have := (h.xy.2.2 k hk).2.2.2.2.2.2.2.2.2.2.2.2.2.2.1 j hj
  unfold sT_X6_whyNot sX6_whyNot
  rw [this]
  by_cases e : j = k
  · subst e
    simp (disch := omega) only [zl, zm, nI_add, pk_mul, inb_t, ix_n, gd_tt, bd_e, nm_v, ite_not, ↓reduceIte, le_t, le_f, lt_t, lt_f, eq_t, eq_f, mone_f, mone_f2, hr, sm_il]
  · simp (disch := omega) only [zl, zm, nI_add, pk_mul, inb_t, ix_n, gd_tt, bd_e, nm_v, ite_not, ↓reduceIte, le_t, le_f, lt_t, lt_f, eq_t, eq_f, mone_f, mone_f2, hr, hr2, sm_il, e]
theorem r_kno (h : RY n t T.1 Y) (hk : k < n) (hj : j < n) : sT_X6_knows T (nI k) (nI j) = some (nI (knP T.1 (k + 1) j).toNat) := by
  have hn := h.n8
  have hr := c_reqT h hk
  have hr2 := c_reqT h hj
  have h1 := mkS_bit (knP T.1 (k + 1)) n j
  rw [decide_eq_true hj, Bool.true_and] at h1
  have h2 := c_isIn (a := mkS (knP T.1 (k + 1)) n) (k := j) (by have := mkS_lt8 (knP T.1 (k + 1)) hn; omega) (by omega)
  rw [h1] at h2
  unfold sT_X6_knows sX6_knows
  simp (disch := omega) only [zl, zm, nI_add, pk_mul, inb_t, ix_n, gd_tt, bd_e, nm_v, ite_not, ↓reduceIte, le_t, le_f, lt_t, lt_f, eq_t, eq_f, mone_f, mone_f2, hr, hr2, sm_il, c_known hn h.xn, h2, isb_z]
theorem r_due (h : RY n t T.1 Y) (hk : k < n) : ∃ p g d, gI Y (k + 1) 0 0 = nI p ∧ gI Y (k + 1) 0 1 = nI g ∧ 2 ≤ p ∧ p ≤ 99 ∧ g < p ∧ dueP t g p d ∧ sT_X6_dueIn T (nI k) = some (nI d) := by
  have hn := h.n8
  have hr := c_reqT h hk
  obtain ⟨y0, y1, y2, y3, y4, y5, y6, y7, y8, y9, y10, y11, y12, y13, y14, y15⟩ := h.xy.2.2 k hk
  obtain ⟨p, g, l, s, en, st, lf, fl, a, sk, h1, h2, h3, h4, h5, h6, h7, h8, h9, h10, h11, h12⟩ := h.bk hk
  obtain ⟨d, hd⟩ := due_ex (t := t) (f := g) (p := p) (by omega) (by omega) (by omega)
  have hu := c_until h1 h2 (by omega) (by omega) (by omega) (by have := h.xt.2; omega) hd
  refine ⟨p, g, d, y0.trans h1, y1.trans h2, by omega, by omega, by omega, hd, ?_⟩
  unfold sT_X6_dueIn sX6_dueIn
  simp (disch := omega) only [zl, zm, nI_add, pk_mul, inb_t, ix_n, gd_tt, bd_e, nm_v, ite_not, ↓reduceIte, le_t, le_f, lt_t, lt_f, eq_t, eq_f, mone_f, mone_f2, hr, sm_il, h.xt.1, hu]
theorem r_win (h : RY n t T.1 Y) (hk : k < n) : ∃ fl, fl ≤ 8 ∧ gI Y (k + 1) 0 7 = nI fl ∧ sT_X6_window T (nI k) = some (nI (min 32 (2 * 2 ^ fl))) := by
  have hn := h.n8
  have hr := c_reqT h hk
  obtain ⟨y0, y1, y2, y3, y4, y5, y6, y7, y8, y9, y10, y11, y12, y13, y14, y15⟩ := h.xy.2.2 k hk
  obtain ⟨p, g, l, s, en, st, lf, fl, a, sk, h1, h2, h3, h4, h5, h6, h7, h8, h9, h10, h11, h12⟩ := h.bk hk
  have hw := c_win' (x := T.1) (o := k + 1) (k := fl) (by omega) h8
  refine ⟨fl, by omega, y7.trans h8, ?_⟩
  unfold sT_X6_window sX6_window
  simp (disch := omega) only [zl, zm, nI_add, pk_mul, inb_t, ix_n, gd_tt, bd_e, nm_v, ite_not, ↓reduceIte, le_t, le_f, lt_t, lt_f, eq_t, eq_f, mone_f, mone_f2, hr, sm_il, hw]
theorem r_hop (h : RY n t T.1 Y) (hk : k < n) (hj : j < n) : sT_X6_hops T (nI k) (nI j) = some (hpV (NB T.1) n j 8 (2 ^ k) 0) := by
  have hn := h.n8
  have hr := c_reqT h hk
  have hr2 := c_reqT h hj
  have key : ∀ (d i F s : Nat), i + d = 8 → d < F → s < 256 → sX6_hops_b17 F T.1 (nI j) (nI s) (nI i) = some (.inl (hpV (NB T.1) n j d s i)) := by
    intro d
    induction d with
    | zero =>
      intro i F s hi hF hs
      obtain ⟨F, rfl⟩ : ∃ G, F = G + 1 := ⟨F - 1, by omega⟩
      simp only [sX6_hops_b17]
      simp (disch := omega) only [zl, zm, nI_add, pk_mul, inb_t, ix_n, gd_tt, bd_e, nm_v, ite_not, ↓reduceIte, le_t, le_f, lt_t, lt_f, eq_t, eq_f, mone_f, mone_f2]
      rfl
    | succ d ih =>
      intro i F s hi hF hs
      obtain ⟨F, rfl⟩ : ∃ G, F = G + 1 := ⟨F - 1, by omega⟩
      simp only [sX6_hops_b17, hpV]
      rw [c_isIn (by omega) (by omega)]
      cases hb : s.testBit j
      · simp (disch := omega) only [zl, zm, nI_add, pk_mul, inb_t, ix_n, gd_tt, bd_e, nm_v, ite_not, ↓reduceIte, le_t, le_f, lt_t, lt_f, eq_t, eq_f, mone_f, mone_f2, Bool.toNat_false, c_withNear hn h.xn (fun k hk => h.nb hk) hs, reduceCtorEq]
        exact ih (i + 1) F _ (by omega) (by omega) (wnN_lt hs fun k hk => (h.nb hk).2)
      · simp (disch := omega) only [zl, zm, nI_add, pk_mul, inb_t, ix_n, gd_tt, bd_e, nm_v, ite_not, ↓reduceIte, le_t, le_f, lt_t, lt_f, eq_t, eq_f, mone_f, mone_f2, Bool.toNat_true]
  have h2k : 2 ^ k < 256 := Nat.pow_lt_pow_right (a := 2) (n := 8) (by decide) (by omega)
  unfold sT_X6_hops sX6_hops
  simp (disch := omega) only [zl, zm, nI_add, pk_mul, inb_t, ix_n, gd_tt, bd_e, nm_v, ite_not, ↓reduceIte, le_t, le_f, lt_t, lt_f, eq_t, eq_f, mone_f, mone_f2, hr, hr2, sm_il, sh1, key 8 0 FU (2 ^ k) rfl (FU_lt (by omega)) h2k]
end
