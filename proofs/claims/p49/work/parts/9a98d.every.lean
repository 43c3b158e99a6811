/-! stage B: the best period -/
/-- the greatest of those in a range with the most -/
def isBest (W : Nat → Nat) (lo hi p : Nat) : Prop := lo ≤ p ∧ p ≤ hi ∧ ∀ q, lo ≤ q → q ≤ hi → W q ≤ W p ∧ (p < q → W q < W p)
theorem isBest.un {W : Nat → Nat} {lo hi p q : Nat} (h : isBest W lo hi p) (h2 : isBest W lo hi q) : p = q := by
  obtain ⟨a1, a2, a3⟩ := h
  obtain ⟨b1, b2, b3⟩ := h2
  rcases Nat.lt_trichotomy p q with h3 | h3 | h3
  · have := (a3 q b1 b2).2 h3; have := (b3 p a1 a2).1; omega
  · exact h3
  · have := (b3 p a1 a2).2 h3; have := (a3 q b1 b2).1; omega
section
variable {n t wl : Nat} {x x1 m c : St} {f g : Nat → Int32}
def wlW (x : St) (k p : Nat) : Nat := match sX5_pass (pI x (k + 1) 0 1 (nI p)) (nI 100) with
  | some y => ix (gI y 0 0 7)
  | none => 0
theorem WS.low {w0 : Nat} (h : WS n t x f) (hw : gI x 0 0 7 = nI w0) (hw2 : w0 < 2 ^ 31) : WT n t w0 x f := by
  obtain ⟨⟨c, w', tr, sn, w1, w2, w3, w4, w5, w6, w7⟩, j4, j5⟩ := h
  have h12 := w7.2.2.2.2.2.1
  have e : w' = w0 := (nI_eq (by omega) hw2).mp (h12.symm.trans hw)
  exact ⟨⟨c, w', tr, sn, w1, w2, w3, w4, ⟨by omega, w5.2⟩, w6, w7⟩, j4, j5⟩
/-- a try of another period: what comes of it, seen from the class and from the model -/
theorem t_period {k v w0 : Nat} (h : WS n t x f) (ht : t ≤ 99999) (hk : k < n) (hv : 2 ≤ v) (hv2 : v ≤ 99) (hg0 : ∀ g, gI x (k + 1) 0 2 = nI g → g < 2 ^ 31 → g < v) (hw : gI x 0 0 7 = nI w0) (hw2 : w0 < 2 ^ 29) :
    w0 ≤ wlW x k v ∧ wlW x k v < 2 ^ 29 ∧ (∀ x1, ∃ q y, sX5_copyFrom x x1 = some q ∧ sX5_pass (pI q (k + 1) 0 1 (nI v)) (nI 100) = some y ∧ gI y 0 0 7 = nI (wlW x k v)) ∧
    ∀ (m : St) (g : Nat → Int32), (∀ i, i < 365 → g i = f i) → ∃ m2 g2, sX7_byPeriod (sr m g) (nI k) (nI v) = some (sr m2 g2, nI (wlW x k v) - nI w0) ∧ (∀ i, i < 365 → g2 i = f i) ∧ (∀ j k, ¬ j = 5 → ¬ j = 2 → gI m2 0 j k = gI m 0 j k) ∧ ∀ j k, gL m2 0 j k = gL m 0 j k := by
  have hn := h.n8
  have hT := h.low hw (by omega)
  have hr := r_period hT hk hv hv2 hg0
  -- the class by itself
  obtain ⟨y0, f0, p1, p2, p3⟩ := s_pass (m := x) (s := 100) hr (by omega)
  obtain ⟨c, w, c1, c2, c3, c4, c5, c6, c7, c8, c9⟩ := p3.cw
  have hW : wlW x k v = w := by
    unfold wlW
    rw [p1]
    show ix (gI y0 0 0 7) = w
    rw [c7, ix_n (by omega)]
  rw [hW]
  refine ⟨c2, by omega, fun x1 => ?_, fun m g hg => ?_⟩
  · obtain ⟨q, e1, e2, e3⟩ := s_copy hT x1
    have hq := r_period e3 hk hv hv2 (fun g hg hg2 => hg0 g (by rw [← hg]; exact ((e2.2.2 k hk).1 0 2 (Or.inl ⟨rfl, by omega, by omega⟩)).symm) hg2)
    obtain ⟨y, f', e4, e5, e6⟩ := s_pass (m := x) (s := 100) hq (by omega)
    have e7 := (e5 0).symm.trans (p2 0)
    have e8 : sr x f' = sr x f0 := congrArg Prod.fst (Option.some.inj e7)
    have e9 : f' 4 = f0 4 := by
      have := congrArg (fun z => gI z 0 2 4) e8
      simp only [sr_row] at this
      exact this
    refine ⟨q, y, e1, e4, ?_⟩
    obtain ⟨_, w', _, _, _, _, _, _, k7, _, k9⟩ := e6.cw
    rw [k7, ← k9, e9, c9]
  · obtain ⟨m2, l1, l2, l3, l4⟩ := m_leave m g
    have hr2 : WT n t w0 (pI x (k + 1) 0 1 (nI v)) (upd g (21 + 43 * k + 0) (nI v)) := hr.fcg fun i hi => by
      rw [upd_e, upd_e]
      split
      · rfl
      · exact hg i hi
    obtain ⟨y, f', e4, e5, e6⟩ := s_pass (m := m2) (s := 100) hr2 (by omega)
    have e7 : y = y0 := Option.some.inj (e4.symm.trans p1)
    have e9 : f' 4 = nI w := by
      obtain ⟨_, w', _, _, _, _, _, _, k7, _, k9⟩ := e6.cw
      rw [k9, ← k7, e7, c7]
    have e10 : upd g (21 + 43 * k + 0) (nI v) 4 = nI w0 := by
      obtain ⟨_, w', _, _, _, _, _, _, k7, _, k9⟩ := h.cw
      rw [upd_e, if_neg (by omega), hg 4 (by omega), k9, ← k7, hw]
    obtain ⟨g2, b1, b2⟩ := m_back l2 f' (nI w - nI w0)
    refine ⟨m2, g2, ?_, fun i hi => (b2 i hi).trans (hg i hi), l3, l4⟩
    unfold sX7_byPeriod
    simp (disch := omega) only [zl, zm, nI_add, pk_mul, inb_t, ix_n, gd_tt, bd_e, nm_v, ite_not, ↓reduceIte, le_t, le_f, lt_t, lt_f, eq_t, eq_f, mone_f, mone_f2, sm_il, sm_ir, Bool.toNat_true, Bool.toNat_false, Bool.and_true, Bool.and_false, Bool.true_and, Bool.false_and, Bool.not_true, Bool.not_false, Bool.false_eq_true, Bool.true_eq_false, sr_row, sr_L, l1, m_sets, m_runs, e10, e5, e9, b1]
theorem q_bestEvery (h : WS n t x f) (ht : t ≤ 99999) (a : Int32) : QA P3 (sX6_bestEvery x x1 a) (sX7_bestEvery (sr m f) a) (sr m f) := by
  have hn := h.n8
  unfold sX6_bestEvery sX7_bestEvery
  rw [c_req hn h.xn, m_isBeacon hn h.fn]
  simp only [bd_e]
  rw [m_goesR]
  rcases in_case a n with ha | ⟨k, hk, rfl⟩
  · rw [ha]
    exact QA.no (e := 3) (code := 1) x1 (nI 0) (by decide)
  · rw [inb_t hk (by omega)]
    obtain ⟨p, g0, hp, hg0, hp2, hp3, hgp⟩ := h.pg hk
    obtain ⟨⟨d0, d00⟩, d1, d2, _⟩ := h.bd hk
    obtain ⟨_, w0, _, _, z3, _, z5, _, hw0, _, hw4⟩ := h.cw
    obtain ⟨lo, hlo⟩ : ∃ lo, max 2 (g0 + 1) = lo := ⟨_, rfl⟩
    have hlo2 : 2 ≤ lo ∧ lo ≤ 99 ∧ g0 < lo := by omega
    have hgu : ∀ v, lo ≤ v → ∀ g', gI x (k + 1) 0 2 = nI g' → g' < 2 ^ 31 → g' < v := fun v hv g' h1 h2 => by
      have := (nI_eq (by omega) h2).mp (hg0.symm.trans h1); omega
    have hT : ∀ v, lo ≤ v → v ≤ 99 → _ := fun v h1 h2 => t_period (k := k) (v := v) (w0 := w0) h ht hk (by omega) h2 (hgu v h1) hw0 (by omega)
    -- the class, downwards
    have kc : ∀ (d v F : Nat) (x1 : St) (b : Nat), v + 1 = lo + d → v < 99 → d < F → isBest (wlW x k) (v + 1) 99 b → ∃ x1' r, isBest (wlW x k) lo 99 r ∧ sX6_bestEvery_b33 F x x1 (nI k) (nI lo) (nI b) (nI (wlW x k b)) (nI v) = some (x1', .inl (nI r)) := by
      intro d
      induction d with
      | zero =>
        intro v F x1 b hv h99 hF hb
        obtain ⟨F, rfl⟩ : ∃ z, F = z + 1 := ⟨F - 1, by omega⟩
        rw [show v + 1 = lo by omega] at hb
        refine ⟨x1, b, hb, ?_⟩
        simp only [sX6_bestEvery_b33]
        simp (disch := omega) only [zl, zm, nI_add, pk_mul, inb_t, ix_n, gd_tt, bd_e, nm_v, ite_not, ↓reduceIte, le_t, le_f, lt_t, lt_f, eq_t, eq_f, mone_f, mone_f2, sm_il, sm_ir, Bool.toNat_true, Bool.toNat_false, Bool.and_true, Bool.and_false, Bool.true_and, Bool.false_and, Bool.not_true, Bool.not_false, Bool.false_eq_true, Bool.true_eq_false, sr_row, sr_L]
      | succ d ih =>
        intro v F x1 b hv h99 hF hb
        obtain ⟨F, rfl⟩ : ∃ z, F = z + 1 := ⟨F - 1, by omega⟩
        obtain ⟨v, rfl⟩ : ∃ z, v = z + 1 := ⟨v - 1, by omega⟩
        obtain ⟨t1, t2, t3, t4⟩ := hT (v + 1) (by omega) (by omega)
        obtain ⟨_, t2', _⟩ := hT b (by have := hb.1; omega) hb.2.1
        obtain ⟨q, y, c1, c2, c3⟩ := t3 x1
        have hb99 := hb.2.1
        by_cases hw : wlW x k b < wlW x k (v + 1)
        · have hnew : isBest (wlW x k) (v + 1) 99 (v + 1) := ⟨by omega, by omega, fun q h1 h2 => by
            rcases Nat.lt_or_ge (v + 1) q with h3 | h3
            · have := (hb.2.2 q (by omega) h2).1; exact ⟨by omega, fun _ => by omega⟩
            · obtain rfl : q = v + 1 := by omega
              exact ⟨Nat.le_refl _, fun z => absurd z (by omega)⟩⟩
          obtain ⟨x1', r, r1, r2⟩ := ih v F y (v + 1) (by omega) (by omega) (by omega) hnew
          refine ⟨x1', r, r1, ?_⟩
          simp only [sX6_bestEvery_b33, sX6_bestEvery_b90]
          simp (disch := omega) only [zl, zm, nI_add, pk_mul, inb_t, ix_n, gd_tt, bd_e, nm_v, ite_not, ↓reduceIte, le_t, le_f, lt_t, lt_f, eq_t, eq_f, mone_f, mone_f2, sm_il, sm_ir, Bool.toNat_true, Bool.toNat_false, Bool.and_true, Bool.and_false, Bool.true_and, Bool.false_and, Bool.not_true, Bool.not_false, Bool.false_eq_true, Bool.true_eq_false, sr_row, sr_L, c1, c2, c3, show nI (v + 1) + mone = nI v from pk_m1 v, r2]
        · have hnew : isBest (wlW x k) (v + 1) 99 b := ⟨by have := hb.1; omega, hb99, fun q h1 h2 => by
            rcases Nat.lt_or_ge (v + 1) q with h3 | h3
            · exact hb.2.2 q (by omega) h2
            · obtain rfl : q = v + 1 := by omega
              exact ⟨by omega, fun z => absurd z (by have := hb.1; omega)⟩⟩
          obtain ⟨x1', r, r1, r2⟩ := ih v F y b (by omega) (by omega) (by omega) hnew
          refine ⟨x1', r, r1, ?_⟩
          simp only [sX6_bestEvery_b33, sX6_bestEvery_b90]
          simp (disch := omega) only [zl, zm, nI_add, pk_mul, inb_t, ix_n, gd_tt, bd_e, nm_v, ite_not, ↓reduceIte, le_t, le_f, lt_t, lt_f, eq_t, eq_f, mone_f, mone_f2, sm_il, sm_ir, Bool.toNat_true, Bool.toNat_false, Bool.and_true, Bool.and_false, Bool.true_and, Bool.false_and, Bool.not_true, Bool.not_false, Bool.false_eq_true, Bool.true_eq_false, sr_row, sr_L, c1, c2, c3, show nI (v + 1) + mone = nI v from pk_m1 v, r2]
    -- the model, upwards
    have km : ∀ (d v G : Nat) (m2 : St) (g : Nat → Int32) (b : Nat), v + d = 100 → lo < v → d < G → (∀ i, i < 365 → g i = f i) → (∀ j k, ¬ j = 5 → ¬ j = 2 → gI m2 0 j k = gI (pI m 0 0 0 (nI 0)) 0 j k) → (∀ j k, gL m2 0 j k = gL (pI m 0 0 0 (nI 0)) 0 j k) → isBest (wlW x k) lo (v - 1) b → ∃ m3 g3 r, isBest (wlW x k) lo 99 r ∧ sX7_bestEvery_b32 G (sr m2 g) (nI k) (nI b) (nI (wlW x k b) - nI w0) (nI v) = some (sr m3 g3, nI r) ∧ (∀ i, i < 365 → g3 i = f i) ∧ (∀ j k, ¬ j = 5 → ¬ j = 2 → gI m3 0 j k = gI (pI m 0 0 0 (nI 0)) 0 j k) ∧ ∀ j k, gL m3 0 j k = gL (pI m 0 0 0 (nI 0)) 0 j k := by
      intro d
      induction d with
      | zero =>
        intro v G m2 g b hv hl hG hg h1 h2 hb
        obtain ⟨G, rfl⟩ : ∃ z, G = z + 1 := ⟨G - 1, by omega⟩
        obtain rfl : v = 100 := by omega
        refine ⟨m2, g, b, hb, ?_, hg, h1, h2⟩
        simp only [sX7_bestEvery_b32]
        simp (disch := omega) only [zl, zm, nI_add, pk_mul, inb_t, ix_n, gd_tt, bd_e, nm_v, ite_not, ↓reduceIte, le_t, le_f, lt_t, lt_f, eq_t, eq_f, mone_f, mone_f2, sm_il, sm_ir, Bool.toNat_true, Bool.toNat_false, Bool.and_true, Bool.and_false, Bool.true_and, Bool.false_and, Bool.not_true, Bool.not_false, Bool.false_eq_true, Bool.true_eq_false, sr_row, sr_L]
      | succ d ih =>
        intro v G m2 g b hv hl hG hg h1 h2 hb
        obtain ⟨G, rfl⟩ : ∃ z, G = z + 1 := ⟨G - 1, by omega⟩
        obtain ⟨t1, t2, t3, t4⟩ := hT v (by omega) (by omega)
        obtain ⟨_, t2', _⟩ := hT b hb.1 (by have := hb.2.1; omega)
        obtain ⟨m3, g3, u1, u2, u3, u4⟩ := t4 m2 g hg
        have hbv := hb.2.1
        by_cases hw : wlW x k b ≤ wlW x k v
        · have hnew : isBest (wlW x k) lo (v + 1 - 1) v := ⟨by omega, by omega, fun q q1 q2 => by
            rcases Nat.lt_or_ge q v with h3 | h3
            · have := (hb.2.2 q q1 (by omega)).1; exact ⟨by omega, fun z => absurd z (by omega)⟩
            · obtain rfl : q = v := by omega
              exact ⟨Nat.le_refl _, fun z => absurd z (by omega)⟩⟩
          obtain ⟨m4, g4, r, r1, r2, r3⟩ := ih (v + 1) G m3 g3 v (by omega) (by omega) (by omega) u2 (fun j k a b => (u3 j k a b).trans (h1 j k a b)) (fun j k => (u4 j k).trans (h2 j k)) hnew
          refine ⟨m4, g4, r, r1, ?_, r3⟩
          simp only [sX7_bestEvery_b32]
          simp (disch := omega) only [zl, zm, nI_add, pk_mul, inb_t, ix_n, gd_tt, bd_e, nm_v, ite_not, ↓reduceIte, le_t, le_f, lt_t, lt_f, eq_t, eq_f, mone_f, mone_f2, sm_il, sm_ir, Bool.toNat_true, Bool.toNat_false, Bool.and_true, Bool.and_false, Bool.true_and, Bool.false_and, Bool.not_true, Bool.not_false, Bool.false_eq_true, Bool.true_eq_false, sr_row, sr_L, u1, d_le, hw, r2]
        · have hnew : isBest (wlW x k) lo (v + 1 - 1) b := ⟨hb.1, by omega, fun q q1 q2 => by
            rcases Nat.lt_or_ge q v with h3 | h3
            · exact hb.2.2 q q1 (by omega)
            · obtain rfl : q = v := by omega
              exact ⟨by omega, fun z => by omega⟩⟩
          obtain ⟨m4, g4, r, r1, r2, r3⟩ := ih (v + 1) G m3 g3 b (by omega) (by omega) (by omega) u2 (fun j k a b => (u3 j k a b).trans (h1 j k a b)) (fun j k => (u4 j k).trans (h2 j k)) hnew
          refine ⟨m4, g4, r, r1, ?_, r3⟩
          simp only [sX7_bestEvery_b32]
          simp (disch := omega) only [zl, zm, nI_add, pk_mul, inb_t, ix_n, gd_tt, bd_e, nm_v, ite_not, ↓reduceIte, le_t, le_f, lt_t, lt_f, eq_t, eq_f, mone_f, mone_f2, sm_il, sm_ir, Bool.toNat_true, Bool.toNat_false, Bool.and_true, Bool.and_false, Bool.true_and, Bool.false_and, Bool.not_true, Bool.not_false, Bool.false_eq_true, Bool.true_eq_false, sr_row, sr_L, u1, d_le, hw, r2]
    -- the first of each
    obtain ⟨F, hF⟩ : ∃ F, FU = F + 1 := ⟨999999, rfl⟩
    have hF2 : 200 < F := by have : FU = 1000000 := rfl; omega
    obtain ⟨t1, t2, t3, _⟩ := hT 99 (by omega) (by omega)
    obtain ⟨q, y, c1, c2, c3⟩ := t3 x1
    obtain ⟨x1', r, r1, r2⟩ := kc (99 - lo) 98 F y 99 (by omega) (by omega) (by omega) ⟨by omega, by omega, fun q h1 h2 => by
      obtain rfl : q = 99 := by omega
      exact ⟨Nat.le_refl _, fun z => absurd z (by omega)⟩⟩
    obtain ⟨s1, s2, _, s4⟩ := hT lo (by omega) (by omega)
    obtain ⟨m3, g3, u1, u2, u3, u4⟩ := s4 (pI m 0 0 0 (nI 0)) f (fun _ _ => rfl)
    obtain ⟨m4, g4, r', v1, v2, v3, v4, v5⟩ := km (99 - lo) (lo + 1) F m3 g3 lo (by omega) (by omega) (by omega) u2 u3 u4 ⟨by omega, by omega, fun q h1 h2 => by
      obtain rfl : q = lo := by omega
      exact ⟨Nat.le_refl _, fun z => absurd z (by omega)⟩⟩
    obtain rfl := r1.un v1
    refine ⟨x1', .inl (nI r), 0, nI r, sr m4 g4, ?_, ?_, ?_, FQ.tried v4 v5 v3, Or.inl ⟨rfl, rfl⟩⟩
    · have hif : (if nI 2 < nI (g0 + 1) then nI (g0 + 1) else nI 2) = nI lo := by
        by_cases hz : 2 < g0 + 1
        · rw [if_pos (nI_lt hz (by omega)), show g0 + 1 = lo by omega]
        · rw [if_neg (nI_nlt (by omega) (by omega)), show lo = 2 by omega]
      simp (disch := omega) only [zl, ↓reduceIte, sm_il, inb_t, gd_tt, ix_n, hg0, nI_add, nm_v]
      rw [hif, hF]
      simp only [sX6_bestEvery_b33, sX6_bestEvery_b90]
      simp (disch := omega) only [zl, zm, nI_add, pk_mul, inb_t, ix_n, gd_tt, bd_e, nm_v, ite_not, ↓reduceIte, le_t, le_f, lt_t, lt_f, eq_t, eq_f, mone_f, mone_f2, sm_il, sm_ir, Bool.toNat_true, Bool.toNat_false, Bool.and_true, Bool.and_false, Bool.true_and, Bool.false_and, Bool.not_true, Bool.not_false, Bool.false_eq_true, Bool.true_eq_false, sr_row, sr_L, c1, c2, c3, show nI 99 + mone = nI 98 from pk_m1 98, r2]
    · have hgr : sX7_greater (nI 2) (nI (g0 + 1)) = some (nI lo) := by
        unfold sX7_greater
        by_cases hz : 2 ≤ g0 + 1
        · rw [if_pos (nI_le hz (by omega)), show g0 + 1 = lo by omega]
        · rw [if_neg (nI_ge (by omega) (by omega)), show lo = 2 by omega]
      have hge : mone ≤ nI (wlW x k lo) - nI w0 := by
        rw [zs s1, Int32.le_iff_toInt_le, nI_toInt (by omega)]
        have : mone.toInt = -1 := by decide
        omega
      simp (disch := omega) only [zl, zm, nI_add, pk_mul, inb_t, ix_n, gd_tt, bd_e, nm_v, ite_not, ↓reduceIte, le_t, le_f, lt_t, lt_f, eq_t, eq_f, mone_f, mone_f2, sm_il, sm_ir, Bool.toNat_true, Bool.toNat_false, Bool.and_true, Bool.and_false, Bool.true_and, Bool.false_and, Bool.not_true, Bool.not_false, Bool.false_eq_true, Bool.true_eq_false, sr_row, sr_L, m_of, d2, hg0, hgr]
      rw [hF]
      simp only [sX7_bestEvery_b32]
      simp (disch := omega) only [zl, zm, nI_add, pk_mul, inb_t, ix_n, gd_tt, bd_e, nm_v, ite_not, ↓reduceIte, le_t, le_f, lt_t, lt_f, eq_t, eq_f, mone_f, mone_f2, sm_il, sm_ir, Bool.toNat_true, Bool.toNat_false, Bool.and_true, Bool.and_false, Bool.true_and, Bool.false_and, Bool.not_true, Bool.not_false, Bool.false_eq_true, Bool.true_eq_false, sr_row, sr_L, u1, hge, v2]
    · rw [sr_0, v4 0 0 (by omega) (by omega), gI_pI, if_pos ⟨rfl, rfl, rfl⟩]
end
