/-! stage B: behind each change all holds -/
section
variable {n t tb cm wl wm e k j b : Nat} {q : Bool} {x x' m Y Y' Z : St} {f f' : Nat → Int32} {T : TT} {a1 a2 a3 : Int32}
theorem knP_self (h : RY n t T.1 Y) (hk : k < n) : knP T.1 (k + 1) k = false := by
  obtain ⟨p, g, l, s, en, st, lf, fl, a, sk, h1, h2, h3, h4, h5, h6, h7, h8, h9, h10, h11, h12⟩ := h.bk hk
  unfold knP
  rw [h11, decide_eq_true rfl]; rfl
theorem knP_Y (h : RY n t T.1 Y) (hk : k < n) (hj : j < n) : knP T.1 (k + 1) j = (!(decide (gI Y (k + 1) 2 j = mone)) && !(decide (gI Y 0 0 3 < gI Y 0 0 0 - gI Y (k + 1) 2 j))) := by
  obtain ⟨⟨z0, z1, z2, z3, z4, z5, z6, z7, z8⟩, -, hBB⟩ := h.xy
  have := (hBB k hk).2.2.2.2.2.2.2.2.2.2.2.2.2.1 j hj
  unfold knP
  rw [this, z3, z0]
theorem h_pair {k9 : TT → Int32 → Int32 → Int32 → Int32 → Option Int32} (h : RY n t T.1 Y) (hk : k < n) : sL_holds_b310 FU k9 T a1 a2 a3 (nI k) (nI 0) = k9 T a1 a2 a3 (nI (k + 1)) := by
  have hn := h.n8
  have hrs := r_set h
  have hyt := h.yt
  have htl := h.xt.2
  refine fuel_up n (fun F p => sL_holds_b310 F k9 T a1 a2 a3 (nI k) (nI p)) _ (fun F => ?_) (fun F p hp => ?_) n 0 FU (by omega) (FU_lt (by omega))
  · simp only [sL_holds_b310]
    simp (disch := omega) only [zl, zm, nI_add, pk_mul, inb_t, ix_n, gd_tt, bd_e, nm_v, ite_not, ↓reduceIte, le_t, le_f, lt_t, lt_f, eq_t, eq_f, mone_f, mone_f2, hrs.1]
  · have hHT := (h.2.1 k hk).2.2.2
    have hkn := knP_Y h hk hp
    have e374 : ∀ B : Bool, knP T.1 (k + 1) p = B → ∀ F, sL_holds_b374 k9 (fun T' a1' a2' a3' a4' a7' => sL_holds_b310 F k9 T' a1' a2' a3' a4' a7') T a1 a2 a3 (nI k) (nI p) (nI B.toNat) (nI (knP T.1 (k + 1) p).toNat) = sL_holds_b310 F k9 T a1 a2 a3 (nI k) (nI (p + 1)) := by
      intro B hB F
      have hs : (NB T.1 k).testBit p = (NB T.1 p).testBit k := by
        obtain ⟨⟨f, w, y⟩, i⟩ := h; exact w.sym hk hp
      have hhop := hp_sym (N := NB T.1) (n := n) (k := k) (j := p) (fun a ha b hb => (h.wn a ha b hb).1) (fun a b ha hb => by obtain ⟨⟨f, w, y⟩, i⟩ := h; exact w.sym ha hb) hk hp
      have hb1 := n_bit (a := NB T.1 k) (k := p) (by have := (h.nb hk).2; omega) (by omega)
      have hb2 := n_bit (a := NB T.1 p) (k := k) (by have := (h.nb hp).2; omega) (by omega)
      unfold sL_holds_b374
      simp only [zl]
      rw [hB, if_pos rfl, r_hop h hk hp, r_hop h hp hk, hhop, (r_bea h hk).2.1, (r_bea h hp).2.1]
      simp (disch := omega) only [zl, zm, nI_add, pk_mul, inb_t, ix_n, gd_tt, bd_e, nm_v, ite_not, ↓reduceIte, le_t, le_f, lt_t, lt_f, eq_t, eq_f, mone_f, mone_f2, not_true_eq_false, hb1, hb2, hs]
      by_cases e : k = p
      · subst e
        simp (disch := omega) only [zl, zm, nI_add, pk_mul, inb_t, ix_n, gd_tt, bd_e, nm_v, ite_not, ↓reduceIte, le_t, le_f, lt_t, lt_f, eq_t, eq_f, mone_f, mone_f2]
      · rw [r_why h hk hp, r_hea h hp hk]
        by_cases h0 : gI Y (k + 1) 4 p = nI 0
        · have h1 := h.2.2.1 k hk p hp (fun z => e z.symm) h0
          have h2 : nI 0 ≤ gI Y (p + 1) 2 k := by
            rcases (h.2.1 p hp).2.2.2 k hk with g | ⟨a, g1, g2⟩
            · exact absurd g h1
            · rw [g2]; exact nI_le (Nat.zero_le _) (by omega)
          simp (disch := omega) only [zl, zm, nI_add, pk_mul, inb_t, ix_n, gd_tt, bd_e, nm_v, ite_not, ↓reduceIte, le_t, le_f, lt_t, lt_f, eq_t, eq_f, mone_f, mone_f2, e, h0, not_true_eq_false]
          rw [if_pos h2]
        · simp (disch := omega) only [zl, zm, nI_add, pk_mul, inb_t, ix_n, gd_tt, bd_e, nm_v, ite_not, ↓reduceIte, le_t, le_f, lt_t, lt_f, eq_t, eq_f, mone_f, mone_f2, e, h0, not_false_eq_true]
    simp only [sL_holds_b310]
    simp only [zl]
    rw [hrs.1, r_hea h hk hp, hrs.2.1, r_kno h hk hp, hrs.2.2.2.1]
    simp (disch := omega) only [zl, zm, nI_add, pk_mul, inb_t, ix_n, gd_tt, bd_e, nm_v, ite_not, ↓reduceIte, le_t, le_f, lt_t, lt_f, eq_t, eq_f, mone_f, mone_f2, hyt]
    rcases hHT p hp with g | ⟨a, g1, g2⟩
    · have hc : ¬ nI t < mone := by
        rw [Int32.lt_iff_toInt_lt, nI_toInt (by omega)]
        have : mone.toInt = -1 := by decide
        omega
      have hm : mone < nI 0 := by decide
      rw [g, decide_eq_true rfl] at hkn
      have h9 := e374 false (by rw [hkn]; rfl) F
      rw [g, if_neg hc, if_pos hm]
      exact h9
    · rw [hyt, g2, decide_eq_false (nt_mone (by omega : a < 2 ^ 31))] at hkn
      rw [g2]
      simp (disch := omega) only [lt_f, ↓reduceIte]
      rw [zs g1] at hkn ⊢
      by_cases h3 : gI Y 0 0 3 < nI (t - a)
      · rw [decide_eq_true h3] at hkn
        rw [if_pos h3]
        exact e374 false (by rw [hkn]; rfl) F
      · rw [decide_eq_false h3] at hkn
        rw [if_neg h3]
        exact e374 true (by rw [hkn]; rfl) F
theorem h_rest {k9 : TT → Int32 → Int32 → Int32 → Int32 → Option Int32} (h : RY n t T.1 Y) (hk : k < n) : sL_holds_b211 k9 T a1 a2 a3 (nI k) = k9 T a1 a2 a3 (nI (k + 1)) := by
  have hn := h.n8
  have hrb := r_bea h hk
  obtain ⟨y0, y1, y2, y3, y4, y5, y6, y7, y8, y9, y10, y11, y12, y13, y14, y15⟩ := h.xy.2.2 k hk
  obtain ⟨p, g, l, s, en, st, lf, fl, a, sk, h1, h2, h3, h4, h5, h6, h7, h8, h9, h10, h11, h12⟩ := h.bk hk
  obtain ⟨p9, g9, d, -, -, -, -, -, hd, hdue⟩ := r_due h hk
  have hl := (h.2.1 k hk).2.2.1
  have b5 := hrb.1 5 (by omega)
  have b6 := hrb.1 6 (by omega)
  have b7 := hrb.1 7 (by omega)
  rw [y5, h6] at b5 hl
  rw [y6, h7] at b6 hl
  rw [y7, h8] at b7
  have e257 : ∀ B : Bool, sL_holds_b257 k9 T a1 a2 a3 (nI k) (nI B.toNat) (nI B.toNat) = k9 T a1 a2 a3 (nI (k + 1)) := by
    intro B
    have hd1 := hd.1
    have hd2 := hd.2.1
    unfold sL_holds_b257
    simp only [zl]
    rw [b7, hdue, r_kno h hk hk, knP_self h hk, r_hop h hk hk, hp_self hk]
    simp (disch := omega) only [zl, zm, nI_add, pk_mul, inb_t, ix_n, gd_tt, bd_e, nm_v, ite_not, ↓reduceIte, le_t, le_f, lt_t, lt_f, eq_t, eq_f, mone_f, mone_f2, not_true_eq_false, Bool.toNat_false]
    exact h_pair h hk
  have e237 : ∀ B : Bool, (B = true ↔ lf = 0) → sL_holds_b237 k9 T a1 a2 a3 (nI k) (nI B.toNat) = k9 T a1 a2 a3 (nI (k + 1)) := by
    intro B hB
    unfold sL_holds_b237
    simp only [zl]
    rw [b6]
    cases B
    · have h0 : ¬ lf = 0 := fun z => by have := hB.mpr z; cases this
      simp (disch := omega) only [zl, zm, nI_add, pk_mul, inb_t, ix_n, gd_tt, bd_e, nm_v, ite_not, ↓reduceIte, le_t, le_f, lt_t, lt_f, eq_t, eq_f, mone_f, mone_f2]
      exact e257 false
    · have h0 := hB.mp rfl
      subst h0
      simp (disch := omega) only [zl, zm, nI_add, pk_mul, inb_t, ix_n, gd_tt, bd_e, nm_v, ite_not, ↓reduceIte, le_t, le_f, lt_t, lt_f, eq_t, eq_f, mone_f, mone_f2]
      exact e257 true
  unfold sL_holds_b211
  simp only [zl]
  rw [b5]
  by_cases h0 : st = 0
  · subst h0
    have := (nI_eq (by omega) (by omega)).mp (hl (Or.inl rfl))
    simp (disch := omega) only [zl, zm, nI_add, pk_mul, inb_t, ix_n, gd_tt, bd_e, nm_v, ite_not, ↓reduceIte, le_t, le_f, lt_t, lt_f, eq_t, eq_f, mone_f, mone_f2]
    exact e237 true ⟨fun _ => this, fun _ => rfl⟩
  · by_cases h4' : st = 4
    · subst h4'
      have := (nI_eq (by omega) (by omega)).mp (hl (Or.inr rfl))
      simp (disch := omega) only [zl, zm, nI_add, pk_mul, inb_t, ix_n, gd_tt, bd_e, nm_v, ite_not, ↓reduceIte, le_t, le_f, lt_t, lt_f, eq_t, eq_f, mone_f, mone_f2, not_true_eq_false]
      exact e237 true ⟨fun _ => this, fun _ => rfl⟩
    · simp (disch := omega) only [zl, zm, nI_add, pk_mul, inb_t, ix_n, gd_tt, bd_e, nm_v, ite_not, ↓reduceIte, le_t, le_f, lt_t, lt_f, eq_t, eq_f, mone_f, mone_f2, not_false_eq_true]
      exact e237 false ⟨fun z => (by cases z), fun z => by omega⟩
theorem rk_nat {v c : Nat → Int32} {s0 s1 s2 s3 : Nat} (h : v 0 = nI s0 ∧ v 1 = nI s1 ∧ v 2 = nI s2 ∧ v 3 = nI s3) (hc : ∀ i, i < 4 → ∃ z, z ≤ 99 ∧ c i = nI z) : rkV v c = nI (s0 * ix (c 0) + s1 * ix (c 1) + s2 * ix (c 2) + s3 * ix (c 3)) ∧ s0 * ix (c 0) + s1 * ix (c 1) + s2 * ix (c 2) + s3 * ix (c 3) ≤ 99 * (s0 + s1 + s2 + s3) := by
  obtain ⟨z0, g0, e0⟩ := hc 0 (by omega)
  obtain ⟨z1, g1, e1⟩ := hc 1 (by omega)
  obtain ⟨z2, g2, e2⟩ := hc 2 (by omega)
  obtain ⟨z3, g3, e3⟩ := hc 3 (by omega)
  have m0 : s0 * z0 ≤ s0 * 99 := Nat.mul_le_mul_left _ g0
  have m1 : s1 * z1 ≤ s1 * 99 := Nat.mul_le_mul_left _ g1
  have m2 : s2 * z2 ≤ s2 * 99 := Nat.mul_le_mul_left _ g2
  have m3 : s3 * z3 ≤ s3 * 99 := Nat.mul_le_mul_left _ g3
  unfold rkV
  rw [e0, e1, e2, e3, h.1, h.2.1, h.2.2.1, h.2.2.2, ix_n (by omega), ix_n (by omega), ix_n (by omega), ix_n (by omega)]
  refine ⟨?_, by omega⟩
  simp only [pk_mul, nI_add, Nat.zero_add]
theorem h_one {k9 : TT → Int32 → Int32 → Int32 → Int32 → Option Int32} (h : RY n t T.1 Y) (hk : k < n) : sL_holds_b66 FU k9 T a1 a2 a3 (nI k) (nI 0) (nI 0) = k9 T a1 a2 a3 (nI (k + 1)) := by
  have hn := h.n8
  have hrb := r_bea h hk
  have hrs := r_set h
  obtain ⟨y0, y1, y2, y3, y4, y5, y6, y7, y8, y9, y10, y11, y12, y13, y14, y15⟩ := h.xy.2.2 k hk
  obtain ⟨p, g, l, s, en, st, lf, fl, a, sk, h1, h2, h3, h4, h5, h6, h7, h8, h9, h10, h11, h12⟩ := h.bk hk
  obtain ⟨⟨s0, s1, s2, s3, L, hs, hL, hst, hLR⟩, hen, -, -⟩ := h.2.1 k hk
  have hc : ∀ i, i < 4 → ∃ z, z ≤ 99 ∧ gI Y 0 1 i = nI z := fun i hi => by
    obtain ⟨⟨f, w, y⟩, -⟩ := h
    obtain ⟨c9, w9, tr, sn, w1, w2, w3, w4, w5, w6, w7, w8, v9, w10, w11, w12, w13, w14, w15, _⟩ := w.1
    obtain ⟨z, q1, q2⟩ := w15 i hi
    exact ⟨z, q1, ((y.to w).1.2.2.2.2.2.2.2.1 i hi).trans q2⟩
  obtain ⟨hrk, hrk2⟩ := rk_nat hs hc
  have hrr := r_rec h hk
  rw [hrk] at hrr
  have htl := h.xt.2
  have hyt := h.yt
  have b4 := hrb.1 4 (by omega)
  have b5 := hrb.1 5 (by omega)
  have b13 := hrb.2.2.2.2.2
  rw [y4, h5, y5, h6, nI_eq (by omega) (by omega), nI_eq (by omega) (by omega)] at hen
  rw [y4, h5] at b4
  rw [y5, h6] at b5
  rw [hL] at b13
  have hr211 := h_rest (a1 := a1) (a2 := a2) (a3 := a3) (k9 := k9) h hk
  generalize s0 * ix (gI Y 0 1 0) + s1 * ix (gI Y 0 1 1) + s2 * ix (gI Y 0 1 2) + s3 * ix (gI Y 0 1 3) = R at hrr hrk2 hLR
  have e159 : ∀ B : Bool, (B = true ↔ st = 4) → sL_holds_b159 k9 T a1 a2 a3 (nI k) (nI B.toNat) (nI B.toNat) = k9 T a1 a2 a3 (nI (k + 1)) := by
    intro B hB
    unfold sL_holds_b159
    simp only [zl]
    rw [b5, b13, hrr]
    by_cases h4' : st = 4
    · subst h4'
      simp (disch := omega) only [zl, zm, nI_add, pk_mul, inb_t, ix_n, gd_tt, bd_e, nm_v, ite_not, ↓reduceIte, le_t, le_f, lt_t, lt_f, eq_t, eq_f, mone_f, mone_f2]
      exact hr211
    · by_cases hLe : L = R
      · subst hLe
        simp (disch := omega) only [zl, zm, nI_add, pk_mul, inb_t, ix_n, gd_tt, bd_e, nm_v, ite_not, ↓reduceIte, le_t, le_f, lt_t, lt_f, eq_t, eq_f, mone_f, mone_f2]
        exact hr211
      · simp (disch := omega) only [zl, zm, nI_add, pk_mul, inb_t, ix_n, gd_tt, bd_e, nm_v, ite_not, ↓reduceIte, le_t, le_f, lt_t, lt_f, eq_t, eq_f, mone_f, mone_f2]
        exact hr211
  have e143 : ∀ B : Bool, (B = true ↔ st = 4) → sL_holds_b143 k9 T a1 a2 a3 (nI k) (nI B.toNat) = k9 T a1 a2 a3 (nI (k + 1)) := by
    intro B hB
    unfold sL_holds_b143
    simp only [zl]
    rw [b5]
    by_cases h4' : st = 4
    · have hb := hB.mpr h4'
      subst hb
      subst h4'
      simp (disch := omega) only [zl, zm, nI_add, pk_mul, inb_t, ix_n, gd_tt, bd_e, nm_v, ite_not, ↓reduceIte, le_t, le_f, lt_t, lt_f, eq_t, eq_f, mone_f, mone_f2, not_true_eq_false]
      exact e159 true hB
    · have hb : B = false := by
        cases B
        · rfl
        · exact absurd (hB.mp rfl) h4'
      subst hb
      simp (disch := omega) only [zl, zm, nI_add, pk_mul, inb_t, ix_n, gd_tt, bd_e, nm_v, ite_not, ↓reduceIte, le_t, le_f, lt_t, lt_f, eq_t, eq_f, mone_f, mone_f2, not_false_eq_true]
      exact e159 false hB
  have hend : ∀ F, sL_holds_b66 (F + 1) k9 T a1 a2 a3 (nI k) (nI (s0 + s1 + s2 + s3)) (nI 4) = k9 T a1 a2 a3 (nI (k + 1)) := by
    intro F
    simp only [sL_holds_b66]
    simp only [zl]
    rw [hrs.2.1, b13, hrr, b4, hyt]
    by_cases h0 : en = 0
    · simp (disch := omega) only [zl, zm, nI_add, pk_mul, inb_t, ix_n, gd_tt, bd_e, nm_v, ite_not, ↓reduceIte, le_t, le_f, lt_t, lt_f, eq_t, eq_f, mone_f, mone_f2, not_true_eq_false]
      exact e143 true ⟨fun _ => hen.mp h0, fun _ => rfl⟩
    · simp (disch := omega) only [zl, zm, nI_add, pk_mul, inb_t, ix_n, gd_tt, bd_e, nm_v, ite_not, ↓reduceIte, le_t, le_f, lt_t, lt_f, eq_t, eq_f, mone_f, mone_f2, not_false_eq_true]
      exact e143 false ⟨fun z => (by cases z), fun z => absurd (hen.mpr z) h0⟩
  have hl : ∀ F, sL_holds_b66 (F + 1 + 1 + 1 + 1 + 1) k9 T a1 a2 a3 (nI k) (nI 0) (nI 0) = k9 T a1 a2 a3 (nI (k + 1)) := by
    intro F
    rw [← hend F]
    have q0 := r_slo h hk (i := 0) (by omega)
    have q1 := r_slo h hk (i := 1) (by omega)
    have q2 := r_slo h hk (i := 2) (by omega)
    have q3 := r_slo h hk (i := 3) (by omega)
    rw [hs.1] at q0
    rw [hs.2.1] at q1
    rw [hs.2.2.1] at q2
    rw [hs.2.2.2] at q3
    have st : ∀ F i acc v, i < 4 → sT_X6_slots T (nI k) (nI i) = some (nI v) → sL_holds_b66 (F + 1) k9 T a1 a2 a3 (nI k) (nI acc) (nI i) = sL_holds_b66 F k9 T a1 a2 a3 (nI k) (nI (acc + v)) (nI (i + 1)) := by
      intro F i acc v hi hq
      simp only [sL_holds_b66]
      simp (disch := omega) only [zl, zm, nI_add, pk_mul, inb_t, ix_n, gd_tt, bd_e, nm_v, ite_not, ↓reduceIte, le_t, le_f, lt_t, lt_f, eq_t, eq_f, mone_f, mone_f2, hq]
    rw [st _ 0 0 _ (by omega) q0, st _ 1 _ _ (by omega) q1, st _ 2 _ _ (by omega) q2, st _ 3 _ _ (by omega) q3, Nat.zero_add]
  obtain ⟨F, hF⟩ : ∃ F, FU = F + 1 + 1 + 1 + 1 + 1 := ⟨FU - 5, by have : FU = 1000000 := rfl; omega⟩
  rw [hF]
  exact hl F
theorem h_holds (h : RY n t T.1 Y) : sL_holds T = some (nI 1) := by
  have hn := h.n8
  have hrs := r_set h
  obtain ⟨W, U, hS, hW, hU, -⟩ := h.2.2.2
  refine fuel_up n (fun F k => sL_holds_b9 F T (nI (smN W k)) (nI (smN U k)) (nI (smN (fun k => (decide (gI Y (k + 1) 0 5 = nI 4)).toNat) k)) (nI k)) _ (fun F => ?_) (fun F k hk => ?_) n 0 FU (by omega) (FU_lt (by omega))
  · simp only [sL_holds_b9]
    simp only [zl]
    rw [hrs.1, hrs.2.2.2.2.1, hrs.2.2.2.2.2.1, r_set8 h, hW, hU]
    simp (disch := omega) only [zl, zm, nI_add, pk_mul, inb_t, ix_n, gd_tt, bd_e, nm_v, ite_not, ↓reduceIte, le_t, le_f, lt_t, lt_f, eq_t, eq_f, mone_f, mone_f2, not_true_eq_false]
  · have hrb := r_bea h hk
    have b5 := hrb.1 5 (by omega)
    obtain ⟨e1, e2⟩ := hS k hk
    have g1 : smN W (k + 1) = smN W k + W k := rfl
    have g2 : smN U (k + 1) = smN U k + U k := rfl
    have g3 : smN (fun k => (decide (gI Y (k + 1) 0 5 = nI 4)).toNat) (k + 1) = smN (fun k => (decide (gI Y (k + 1) 0 5 = nI 4)).toNat) k + (decide (gI Y (k + 1) 0 5 = nI 4)).toNat := rfl
    simp only [sL_holds_b9]
    simp only [zl]
    rw [hrs.1, hrb.2.2.2.1, hrb.2.2.2.2.1, b5, e1, e2, g1, g2, g3]
    by_cases h4 : gI Y (k + 1) 0 5 = nI 4
    · rw [decide_eq_true h4]
      simp (disch := omega) only [zl, zm, nI_add, pk_mul, inb_t, ix_n, gd_tt, bd_e, nm_v, ite_not, ↓reduceIte, le_t, le_f, lt_t, lt_f, eq_t, eq_f, mone_f, mone_f2, h4, not_true_eq_false, Bool.toNat_true, h_one h hk]
    · rw [decide_eq_false h4]
      simp (disch := omega) only [zl, zm, nI_add, pk_mul, inb_t, ix_n, gd_tt, bd_e, nm_v, ite_not, ↓reduceIte, le_t, le_f, lt_t, lt_f, eq_t, eq_f, mone_f, mone_f2, h4, not_false_eq_true, Bool.toNat_false, h_one h hk]
end
