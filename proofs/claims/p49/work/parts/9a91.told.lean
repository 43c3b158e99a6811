/-! stage B: a whole slot, in step -/
section
variable {m x x' : St} {f f' g : Nat → Int32} {n S b k o t cm wl wm e : Nat} {q : Bool}
theorem r_tell (h : WR n t cm wl wm true e x f) (hk : k < n) (h3 : gI x (k + 1) 0 6 = nI 3) : ∃ a, f (21 + 43 * k + 9) = nI a ∧ a < 256 ∧ (∀ g, TO n k (a &&& (2 ^ n - 1)) t n (eF f k n) g → WR n t cm wl wm true e (xT x k n) g) ∧ (hB x k n = true ↔ ¬ a &&& (2 ^ n - 1) = 0) := by
  have hn := h.n8
  have hxt := h.xt
  obtain ⟨⟨a, s1, s2, s3, s4⟩, s5⟩ := (h.2.1 k hk).2.2 h3
  have s5 := s5 rfl
  have hE : ∀ o, o < n → ((a &&& (2 ^ n - 1)).testBit o = true ↔ gI x (k + 1) 3 o = nI 0) := fun o ho => by
    rw [ears_bit, decide_eq_true ho, Bool.true_and]
    by_cases hok : o = k
    · subst hok
      exact ⟨fun z => (by rw [s3] at z; cases z), fun z => absurd z s5⟩
    · exact (s4 o ho hok).2
  refine ⟨a, s1, s2, fun g hg => ?_, ?_⟩
  · have hx : ∀ o j i, ¬ j = 4 → ¬ j = 2 → gI (xT x k n) o j i = gI x o j i := fun o j i h4 h2 => xT_o h4 h2
    have gf : ∀ i, (∀ o, o < n → ¬ i = 21 + 43 * o + (19 + k)) → ¬ (21 + 43 * k + 35 ≤ i ∧ i < 21 + 43 * k + (35 + n)) → g i = f i := fun i h1 h2 => by
      rw [hg.1 i h1, eF_o h2]
    refine ⟨?_, fun b hb => ?_, fun b hb o ho => ?_⟩
    · obtain ⟨c, w, tr, sn, w1, w2, w3, w4, w5, w6, w7, w8, w9, w10, w11, w12, w13, w14, w15, w16, w17, w18, w19, w20, w21, w22, w23, w24, w25⟩ := h.1
      refine ⟨c, w, tr, sn, w1, w2, w3, w4, w5, w6, w7, w8, ?_, ?_, ?_, ?_, ?_, ?_, fun k hk => ?_, ?_, ?_, ?_, ?_, ?_, ?_, ?_, ?_, ?_, fun k hk => ?_⟩
      all_goals rw [hx _ _ _ (by omega) (by omega)]
      all_goals try rw [gf _ (fun o ho => by omega) (by omega)]
      all_goals first | assumption | exact w15 _ (by assumption) | exact w25 _ (by assumption)
    · obtain ⟨⟨⟨d0, d00⟩, d1, d2, d3, d4, d5, d6, d7, d8, d9, d10, d11, d12, d13, d14, d15⟩, ⟨p, g1, l, s, en, st, lf, fl, a, sk, h1, h2, h3, h4, h5, h6, h7, h8, h9, h10, h11, h12⟩, hs⟩ := h.2.1 b hb
      refine ⟨⟨⟨?_, ?_⟩, ?_, ?_, ?_, ?_, ?_, ?_, ?_, ?_, ?_, ?_, ?_, ?_, fun k hk => ?_, fun o ho => ?_, fun o ho hob => ?_⟩, ⟨p, g1, l, s, en, st, lf, fl, a, sk, ?_, ?_, ?_, ?_, ?_, ?_, ?_, ?_, ?_, ?_, ?_, h12⟩, fun h3 => ?_⟩
      all_goals try rw [hx _ _ _ (by omega) (by omega)]
      all_goals try rw [gf _ (fun o ho => by omega) (by omega)]
      all_goals first | assumption | exact d13 _ (by assumption) | skip
      · by_cases hbk : b = k
        · subst hbk
          rw [hg.1 _ (fun o' ho' => by rcases Nat.lt_or_ge b o' with z | z <;> omega), eF_i hb, if_pos rfl]
        · rw [gf _ (fun o' ho' => by rcases Nat.lt_or_ge b o' with z | z <;> omega) (by rcases Nat.lt_or_ge b k with z | z <;> omega)]; exact d00
      · by_cases hok : o = k
        · subst hok
          rw [hg.2 b hb, xT_g, if_neg (show ¬ (b + 1 = o + 1 ∧ 2 = 4 ∧ o < n) by omega), eF_o (by rcases Nat.lt_or_ge o b with z | z <;> omega), d14 o ho]
          have hE1 := hE b hb
          by_cases hz : gI x (o + 1) 3 b = nI 0
          · rw [if_pos ⟨hb, hE1.mpr hz⟩, if_pos ⟨rfl, rfl, by omega, hb, hz⟩, hxt]
          · rw [if_neg (fun z => hz (hE1.mp z.2)), if_neg (fun z => hz z.2.2.2.2)]
        · rw [gf _ (fun o' ho' => by omega) (by omega), xT_g, if_neg (by omega), if_neg (by omega)]
          exact d14 o ho
      · by_cases hbk : b = k
        · subst hbk
          rw [hg.1 _ (fun o' ho' => by omega), eF_i ho, if_neg hob, xT_g, if_pos ⟨rfl, rfl, ho⟩]
          exact (s4 o ho hob).1
        · rw [gf _ (fun o' ho' => by omega) (by omega), xT_g, if_neg (by omega), if_neg (by omega)]
          exact d15 o ho hob
      · rw [xT_g, if_neg (by omega)]
        by_cases hbk : b = k
        · subst hbk
          rw [if_neg (fun z => s5 z.2.2.2.2)]; exact h11
        · rw [if_neg (fun z => hbk z.2.1)]; exact h11
      · rw [hx _ _ _ (by omega) (by omega)] at h3
        obtain ⟨⟨a', r1, r2, r3, r4⟩, r5⟩ := hs h3
        refine ⟨⟨a', ?_, r2, r3, fun o ho hob => ?_⟩, fun hq => ?_⟩
        · rw [gf _ (fun o ho => by omega) (by omega)]; exact r1
        · rw [gf _ (fun o ho => by omega) (by omega), hx _ _ _ (by omega) (by omega)]; exact r4 o ho hob
        · first | exact r5 hq | (rw [hx _ _ _ (by omega) (by omega)]; exact r5 hq)
    · have hNN : ∀ b, NB (xT x k n) b = NB x b := fun b => by unfold NB; rw [hx _ _ _ (by omega) (by omega)]
      rw [hNN] at ho ⊢
      exact h.2.2 b hb o ho
  · rw [hB_iff]
    constructor
    · rintro ⟨o, ho, h1⟩ h2
      have := (hE o ho).mpr h1
      rw [h2, Nat.zero_testBit] at this; cases this
    · intro h1
      have h2 : ¬ ∀ o, (a &&& (2 ^ n - 1)).testBit o = false := fun z => h1 (Nat.eq_of_testBit_eq fun i => by rw [z i, Nat.zero_testBit])
      obtain ⟨o, ho⟩ := Classical.not_forall.mp h2
      have ho2 : (a &&& (2 ^ n - 1)).testBit o = true := by cases hc : (a &&& (2 ^ n - 1)).testBit o <;> simp_all
      have ho3 : o < n := by
        rw [ears_bit] at ho2
        by_cases hon : o < n
        · exact hon
        · rw [decide_eq_false hon] at ho2; cases ho2
      exact ⟨o, ho3, (hE o ho3).mp ho2⟩
theorem r_well (h : WR n t cm wl wm q k x f) (hk : k < n) {w : Nat} (hw : gI x 0 0 7 = nI w) (hw2 : wl ≤ w ∧ w ≤ wm) (hwm : wm + 1 ≤ 1600000) : WR n t cm wl (wm + 1) q 99 (pI (pI (pI (pI (pI x (k + 1) 0 11 (gI x (k + 1) 0 11 + nI 1)) 0 0 7 (nI (w + 1))) (k + 1) 0 6 (nI 0)) (k + 1) 0 7 (nI 0)) (k + 1) 0 8 (nI 0)) (upd (upd (upd (upd (upd f (21 + 43 * k + 7) (nI 0)) (21 + 43 * k + 11) (f (21 + 43 * k + 11) + nI 1)) 4 (nI (w + 1))) (21 + 43 * k + 5) (nI 0)) (21 + 43 * k + 6) (nI 0)) := by
  have hn := h.n8
  obtain ⟨⟨⟨d0, d00⟩, d1, d2, d3, d4, d5, d6, d7, d8, d9, d10, d11, d12, d13, d14, d15⟩, ⟨p, g, l, s, en, st, lf, fl, a, sk, h1, h2, h3, h4, h5, h6, h7, h8, h9, h10, h11, h12⟩, hs⟩ := h.2.1 k hk
  obtain ⟨c, w', tr, sn, w1, w2, w3, w4, w5, w6, w7, w8, w9, w10, w11, w12, w13, w14, w15, w16, w17, w18, w19, w20, w21, w22, w23, w24, w25⟩ := h.1
  refine h.one hk (Or.inr rfl) (fun z => z) (fun b hb => ?_) ?_ (fun i hi hi2 => ?_) ?_ ?_
  · rw [bv_ne hb, bv_ne hb, bv_ne hb, bv_0, bv_ne hb]
  · refine ⟨c, w + 1, tr, sn, w1, w2, w3, w4, by omega, by omega, w7, w8, ?_, ?_, ?_, ?_, ?_, ?_, fun k hk => ?_, ?_, ?_, ?_, ?_, ?_, ?_, ?_, ?_, ?_, fun k hk => ?_⟩
    all_goals simp (disch := omega) only [upd_e, gI_pI, gL_pL, gI_pL, gL_pI, qn, qe, not_true_eq_false, not_false_eq_true, true_and, and_true, false_and, and_false, and_self, Nat.add_right_cancel_iff, ↓reduceIte]
    all_goals first | assumption | exact w15 _ (by assumption) | exact w25 _ (by assumption)
  · simp (disch := omega) only [upd_e, qn, ↓reduceIte]
  · simp (disch := omega) only [gI_pI, gL_pL, gI_pL, gL_pI, qn, qe, not_true_eq_false, not_false_eq_true, true_and, and_true, false_and, and_false, and_self, Nat.add_right_cancel_iff, ↓reduceIte]
  · rw [d10]
    refine ⟨⟨⟨?_, ?_⟩, ?_, ?_, ?_, ?_, ?_, ?_, ?_, ?_, ?_, ?_, ?_, ?_, fun k hk => ?_, fun o ho => ?_, fun o ho hob => ?_⟩, ⟨p, g, l, s, en, 0, 0, 0, a, sk, ?_, ?_, ?_, ?_, ?_, ?_, ?_, ?_, ?_, ?_, ?_, by omega⟩, ?_⟩
    all_goals try simp (disch := omega) only [upd_e, gI_pI, gL_pL, gI_pL, gL_pI, qn, qe, not_true_eq_false, not_false_eq_true, true_and, and_true, false_and, and_false, and_self, Nat.add_right_cancel_iff, ↓reduceIte]
    all_goals first | assumption | rfl | exact d13 _ (by assumption) | exact d14 _ (by assumption) | exact d15 _ (by assumption) (by assumption) | (rw [Nat.add_comm]; done) | skip
    · exact fun z => absurd z (by decide)
theorem r_up (h : WR n t cm wl wm q k x f) (hk : k < n) : WR n t cm wl wm q 99 (pI (pI (pI (pI (pI x (k + 1) 0 12 (gI x (k + 1) 0 12 + nI 1)) 0 0 8 (gI x 0 0 8 + nI 1)) (k + 1) 0 6 (nI 0)) (k + 1) 0 7 (nI 0)) (k + 1) 0 8 (nI 0)) (upd (upd (upd (upd (upd f (21 + 43 * k + 7) (nI 0)) (21 + 43 * k + 12) (f (21 + 43 * k + 12) + nI 1)) 5 (f 5 + nI 1)) (21 + 43 * k + 5) (nI 0)) (21 + 43 * k + 6) (nI 0)) := by
  have hn := h.n8
  obtain ⟨⟨⟨d0, d00⟩, d1, d2, d3, d4, d5, d6, d7, d8, d9, d10, d11, d12, d13, d14, d15⟩, ⟨p, g, l, s, en, st, lf, fl, a, sk, h1, h2, h3, h4, h5, h6, h7, h8, h9, h10, h11, h12⟩, hs⟩ := h.2.1 k hk
  obtain ⟨c, w', tr, sn, w1, w2, w3, w4, w5, w6, w7, w8, w9, w10, w11, w12, w13, w14, w15, w16, w17, w18, w19, w20, w21, w22, w23, w24, w25⟩ := h.1
  refine h.one hk (Or.inr rfl) (fun z => z) (fun b hb => ?_) ?_ (fun i hi hi2 => ?_) ?_ ?_
  · rw [bv_ne hb, bv_ne hb, bv_ne hb, bv_0, bv_ne hb]
  · rw [w21]
    refine ⟨c, w', tr, sn, w1, w2, w3, w4, w5, w6, w7, w8, ?_, ?_, ?_, ?_, ?_, ?_, fun k hk => ?_, ?_, ?_, ?_, ?_, ?_, ?_, ?_, ?_, ?_, fun k hk => ?_⟩
    all_goals simp (disch := omega) only [upd_e, gI_pI, gL_pL, gI_pL, gL_pI, qn, qe, not_true_eq_false, not_false_eq_true, true_and, and_true, false_and, and_false, and_self, Nat.add_right_cancel_iff, ↓reduceIte]
    all_goals first | assumption | exact w15 _ (by assumption) | exact w25 _ (by assumption)
  · simp (disch := omega) only [upd_e, qn, ↓reduceIte]
  · simp (disch := omega) only [gI_pI, gL_pL, gI_pL, gL_pI, qn, qe, not_true_eq_false, not_false_eq_true, true_and, and_true, false_and, and_false, and_self, Nat.add_right_cancel_iff, ↓reduceIte]
  · rw [d11]
    refine ⟨⟨⟨?_, ?_⟩, ?_, ?_, ?_, ?_, ?_, ?_, ?_, ?_, ?_, ?_, ?_, ?_, fun k hk => ?_, fun o ho => ?_, fun o ho hob => ?_⟩, ⟨p, g, l, s, en, 0, 0, 0, a, sk, ?_, ?_, ?_, ?_, ?_, ?_, ?_, ?_, ?_, ?_, ?_, by omega⟩, ?_⟩
    all_goals try simp (disch := omega) only [upd_e, gI_pI, gL_pL, gI_pL, gL_pI, qn, qe, not_true_eq_false, not_false_eq_true, true_and, and_true, false_and, and_false, and_self, Nat.add_right_cancel_iff, ↓reduceIte]
    all_goals first | assumption | rfl | exact d13 _ (by assumption) | exact d14 _ (by assumption) | exact d15 _ (by assumption) (by assumption) | (rw [Nat.add_comm]; done) | skip
    · exact fun z => absurd z (by decide)
theorem r_fail (h : WR n t cm wl wm q k x f) (hk : k < n) {fl : Nat} (hfl : fl ≤ 8) : WR n t cm wl wm q k (pI x (k + 1) 0 8 (nI fl)) (upd f (21 + 43 * k + 7) (nI fl)) := by
  have hn := h.n8
  obtain ⟨⟨⟨d0, d00⟩, d1, d2, d3, d4, d5, d6, d7, d8, d9, d10, d11, d12, d13, d14, d15⟩, ⟨p, g, l, s, en, st, lf, fl', a, sk, h1, h2, h3, h4, h5, h6, h7, h8, h9, h10, h11, h12⟩, hs⟩ := h.2.1 k hk
  refine h.one hk (Or.inr rfl) (fun z => z) (fun b hb => ?_) ?_ (fun i hi hi2 => ?_) ?_ ?_
  · rw [bv_ne hb]
  · rw [hd_k]; exact h.1.cg fun i hi => by simp (disch := omega) only [upd_e, qn, ↓reduceIte]
  · simp (disch := omega) only [upd_e, qn, ↓reduceIte]
  · simp (disch := omega) only [gI_pI, gL_pL, gI_pL, gL_pI, qn, qe, not_true_eq_false, not_false_eq_true, true_and, and_true, false_and, and_false, and_self, Nat.add_right_cancel_iff, ↓reduceIte]
  · refine ⟨⟨⟨?_, ?_⟩, ?_, ?_, ?_, ?_, ?_, ?_, ?_, ?_, ?_, ?_, ?_, ?_, fun k hk => ?_, fun o ho => ?_, fun o ho hob => ?_⟩, ⟨p, g, l, s, en, st, lf, fl, a, sk, ?_, ?_, ?_, ?_, ?_, ?_, ?_, ?_, ?_, ?_, ?_, by omega⟩, ?_⟩
    all_goals try simp (disch := omega) only [upd_e, gI_pI, gL_pL, gI_pL, gL_pI, qn, qe, not_true_eq_false, not_false_eq_true, true_and, and_true, false_and, and_false, and_self, Nat.add_right_cancel_iff, ↓reduceIte]
    all_goals first | assumption | rfl | exact d13 _ (by assumption) | exact d14 _ (by assumption) | exact d15 _ (by assumption) (by assumption) | (rw [Nat.add_comm]; done) | skip
    · intro h3
      obtain ⟨⟨a', s1, s2, s3, s4⟩, s5⟩ := hs h3
      refine ⟨⟨a', ?_, s2, s3, fun o ho hob => ?_⟩, fun hq => ?_⟩
      · simp (disch := omega) only [upd_e, gI_pI, gL_pL, gI_pL, gL_pI, qn, qe, not_true_eq_false, not_false_eq_true, true_and, and_true, false_and, and_false, and_self, Nat.add_right_cancel_iff, ↓reduceIte]; exact s1
      · simp (disch := omega) only [upd_e, gI_pI, gL_pL, gI_pL, gL_pI, qn, qe, not_true_eq_false, not_false_eq_true, true_and, and_true, false_and, and_false, and_self, Nat.add_right_cancel_iff, ↓reduceIte]; exact s4 o ho hob
      · first | exact s5 hq | (simp (disch := omega) only [upd_e, gI_pI, gL_pL, gI_pL, gL_pI, qn, qe, not_true_eq_false, not_false_eq_true, true_and, and_true, false_and, and_false, and_self, Nat.add_right_cancel_iff, ↓reduceIte]; exact s5 hq)
theorem c_wait_o (h : sX5_waitByDraw (k + 1) x = some x') (hb : ¬ b = k) : gI x' (b + 1) = gI x (b + 1) := by
  unfold sX5_waitByDraw at h
  obtain ⟨W, hW⟩ : ∃ W, sX0_windowSize (k + 1) x = some W := ⟨_, c_win⟩
  rw [hW] at h
  simp only [bd_e, nm_v] at h
  split at h
  · obtain ⟨_, h⟩ := gd_some h
    rw [← Option.some.inj h, bv_ne hb, bv_ne hb, bv_0]
  · rw [← Option.some.inj h, bv_ne hb, bv_ne hb, bv_0]
end
