/-! stage B: all senders are heard, in step -/
section
variable {m x : St} {f g : Nat → Int32} {n S b o t cm wl wm : Nat}
def RO (n : Nat) (f g : Nat → Int32) : Prop := ∀ i, (∀ b, b < n → ¬ i = 21 + 43 * b + 9 ∧ ¬ (21 + 43 * b + 27 ≤ i ∧ i < 21 + 43 * b + 35)) → g i = f i
def RS (b : Nat) (f g : Nat → Int32) : Prop := g (21 + 43 * b + 9) = f (21 + 43 * b + 9) ∧ ∀ i, i < 8 → g (21 + 43 * b + (27 + i)) = f (21 + 43 * b + (27 + i))
theorem m_b86 {N st : Nat → Nat} (hn : n ≤ 8) (h0 : f 0 = nI n) (hS : S < 256) (hN : ∀ k, k < n → f (13 + k) = nI (N k) ∧ N k < 256) (hst : ∀ k, k < n → f (21 + 43 * k + 5) = nI (st k) ∧ st k ≤ 4) (ha : ∀ b, b < n → S.testBit b = true → ∃ a, f (21 + 43 * b + 9) = nI a ∧ a < 256) :
    ∃ g, sX7_slot_b86 FU (sr m f) (nI S) (nI 0) = sX7_slot_b126 FU (sr m (upd g 12 (nI S))) (nI S) (nI 0) ∧ RO n f g ∧ ∀ b, b < n → (S.testBit b = true → HO N (fun k => nI (st k)) S b n f g) ∧ (S.testBit b = false → RS b f g) := by
  suffices key : ∃ g, sX7_slot_b86 FU (sr m f) (nI S) (nI 0) = sX7_slot_b126 FU (sr m (upd g 12 (nI S))) (nI S) (nI 0) ∧ RO n f g ∧ ∀ b, b < n → (b < n ∧ S.testBit b = true → HO N (fun k => nI (st k)) S b n f g) ∧ (¬ (b < n ∧ S.testBit b = true) → RS b f g) from by
    obtain ⟨g, e1, e2, e3⟩ := key
    exact ⟨g, e1, e2, fun b hb => ⟨fun q => (e3 b hb).1 ⟨hb, q⟩, fun q => (e3 b hb).2 (fun z => by rw [q] at z; cases z.2)⟩⟩
  refine one_up n (fun k g => RO n f g ∧ ∀ b, b < n → (b < k ∧ S.testBit b = true → HO N (fun k => nI (st k)) S b n f g) ∧ (¬ (b < k ∧ S.testBit b = true) → RS b f g)) (fun F g k => sX7_slot_b86 F (sr m g) (nI S) (nI k)) (fun g => sX7_slot_b126 FU (sr m (upd g 12 (nI S))) (nI S) (nI 0)) (fun F g h => ?_) (fun k g hk h => ?_) n 0 FU f (by omega) (FU_lt (by omega)) ⟨fun _ _ => rfl, fun b hb => ⟨fun q => absurd q.1 (by omega), fun _ => ⟨rfl, fun _ _ => rfl⟩⟩⟩
  · have g0 : g 0 = nI n := by rw [h.1 0 (fun b hb => by omega), h0]
    simp only [sX7_slot_b86]
    simp (disch := omega) only [zl, zm, nI_add, pk_mul, inb_t, ix_n, gd_tt, bd_e, nm_v, ite_not, ↓reduceIte, le_t, le_f, lt_t, lt_f, eq_t, eq_f, mone_f, mone_f2, sr_row, sr_pI, g0]
  · have g0 : g 0 = nI n := by rw [h.1 0 (fun b hb => by omega), h0]
    have hh : sX7_has (nI S) (nI k) = some (nI (S.testBit k).toNat) := m_has (by omega) (by omega)
    cases hb : S.testBit k with
    | false =>
      refine ⟨g, fun F => ?_, h.1, fun b hb2 => ⟨fun q => (h.2 b hb2).1 ⟨?_, q.2⟩, fun q => (h.2 b hb2).2 (fun z => q ⟨by omega, z.2⟩)⟩⟩
      · simp only [sX7_slot_b86]
        simp (disch := omega) only [zl, zm, nI_add, pk_mul, inb_t, ix_n, gd_tt, bd_e, nm_v, ite_not, ↓reduceIte, le_t, le_f, lt_t, lt_f, eq_t, eq_f, mone_f, mone_f2, sr_row, sr_pI, g0, hh, hb, Bool.toNat_false]
      · by_cases hbk : b = k
        · subst hbk; rw [hb] at q; cases q.2
        · omega
    | true =>
      have hsame := (h.2 k hk).2 (fun q => absurd q.1 (by omega))
      obtain ⟨a, ha1, ha2⟩ := ha k hk hb
      obtain ⟨g', e1, e2, e3, e4⟩ := m_hears (m := m) (f := g) (S := S) (N := N) (st := st) (a := a) hn hk g0 (fun i hi => by rw [h.1 _ (fun b hb => by omega)]; exact hN i hi) (fun i hi => by rw [h.1 _ (fun b hb => by omega)]; exact hst i hi) (hsame.1.trans ha1) ha2
      refine ⟨g', fun F => ?_, fun i hi => ?_, fun b hb2 => ⟨fun q => ?_, fun q => ?_⟩⟩
      · simp only [sX7_slot_b86]
        simp (disch := omega) only [zl, zm, nI_add, pk_mul, inb_t, ix_n, gd_tt, bd_e, nm_v, ite_not, ↓reduceIte, le_t, le_f, lt_t, lt_f, eq_t, eq_f, mone_f, mone_f2, sr_row, sr_pI, g0, hh, hb, Bool.toNat_true, e1]
      · rw [e2 i (hi k hk).1 (hi k hk).2]; exact h.1 i hi
      · by_cases hbk : b = k
        · subst hbk
          obtain ⟨a1, a2, h1, h2, h3, h4⟩ := e3
          refine ⟨⟨a1, a2, hsame.1.symm.trans h1, h2, h3, h4⟩, fun i hi => ?_⟩
          rw [e4 i hi, hsame.2 i hi]
        · obtain ⟨⟨a1, a2, h1, h2, h3, h4⟩, h5⟩ := (h.2 b hb2).1 ⟨by omega, q.2⟩
          refine ⟨⟨a1, a2, h1, ?_, h3, h4⟩, fun i hi => ?_⟩
          · rw [e2 _ (by omega) (by omega)]; exact h2
          · rw [e2 _ (by omega) (by omega)]; exact h5 i hi
      · by_cases hbk : b = k
        · subst hbk; exact absurd ⟨by omega, hb⟩ q
        · have hs := (h.2 b hb2).2 (fun z => q ⟨by omega, z.2⟩)
          refine ⟨?_, fun i hi => ?_⟩
          · rw [e2 _ (by omega) (by omega)]; exact hs.1
          · rw [e2 _ (by omega) (by omega)]; exact hs.2 i hi
theorem pcN_0 : ∀ k, pcN 0 k = 0
  | 0 => rfl
  | k + 1 => by unfold pcN; rw [pcN_0 k, Nat.zero_testBit]; rfl
theorem cL_0 (x : St) : ∀ k, cL x 0 k = 0
  | 0 => rfl
  | k + 1 => by
    show cL x 0 k + (decide (1 < pcN (NB x k &&& 0) 8) && opB (gI x (k + 1) 0 6)).toNat = 0
    rw [cL_0 x k, Nat.and_zero, pcN_0]; rfl
theorem xL_zero {a c : Nat} (h : gI x 0 0 9 = nI c) : xL x 0 a 0 c = x := by
  refine Prod.ext (funext fun o => funext fun j => funext fun i => ?_) rfl
  show gI (xL x 0 a 0 c) o j i = gI x o j i
  rw [xL_g]
  by_cases h2 : o = 0 ∧ j = 0 ∧ i = 9
  · rw [if_pos h2, h2.1, h2.2.1, h2.2.2, h]
  · rw [if_neg h2, if_neg (fun q => by rw [Nat.zero_testBit] at q; cases q.2.2.1)]
/-- the class: all ears -/
theorem c_listen (h : WR n t cm wl wm false 99 x f) {c : Nat} (hc : gI x 0 0 9 = nI c) (hc2 : c < 2 ^ 30) (hS : S = mkS (fun k => decide (gI x (k + 1) 0 6 = nI 3)) n) : sX5_listenToSenders x = some (xL (pI x 0 0 10 (nI S)) S n 0 (c + cL (pI x 0 0 10 (nI S)) S n)) := by
  have hn := h.n8
  have hSn : S < 2 ^ n := by rw [hS]; exact mkS_lt _ _
  have hS8 : S < 256 := Nat.lt_of_lt_of_le hSn (Nat.pow_le_pow_right (n := 2) (by decide) hn)
  unfold sX5_listenToSenders
  simp only [zl]
  rw [c_inState hn h.xn, ← hS]
  simp only [bd_e, nm_v]
  have e1 : gI (pI x 0 0 10 (nI S)) 0 0 10 = nI S := by rw [gI_pI, if_pos ⟨rfl, rfl, rfl⟩]
  have e2 : gI (pI x 0 0 10 (nI S)) 0 0 2 = nI n := by rw [gI_pI, if_neg (by omega)]; exact h.xn
  have e3 : gI (pI x 0 0 10 (nI S)) 0 0 9 = nI c := by rw [gI_pI, if_neg (by omega)]; exact hc
  rw [e1]
  by_cases h0 : S = 0
  · rw [h0]
    rw [h0] at e3
    simp (disch := omega) only [eq_t, not_true_eq_false, ↓reduceIte, cL_0, Nat.add_zero]
    rw [xL_zero e3]
  · rw [if_pos (fun q => h0 ((nI_eq (by omega) (by decide)).mp q))]
    refine c_ears hn e2 e1 hSn (fun k hk => ?_) e3 hc2
    have hnb := h.nb hk
    rw [gI_pI, if_neg (by omega)]
    have e4 : NB (pI x 0 0 10 (nI S)) k = NB x k := by unfold NB; rw [gI_pI, if_neg (by omega)]
    rw [e4]; exact hnb
/-- all beacons hear, in step -/
theorem s_listen (h : WR n t cm wl wm false 99 x f) (hcm : cm + 8 ≤ 1600000) : ∃ x' f' S, sX5_listenToSenders x = some x' ∧ (bd (sX7_senders (sr m f)) fun q14 => bd (sX7_collides (sr m f) q14) fun q15 => sX7_slot_b86 FU q15 q14 (nI 0)) = sX7_slot_b126 FU (sr m f') (nI S) (nI 0) ∧ WR n t (cm + 8) wl wm true 99 x' f' ∧ S < 256 ∧ ∀ b, b < n → (S.testBit b = true ↔ gI x' (b + 1) 0 6 = nI 3) := by
  have hn := h.n8
  obtain ⟨S, hS⟩ : ∃ S, S = mkS (fun k => decide (gI x (k + 1) 0 6 = nI 3)) n := ⟨_, rfl⟩
  have hSn : S < 2 ^ n := by rw [hS]; exact mkS_lt _ _
  have hS8 : S < 256 := Nat.lt_of_lt_of_le hSn (Nat.pow_le_pow_right (n := 2) (by decide) hn)
  have hSb : ∀ b, b < n → (S.testBit b = true ↔ gI x (b + 1) 0 6 = nI 3) := fun b hb => by
    rw [hS, mkS_bit, decide_eq_true hb, Bool.true_and]; exact decide_eq_true_iff
  obtain ⟨c, w, tr, sn, w1, w2, w3, w4, w5, w6, w7, w8, w9, w10, w11, w12, w13, w14, w15, w16, w17, w18, w19, w20, w21, w22, w23, w24, w25⟩ := h.1
  have hcl := c_listen h w11 (by omega) hS
  generalize hy : pI x 0 0 10 (nI S) = y at hcl
  have yb : ∀ b, gI y (b + 1) = gI x (b + 1) := fun b => by rw [← hy]; exact bv_0
  have yN : ∀ b, NB y b = NB x b := fun b => by unfold NB; rw [yb]
  have hm1 := m_senders (m := m) hn h.fn
  rw [h.sn, ← hS] at hm1
  have hN : ∀ k, k < n → f (13 + k) = nI (NB x k) ∧ NB x k < 256 := fun k hk => h.fb hk
  have hm2 := m_collides (m := m) (S := S) hn h.fn hN (w22.trans w11)
  have hsta : ∀ k, k < n → f (21 + 43 * k + 5) = gI x (k + 1) 0 6 := fun k hk => by obtain ⟨_, _, _, _, _, _, d, _⟩ := h.bd hk; exact d
  have hcc : cM (NB x) (fun k => f (21 + 43 * k + 5)) S n = cL y S n := by
    refine smN_cg fun k hk => ?_
    dsimp only
    rw [hsta k hk, yb, yN]
  rw [hcc] at hm2
  generalize hC : cL y S n = C at hcl hm2
  have hC8 : C ≤ 8 := by
    rw [← hC]
    have := smN_le (p := fun i => (decide (1 < pcN (NB y i &&& S) 8) && opB (gI y (i + 1) 0 6)).toNat) (c := 1) (fun k => Bool.toNat_le _) n
    have h2 : cL y S n = smN (fun i => (decide (1 < pcN (NB y i &&& S) 8) && opB (gI y (i + 1) 0 6)).toNat) n := rfl
    omega
  have hst : ∀ k, k < n → gI x (k + 1) 0 6 = nI (ix (gI x (k + 1) 0 6)) ∧ ix (gI x (k + 1) 0 6) ≤ 4 := fun k hk => by
    obtain ⟨p, g, l, s, en, st, lf, fl, a, sk, h1, h2, h3, h4, h5, h6, h7, h8, h9, h10, h11, h12⟩ := h.bk hk
    rw [h6, ix_n (by omega)]; exact ⟨rfl, by omega⟩
  have uf : ∀ i, ¬ i = 6 → upd f 6 (nI (c + C)) i = f i := fun i hi => by rw [upd_e, if_neg hi]
  obtain ⟨g, e1, e2, e3⟩ := m_b86 (m := m) (f := upd f 6 (nI (c + C))) (S := S) (N := NB x) (st := fun k => ix (gI x (k + 1) 0 6)) hn (by rw [uf _ (by omega)]; exact h.fn) hS8 (fun k hk => by rw [uf _ (by omega)]; exact hN k hk) (fun k hk => by rw [uf _ (by omega), hsta k hk]; exact hst k hk) (fun b hb hbS => by
    rw [uf _ (by omega)]
    obtain ⟨⟨a, s1, s2, s3, s4⟩, s5⟩ := (h.2.1 b hb).2.2 ((hSb b hb).mp hbS)
    exact ⟨a, s1, s2⟩)
  have hx' : ∀ b, b < n → ∀ j i, ¬ j = 3 → gI (xL y S n 0 (c + C)) (b + 1) j i = gI x (b + 1) j i := fun b hb j i hj => by
    rw [xL_o (by omega) hj, yb]
  have hx3 : ∀ b, b < n → ∀ i, i < n → gI (xL y S n 0 (c + C)) (b + 1) 3 i = if S.testBit b = true ∧ gI x (b + 1) 3 i = nI 0 then nI (rsn (NB x i) S b (gI x (i + 1) 0 6)) else gI x (b + 1) 3 i := fun b hb i hi => by
    rw [xL_g, if_neg (by omega), yN, yb, yb]
    by_cases hq : S.testBit b = true ∧ gI x (b + 1) 3 i = nI 0
    · rw [if_pos hq, if_pos ⟨rfl, by omega, hq.1, by omega, hq.2⟩]; rfl
    · rw [if_neg hq, if_neg (fun z => hq ⟨z.2.2.1, z.2.2.2.2⟩)]
  have gf : ∀ i, ¬ i = 6 → ¬ i = 12 → (∀ b, b < n → ¬ i = 21 + 43 * b + 9 ∧ ¬ (21 + 43 * b + 27 ≤ i ∧ i < 21 + 43 * b + 35)) → upd g 12 (nI S) i = f i := fun i h6 h12 hi => by
    rw [upd_e, if_neg h12, e2 i hi, uf i h6]
  refine ⟨_, upd g 12 (nI S), S, hcl, ?_, ⟨?_, fun b hb => ?_, fun b hb o ho => ?_⟩, hS8, fun b hb => ?_⟩
  · rw [hm1]
    simp only [bd_e]
    rw [hm2]
    simp only [bd_e]
    exact e1
  · have hh : ∀ j i, ¬ (j = 0 ∧ i = 9) → ¬ (j = 0 ∧ i = 10) → ¬ j = 3 → gI (xL y S n 0 (c + C)) 0 j i = gI x 0 j i := fun j i h9 h10 h3 => by
      rw [xL_o (by omega) h3, ← hy, gI_pI, if_neg (by omega)]
    have h9 : gI (xL y S n 0 (c + C)) 0 0 9 = nI (c + C) := by rw [xL_g, if_pos ⟨rfl, rfl, rfl⟩]
    have h10 : gI (xL y S n 0 (c + C)) 0 0 10 = nI S := by rw [xL_o (by omega) (by omega), ← hy, gI_pI, if_pos ⟨rfl, rfl, rfl⟩]
    refine ⟨c + C, w, tr, S, w1, w2, by omega, by omega, w5, w6, w7, hS8, ?_, ?_, h9, ?_, ?_, h10, fun k hk => ?_, ?_, ?_, ?_, ?_, ?_, ?_, ?_, ?_, ?_, fun k hk => ?_⟩
    · rw [hh _ _ (by omega) (by omega) (by omega)]; exact w9
    · rw [hh _ _ (by omega) (by omega) (by omega)]; exact w10
    · rw [hh _ _ (by omega) (by omega) (by omega)]; exact w12
    · rw [hh _ _ (by omega) (by omega) (by omega)]; exact w13
    · rw [hh _ _ (by omega) (by omega) (by omega)]; exact w15 k hk
    · rw [hh _ _ (by omega) (by omega) (by omega), gf _ (by omega) (by omega) (fun b hb => by omega)]; exact w16
    · rw [hh _ _ (by omega) (by omega) (by omega), gf _ (by omega) (by omega) (fun b hb => by omega)]; exact w17
    · rw [hh _ _ (by omega) (by omega) (by omega), gf _ (by omega) (by omega) (fun b hb => by omega)]; exact w18
    · rw [hh _ _ (by omega) (by omega) (by omega), gf _ (by omega) (by omega) (fun b hb => by omega)]; exact w19
    · rw [hh _ _ (by omega) (by omega) (by omega), gf _ (by omega) (by omega) (fun b hb => by omega)]; exact w20
    · rw [hh _ _ (by omega) (by omega) (by omega), gf _ (by omega) (by omega) (fun b hb => by omega)]; exact w21
    · rw [h9, upd_e, if_neg (by omega), e2 _ (fun b hb => by omega), upd_e, if_pos rfl]
    · rw [hh _ _ (by omega) (by omega) (by omega), gf _ (by omega) (by omega) (fun b hb => by omega)]; exact w23
    · rw [h10, upd_e, if_pos rfl]
    · rw [hh _ _ (by omega) (by omega) (by omega), gf _ (by omega) (by omega) (fun b hb => by omega)]; exact w25 k hk
  · obtain ⟨⟨⟨d0, d00⟩, d1, d2, d3, d4, d5, d6, d7, d8, d9, d10, d11, d12, d13, d14, d15⟩, ⟨p, g1, l, s, en, st, lf, fl, a, sk, h1, h2, h3, h4, h5, h6, h7, h8, h9, h10, h11, h12⟩, hs⟩ := h.2.1 b hb
    refine ⟨⟨⟨?_, ?_⟩, ?_, ?_, ?_, ?_, ?_, ?_, ?_, ?_, ?_, ?_, ?_, ?_, fun k hk => ?_, fun o ho => ?_, fun o ho hob => ?_⟩, ⟨p, g1, l, s, en, st, lf, fl, a, sk, ?_, ?_, ?_, ?_, ?_, ?_, ?_, ?_, ?_, ?_, ?_, h12⟩, fun h3 => ?_⟩
    all_goals try rw [hx' b hb _ _ (by omega)]
    all_goals try rw [gf _ (by omega) (by omega) (fun b hb => by omega)]
    all_goals first | assumption | exact d13 _ (by assumption) | exact d14 _ (by assumption) | exact d15 _ (by assumption) (by assumption) | skip
    · rw [gf _ (by omega) (by omega) (fun b' hb' => by rcases Nat.lt_or_ge b b' with z | z <;> omega)]; exact d00
    rw [hx' b hb _ _ (by omega)] at h3
    obtain ⟨⟨a0, s1, s2, s3, s4⟩, s5⟩ := hs h3
    have hbS := (hSb b hb).mpr h3
    obtain ⟨⟨a1, a2, q1, q2, q3, q4⟩, q5⟩ := (e3 b hb).1 hbS
    rw [uf _ (by omega)] at q1
    have ha01 : ∀ i, i < 8 → a1.testBit i = a0.testBit i := by
      intro i hi
      have z1 : a1 % 2 ^ 32 = a0 % 2 ^ 32 := congrArg (fun v : Int32 => v.toBitVec.toNat) (q1.symm.trans s1)
      have z2 := Nat.testBit_mod_two_pow a1 32 i
      have z3 := Nat.testBit_mod_two_pow a0 32 i
      rw [z1, z3, decide_eq_true (by omega : i < 32), Bool.true_and, Bool.true_and] at z2
      exact z2.symm
    refine ⟨⟨a2, ?_, q3, ?_, fun o ho hob => ?_⟩, fun _ => ?_⟩
    · rw [upd_e, if_neg (by omega)]; exact q2
    · rw [q4 b (by omega), ha01 b (by omega), s3]; rfl
    · rw [upd_e, if_neg (by omega), q5 o (by omega), uf _ (by omega), (s4 o ho hob).1, hx3 b hb o ho]
      rw [q4 o (by omega), ha01 o (by omega)]
      have hst1 := (hst o ho).1.symm
      simp only [hst1]
      rw [decide_eq_false (by omega : ¬ n ≤ o), decide_eq_false hob, Bool.false_or, Bool.false_or]
      have hr := rsn_le (NB x o) S b (gI x (o + 1) 0 6)
      by_cases hz : gI x (b + 1) 3 o = nI 0
      · rw [if_pos ⟨ho, hob, hz⟩, if_pos ⟨hbS, hz⟩, (s4 o ho hob).2.mpr hz, Bool.true_and, decide_eq_true_iff]
        exact ⟨rfl, (nI_eq (b := 0) (by omega) (by omega)).symm⟩
      · rw [if_neg (fun z => hz z.2.2), if_neg (fun z => hz z.2)]
        refine ⟨rfl, fun z => ?_, fun z => absurd z hz⟩
        rw [Bool.and_eq_true] at z
        exact (s4 o ho hob).2.mp z.1
    · rw [hx3 b hb b hb]
      by_cases hz : gI x (b + 1) 3 b = nI 0
      · rw [if_pos ⟨hbS, hz⟩]
        have hself : (NB x b).testBit b = false := by
          cases hq : (NB x b).testBit b with
          | false => rfl
          | true => exact absurd rfl (h.2.2 b hb b hq).2.1
        unfold rsn
        rw [if_pos hself]; decide
      · rw [if_neg (fun z => hz z.2)]; exact hz
  · have hNN : ∀ b, NB (xL y S n 0 (c + C)) b = NB x b := fun b => by
      unfold NB; rw [xL_o (by omega) (by omega), yb]
    rw [hNN] at ho ⊢
    exact h.2.2 b hb o ho
  · rw [hx' b hb _ _ (by omega)]; exact hSb b hb
end
