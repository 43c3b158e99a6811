/-! stage B: a text is fed -/
def CBF (P : Nat → Nat) (len : Nat) (c : St) : Prop := len ≤ 700 ∧ gI c 0 0 1 = nI len ∧ ∀ k, k < len → gI c 0 1 k = nI (P k)
def cTT (T : TT) (c : St) : TT := (T.1, T.2.1, T.2.2.1, T.2.2.2.1, T.2.2.2.2.1, T.2.2.2.2.2.1, T.2.2.2.2.2.2.1, T.2.2.2.2.2.2.2.1, T.2.2.2.2.2.2.2.2.1, c, T.2.2.2.2.2.2.2.2.2.2.1, T.2.2.2.2.2.2.2.2.2.2.2)
def WVf (P : Nat → Nat) (b : Nat) : Nat → Nat
  | 0 => 0
  | r + 1 => WVf P b r * 256 + P (b + r)
section
variable {P : Nat → Nat} {len : Nat} {c : St} {tN : List Nat}
theorem WVf_s (b r : Nat) : WVf P b (r + 1) = WVf P b r * 256 + P (b + r) := rfl
theorem WVf_lt (hP : ∀ k, P k < 128) (b : Nat) : ∀ r, 2 * WVf P b r < 256 ^ r
  | 0 => by show 2 * 0 < 1; omega
  | r + 1 => by
    have := WVf_lt hP b r
    have := hP (b + r)
    rw [WVf_s, Nat.pow_succ]
    omega
theorem c_byte (h : CBF P len c) (hl : len < 700) (hP : P len < 128) {W : Nat} (hW : W < 2 ^ 31) {s : Nat} (hs : s = 0 ∨ s = 8 ∨ s = 16 ∨ s = 24) (hv : W / 2 ^ s % 256 = P len) : ∃ c', (∀ F, sX6_append_b3 (F + 1) c (nI W) (nI s) = sX6_append_b3 F c' (nI W) (nI s + -nI 8)) ∧ CBF P (len + 1) c' ∧ FC c c' := by
  obtain ⟨h0, h1, h3⟩ := h
  obtain ⟨v, v1, v2, v3⟩ := by_at (nI W) hs
  have e : v = P len := by
    have h9 : nI W >>> (nI s &&& nI 31) = nI (W / 2 ^ s) := pk_shrN hW _ s (lit_am s (by omega))
    have hle : W / 2 ^ s ≤ W := Nat.div_le_self _ _
    rw [h9] at v2
    have h8 : nI (W / 2 ^ s) &&& nI 255 = nI (W / 2 ^ s % 2 ^ 8) := pk_andN (by omega) 8 (by decide)
    rw [h8] at v2
    have := (nI_eq (by omega) (by omega)).mp v2
    rw [← this, ← hv]
  rw [e] at v3
  have hsg := lx_sg _ hP
  rw [hsg] at v3
  refine ⟨pI (pI c 0 1 len (nI (P len))) 0 0 1 (nI (len + 1)), fun F => ?_, ⟨by omega, by rw [gI_pI, if_pos ⟨rfl, rfl, rfl⟩], fun k hk => ?_⟩, fun o j k p q => ?_⟩
  · have hsl : ¬ nI s < nI 0 := nI_nlt (by omega) (by omega)
    have h5 : ((nI W).toUInt32 >>> ((nI s).toUInt32 &&& (nI 31).toUInt32)).toInt32.toInt8.toInt32.toInt8.toInt32 = nI (P len) := by rw [by_two]; exact v3
    simp only [sX6_append_b3]
    simp (disch := omega) only [zl, hsl, ↓reduceIte, h1, le_f, nm_v, h5, inb_t, ix_n, gd_tt, gI_pI, gL_pL, gI_pL, gL_pI, qe, qn, not_true_eq_false, not_false_eq_true, true_and, and_true, false_and, and_false, and_self, Nat.add_right_cancel_iff, nI_add]
    try rfl
  · by_cases hk2 : k = len
    · rw [hk2]
      simp (disch := omega) only [gI_pI, gL_pL, gI_pL, gL_pI, qe, qn, not_true_eq_false, not_false_eq_true, true_and, and_true, false_and, and_false, and_self, Nat.add_right_cancel_iff, ↓reduceIte]
    · rw [gI_pI, if_neg (by omega), gI_pI, if_neg (by omega)]
      exact h3 k (by omega)
  · rw [gI_pI, if_neg p, gI_pI, if_neg (by omega)]
theorem c_four (h : CBF P len c) (hl : len + 4 ≤ 700) (hP : ∀ k, P k < 128) : ∃ c', sX6_append c (nI (WVf P len 4)) = some c' ∧ CBF P (len + 4) c' ∧ FC c c' := by
  have hlt := WVf_lt hP len 4
  have p0 := hP len
  have p1 := hP (len + 1)
  have p2 := hP (len + 1 + 1)
  have p3 := hP (len + 1 + 1 + 1)
  have hW : WVf P len 4 = ((P len * 256 + P (len + 1)) * 256 + P (len + 1 + 1)) * 256 + P (len + 1 + 1 + 1) := by
    show (((0 * 256 + P (len + 0)) * 256 + P (len + 1)) * 256 + P (len + 2)) * 256 + P (len + 3) = _
    rw [Nat.zero_mul, Nat.zero_add, Nat.add_zero]
  have hW2 : WVf P len 4 < 2 ^ 31 := by omega
  obtain ⟨c1, a1, a3, a4⟩ := c_byte h (by omega) p0 hW2 (s := 24) (by omega) (by rw [hW]; simp only [Nat.reducePow]; omega)
  obtain ⟨c2, b1, b3, b4⟩ := c_byte a3 (by omega) p1 hW2 (s := 16) (by omega) (by rw [hW]; simp only [Nat.reducePow]; omega)
  obtain ⟨c3, d1, d3, d4⟩ := c_byte b3 (by omega) p2 hW2 (s := 8) (by omega) (by rw [hW]; simp only [Nat.reducePow]; omega)
  obtain ⟨c4, e1, e3, e4⟩ := c_byte d3 (by omega) p3 hW2 (s := 0) (by omega) (by rw [hW]; simp only [Nat.reducePow]; omega)
  obtain ⟨F, hF⟩ : ∃ F, FU = F + 1 + 1 + 1 + 1 + 1 := ⟨999995, rfl⟩
  have hneg : nI 0 + -nI 8 < 0 := by decide
  refine ⟨c4, ?_, e3, fc_trans a4 (fc_trans b4 (fc_trans d4 e4))⟩
  have h0 : sX6_append c (nI (WVf P len 4)) = sX6_append_b3 (F + 1 + 1 + 1 + 1 + 1) c (nI (WVf P len 4)) (nI 24) := by rw [← hF]; rfl
  rw [h0, a1, show nI 24 + -nI 8 = nI 16 by decide, b1, show nI 16 + -nI 8 = nI 8 by decide, d1, show nI 8 + -nI 8 = nI 0 by decide, e1]
  simp only [sX6_append_b3]
  rw [if_pos hneg]
theorem c_feed (h : CBF P len c) (hl : len + 20 ≤ 700) (hP : ∀ k, P k < 128) : ∃ c', sX6_feed c (nI (WVf P len 4)) (nI (WVf P (len + 4) 4)) (nI (WVf P (len + 8) 4)) (nI (WVf P (len + 12) 4)) (nI (WVf P (len + 16) 4)) = some (c', .inl (nI (len + 20))) ∧ CBF P (len + 20) c' ∧ FC c c' := by
  obtain ⟨c1, p1, p3, p4⟩ := c_four h (by omega) hP
  obtain ⟨c2, q1, q3, q4⟩ := c_four p3 (by omega) hP
  obtain ⟨c3, r1, r3, r4⟩ := c_four q3 (by omega) hP
  obtain ⟨c4, s1, s3, s4⟩ := c_four r3 (by omega) hP
  obtain ⟨c5, t1, t3, t4⟩ := c_four s3 (by omega) hP
  refine ⟨c5, ?_, t3, fc_trans p4 (fc_trans q4 (fc_trans r4 (fc_trans s4 t4)))⟩
  have t2 : gI c5 0 0 1 = nI (len + 20) := t3.2.1
  unfold sX6_feed
  rw [h.2.1, if_pos (show nI len + (20 : Int32) ≤ (700 : Int32) from by rw [show nI len + (20 : Int32) = nI (len + 20) from nI_add len 20]; exact (show nI (len + 20) ≤ nI 700 from nI_le hl (by omega))), p1, bd_e, q1, bd_e, r1, bd_e, s1, bd_e, t1, bd_e, t2]
def PBf (tN : List Nat) (k : Nat) : Nat := tN.getD k 32
theorem PBf_lt (hA : ASC tN) (k : Nat) : PBf tN k < 128 := by
  unfold PBf
  rw [List.getD_eq_getElem?_getD]
  cases h : tN[k]? with
  | none => show 32 < 128; omega
  | some v => exact hA v (List.mem_of_getElem? h)
theorem map_at {k : Nat} (hk : k < tN.length) : (tN.map nI).getD k (nI 0) = nI (PBf tN k) := by
  unfold PBf
  rw [List.getD_eq_getElem?_getD, List.getD_eq_getElem?_getD, List.getElem?_map, List.getElem?_eq_getElem hk]
  rfl
/-- twenty bytes are put into five numbers -/
theorem s_b20 (hA : ASC tN) (hl : tN.length ≤ 490) {b : Nat} (hb : b ≤ 600) {k4 : TT → Nat → Int32 → Int32 → Option (TT × Int32)} {T : TT} {u : Nat} : ∀ (d i F : Nat) (f : Nat → Int32), i + d = 20 → d < F → (∀ j, j < 5 → f j = nI (WVf (PBf tN) (b + 4 * j) (min 4 (i - 4 * j)))) → sL_feeds_b20 F k4 (tN.map nI) T u (nI b) (nI i) f = bd (sT_X6_feed T (nI (WVf (PBf tN) b 4)) (nI (WVf (PBf tN) (b + 4) 4)) (nI (WVf (PBf tN) (b + 8) 4)) (nI (WVf (PBf tN) (b + 12) 4)) (nI (WVf (PBf tN) (b + 16) 4))) fun q14 => k4 q14.1 u q14.2 (nI (b + 20)) := by
  intro d
  induction d with
  | zero =>
    intro i F f hi hF hf
    obtain rfl : i = 20 := by omega
    obtain ⟨F, rfl⟩ : ∃ z, F = z + 1 := ⟨F - 1, by omega⟩
    have f0 : f 0 = nI (WVf (PBf tN) b 4) := hf 0 (by omega)
    have f1 : f 1 = nI (WVf (PBf tN) (b + 4) 4) := hf 1 (by omega)
    have f2 : f 2 = nI (WVf (PBf tN) (b + 8) 4) := hf 2 (by omega)
    have f3 : f 3 = nI (WVf (PBf tN) (b + 12) 4) := hf 3 (by omega)
    have f4 : f 4 = nI (WVf (PBf tN) (b + 16) 4) := hf 4 (by omega)
    simp only [sL_feeds_b20]
    rw [if_pos (show (20 : Int32) ≤ nI 20 by decide)]
    simp (disch := omega) only [zl, zm, nI_add, pk_mul, inb_t, ix_n, gd_tt, bd_e, nm_v, ite_not, ↓reduceIte, le_t, le_f, lt_t, lt_f, eq_t, eq_f, mone_f, mone_f2, f0, f1, f2, f3, f4]
  | succ d ih =>
    intro i F f hi hF hf
    obtain ⟨F, rfl⟩ : ∃ z, F = z + 1 := ⟨F - 1, by omega⟩
    have hP := PBf_lt hA
    have hj5 : i / 4 < 5 := by omega
    have hdiv : nI i / nI 4 = nI (i / 4) := pk_div (by omega) (by omega) (by omega)
    have hfj := hf (i / 4) hj5
    have hr : min 4 (i - 4 * (i / 4)) = i % 4 := by omega
    rw [hr] at hfj
    have hlt := WVf_lt hP (b + 4 * (i / 4)) (i % 4)
    have hp3 : (256 : Nat) ^ (i % 4) ≤ 256 ^ 3 := Nat.pow_le_pow_right (by omega) (by omega)
    have hpos : b + 4 * (i / 4) + i % 4 = b + i := by omega
    have hshl : nI (WVf (PBf tN) (b + 4 * (i / 4)) (i % 4)) <<< (nI 8 &&& nI 31) = nI (WVf (PBf tN) (b + 4 * (i / 4)) (i % 4) * 2 ^ 8) := pk_shlN _ 8 (lit_am 8 (by omega)) (by omega)
    have hor : ∀ a, a < 128 → nI (WVf (PBf tN) (b + 4 * (i / 4)) (i % 4) * 2 ^ 8) ||| nI a = nI (WVf (PBf tN) (b + 4 * (i / 4)) (i % 4) * 256 + a) := fun a ha => by
      rw [n_or, Nat.or_comm, or_add (by omega), Nat.add_comm]
    have hnext : ∀ j, j < 5 → upd f (i / 4) (nI (WVf (PBf tN) (b + 4 * (i / 4)) (i % 4) * 256 + PBf tN (b + i))) j = nI (WVf (PBf tN) (b + 4 * j) (min 4 (i + 1 - 4 * j))) := fun j hj => by
      rw [upd_e]
      by_cases e : j = i / 4
      · subst e
        rw [if_pos rfl, show min 4 (i + 1 - 4 * (i / 4)) = i % 4 + 1 by omega, WVf_s, hpos]
      · rw [if_neg e, hf j hj, show min 4 (i + 1 - 4 * j) = min 4 (i - 4 * j) by omega]
    have hrec := ih (i + 1) F _ (by omega) (by omega) hnext
    have hpb := hP (b + i)
    by_cases hc : tN.length ≤ b + i
    · have e32 : PBf tN (b + i) = 32 := by
        unfold PBf
        rw [List.getD_eq_getElem?_getD, List.getElem?_eq_none hc]
        rfl
      rw [e32] at hrec
      simp only [sL_feeds_b20]
      rw [List.length_map]
      simp (disch := omega) only [↓nm_v, zl, zm, nI_add, pk_mul, inb_t, ix_n, gd_tt, bd_e, nm_v, ite_not, ↓reduceIte, le_t, le_f, lt_t, lt_f, eq_t, eq_f, mone_f, mone_f2, hdiv, hj5, hc, hfj, hshl, hor]
      exact hrec
    · have hm := map_at (tN := tN) (k := b + i) (by omega)
      simp only [sL_feeds_b20]
      rw [List.length_map]
      simp (disch := omega) only [↓nm_v, zl, zm, nI_add, pk_mul, inb_t, ix_n, gd_tt, bd_e, nm_v, ite_not, ↓reduceIte, le_t, le_f, lt_t, lt_f, eq_t, eq_f, mone_f, mone_f2, hdiv, hj5, hc, hm, hfj, hshl, hor]
      exact hrec
theorem l_b4 (hA : ASC tN) (hl : tN.length ≤ 490) : ∀ (d r F : Nat) (c : St), tN.length ≤ 20 * r + 20 * d → d < F → r + d ≤ 30 → CBF (PBf tN) (20 * r) c → FC xC c → (r = 0 ∨ 0 < tN.length) → ∃ c1, sL_feeds_b4 F (tN.map nI) (cTT T0 c) r (nI (20 * r)) (nI (20 * r)) = some (cTT T0 c1, nI 1) ∧ CBF (PBf tN) tN.length c1 ∧ FC xC c1 := by
  have base : ∀ (r F : Nat) (c : St), tN.length ≤ 20 * r → r ≤ 30 → CBF (PBf tN) (20 * r) c → FC xC c → (r = 0 ∨ 0 < tN.length) → ∃ c1, sL_feeds_b4 (F + 1) (tN.map nI) (cTT T0 c) r (nI (20 * r)) (nI (20 * r)) = some (cTT T0 c1, nI 1) ∧ CBF (PBf tN) tN.length c1 ∧ FC xC c1 := by
    intro r F c h1 h2 h3 h4 h5
    by_cases h0 : tN.length = 0
    · have hr : r = 0 := by omega
      subst hr
      refine ⟨c, ?_, by rw [h0]; exact h3, h4⟩
      simp only [sL_feeds_b4]
      rw [List.length_map, h0]
      simp (disch := omega) only [↓nm_v, zl, zm, nI_add, pk_mul, inb_t, ix_n, gd_tt, bd_e, nm_v, ite_not, ↓reduceIte, le_t, le_f, lt_t, lt_f, eq_t, eq_f, mone_f, mone_f2]
    · have ht : sX6_truncate c (nI tN.length) = some (pI c 0 0 1 (nI tN.length), .inl (nI tN.length)) := by
        have := h3.2.1
        unfold sX6_truncate
        simp (disch := omega) only [↓nm_v, zl, zm, nI_add, pk_mul, inb_t, ix_n, gd_tt, bd_e, nm_v, ite_not, ↓reduceIte, le_t, le_f, lt_t, lt_f, eq_t, eq_f, mone_f, mone_f2, this]
      have ht2 : sT_X6_truncate (cTT T0 c) (nI tN.length) = some (cTT T0 (pI c 0 0 1 (nI tN.length)), nI tN.length) := by
        unfold sT_X6_truncate
        rw [show (cTT T0 c).2.2.2.2.2.2.2.2.2.1 = c from rfl, ht]
        rfl
      refine ⟨pI c 0 0 1 (nI tN.length), ?_, ⟨by omega, by rw [gI_pI, if_pos ⟨rfl, rfl, rfl⟩], fun k hk => by rw [gI_pI, if_neg (by omega)]; exact h3.2.2 k (by omega)⟩, fun o j k p q => by rw [gI_pI, if_neg p]; exact h4 o j k p q⟩
      simp only [sL_feeds_b4]
      rw [List.length_map]
      simp (disch := omega) only [↓nm_v, zl, zm, nI_add, pk_mul, inb_t, ix_n, gd_tt, bd_e, nm_v, ite_not, ↓reduceIte, le_t, le_f, lt_t, lt_f, eq_t, eq_f, mone_f, mone_f2, h1, h0, ht2]
  intro d
  induction d with
  | zero =>
    intro r F c h1 h2 h3 h4 h5 h6
    obtain ⟨F, rfl⟩ : ∃ z, F = z + 1 := ⟨F - 1, by omega⟩
    exact base r F c (by omega) (by omega) h4 h5 h6
  | succ d ih =>
    intro r F c h1 h2 h3 h4 h5 h6
    obtain ⟨F, rfl⟩ : ∃ z, F = z + 1 := ⟨F - 1, by omega⟩
    by_cases hc : tN.length ≤ 20 * r
    · exact base r F c hc (by omega) h4 h5 h6
    · obtain ⟨c', e1, e2, e3⟩ := c_feed h4 (by omega) (PBf_lt hA)
      obtain ⟨c1, g1, g2⟩ := ih (r + 1) F c' (by omega) (by omega) (by omega) (by rw [show 20 * (r + 1) = 20 * r + 20 by omega]; exact e2) (fc_trans h5 e3) (Or.inr (by omega))
      have hfe : sT_X6_feed (cTT T0 c) (nI (WVf (PBf tN) (20 * r) 4)) (nI (WVf (PBf tN) (20 * r + 4) 4)) (nI (WVf (PBf tN) (20 * r + 8) 4)) (nI (WVf (PBf tN) (20 * r + 12) 4)) (nI (WVf (PBf tN) (20 * r + 16) 4)) = some (cTT T0 c', nI (20 * r + 20)) := by
        unfold sT_X6_feed
        rw [show (cTT T0 c).2.2.2.2.2.2.2.2.2.1 = c from rfl, e1]
        rfl
      refine ⟨c1, ?_, g2⟩
      simp only [sL_feeds_b4]
      rw [List.length_map, if_neg (nI_ge (by omega) (by omega)), gd_l (show r < 40 by omega)]
      have hb := s_b20 hA hl (b := 20 * r) (by omega) (k4 := fun T' u' a2' a3' => sL_feeds_b4 F (tN.map nI) T' u' a2' a3') (T := cTT T0 c) (u := r + 1) 20 0 FU (fun _ => 0) (by omega) (FU_lt (by omega)) (fun j hj => by rw [show min 4 (0 - 4 * j) = 0 by omega]; rfl)
      rw [show (0 : Int32) = nI 0 from rfl] at hb ⊢
      rw [hb, hfe, bd_e]
      rw [show 20 * (r + 1) = 20 * r + 20 by omega] at g1
      exact g1
theorem l_feeds (hA : ASC tN) (hl : tN.length ≤ 490) : ∃ c1, sL_feeds (tN.map nI) T0 = some (cTT T0 c1, nI 1) ∧ CBF (PBf tN) tN.length c1 ∧ FC xC c1 :=
  l_b4 hA hl 25 0 FU xC (by omega) (FU_lt (by omega)) (by omega) ⟨by omega, rfl, fun k hk => absurd hk (by omega)⟩ (fun _ _ _ _ _ => rfl) (Or.inl rfl)
end
