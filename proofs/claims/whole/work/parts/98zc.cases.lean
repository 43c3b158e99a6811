/-! stage B: every call answers alike -/
section
variable {k : TT → Option Int32} {xs : Nat → Int32} {L i : Nat} {x0 x1 x2 ta tb d S pg c m ot : St} {ps : Nat → St}
theorem bL_c0 (h : RG x0 x2 ps pg c m) (hi : i + 5 < L) (hL : L ≤ 3072) (hk : ∀ T', RT T' → k T' = some 1) : sL_c0 k xs L (x0, x1, x2, ps, ta, tb, d, S, pg, c, m, ot) (nI i) = some 1 := by
  have h0 := h
  obtain ⟨hwo, hsv, hpr, ⟨len, hbf⟩, her, hpg⟩ := h
  obtain ⟨n, t, ht, hws, hnw⟩ := hwo
  have hwo : WO (gL m 0 7) x0 (gI m 0 2) := ⟨n, t, ht, hws, hnw⟩
  obtain ⟨c', r, code, v, m', len', e1, e2, e3, e4, e5, e6, e7, e8⟩ := q_feed hbf (xs (i + 1)) (xs (i + 2)) (xs (i + 3)) (xs (i + 4)) (xs (i + 5))
  obtain ⟨o', w1, w2⟩ := z_feed (ot := ot) e1 e4
  unfold sL_c0
  dsimp only
  simp (disch := omega) only [zl, nI_add, inb_t, ix_n, gd_tt]
  rw [w1, bd_e, e2, bd_e]
  exact (tl_int e3 w2).trans (hk _ ⟨(hwo.fcg fun i _ => e7 2 i (by omega) (by omega)).wcg fun b _ => e8 7 b, hsv.cg (e6 0 0 7 (by omega) (by omega)) (e7 0 22 (by omega) (by omega)) (fun i => e7 3 i (by omega) (by omega)) (fun k' => e8 8 k'), hpr.cg (e6 0 0 9 (by omega) (by omega)) (fun i _ => e6 0 2 i (by omega) (by omega)) (e7 0 21 (by omega) (by omega)) (fun k' => e7 6 k' (by omega) (by omega)) (fun k' _ => e8 7 k'), ⟨len', e5⟩, ⟨(e6 0 0 2 (by omega) (by omega)).trans (her.1.trans (e7 0 10 (by omega) (by omega)).symm), (e6 0 0 3 (by omega) (by omega)).trans (her.2.trans (e7 0 11 (by omega) (by omega)).symm)⟩, hpg.cg (e7 0 34 (by omega) (by omega)) (e7 0 33 (by omega) (by omega)) (fun k' => e7 15 k' (by omega) (by omega))⟩)
theorem bL_c1 (h : RG x0 x2 ps pg c m) (hi : i + 5 < L) (hL : L ≤ 3072) (hk : ∀ T', RT T' → k T' = some 1) : sL_c1 k xs L (x0, x1, x2, ps, ta, tb, d, S, pg, c, m, ot) (nI i) = some 1 := by
  have h0 := h
  obtain ⟨hwo, hsv, hpr, ⟨len, hbf⟩, her, hpg⟩ := h
  obtain ⟨n, t, ht, hws, hnw⟩ := hwo
  have hwo : WO (gL m 0 7) x0 (gI m 0 2) := ⟨n, t, ht, hws, hnw⟩
  obtain ⟨c', r, code, v, m', len', e1, e2, e3, e4, e5, e6, e7, e8⟩ := q_truncate hbf (xs (i + 1))
  obtain ⟨o', w1, w2⟩ := z_truncate (ot := ot) e1 e4
  unfold sL_c1
  dsimp only
  simp (disch := omega) only [zl, nI_add, inb_t, ix_n, gd_tt]
  rw [w1, bd_e, e2, bd_e]
  exact (tl_int e3 w2).trans (hk _ ⟨(hwo.fcg fun i _ => e7 2 i (by omega) (by omega)).wcg fun b _ => e8 7 b, hsv.cg (e6 0 0 7 (by omega) (by omega)) (e7 0 22 (by omega) (by omega)) (fun i => e7 3 i (by omega) (by omega)) (fun k' => e8 8 k'), hpr.cg (e6 0 0 9 (by omega) (by omega)) (fun i _ => e6 0 2 i (by omega) (by omega)) (e7 0 21 (by omega) (by omega)) (fun k' => e7 6 k' (by omega) (by omega)) (fun k' _ => e8 7 k'), ⟨len', e5⟩, ⟨(e6 0 0 2 (by omega) (by omega)).trans (her.1.trans (e7 0 10 (by omega) (by omega)).symm), (e6 0 0 3 (by omega) (by omega)).trans (her.2.trans (e7 0 11 (by omega) (by omega)).symm)⟩, hpg.cg (e7 0 34 (by omega) (by omega)) (e7 0 33 (by omega) (by omega)) (fun k' => e7 15 k' (by omega) (by omega))⟩)
theorem bL_c2 (h : RG x0 x2 ps pg c m) (hi : i + 5 < L) (hL : L ≤ 3072) (hk : ∀ T', RT T' → k T' = some 1) : sL_c2 k xs L (x0, x1, x2, ps, ta, tb, d, S, pg, c, m, ot) (nI i) = some 1 := by
  have h0 := h
  obtain ⟨hwo, hsv, hpr, ⟨len, hbf⟩, her, hpg⟩ := h
  obtain ⟨n, t, ht, hws, hnw⟩ := hwo
  have hwo : WO (gL m 0 7) x0 (gI m 0 2) := ⟨n, t, ht, hws, hnw⟩
  obtain ⟨y1, y2, ta', d', c', r, code, v, m', e1, e2, e3, e4, e5, e6, e7, e8, e9, f1, f2, f3⟩ := q_readText hwo hpr hbf x1 ta d
  obtain ⟨o', w1, w2⟩ := z_readText (ot := ot) e1 e4
  unfold sL_c2
  dsimp only
  simp (disch := omega) only [zl, nI_add, inb_t, ix_n, gd_tt]
  rw [w1, bd_e, e2, bd_e]
  exact (tl_int e3 w2).trans (hk _ ⟨e5, hsv.cg (f1 0 0 7 (by omega)) (f2 0 22 (by omega) (by omega) (by omega)) (fun i => f2 3 i (by omega) (by omega) (by omega)) (fun k' => f3 8 k' (by omega) (by omega) (by omega)), e6, ⟨0, e7⟩, ⟨e8, e9⟩, hpg.cg (f2 0 34 (by omega) (by omega) (by omega)) (f2 0 33 (by omega) (by omega) (by omega)) (fun k' => f2 15 k' (by omega) (by omega) (by omega))⟩)
theorem bL_c3 (h : RG x0 x2 ps pg c m) (hi : i + 5 < L) (hL : L ≤ 3072) (hk : ∀ T', RT T' → k T' = some 1) : sL_c3 k xs L (x0, x1, x2, ps, ta, tb, d, S, pg, c, m, ot) (nI i) = some 1 := by
  have h0 := h
  obtain ⟨hwo, hsv, hpr, ⟨len, hbf⟩, her, hpg⟩ := h
  obtain ⟨n, t, ht, hws, hnw⟩ := hwo
  have hwo : WO (gL m 0 7) x0 (gI m 0 2) := ⟨n, t, ht, hws, hnw⟩
  obtain ⟨y1, ps', tb', S', c', r, code, v, m', e1, e2, e3, e4, e5, e6, e7, e8, e9, f1, f2, f3⟩ := q_runScript hwo hpr hbf tb S
  obtain ⟨o', w1, w2⟩ := z_runScript (ot := ot) e1 e4
  unfold sL_c3
  dsimp only
  simp (disch := omega) only [zl, nI_add, inb_t, ix_n, gd_tt]
  rw [w1, bd_e, e2, bd_e]
  exact (tl_int e3 w2).trans (hk _ ⟨e5, hsv.cg (f1 0 0 7 (by omega) (by omega)) (f2 0 22 (by omega) (by omega) (by omega) (by omega) (by omega)) (fun i => (f2 3 i (by omega) (by omega) (by omega) (by omega) (by omega))) (fun k' => f3 8 k' (by omega)), e6, ⟨0, e7⟩, ⟨e8, e9⟩, hpg.cg (f2 0 34 (by omega) (by omega) (by omega) (by omega) (by omega)) (f2 0 33 (by omega) (by omega) (by omega) (by omega) (by omega)) (fun k' => (f2 15 k' (by omega) (by omega) (by omega) (by omega) (by omega)))⟩)
theorem bL_r4 (h : RG x0 x2 ps pg c m) (hk : ∀ T', RT T' → k T' = some 1) : sL_c4 k xs L (x0, x1, x2, ps, ta, tb, d, S, pg, c, m, ot) (nI i) = some 1 := by
  have h0 := h
  obtain ⟨hwo, hsv, hpr, ⟨len, hbf⟩, her, hpg⟩ := h
  rw [bL_c4 her.1]
  exact hk _ (h0.fq ⟨fun k' hk' => by rw [gI_pI, if_neg (by omega)], fun j k' h1 _ _ => by rw [gI_pI, if_neg (by omega)], fun k' _ => by rw [gI_pI, if_neg (by omega)], fun _ _ => rfl⟩)
theorem bL_r5 (h : RG x0 x2 ps pg c m) (hk : ∀ T', RT T' → k T' = some 1) : sL_c5 k xs L (x0, x1, x2, ps, ta, tb, d, S, pg, c, m, ot) (nI i) = some 1 := by
  have h0 := h
  obtain ⟨hwo, hsv, hpr, ⟨len, hbf⟩, her, hpg⟩ := h
  rw [bL_c5 her.2]
  exact hk _ (h0.fq ⟨fun k' hk' => by rw [gI_pI, if_neg (by omega)], fun j k' h1 _ _ => by rw [gI_pI, if_neg (by omega)], fun k' _ => by rw [gI_pI, if_neg (by omega)], fun _ _ => rfl⟩)
theorem bL_c6 (h : RG x0 x2 ps pg c m) (hi : i + 5 < L) (hL : L ≤ 3072) (hk : ∀ T', RT T' → k T' = some 1) : sL_c6 k xs L (x0, x1, x2, ps, ta, tb, d, S, pg, c, m, ot) (nI i) = some 1 := by
  have h0 := h
  obtain ⟨hwo, hsv, hpr, ⟨len, hbf⟩, her, hpg⟩ := h
  obtain ⟨n, t, ht, hws, hnw⟩ := hwo
  have hwo : WO (gL m 0 7) x0 (gI m 0 2) := ⟨n, t, ht, hws, hnw⟩
  have h21 : gI m 0 0 21 = gI c 0 0 9 := by obtain ⟨u, _, a1, a2, _⟩ := hpr; rw [a1, a2]
  obtain ⟨r, code, v, e1, e2, e3⟩ := q_setting (m := m) (c := c) hws h21 (xs (i + 1))
  rw [sr_self] at e2
  obtain ⟨o', w1, w2⟩ := z_setting (ot := ot) e1 e3
  unfold sL_c6
  dsimp only
  simp (disch := omega) only [zl, nI_add, inb_t, ix_n, gd_tt]
  rw [w1, bd_e, e2, bd_e]
  exact (tl_int (sr_code _ _ _) w2).trans (hk _ (h0.code _))
theorem bL_c7 (h : RG x0 x2 ps pg c m) (hi : i + 5 < L) (hL : L ≤ 3072) (hk : ∀ T', RT T' → k T' = some 1) : sL_c7 k xs L (x0, x1, x2, ps, ta, tb, d, S, pg, c, m, ot) (nI i) = some 1 := by
  have h0 := h
  obtain ⟨hwo, hsv, hpr, ⟨len, hbf⟩, her, hpg⟩ := h
  obtain ⟨n, t, ht, hws, hnw⟩ := hwo
  have hwo : WO (gL m 0 7) x0 (gI m 0 2) := ⟨n, t, ht, hws, hnw⟩
  obtain ⟨r, code, v, e1, e2, e3⟩ := q_beacon (m := m) hws (xs (i + 1)) (xs (i + 2))
  rw [sr_self] at e2
  obtain ⟨o', w1, w2⟩ := z_beacon (ot := ot) e1 e3
  unfold sL_c7
  dsimp only
  simp (disch := omega) only [zl, nI_add, inb_t, ix_n, gd_tt]
  rw [w1, bd_e, e2, bd_e]
  exact (tl_int (sr_code _ _ _) w2).trans (hk _ (h0.code _))
theorem bL_c8 (h : RG x0 x2 ps pg c m) (hi : i + 5 < L) (hL : L ≤ 3072) (hk : ∀ T', RT T' → k T' = some 1) : sL_c8 k xs L (x0, x1, x2, ps, ta, tb, d, S, pg, c, m, ot) (nI i) = some 1 := by
  have h0 := h
  obtain ⟨hwo, hsv, hpr, ⟨len, hbf⟩, her, hpg⟩ := h
  obtain ⟨n, t, ht, hws, hnw⟩ := hwo
  have hwo : WO (gL m 0 7) x0 (gI m 0 2) := ⟨n, t, ht, hws, hnw⟩
  obtain ⟨r, code, v, e1, e2, e3⟩ := q_slots (m := m) hws (xs (i + 1)) (xs (i + 2))
  rw [sr_self] at e2
  obtain ⟨o', w1, w2⟩ := z_slots (ot := ot) e1 e3
  unfold sL_c8
  dsimp only
  simp (disch := omega) only [zl, nI_add, inb_t, ix_n, gd_tt]
  rw [w1, bd_e, e2, bd_e]
  exact (tl_int (sr_code _ _ _) w2).trans (hk _ (h0.code _))
theorem bL_c9 (h : RG x0 x2 ps pg c m) (hi : i + 5 < L) (hL : L ≤ 3072) (hk : ∀ T', RT T' → k T' = some 1) : sL_c9 k xs L (x0, x1, x2, ps, ta, tb, d, S, pg, c, m, ot) (nI i) = some 1 := by
  have h0 := h
  obtain ⟨hwo, hsv, hpr, ⟨len, hbf⟩, her, hpg⟩ := h
  obtain ⟨n, t, ht, hws, hnw⟩ := hwo
  have hwo : WO (gL m 0 7) x0 (gI m 0 2) := ⟨n, t, ht, hws, hnw⟩
  obtain ⟨r, code, v, e1, e2, e3⟩ := q_reckoned (m := m) hws (xs (i + 1))
  rw [sr_self] at e2
  obtain ⟨o', w1, w2⟩ := z_reckoned (ot := ot) e1 e3
  unfold sL_c9
  dsimp only
  simp (disch := omega) only [zl, nI_add, inb_t, ix_n, gd_tt]
  rw [w1, bd_e, e2, bd_e]
  exact (tl_int (sr_code _ _ _) w2).trans (hk _ (h0.code _))
theorem bL_c10 (h : RG x0 x2 ps pg c m) (hi : i + 5 < L) (hL : L ≤ 3072) (hk : ∀ T', RT T' → k T' = some 1) : sL_c10 k xs L (x0, x1, x2, ps, ta, tb, d, S, pg, c, m, ot) (nI i) = some 1 := by
  have h0 := h
  obtain ⟨hwo, hsv, hpr, ⟨len, hbf⟩, her, hpg⟩ := h
  obtain ⟨n, t, ht, hws, hnw⟩ := hwo
  have hwo : WO (gL m 0 7) x0 (gI m 0 2) := ⟨n, t, ht, hws, hnw⟩
  obtain ⟨r, code, v, e1, e2, e3⟩ := q_letter (m := m) hws hnw (xs (i + 1)) (xs (i + 2))
  rw [sr_self] at e2
  obtain ⟨o', w1, w2⟩ := z_letter (ot := ot) e1 e3
  unfold sL_c10
  dsimp only
  simp (disch := omega) only [zl, nI_add, inb_t, ix_n, gd_tt]
  rw [w1, bd_e, e2, bd_e]
  exact (tl_int (sr_code _ _ _) w2).trans (hk _ (h0.code _))
theorem bL_c11 (h : RG x0 x2 ps pg c m) (hi : i + 5 < L) (hL : L ≤ 3072) (hk : ∀ T', RT T' → k T' = some 1) : sL_c11 k xs L (x0, x1, x2, ps, ta, tb, d, S, pg, c, m, ot) (nI i) = some 1 := by
  have h0 := h
  obtain ⟨hwo, hsv, hpr, ⟨len, hbf⟩, her, hpg⟩ := h
  obtain ⟨n, t, ht, hws, hnw⟩ := hwo
  have hwo : WO (gL m 0 7) x0 (gI m 0 2) := ⟨n, t, ht, hws, hnw⟩
  obtain ⟨r, code, v, e1, e2, e3⟩ := q_heard (m := m) hws (xs (i + 1)) (xs (i + 2))
  rw [sr_self] at e2
  obtain ⟨o', w1, w2⟩ := z_heard (ot := ot) e1 e3
  unfold sL_c11
  dsimp only
  simp (disch := omega) only [zl, nI_add, inb_t, ix_n, gd_tt]
  rw [w1, bd_e, e2, bd_e]
  exact (tl_int (sr_code _ _ _) w2).trans (hk _ (h0.code _))
theorem bL_c12 (h : RG x0 x2 ps pg c m) (hi : i + 5 < L) (hL : L ≤ 3072) (hk : ∀ T', RT T' → k T' = some 1) : sL_c12 k xs L (x0, x1, x2, ps, ta, tb, d, S, pg, c, m, ot) (nI i) = some 1 := by
  have h0 := h
  obtain ⟨hwo, hsv, hpr, ⟨len, hbf⟩, her, hpg⟩ := h
  obtain ⟨n, t, ht, hws, hnw⟩ := hwo
  have hwo : WO (gL m 0 7) x0 (gI m 0 2) := ⟨n, t, ht, hws, hnw⟩
  obtain ⟨r, code, v, e1, e2, e3, _⟩ := q_knows (m := m) hws (xs (i + 1)) (xs (i + 2))
  rw [sr_self] at e2
  obtain ⟨o', w1, w2⟩ := z_knows (ot := ot) e1 e3
  unfold sL_c12
  dsimp only
  simp (disch := omega) only [zl, nI_add, inb_t, ix_n, gd_tt]
  rw [w1, bd_e, e2, bd_e]
  exact (tl_bool (sr_code _ _ _) w2).trans (hk _ (h0.code _))
theorem bL_c13 (h : RG x0 x2 ps pg c m) (hk : ∀ T', RT T' → k T' = some 1) : sL_c13 k (x0, x1, x2, ps, ta, tb, d, S, pg, c, m, ot) = some 1 := by
  have h0 := h
  obtain ⟨hwo, hsv, hpr, ⟨len, hbf⟩, her, hpg⟩ := h
  obtain ⟨n, t, ht, hws, hnw⟩ := hwo
  have hwo : WO (gL m 0 7) x0 (gI m 0 2) := ⟨n, t, ht, hws, hnw⟩
  obtain ⟨v, e1, e2⟩ := q_drain (m := m) hws
  rw [sr_self] at e2
  unfold sL_c13
  dsimp only
  rw [e1, bd_e, e2, bd_e, if_pos rfl]
  exact hk _ (h0.code _)
theorem bL_c14 (h : RG x0 x2 ps pg c m) (hk : ∀ T', RT T' → k T' = some 1) : sL_c14 k (x0, x1, x2, ps, ta, tb, d, S, pg, c, m, ot) = some 1 := by
  have h0 := h
  obtain ⟨hwo, hsv, hpr, ⟨len, hbf⟩, her, hpg⟩ := h
  obtain ⟨n, t, ht, hws, hnw⟩ := hwo
  have hwo : WO (gL m 0 7) x0 (gI m 0 2) := ⟨n, t, ht, hws, hnw⟩
  obtain ⟨v, e1, e2⟩ := q_knowledge (m := m) hws
  rw [sr_self] at e2
  unfold sL_c14
  dsimp only
  rw [e1, bd_e, e2, bd_e, if_pos rfl]
  exact hk _ (h0.code _)
theorem bL_c15 (h : RG x0 x2 ps pg c m) (hi : i + 5 < L) (hL : L ≤ 3072) (hk : ∀ T', RT T' → k T' = some 1) : sL_c15 k xs L (x0, x1, x2, ps, ta, tb, d, S, pg, c, m, ot) (nI i) = some 1 := by
  have h0 := h
  obtain ⟨hwo, hsv, hpr, ⟨len, hbf⟩, her, hpg⟩ := h
  obtain ⟨n, t, ht, hws, hnw⟩ := hwo
  have hwo : WO (gL m 0 7) x0 (gI m 0 2) := ⟨n, t, ht, hws, hnw⟩
  obtain ⟨r, code, v, e1, e2, e3⟩ := q_why (m := m) hws (xs (i + 1))
  rw [sr_self] at e2
  obtain ⟨o', w1, w2⟩ := z_why (ot := ot) e1 e3
  unfold sL_c15
  dsimp only
  simp (disch := omega) only [zl, nI_add, inb_t, ix_n, gd_tt]
  rw [w1, bd_e, e2, bd_e]
  exact (tl_int (sr_code _ _ _) w2).trans (hk _ (h0.code _))
theorem bL_c16 (h : RG x0 x2 ps pg c m) (hi : i + 5 < L) (hL : L ≤ 3072) (hk : ∀ T', RT T' → k T' = some 1) : sL_c16 k xs L (x0, x1, x2, ps, ta, tb, d, S, pg, c, m, ot) (nI i) = some 1 := by
  have h0 := h
  obtain ⟨hwo, hsv, hpr, ⟨len, hbf⟩, her, hpg⟩ := h
  obtain ⟨n, t, ht, hws, hnw⟩ := hwo
  have hwo : WO (gL m 0 7) x0 (gI m 0 2) := ⟨n, t, ht, hws, hnw⟩
  obtain ⟨r, code, v, e1, e2, e3⟩ := q_whyNot (m := m) hws (xs (i + 1)) (xs (i + 2))
  rw [sr_self] at e2
  obtain ⟨o', w1, w2⟩ := z_whyNot (ot := ot) e1 e3
  unfold sL_c16
  dsimp only
  simp (disch := omega) only [zl, nI_add, inb_t, ix_n, gd_tt]
  rw [w1, bd_e, e2, bd_e]
  exact (tl_int (sr_code _ _ _) w2).trans (hk _ (h0.code _))
theorem bL_c17 (h : RG x0 x2 ps pg c m) (hi : i + 5 < L) (hL : L ≤ 3072) (hk : ∀ T', RT T' → k T' = some 1) : sL_c17 k xs L (x0, x1, x2, ps, ta, tb, d, S, pg, c, m, ot) (nI i) = some 1 := by
  have h0 := h
  obtain ⟨hwo, hsv, hpr, ⟨len, hbf⟩, her, hpg⟩ := h
  obtain ⟨n, t, ht, hws, hnw⟩ := hwo
  have hwo : WO (gL m 0 7) x0 (gI m 0 2) := ⟨n, t, ht, hws, hnw⟩
  obtain ⟨r, code, v, e1, e2, e3⟩ := q_dueIn (m := m) hws (xs (i + 1))
  rw [sr_self] at e2
  obtain ⟨o', w1, w2⟩ := z_dueIn (ot := ot) e1 e3
  unfold sL_c17
  dsimp only
  simp (disch := omega) only [zl, nI_add, inb_t, ix_n, gd_tt]
  rw [w1, bd_e, e2, bd_e]
  exact (tl_int (sr_code _ _ _) w2).trans (hk _ (h0.code _))
theorem bL_c18 (h : RG x0 x2 ps pg c m) (hi : i + 5 < L) (hL : L ≤ 3072) (hk : ∀ T', RT T' → k T' = some 1) : sL_c18 k xs L (x0, x1, x2, ps, ta, tb, d, S, pg, c, m, ot) (nI i) = some 1 := by
  have h0 := h
  obtain ⟨hwo, hsv, hpr, ⟨len, hbf⟩, her, hpg⟩ := h
  obtain ⟨n, t, ht, hws, hnw⟩ := hwo
  have hwo : WO (gL m 0 7) x0 (gI m 0 2) := ⟨n, t, ht, hws, hnw⟩
  obtain ⟨r, code, v, e1, e2, e3⟩ := q_hidden (m := m) hws (xs (i + 1))
  rw [sr_self] at e2
  obtain ⟨o', w1, w2⟩ := z_hidden (ot := ot) e1 e3
  unfold sL_c18
  dsimp only
  simp (disch := omega) only [zl, nI_add, inb_t, ix_n, gd_tt]
  rw [w1, bd_e, e2, bd_e]
  exact (tl_int (sr_code _ _ _) w2).trans (hk _ (h0.code _))
theorem bL_c19 (h : RG x0 x2 ps pg c m) (hi : i + 5 < L) (hL : L ≤ 3072) (hk : ∀ T', RT T' → k T' = some 1) : sL_c19 k xs L (x0, x1, x2, ps, ta, tb, d, S, pg, c, m, ot) (nI i) = some 1 := by
  have h0 := h
  obtain ⟨hwo, hsv, hpr, ⟨len, hbf⟩, her, hpg⟩ := h
  obtain ⟨n, t, ht, hws, hnw⟩ := hwo
  have hwo : WO (gL m 0 7) x0 (gI m 0 2) := ⟨n, t, ht, hws, hnw⟩
  obtain ⟨r, code, v, e1, e2, e3⟩ := q_hops (m := m) hws (xs (i + 1)) (xs (i + 2))
  rw [sr_self] at e2
  obtain ⟨o', w1, w2⟩ := z_hops (ot := ot) e1 e3
  unfold sL_c19
  dsimp only
  simp (disch := omega) only [zl, nI_add, inb_t, ix_n, gd_tt]
  rw [w1, bd_e, e2, bd_e]
  exact (tl_int (sr_code _ _ _) w2).trans (hk _ (h0.code _))
theorem bL_c20 (h : RG x0 x2 ps pg c m) (hi : i + 5 < L) (hL : L ≤ 3072) (hk : ∀ T', RT T' → k T' = some 1) : sL_c20 k xs L (x0, x1, x2, ps, ta, tb, d, S, pg, c, m, ot) (nI i) = some 1 := by
  have h0 := h
  obtain ⟨hwo, hsv, hpr, ⟨len, hbf⟩, her, hpg⟩ := h
  obtain ⟨n, t, ht, hws, hnw⟩ := hwo
  have hwo : WO (gL m 0 7) x0 (gI m 0 2) := ⟨n, t, ht, hws, hnw⟩
  obtain ⟨v, e1, e2⟩ := q_groups (m := m) hws
  rw [sr_self] at e2
  unfold sL_c20
  dsimp only
  rw [e1, bd_e, e2, bd_e, if_pos rfl]
  exact hk _ (h0.code _)
theorem bL_c21 (h : RG x0 x2 ps pg c m) (hi : i + 5 < L) (hL : L ≤ 3072) (hk : ∀ T', RT T' → k T' = some 1) : sL_c21 k xs L (x0, x1, x2, ps, ta, tb, d, S, pg, c, m, ot) (nI i) = some 1 := by
  have h0 := h
  obtain ⟨hwo, hsv, hpr, ⟨len, hbf⟩, her, hpg⟩ := h
  obtain ⟨n, t, ht, hws, hnw⟩ := hwo
  have hwo : WO (gL m 0 7) x0 (gI m 0 2) := ⟨n, t, ht, hws, hnw⟩
  obtain ⟨r, code, v, e1, e2, e3⟩ := q_ears (m := m) hws (xs (i + 1))
  rw [sr_self] at e2
  obtain ⟨o', w1, w2⟩ := z_ears (ot := ot) e1 e3
  unfold sL_c21
  dsimp only
  simp (disch := omega) only [zl, nI_add, inb_t, ix_n, gd_tt]
  rw [w1, bd_e, e2, bd_e]
  exact (tl_int (sr_code _ _ _) w2).trans (hk _ (h0.code _))
theorem bL_c22 (h : RG x0 x2 ps pg c m) (hi : i + 5 < L) (hL : L ≤ 3072) (hk : ∀ T', RT T' → k T' = some 1) : sL_c22 k xs L (x0, x1, x2, ps, ta, tb, d, S, pg, c, m, ot) (nI i) = some 1 := by
  have h0 := h
  obtain ⟨hwo, hsv, hpr, ⟨len, hbf⟩, her, hpg⟩ := h
  obtain ⟨n, t, ht, hws, hnw⟩ := hwo
  have hwo : WO (gL m 0 7) x0 (gI m 0 2) := ⟨n, t, ht, hws, hnw⟩
  obtain ⟨v, e1, e2⟩ := q_earliest (m := m) hws
  rw [sr_self] at e2
  unfold sL_c22
  dsimp only
  rw [e1, bd_e, e2, bd_e, if_pos rfl]
  exact hk _ (h0.code _)
theorem bL_c23 (h : RG x0 x2 ps pg c m) (hi : i + 5 < L) (hL : L ≤ 3072) (hk : ∀ T', RT T' → k T' = some 1) : sL_c23 k xs L (x0, x1, x2, ps, ta, tb, d, S, pg, c, m, ot) (nI i) = some 1 := by
  have h0 := h
  obtain ⟨hwo, hsv, hpr, ⟨len, hbf⟩, her, hpg⟩ := h
  obtain ⟨n, t, ht, hws, hnw⟩ := hwo
  have hwo : WO (gL m 0 7) x0 (gI m 0 2) := ⟨n, t, ht, hws, hnw⟩
  obtain ⟨r, code, v, e1, e2, e3⟩ := q_window (m := m) hws (xs (i + 1))
  rw [sr_self] at e2
  obtain ⟨o', w1, w2⟩ := z_window (ot := ot) e1 e3
  unfold sL_c23
  dsimp only
  simp (disch := omega) only [zl, nI_add, inb_t, ix_n, gd_tt]
  rw [w1, bd_e, e2, bd_e]
  exact (tl_int (sr_code _ _ _) w2).trans (hk _ (h0.code _))
theorem bL_c24 (h : RG x0 x2 ps pg c m) (hi : i + 5 < L) (hL : L ≤ 3072) (hk : ∀ T', RT T' → k T' = some 1) : sL_c24 k xs L (x0, x1, x2, ps, ta, tb, d, S, pg, c, m, ot) (nI i) = some 1 := by
  have h0 := h
  obtain ⟨hwo, hsv, hpr, ⟨len, hbf⟩, her, hpg⟩ := h
  obtain ⟨n, t, ht, hws, hnw⟩ := hwo
  have hwo : WO (gL m 0 7) x0 (gI m 0 2) := ⟨n, t, ht, hws, hnw⟩
  obtain ⟨y, r, code, v, m', e1, e2, e3, e4, e5⟩ := q_stateIn (m := m) (x1 := x1) hws ht (xs (i + 1)) (xs (i + 2))
  rw [sr_self] at e2 e4
  obtain ⟨o', w1, w2⟩ := z_stateIn (ot := ot) e1 e5
  unfold sL_c24
  dsimp only
  simp (disch := omega) only [zl, nI_add, inb_t, ix_n, gd_tt]
  rw [w1, bd_e, e2, bd_e]
  exact (tl_int e3 w2).trans (hk _ (h0.fq e4))
theorem bL_c25 (h : RG x0 x2 ps pg c m) (hi : i + 5 < L) (hL : L ≤ 3072) (hk : ∀ T', RT T' → k T' = some 1) : sL_c25 k xs L (x0, x1, x2, ps, ta, tb, d, S, pg, c, m, ot) (nI i) = some 1 := by
  have h0 := h
  obtain ⟨hwo, hsv, hpr, ⟨len, hbf⟩, her, hpg⟩ := h
  obtain ⟨n, t, ht, hws, hnw⟩ := hwo
  have hwo : WO (gL m 0 7) x0 (gI m 0 2) := ⟨n, t, ht, hws, hnw⟩
  obtain ⟨y, r, code, v, m', e1, e2, e3, e4, e5⟩ := q_energyIn (m := m) (x1 := x1) hws ht (xs (i + 1)) (xs (i + 2))
  rw [sr_self] at e2 e4
  obtain ⟨o', w1, w2⟩ := z_energyIn (ot := ot) e1 e5
  unfold sL_c25
  dsimp only
  simp (disch := omega) only [zl, nI_add, inb_t, ix_n, gd_tt]
  rw [w1, bd_e, e2, bd_e]
  exact (tl_int e3 w2).trans (hk _ (h0.fq e4))
theorem bL_c26 (h : RG x0 x2 ps pg c m) (hi : i + 5 < L) (hL : L ≤ 3072) (hk : ∀ T', RT T' → k T' = some 1) : sL_c26 k xs L (x0, x1, x2, ps, ta, tb, d, S, pg, c, m, ot) (nI i) = some 1 := by
  have h0 := h
  obtain ⟨hwo, hsv, hpr, ⟨len, hbf⟩, her, hpg⟩ := h
  obtain ⟨n, t, ht, hws, hnw⟩ := hwo
  have hwo : WO (gL m 0 7) x0 (gI m 0 2) := ⟨n, t, ht, hws, hnw⟩
  obtain ⟨y, r, code, v, m', e1, e2, e3, e4, e5⟩ := q_collisionsIn (m := m) (x1 := x1) hws ht (xs (i + 1))
  rw [sr_self] at e2 e4
  obtain ⟨o', w1, w2⟩ := z_collisionsIn (ot := ot) e1 e5
  unfold sL_c26
  dsimp only
  simp (disch := omega) only [zl, nI_add, inb_t, ix_n, gd_tt]
  rw [w1, bd_e, e2, bd_e]
  exact (tl_int e3 w2).trans (hk _ (h0.fq e4))
theorem bL_c27 (h : RG x0 x2 ps pg c m) (hi : i + 5 < L) (hL : L ≤ 3072) (hk : ∀ T', RT T' → k T' = some 1) : sL_c27 k xs L (x0, x1, x2, ps, ta, tb, d, S, pg, c, m, ot) (nI i) = some 1 := by
  have h0 := h
  obtain ⟨hwo, hsv, hpr, ⟨len, hbf⟩, her, hpg⟩ := h
  obtain ⟨n, t, ht, hws, hnw⟩ := hwo
  have hwo : WO (gL m 0 7) x0 (gI m 0 2) := ⟨n, t, ht, hws, hnw⟩
  obtain ⟨y, r, code, v, m', e1, e2, e3, e4, e5⟩ := q_knowsIn (m := m) (x1 := x1) hws ht (xs (i + 1)) (xs (i + 2))
  rw [sr_self] at e2 e4
  obtain ⟨o', w1, w2⟩ := z_knowsIn (ot := ot) e1 e5
  unfold sL_c27
  dsimp only
  simp (disch := omega) only [zl, nI_add, inb_t, ix_n, gd_tt]
  rw [w1, bd_e, e2, bd_e]
  exact (tl_int e3 w2).trans (hk _ (h0.fq e4))
theorem bL_c28 (h : RG x0 x2 ps pg c m) (hi : i + 5 < L) (hL : L ≤ 3072) (hk : ∀ T', RT T' → k T' = some 1) : sL_c28 k xs L (x0, x1, x2, ps, ta, tb, d, S, pg, c, m, ot) (nI i) = some 1 := by
  have h0 := h
  obtain ⟨hwo, hsv, hpr, ⟨len, hbf⟩, her, hpg⟩ := h
  obtain ⟨n, t, ht, hws, hnw⟩ := hwo
  have hwo : WO (gL m 0 7) x0 (gI m 0 2) := ⟨n, t, ht, hws, hnw⟩
  obtain ⟨y, v, m', e1, e2, e3⟩ := q_allKnownIn (m := m) (x1 := x1) hws ht
  rw [sr_self] at e2 e3
  unfold sL_c28
  dsimp only
  rw [e1, bd_e, e2, bd_e, if_pos rfl]
  exact hk _ (h0.fq e3)
theorem bL_c29 (h : RG x0 x2 ps pg c m) (hi : i + 5 < L) (hL : L ≤ 3072) (hk : ∀ T', RT T' → k T' = some 1) : sL_c29 k xs L (x0, x1, x2, ps, ta, tb, d, S, pg, c, m, ot) (nI i) = some 1 := by
  have h0 := h
  obtain ⟨hwo, hsv, hpr, ⟨len, hbf⟩, her, hpg⟩ := h
  obtain ⟨n, t, ht, hws, hnw⟩ := hwo
  have hwo : WO (gL m 0 7) x0 (gI m 0 2) := ⟨n, t, ht, hws, hnw⟩
  obtain ⟨y, r, code, v, m', e1, e2, e3, e4, e5⟩ := q_outIn (m := m) (x1 := x1) hws ht (xs (i + 1))
  rw [sr_self] at e2 e4
  obtain ⟨o', w1, w2⟩ := z_outIn (ot := ot) e1 e5
  unfold sL_c29
  dsimp only
  simp (disch := omega) only [zl, nI_add, inb_t, ix_n, gd_tt]
  rw [w1, bd_e, e2, bd_e]
  exact (tl_int e3 w2).trans (hk _ (h0.fq e4))
theorem bL_c30 (h : RG x0 x2 ps pg c m) (hi : i + 5 < L) (hL : L ≤ 3072) (hk : ∀ T', RT T' → k T' = some 1) : sL_c30 k xs L (x0, x1, x2, ps, ta, tb, d, S, pg, c, m, ot) (nI i) = some 1 := by
  have h0 := h
  obtain ⟨hwo, hsv, hpr, ⟨len, hbf⟩, her, hpg⟩ := h
  obtain ⟨n, t, ht, hws, hnw⟩ := hwo
  have hwo : WO (gL m 0 7) x0 (gI m 0 2) := ⟨n, t, ht, hws, hnw⟩
  obtain ⟨y, r, code, v, m', e1, e2, e3, e4, e5⟩ := q_sendsIn (m := m) (x1 := x1) hws ht (xs (i + 1))
  rw [sr_self] at e2 e4
  obtain ⟨o', w1, w2⟩ := z_sendsIn (ot := ot) e1 e5
  unfold sL_c30
  dsimp only
  simp (disch := omega) only [zl, nI_add, inb_t, ix_n, gd_tt]
  rw [w1, bd_e, e2, bd_e]
  exact (tl_int e3 w2).trans (hk _ (h0.fq e4))
theorem bL_c31 (h : RG x0 x2 ps pg c m) (hi : i + 5 < L) (hL : L ≤ 3072) (hk : ∀ T', RT T' → k T' = some 1) : sL_c31 k xs L (x0, x1, x2, ps, ta, tb, d, S, pg, c, m, ot) (nI i) = some 1 := by
  have h0 := h
  obtain ⟨hwo, hsv, hpr, ⟨len, hbf⟩, her, hpg⟩ := h
  obtain ⟨n, t, ht, hws, hnw⟩ := hwo
  have hwo : WO (gL m 0 7) x0 (gI m 0 2) := ⟨n, t, ht, hws, hnw⟩
  obtain ⟨y, r, code, v, m', e1, e2, e3, e4, e5⟩ := q_wellIn (m := m) (x1 := x1) hws ht (xs (i + 1))
  rw [sr_self] at e2 e4
  obtain ⟨o', w1, w2⟩ := z_wellIn (ot := ot) e1 e5
  unfold sL_c31
  dsimp only
  simp (disch := omega) only [zl, nI_add, inb_t, ix_n, gd_tt]
  rw [w1, bd_e, e2, bd_e]
  exact (tl_int e3 w2).trans (hk _ (h0.fq e4))
theorem bL_c32 (h : RG x0 x2 ps pg c m) (hi : i + 5 < L) (hL : L ≤ 3072) (hk : ∀ T', RT T' → k T' = some 1) : sL_c32 k xs L (x0, x1, x2, ps, ta, tb, d, S, pg, c, m, ot) (nI i) = some 1 := by
  have h0 := h
  obtain ⟨hwo, hsv, hpr, ⟨len, hbf⟩, her, hpg⟩ := h
  obtain ⟨n, t, ht, hws, hnw⟩ := hwo
  have hwo : WO (gL m 0 7) x0 (gI m 0 2) := ⟨n, t, ht, hws, hnw⟩
  obtain ⟨y, r, code, v, m', e1, e2, e3, e4, e5⟩ := q_bestAt (m := m) (x1 := x1) hws ht (xs (i + 1))
  rw [sr_self] at e2 e4
  obtain ⟨o', w1, w2⟩ := z_bestAt (ot := ot) e1 e5
  unfold sL_c32
  dsimp only
  simp (disch := omega) only [zl, nI_add, inb_t, ix_n, gd_tt]
  rw [w1, bd_e, e2, bd_e]
  exact (tl_int e3 w2).trans (hk _ (h0.fq e4))
theorem bL_c33 (h : RG x0 x2 ps pg c m) (hi : i + 5 < L) (hL : L ≤ 3072) (hk : ∀ T', RT T' → k T' = some 1) : sL_c33 k xs L (x0, x1, x2, ps, ta, tb, d, S, pg, c, m, ot) (nI i) = some 1 := by
  have h0 := h
  obtain ⟨hwo, hsv, hpr, ⟨len, hbf⟩, her, hpg⟩ := h
  obtain ⟨n, t, ht, hws, hnw⟩ := hwo
  have hwo : WO (gL m 0 7) x0 (gI m 0 2) := ⟨n, t, ht, hws, hnw⟩
  obtain ⟨y, r, code, v, m', e1, e2, e3, e4, e5⟩ := q_bestEvery (m := m) (x1 := x1) hws ht (xs (i + 1))
  rw [sr_self] at e2 e4
  obtain ⟨o', w1, w2⟩ := z_bestEvery (ot := ot) e1 e5
  unfold sL_c33
  dsimp only
  simp (disch := omega) only [zl, nI_add, inb_t, ix_n, gd_tt]
  rw [w1, bd_e, e2, bd_e]
  exact (tl_int e3 w2).trans (hk _ (h0.fq e4))
theorem bL_c34 (h : RG x0 x2 ps pg c m) (hi : i + 5 < L) (hL : L ≤ 3072) (hk : ∀ T', RT T' → k T' = some 1) : sL_c34 k xs L (x0, x1, x2, ps, ta, tb, d, S, pg, c, m, ot) (nI i) = some 1 := by
  have h0 := h
  obtain ⟨hwo, hsv, hpr, ⟨len, hbf⟩, her, hpg⟩ := h
  obtain ⟨n, t, ht, hws, hnw⟩ := hwo
  have hwo : WO (gL m 0 7) x0 (gI m 0 2) := ⟨n, t, ht, hws, hnw⟩
  obtain ⟨y, ps', c', r, code, v, m', e1, e2, e3, e4, e5, e6, e7, e8⟩ := q_run (m := m) hws ht hnw hpr (xs (i + 1))
  rw [sr_self] at e2 e4
  obtain ⟨o', w1, w2⟩ := z_run (ot := ot) e1 e5
  unfold sL_c34
  dsimp only
  simp (disch := omega) only [zl, nI_add, inb_t, ix_n, gd_tt]
  rw [w1, bd_e, e2, bd_e]
  exact (tl_int e3 w2).trans (hk _ (h0.chg e4 e8 e6 e7))
theorem bL_c35 (h : RG x0 x2 ps pg c m) (hi : i + 5 < L) (hL : L ≤ 3072) (hk : ∀ T', RT T' → k T' = some 1) : sL_c35 k xs L (x0, x1, x2, ps, ta, tb, d, S, pg, c, m, ot) (nI i) = some 1 := by
  have h0 := h
  obtain ⟨hwo, hsv, hpr, ⟨len, hbf⟩, her, hpg⟩ := h
  obtain ⟨n, t, ht, hws, hnw⟩ := hwo
  have hwo : WO (gL m 0 7) x0 (gI m 0 2) := ⟨n, t, ht, hws, hnw⟩
  obtain ⟨y, ps', c', r, code, v, m', e1, e2, e3, e4, e5, e6, e7, e8⟩ := q_wake (m := m) hws ht hnw hpr (xs (i + 1))
  rw [sr_self] at e2 e4
  obtain ⟨o', w1, w2⟩ := z_wake (ot := ot) e1 e5
  unfold sL_c35
  dsimp only
  simp (disch := omega) only [zl, nI_add, inb_t, ix_n, gd_tt]
  rw [w1, bd_e, e2, bd_e]
  exact (tl_int e3 w2).trans (hk _ (h0.chg e4 e8 e6 e7))
theorem bL_c36 (h : RG x0 x2 ps pg c m) (hi : i + 5 < L) (hL : L ≤ 3072) (hk : ∀ T', RT T' → k T' = some 1) : sL_c36 k xs L (x0, x1, x2, ps, ta, tb, d, S, pg, c, m, ot) (nI i) = some 1 := by
  have h0 := h
  obtain ⟨hwo, hsv, hpr, ⟨len, hbf⟩, her, hpg⟩ := h
  obtain ⟨n, t, ht, hws, hnw⟩ := hwo
  have hwo : WO (gL m 0 7) x0 (gI m 0 2) := ⟨n, t, ht, hws, hnw⟩
  obtain ⟨y, ps', c', r, code, v, m', e1, e2, e3, e4, e5, e6, e7, e8⟩ := q_setEvery (m := m) hws ht hnw hpr (xs (i + 1)) (xs (i + 2))
  rw [sr_self] at e2 e4
  obtain ⟨o', w1, w2⟩ := z_setEvery (ot := ot) e1 e5
  unfold sL_c36
  dsimp only
  simp (disch := omega) only [zl, nI_add, inb_t, ix_n, gd_tt]
  rw [w1, bd_e, e2, bd_e]
  exact (tl_int e3 w2).trans (hk _ (h0.chg e4 e8 e6 e7))
theorem bL_c37 (h : RG x0 x2 ps pg c m) (hi : i + 5 < L) (hL : L ≤ 3072) (hk : ∀ T', RT T' → k T' = some 1) : sL_c37 k xs L (x0, x1, x2, ps, ta, tb, d, S, pg, c, m, ot) (nI i) = some 1 := by
  have h0 := h
  obtain ⟨hwo, hsv, hpr, ⟨len, hbf⟩, her, hpg⟩ := h
  obtain ⟨n, t, ht, hws, hnw⟩ := hwo
  have hwo : WO (gL m 0 7) x0 (gI m 0 2) := ⟨n, t, ht, hws, hnw⟩
  obtain ⟨y, ps', c', r, code, v, m', e1, e2, e3, e4, e5, e6, e7, e8⟩ := q_setAt (m := m) hws ht hnw hpr (xs (i + 1)) (xs (i + 2))
  rw [sr_self] at e2 e4
  obtain ⟨o', w1, w2⟩ := z_setAt (ot := ot) e1 e5
  unfold sL_c37
  dsimp only
  simp (disch := omega) only [zl, nI_add, inb_t, ix_n, gd_tt]
  rw [w1, bd_e, e2, bd_e]
  exact (tl_int e3 w2).trans (hk _ (h0.chg e4 e8 e6 e7))
theorem bL_c38 (h : RG x0 x2 ps pg c m) (hi : i + 5 < L) (hL : L ≤ 3072) (hk : ∀ T', RT T' → k T' = some 1) : sL_c38 k xs L (x0, x1, x2, ps, ta, tb, d, S, pg, c, m, ot) (nI i) = some 1 := by
  have h0 := h
  obtain ⟨hwo, hsv, hpr, ⟨len, hbf⟩, her, hpg⟩ := h
  obtain ⟨n, t, ht, hws, hnw⟩ := hwo
  have hwo : WO (gL m 0 7) x0 (gI m 0 2) := ⟨n, t, ht, hws, hnw⟩
  obtain ⟨y, ps', c', r, code, v, m', e1, e2, e3, e4, e5, e6, e7, e8⟩ := q_charge (m := m) hws ht hnw hpr (xs (i + 1)) (xs (i + 2))
  rw [sr_self] at e2 e4
  obtain ⟨o', w1, w2⟩ := z_charge (ot := ot) e1 e5
  unfold sL_c38
  dsimp only
  simp (disch := omega) only [zl, nI_add, inb_t, ix_n, gd_tt]
  rw [w1, bd_e, e2, bd_e]
  exact (tl_int e3 w2).trans (hk _ (h0.chg e4 e8 e6 e7))
theorem bL_c39 (h : RG x0 x2 ps pg c m) (hi : i + 5 < L) (hL : L ≤ 3072) (hk : ∀ T', RT T' → k T' = some 1) : sL_c39 k xs L (x0, x1, x2, ps, ta, tb, d, S, pg, c, m, ot) (nI i) = some 1 := by
  have h0 := h
  obtain ⟨hwo, hsv, hpr, ⟨len, hbf⟩, her, hpg⟩ := h
  obtain ⟨n, t, ht, hws, hnw⟩ := hwo
  have hwo : WO (gL m 0 7) x0 (gI m 0 2) := ⟨n, t, ht, hws, hnw⟩
  unfold sL_c39
  dsimp only
  simp (disch := omega) only [zl, nI_add, inb_t, ix_n, gd_tt]
  by_cases hx : xs (i + 3) = nI 0
  · obtain ⟨y, ps', c', r, code, v, m', e1, e2, e3, e4, e5, e6, e7, e8⟩ := q_setNear (m := m) hws ht hnw hpr (xs (i + 1)) (xs (i + 2)) false
    rw [sr_self] at e2 e4
    have e1 : sX6_setNear x0 ps c (xs (i + 1)) (xs (i + 2)) (nI 0) = some (y, ps', c', r) := e1
    have e2 : sX7_setNear m (xs (i + 1)) (xs (i + 2)) (nI 0) = some (m', v) := e2
    obtain ⟨o', w1, w2⟩ := z_setNear (ot := ot) e1 e5
    rw [if_pos hx, w1, bd_e, if_pos hx, e2, bd_e]
    exact (tl_bool e3 w2).trans (hk _ (h0.chg e4 e8 e6 e7))
  · obtain ⟨y, ps', c', r, code, v, m', e1, e2, e3, e4, e5, e6, e7, e8⟩ := q_setNear (m := m) hws ht hnw hpr (xs (i + 1)) (xs (i + 2)) true
    rw [sr_self] at e2 e4
    have e1 : sX6_setNear x0 ps c (xs (i + 1)) (xs (i + 2)) (nI 1) = some (y, ps', c', r) := e1
    have e2 : sX7_setNear m (xs (i + 1)) (xs (i + 2)) (nI 1) = some (m', v) := e2
    obtain ⟨o', w1, w2⟩ := z_setNear (ot := ot) e1 e5
    rw [if_neg hx, w1, bd_e, if_neg hx, e2, bd_e]
    exact (tl_bool e3 w2).trans (hk _ (h0.chg e4 e8 e6 e7))
theorem bL_c40 (h : RG x0 x2 ps pg c m) (hi : i + 5 < L) (hL : L ≤ 3072) (hk : ∀ T', RT T' → k T' = some 1) : sL_c40 k xs L (x0, x1, x2, ps, ta, tb, d, S, pg, c, m, ot) (nI i) = some 1 := by
  have h0 := h
  obtain ⟨hwo, hsv, hpr, ⟨len, hbf⟩, her, hpg⟩ := h
  obtain ⟨n, t, ht, hws, hnw⟩ := hwo
  have hwo : WO (gL m 0 7) x0 (gI m 0 2) := ⟨n, t, ht, hws, hnw⟩
  obtain ⟨y, ps', c', r, code, v, m', e1, e2, e3, e4, e5, e6, e7, e8⟩ := q_setTries (m := m) hws ht hnw hpr (xs (i + 1))
  rw [sr_self] at e2 e4
  obtain ⟨o', w1, w2⟩ := z_setTries (ot := ot) e1 e5
  unfold sL_c40
  dsimp only
  simp (disch := omega) only [zl, nI_add, inb_t, ix_n, gd_tt]
  rw [w1, bd_e, e2, bd_e]
  exact (tl_int e3 w2).trans (hk _ (h0.chg e4 e8 e6 e7))
theorem bL_c41 (h : RG x0 x2 ps pg c m) (hi : i + 5 < L) (hL : L ≤ 3072) (hk : ∀ T', RT T' → k T' = some 1) : sL_c41 k xs L (x0, x1, x2, ps, ta, tb, d, S, pg, c, m, ot) (nI i) = some 1 := by
  have h0 := h
  obtain ⟨hwo, hsv, hpr, ⟨len, hbf⟩, her, hpg⟩ := h
  obtain ⟨n, t, ht, hws, hnw⟩ := hwo
  have hwo : WO (gL m 0 7) x0 (gI m 0 2) := ⟨n, t, ht, hws, hnw⟩
  obtain ⟨y, m', v, e1, e2, e3, e4, e5⟩ := q_report (pg := pg) hws hnw
  unfold sL_c41
  dsimp only
  rw [e1, bd_e, e2, bd_e, if_pos rfl]
  refine hk _ ⟨(hwo.fcg fun i _ => e4 2 i (by omega) (by omega)).wcg fun b _ => e5 7 b, hsv.cg rfl (e4 0 22 (by omega) (by omega)) (fun i => e4 3 i (by omega) (by omega)) (fun k' => e5 8 k'), hpr.cg rfl (fun _ _ => rfl) (e4 0 21 (by omega) (by omega)) (fun k' => e4 6 k' (by omega) (by omega)) (fun k' _ => e5 7 k'), ⟨len, hbf.cg rfl (fun _ => rfl) (e4 0 2 (by omega) (by omega)) (fun k' => e4 1 k' (by omega) (by omega))⟩, ⟨her.1.trans (e4 0 10 (by omega) (by omega)).symm, her.2.trans (e4 0 11 (by omega) (by omega)).symm⟩, e3⟩
theorem bL_c42 (h : RG x0 x2 ps pg c m) (hi : i + 5 < L) (hL : L ≤ 3072) (hk : ∀ T', RT T' → k T' = some 1) : sL_c42 k xs L (x0, x1, x2, ps, ta, tb, d, S, pg, c, m, ot) (nI i) = some 1 := by
  have h0 := h
  obtain ⟨hwo, hsv, hpr, ⟨len, hbf⟩, her, hpg⟩ := h
  obtain ⟨n, t, ht, hws, hnw⟩ := hwo
  have hwo : WO (gL m 0 7) x0 (gI m 0 2) := ⟨n, t, ht, hws, hnw⟩
  obtain ⟨r, code, v, e1, e2, e3⟩ := q_reportByte hpg (xs (i + 1))
  obtain ⟨o', w1, w2⟩ := z_reportByte (ot := ot) e1 e3
  unfold sL_c42
  dsimp only
  simp (disch := omega) only [zl, nI_add, inb_t, ix_n, gd_tt]
  rw [w1, bd_e, e2, bd_e]
  exact (tl_int (by rw [gI_pI, if_pos ⟨rfl, rfl, rfl⟩]) w2).trans (hk _ (h0.fq ⟨fun k' hk' => by rw [gI_pI, if_neg (by omega)], fun j k' h1 _ _ => by rw [gI_pI, if_neg (by omega)], fun k' _ => by rw [gI_pI, if_neg (by omega)], fun _ _ => rfl⟩))
theorem bL_c43 (h : RG x0 x2 ps pg c m) (hi : i + 5 < L) (hL : L ≤ 3072) (hk : ∀ T', RT T' → k T' = some 1) : sL_c43 k xs L (x0, x1, x2, ps, ta, tb, d, S, pg, c, m, ot) (nI i) = some 1 := by
  have h0 := h
  obtain ⟨hwo, hsv, hpr, ⟨len, hbf⟩, her, hpg⟩ := h
  obtain ⟨n, t, ht, hws, hnw⟩ := hwo
  have hwo : WO (gL m 0 7) x0 (gI m 0 2) := ⟨n, t, ht, hws, hnw⟩
  obtain ⟨y, c', v, m', e1, e2, e3, e4, e5, e6⟩ := q_undo hwo hpr
  unfold sL_c43
  dsimp only
  rw [e1, bd_e, e2, bd_e, if_pos rfl]
  exact hk _ (h0.chg e6 e5 e3 e4)
theorem bL_c44 (h : RG x0 x2 ps pg c m) (hi : i + 5 < L) (hL : L ≤ 3072) (hk : ∀ T', RT T' → k T' = some 1) : sL_c44 k xs L (x0, x1, x2, ps, ta, tb, d, S, pg, c, m, ot) (nI i) = some 1 := by
  have h0 := h
  obtain ⟨hwo, hsv, hpr, ⟨len, hbf⟩, her, hpg⟩ := h
  obtain ⟨n, t, ht, hws, hnw⟩ := hwo
  have hwo : WO (gL m 0 7) x0 (gI m 0 2) := ⟨n, t, ht, hws, hnw⟩
  obtain ⟨y, c', v, m', e1, e2, e3, e4, e5, e6⟩ := q_save (x2 := x2) (c := c) hwo
  unfold sL_c44
  dsimp only
  rw [e1, bd_e, e2, bd_e, if_pos rfl]
  exact hk _ ⟨(hwo.fcg fun i _ => e5 2 i (by omega) (by omega)).wcg fun b _ => e6 7 b (by omega), e3, hpr.cg (e4 0 0 9 (by omega)) (fun i _ => e4 0 2 i (by omega)) (e5 0 21 (by omega) (by omega)) (fun k' => e5 6 k' (by omega) (by omega)) (fun k' _ => e6 7 k' (by omega)), ⟨len, hbf.cg (e4 0 0 1 (by omega)) (fun k' => e4 0 1 k' (by omega)) (e5 0 2 (by omega) (by omega)) (fun k' => e5 1 k' (by omega) (by omega))⟩, ⟨(e4 0 0 2 (by omega)).trans (her.1.trans (e5 0 10 (by omega) (by omega)).symm), (e4 0 0 3 (by omega)).trans (her.2.trans (e5 0 11 (by omega) (by omega)).symm)⟩, hpg.cg (e5 0 34 (by omega) (by omega)) (e5 0 33 (by omega) (by omega)) (fun k' => e5 15 k' (by omega) (by omega))⟩
theorem bL_c45 (h : RG x0 x2 ps pg c m) (hi : i + 5 < L) (hL : L ≤ 3072) (hk : ∀ T', RT T' → k T' = some 1) : sL_c45 k xs L (x0, x1, x2, ps, ta, tb, d, S, pg, c, m, ot) (nI i) = some 1 := by
  have h0 := h
  obtain ⟨hwo, hsv, hpr, ⟨len, hbf⟩, her, hpg⟩ := h
  obtain ⟨n, t, ht, hws, hnw⟩ := hwo
  have hwo : WO (gL m 0 7) x0 (gI m 0 2) := ⟨n, t, ht, hws, hnw⟩
  obtain ⟨y, c', r, code, v, m', e1, e2, e3, e4, e5, e6, e7, e8, e9⟩ := q_restore hwo hpr hsv
  obtain ⟨o', w1, w2⟩ := z_restore (ot := ot) e1 e4
  unfold sL_c45
  dsimp only
  simp (disch := omega) only [zl, nI_add, inb_t, ix_n, gd_tt]
  rw [w1, bd_e, e2, bd_e]
  exact (tl_int e3 w2).trans (hk _ ⟨e5, hsv.cg (e7 0 0 7 (by omega)) (e8 0 22 (by omega) (by omega)) (fun i => e8 3 i (by omega) (by omega)) (fun k' => e9 8 k' (by omega)), e6, ⟨len, hbf.cg (e7 0 0 1 (by omega)) (fun k' => e7 0 1 k' (by omega)) (e8 0 2 (by omega) (by omega)) (fun k' => e8 1 k' (by omega) (by omega))⟩, ⟨(e7 0 0 2 (by omega)).trans (her.1.trans (e8 0 10 (by omega) (by omega)).symm), (e7 0 0 3 (by omega)).trans (her.2.trans (e8 0 11 (by omega) (by omega)).symm)⟩, hpg.cg (e8 0 34 (by omega) (by omega)) (e8 0 33 (by omega) (by omega)) (fun k' => e8 15 k' (by omega) (by omega))⟩)
end
