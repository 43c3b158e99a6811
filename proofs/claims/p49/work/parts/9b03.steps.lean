/-! stage B: a beacon's steps in the law's world -/
def YC (k : Nat) (Y Y' : St) : Prop := ∀ o j i, ¬ (o = k + 1 ∧ j = 0 ∧ (i = 5 ∨ i = 6 ∨ i = 11)) → ¬ (o = k + 1 ∧ j = 3) → ¬ (o = 0 ∧ j = 0 ∧ i = 1) → gI Y' o j i = gI Y o j i
section
variable {n t cm wl wm e k b : Nat} {q : Bool} {x x' m Y Y' : St} {f f' : Nat → Int32}
theorem YC.rf : YC k Y Y := fun _ _ _ _ _ _ => rfl
theorem YC.tr {Y2 : St} (h : YC k Y Y') (h2 : YC k Y' Y2) : YC k Y Y2 := fun o j i a b c => (h2 o j i a b c).trans (h o j i a b c)
theorem yc_p {i : Nat} {v : Int32} (hi : i = 5 ∨ i = 6 ∨ i = 11) : YC k Y (pI Y (k + 1) 0 i v) := fun o j i2 a b c => by
  rw [gI_pI, if_neg (by omega)]
theorem yc_x {v : Int32} : YC k Y (pI Y 0 0 1 v) := fun o j i2 a b c => by
  rw [gI_pI, if_neg (by omega)]
theorem yc_z : YC k Y (zR Y (k + 1) 3) := fun o j i2 a b c => if_neg (by omega)
theorem y_listen (h : FY n Y f) (hn : n ≤ 8) (hk : k < n) {l : Nat} (hl : f (21 + 43 * k + 2) = nI l) (e : sX7_listens (sr m f) (nI k) = some (sr m f')) : ∃ Y', sX8_changes_b63 n Y 0 k (nI 0) k = some Y' ∧ FY n Y' f' ∧ YC k Y Y' ∧ gI Y' (k + 1) 0 5 = nI 1 := by
  have e2 : sX7_listens (sr m f) (nI k) = some (sr m (upd (upd (upd f (21 + 43 * k + 8) (nI 0)) (21 + 43 * k + 5) (nI 1)) (21 + 43 * k + 6) (nI l))) := by
    unfold sX7_listens sX7_enters
    simp only [zl]
    simp (disch := omega) only [m_sets, m_of, bd_e, upd_e, qe, qn, ↓reduceIte, hl]
  obtain rfl := sr_inj (e.symm.trans e2)
  obtain ⟨y0, y1, y2, y3, y4, y5, y6, y7, y8, y9, y10, y11, y12, y13, y14, y15⟩ := h.fb hk
  obtain ⟨z0, z1, z2, z3, z4, z5, z6, z7, z8⟩ := h.1
  refine ⟨pI (pI (pI Y (k + 1) 0 11 (nI 0)) (k + 1) 0 5 (nI 1)) (k + 1) 0 6 (nI l), ?_, ?_, (yc_p (Or.inr (Or.inr rfl))).tr ((yc_p (Or.inl rfl)).tr (yc_p (Or.inr (Or.inl rfl)))), ?_⟩
  · unfold sX8_changes_b63
    simp (disch := omega) only [zl, isb_0, gd_tt, nm_v, gI_pI, gL_pL, gI_pL, gL_pI, qe, qn, not_true_eq_false, not_false_eq_true, true_and, and_true, false_and, and_false, and_self, Nat.add_right_cancel_iff, ↓reduceIte, y2, hl]
  · refine h.one hn hk (fun b hb => ?_) ?_ (fun b o => ?_) (fun i hi hi2 => ?_) ?_
    · funext j i
      simp (disch := omega) only [gI_pI, gL_pL, gI_pL, gL_pI, qn, qe, not_true_eq_false, not_false_eq_true, true_and, and_true, false_and, and_false, and_self, Nat.add_right_cancel_iff, ↓reduceIte]
    · refine ⟨?_, ?_, ?_, ?_, ?_, ?_, ?_, fun k' hk' => ?_, fun o ho => ?_⟩
      all_goals try simp (disch := omega) only [upd_e, gI_pI, gL_pL, gI_pL, gL_pI, qn, qe, not_true_eq_false, not_false_eq_true, true_and, and_true, false_and, and_false, and_self, Nat.add_right_cancel_iff, ↓reduceIte]
      all_goals first | assumption | rfl | exact z7 _ (by assumption) | exact z8 _ (by assumption) | skip
    · simp (disch := omega) only [gI_pI, gL_pL, gI_pL, gL_pI, qn, qe, not_true_eq_false, not_false_eq_true, true_and, and_true, false_and, and_false, and_self, Nat.add_right_cancel_iff, ↓reduceIte]
    · simp (disch := omega) only [upd_e, qn, qe, ↓reduceIte]
    · refine ⟨?_, ?_, ?_, ?_, ?_, ?_, ?_, ?_, ?_, ?_, ?_, ?_, fun k' hk' => ?_, fun o ho => ?_, fun o ho => ?_, ?_⟩
      rotate_right 1
      · intro h3 o ho hob
        try simp (disch := omega) only [upd_e, qn, qe, ↓reduceIte] at h3
        first | exact absurd h3 (by decide) | ((try simp (disch := omega) only [upd_e, gI_pI, gL_pL, gI_pL, gL_pI, qn, qe, not_true_eq_false, not_false_eq_true, true_and, and_true, false_and, and_false, and_self, Nat.add_right_cancel_iff, ↓reduceIte]); exact y15 h3 o ho hob)
      all_goals try simp (disch := omega) only [upd_e, gI_pI, gL_pL, gI_pL, gL_pI, qn, qe, not_true_eq_false, not_false_eq_true, true_and, and_true, false_and, and_false, and_self, Nat.add_right_cancel_iff, ↓reduceIte]
      all_goals first | assumption | rfl | exact y12 _ (by assumption) | exact y13 _ (by assumption) | exact y14 _ (by assumption) | skip
  · simp (disch := omega) only [gI_pI, gL_pL, gI_pL, gL_pI, qe, qn, not_true_eq_false, not_false_eq_true, true_and, and_true, false_and, and_false, and_self, Nat.add_right_cancel_iff, ↓reduceIte]
theorem y_skip (h : FY n Y f) (hn : n ≤ 8) (hk : k < n) : ∃ Y', sX8_changes_b63 n Y 0 k (nI 1) k = some Y' ∧ FY n Y' (upd f (21 + 43 * k + 8) (nI 1)) ∧ YC k Y Y' ∧ gI Y' (k + 1) 0 5 = gI Y (k + 1) 0 5 ∧ gI Y' (k + 1) 0 6 = gI Y (k + 1) 0 6 := by
  obtain ⟨y0, y1, y2, y3, y4, y5, y6, y7, y8, y9, y10, y11, y12, y13, y14, y15⟩ := h.fb hk
  obtain ⟨z0, z1, z2, z3, z4, z5, z6, z7, z8⟩ := h.1
  refine ⟨pI Y (k + 1) 0 11 (nI 1), ?_, ?_, yc_p (Or.inr (Or.inr rfl)), ?_, ?_⟩
  · unfold sX8_changes_b63
    simp (disch := omega) only [zl, isb_1, gd_tt, nm_v, gI_pI, gL_pL, gI_pL, gL_pI, qe, qn, not_true_eq_false, not_false_eq_true, true_and, and_true, false_and, and_false, and_self, Nat.add_right_cancel_iff, ↓reduceIte, eq_f]
  · refine h.one hn hk (fun b hb => ?_) ?_ (fun b o => ?_) (fun i hi hi2 => ?_) ?_
    · funext j i
      simp (disch := omega) only [gI_pI, gL_pL, gI_pL, gL_pI, qn, qe, not_true_eq_false, not_false_eq_true, true_and, and_true, false_and, and_false, and_self, Nat.add_right_cancel_iff, ↓reduceIte]
    · refine ⟨?_, ?_, ?_, ?_, ?_, ?_, ?_, fun k' hk' => ?_, fun o ho => ?_⟩
      all_goals try simp (disch := omega) only [upd_e, gI_pI, gL_pL, gI_pL, gL_pI, qn, qe, not_true_eq_false, not_false_eq_true, true_and, and_true, false_and, and_false, and_self, Nat.add_right_cancel_iff, ↓reduceIte]
      all_goals first | assumption | rfl | exact z7 _ (by assumption) | exact z8 _ (by assumption) | skip
    · simp (disch := omega) only [gI_pI, gL_pL, gI_pL, gL_pI, qn, qe, not_true_eq_false, not_false_eq_true, true_and, and_true, false_and, and_false, and_self, Nat.add_right_cancel_iff, ↓reduceIte]
    · simp (disch := omega) only [upd_e, qn, qe, ↓reduceIte]
    · refine ⟨?_, ?_, ?_, ?_, ?_, ?_, ?_, ?_, ?_, ?_, ?_, ?_, fun k' hk' => ?_, fun o ho => ?_, fun o ho => ?_, ?_⟩
      rotate_right 1
      · intro h3 o ho hob
        try simp (disch := omega) only [upd_e, qn, qe, ↓reduceIte] at h3
        first | exact absurd h3 (by decide) | ((try simp (disch := omega) only [upd_e, gI_pI, gL_pL, gI_pL, gL_pI, qn, qe, not_true_eq_false, not_false_eq_true, true_and, and_true, false_and, and_false, and_self, Nat.add_right_cancel_iff, ↓reduceIte]); exact y15 h3 o ho hob)
      all_goals try simp (disch := omega) only [upd_e, gI_pI, gL_pL, gI_pL, gL_pI, qn, qe, not_true_eq_false, not_false_eq_true, true_and, and_true, false_and, and_false, and_self, Nat.add_right_cancel_iff, ↓reduceIte]
      all_goals first | assumption | rfl | exact y12 _ (by assumption) | exact y13 _ (by assumption) | exact y14 _ (by assumption) | skip
  · simp (disch := omega) only [gI_pI, gL_pL, gI_pL, gL_pI, qe, qn, not_true_eq_false, not_false_eq_true, true_and, and_true, false_and, and_false, and_self, Nat.add_right_cancel_iff, ↓reduceIte]
  · simp (disch := omega) only [gI_pI, gL_pL, gI_pL, gL_pI, qe, qn, not_true_eq_false, not_false_eq_true, true_and, and_true, false_and, and_false, and_self, Nat.add_right_cancel_iff, ↓reduceIte]
theorem y_left (h : FY n Y f) (hn : n ≤ 8) (hk : k < n) (v : Int32) : FY n (pI Y (k + 1) 0 6 v) (upd f (21 + 43 * k + 6) v) := by
  obtain ⟨y0, y1, y2, y3, y4, y5, y6, y7, y8, y9, y10, y11, y12, y13, y14, y15⟩ := h.fb hk
  obtain ⟨z0, z1, z2, z3, z4, z5, z6, z7, z8⟩ := h.1
  refine h.one hn hk (fun b hb => ?_) ?_ (fun b o => ?_) (fun i hi hi2 => ?_) ?_
  · funext j i
    simp (disch := omega) only [gI_pI, gL_pL, gI_pL, gL_pI, qn, qe, not_true_eq_false, not_false_eq_true, true_and, and_true, false_and, and_false, and_self, Nat.add_right_cancel_iff, ↓reduceIte]
  · refine ⟨?_, ?_, ?_, ?_, ?_, ?_, ?_, fun k' hk' => ?_, fun o ho => ?_⟩
    all_goals try simp (disch := omega) only [upd_e, gI_pI, gL_pL, gI_pL, gL_pI, qn, qe, not_true_eq_false, not_false_eq_true, true_and, and_true, false_and, and_false, and_self, Nat.add_right_cancel_iff, ↓reduceIte]
    all_goals first | assumption | rfl | exact z7 _ (by assumption) | exact z8 _ (by assumption) | skip
  · simp (disch := omega) only [gI_pI, gL_pL, gI_pL, gL_pI, qn, qe, not_true_eq_false, not_false_eq_true, true_and, and_true, false_and, and_false, and_self, Nat.add_right_cancel_iff, ↓reduceIte]
  · simp (disch := omega) only [upd_e, qn, qe, ↓reduceIte]
  · refine ⟨?_, ?_, ?_, ?_, ?_, ?_, ?_, ?_, ?_, ?_, ?_, ?_, fun k' hk' => ?_, fun o ho => ?_, fun o ho => ?_, ?_⟩
    rotate_right 1
    · intro h3 o ho hob
      try simp (disch := omega) only [upd_e, qn, qe, ↓reduceIte] at h3
      first | exact absurd h3 (by decide) | ((try simp (disch := omega) only [upd_e, gI_pI, gL_pL, gI_pL, gL_pI, qn, qe, not_true_eq_false, not_false_eq_true, true_and, and_true, false_and, and_false, and_self, Nat.add_right_cancel_iff, ↓reduceIte]); exact y15 h3 o ho hob)
    all_goals try simp (disch := omega) only [upd_e, gI_pI, gL_pL, gI_pL, gL_pI, qn, qe, not_true_eq_false, not_false_eq_true, true_and, and_true, false_and, and_false, and_self, Nat.add_right_cancel_iff, ↓reduceIte]
    all_goals first | assumption | rfl | exact y12 _ (by assumption) | exact y13 _ (by assumption) | exact y14 _ (by assumption) | skip
theorem y_st2 (h : FY n Y f) (hn : n ≤ 8) (hk : k < n) : FY n (pI Y (k + 1) 0 5 (nI 2)) (upd f (21 + 43 * k + 5) (nI 2)) := by
  obtain ⟨y0, y1, y2, y3, y4, y5, y6, y7, y8, y9, y10, y11, y12, y13, y14, y15⟩ := h.fb hk
  obtain ⟨z0, z1, z2, z3, z4, z5, z6, z7, z8⟩ := h.1
  refine h.one hn hk (fun b hb => ?_) ?_ (fun b o => ?_) (fun i hi hi2 => ?_) ?_
  · funext j i
    simp (disch := omega) only [gI_pI, gL_pL, gI_pL, gL_pI, qn, qe, not_true_eq_false, not_false_eq_true, true_and, and_true, false_and, and_false, and_self, Nat.add_right_cancel_iff, ↓reduceIte]
  · refine ⟨?_, ?_, ?_, ?_, ?_, ?_, ?_, fun k' hk' => ?_, fun o ho => ?_⟩
    all_goals try simp (disch := omega) only [upd_e, gI_pI, gL_pL, gI_pL, gL_pI, qn, qe, not_true_eq_false, not_false_eq_true, true_and, and_true, false_and, and_false, and_self, Nat.add_right_cancel_iff, ↓reduceIte]
    all_goals first | assumption | rfl | exact z7 _ (by assumption) | exact z8 _ (by assumption) | skip
  · simp (disch := omega) only [gI_pI, gL_pL, gI_pL, gL_pI, qn, qe, not_true_eq_false, not_false_eq_true, true_and, and_true, false_and, and_false, and_self, Nat.add_right_cancel_iff, ↓reduceIte]
  · simp (disch := omega) only [upd_e, qn, qe, ↓reduceIte]
  · refine ⟨?_, ?_, ?_, ?_, ?_, ?_, ?_, ?_, ?_, ?_, ?_, ?_, fun k' hk' => ?_, fun o ho => ?_, fun o ho => ?_, ?_⟩
    rotate_right 1
    · intro h3 o ho hob
      try simp (disch := omega) only [upd_e, qn, qe, ↓reduceIte] at h3
      first | exact absurd h3 (by decide) | ((try simp (disch := omega) only [upd_e, gI_pI, gL_pL, gI_pL, gL_pI, qn, qe, not_true_eq_false, not_false_eq_true, true_and, and_true, false_and, and_false, and_self, Nat.add_right_cancel_iff, ↓reduceIte]); exact y15 h3 o ho hob)
    all_goals try simp (disch := omega) only [upd_e, gI_pI, gL_pL, gI_pL, gL_pI, qn, qe, not_true_eq_false, not_false_eq_true, true_and, and_true, false_and, and_false, and_self, Nat.add_right_cancel_iff, ↓reduceIte]
    all_goals first | assumption | rfl | exact y12 _ (by assumption) | exact y13 _ (by assumption) | exact y14 _ (by assumption) | skip
theorem y_wait {fl : Nat} (h : FY n Y f) (hn : n ≤ 8) (hk : k < n) (hf : f (21 + 43 * k + 7) = nI fl) (hfl : fl < 9) (e : sX7_waits (sr m f) (nI k) = some (sr m f')) : ∃ Y', sX8_waits n Y (nI k) = some Y' ∧ FY n Y' f' ∧ YC k Y Y' ∧ gI Y' (k + 1) 0 5 = nI 2 := by
  obtain ⟨y0, y1, y2, y3, y4, y5, y6, y7, y8, y9, y10, y11, y12, y13, y14, y15⟩ := h.fb hk
  obtain ⟨z0, z1, z2, z3, z4, z5, z6, z7, z8⟩ := h.1
  have h5 := y_st2 h hn hk
  obtain ⟨X, hX⟩ : ∃ X, f 7 * nI 1103515245 + nI 12345 = X := ⟨_, rfl⟩
  obtain ⟨r, hr, hr2⟩ := u16 X
  obtain ⟨W, hW⟩ : ∃ W, min 32 (2 * 2 ^ fl) = W := ⟨_, rfl⟩
  have hW0 : 1 ≤ W ∧ W ≤ 32 := by
    have : 0 < 2 ^ fl := Nat.two_pow_pos fl
    omega
  have hrW : r % W < W := Nat.mod_lt _ (by omega)
  have e2 : sX7_waits (sr m f) (nI k) = some (sr m (upd (upd (upd f 7 X) (21 + 43 * k + 5) (nI 2)) (21 + 43 * k + 6) (nI (r % W + 1)))) := by
    unfold sX7_waits sX7_draws sX7_enters
    simp only [zl]
    rw [m_win (by omega) (by omega) hf, hW]
    simp (disch := omega) only [bd_e, nm_v, zl, inb_t, ix_n, gd_tt, sr_row, sr_pI, hX, upd_e, ↓reduceIte, nz_t, hr2, pk_rem, nI_add, m_sets]
  obtain rfl := sr_inj (e.symm.trans e2)
  have hw := y_win (fl := fl) h5 hn hk (by simp (disch := omega) only [upd_e, qn, ↓reduceIte]; exact hf) hfl
  refine ⟨pI (pI (pI Y (k + 1) 0 5 (nI 2)) 0 0 1 X) (k + 1) 0 6 (nI (1 + r % W)), ?_, ?_, (yc_p (Or.inl rfl)).tr (yc_x.tr (yc_p (Or.inr (Or.inl rfl)))), ?_⟩
  · unfold sX8_waits sX8_draw
    simp (disch := omega) only [zl, inb_t, gd_tt, nm_v, ix_n, bd_e, hw, hW, gI_pI, gL_pL, gI_pL, gL_pI, qe, qn, not_true_eq_false, not_false_eq_true, true_and, and_true, false_and, and_false, and_self, Nat.add_right_cancel_iff, ↓reduceIte, z1, hX, nz_t, hr2, pk_rem, nI_add]
  · clear hX hr2 e e2 hw h5
    refine h.one hn hk (fun b hb => ?_) ?_ (fun b o => ?_) (fun i hi hi2 => ?_) ?_
    · funext j i
      simp (disch := omega) only [gI_pI, gL_pL, gI_pL, gL_pI, qn, qe, not_true_eq_false, not_false_eq_true, true_and, and_true, false_and, and_false, and_self, Nat.add_right_cancel_iff, ↓reduceIte]
    · refine ⟨?_, ?_, ?_, ?_, ?_, ?_, ?_, fun k' hk' => ?_, fun o ho => ?_⟩
      all_goals try simp (disch := omega) only [upd_e, gI_pI, gL_pL, gI_pL, gL_pI, qn, qe, not_true_eq_false, not_false_eq_true, true_and, and_true, false_and, and_false, and_self, Nat.add_right_cancel_iff, ↓reduceIte]
      all_goals first | assumption | rfl | exact z7 _ (by assumption) | exact z8 _ (by assumption) | skip
    · simp (disch := omega) only [gI_pI, gL_pL, gI_pL, gL_pI, qn, qe, not_true_eq_false, not_false_eq_true, true_and, and_true, false_and, and_false, and_self, Nat.add_right_cancel_iff, ↓reduceIte]
    · simp (disch := omega) only [upd_e, qn, qe, ↓reduceIte]
    · refine ⟨?_, ?_, ?_, ?_, ?_, ?_, ?_, ?_, ?_, ?_, ?_, ?_, fun k' hk' => ?_, fun o ho => ?_, fun o ho => ?_, ?_⟩
      rotate_right 1
      · intro h3 o ho hob
        try simp (disch := omega) only [upd_e, qn, qe, ↓reduceIte] at h3
        first | exact absurd h3 (by decide) | ((try simp (disch := omega) only [upd_e, gI_pI, gL_pL, gI_pL, gL_pI, qn, qe, not_true_eq_false, not_false_eq_true, true_and, and_true, false_and, and_false, and_self, Nat.add_right_cancel_iff, ↓reduceIte]); exact y15 h3 o ho hob)
      all_goals try simp (disch := omega) only [upd_e, gI_pI, gL_pL, gI_pL, gL_pI, qn, qe, not_true_eq_false, not_false_eq_true, true_and, and_true, false_and, and_false, and_self, Nat.add_right_cancel_iff, ↓reduceIte]
      all_goals first | assumption | rfl | exact y12 _ (by assumption) | exact y13 _ (by assumption) | exact y14 _ (by assumption) | skip
      rw [Nat.add_comm]
  · simp (disch := omega) only [gI_pI, gL_pL, gI_pL, gL_pI, qe, qn, not_true_eq_false, not_false_eq_true, true_and, and_true, false_and, and_false, and_self, Nat.add_right_cancel_iff, ↓reduceIte]
theorem zR_g (Y : St) (o a o' j i : Nat) : gI (zR Y o a) o' j i = if o' = o ∧ j = a then nI 0 else gI Y o' j i := rfl
theorem zF_g (f : Nat → Int32) (b a i : Nat) : zF f b a i = if 21 + 43 * b + 27 ≤ i ∧ i < 21 + 43 * b + (27 + a) then nI 0 else f i := rfl
theorem y_send (h : FY n Y f) (hn : n ≤ 8) (hk : k < n) {s : Nat} (hs : f (21 + 43 * k + 3) = nI s) (e : sX7_begins (sr m f) (nI k) = some (sr m f')) : FY n (zR (pI (pI Y (k + 1) 0 5 (nI 3)) (k + 1) 0 6 (nI s)) (k + 1) 3) f' := by
  obtain rfl := sr_inj (e.symm.trans (m_send (by omega) hs))
  obtain ⟨y0, y1, y2, y3, y4, y5, y6, y7, y8, y9, y10, y11, y12, y13, y14, y15⟩ := h.fb hk
  obtain ⟨z0, z1, z2, z3, z4, z5, z6, z7, z8⟩ := h.1
  clear e
  refine h.one hn hk (fun b hb => ?_) ?_ (fun b o => ?_) (fun i hi hi2 => ?_) ?_
  · funext j i
    simp (disch := omega) only [zR_g, gI_pI, gL_pL, gI_pL, gL_pI, qn, qe, not_true_eq_false, not_false_eq_true, true_and, and_true, false_and, and_false, and_self, Nat.add_right_cancel_iff, ↓reduceIte]
  · refine ⟨?_, ?_, ?_, ?_, ?_, ?_, ?_, fun k' hk' => ?_, fun o ho => ?_⟩
    all_goals rw [zF_g, if_neg (by omega)]
    all_goals try simp (disch := omega) only [zR_g, upd_e, gI_pI, gL_pL, gI_pL, gL_pI, qn, qe, not_true_eq_false, not_false_eq_true, true_and, and_true, false_and, and_false, and_self, Nat.add_right_cancel_iff, ↓reduceIte]
    all_goals first | assumption | rfl | exact z7 _ (by assumption) | exact z8 _ (by assumption) | skip
  · simp (disch := omega) only [zR_g, gI_pI, gL_pL, gI_pL, gL_pI, qn, qe, not_true_eq_false, not_false_eq_true, true_and, and_true, false_and, and_false, and_self, Nat.add_right_cancel_iff, ↓reduceIte]
  · rw [zF_g, if_neg (by omega)]
    simp (disch := omega) only [upd_e, qn, qe, ↓reduceIte]
  · refine ⟨?_, ?_, ?_, ?_, ?_, ?_, ?_, ?_, ?_, ?_, ?_, ?_, fun k' hk' => ?_, fun o ho => ?_, fun o ho => ?_, fun h3 o ho hob => ?_⟩
    all_goals rw [zF_g]
    all_goals first | rw [if_neg (by omega)] | rw [if_pos (by omega)]
    all_goals try simp (disch := omega) only [zR_g, upd_e, gI_pI, gL_pL, gI_pL, gL_pI, qn, qe, not_true_eq_false, not_false_eq_true, true_and, and_true, false_and, and_false, and_self, Nat.add_right_cancel_iff, ↓reduceIte]
    all_goals first | assumption | rfl | exact y12 _ (by assumption) | exact y13 _ (by assumption) | exact y14 _ (by assumption) | skip
end
