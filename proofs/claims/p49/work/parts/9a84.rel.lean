/-! stage B: the relation of a world of the class and a row of the model -/
theorem qn {a b : Nat} (h : ¬ a = b) : (a = b) = False := eq_false h
theorem qe {a b : Nat} (h : a = b) : (a = b) = True := eq_true h
/-- the same numbers of a beacon -/
def BD (n b : Nat) (v : Nat → Nat → Int32) (f : Nat → Int32) : Prop :=
  (f (13 + b) = v 0 10 ∧ f (21 + 43 * b + (35 + b)) = nI 5) ∧ f (21 + 43 * b + 0) = v 0 1 ∧ f (21 + 43 * b + 1) = v 0 2 ∧ f (21 + 43 * b + 2) = v 0 3 ∧ f (21 + 43 * b + 3) = v 0 4 ∧ f (21 + 43 * b + 4) = v 0 5 ∧ f (21 + 43 * b + 5) = v 0 6 ∧ f (21 + 43 * b + 6) = v 0 7 ∧ f (21 + 43 * b + 7) = v 0 8 ∧ f (21 + 43 * b + 8) = v 0 9 ∧ f (21 + 43 * b + 11) = v 0 11 ∧ f (21 + 43 * b + 12) = v 0 12 ∧ f (21 + 43 * b + 13) = v 0 13 ∧ (∀ k, k < 4 → f (21 + 43 * b + (14 + k)) = v 1 k) ∧ (∀ o, o < n → f (21 + 43 * b + (19 + o)) = v 2 o) ∧ (∀ o, o < n → ¬ o = b → f (21 + 43 * b + (35 + o)) = v 4 o)
/-- what holds of a beacon's numbers; e: the beacon whose slots left may be 0 for now -/
def BK (b e : Nat) (v : Nat → Nat → Int32) : Prop := ∃ p g l s en st lf fl a : Nat, ∃ sk : Bool, v 0 1 = nI p ∧ v 0 2 = nI g ∧ v 0 3 = nI l ∧ v 0 4 = nI s ∧ v 0 5 = nI en ∧ v 0 6 = nI st ∧ v 0 7 = nI lf ∧ v 0 8 = nI fl ∧ v 0 9 = nI sk.toNat ∧ v 0 10 = nI a ∧ v 2 b = mone ∧ (2 ≤ p ∧ p ≤ 99 ∧ g < p ∧ 1 ≤ l ∧ l ≤ 9 ∧ 1 ≤ s ∧ s ≤ 9 ∧ en ≤ 9999 ∧ st ≤ 4 ∧ lf ≤ 32 ∧ (¬ b = e → 1 ≤ st → st ≤ 3 → 1 ≤ lf) ∧ fl ≤ 8 ∧ a < 256)
/-- who hears so far what a beacon sends -/
def BS (n b : Nat) (v : Nat → Nat → Int32) (f : Nat → Int32) : Prop :=
  ∃ a, f (21 + 43 * b + 9) = nI a ∧ a < 256 ∧ a.testBit b = false ∧ ∀ o, o < n → ¬ o = b → f (21 + 43 * b + (27 + o)) = v 3 o ∧ (a.testBit o = true ↔ v 3 o = nI 0)
def BR (n b : Nat) (q : Bool) (e : Nat) (v : Nat → Nat → Int32) (f : Nat → Int32) : Prop :=
  BD n b v f ∧ BK b e v ∧ (v 0 6 = nI 3 → BS n b v f ∧ (q = true → ¬ v 3 b = nI 0))
def WH (n t cm wl wm : Nat) (h : Nat → Nat → Int32) (f : Nat → Int32) : Prop :=
  ∃ c w tr sn : Nat, n ≤ 8 ∧ t < 200000 ∧ c ≤ cm ∧ cm ≤ 1600000 ∧ (wl ≤ w ∧ w ≤ wm) ∧ wm ≤ 1600000 ∧ tr ≤ 9 ∧ sn < 256 ∧ h 0 2 = nI n ∧ h 0 5 = nI t ∧ h 0 9 = nI c ∧ h 0 7 = nI w ∧ h 0 3 = nI tr ∧ h 0 10 = nI sn ∧ (∀ k, k < 4 → ∃ z, z ≤ 99 ∧ h 1 k = nI z) ∧
    f 0 = h 0 2 ∧ f 1 = h 0 5 ∧ f 2 = h 0 3 ∧ f 3 = h 0 4 ∧ f 4 = h 0 7 ∧ f 5 = h 0 8 ∧ f 6 = h 0 9 ∧ f 7 = h 0 6 ∧ f 12 = h 0 10 ∧ (∀ k, k < 4 → f (8 + k) = h 1 k)
def NB (x : St) (b : Nat) : Nat := ix (gI x (b + 1) 0 10)
def WN (n : Nat) (x : St) : Prop := ∀ b, b < n → ∀ o, (NB x b).testBit o = true → o < n ∧ ¬ o = b ∧ (NB x o).testBit b = true
def WR (n t cm wl wm : Nat) (q : Bool) (e : Nat) (x : St) (f : Nat → Int32) : Prop :=
  WH n t cm wl wm (gI x 0) f ∧ (∀ b, b < n → BR n b q e (gI x (b + 1)) f) ∧ WN n x
section
variable {n t cm wl wm e k b : Nat} {q : Bool} {x x' m : St} {f f' : Nat → Int32}
theorem WR.n8 (h : WR n t cm wl wm q e x f) : n ≤ 8 := by obtain ⟨c, w, tr, sn, h1, _⟩ := h.1; exact h1
theorem WR.tl (h : WR n t cm wl wm q e x f) : t < 200000 := by obtain ⟨c, w, tr, sn, h1, h2, _⟩ := h.1; exact h2
theorem WR.xn (h : WR n t cm wl wm q e x f) : gI x 0 0 2 = nI n := by obtain ⟨c, w, tr, sn, h1, h2, h3, h4, h5, h6, h7, h8, h9, _⟩ := h.1; exact h9
theorem WR.fn (h : WR n t cm wl wm q e x f) : f 0 = nI n := by obtain ⟨c, w, tr, sn, h1, h2, h3, h4, h5, h6, h7, h8, h9, h10, h11, h12, h13, h14, h15, h16, _⟩ := h.1; exact h16.trans h9
theorem WR.xt (h : WR n t cm wl wm q e x f) : gI x 0 0 5 = nI t := by obtain ⟨c, w, tr, sn, h1, h2, h3, h4, h5, h6, h7, h8, h9, h10, _⟩ := h.1; exact h10
theorem WR.ft (h : WR n t cm wl wm q e x f) : f 1 = nI t := by obtain ⟨c, w, tr, sn, h1, h2, h3, h4, h5, h6, h7, h8, h9, h10, h11, h12, h13, h14, h15, h16, h17, _⟩ := h.1; exact h17.trans h10
theorem WR.bk (h : WR n t cm wl wm q e x f) (hb : b < n) : BK b e (gI x (b + 1)) := (h.2.1 b hb).2.1
theorem WR.bd (h : WR n t cm wl wm q e x f) (hb : b < n) : BD n b (gI x (b + 1)) f := (h.2.1 b hb).1
theorem WR.nb (h : WR n t cm wl wm q e x f) (hb : b < n) : gI x (b + 1) 0 10 = nI (NB x b) ∧ NB x b < 256 := by
  obtain ⟨p, g, l, s, en, st, lf, fl, a, sk, h1, h2, h3, h4, h5, h6, h7, h8, h9, h10, h11, h12⟩ := h.bk hb
  have hx : NB x b = a := by unfold NB; rw [h10, ix_n (by omega)]
  rw [hx]; exact ⟨h10, by omega⟩
theorem WR.fb (h : WR n t cm wl wm q e x f) (hb : b < n) : f (13 + b) = nI (NB x b) ∧ NB x b < 256 := ⟨(h.bd hb).1.1.trans (h.nb hb).1, (h.nb hb).2⟩
/-- both know alike -/
theorem WR.kn (h : WR n t cm wl wm q e x f) (hb : b < n) : mkS (knF f b) n = mkS (knP x (b + 1)) n := by
  obtain ⟨c, w, tr, sn, h1, h2, h3, h4, h5, h6, h7, h8, h9, h10, h11, h12, h13, h14, h15, h16, h17, h18, h19, _⟩ := h.1
  obtain ⟨_, _, _, _, _, _, _, _, _, _, _, _, _, _, d, _⟩ := h.bd hb
  refine mkS_cg fun i hi => ?_
  unfold knF knP
  rw [d i hi, h17, h19]
theorem WR.sn (h : WR n t cm wl wm q e x f) (v : Int32) : mkS (fun k => decide (f (21 + 43 * k + 5) = v)) n = mkS (fun k => decide (gI x (k + 1) 0 6 = v)) n := by
  refine mkS_cg fun i hi => ?_
  obtain ⟨_, _, _, _, _, _, d, _⟩ := h.bd hi
  rw [d]
theorem BR.cg {v : Nat → Nat → Int32} {q' : Bool} {e' : Nat} (h : BR n b q e v f) (hf : f' (13 + b) = f (13 + b)) (hf2 : ∀ w, w < 43 → f' (21 + 43 * b + w) = f (21 + 43 * b + w)) (hn : n ≤ 8) (hq : q' = true → q = true) (he : ¬ b = e ∨ e = e') (hb : b < n) : BR n b q' e' v f' := by
  obtain ⟨⟨⟨d0, d00⟩, d1, d2, d3, d4, d5, d6, d7, d8, d9, d10, d11, d12, d13, d14, d15⟩, ⟨p, g, l, s, en, st, lf, fl, a, sk, h1, h2, h3, h4, h5, h6, h7, h8, h9, h10, h11, h12⟩, hs⟩ := h
  refine ⟨⟨⟨?_, ?_⟩, ?_, ?_, ?_, ?_, ?_, ?_, ?_, ?_, ?_, ?_, ?_, ?_, fun k hk => ?_, fun o ho => ?_, fun o ho hob => ?_⟩, ⟨p, g, l, s, en, st, lf, fl, a, sk, h1, h2, h3, h4, h5, h6, h7, h8, h9, h10, h11, by omega⟩, fun h3 => ?_⟩
  · rw [hf]; exact d0
  · rw [hf2 _ (by omega)]; exact d00
  · rw [hf2 _ (by omega)]; exact d1
  · rw [hf2 _ (by omega)]; exact d2
  · rw [hf2 _ (by omega)]; exact d3
  · rw [hf2 _ (by omega)]; exact d4
  · rw [hf2 _ (by omega)]; exact d5
  · rw [hf2 _ (by omega)]; exact d6
  · rw [hf2 _ (by omega)]; exact d7
  · rw [hf2 _ (by omega)]; exact d8
  · rw [hf2 _ (by omega)]; exact d9
  · rw [hf2 _ (by omega)]; exact d10
  · rw [hf2 _ (by omega)]; exact d11
  · rw [hf2 _ (by omega)]; exact d12
  · rw [hf2 _ (by omega)]; exact d13 k hk
  · rw [hf2 _ (by omega)]; exact d14 o ho
  · rw [hf2 _ (by omega)]; exact d15 o ho hob
  · obtain ⟨⟨a, s1, s2, s3, s4⟩, s5⟩ := hs h3
    refine ⟨⟨a, ?_, s2, s3, fun o ho hob => ?_⟩, fun hq2 => s5 (hq hq2)⟩
    · rw [hf2 _ (by omega)]; exact s1
    · rw [hf2 _ (by omega)]; exact s4 o ho hob
/-- one beacon changes, and what all have together -/
theorem WR.one {q' : Bool} {e' t' cm' wm' : Nat} (h : WR n t cm wl wm q e x f) (hk : k < n) (he : e = 99 ∨ e = k) (hq : q' = true → q = true) (hx : ∀ b, ¬ b = k → gI x' (b + 1) = gI x (b + 1)) (hh : WH n t' cm' wl wm' (gI x' 0) f') (hf : ∀ i, 13 ≤ i → ¬ (21 + 43 * k ≤ i ∧ i < 64 + 43 * k) → f' i = f i) (hnb : gI x' (k + 1) 0 10 = gI x (k + 1) 0 10) (hb : BR n k q' e' (gI x' (k + 1)) f') : WR n t' cm' wl wm' q' e' x' f' := by
  have hNB : ∀ b, NB x' b = NB x b := fun b => by
    unfold NB
    by_cases hbk : b = k
    · subst hbk; rw [hnb]
    · rw [hx b hbk]
  refine ⟨hh, fun b hbn => ?_, fun b hbn o ho => ?_⟩
  · by_cases hbk : b = k
    · subst hbk; exact hb
    · rw [hx b hbk]
      have hn := h.n8
      refine (h.2.1 b hbn).cg (hf _ (by omega) (by omega)) (fun w hw => hf _ (by omega) (by omega)) hn hq (by omega) hbn
  · rw [hNB] at ho ⊢
    exact h.2.2 b hbn o ho
theorem WR.relax {q' : Bool} (h : WR n t cm wl wm q e x f) (hq : q' = true → q = true) : WR n t cm wl wm q' e x f :=
  ⟨h.1, fun b hb => (h.2.1 b hb).cg rfl (fun _ _ => rfl) h.n8 hq (Or.inr rfl) hb, h.2.2⟩
theorem bv_ne {j i : Nat} {u : Int32} (h : ¬ b = k) : gI (pI x (k + 1) j i u) (b + 1) = gI x (b + 1) := funext fun a => funext fun c => by
  rw [gI_pI, if_neg (by omega)]
theorem bv_0 {j i : Nat} {u : Int32} : gI (pI x 0 j i u) (b + 1) = gI x (b + 1) := funext fun a => funext fun c => by
  rw [gI_pI, if_neg (by omega)]
theorem hd_k {j i : Nat} {u : Int32} : gI (pI x (k + 1) j i u) 0 = gI x 0 := funext fun a => funext fun c => by
  rw [gI_pI, if_neg (by omega)]
theorem WH.cg {h : Nat → Nat → Int32} (H : WH n t cm wl wm h f) (hf : ∀ i, i < 13 → f' i = f i) : WH n t cm wl wm h f' := by
  obtain ⟨c, w, tr, sn, h1, h2, h3, h4, h5, h6, h7, h8, h9, h10, h11, h12, h13, h14, h15, h16, h17, h18, h19, h20, h21, h22, h23, h24, h25⟩ := H
  refine ⟨c, w, tr, sn, h1, h2, h3, h4, h5, h6, h7, h8, h9, h10, h11, h12, h13, h14, h15, ?_, ?_, ?_, ?_, ?_, ?_, ?_, ?_, ?_, fun k hk => ?_⟩
  · rw [hf _ (by omega)]; exact h16
  · rw [hf _ (by omega)]; exact h17
  · rw [hf _ (by omega)]; exact h18
  · rw [hf _ (by omega)]; exact h19
  · rw [hf _ (by omega)]; exact h20
  · rw [hf _ (by omega)]; exact h21
  · rw [hf _ (by omega)]; exact h22
  · rw [hf _ (by omega)]; exact h23
  · rw [hf _ (by omega)]; exact h24
  · rw [hf _ (by omega)]; exact h25 k hk

/-- it listens -/
theorem l_listen (h : WR n t cm wl wm q e x f) (hk : k < n) (he : e = 99 ∨ e = k) : ∃ x' f', sX0_startListening (k + 1) x = some x' ∧ sX7_listens (sr m f) (nI k) = some (sr m f') ∧ WR n t cm wl wm q 99 x' f' := by
  have hn := h.n8
  obtain ⟨⟨⟨d0, d00⟩, d1, d2, d3, d4, d5, d6, d7, d8, d9, d10, d11, d12, d13, d14, d15⟩, ⟨p, g, l, s, en, st, lf, fl, a, sk, h1, h2, h3, h4, h5, h6, h7, h8, h9, h10, h11, h12⟩, hs⟩ := h.2.1 k hk
  refine ⟨pI (pI (pI x (k + 1) 0 6 (nI 1)) (k + 1) 0 7 (nI l)) (k + 1) 0 9 (nI 0), upd (upd (upd f (21 + 43 * k + 8) (nI 0)) (21 + 43 * k + 5) (nI 1)) (21 + 43 * k + 6) (nI l), ?_, ?_, ?_⟩
  · unfold sX0_startListening
    simp (disch := omega) only [nm_v, zl, gI_pI, gL_pL, gI_pL, gL_pI, qe, qn, not_true_eq_false, not_false_eq_true, true_and, and_true, false_and, and_false, and_self, Nat.add_right_cancel_iff, ↓reduceIte, h3]
  · unfold sX7_listens sX7_enters
    simp only [zl]
    simp (disch := omega) only [m_sets, m_of, bd_e, upd_e, qe, qn, ↓reduceIte, d3, h3]
  · refine h.one hk he (fun z => z) (fun b hb => ?_) ?_ (fun i hi hi2 => ?_) ?_ ?_
    · rw [bv_ne hb, bv_ne hb, bv_ne hb]
    · rw [hd_k, hd_k, hd_k]; exact h.1.cg fun i hi => by simp (disch := omega) only [upd_e, qn, ↓reduceIte]
    · simp (disch := omega) only [upd_e, qn, ↓reduceIte]
    · simp (disch := omega) only [gI_pI, gL_pL, gI_pL, gL_pI, qn, qe, not_true_eq_false, not_false_eq_true, true_and, and_true, false_and, and_false, and_self, Nat.add_right_cancel_iff, ↓reduceIte]
    · refine ⟨⟨⟨?_, ?_⟩, ?_, ?_, ?_, ?_, ?_, ?_, ?_, ?_, ?_, ?_, ?_, ?_, fun k hk => ?_, fun o ho => ?_, fun o ho hob => ?_⟩, ⟨p, g, l, s, en, 1, l, fl, a, false, ?_, ?_, ?_, ?_, ?_, ?_, ?_, ?_, ?_, ?_, ?_, by omega⟩, ?_⟩
      all_goals try simp (disch := omega) only [upd_e, gI_pI, gL_pL, gI_pL, gL_pI, qn, qe, not_true_eq_false, not_false_eq_true, true_and, and_true, false_and, and_false, and_self, Nat.add_right_cancel_iff, ↓reduceIte]
      all_goals first | assumption | rfl | exact d13 _ (by assumption) | exact d14 _ (by assumption) | exact d15 _ (by assumption) (by assumption) | (rw [Nat.add_comm]; done) | skip
      · exact fun z => absurd z (by decide)
/-- it skips a wake -/
theorem l_skip (h : WR n t cm wl wm q 99 x f) (hk : k < n) : sX7_sets (sr m f) (nI k) (nI 8) (nI 1) = some (sr m (upd f (21 + 43 * k + 8) (nI 1))) ∧ WR n t cm wl wm q 99 (pI x (k + 1) 0 9 (nI 1)) (upd f (21 + 43 * k + 8) (nI 1)) := by
  have hn := h.n8
  obtain ⟨⟨⟨d0, d00⟩, d1, d2, d3, d4, d5, d6, d7, d8, d9, d10, d11, d12, d13, d14, d15⟩, ⟨p, g, l, s, en, st, lf, fl, a, sk, h1, h2, h3, h4, h5, h6, h7, h8, h9, h10, h11, h12⟩, hs⟩ := h.2.1 k hk
  refine ⟨m_sets _ (by omega), ?_⟩
  refine h.one hk (Or.inl rfl) (fun z => z) (fun b hb => ?_) ?_ (fun i hi hi2 => ?_) ?_ ?_
  · rw [bv_ne hb]
  · rw [hd_k]; exact h.1.cg fun i hi => by simp (disch := omega) only [upd_e, qn, ↓reduceIte]
  · simp (disch := omega) only [upd_e, qn, ↓reduceIte]
  · simp (disch := omega) only [gI_pI, gL_pL, gI_pL, gL_pI, qn, qe, not_true_eq_false, not_false_eq_true, true_and, and_true, false_and, and_false, and_self, Nat.add_right_cancel_iff, ↓reduceIte]
  · refine ⟨⟨⟨?_, ?_⟩, ?_, ?_, ?_, ?_, ?_, ?_, ?_, ?_, ?_, ?_, ?_, ?_, fun k hk => ?_, fun o ho => ?_, fun o ho hob => ?_⟩, ⟨p, g, l, s, en, st, lf, fl, a, true, ?_, ?_, ?_, ?_, ?_, ?_, ?_, ?_, ?_, ?_, ?_, by omega⟩, ?_⟩
    all_goals try simp (disch := omega) only [upd_e, gI_pI, gL_pL, gI_pL, gL_pI, qn, qe, not_true_eq_false, not_false_eq_true, true_and, and_true, false_and, and_false, and_self, Nat.add_right_cancel_iff, ↓reduceIte]
    all_goals first | assumption | rfl | exact d13 _ (by assumption) | exact d14 _ (by assumption) | exact d15 _ (by assumption) (by assumption) | (rw [Nat.add_comm]; done) | skip
    · intro h3
      obtain ⟨⟨a', s1, s2, s3, s4⟩, s5⟩ := hs h3
      refine ⟨⟨a', ?_, s2, s3, fun o ho hob => ?_⟩, fun hq => ?_⟩
      · simp (disch := omega) only [upd_e, gI_pI, gL_pL, gI_pL, gL_pI, qn, qe, not_true_eq_false, not_false_eq_true, true_and, and_true, false_and, and_false, and_self, Nat.add_right_cancel_iff, ↓reduceIte]; exact s1
      · simp (disch := omega) only [upd_e, gI_pI, gL_pL, gI_pL, gL_pI, qn, qe, not_true_eq_false, not_false_eq_true, true_and, and_true, false_and, and_false, and_self, Nat.add_right_cancel_iff, ↓reduceIte]; exact s4 o ho hob
      · first | exact s5 hq | (simp (disch := omega) only [upd_e, gI_pI, gL_pL, gI_pL, gL_pI, qn, qe, not_true_eq_false, not_false_eq_true, true_and, and_true, false_and, and_false, and_self, Nat.add_right_cancel_iff, ↓reduceIte]; exact s5 hq)
/-- one slot less is left -/
theorem l_left (h : WR n t cm wl wm q 99 x f) (hk : k < n) {st : Nat} (hst : gI x (k + 1) 0 6 = nI st) (h1 : 1 ≤ st) (h3 : st ≤ 3) : ∃ lf, gI x (k + 1) 0 7 = nI (lf + 1) ∧ lf < 32 ∧ f (21 + 43 * k + 6) = nI (lf + 1) ∧ WR n t cm wl wm q (if lf = 0 then k else 99) (pI x (k + 1) 0 7 (nI lf)) (upd f (21 + 43 * k + 6) (nI lf)) := by
  have hn := h.n8
  obtain ⟨⟨⟨d0, d00⟩, d1, d2, d3, d4, d5, d6, d7, d8, d9, d10, d11, d12, d13, d14, d15⟩, ⟨p, g, l, s, en, st', lf, fl, a, sk, h1, h2, h3, h4, h5, h6, h7, h8, h9, h10, h11, h12⟩, hs⟩ := h.2.1 k hk
  have hst2 : st' = st := (nI_eq (by omega) (by omega)).mp (h6.symm.trans hst)
  subst hst2
  obtain ⟨lf, rfl⟩ : ∃ z, lf = z + 1 := ⟨lf - 1, by omega⟩
  refine ⟨lf, h7, by omega, d7.trans h7, ?_⟩
  refine h.one hk (Or.inl rfl) (fun z => z) (fun b hb => ?_) ?_ (fun i hi hi2 => ?_) ?_ ?_
  · rw [bv_ne hb]
  · rw [hd_k]; exact h.1.cg fun i hi => by simp (disch := omega) only [upd_e, qn, ↓reduceIte]
  · simp (disch := omega) only [upd_e, qn, ↓reduceIte]
  · simp (disch := omega) only [gI_pI, gL_pL, gI_pL, gL_pI, qn, qe, not_true_eq_false, not_false_eq_true, true_and, and_true, false_and, and_false, and_self, Nat.add_right_cancel_iff, ↓reduceIte]
  · by_cases hl : lf = 0
    · rw [if_pos hl]
      refine ⟨⟨⟨?_, ?_⟩, ?_, ?_, ?_, ?_, ?_, ?_, ?_, ?_, ?_, ?_, ?_, ?_, fun k hk => ?_, fun o ho => ?_, fun o ho hob => ?_⟩, ⟨p, g, l, s, en, st', lf, fl, a, sk, ?_, ?_, ?_, ?_, ?_, ?_, ?_, ?_, ?_, ?_, ?_, by omega⟩, ?_⟩
      all_goals try simp (disch := omega) only [upd_e, gI_pI, gL_pL, gI_pL, gL_pI, qn, qe, not_true_eq_false, not_false_eq_true, true_and, and_true, false_and, and_false, and_self, Nat.add_right_cancel_iff, ↓reduceIte]
      all_goals first | assumption | rfl | exact d13 _ (by assumption) | exact d14 _ (by assumption) | exact d15 _ (by assumption) (by assumption) | (rw [Nat.add_comm]; done) | skip
      · intro h3
        obtain ⟨⟨a', s1, s2, s3, s4⟩, s5⟩ := hs h3
        refine ⟨⟨a', ?_, s2, s3, fun o ho hob => ?_⟩, fun hq => ?_⟩
        · simp (disch := omega) only [upd_e, gI_pI, gL_pL, gI_pL, gL_pI, qn, qe, not_true_eq_false, not_false_eq_true, true_and, and_true, false_and, and_false, and_self, Nat.add_right_cancel_iff, ↓reduceIte]; exact s1
        · simp (disch := omega) only [upd_e, gI_pI, gL_pL, gI_pL, gL_pI, qn, qe, not_true_eq_false, not_false_eq_true, true_and, and_true, false_and, and_false, and_self, Nat.add_right_cancel_iff, ↓reduceIte]; exact s4 o ho hob
        · first | exact s5 hq | (simp (disch := omega) only [upd_e, gI_pI, gL_pL, gI_pL, gL_pI, qn, qe, not_true_eq_false, not_false_eq_true, true_and, and_true, false_and, and_false, and_self, Nat.add_right_cancel_iff, ↓reduceIte]; exact s5 hq)
    · rw [if_neg hl]
      refine ⟨⟨⟨?_, ?_⟩, ?_, ?_, ?_, ?_, ?_, ?_, ?_, ?_, ?_, ?_, ?_, ?_, fun k hk => ?_, fun o ho => ?_, fun o ho hob => ?_⟩, ⟨p, g, l, s, en, st', lf, fl, a, sk, ?_, ?_, ?_, ?_, ?_, ?_, ?_, ?_, ?_, ?_, ?_, by omega⟩, ?_⟩
      all_goals try simp (disch := omega) only [upd_e, gI_pI, gL_pL, gI_pL, gL_pI, qn, qe, not_true_eq_false, not_false_eq_true, true_and, and_true, false_and, and_false, and_self, Nat.add_right_cancel_iff, ↓reduceIte]
      all_goals first | assumption | rfl | exact d13 _ (by assumption) | exact d14 _ (by assumption) | exact d15 _ (by assumption) (by assumption) | (rw [Nat.add_comm]; done) | skip
      · intro h3
        obtain ⟨⟨a', s1, s2, s3, s4⟩, s5⟩ := hs h3
        refine ⟨⟨a', ?_, s2, s3, fun o ho hob => ?_⟩, fun hq => ?_⟩
        · simp (disch := omega) only [upd_e, gI_pI, gL_pL, gI_pL, gL_pI, qn, qe, not_true_eq_false, not_false_eq_true, true_and, and_true, false_and, and_false, and_self, Nat.add_right_cancel_iff, ↓reduceIte]; exact s1
        · simp (disch := omega) only [upd_e, gI_pI, gL_pL, gI_pL, gL_pI, qn, qe, not_true_eq_false, not_false_eq_true, true_and, and_true, false_and, and_false, and_self, Nat.add_right_cancel_iff, ↓reduceIte]; exact s4 o ho hob
        · first | exact s5 hq | (simp (disch := omega) only [upd_e, gI_pI, gL_pL, gI_pL, gL_pI, qn, qe, not_true_eq_false, not_false_eq_true, true_and, and_true, false_and, and_false, and_self, Nat.add_right_cancel_iff, ↓reduceIte]; exact s5 hq)
theorem m_through (h : WR n t cm wl wm q e x f) (hk : k < n) {lf : Nat} (hl : lf < 2 ^ 30) (hf : f (21 + 43 * k + 6) = nI (lf + 1)) : sX7_isThrough (sr m f) (nI k) = some (sr m (upd f (21 + 43 * k + 6) (nI lf)), nI (decide (lf = 0)).toNat) := by
  have hn := h.n8
  unfold sX7_isThrough
  simp only [zl, zm]
  rw [m_adds _ (by omega), hf, show nI (lf + 1) + mone = nI lf from pk_m1 lf]
  simp (disch := omega) only [bd_e, m_of, upd_e, qe, ↓reduceIte]
  by_cases h0 : lf = 0
  · subst h0; rfl
  · simp (disch := omega) only [eq_f, decide_eq_false h0, not_false_eq_true, ↓reduceIte]
    rfl
theorem u16 (v : Int32) : ∃ r, r < 65536 ∧ (v.toUInt32 >>> ((nI 16).toUInt32 &&& (nI 31).toUInt32)).toInt32 = nI r := by
  have h : (v.toUInt32 >>> ((nI 16).toUInt32 &&& (nI 31).toUInt32)).toInt32.toBitVec.toNat = v.toBitVec.toNat / 2 ^ 16 := pk_ushr v (nI 16) 16 (by decide)
  refine ⟨v.toBitVec.toNat / 2 ^ 16, ?_, ?_⟩
  · have := v.toBitVec.isLt; omega
  · refine Int32.toBitVec_inj.mp (BitVec.eq_of_toNat_eq ?_)
    rw [h]
    have h2 := v.toBitVec.isLt
    rw [show (nI (v.toBitVec.toNat / 2 ^ 16)).toBitVec.toNat = v.toBitVec.toNat / 2 ^ 16 from pk_tn (by omega)]
/-- it waits by a draw -/
theorem l_wait (h : WR n t cm wl wm q e x f) (hk : k < n) (he : e = 99 ∨ e = k) : ∃ x' f', sX5_waitByDraw (k + 1) x = some x' ∧ sX7_waits (sr m f) (nI k) = some (sr m f') ∧ WR n t cm wl wm q 99 x' f' := by
  have hn := h.n8
  obtain ⟨⟨⟨d0, d00⟩, d1, d2, d3, d4, d5, d6, d7, d8, d9, d10, d11, d12, d13, d14, d15⟩, ⟨p, g, l, s, en, st, lf, fl, a, sk, h1, h2, h3, h4, h5, h6, h7, h8, h9, h10, h11, h12⟩, hs⟩ := h.2.1 k hk
  obtain ⟨c, w, tr, sn, w1, w2, w3, w4, w5, w6, w7, w8, w9, w10, w11, w12, w13, w14, w15, w16, w17, w18, w19, w20, w21, w22, w23, w24, w25⟩ := h.1
  obtain ⟨X, hX⟩ : ∃ X, gI x 0 0 6 * nI 1103515245 + nI 12345 = X := ⟨_, rfl⟩
  obtain ⟨r, hr, hr2⟩ := u16 X
  obtain ⟨W, hW⟩ : ∃ W, min 32 (2 * 2 ^ fl) = W := ⟨_, rfl⟩
  have hW0 : 1 ≤ W ∧ W ≤ 32 := by
    have : 0 < 2 ^ fl := Nat.two_pow_pos fl
    omega
  have hrW : r % W < W := Nat.mod_lt _ (by omega)
  refine ⟨pI (pI (pI x 0 0 6 X) (k + 1) 0 6 (nI 2)) (k + 1) 0 7 (nI (1 + r % W)), upd (upd (upd f 7 X) (21 + 43 * k + 5) (nI 2)) (21 + 43 * k + 6) (nI (r % W + 1)), ?_, ?_, ?_⟩
  · unfold sX5_waitByDraw
    rw [c_win' (by omega) h8, hW]
    simp (disch := omega) only [bd_e, nm_v, zl, le_t, ↓reduceIte, nz_t, gd_tt, hX, gI_pI, gL_pL, gI_pL, gL_pI, qe, qn, not_true_eq_false, not_false_eq_true, true_and, and_true, false_and, and_false, and_self, Nat.add_right_cancel_iff, hr2, pk_rem, nI_add]
  · unfold sX7_waits sX7_draws sX7_enters
    simp only [zl]
    rw [m_win (by omega) (by omega) (d8.trans h8), hW]
    simp (disch := omega) only [bd_e, nm_v, zl, inb_t, ix_n, gd_tt, sr_row, sr_pI, w23, hX, upd_e, ↓reduceIte, nz_t, hr2, pk_rem, nI_add, m_sets]
  · clear hX hr2
    refine h.one hk he (fun z => z) (fun b hb => ?_) ?_ (fun i hi hi2 => ?_) ?_ ?_
    · rw [bv_ne hb, bv_ne hb, bv_0]
    · rw [hd_k, hd_k]
      refine ⟨c, w, tr, sn, w1, w2, w3, w4, w5, w6, w7, w8, ?_, ?_, ?_, ?_, ?_, ?_, fun k hk => ?_, ?_, ?_, ?_, ?_, ?_, ?_, ?_, ?_, ?_, fun k hk => ?_⟩
      all_goals simp (disch := omega) only [upd_e, gI_pI, gL_pL, gI_pL, gL_pI, qn, qe, not_true_eq_false, not_false_eq_true, true_and, and_true, false_and, and_false, and_self, Nat.add_right_cancel_iff, ↓reduceIte]
      all_goals first | assumption | exact w15 _ (by assumption) | exact w25 _ (by assumption)
    · simp (disch := omega) only [upd_e, qn, ↓reduceIte]
    · simp (disch := omega) only [gI_pI, gL_pL, gI_pL, gL_pI, qn, qe, not_true_eq_false, not_false_eq_true, true_and, and_true, false_and, and_false, and_self, Nat.add_right_cancel_iff, ↓reduceIte]
    · refine ⟨⟨⟨?_, ?_⟩, ?_, ?_, ?_, ?_, ?_, ?_, ?_, ?_, ?_, ?_, ?_, ?_, fun k hk => ?_, fun o ho => ?_, fun o ho hob => ?_⟩, ⟨p, g, l, s, en, 2, 1 + r % W, fl, a, sk, ?_, ?_, ?_, ?_, ?_, ?_, ?_, ?_, ?_, ?_, ?_, by omega⟩, ?_⟩
      all_goals try simp (disch := omega) only [upd_e, gI_pI, gL_pL, gI_pL, gL_pI, qn, qe, not_true_eq_false, not_false_eq_true, true_and, and_true, false_and, and_false, and_self, Nat.add_right_cancel_iff, ↓reduceIte]
      all_goals first | assumption | rfl | exact d13 _ (by assumption) | exact d14 _ (by assumption) | exact d15 _ (by assumption) (by assumption) | (rw [Nat.add_comm]; done) | skip
      · exact fun z => absurd z (by decide)
end
