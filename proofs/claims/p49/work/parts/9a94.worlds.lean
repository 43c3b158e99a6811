/-! stage B: worlds copied; names; how answers are held against each other -/
def AGW (n : Nat) (x y : St) : Prop := (∀ k, 2 ≤ k → k ≤ 10 → gI x 0 0 k = gI y 0 0 k) ∧ (∀ k, k < 4 → gI x 0 1 k = gI y 0 1 k) ∧ ∀ b, b < n → (∀ j k, relC j k → gI x (b + 1) j k = gI y (b + 1) j k) ∧ gL x (b + 1) 0 0 = gL y (b + 1) 0 0
section
variable {n t cm wl wm e b : Nat} {q : Bool} {x y m : St} {f f' : Nat → Int32}
theorem c_copy (hn : n ≤ 8) (hy : gI y 0 0 2 = nI n) (hs : ∀ b, b < n → isb (gI y (b + 1) 0 9) = true) : ∃ x', sX5_copyFrom y x = some x' ∧ AGW n x' y := by
  unfold sX5_copyFrom
  simp only [nm_v]
  generalize hz : pI (pI (pI (pI (pI (pI (pI (pI (pI x 0 0 2 (gI y 0 0 2)) 0 0 3 (gI y 0 0 3)) 0 0 4 (gI y 0 0 4)) 0 0 5 (gI y 0 0 5)) 0 0 6 (gI y 0 0 6)) 0 0 7 (gI y 0 0 7)) 0 0 8 (gI y 0 0 8)) 0 0 9 (gI y 0 0 9)) 0 0 10 (gI y 0 0 10) = z
  have z2 : ∀ k, 2 ≤ k → k ≤ 10 → gI z 0 0 k = gI y 0 0 k := fun k h1 h2 => by
    rw [← hz]
    rcases (by omega : k = 2 ∨ k = 3 ∨ k = 4 ∨ k = 5 ∨ k = 6 ∨ k = 7 ∨ k = 8 ∨ k = 9 ∨ k = 10) with rfl | rfl | rfl | rfl | rfl | rfl | rfl | rfl | rfl <;> simp (disch := omega) only [gI_pI, gL_pL, gI_pL, gL_pI, qn, qe, not_true_eq_false, not_false_eq_true, true_and, and_true, false_and, and_false, and_self, Nat.add_right_cancel_iff, ↓reduceIte]
  obtain ⟨u, e1, e2, e3⟩ := one_up 4 (fun a u => (∀ k, k < a → gI u 0 1 k = gI y 0 1 k) ∧ (∀ o j k, ¬ (o = 0 ∧ j = 1) → gI u o j k = gI z o j k)) (fun F u a => sX5_copyFrom_b74 F y u (nI a)) (fun u => sX5_copyFrom_b99 FU y u (nI 0)) (fun F u h => by
    simp only [sX5_copyFrom_b74]
    simp (disch := omega) only [zl, zm, nI_add, pk_mul, inb_t, ix_n, gd_tt, bd_e, nm_v, ite_not, ↓reduceIte, le_t, le_f, lt_t, lt_f, eq_t, eq_f, mone_f, mone_f2]) (fun a u ha h => by
    refine ⟨pI u 0 1 a (gI y 0 1 a), fun F => ?_, fun k hk => ?_, fun o j k ho => ?_⟩
    · simp only [sX5_copyFrom_b74]
      simp (disch := omega) only [zl, zm, nI_add, pk_mul, inb_t, ix_n, gd_tt, bd_e, nm_v, ite_not, ↓reduceIte, le_t, le_f, lt_t, lt_f, eq_t, eq_f, mone_f, mone_f2]
    · rw [gI_pI]
      by_cases hka : k = a
      · rw [if_pos ⟨rfl, rfl, hka⟩, hka]
      · rw [if_neg (fun q => hka q.2.2)]; exact h.1 k (by omega)
    · rw [gI_pI, if_neg (fun q => ho ⟨q.1, q.2.1⟩)]; exact h.2 o j k ho) 4 0 FU z (by omega) (FU_lt (by omega)) ⟨fun k hk => absurd hk (by omega), fun _ _ _ _ => rfl⟩
  have u2 : gI u 0 0 2 = nI n := by rw [e3 _ _ _ (by omega), z2 2 (by omega) (by omega), hy]
  obtain ⟨v, f1, f2, f3⟩ := one_up n (fun a v => (∀ j k, gI v 0 j k = gI u 0 j k) ∧ ∀ b, b < a → (∀ j k, relC j k → gI v (b + 1) j k = gI y (b + 1) j k) ∧ gL v (b + 1) 0 0 = gL y (b + 1) 0 0) (fun F v a => sX5_copyFrom_b99 F y v (nI a)) some (fun F v h => by
    simp only [sX5_copyFrom_b99]
    rw [h.1, u2]
    simp (disch := omega) only [zl, zm, nI_add, pk_mul, inb_t, ix_n, gd_tt, bd_e, nm_v, ite_not, ↓reduceIte, le_t, le_f, lt_t, lt_f, eq_t, eq_f, mone_f, mone_f2]) (fun a v ha h => by
    obtain ⟨v', g1, g2, g3, g4⟩ := c_copyB (x := v) (hs a ha)
    refine ⟨v', fun F => ?_, fun j k => ?_, fun b hb => ?_⟩
    · simp only [sX5_copyFrom_b99]
      rw [h.1, u2]
      simp (disch := omega) only [zl, zm, nI_add, pk_mul, inb_t, ix_n, gd_tt, bd_e, nm_v, ite_not, ↓reduceIte, le_t, le_f, lt_t, lt_f, eq_t, eq_f, mone_f, mone_f2, g1]
    · rw [(g2 0 j k (by omega)).1]; exact h.1 j k
    · by_cases hba : b = a
      · subst hba; exact ⟨g3, g4⟩
      · have := h.2 b (by omega)
        exact ⟨fun j k hr => by rw [(g2 (b + 1) j k (by omega)).1]; exact this.1 j k hr, by rw [(g2 (b + 1) 0 0 (by omega)).2]; exact this.2⟩) n 0 FU u (by omega) (FU_lt (by omega)) ⟨fun _ _ => rfl, fun b hb => absurd hb (by omega)⟩
  refine ⟨v, (show sX5_copyFrom_b74 FU y z (nI 0) = some v from e1.trans f1), fun k h1 h2 => ?_, fun k hk => ?_, f3⟩
  · rw [f2, e3 _ _ _ (by omega)]; exact z2 k h1 h2
  · rw [f2]; exact e2 k hk
theorem BR.vcg {v v' : Nat → Nat → Int32} (h : BR n b q e v f) (hn : n ≤ 8) (hb : b < n) (hv : ∀ j k, relC j k → v' j k = v j k) : BR n b q e v' f := by
  have a1 : ∀ k, 1 ≤ k → k ≤ 13 → v' 0 k = v 0 k := fun k h1 h2 => hv 0 k (Or.inl ⟨rfl, h1, h2⟩)
  have a2 : ∀ k, k < 4 → v' 1 k = v 1 k := fun k h1 => hv 1 k (Or.inr (Or.inl ⟨rfl, h1⟩))
  have a3 : ∀ j k, 2 ≤ j → j ≤ 4 → k < 8 → v' j k = v j k := fun j k h1 h2 h3 => hv j k (Or.inr (Or.inr ⟨h1, h2, h3⟩))
  obtain ⟨⟨⟨d0, d00⟩, d1, d2, d3, d4, d5, d6, d7, d8, d9, d10, d11, d12, d13, d14, d15⟩, ⟨p, g, l, s, en, st, lf, fl, a, sk, h1, h2, h3, h4, h5, h6, h7, h8, h9, h10, h11, h12⟩, hs⟩ := h
  refine ⟨⟨⟨?_, ?_⟩, ?_, ?_, ?_, ?_, ?_, ?_, ?_, ?_, ?_, ?_, ?_, ?_, fun k hk => ?_, fun o ho => ?_, fun o ho hob => ?_⟩, ⟨p, g, l, s, en, st, lf, fl, a, sk, ?_, ?_, ?_, ?_, ?_, ?_, ?_, ?_, ?_, ?_, ?_, h12⟩, fun h3 => ?_⟩
  all_goals try rw [a1 _ (by omega) (by omega)]
  all_goals try rw [a2 _ (by omega)]
  all_goals try rw [a3 _ _ (by omega) (by omega) (by omega)]
  all_goals first | assumption | exact d13 _ (by assumption) | exact d14 _ (by assumption) | exact d15 _ (by assumption) (by assumption) | skip
  rw [a1 _ (by omega) (by omega)] at h3
  obtain ⟨⟨a', s1, s2, s3, s4⟩, s5⟩ := hs h3
  refine ⟨⟨a', s1, s2, s3, fun o ho hob => ?_⟩, fun hq => ?_⟩
  · rw [a3 _ _ (by omega) (by omega) (by omega)]; exact s4 o ho hob
  · first | exact s5 hq | (rw [a3 _ _ (by omega) (by omega) (by omega)]; exact s5 hq)
theorem WR.ag (h : WR n t cm wl wm q e y f) (ha : AGW n x y) : WR n t cm wl wm q e x f := by
  obtain ⟨⟨c, w', tr, sn, w1, w2, w3, w4, w5, w6, w7, w8, w9, w10, w11, w12, w13, w14, w15, w16, w17, w18, w19, w20, w21, w22, w23, w24, w25⟩, j4, j5⟩ := h
  have a1 : ∀ k, 2 ≤ k → k ≤ 10 → gI x 0 0 k = gI y 0 0 k := ha.1
  refine ⟨⟨c, w', tr, sn, w1, by omega, w3, w4, w5, w6, w7, w8, ?_, ?_, ?_, ?_, ?_, ?_, fun k hk => ?_, ?_, ?_, ?_, ?_, ?_, ?_, ?_, ?_, ?_, fun k hk => ?_⟩, fun b hb => ?_, fun b hb o ho => ?_⟩
  all_goals try rw [a1 _ (by omega) (by omega)]
  all_goals try rw [ha.2.1 _ (by assumption)]
  all_goals first | assumption | exact w15 _ (by assumption) | exact w25 _ (by assumption) | skip
  · exact (j4 b hb).vcg w1 hb (ha.2.2 b hb).1
  · have hNN : ∀ b, b < n → NB x b = NB y b := fun b hb => by unfold NB; rw [(ha.2.2 b hb).1 0 10 (Or.inl ⟨rfl, by omega, by omega⟩)]
    rw [hNN b hb] at ho
    have := j5 b hb o ho
    rw [hNN o this.1]
    exact this
theorem WR.fcg (h : WR n t cm wl wm q e x f) (hf : ∀ i, i < 365 → f' i = f i) : WR n t cm wl wm q e x f' :=
  ⟨h.1.cg (fun i hi => hf i (by omega)), fun b hb => (h.2.1 b hb).cg (hf _ (by have := h.n8; omega)) (fun w hw => hf _ (by have := h.n8; omega)) h.n8 (fun z => z) (Or.inr rfl) hb, h.2.2⟩
theorem WR.isb (h : WR n t cm wl wm q e x f) (hb : b < n) : isb (gI x (b + 1) 0 9) = true := by
  obtain ⟨p, g, l, s, en, st, lf, fl, a, sk, h1, h2, h3, h4, h5, h6, h7, h8, h9, h10, h11, h12⟩ := h.bk hb
  rw [h9, isb_z]
/-- a world copied -/
theorem s_copy (h : WR n t cm wl wm q e y f) (x : St) : ∃ x', sX5_copyFrom y x = some x' ∧ AGW n x' y ∧ WR n t cm wl wm q e x' f := by
  obtain ⟨x', e1, e2⟩ := c_copy (x := x) h.n8 h.xn (fun b hb => h.isb hb)
  exact ⟨x', e1, e2, h.ag e2⟩
end
/-! names -/
def okL (l : List Nat) : Prop := 1 ≤ l.length ∧ l.length ≤ 8 ∧ ∀ c, c ∈ l → 97 ≤ c ∧ c ≤ 122
def cpN : List Nat → Nat
  | [] => 0
  | c :: l => c + 256 * cpN l
def mpJ (l : List Nat) : Nat → Nat
  | 0 => 0
  | j + 1 => mpJ l j * 32 + (l.getD j 0 - 96)
def mpN (l : List Nat) : Nat := mpJ l l.length
def NWd (n : Nat) (x : St) (w : Nat → Int64) : Prop := (∀ b, b < n → ∃ l, okL l ∧ gL x (b + 1) 0 0 = lN (cpN l) ∧ w b = lN (mpN l)) ∧ ∀ b b', b < n → b' < n → w b = w b' → b = b'
theorem NWd.ag {n : Nat} {x y : St} {w : Nat → Int64} (h : NWd n y w) (ha : AGW n x y) : NWd n x w :=
  ⟨fun b hb => by
    obtain ⟨l, h1, h2, h3⟩ := h.1 b hb
    exact ⟨l, h1, by rw [(ha.2.2 b hb).2]; exact h2, h3⟩, h.2⟩
theorem NWd.wcg {n : Nat} {x : St} {w w' : Nat → Int64} (h : NWd n x w) (hw : ∀ b, b < n → w' b = w b) : NWd n x w' :=
  ⟨fun b hb => by
    obtain ⟨l, h1, h2, h3⟩ := h.1 b hb
    exact ⟨l, h1, h2, by rw [hw b hb]; exact h3⟩, fun b b' hb hb' e => h.2 b b' hb hb' (by rw [← hw b hb, ← hw b' hb']; exact e)⟩
/-! answers -/
def Ans (P : List (Nat × Nat)) (r : Int32 ⊕ Nat) (code : Nat) (v : Int32) : Prop := (r = .inl v ∧ code = 0) ∨ ∃ e, r = .inr e ∧ (e, code) ∈ P
section
variable {n : Nat} {x m : St} {f : Nat → Int32}
theorem m_goesR (c : Bool) : sX7_goes (sr m f) (nI c.toNat) = some (sr (pI m 0 0 0 (nI (!c).toNat)) f, nI c.toNat) := by
  rw [m_goes, sr_pIo _ _ _ _ (by omega)]
theorem m_goesBothR (c d : Bool) : sX7_goesBoth (sr m f) (nI c.toNat) (nI d.toNat) = some (sr (pI m 0 0 0 (nI (if c = false then 1 else if d = false then 2 else 0))) f, nI (c && d).toNat) := by
  rw [m_goesBoth, sr_pIo _ _ _ _ (by omega)]
theorem c_req (hn : n ≤ 8) (hx : gI x 0 0 2 = nI n) (a : Int32) : sX6_requireBeacon x a = some (if inb a n = true then .inl () else .inr 3) := by
  unfold sX6_requireBeacon sX6_requireBeacon_b15
  rw [hx]
  have h0 : (0 : Int32).toInt = 0 := by decide
  have hn2 := nI_toInt (n := n) (by omega)
  by_cases h : inb a n = true
  · have h1 := of_decide_eq_true h
    rw [if_pos h, if_neg (by rw [Int32.lt_iff_toInt_lt, h0]; omega), if_pos (by rw [Int32.lt_iff_toInt_lt, hn2]; omega)]
  · have h1 : ¬ (0 ≤ a.toInt ∧ a.toInt < n) := fun q => h (decide_eq_true q)
    rw [if_neg h]
    by_cases h2 : a < 0
    · rw [if_pos h2]
    · rw [if_neg h2, if_neg (by rw [Int32.lt_iff_toInt_lt, hn2]; rw [Int32.lt_iff_toInt_lt, h0] at h2; omega)]
theorem sm_il {α β γ : Type} (a : α) (f : α → γ) (k : β → γ) : sm (.inl a) f k = f a := (fun h => h) rfl
theorem sm_ir {α β γ : Type} (a : β) (f : α → γ) (k : β → γ) : sm (.inr a) f k = k a := (fun h => h) rfl
end
