/-! stage B: a text is read into a world; first what holds on the way -/
def TH (n : Nat) (h : Nat → Nat → Int32) (f : Nat → Int32) : Prop := ∃ tr : Nat, tr ≤ 9 ∧ h 0 2 = nI n ∧ f 0 = nI n ∧ h 0 5 = nI 0 ∧ f 1 = nI 0 ∧ h 0 3 = nI tr ∧ f 2 = nI tr ∧ f 3 = h 0 4 ∧ f 7 = h 0 6 ∧ h 0 7 = nI 0 ∧ f 4 = nI 0 ∧ h 0 8 = nI 0 ∧ f 5 = nI 0 ∧ h 0 9 = nI 0 ∧ f 6 = nI 0 ∧ h 0 10 = nI 0 ∧ f 12 = nI 0 ∧ ∀ k, k < 4 → ∃ z, z ≤ 99 ∧ h 1 k = nI z ∧ f (8 + k) = nI z
def TB (b : Nat) (v : Nat → Nat → Int32) (f : Nat → Int32) : Prop := ∃ p g l s en a : Nat, (v 0 1 = nI p ∧ v 0 2 = nI g ∧ v 0 3 = nI l ∧ v 0 4 = nI s ∧ v 0 5 = nI en ∧ v 0 10 = nI a) ∧ (f (21 + 43 * b + 0) = nI p ∧ f (21 + 43 * b + 1) = nI g ∧ f (21 + 43 * b + 2) = nI l ∧ f (21 + 43 * b + 3) = nI s ∧ f (21 + 43 * b + 4) = nI en ∧ f (13 + b) = nI a) ∧ (2 ≤ p ∧ p ≤ 99 ∧ g < p ∧ 1 ≤ l ∧ l ≤ 9 ∧ 1 ≤ s ∧ s ≤ 9 ∧ en ≤ 999 ∧ a < 256)
def TV (v : Nat → Nat → Int32) : Prop := v 0 6 = nI 0 ∧ v 0 7 = nI 0 ∧ v 0 8 = nI 0 ∧ v 0 9 = nI 0 ∧ v 0 11 = nI 0 ∧ v 0 12 = nI 0 ∧ v 0 13 = nI 0 ∧ (∀ k, k < 4 → v 1 k = nI 0) ∧ ∀ k, k < 8 → v 2 k = mone ∧ v 4 k = nI 5
def TFI (n : Nat) (f : Nat → Int32) : Prop := ∀ b, b < 8 → (∀ i, 5 ≤ i → i < 19 → f (21 + 43 * b + i) = nI 0) ∧ (∀ i, i < 8 → f (21 + 43 * b + (19 + i)) = mone ∧ f (21 + 43 * b + (35 + i)) = nI 5) ∧ (n ≤ b → f (13 + b) = nI 0)
def TW (n : Nat) (x : St) (f : Nat → Int32) (w : Nat → Int64) : Prop := n ≤ 8 ∧ TH n (gI x 0) f ∧ (∀ b, b < n → TB b (gI x (b + 1)) f ∧ TV (gI x (b + 1))) ∧ TFI n f ∧ WN n x ∧ NWd n x w
/-- what the reading of a text leaves in the model -/
def TF (m m' : St) : Prop := (∀ j k, ¬ (j = 0 ∧ (4 ≤ k ∧ k ≤ 9 ∨ k = 23)) → ¬ j = 2 → gI m' 0 j k = gI m 0 j k) ∧ ∀ j k, ¬ (j = 0 ∧ k = 12) → ¬ j = 7 → gL m' 0 j k = gL m 0 j k
theorem tf_refl (m : St) : TF m m := ⟨fun _ _ _ _ => rfl, fun _ _ _ _ => rfl⟩
theorem tf_trans {a b c : St} (h : TF a b) (h2 : TF b c) : TF a c := ⟨fun j k p q => (h2.1 j k p q).trans (h.1 j k p q), fun j k p q => (h2.2 j k p q).trans (h.2 j k p q)⟩
theorem LGE.tf {a b : St} (h : LGE a b) : TF a b := ⟨fun j k p _ => h.1 j k (by omega), fun j k p _ => h.2 j k p⟩
theorem LGE.row {a b : St} (h : LGE a b) : gI b 0 2 = gI a 0 2 := funext fun k => h.1 2 k (by omega)
theorem LGE.nam {a b : St} (h : LGE a b) : gL b 0 7 = gL a 0 7 := funext fun k => h.2 7 k (by omega)
theorem LGE.f23 {a b : St} (h : LGE a b) : gI b 0 0 23 = gI a 0 0 23 := h.1 0 23 (by omega)
def DT (d m : St) : Prop := ∃ v, v < 16 ∧ gI d 0 0 1 = nI v ∧ gI m 0 0 23 = nI v
theorem DT.cg {d m m' : St} (h : DT d m) (e : gI m' 0 0 23 = gI m 0 0 23) : DT d m' := by obtain ⟨v, h1, h2, h3⟩ := h; exact ⟨v, h1, h2, e.trans h3⟩
section
variable {B : Nat → Nat} {len c i n : Nat} {t m x d x' m' : St} {f f' : Nat → Int32} {w w' : Nat → Int64}
theorem TB.cg {b : Nat} {v : Nat → Nat → Int32} (h : TB b v f) (e : ∀ k, 13 ≤ k → f' k = f k) : TB b v f' := by
  obtain ⟨p, g, l, s, en, a, h1, ⟨a1, a2, a3, a4, a5, a6⟩, h3⟩ := h
  exact ⟨p, g, l, s, en, a, h1, ⟨(e _ (by omega)).trans a1, (e _ (by omega)).trans a2, (e _ (by omega)).trans a3, (e _ (by omega)).trans a4, (e _ (by omega)).trans a5, (e _ (by omega)).trans a6⟩, h3⟩
theorem TFI.cg (h : TFI n f) (e : ∀ k, 13 ≤ k → f' k = f k) : TFI n f' := fun b hb => by
  obtain ⟨a1, a2, a3⟩ := h b hb
  exact ⟨fun i p q => (e _ (by omega)).trans (a1 i p q), fun i p => ⟨(e _ (by omega)).trans (a2 i p).1, (e _ (by omega)).trans (a2 i p).2⟩, fun p => (e _ (by omega)).trans (a3 p)⟩
theorem tw_head (h : TW n x f w) (h1 : ∀ b, gI x' (b + 1) = gI x (b + 1)) (h2 : x'.2 = x.2) (h3 : ∀ k, 13 ≤ k → f' k = f k) (h4 : TH n (gI x' 0) f') : TW n x' f' w := by
  obtain ⟨a1, a2, a3, a4, a5, a6⟩ := h
  refine ⟨a1, h4, fun b hb => ?_, a4.cg h3, fun b hb o ho => ?_, ?_⟩
  · rw [h1]; exact ⟨(a3 b hb).1.cg h3, (a3 b hb).2⟩
  · have hN : ∀ b, NB x' b = NB x b := fun b => by unfold NB; rw [h1]
    rw [hN] at ho ⊢
    exact a5 b hb o ho
  · have hL : ∀ o j k, gL x' o j k = gL x o j k := fun o j k => congrFun (congrFun (congrFun h2 o) j) k
    refine ⟨fun b hb => ?_, a6.2⟩
    obtain ⟨l, o1, o2, o3⟩ := a6.1 b hb
    exact ⟨l, o1, (hL _ _ _).trans o2, o3⟩
/-- only the row and what is told differ -/
theorem YG.cg (h : YG B len c i t m) (e : ∀ j k, ¬ j = 2 → ¬ (j = 0 ∧ k = 23) → gI m' 0 j k = gI m 0 j k) (e2 : ∀ j k, ¬ j = 7 → gL m' 0 j k = gL m 0 j k) : YG B len c i t m' := by
  obtain ⟨h0, h1, h2, h3, ⟨h4a, h4b⟩, ⟨g1, g2, g3, g4, g5, g6⟩, h6, h7, h8, h9⟩ := h
  exact ⟨h0, h1, h2, h3, ⟨(e 0 3 (by omega) (by omega)).trans h4a, fun k hk => ⟨(h4b k hk).1, (e 1 k (by omega) (by omega)).trans (h4b k hk).2⟩⟩, ⟨(e 0 4 (by omega) (by omega)).trans g1, (e 0 5 (by omega) (by omega)).trans g2, (e 0 6 (by omega) (by omega)).trans g3, fun z => (e2 0 12 (by omega)).trans (g4 z), fun z => (e 0 7 (by omega) (by omega)).trans (g5 z), fun z => (e 0 7 (by omega) (by omega)).trans (g6 z)⟩, h6, h7, (e 0 8 (by omega) (by omega)).trans h8, (e 0 9 (by omega) (by omega)).trans h9⟩
theorem YB.cg (h : YB t m) (e : gI m' 0 0 8 = gI m 0 0 8) (e2 : gI m' 0 0 9 = gI m 0 0 9) : YB t m' := by
  obtain ⟨k, p, h1, h2, h3, h4, h5, h6, h7⟩ := h
  exact ⟨k, p, h1, h2, h3, h4, h5, e.trans h6, e2.trans h7⟩
theorem bit_tab : ∀ v, v < 16 → ∀ z, z ∈ [(0, 1), (1, 2), (2, 4), (3, 8)] → ((v &&& z.2 = 0) ↔ v.testBit z.1 = false) ∧ v ||| z.2 < 16 ∧ 2 ^ z.1 = z.2 ∧ z.1 < 4 ∧ v &&& z.2 < 16 := by decide +kernel
/-- what may be told but once -/
theorem tx_once {bit wh : Nat} (hz : (bit, wh) ∈ [(0, 1), (1, 2), (2, 4), (3, 8)]) (h : YG B len c i t m) (hk : yk B len i = 1) (hd : DT d m) : (∃ t' d' m', sX3_tellOnce t d (nI wh) = some (t', d', nI 1) ∧ sX7_once m (nI bit) = some m' ∧ YG B len c (i + 1) t' m' ∧ DT d' m' ∧ TF m m' ∧ gI m' 0 2 = gI m 0 2 ∧ gL m' 0 7 = gL m 0 7) ∨ ∃ t' d' m', sX3_tellOnce t d (nI wh) = some (t', d', nI 0) ∧ sX7_once m (nI bit) = some m' ∧ YB t' m' ∧ TF m m' := by
  obtain ⟨v, v1, v2, v3⟩ := hd
  obtain ⟨b1, b2, b3, b4, b5⟩ : ((v &&& wh = 0) ↔ v.testBit bit = false) ∧ v ||| wh < 16 ∧ 2 ^ bit = wh ∧ bit < 4 ∧ v &&& wh < 16 := bit_tab v v1 _ hz
  have hm : ∀ M : St, (gI M 0 0 23 = nI v) → sX7_once_b16 M (nI bit) = bd (sX7_isGood (pI M 0 0 23 (nI (v ||| wh)))) fun q6 => if q6 = nI 0 then some (pI M 0 0 23 (nI (v ||| wh))) else bd (sX7_goOn (pI M 0 0 23 (nI (v ||| wh)))) fun q8 => some q8 := fun M hM => by
    unfold sX7_once_b16
    rw [hM]
    simp only [zl, nm_v]
    rw [sh1 (by omega), n_or, b3]
  unfold sX3_tellOnce sX7_once
  rw [v2, v3, n_and, m_has (by omega) (by omega)]
  cases ht : v.testBit bit
  · left
    have h0 := b1.mpr ht
    have hg : YG B len c i t (pI m 0 0 23 (nI (v ||| wh))) := h.cg (fun j k p q => by rw [gI_pI, if_neg (by omega)]) (fun j k p => rfl)
    obtain ⟨t', m', e1, e2, e3, e4⟩ := y_next hg (by omega)
    refine ⟨t', pI d 0 0 1 (nI (v ||| wh)), m', ?_, ?_, e3, ⟨v ||| wh, b2, ?_, ?_⟩, ?_, ?_, ?_⟩
    · simp (disch := omega) only [zl, zm, nI_add, pk_mul, inb_t, ix_n, gd_tt, bd_e, nm_v, ite_not, ↓reduceIte, le_t, le_f, lt_t, lt_f, eq_t, eq_f, mone_f, mone_f2, h0, n_or, e1]
    · rw [bd_e, hm m v3]
      simp (disch := omega) only [zl, zm, nI_add, pk_mul, inb_t, ix_n, gd_tt, bd_e, nm_v, ite_not, ↓reduceIte, le_t, le_f, lt_t, lt_f, eq_t, eq_f, mone_f, mone_f2, Bool.toNat_false, hg.good, e2]
    · rw [gI_pI, if_pos ⟨rfl, rfl, rfl⟩]
    · rw [e4.e.f23, gI_pI, if_pos ⟨rfl, rfl, rfl⟩]
    · have hh : TF m (pI m 0 0 23 (nI (v ||| wh))) := ⟨fun j k p q => by rw [gI_pI, if_neg (by omega)], fun j k p q => rfl⟩
      exact tf_trans hh e4.e.tf
    · rw [e4.e.row]; exact funext fun k => by rw [gI_pI, if_neg (by omega)]
    · rw [e4.e.nam]; rfl
  · right
    have h0 : ¬ v &&& wh = 0 := fun z => by rw [b1.mp z] at ht; cases ht
    obtain ⟨t', m', e1, e2, e3, e4⟩ := y_fail h (show 1 ≤ 3 by omega) (by omega) (fun z => absurd z (by omega))
    have hb : BMD (pI m' 0 0 23 (nI (v ||| wh))) := bmd_f e3.bad (by rw [gI_pI, if_neg (by omega)])
    refine ⟨t', d, pI m' 0 0 23 (nI (v ||| wh)), ?_, ?_, e3.cg (by rw [gI_pI, if_neg (by omega)]) (by rw [gI_pI, if_neg (by omega)]), tf_trans e4.tf ⟨fun j k p q => by rw [gI_pI, if_neg (by omega)], fun j k p q => rfl⟩⟩
    · simp (disch := omega) only [zl, zm, nI_add, pk_mul, inb_t, ix_n, gd_tt, bd_e, nm_v, ite_not, ↓reduceIte, le_t, le_f, lt_t, lt_f, eq_t, eq_f, mone_f, mone_f2, h0, e1, isb_0]
    · have := hm m' (e4.f23.trans v3)
      simp (disch := omega) only [zl, zm, nI_add, pk_mul, inb_t, ix_n, gd_tt, bd_e, nm_v, ite_not, ↓reduceIte, le_t, le_f, lt_t, lt_f, eq_t, eq_f, mone_f, mone_f2, Bool.toNat_true, e2, this, b_good hb]
/-- a statement read, or not -/
def SGD (B : Nat → Nat) (len c i : Nat) (C : Option (St × St × St × Int32)) (M : Option St) (m : St) : Prop := ∃ x' t' d' m' i' n', C = some (x', t', d', nI 1) ∧ M = sX7_statement_b182 m' ∧ i < i' ∧ YG B len c i' t' m' ∧ TW n' x' (gI m' 0 2) (gL m' 0 7) ∧ DT d' m' ∧ TF m m'
def SBD (C : Option (St × St × St × Int32)) (M : Option St) (m : St) : Prop := ∃ x' t' d' m', C = some (x', t', d', nI 0) ∧ M = some m' ∧ YB t' m' ∧ TF m m'
theorem b_182 (h : BMD m) : sX7_statement_b182 m = some m := by
  unfold sX7_statement_b182
  simp (disch := omega) only [zl, zm, nI_add, pk_mul, inb_t, ix_n, gd_tt, bd_e, nm_v, ite_not, ↓reduceIte, le_t, le_f, lt_t, lt_f, eq_t, eq_f, mone_f, mone_f2, b_mustSign h]
theorem tx_one {kc km lo hi bit wh : Nat} (cf : St → St → Option (St × St × Int32)) (hcf : ∀ x t, cf x t = bd (sX4_takeNumber t (nI lo) (nI hi)) fun q1 => nm (pI x 0 0 kc q1.2) fun z2 => if gI z2 0 0 kc = -1 then some (z2, q1.1, nI 0) else some (z2, q1.1, nI 1)) (hkm : km < 13) (hlo : lo < 2 ^ 31) (hhi : hi < 2 ^ 31) (hth : ∀ s x f, lo ≤ s → s ≤ hi → TH n (gI x 0) f → TH n (gI (pI x 0 0 kc (nI s)) 0) (upd f km (nI s)))
    (hz : (bit, wh) ∈ [(0, 1), (1, 2), (2, 4), (3, 8)]) (h : YG B len c i t m) (hk : yk B len i = 1) (hd : DT d m) (hw : TW n x (gI m 0 2) (gL m 0 7)) {C : Option (St × St × St × Int32)} {M : Option St}
    (hC : C = bd (sX3_tellOnce t d (nI wh)) fun q19 => if q19.2.2 = nI 0 then some (x, q19.1, q19.2.1, nI 0) else bd (cf x q19.1) fun q21 => if q21.2.2 = nI 0 then some (q21.1, q21.2.1, q19.2.1, nI 0) else some (q21.1, q21.2.1, q19.2.1, nI 1))
    (hM : M = bd (sX7_once m (nI bit)) fun q16 => bd (sX7_number q16 (nI lo) (nI hi)) fun q17 => gd (inb (nI km) 365) (nm (pI q17.1 0 2 (ix (nI km)) q17.2) fun z19 => sX7_statement_b182 z19)) :
    SGD B len c i C M m ∨ SBD C M m := by
  have hbad : ∀ t' m' : St, YB t' m' → TF m m' → ∀ v, YB t' (pI m' 0 2 km v) ∧ TF m (pI m' 0 2 km v) ∧ BMD (pI m' 0 2 km v) := fun t' m' h1 h2 v => by
    have e : ∀ k, gI (pI m' 0 2 km v) 0 0 k = gI m' 0 0 k := fun k => by rw [gI_pI, if_neg (by omega)]
    have h3 := h1.cg (e 8) (e 9)
    exact ⟨h3, tf_trans h2 ⟨fun j k p q => by rw [gI_pI, if_neg (by omega)], fun j k p q => rfl⟩, h3.bad⟩
  rcases tx_once hz h hk hd with ⟨t1, d1, m1, a1, a2, a3, a4, a5, a6, a7⟩ | ⟨t1, d1, m1, a1, a2, a3, a4⟩
  · rw [a1] at hC
    rw [a2] at hM
    rcases y_number a3 hlo hhi with ⟨s, t2, m2, b1, b2, b3, b4, b5, b6, b7⟩ | ⟨t2, m2, v, b4, b5, b6, b7⟩
    · left
      have hrow : gI (pI m2 0 2 km (nI s)) 0 2 = upd (gI m 0 2) km (nI s) := funext fun k => by
        rw [gI_pI, upd_e, b7.row, a6]
        by_cases e : k = km
        · rw [if_pos ⟨rfl, rfl, e⟩, if_pos e]
        · rw [if_neg (by omega), if_neg e]
      have hnam : gL (pI m2 0 2 km (nI s)) 0 7 = gL m 0 7 := by rw [← a7, ← b7.nam]; rfl
      refine ⟨pI x 0 0 kc (nI s), t2, d1, pI m2 0 2 km (nI s), i + 2, n, ?_, ?_, by omega, b6.cg (fun j k p q => by rw [gI_pI, if_neg (by omega)]) (fun j k p => rfl), ?_, a4.cg (by rw [gI_pI, if_neg (by omega)]; exact b7.f23), tf_trans a5 (tf_trans b7.tf ⟨fun j k p q => by rw [gI_pI, if_neg (by omega)], fun j k p q => rfl⟩)⟩
      · rw [hC]
        have hc2 : cf x t1 = some (pI x 0 0 kc (nI s), t2, nI 1) := by
          rw [hcf, b4]
          simp (disch := omega) only [zl, zm, nI_add, pk_mul, inb_t, ix_n, gd_tt, bd_e, nm_v, ite_not, ↓reduceIte, le_t, le_f, lt_t, lt_f, eq_t, eq_f, mone_f, mone_f2, gI_pI, gL_pL, gI_pL, gL_pI, qe, qn, not_true_eq_false, not_false_eq_true, true_and, and_true, false_and, and_false, and_self, Nat.add_right_cancel_iff]
        simp (disch := omega) only [zl, zm, nI_add, pk_mul, inb_t, ix_n, gd_tt, bd_e, nm_v, ite_not, ↓reduceIte, le_t, le_f, lt_t, lt_f, eq_t, eq_f, mone_f, mone_f2, hc2]
      · rw [hM]
        simp (disch := omega) only [zl, zm, nI_add, pk_mul, inb_t, ix_n, gd_tt, bd_e, nm_v, ite_not, ↓reduceIte, le_t, le_f, lt_t, lt_f, eq_t, eq_f, mone_f, mone_f2, b5]
      · rw [hrow, hnam]
        exact tw_head hw (fun b => bv_0) rfl (fun k hk => by rw [upd_e, if_neg (by omega)]) (hth s x _ b1 b2 hw.2.1)
    · right
      obtain ⟨c1, c2, c3⟩ := hbad t2 m2 b6 (tf_trans a5 b7.tf) v
      refine ⟨pI x 0 0 kc mone, t2, d1, pI m2 0 2 km v, ?_, ?_, c1, c2⟩
      · rw [hC]
        have hc2 : cf x t1 = some (pI x 0 0 kc mone, t2, nI 0) := by
          rw [hcf, b4]
          simp (disch := omega) only [zl, zm, nI_add, pk_mul, inb_t, ix_n, gd_tt, bd_e, nm_v, ite_not, ↓reduceIte, le_t, le_f, lt_t, lt_f, eq_t, eq_f, mone_f, mone_f2, gI_pI, gL_pL, gI_pL, gL_pI, qe, qn, not_true_eq_false, not_false_eq_true, true_and, and_true, false_and, and_false, and_self, Nat.add_right_cancel_iff]
        simp (disch := omega) only [zl, zm, nI_add, pk_mul, inb_t, ix_n, gd_tt, bd_e, nm_v, ite_not, ↓reduceIte, le_t, le_f, lt_t, lt_f, eq_t, eq_f, mone_f, mone_f2, hc2]
      · rw [hM]
        simp (disch := omega) only [zl, zm, nI_add, pk_mul, inb_t, ix_n, gd_tt, bd_e, nm_v, ite_not, ↓reduceIte, le_t, le_f, lt_t, lt_f, eq_t, eq_f, mone_f, mone_f2, b5, b_182 c3]
  · right
    obtain ⟨c1, c2, c3⟩ := hbad t1 m1 a3 a4 (gI m1 0 0 7)
    refine ⟨x, t1, d1, pI m1 0 2 km (gI m1 0 0 7), ?_, ?_, c1, c2⟩
    · rw [hC, a1]
      simp (disch := omega) only [zl, zm, nI_add, pk_mul, inb_t, ix_n, gd_tt, bd_e, nm_v, ite_not, ↓reduceIte, le_t, le_f, lt_t, lt_f, eq_t, eq_f, mone_f, mone_f2]
    · rw [hM, a2]
      simp (disch := omega) only [zl, zm, nI_add, pk_mul, inb_t, ix_n, gd_tt, bd_e, nm_v, ite_not, ↓reduceIte, le_t, le_f, lt_t, lt_f, eq_t, eq_f, mone_f, mone_f2, b_number a3.bad, b_182 c3]
end
