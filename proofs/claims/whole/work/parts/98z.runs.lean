/-! stage B: a script runs, in step -/
/-- the turns left of the open repeats -/
def TRN (S m : St) : List Nat → List Nat → Prop
  | [], [] => True
  | r :: s, q :: ps => gI S 0 5 s.length = nI q ∧ gI m 0 14 s.length = nI q ∧ gI m 0 13 s.length = nI r ∧ 1 ≤ q ∧ q ≤ 20 ∧ TRN S m s ps
  | _, _ => False
theorem TRN.cg {S S' m m' : St} : ∀ {s ps : List Nat}, TRN S m s ps → (∀ i, i < s.length → gI S' 0 5 i = gI S 0 5 i ∧ gI m' 0 13 i = gI m 0 13 i ∧ gI m' 0 14 i = gI m 0 14 i) → TRN S' m' s ps
  | [], [], _, _ => trivial
  | r :: s, q :: ps, h, e => by
    obtain ⟨h1, h2, h3, h4, h5, h6⟩ := h
    obtain ⟨e1, e2, e3⟩ := e s.length (Nat.lt_succ_self _)
    exact ⟨e1.trans h1, e3.trans h2, e2.trans h3, h4, h5, TRN.cg h6 fun i hi => e i (Nat.lt_succ_of_lt hi)⟩
  | [], _ :: _, h, _ => h.elim
  | _ :: _, [], h, _ => h.elim
def MX (m m' : St) : Prop := (∀ j k, ¬ j = 13 → ¬ j = 14 → ¬ j = 2 → gI m' 0 j k = gI m 0 j k) ∧ ∀ j k, gL m' 0 j k = gL m 0 j k
theorem mx_refl (m : St) : MX m m := ⟨fun _ _ _ _ _ => rfl, fun _ _ => rfl⟩
theorem mx_trans {a b c : St} (h : MX a b) (h2 : MX b c) : MX a c := ⟨fun j k p q r => (h2.1 j k p q r).trans (h.1 j k p q r), fun j k => (h2.2 j k).trans (h.2 j k)⟩
theorem scr_ok {n N : Nat} {stk : Nat → List Nat} {S m : St} (h : SCR n N stk S m) (h0 : stk N = []) : SOK N stk := ⟨h0, fun i hi => by
  obtain ⟨k, a, b, _, _, _, _, _, _, hk, hv⟩ := h.2.2.2.2 i hi
  obtain ⟨_, _, _, _, w7, w8, w6⟩ := hv
  rcases (by omega : k ≤ 6 ∨ k = 7 ∨ k = 8) with z | z | z
  · exact Or.inl (w6 z)
  · exact Or.inr (Or.inl (w7 z).2.2)
  · exact Or.inr (Or.inr ⟨a, w8 z⟩)⟩
section
variable {n N : Nat} {stk : Nat → List Nat}
/-- once it doesn't go on, it has ended -/
theorem d_end {m : St} (G : Nat) (a1 a2 a3 : Int32) : sX7_doesAll_b9 (G + 1) m a1 a2 a3 (nI 0) = some (m, a1) := by
  simp only [sX7_doesAll_b9]
  rw [if_pos (by decide)]
/-- the class at a step -/
theorem c_turn {S x : St} {p k av bv dn a F : Nat} (s4 : gI S 0 0 4 = nI N) (hN : N ≤ 60) (hp : p < N) (hd : dn < 40) (ha : a < 1000000) (hk : k ≤ 8) (a1 : gI S 0 1 p = nI k) (a2 : gI S 0 2 p = nI av) (a3 : gI S 0 3 p = nI bv) : sX2_runCommands_b12 (F + 1) x S (nI dn) (nI p) (nI a) = if k = 7 then (bd (sX2_openRepeat S (nI av)) fun q22 => sX2_runCommands_b12 F x q22 (nI dn) (nI (p + 1)) (nI (a + 1))) else if k = 8 then (bd (sX2_closeRepeat S (nI p)) fun q18 => sX2_runCommands_b12 F x q18.1 (nI dn) (q18.2 + nI 1) (nI (a + 1))) else bd (sX2_perform x (nI k) (nI av) (nI bv)) fun q13 => if q13.2 = nI 0 then some (q13.1, S, nI dn) else sX2_runCommands_b12 F q13.1 S (nI (dn + 1)) (nI (p + 1)) (nI (a + 1)) := by
  simp only [sX2_runCommands_b12]
  by_cases k7 : k = 7
  · rw [if_pos k7]
    simp (disch := omega) only [zl, zm, nI_add, pk_mul, inb_t, ix_n, gd_tt, bd_e, nm_v, ite_not, ↓reduceIte, le_t, le_f, lt_t, lt_f, eq_t, eq_f, mone_f, mone_f2, s4, a1, a2, k7]
  · rw [if_neg k7]
    by_cases k8 : k = 8
    · rw [if_pos k8]
      simp (disch := omega) only [zl, zm, nI_add, pk_mul, inb_t, ix_n, gd_tt, bd_e, nm_v, ite_not, ↓reduceIte, le_t, le_f, lt_t, lt_f, eq_t, eq_f, mone_f, mone_f2, s4, a1, a2, k8]
    · rw [if_neg k8]
      simp (disch := omega) only [zl, zm, nI_add, pk_mul, inb_t, ix_n, gd_tt, bd_e, nm_v, ite_not, ↓reduceIte, le_t, le_f, lt_t, lt_f, eq_t, eq_f, mone_f, mone_f2, s4, a1, a2, a3]
theorem c_openR {S : St} {l av : Nat} (h8 : gI S 0 0 8 = nI l) (hl : l < 2) : sX2_openRepeat S (nI av) = some (pI (pI S 0 5 l (nI av)) 0 0 8 (nI (l + 1))) := by
  unfold sX2_openRepeat
  simp (disch := omega) only [zl, zm, nI_add, pk_mul, inb_t, ix_n, gd_tt, bd_e, nm_v, ite_not, ↓reduceIte, le_t, le_f, lt_t, lt_f, eq_t, eq_f, mone_f, mone_f2, h8, gI_pI, gL_pL, gI_pL, gL_pI, qe, qn, not_true_eq_false, not_false_eq_true, true_and, and_true, false_and, and_false, and_self, Nat.add_right_cancel_iff]
theorem c_closeR {S : St} {l p q : Nat} (h8 : gI S 0 0 8 = nI (l + 1)) (hl : l < 2) (h5 : gI S 0 5 l = nI q) (hq : 1 ≤ q) (hq2 : q ≤ 1) : sX2_closeRepeat S (nI p) = some (pI (pI S 0 5 l (nI (q - 1))) 0 0 8 (nI l), nI p) := by
  have e8 : gI (pI S 0 5 l (nI (q - 1))) 0 0 8 = nI (l + 1) := by rw [gI_pI, if_neg (by omega)]; exact h8
  have e5 : gI (pI S 0 5 l (nI (q - 1))) 0 5 l = nI (q - 1) := by rw [gI_pI, if_pos ⟨rfl, rfl, rfl⟩]
  unfold sX2_closeRepeat
  simp (disch := omega) only [zl, zm, nI_add, pk_mul, inb_t, ix_n, gd_tt, bd_e, nm_v, ite_not, ↓reduceIte, le_t, le_f, lt_t, lt_f, eq_t, eq_f, mone_f, mone_f2, h8, zs, Nat.add_sub_cancel, h5, e8, e5]
theorem c_againR {S : St} {l p q av : Nat} (h8 : gI S 0 0 8 = nI (l + 1)) (hl : l < 2) (h5 : gI S 0 5 l = nI q) (hq : 2 ≤ q) (hq2 : q ≤ 20) (hp : p < 60) (h2 : gI S 0 2 p = nI av) : sX2_closeRepeat S (nI p) = some (pI S 0 5 l (nI (q - 1)), nI av) := by
  have e8 : gI (pI S 0 5 l (nI (q - 1))) 0 0 8 = nI (l + 1) := by rw [gI_pI, if_neg (by omega)]; exact h8
  have e5 : gI (pI S 0 5 l (nI (q - 1))) 0 5 l = nI (q - 1) := by rw [gI_pI, if_pos ⟨rfl, rfl, rfl⟩]
  have e2 : gI (pI S 0 5 l (nI (q - 1))) 0 2 p = nI av := by rw [gI_pI, if_neg (by omega)]; exact h2
  unfold sX2_closeRepeat
  simp (disch := omega) only [zl, zm, nI_add, pk_mul, inb_t, ix_n, gd_tt, bd_e, nm_v, ite_not, ↓reduceIte, le_t, le_f, lt_t, lt_f, eq_t, eq_f, mone_f, mone_f2, h8, zs, Nat.add_sub_cancel, h5, e8, e5, e2]
/-- the model at a step -/
theorem d_six {m : St} {f : Nat → Int32} {p k dn l G : Nat} (m29 : gI m 0 0 29 = nI N) (hN : N ≤ 60) (hp : p < N) (hd : dn < 40) (hk : k ≤ 6) (m10 : gI m 0 10 p = nI k) : sX7_doesAll_b9 (G + 1) (sr m f) (nI dn) (nI l) (nI p) (nI 1) = bd (sX7_may (sr m f) (nI p)) fun q8 => if q8 = nI 0 then sX7_doesAll_b170 (fun m' a1' a2' a3' a4' => sX7_doesAll_b9 G m' a1' a2' a3' a4') (sr m f) (nI dn) (nI l) (nI p) q8 (nI 0) else bd (sX7_does (sr m f) (nI p)) fun q10 => sX7_doesAll_b170 (fun m' a1' a2' a3' a4' => sX7_doesAll_b9 G m' a1' a2' a3' a4') q10.1 (nI dn) (nI l) (nI p) q8 q10.2 := by
  have m29' : gI (sr m f) 0 0 29 = nI N := by rw [sr_0]; exact m29
  have m10' : gI (sr m f) 0 10 p = nI k := by rw [sr_j _ _ _ (by omega)]; exact m10
  simp only [sX7_doesAll_b9]
  simp (disch := omega) only [zl, zm, nI_add, pk_mul, inb_t, ix_n, gd_tt, bd_e, nm_v, ite_not, ↓reduceIte, le_t, le_f, lt_t, lt_f, eq_t, eq_f, mone_f, mone_f2, m29', m10']
theorem d_open {m : St} {f : Nat → Int32} {p dn l av G : Nat} (m29 : gI m 0 0 29 = nI N) (hN : N ≤ 60) (hp : p < N) (hd : dn < 40) (hl : l < 2) (m10 : gI m 0 10 p = nI 7) (m11 : gI m 0 11 p = nI av) : sX7_doesAll_b9 (G + 1) (sr m f) (nI dn) (nI l) (nI p) (nI 1) = sX7_doesAll_b9 G (sr (pI (pI m 0 13 l (nI p)) 0 14 l (nI av)) f) (nI dn) (nI (l + 1)) (nI (p + 1)) (nI 1) := by
  have m29' : gI (sr m f) 0 0 29 = nI N := by rw [sr_0]; exact m29
  have m10' : gI (sr m f) 0 10 p = nI 7 := by rw [sr_j _ _ _ (by omega)]; exact m10
  have m11' : gI (sr (pI m 0 13 l (nI p)) f) 0 11 p = nI av := by rw [sr_j _ _ _ (by omega), gI_pI, if_neg (by omega)]; exact m11
  simp only [sX7_doesAll_b9]
  simp (disch := omega) only [zl, zm, nI_add, pk_mul, inb_t, ix_n, gd_tt, bd_e, nm_v, ite_not, ↓reduceIte, le_t, le_f, lt_t, lt_f, eq_t, eq_f, mone_f, mone_f2, m29', m10', sr_pIo, m11']
theorem d_close {m : St} {f : Nat → Int32} {p dn l q G : Nat} (m29 : gI m 0 0 29 = nI N) (hN : N ≤ 60) (hp : p < N) (hd : dn < 40) (hl : l < 2) (m10 : gI m 0 10 p = nI 8) (h14 : gI m 0 14 l = nI q) (hq : 1 ≤ q) (hq2 : q ≤ 1) : sX7_doesAll_b9 (G + 1) (sr m f) (nI dn) (nI (l + 1)) (nI p) (nI 1) = sX7_doesAll_b9 G (sr (pI m 0 14 l (nI (q - 1))) f) (nI dn) (nI l) (nI (p + 1)) (nI 1) := by
  have m29' : gI (sr m f) 0 0 29 = nI N := by rw [sr_0]; exact m29
  have m10' : gI (sr m f) 0 10 p = nI 8 := by rw [sr_j _ _ _ (by omega)]; exact m10
  have f14 : gI (sr m f) 0 14 l = nI q := by rw [sr_j _ _ _ (by omega)]; exact h14
  have f14' : gI (sr (pI m 0 14 l (nI (q - 1))) f) 0 14 l = nI (q - 1) := by rw [sr_j _ _ _ (by omega), gI_pI, if_pos ⟨rfl, rfl, rfl⟩]
  simp only [sX7_doesAll_b9]
  unfold sX7_doesAll_b106 sX7_doesAll_b129 sX7_doesAll_b141 sX7_truth
  simp (disch := omega) only [zl, zm, nI_add, pk_mul, inb_t, ix_n, gd_tt, bd_e, nm_v, ite_not, ↓reduceIte, le_t, le_f, lt_t, lt_f, eq_t, eq_f, mone_f, mone_f2, m29', m10', zs, Nat.add_sub_cancel, f14, sr_pIo, f14']
theorem d_again {m : St} {f : Nat → Int32} {p dn l q av G : Nat} (m29 : gI m 0 0 29 = nI N) (hN : N ≤ 60) (hp : p < N) (hd : dn < 40) (hl : l < 2) (m10 : gI m 0 10 p = nI 8) (h14 : gI m 0 14 l = nI q) (h13 : gI m 0 13 l = nI av) (hq : 2 ≤ q) (hq2 : q ≤ 20) : sX7_doesAll_b9 (G + 1) (sr m f) (nI dn) (nI (l + 1)) (nI p) (nI 1) = sX7_doesAll_b9 G (sr (pI m 0 14 l (nI (q - 1))) f) (nI dn) (nI (l + 1)) (nI (av + 1)) (nI 1) := by
  have m29' : gI (sr m f) 0 0 29 = nI N := by rw [sr_0]; exact m29
  have m10' : gI (sr m f) 0 10 p = nI 8 := by rw [sr_j _ _ _ (by omega)]; exact m10
  have f14 : gI (sr m f) 0 14 l = nI q := by rw [sr_j _ _ _ (by omega)]; exact h14
  have f14' : gI (sr (pI m 0 14 l (nI (q - 1))) f) 0 14 l = nI (q - 1) := by rw [sr_j _ _ _ (by omega), gI_pI, if_pos ⟨rfl, rfl, rfl⟩]
  have f13' : gI (sr (pI m 0 14 l (nI (q - 1))) f) 0 13 l = nI av := by rw [sr_j _ _ _ (by omega), gI_pI, if_neg (by omega)]; exact h13
  simp only [sX7_doesAll_b9]
  unfold sX7_doesAll_b106 sX7_doesAll_b129 sX7_doesAll_b141 sX7_truth
  simp (disch := omega) only [zl, zm, nI_add, pk_mul, inb_t, ix_n, gd_tt, bd_e, nm_v, ite_not, ↓reduceIte, le_t, le_f, lt_t, lt_f, eq_t, eq_f, mone_f, mone_f2, m29', m10', zs, Nat.add_sub_cancel, f14, sr_pIo, f14', f13', Nat.sub_zero]
/-- both sides from one step on -/
def RNA (n N : Nat) (stk : Nat → List Nat) (e : Nat) : Prop := ∀ (p : Nat) (s ps : List Nat) (E : Nat) (x S m : St) (f : Nat → Int32) (t dn a F G : Nat), E < e → e + 1 ≤ F → e + 1 ≤ G → a + E < 1000000 → SCR n N stk S m → p ≤ N → stk p = s → INV N stk p s ps E → TRN S m s ps → gI S 0 0 8 = nI s.length → WS n t x f → t ≤ 99999 → dn ≤ 40 → ∃ x' S' m' f' v t', sX2_runCommands_b12 F x S (nI dn) (nI p) (nI a) = some (x', S', nI v) ∧ sX7_doesAll_b9 G (sr m f) (nI dn) (nI s.length) (nI p) (nI 1) = some (sr m' f', nI v) ∧ WS n t' x' f' ∧ t' ≤ 99999 ∧ x'.2 = x.2 ∧ MX m m'
section
variable {e p E t dn a F G av : Nat} {s ps : List Nat} {x S m : St} {f : Nat → Int32}
theorem rn_open (ih : RNA n N stk e) (hE : E < e + 1) (hF : e + 1 ≤ F) (hG : e + 1 ≤ G) (haE : a + E < 1000000) (hN : N ≤ 60) (hsc : SCR n N stk S m) (hok : SOK N stk) (hp : p < N) (hi : INV N stk p s ps E) (ht : TRN S m s ps) (h8 : gI S 0 0 8 = nI s.length) (hw : WS n t x f) (htt : t ≤ 99999) (hd : dn < 40) (q1 : 1 ≤ av ∧ av ≤ 20) (q3 : stk (p + 1) = p :: s) (m10 : gI m 0 10 p = nI 7) (m11 : gI m 0 11 p = nI av) : ∃ x' S' m' f' v t', (bd (sX2_openRepeat S (nI av)) fun q22 => sX2_runCommands_b12 F x q22 (nI dn) (nI (p + 1)) (nI (a + 1))) = some (x', S', nI v) ∧ sX7_doesAll_b9 (G + 1) (sr m f) (nI dn) (nI s.length) (nI p) (nI 1) = some (sr m' f', nI v) ∧ WS n t' x' f' ∧ t' ≤ 99999 ∧ x'.2 = x.2 ∧ MX m m' := by
  have hl1 : s.length ≤ 1 := by
    have := hsc.2.2.2.1 (p + 1) (by omega)
    rw [q3, List.length_cons] at this
    omega
  obtain ⟨E', hE', hi'⟩ := inv_open hi hok q3 hl1 hp q1
  have hsc' : SCR n N stk (pI (pI S 0 5 s.length (nI av)) 0 0 8 (nI (s.length + 1))) (pI (pI m 0 13 s.length (nI p)) 0 14 s.length (nI av)) := hsc.cg (fun j i h1 h2 => by rw [gI_pI, if_neg (by omega), gI_pI, if_neg (by omega)]) (by rw [gI_pI, if_neg (by omega), gI_pI, if_neg (by omega)]) (by rw [gI_pI, if_neg (by omega), gI_pI, if_neg (by omega)]) (fun j i h1 h2 h3 => by rw [gI_pI, if_neg (by omega), gI_pI, if_neg (by omega)])
  have htr : TRN (pI (pI S 0 5 s.length (nI av)) 0 0 8 (nI (s.length + 1))) (pI (pI m 0 13 s.length (nI p)) 0 14 s.length (nI av)) (p :: s) (av :: ps) := ⟨by rw [gI_pI, if_neg (by omega), gI_pI, if_pos ⟨rfl, rfl, rfl⟩], by rw [gI_pI, if_pos ⟨rfl, rfl, rfl⟩], by rw [gI_pI, if_neg (by omega), gI_pI, if_pos ⟨rfl, rfl, rfl⟩], q1.1, q1.2, ht.cg fun i hi => ⟨by rw [gI_pI, if_neg (by omega), gI_pI, if_neg (by omega)], by rw [gI_pI, if_neg (by omega), gI_pI, if_neg (by omega)], by rw [gI_pI, if_neg (by omega), gI_pI, if_neg (by omega)]⟩⟩
  have hmx : MX m (pI (pI m 0 13 s.length (nI p)) 0 14 s.length (nI av)) := ⟨fun j k' h1 h2 h3 => by rw [gI_pI, if_neg (by omega), gI_pI, if_neg (by omega)], fun j k' => rfl⟩
  have h8' : gI (pI (pI S 0 5 s.length (nI av)) 0 0 8 (nI (s.length + 1))) 0 0 8 = nI (p :: s).length := (gI_pI _ _ _ _ _ _ _ _).trans (if_pos ⟨rfl, rfl, rfl⟩)
  obtain ⟨x2, S2, m2, f2, v2, t2, r1, r2, r3, r4, r5, r6⟩ := ih (p + 1) (p :: s) (av :: ps) E' x _ _ f t dn (a + 1) F G (by omega) hF hG (by omega) hsc' (by omega) q3 hi' htr h8' hw htt (by omega)
  refine ⟨x2, S2, m2, f2, v2, t2, ?_, ?_, r3, r4, r5, mx_trans hmx r6⟩
  · rw [c_openR h8 (by omega), bd_e]; exact r1
  · rw [d_open hsc.2.1 hN hp hd (by omega) m10 m11]; exact r2
theorem rn_close (ih : RNA n N stk e) (hE : E < e + 1) (hF : e + 1 ≤ F) (hG : e + 1 ≤ G) (haE : a + E < 1000000) (hN : N ≤ 60) (hsc : SCR n N stk S m) (hp : p < N) (hs : stk p = av :: s) (hi : INV N stk p (av :: s) ps E) (ht : TRN S m (av :: s) ps) (h8 : gI S 0 0 8 = nI (av :: s).length) (hw : WS n t x f) (htt : t ≤ 99999) (hd : dn < 40) (q3 : stk (p + 1) = s) (m10 : gI m 0 10 p = nI 8) (a2 : gI S 0 2 p = nI av) : ∃ x' S' m' f' v t', (bd (sX2_closeRepeat S (nI p)) fun q18 => sX2_runCommands_b12 F x q18.1 (nI dn) (q18.2 + nI 1) (nI (a + 1))) = some (x', S', nI v) ∧ sX7_doesAll_b9 (G + 1) (sr m f) (nI dn) (nI (av :: s).length) (nI p) (nI 1) = some (sr m' f', nI v) ∧ WS n t' x' f' ∧ t' ≤ 99999 ∧ x'.2 = x.2 ∧ MX m m' := by
  have hll : (av :: s).length = s.length + 1 := rfl
  have hls := hsc.2.2.2.1 p (by omega)
  rw [hs, hll] at hls
  rw [hll] at h8 ⊢
  have m29 := hsc.2.1
  obtain ⟨q, ps', rfl, hc1, hc2⟩ := inv_close hi q3 hp
  obtain ⟨y1, y2, y3, y4, y5, y6⟩ := ht
  have hmx : MX m (pI m 0 14 s.length (nI (q - 1))) := ⟨fun j k' h1 h2 h3 => by rw [gI_pI, if_neg (by omega)], fun j k' => rfl⟩
  by_cases hq : q ≤ 1
  · obtain ⟨E', hE', hi'⟩ := hc1 hq
    have hsc' : SCR n N stk (pI (pI S 0 5 s.length (nI (q - 1))) 0 0 8 (nI s.length)) (pI m 0 14 s.length (nI (q - 1))) := hsc.cg (fun j i h1 h2 => by rw [gI_pI, if_neg (by omega), gI_pI, if_neg (by omega)]) (by rw [gI_pI, if_neg (by omega), gI_pI, if_neg (by omega)]) (by rw [gI_pI, if_neg (by omega)]) (fun j i h1 h2 h3 => by rw [gI_pI, if_neg (by omega)])
    have htr : TRN (pI (pI S 0 5 s.length (nI (q - 1))) 0 0 8 (nI s.length)) (pI m 0 14 s.length (nI (q - 1))) s ps' := y6.cg fun i hi => ⟨by rw [gI_pI, if_neg (by omega), gI_pI, if_neg (by omega)], by rw [gI_pI, if_neg (by omega)], by rw [gI_pI, if_neg (by omega)]⟩
    obtain ⟨x2, S2, m2, f2, v2, t2, r1, r2, r3, r4, r5, r6⟩ := ih (p + 1) s ps' E' x _ _ f t dn (a + 1) F G (by omega) hF hG (by omega) hsc' (by omega) q3 hi' htr (by rw [gI_pI, if_pos ⟨rfl, rfl, rfl⟩]) hw htt (by omega)
    refine ⟨x2, S2, m2, f2, v2, t2, ?_, ?_, r3, r4, r5, mx_trans hmx r6⟩
    · rw [c_closeR h8 (by omega) y1 y4 hq]; simp only [bd_e, nI_add]; exact r1
    · rw [d_close m29 hN hp hd (by omega) m10 y2 y4 hq]; exact r2
  · obtain ⟨b1, b2, E', hE', hi'⟩ := hc2 (by omega)
    have e5 : gI (pI S 0 5 s.length (nI (q - 1))) 0 5 s.length = nI (q - 1) := by rw [gI_pI, if_pos ⟨rfl, rfl, rfl⟩]
    have e8 : gI (pI S 0 5 s.length (nI (q - 1))) 0 0 8 = nI (av :: s).length := by rw [gI_pI, if_neg (by omega)]; exact h8
    have hsc' : SCR n N stk (pI S 0 5 s.length (nI (q - 1))) (pI m 0 14 s.length (nI (q - 1))) := hsc.cg (fun j i h1 h2 => by rw [gI_pI, if_neg (by omega)]) (by rw [gI_pI, if_neg (by omega)]) (by rw [gI_pI, if_neg (by omega)]) (fun j i h1 h2 h3 => by rw [gI_pI, if_neg (by omega)])
    have htr : TRN (pI S 0 5 s.length (nI (q - 1))) (pI m 0 14 s.length (nI (q - 1))) (av :: s) ((q - 1) :: ps') := ⟨e5, by rw [gI_pI, if_pos ⟨rfl, rfl, rfl⟩], by rw [gI_pI, if_neg (by omega)]; exact y3, by omega, by omega, y6.cg fun i hi => ⟨by rw [gI_pI, if_neg (by omega)], by rw [gI_pI, if_neg (by omega)], by rw [gI_pI, if_neg (by omega)]⟩⟩
    obtain ⟨x2, S2, m2, f2, v2, t2, r1, r2, r3, r4, r5, r6⟩ := ih (av + 1) (av :: s) ((q - 1) :: ps') E' x _ _ f t dn (a + 1) F G (by omega) hF hG (by omega) hsc' b2 b1 hi' htr e8 hw htt (by omega)
    refine ⟨x2, S2, m2, f2, v2, t2, ?_, ?_, r3, r4, r5, mx_trans hmx r6⟩
    · rw [c_againR h8 (by omega) y1 (by omega) y5 (by omega) a2]; simp only [bd_e, nI_add]; exact r1
    · rw [d_again m29 hN hp hd (by omega) m10 y2 y3 (by omega) y5]; exact r2
theorem rn_six {k bv : Nat} (ih : RNA n N stk e) (hE : E < e + 1) (hF : e + 1 ≤ F) (hG : e + 1 ≤ G) (haE : a + E < 1000000) (hN : N ≤ 60) (hsc : SCR n N stk S m) (hp : p < N) (hs : stk p = s) (hi : INV N stk p s ps E) (ht : TRN S m s ps) (h8 : gI S 0 0 8 = nI s.length) (hw : WS n t x f) (htt : t ≤ 99999) (hd : dn < 40) (hnx : stk (p + 1) = stk p) (hk6 : k ≤ 6) (a4 : gI m 0 10 p = nI k) (a5 : gI m 0 11 p = nI av) (a6 : 2 ≤ k → gI m 0 12 p = nI bv) (hv : (k = 0 → av ≤ 999) ∧ (1 ≤ k → av < n) ∧ (2 ≤ k → k ≤ 4 → bv ≤ 999) ∧ (k = 5 ∨ k = 6 → bv < n ∧ ¬ bv = av)) : ∃ x' S' m' f' v t', (bd (sX2_perform x (nI k) (nI av) (nI bv)) fun q13 => if q13.2 = nI 0 then some (q13.1, S, nI dn) else sX2_runCommands_b12 F q13.1 S (nI (dn + 1)) (nI (p + 1)) (nI (a + 1))) = some (x', S', nI v) ∧ sX7_doesAll_b9 (G + 1) (sr m f) (nI dn) (nI s.length) (nI p) (nI 1) = some (sr m' f', nI v) ∧ WS n t' x' f' ∧ t' ≤ 99999 ∧ x'.2 = x.2 ∧ MX m m' := by
  rw [d_six hsc.2.1 hN hp hd hk6 a4]
  rcases p_step (m := m) hw htt (k := k) (a := av) (b := bv) (p := p) (by omega) a4 a5 a6 hk6 hv with ⟨g1, g2⟩ | ⟨x', f', t', v, g1, g2, g3, g4, g5, g6⟩
  · obtain ⟨G, rfl⟩ : ∃ G', G = G' + 1 := ⟨G - 1, by omega⟩
    refine ⟨x, S, m, f, dn, t, ?_, ?_, hw, htt, rfl, mx_refl m⟩
    · rw [g1, bd_e, if_pos rfl]
    · rw [g2, bd_e, if_pos rfl]
      unfold sX7_doesAll_b170 sX7_truth
      simp (disch := omega) only [zl, zm, nI_add, pk_mul, inb_t, ix_n, gd_tt, bd_e, nm_v, ite_not, ↓reduceIte, le_t, le_f, lt_t, lt_f, eq_t, eq_f, mone_f, mone_f2, d_end, Nat.add_zero]
  · obtain ⟨E', hE', hi'⟩ := inv_next hi (hnx.trans hs) hp
    obtain ⟨x2, S2, m2, f2, v2, t2, r1, r2, r3, r4, r5, r6⟩ := ih (p + 1) s ps E' x' S m f' t' (dn + 1) (a + 1) F G (by omega) hF hG (by omega) hsc (by omega) (hnx.trans hs) hi' ht h8 g4 g5 (by omega)
    refine ⟨x2, S2, m2, f2, v2, t2, ?_, ?_, r3, r4, r5.trans g6, r6⟩
    · rw [g1, bd_e, if_neg (by show ¬ nI 1 = nI 0; decide)]; exact r1
    · rw [g2, bd_e, if_neg (by decide), g3, bd_e]
      unfold sX7_doesAll_b170 sX7_truth
      simp (disch := omega) only [zl, zm, nI_add, pk_mul, inb_t, ix_n, gd_tt, bd_e, nm_v, ite_not, ↓reduceIte, le_t, le_f, lt_t, lt_f, eq_t, eq_f, mone_f, mone_f2]
      exact r2
end
theorem rn_all (hN : N ≤ 60) (hok : SOK N stk) : ∀ e, RNA n N stk e
  | 0 => fun p s ps E x S m f t dn a F G h => absurd h (by omega)
  | e + 1 => fun p s ps E x S m f t dn a F G hE hF hG haE hsc hp hs hi ht h8 hw htt hd => by
    have ih := rn_all hN hok e
    obtain ⟨F, rfl⟩ : ∃ F', F = F' + 1 := ⟨F - 1, by omega⟩
    obtain ⟨G, rfl⟩ : ∃ G', G = G' + 1 := ⟨G - 1, by omega⟩
    have s4 := hsc.1
    have m29 := hsc.2.1
    have m29' : gI (sr m f) 0 0 29 = nI N := by rw [sr_0]; exact m29
    by_cases hpN : p = N
    · refine ⟨x, S, m, f, dn, t, ?_, ?_, hw, htt, rfl, mx_refl m⟩
      · simp only [sX2_runCommands_b12]
        simp (disch := omega) only [zl, zm, nI_add, pk_mul, inb_t, ix_n, gd_tt, bd_e, nm_v, ite_not, ↓reduceIte, le_t, le_f, lt_t, lt_f, eq_t, eq_f, mone_f, mone_f2, s4]
      · simp only [sX7_doesAll_b9]
        simp (disch := omega) only [zl, zm, nI_add, pk_mul, inb_t, ix_n, gd_tt, bd_e, nm_v, ite_not, ↓reduceIte, le_t, le_f, lt_t, lt_f, eq_t, eq_f, mone_f, mone_f2, m29']
    · by_cases hd40 : dn = 40
      · refine ⟨x, S, m, f, dn, t, ?_, ?_, hw, htt, rfl, mx_refl m⟩
        · simp only [sX2_runCommands_b12]
          simp (disch := omega) only [zl, zm, nI_add, pk_mul, inb_t, ix_n, gd_tt, bd_e, nm_v, ite_not, ↓reduceIte, le_t, le_f, lt_t, lt_f, eq_t, eq_f, mone_f, mone_f2, s4]
        · simp only [sX7_doesAll_b9]
          simp (disch := omega) only [zl, zm, nI_add, pk_mul, inb_t, ix_n, gd_tt, bd_e, nm_v, ite_not, ↓reduceIte, le_t, le_f, lt_t, lt_f, eq_t, eq_f, mone_f, mone_f2, m29']
      · have hp' : p < N := by omega
        obtain ⟨k, av, bv, a1, a2, a3, a4, a5, a6, hk, w0, w1, w2, w3, w7, w8, w6⟩ := hsc.2.2.2.2 p hp'
        rw [c_turn s4 hN hp' (by omega) (by omega) hk a1 a2 a3]
        by_cases hk6 : k ≤ 6
        · rw [if_neg (by omega), if_neg (by omega)]
          exact rn_six ih (by omega) (by omega) (by omega) haE hN hsc hp' hs hi ht h8 hw htt (by omega) (w6 hk6) hk6 a4 (a5 (by omega)) (fun z => a6 z hk6) ⟨w0, fun z => w1 z hk6, w2, w3⟩
        · by_cases k7 : k = 7
          · subst k7
            rw [if_pos rfl]
            obtain ⟨q1, q2, q3⟩ := w7 rfl
            rw [hs] at q3
            exact rn_open ih (by omega) (by omega) (by omega) haE hN hsc hok hp' hi ht h8 hw htt (by omega) ⟨q1, q2⟩ q3 a4 (a5 (by omega))
          · obtain rfl : k = 8 := by omega
            rw [if_neg (by omega), if_pos rfl]
            have q3 := w8 rfl
            rw [hs] at q3
            subst q3
            exact rn_close ih (by omega) (by omega) (by omega) haE hN hsc hp' hs hi ht h8 hw htt (by omega) rfl a4 a2
/-- a read script runs -/
theorem s_runs {C : Nat} {x S m : St} {f : Nat → Int32} {t : Nat} (hp : PSC n C N stk S m) (h0 : stk N = []) (hw : WS n t x f) (ht : t ≤ 99999) : ∃ x' S' m' f' v t', sX2_runCommands x S = some (x', S', nI v) ∧ sX7_doesAll (sr m f) = some (sr m' f', nI v) ∧ WS n t' x' f' ∧ t' ≤ 99999 ∧ x'.2 = x.2 ∧ MX m m' := by
  obtain ⟨hsc, hop, p5, p30, p8, p31, hC, hNC⟩ := hp
  have hN : N ≤ 60 := by omega
  have e0 : stk 0 = [] := hsc.2.2.1
  have hrc : sX2_runCommands x S = sX2_runCommands_b12 FU x (pI S 0 0 8 (nI 0)) (nI 0) (nI 0) (nI 0) := by
    unfold sX2_runCommands
    simp (disch := omega) only [nm_v, zl]
  have hda : sX7_doesAll (sr m f) = sX7_doesAll_b9 FU (sr m f) (nI 0) (nI 0) (nI 0) (nI 1) := by
    unfold sX7_doesAll
    simp (disch := omega) only [zl]
  rw [hrc, hda]
  exact rn_all hN (scr_ok hsc h0) 26461 0 [] [] (N * 441) x (pI S 0 0 8 (nI 0)) m f t 0 0 FU FU (by omega) (FU_lt (by omega)) (FU_lt (by omega)) (by omega) (hsc.cg (fun j i h1 h2 => by rw [gI_pI, if_neg (by omega)]) (by rw [gI_pI, if_neg (by omega)]) rfl (fun _ _ _ _ _ => rfl)) (Nat.zero_le _) e0 (by show N * 441 = (N - 0) * 441; rfl) trivial (by rw [gI_pI, if_pos ⟨rfl, rfl, rfl⟩]; rfl) hw ht (by omega)
theorem cl_none {m : St} (G : Nat) (h : gI m 0 0 31 = nI 0) : sX7_closes_b0 (G + 1) m = some m := by
  simp only [sX7_closes_b0]
  simp (disch := omega) only [zl, zm, nI_add, pk_mul, inb_t, ix_n, gd_tt, bd_e, nm_v, ite_not, ↓reduceIte, le_t, le_f, lt_t, lt_f, eq_t, eq_f, mone_f, mone_f2, h]
/-- a script is read and run -/
theorem q_runScript {len : Nat} {c m x : St} {ps : Nat → St} (hx : WO (gL m 0 7) x (gI m 0 2)) (hp : PR ps c m) (hb : BF len c m) (tb S : St) : ∃ x' ps' tb' S' c' r code v m', sX6_runScript x ps tb S c = some (x', ps', tb', S', c', r) ∧ sX7_runScript m = some (m', v) ∧ gI m' 0 0 0 = nI code ∧ Ans [(2, 1)] r code v ∧ WO (gL m' 0 7) x' (gI m' 0 2) ∧ PR ps' c' m' ∧ BF 0 c' m' ∧ gI c' 0 0 2 = gI m' 0 0 10 ∧ gI c' 0 0 3 = gI m' 0 0 11 ∧ (∀ o j k, ¬ (o = 0 ∧ j = 0 ∧ (k = 1 ∨ k = 2 ∨ k = 3 ∨ k = 9)) → ¬ (o = 0 ∧ j = 2) → gI c' o j k = gI c o j k) ∧ (∀ j k, ¬ (j = 0 ∧ (k = 0 ∨ 2 ≤ k ∧ k ≤ 11 ∨ k = 21 ∨ 29 ≤ k ∧ k ≤ 31)) → ¬ j = 2 → ¬ j = 4 → ¬ j = 6 → ¬ (10 ≤ j ∧ j ≤ 14) → gI m' 0 j k = gI m 0 j k) ∧ ∀ j k, ¬ (j = 0 ∧ k = 12) → gL m' 0 j k = gL m 0 j k := by
  obtain ⟨B, cn, t1, m1, a1, a2, a3, a4, a5, a6⟩ := y_begin hb tb
  have hZ : ∀ j k, ¬ (j = 0 ∧ 29 ≤ k ∧ k ≤ 31) → gI (pI (pI (pI m1 0 0 29 (nI 0)) 0 0 30 (nI 0)) 0 0 31 (nI 0)) 0 j k = gI m1 0 j k := fun j k h => by
    rw [gI_pI, if_neg (by omega), gI_pI, if_neg (by omega), gI_pI, if_neg (by omega)]
  have hZ29 : gI (pI (pI (pI m1 0 0 29 (nI 0)) 0 0 30 (nI 0)) 0 0 31 (nI 0)) 0 0 29 = nI 0 := by simp (disch := omega) only [gI_pI, gL_pL, gI_pL, gL_pI, qe, qn, not_true_eq_false, not_false_eq_true, true_and, and_true, false_and, and_false, and_self, Nat.add_right_cancel_iff, ↓reduceIte]
  have hZ30 : gI (pI (pI (pI m1 0 0 29 (nI 0)) 0 0 30 (nI 0)) 0 0 31 (nI 0)) 0 0 30 = nI 0 := by simp (disch := omega) only [gI_pI, gL_pL, gI_pL, gL_pI, qe, qn, not_true_eq_false, not_false_eq_true, true_and, and_true, false_and, and_false, and_self, Nat.add_right_cancel_iff, ↓reduceIte]
  have hZ31 : gI (pI (pI (pI m1 0 0 29 (nI 0)) 0 0 30 (nI 0)) 0 0 31 (nI 0)) 0 0 31 = nI 0 := by simp (disch := omega) only [gI_pI, gL_pL, gI_pL, gL_pI, qe, qn, not_true_eq_false, not_false_eq_true, true_and, and_true, false_and, and_false, and_self, Nat.add_right_cancel_iff, ↓reduceIte]
  have hYZ : YG B len cn 0 t1 (pI (pI (pI m1 0 0 29 (nI 0)) 0 0 30 (nI 0)) 0 0 31 (nI 0)) := ((a3.fld (by omega) _).fld (by omega) _).fld (by omega) _
  have hZL : ∀ j k, gL (pI (pI (pI m1 0 0 29 (nI 0)) 0 0 30 (nI 0)) 0 0 31 (nI 0)) 0 j k = gL m1 0 j k := fun j k => rfl
  have hS : sX7_runScript m = sX7_runScript_b19 FU (pI (pI (pI m1 0 0 29 (nI 0)) 0 0 30 (nI 0)) 0 0 31 (nI 0)) := by
    unfold sX7_runScript
    rw [a2, bd_e]
    simp (disch := omega) only [nm_v, zl]
  generalize pI (pI (pI m1 0 0 29 (nI 0)) 0 0 30 (nI 0)) 0 0 31 (nI 0) = Z at *
  have hcl0 : bd (sX7_closes_b0 701 Z) (fun q => sX7_runScript_b19 FU q) = sX7_runScript_b19 FU Z := by
    rw [cl_none 700 hZ31, bd_e]
  rw [← hcl0] at hS
  have hx0 := hx
  obtain ⟨n, tt, htt, hws, hnw⟩ := hx
  have hxZ : XN n x Z := ⟨WR.n8 hws, WR.xn hws, by rw [hZ 2 0 (by omega), a5 2 0 (by omega)]; exact WR.fn hws, hnw.wcg fun b _ => by rw [hZL, a6 7 b (by omega)]⟩
  have hcn : cn ≤ 700 := a3.2.1.2.1
  have hsc0 : SCR n 0 (fun _ => []) (pI (pI (pI S 0 0 4 (nI 0)) 0 0 5 (nI 0)) 0 0 8 (nI 0)) Z := ⟨by simp (disch := omega) only [gI_pI, gL_pL, gI_pL, gL_pI, qe, qn, not_true_eq_false, not_false_eq_true, true_and, and_true, false_and, and_false, and_self, Nat.add_right_cancel_iff, ↓reduceIte], hZ29, rfl, fun _ _ => Nat.zero_le _, fun i hi => absurd hi (by omega)⟩
  have hP0 : PSC n 0 0 (fun _ => []) (pI (pI (pI S 0 0 4 (nI 0)) 0 0 5 (nI 0)) 0 0 8 (nI 0)) Z := ⟨hsc0, trivial, by simp (disch := omega) only [gI_pI, gL_pL, gI_pL, gL_pI, qe, qn, not_true_eq_false, not_false_eq_true, true_and, and_true, false_and, and_false, and_self, Nat.add_right_cancel_iff, ↓reduceIte], hZ30, by rw [gI_pI, if_pos ⟨rfl, rfl, rfl⟩]; rfl, hZ31, by omega, Nat.le_refl 0⟩
  have hE : ∀ t', sX6_endReading t' 4 c = some (pI (pI (pI c 0 0 1 (nI 0)) 0 0 2 (gI t' 0 0 8)) 0 0 3 (gI t' 0 0 9)) := fun t' => by
    unfold sX6_endReading
    simp (disch := omega) only [zl, nm_v]
  have hC : ∀ q, sX2_readAll_b17 FU x t1 (pI (pI (pI S 0 0 4 (nI 0)) 0 0 5 (nI 0)) 0 0 8 (nI 0)) (nI 0) = some q → sX6_runScript x ps tb S c = bd (sX6_endReading q.1 4 c) fun q3 => if ¬ q.2.2 = 0 then bd (sX6_keepForUndo x ps q3) fun q5 => bd (sX2_runCommands x q.2.1) fun q6 => some (q6.1, q5.1, q.1, q6.2.1, q5.2, .inl q6.2.2) else some (x, ps, q.1, q.2.1, q3, .inr 2) := fun q hq => by
    have hra : sX2_readAll x t1 S = some q := by
      unfold sX2_readAll
      simp (disch := omega) only [nm_v, zl]
      exact hq
    unfold sX6_runScript
    rw [a1, bd_e, hra, bd_e]
  rcases tx_scr (x := x) 701 0 0 0 0 FU 701 FU (fun _ => []) t1 (pI (pI (pI S 0 0 4 (nI 0)) 0 0 5 (nI 0)) 0 0 8 (nI 0)) Z (by omega) (by omega) (by omega) (Nat.le_of_lt (FU_lt (by omega))) (by omega) (Nat.le_of_lt (FU_lt (by omega))) hYZ hxZ hP0 with ⟨t3, S3, m5, C', N', stk', g1, g2, g3, g4, g5, g6, g7, g8, g9⟩ | ⟨t3, S3, m5, g1, g2, g3, g9⟩
  · obtain ⟨m6, e1, e2, e3, e4, e5, e6⟩ := m_endsT m5 true ⟨fun _ => rfl, fun _ => g5⟩
    have h62 : ∀ k, gI m6 0 2 k = gI m 0 2 k := fun k => by rw [e5 2 k (by omega), g9.1 2 k (by omega) (by omega), hZ 2 k (by omega), a5 2 k (by omega)]
    have h62' : gI m6 0 2 = gI m 0 2 := funext h62
    have h6L : ∀ k, gL m6 0 7 k = gL m 0 7 k := fun k => by rw [e6, g9.2 7 k (by omega), hZL, a6 7 k (by omega)]
    have h6I : ∀ j k, ¬ (j = 0 ∧ (k = 0 ∨ 2 ≤ k ∧ k ≤ 11 ∨ 29 ≤ k ∧ k ≤ 31)) → ¬ (10 ≤ j ∧ j ≤ 12) → gI m6 0 j k = gI m 0 j k := fun j k h1 h2 => by
      rw [e5 j k (by omega), g9.1 j k (by omega) h2, hZ j k (by omega), a5 j k (by omega)]
    obtain ⟨m7, l1, l2, l3, l4⟩ := m_aside m6 (gI m6 0 2)
    rw [sr_self] at l1
    have hp7 : PSC n C' N' stk' S3 m7 := by
      obtain ⟨p1, p2, p3, p4, p5, p6, p7, p8⟩ := g7
      exact ⟨p1.cg (fun _ _ _ _ => rfl) rfl (by rw [l3 0 29 (by omega) (by omega), e5 0 29 (by omega)]) (fun j i h1 h2 h3 => by rw [l3 j i (by omega) (by omega), e5 j i (by omega)]), p2, p3, by rw [l3 0 30 (by omega) (by omega), e5 0 30 (by omega)]; exact p4, p5, by rw [l3 0 31 (by omega) (by omega), e5 0 31 (by omega)]; exact p6, p7, p8⟩
    obtain ⟨x', S', m8, f', v, t', r1, r2, r3, r4, r5, r6⟩ := s_runs hp7 g8 hws htt
    rw [← h62'] at r2
    have hk8 : ∀ j k, ¬ j = 13 → ¬ j = 14 → ¬ j = 2 → ¬ j = 4 → gI m8 0 j k = gI m6 0 j k := fun j k h1 h2 h3 h4 => by rw [r6.1 j k h1 h2 h3, l3 j k h4 h3]
    have hkL : ∀ j k, gL m8 0 j k = gL m6 0 j k := fun j k => by rw [r6.2, l4]
    have hq3 : PR ps (pI (pI (pI c 0 0 1 (nI 0)) 0 0 2 (gI t3 0 0 8)) 0 0 3 (gI t3 0 0 9)) m8 := by
      refine hp.cg ?_ (fun i hi => ?_) ?_ (fun k => ?_) (fun k hk => ?_)
      · simp (disch := omega) only [gI_pI, gL_pL, gI_pL, gL_pI, qe, qn, not_true_eq_false, not_false_eq_true, true_and, and_true, false_and, and_false, and_self, Nat.add_right_cancel_iff, ↓reduceIte]
      · simp (disch := omega) only [gI_pI, gL_pL, gI_pL, gL_pI, qe, qn, not_true_eq_false, not_false_eq_true, true_and, and_true, false_and, and_false, and_self, Nat.add_right_cancel_iff, ↓reduceIte]
      · rw [hk8 0 21 (by omega) (by omega) (by omega) (by omega), h6I 0 21 (by omega) (by omega)]
      · rw [hk8 6 k (by omega) (by omega) (by omega) (by omega), h6I 6 k (by omega) (by omega)]
      · rw [hkL, h6L]
    have h84 : ∀ i, i < 365 → gI m8 0 4 i = gI m 0 2 i := fun i hi => by rw [r6.1 4 i (by omega) (by omega) (by omega), l2 i hi, h62]
    have hx8 : WO (gL m8 0 7) x (gI m 0 2) := hx0.wcg fun b _ => by rw [hkL, h6L]
    obtain ⟨ps', c', m9, k1, k2, k3, k4, k5⟩ := s_keep hq3 h84 hx8 f'
    have hI : ∀ j k, ¬ (j = 0 ∧ (k = 0 ∨ 2 ≤ k ∧ k ≤ 11 ∨ k = 21 ∨ 29 ≤ k ∧ k ≤ 31)) → ¬ j = 2 → ¬ j = 4 → ¬ j = 6 → ¬ (10 ≤ j ∧ j ≤ 14) → gI (sr m9 f') 0 j k = gI m 0 j k := fun j k h1 h2 h4 h6 h10 => by
      rw [k5.1 j k (by omega) h6, sr_j _ _ _ h2, hk8 j k (by omega) (by omega) h2 h4, h6I j k (by omega) (by omega)]
    have hF : ∀ k, ¬ k = 21 → gI (sr m9 f') 0 0 k = gI m6 0 0 k := fun k h1 => by
      rw [k5.1 0 k (by omega) (by omega), sr_0, hk8 0 k (by omega) (by omega) (by omega) (by omega)]
    have hcF : ∀ k, ¬ k = 9 → gI c' 0 0 k = gI (pI (pI (pI c 0 0 1 (nI 0)) 0 0 2 (gI t3 0 0 8)) 0 0 3 (gI t3 0 0 9)) 0 0 k := fun k h1 => k4 0 0 k (by omega) (by omega)
    refine ⟨x', ps', t3, S', c', .inl (nI v), 0, nI v, sr m9 f', ?_, ?_, ?_, Or.inl ⟨rfl, rfl⟩, ?_, k3, ⟨by omega, ?_, ?_, fun k hk => absurd hk (by omega)⟩, ?_, ?_, fun o j k h1 h2 => ?_, hI, fun j k h1 => ?_⟩
    · rw [hC _ g1, hE, bd_e, if_pos (by show ¬ nI 1 = nI 0; decide), k1, bd_e, r1, bd_e]
    · rw [hS, g2]
      unfold sX7_runScript_b82
      rw [e1, bd_e]
      simp (disch := omega) only [zl, zm, nI_add, pk_mul, inb_t, ix_n, gd_tt, bd_e, nm_v, ite_not, ↓reduceIte, le_t, le_f, lt_t, lt_f, eq_t, eq_f, mone_f, mone_f2, Bool.toNat_true, l1, r2, k2]
    · rw [hF 0 (by omega)]; exact e2
    · rw [sr_rw]
      refine WO.wcg (w := gL m 0 7) ⟨n, t', r4, r3, hnw.of2 r5⟩ fun b _ => ?_
      rw [k5.2 7 b, sr_L, hkL, h6L]
    · rw [hcF 1 (by omega)]; simp (disch := omega) only [gI_pI, gL_pL, gI_pL, gL_pI, qe, qn, not_true_eq_false, not_false_eq_true, true_and, and_true, false_and, and_false, and_self, Nat.add_right_cancel_iff, ↓reduceIte]
    · rw [hF 2 (by omega), e5 0 2 (by omega), g9.1 0 2 (by omega) (by omega), hZ 0 2 (by omega)]; exact a4
    · have : gI m6 0 0 10 = gI t3 0 0 8 := by rw [e3, g5, g3]
      rw [hcF 2 (by omega), hF 10 (by omega), this]
      simp (disch := omega) only [gI_pI, gL_pL, gI_pL, gL_pI, qe, qn, not_true_eq_false, not_false_eq_true, true_and, and_true, false_and, and_false, and_self, Nat.add_right_cancel_iff, ↓reduceIte]
    · have : gI m6 0 0 11 = gI t3 0 0 9 := by rw [e4, g6, g4]
      rw [hcF 3 (by omega), hF 11 (by omega), this]
      simp (disch := omega) only [gI_pI, gL_pL, gI_pL, gL_pI, qe, qn, not_true_eq_false, not_false_eq_true, true_and, and_true, false_and, and_false, and_self, Nat.add_right_cancel_iff, ↓reduceIte]
    · rw [k4 o j k (by omega) h2, gI_pI, if_neg (by omega), gI_pI, if_neg (by omega), gI_pI, if_neg (by omega)]
    · rw [k5.2 j k, sr_L, hkL, e6, g9.2 j k h1, hZL, a6 j k h1]
  · obtain ⟨ee, pp, y1, y2, y3, y4, y5, y6, y7⟩ := g3
    obtain ⟨m6, e1, e2, e3, e4, e5, e6⟩ := m_endsT m5 false ⟨fun z => by rw [y6] at z; exact absurd ((nI_eq (by omega) (by omega)).mp z) (by omega), fun z => absurd z (by decide)⟩
    have h6L : ∀ j k, ¬ (j = 0 ∧ k = 12) → gL m6 0 j k = gL m 0 j k := fun j k h1 => by rw [e6, g9.2 j k h1, hZL, a6 j k h1]
    have h6I : ∀ j k, ¬ (j = 0 ∧ (k = 0 ∨ 2 ≤ k ∧ k ≤ 11 ∨ 29 ≤ k ∧ k ≤ 31)) → ¬ (10 ≤ j ∧ j ≤ 12) → gI m6 0 j k = gI m 0 j k := fun j k h1 h2 => by
      rw [e5 j k (by omega), g9.1 j k (by omega) h2, hZ j k (by omega), a5 j k (by omega)]
    refine ⟨x, ps, t3, S3, pI (pI (pI c 0 0 1 (nI 0)) 0 0 2 (gI t3 0 0 8)) 0 0 3 (gI t3 0 0 9), .inr 2, 1, nI 0, m6, ?_, ?_, e2, Or.inr ⟨2, rfl, by decide⟩, ?_, ?_, ⟨by omega, ?_, ?_, fun k hk => absurd hk (by omega)⟩, ?_, ?_, fun o j k h1 _ => ?_, fun j k h1 h2 h4 h6 h10 => h6I j k (by omega) (by omega), h6L⟩
    · rw [hC _ g1, hE, bd_e, if_neg (by show ¬ ¬ nI 0 = nI 0; decide)]
    · rw [hS, g2]
      unfold sX7_runScript_b82
      rw [e1, bd_e]
      simp (disch := omega) only [zl, zm, nI_add, pk_mul, inb_t, ix_n, gd_tt, bd_e, nm_v, ite_not, ↓reduceIte, le_t, le_f, lt_t, lt_f, eq_t, eq_f, mone_f, mone_f2, Bool.toNat_false]
    · exact (hx0.fcg fun i _ => h6I 2 i (by omega) (by omega)).wcg fun b _ => h6L 7 b (by omega)
    · refine hp.cg ?_ (fun i hi => ?_) (h6I 0 21 (by omega) (by omega)) (fun k => h6I 6 k (by omega) (by omega)) (fun k _ => h6L 7 k (by omega))
      · simp (disch := omega) only [gI_pI, gL_pL, gI_pL, gL_pI, qe, qn, not_true_eq_false, not_false_eq_true, true_and, and_true, false_and, and_false, and_self, Nat.add_right_cancel_iff, ↓reduceIte]
      · simp (disch := omega) only [gI_pI, gL_pL, gI_pL, gL_pI, qe, qn, not_true_eq_false, not_false_eq_true, true_and, and_true, false_and, and_false, and_self, Nat.add_right_cancel_iff, ↓reduceIte]
    · simp (disch := omega) only [gI_pI, gL_pL, gI_pL, gL_pI, qe, qn, not_true_eq_false, not_false_eq_true, true_and, and_true, false_and, and_false, and_self, Nat.add_right_cancel_iff, ↓reduceIte]
    · rw [e5 0 2 (by omega), g9.1 0 2 (by omega) (by omega), hZ 0 2 (by omega)]; exact a4
    · have : gI m6 0 0 10 = gI t3 0 0 8 := by rw [e3, y6, y4]
      rw [this]
      simp (disch := omega) only [gI_pI, gL_pL, gI_pL, gL_pI, qe, qn, not_true_eq_false, not_false_eq_true, true_and, and_true, false_and, and_false, and_self, Nat.add_right_cancel_iff, ↓reduceIte]
    · have : gI m6 0 0 11 = gI t3 0 0 9 := by rw [e4, y7, y5]
      rw [this]
      simp (disch := omega) only [gI_pI, gL_pL, gI_pL, gL_pI, qe, qn, not_true_eq_false, not_false_eq_true, true_and, and_true, false_and, and_false, and_self, Nat.add_right_cancel_iff, ↓reduceIte]
    · rw [gI_pI, if_neg (by omega), gI_pI, if_neg (by omega), gI_pI, if_neg (by omega)]
end
