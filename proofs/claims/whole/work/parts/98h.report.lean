/-! stage B: the report -/
def PGL (L : Nat) (pg m : St) : Prop := gI pg 0 0 1 = nI L ∧ gI m 0 0 33 = nI L ∧ ∀ k, k < L → gI pg 0 1 k = gI m 0 15 k
/-- what telling leaves of the model -/
def MF (m m' : St) : Prop := (∀ j k, ¬ (j = 0 ∧ k = 33) → ¬ j = 15 → gI m' 0 j k = gI m 0 j k) ∧ ∀ j k, gL m' 0 j k = gL m 0 j k
theorem mf_refl (m : St) : MF m m := ⟨fun _ _ _ _ => rfl, fun _ _ => rfl⟩
theorem mf_trans {a b c : St} (h : MF a b) (h2 : MF b c) : MF a c := ⟨fun j k p q => (h2.1 j k p q).trans (h.1 j k p q), fun j k => (h2.2 j k).trans (h.2 j k)⟩
theorem b8_all : ∀ c, c < 128 → (nI c).toInt8.toInt32.toInt8.toInt32 = nI c := by decide +kernel
section
variable {L n t b : Nat} {pg m x : St} {f : Nat → Int32}
theorem w_one (h : PGL L pg m) (hL : L < 800) {c : Nat} (hc : c < 128) : ∃ pg' m', sX1_write pg (nI c) = some pg' ∧ sX7_tell m (nI c) = some m' ∧ PGL (L + 1) pg' m' ∧ MF m m' := by
  obtain ⟨h1, h2, h3⟩ := h
  refine ⟨pI (pI pg 0 1 L (nI c)) 0 0 1 (nI (L + 1)), pI (pI m 0 15 L (nI c)) 0 0 33 (nI (L + 1)), ?_, ?_, ⟨?_, ?_, fun k hk => ?_⟩, fun j k p q => ?_, fun j k => rfl⟩
  · unfold sX1_write
    simp (disch := omega) only [zl, zm, nI_add, pk_mul, inb_t, ix_n, gd_tt, bd_e, nm_v, ite_not, ↓reduceIte, le_t, le_f, lt_t, lt_f, eq_t, eq_f, mone_f, mone_f2, h1, b8_all c hc, gI_pI, gL_pL, gI_pL, gL_pI, qe, qn, not_true_eq_false, not_false_eq_true, true_and, and_true, false_and, and_false, and_self, Nat.add_right_cancel_iff]
  · unfold sX7_tell
    simp (disch := omega) only [zl, zm, nI_add, pk_mul, inb_t, ix_n, gd_tt, bd_e, nm_v, ite_not, ↓reduceIte, le_t, le_f, lt_t, lt_f, eq_t, eq_f, mone_f, mone_f2, h2, gI_pI, gL_pL, gI_pL, gL_pI, qe, qn, not_true_eq_false, not_false_eq_true, true_and, and_true, false_and, and_false, and_self, Nat.add_right_cancel_iff]
  · rw [gI_pI, if_pos ⟨rfl, rfl, rfl⟩]
  · rw [gI_pI, if_pos ⟨rfl, rfl, rfl⟩]
  · by_cases hkL : k = L
    · rw [hkL]
      simp (disch := omega) only [gI_pI, gL_pL, gI_pL, gL_pI, qe, qn, not_true_eq_false, not_false_eq_true, true_and, and_true, false_and, and_false, and_self, Nat.add_right_cancel_iff, ↓reduceIte]
    · rw [gI_pI, if_neg (by omega), gI_pI, if_neg (by omega), gI_pI, if_neg (by omega), gI_pI, if_neg (by omega)]
      exact h3 k (by omega)
  · rw [gI_pI, if_neg (by omega), gI_pI, if_neg (by omega)]
/-- a list of signs, written by either side's loop -/
theorem w_name {l : List Nat} (hl : okL l) (h : PGL L pg m) (hL : L + l.length ≤ 800) : ∃ pg' m', sX1_writeName pg (lN (cpN l)) = some pg' ∧ sX7_tellName m (lN (mpN l)) = some m' ∧ PGL (L + l.length) pg' m' ∧ MF m m' := by
  have hl8 := hl.2.1
  refine lock_up l.length (fun k pg' m' => PGL (L + k) pg' m' ∧ MF m m') (fun F pg' k => sX1_writeName_b2 F pg' (lN (cpN l)) (nI k)) (fun F m' k => sX7_tellName_b2 F m' (lN (mpN l)) (nI k)) some some (fun F pg' m' hR => ?_) (fun F pg' m' hR => ?_) (fun k pg' m' hk hR => ?_) l.length 0 FU FU pg m (by omega) (FU_lt (by omega)) (FU_lt (by omega)) ⟨h, mf_refl m⟩
  · simp only [sX1_writeName_b2]
    by_cases h8 : l.length = 8
    · rw [h8]
      simp (disch := omega) only [zl, zm, nI_add, pk_mul, inb_t, ix_n, gd_tt, bd_e, nm_v, ite_not, ↓reduceIte, le_t, le_f, lt_t, lt_f, eq_t, eq_f, mone_f, mone_f2]
    · have e := c_letter hl (i := l.length) (by omega)
      rw [getD_out (Nat.le_refl _)] at e
      simp (disch := omega) only [zl, zm, nI_add, pk_mul, inb_t, ix_n, gd_tt, bd_e, nm_v, ite_not, ↓reduceIte, le_t, le_f, lt_t, lt_f, eq_t, eq_f, mone_f, mone_f2, e]
  · have e := m_letters hl
    simp only [sX7_tellName_b2]
    simp (disch := omega) only [zl, zm, nI_add, pk_mul, inb_t, ix_n, gd_tt, bd_e, nm_v, ite_not, ↓reduceIte, le_t, le_f, lt_t, lt_f, eq_t, eq_f, mone_f, mone_f2, e]
  · have hat := hl.at hk
    have e1 := c_letter hl (i := k) (by omega)
    have e2 := m_letters hl
    have e3 := m_letter hl (nI k)
    rw [inb_t (N := 8) (by omega) (by omega), if_pos rfl, ix_n (by omega)] at e3
    obtain ⟨pg2, m2, g1, g2, g3, g4⟩ := w_one hR.1 (by omega) (c := l.getD k 0) (by omega)
    refine ⟨pg2, m2, fun F => ?_, fun F => ?_, g3, mf_trans hR.2 g4⟩
    · simp only [sX1_writeName_b2]
      simp (disch := omega) only [zl, zm, nI_add, pk_mul, inb_t, ix_n, gd_tt, bd_e, nm_v, ite_not, ↓reduceIte, le_t, le_f, lt_t, lt_f, eq_t, eq_f, mone_f, mone_f2, e1, g1]
    · simp only [sX7_tellName_b2]
      simp (disch := omega) only [zl, zm, nI_add, pk_mul, inb_t, ix_n, gd_tt, bd_e, nm_v, ite_not, ↓reduceIte, le_t, le_f, lt_t, lt_f, eq_t, eq_f, mone_f, mone_f2, e2, e3, g2]
theorem w_word {l : List Nat} {w : Nat} (hl : okL l) (hw : lenJS.getD w 0 = l.length) (hc : ∀ k, k < l.length → chJ w k = nI (l.getD k 0)) (h : PGL L pg m) (hL : L + l.length ≤ 800) : ∃ pg' m', sX1_writeWord w pg = some pg' ∧ sX7_tellName m (lN (mpN l)) = some m' ∧ PGL (L + l.length) pg' m' ∧ MF m m' := by
  have hl8 := hl.2.1
  refine lock_up l.length (fun k pg' m' => PGL (L + k) pg' m' ∧ MF m m') (fun F pg' k => sX1_writeWord_b2 F w pg' (nI k)) (fun F m' k => sX7_tellName_b2 F m' (lN (mpN l)) (nI k)) some some (fun F pg' m' hR => ?_) (fun F pg' m' hR => ?_) (fun k pg' m' hk hR => ?_) l.length 0 FU FU pg m (by omega) (FU_lt (by omega)) (FU_lt (by omega)) ⟨h, mf_refl m⟩
  · simp only [sX1_writeWord_b2]
    rw [hw]
    simp (disch := omega) only [zl, zm, nI_add, pk_mul, inb_t, ix_n, gd_tt, bd_e, nm_v, ite_not, ↓reduceIte, le_t, le_f, lt_t, lt_f, eq_t, eq_f, mone_f, mone_f2]
  · have e := m_letters hl
    simp only [sX7_tellName_b2]
    simp (disch := omega) only [zl, zm, nI_add, pk_mul, inb_t, ix_n, gd_tt, bd_e, nm_v, ite_not, ↓reduceIte, le_t, le_f, lt_t, lt_f, eq_t, eq_f, mone_f, mone_f2, e]
  · have hat := hl.at hk
    have e2 := m_letters hl
    have e3 := m_letter hl (nI k)
    rw [inb_t (N := 8) (by omega) (by omega), if_pos rfl, ix_n (by omega)] at e3
    obtain ⟨pg2, m2, g1, g2, g3, g4⟩ := w_one hR.1 (by omega) (c := l.getD k 0) (by omega)
    refine ⟨pg2, m2, fun F => ?_, fun F => ?_, g3, mf_trans hR.2 g4⟩
    · simp only [sX1_writeWord_b2]
      rw [hw]
      simp (disch := omega) only [zl, zm, nI_add, pk_mul, inb_t, ix_n, gd_tt, bd_e, nm_v, ite_not, ↓reduceIte, le_t, le_f, lt_t, lt_f, eq_t, eq_f, mone_f, mone_f2, hc, g1]
    · simp only [sX7_tellName_b2]
      simp (disch := omega) only [zl, zm, nI_add, pk_mul, inb_t, ix_n, gd_tt, bd_e, nm_v, ite_not, ↓reduceIte, le_t, le_f, lt_t, lt_f, eq_t, eq_f, mone_f, mone_f2, e2, e3, g2]
/-- the words of the states -/
theorem w_state {st : Nat} (hst : st ≤ 4) (h : PGL L pg m) (hL : L + 7 ≤ 800) : ∃ w pg' m' L', sX1_stateWord (nI st) = some w ∧ ltN w nJS = true ∧ (∃ v, sX7_wordOf (nI st) = some v ∧ sX7_tellName m v = some m') ∧ sX1_writeWord w pg = some pg' ∧ PGL L' pg' m' ∧ L' ≤ L + 7 ∧ MF m m' := by
  have key : ∀ (w : Nat) (l : List Nat) (v : Int64), sX1_stateWord (nI st) = some w → ltN w nJS = true → sX7_wordOf (nI st) = some v → v = lN (mpN l) → okL l → l.length ≤ 7 → lenJS.getD w 0 = l.length → (∀ k, k < l.length → chJ w k = nI (l.getD k 0)) → ∃ w pg' m' L', sX1_stateWord (nI st) = some w ∧ ltN w nJS = true ∧ (∃ v, sX7_wordOf (nI st) = some v ∧ sX7_tellName m v = some m') ∧ sX1_writeWord w pg = some pg' ∧ PGL L' pg' m' ∧ L' ≤ L + 7 ∧ MF m m' := by
    intro w l v h1 h2 h3 h4 h5 h6 h7 h8
    obtain ⟨pg', m', g1, g2, g3, g4⟩ := w_word h5 h7 h8 h (by omega)
    exact ⟨w, pg', m', _, h1, h2, ⟨v, h3, by rw [h4]; exact g2⟩, g1, g3, by omega, g4⟩
  rcases (by omega : st = 0 ∨ st = 1 ∨ st = 2 ∨ st = 3 ∨ st = 4) with rfl | rfl | rfl | rfl | rfl
  · exact key 0 [115, 108, 101, 101, 112, 115] 650286611 rfl rfl rfl (by decide +kernel) ⟨by decide, by decide, by decide⟩ (by decide) rfl (by decide +kernel)
  · exact key 1 [108, 105, 115, 116, 101, 110, 115] 13207475667 rfl rfl rfl (by decide +kernel) ⟨by decide, by decide, by decide⟩ (by decide) rfl (by decide +kernel)
  · exact key 2 [119, 97, 105, 116, 115] 24159891 rfl rfl rfl (by decide +kernel) ⟨by decide, by decide, by decide⟩ (by decide) rfl (by decide +kernel)
  · exact key 3 [115, 101, 110, 100, 115] 20101267 rfl rfl rfl (by decide +kernel) ⟨by decide, by decide, by decide⟩ (by decide) rfl (by decide +kernel)
  · exact key 4 [111, 117, 116] 16052 rfl rfl rfl (by decide +kernel) ⟨by decide, by decide, by decide⟩ (by decide) rfl (by decide +kernel)
/-! numbers -/
theorem n_skip {F r u : Nat} (hu : 1 < u) (hu2 : u ≤ 1000) (hr : r < u) : sX1_writeNumber_b9 (F + 1) pg (nI r) (nI 0) (nI u) = sX1_writeNumber_b9 F pg (nI r) (nI 0) (nI (u / 10)) := by
  have hd : r / u = 0 := Nat.div_eq_of_lt hr
  simp only [sX1_writeNumber_b9, sX1_writeNumber_b48]
  simp (disch := omega) only [zl, zm, nI_add, pk_mul, inb_t, ix_n, gd_tt, bd_e, nm_v, ite_not, ↓reduceIte, le_t, le_f, lt_t, lt_f, eq_t, eq_f, mone_f, mone_f2, nz_t, pk_div, hd, Nat.zero_mul, zs, Nat.sub_zero]
theorem n_put {F r u bg : Nat} {pg' : St} (hu : 1 ≤ u) (hu2 : u ≤ 1000) (hr : r < 10 * u) (hb : bg = 0 ∨ bg = 1) (hw : bg = 1 ∨ u ≤ r ∨ u = 1) (e : sX1_write pg (nI (48 + r / u)) = some pg') : sX1_writeNumber_b9 (F + 1) pg (nI r) (nI bg) (nI u) = sX1_writeNumber_b9 F pg' (nI (r % u)) (nI 1) (nI (u / 10)) := by
  have hm : r / u * u ≤ r := Nat.div_mul_le_self r u
  have hm2 : r - r / u * u = r % u := by
    have := Nat.div_add_mod r u
    rw [Nat.mul_comm] at this; omega
  have hd10 : r / u < 10 := Nat.div_lt_of_lt_mul (by rw [Nat.mul_comm]; exact hr)
  have hdu : r / u * u ≤ 10 * 1000 := Nat.le_trans hm (by omega)
  simp only [sX1_writeNumber_b9, sX1_writeNumber_b48]
  rcases hb with rfl | rfl
  · by_cases hd : 0 < r / u
    · simp (disch := omega) only [zl, zm, nI_add, pk_mul, inb_t, ix_n, gd_tt, bd_e, nm_v, ite_not, ↓reduceIte, le_t, le_f, lt_t, lt_f, eq_t, eq_f, mone_f, mone_f2, nz_t, pk_div, zs, hm2, e]
    · have hd0 : r / u = 0 := Nat.eq_zero_of_not_pos hd
      have hu1 : u = 1 := by
        rcases hw with h | h | h
        · omega
        · have := Nat.div_pos h (by omega); omega
        · exact h
      subst hu1
      simp (disch := omega) only [zl, zm, nI_add, pk_mul, inb_t, ix_n, gd_tt, bd_e, nm_v, ite_not, ↓reduceIte, le_t, le_f, lt_t, lt_f, eq_t, eq_f, mone_f, mone_f2, nz_t, pk_div, zs, hm2, e]
  · simp (disch := omega) only [zl, zm, nI_add, pk_mul, inb_t, ix_n, gd_tt, bd_e, nm_v, ite_not, ↓reduceIte, le_t, le_f, lt_t, lt_f, eq_t, eq_f, mone_f, mone_f2, nz_t, pk_div, zs, hm2, e]
theorem n_end {F : Nat} {r bg : Int32} : sX1_writeNumber_b9 (F + 1) pg r bg (nI 0) = some pg := by
  simp only [sX1_writeNumber_b9]
  simp (disch := omega) only [zl, zm, nI_add, pk_mul, inb_t, ix_n, gd_tt, bd_e, nm_v, ite_not, ↓reduceIte, le_t, le_f, lt_t, lt_f, eq_t, eq_f, mone_f, mone_f2]
theorem v_scale {F v u : Nat} (hv : v ≤ 9999) (hu : 1 ≤ u) (hu2 : u ≤ 1000) (h : 9 < v / u) : sX7_tellNumber_b2 (F + 1) m (nI v) (nI u) = sX7_tellNumber_b2 F m (nI v) (nI (u * 10)) := by
  have hd : v / u ≤ v := Nat.div_le_self v u
  simp only [sX7_tellNumber_b2]
  simp (disch := omega) only [zl, zm, nI_add, pk_mul, inb_t, ix_n, gd_tt, bd_e, nm_v, ite_not, ↓reduceIte, le_t, le_f, lt_t, lt_f, eq_t, eq_f, mone_f, mone_f2, nz_t, pk_div]
theorem v_found {F v u : Nat} (hv : v ≤ 9999) (hu : 1 ≤ u) (hu2 : u ≤ 1000) (h : v / u ≤ 9) : sX7_tellNumber_b2 (F + 1) m (nI v) (nI u) = sX7_tellNumber_b20 FU m (nI v) (nI u) := by
  simp only [sX7_tellNumber_b2]
  simp (disch := omega) only [zl, zm, nI_add, pk_mul, inb_t, ix_n, gd_tt, bd_e, nm_v, ite_not, ↓reduceIte, le_t, le_f, lt_t, lt_f, eq_t, eq_f, mone_f, mone_f2, nz_t, pk_div]
theorem v_put {F v u : Nat} {m' : St} (hv : v ≤ 9999) (hu : 1 ≤ u) (hu2 : u ≤ 1000) (e : sX7_tell m (nI (48 + v / u % 10)) = some m') : sX7_tellNumber_b20 (F + 1) m (nI v) (nI u) = sX7_tellNumber_b20 F m' (nI v) (nI (u / 10)) := by
  have hd : v / u ≤ v := Nat.div_le_self v u
  have hr : nI (v / u) - nI (v / u) / nI 10 * nI 10 = nI (v / u % 10) := pk_rem (by omega) (by omega) (by omega)
  simp only [sX7_tellNumber_b20, zl]
  rw [pk_div (a := v) (d := u) (by omega) (by omega) (by omega), hr, nI_add, e]
  simp (disch := omega) only [zl, zm, nI_add, pk_mul, inb_t, ix_n, gd_tt, bd_e, nm_v, ite_not, ↓reduceIte, le_t, le_f, lt_t, lt_f, eq_t, eq_f, mone_f, mone_f2, nz_t, pk_div]
theorem v_end {F : Nat} {v : Int32} : sX7_tellNumber_b20 (F + 1) m v (nI 0) = some m := by
  simp only [sX7_tellNumber_b20]
  simp (disch := omega) only [zl, zm, nI_add, pk_mul, inb_t, ix_n, gd_tt, bd_e, nm_v, ite_not, ↓reduceIte, le_t, le_f, lt_t, lt_f, eq_t, eq_f, mone_f, mone_f2]
theorem w_number {v : Nat} (hv : v ≤ 9999) (h : PGL L pg m) (hL : L + 4 ≤ 800) : ∃ pg' m' L', sX1_writeNumber pg (nI v) = some pg' ∧ sX7_tellNumber m (nI v) = some m' ∧ PGL L' pg' m' ∧ L' ≤ L + 4 ∧ MF m m' := by
  obtain ⟨F, hF⟩ : ∃ F, FU = F + 1 + 1 + 1 + 1 + 1 := ⟨999995, rfl⟩
  have c0 : sX1_writeNumber pg (nI v) = sX1_writeNumber_b9 (F + 1 + 1 + 1 + 1 + 1) pg (nI v) (nI 0) (nI 1000) := by rw [← hF]; rfl
  have m0 : ∀ m, sX7_tellNumber m (nI v) = sX7_tellNumber_b2 (F + 1 + 1 + 1 + 1 + 1) m (nI v) (nI 1) := fun m => by rw [← hF]; rfl
  by_cases h1 : v < 10
  · obtain ⟨p1, q1, a1, a2, a3, a4⟩ := w_one h (by omega) (c := 48 + v) (by omega)
    refine ⟨p1, q1, _, ?_, ?_, a3, by omega, a4⟩
    · rw [c0, n_skip (by omega) (by omega) (by omega), n_skip (u := 100) (by omega) (by omega) (by omega), n_skip (u := 10) (by omega) (by omega) (by omega), n_put (u := 1) (pg' := p1) (by omega) (by omega) (by omega) (Or.inl rfl) (Or.inr (Or.inr rfl)) (by rw [Nat.div_one]; exact a1)]
      exact n_end
    · rw [m0, v_found hv (by omega) (by omega) (by omega), hF, v_put (u := 1) (m' := q1) hv (by omega) (by omega) (by rw [show v / 1 % 10 = v by omega]; exact a2)]
      exact v_end
  by_cases h2 : v < 100
  · obtain ⟨p1, q1, a1, a2, a3, a4⟩ := w_one h (by omega) (c := 48 + v / 10) (by omega)
    obtain ⟨p2, q2, b1, b2, b3, b4⟩ := w_one a3 (by omega) (c := 48 + v % 10) (by omega)
    refine ⟨p2, q2, _, ?_, ?_, b3, by omega, mf_trans a4 b4⟩
    · rw [c0, n_skip (by omega) (by omega) (by omega), n_skip (u := 100) (by omega) (by omega) (by omega), n_put (u := 10) (pg' := p1) (by omega) (by omega) (by omega) (Or.inl rfl) (Or.inr (Or.inl (by omega))) a1, n_put (u := 1) (pg' := p2) (by omega) (by omega) (by omega) (Or.inr rfl) (Or.inl rfl) (by rw [Nat.div_one]; exact b1)]
      exact n_end
    · rw [m0, v_scale hv (by omega) (by omega) (by omega), v_found (u := 10) hv (by omega) (by omega) (by omega), hF, v_put (u := 10) (m' := q1) hv (by omega) (by omega) (by rw [show v / 10 % 10 = v / 10 by omega]; exact a2), v_put (u := 1) (m' := q2) hv (by omega) (by omega) (by rw [show v / 1 % 10 = v % 10 by omega]; exact b2)]
      exact v_end
  by_cases h3 : v < 1000
  · obtain ⟨p1, q1, a1, a2, a3, a4⟩ := w_one h (by omega) (c := 48 + v / 100) (by omega)
    obtain ⟨p2, q2, b1, b2, b3, b4⟩ := w_one a3 (by omega) (c := 48 + v % 100 / 10) (by omega)
    obtain ⟨p3, q3, d1, d2, d3, d4⟩ := w_one b3 (by omega) (c := 48 + v % 100 % 10) (by omega)
    refine ⟨p3, q3, _, ?_, ?_, d3, by omega, mf_trans a4 (mf_trans b4 d4)⟩
    · rw [c0, n_skip (by omega) (by omega) (by omega), n_put (u := 100) (pg' := p1) (by omega) (by omega) (by omega) (Or.inl rfl) (Or.inr (Or.inl (by omega))) a1, n_put (u := 10) (pg' := p2) (by omega) (by omega) (by omega) (Or.inr rfl) (Or.inl rfl) b1, n_put (u := 1) (pg' := p3) (by omega) (by omega) (by omega) (Or.inr rfl) (Or.inl rfl) (by rw [Nat.div_one]; exact d1)]
      exact n_end
    · rw [m0, v_scale hv (by omega) (by omega) (by omega), v_scale (u := 10) hv (by omega) (by omega) (by omega), v_found (u := 100) hv (by omega) (by omega) (by omega), hF, v_put (u := 100) (m' := q1) hv (by omega) (by omega) (by rw [show v / 100 % 10 = v / 100 by omega]; exact a2), v_put (u := 10) (m' := q2) hv (by omega) (by omega) (by rw [show v / 10 % 10 = v % 100 / 10 by omega]; exact b2), v_put (u := 1) (m' := q3) hv (by omega) (by omega) (by rw [show v / 1 % 10 = v % 100 % 10 by omega]; exact d2)]
      exact v_end
  · obtain ⟨p1, q1, a1, a2, a3, a4⟩ := w_one h (by omega) (c := 48 + v / 1000) (by omega)
    obtain ⟨p2, q2, b1, b2, b3, b4⟩ := w_one a3 (by omega) (c := 48 + v % 1000 / 100) (by omega)
    obtain ⟨p3, q3, d1, d2, d3, d4⟩ := w_one b3 (by omega) (c := 48 + v % 1000 % 100 / 10) (by omega)
    obtain ⟨p4, q4, i1, i2, i3, i4⟩ := w_one d3 (by omega) (c := 48 + v % 1000 % 100 % 10) (by omega)
    refine ⟨p4, q4, _, ?_, ?_, i3, by omega, mf_trans a4 (mf_trans b4 (mf_trans d4 i4))⟩
    · rw [c0, n_put (u := 1000) (pg' := p1) (by omega) (by omega) (by omega) (Or.inl rfl) (Or.inr (Or.inl (by omega))) a1, n_put (u := 100) (pg' := p2) (by omega) (by omega) (by omega) (Or.inr rfl) (Or.inl rfl) b1, n_put (u := 10) (pg' := p3) (by omega) (by omega) (by omega) (Or.inr rfl) (Or.inl rfl) d1, n_put (u := 1) (pg' := p4) (by omega) (by omega) (by omega) (Or.inr rfl) (Or.inl rfl) (by rw [Nat.div_one]; exact i1)]
      exact n_end
    · rw [m0, v_scale hv (by omega) (by omega) (by omega), v_scale (u := 10) hv (by omega) (by omega) (by omega), v_scale (u := 100) hv (by omega) (by omega) (by omega), v_found (u := 1000) hv (by omega) (by omega) (by omega), hF, v_put (u := 1000) (m' := q1) hv (by omega) (by omega) (by rw [show v / 1000 % 10 = v / 1000 by omega]; exact a2), v_put (u := 100) (m' := q2) hv (by omega) (by omega) (by rw [show v / 100 % 10 = v % 1000 / 100 by omega]; exact b2), v_put (u := 10) (m' := q3) hv (by omega) (by omega) (by rw [show v / 10 % 10 = v % 1000 % 100 / 10 by omega]; exact d2), v_put (u := 1) (m' := q4) hv (by omega) (by omega) (by rw [show v / 1 % 10 = v % 1000 % 100 % 10 by omega]; exact i2)]
      exact v_end
end
