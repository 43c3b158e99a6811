/-! stage B: letters of names; the rows wb_ and pf_ are pasted from the kit's laws -/
theorem wb_tb (n : Nat) : (lN n).toBitVec = BitVec.ofNat 64 n := rfl
theorem wb_inj {a b : Int64} (h : a.toBitVec = b.toBitVec) : a = b := Int64.toBitVec_inj.mp h
theorem wb_tn {n : Nat} (h : n < 2 ^ 64) : (lN n).toBitVec.toNat = n := by rw [wb_tb, BitVec.toNat_ofNat, Nat.mod_eq_of_lt h]
theorem wb_of (x : Int64) : ∃ n, n < 2 ^ 64 ∧ x = lN n := ⟨x.toBitVec.toNat, x.toBitVec.isLt, wb_inj (by rw [wb_tb]; simp)⟩
theorem wb_of32 (x : Int32) : ∃ n, n < 2 ^ 32 ∧ x = nI n := ⟨x.toBitVec.toNat, x.toBitVec.isLt, Int32.toBitVec_inj.mp (by show _ = BitVec.ofNat 32 _; simp)⟩
theorem wb_c : ∀ k, k < 64 → ((nI k).toInt64 &&& 63) = lN k := by decide +kernel
theorem wb_cu : ∀ k, k < 64 → ((nI k).toInt64.toUInt64 &&& Int64.toUInt64 63) = UInt64.ofNat k := by decide +kernel
theorem wb_sm : ∀ k, k < 64 → (BitVec.ofNat 64 k).smod 64 = BitVec.ofNat 64 k := by decide +kernel
theorem wb_pw {a b : Nat} (h : a ≤ b) : 2 ^ b = 2 ^ a * 2 ^ (b - a) := by rw [← Nat.pow_add]; congr 1; omega
theorem wb_lt2 {a b : Nat} (h : a < b) : 2 ^ a < 2 ^ b := Nat.pow_lt_pow_right (by decide) h
theorem wb_mod (n : Nat) : lN n = lN (n % 2 ^ 64) := wb_inj (by rw [wb_tb, wb_tb]; apply BitVec.eq_of_toNat_eq; rw [BitVec.toNat_ofNat, BitVec.toNat_ofNat, Nat.mod_mod])
theorem wb_shr {n k : Nat} (hn : n < 2 ^ 64) (hk : k < 64) : ((lN n).toUInt64 >>> ((nI k).toInt64.toUInt64 &&& Int64.toUInt64 63)).toInt64 = lN (n / 2 ^ k) := by
  rw [wb_cu k hk]
  apply wb_inj
  apply BitVec.eq_of_toNat_eq
  show ((lN n).toUInt64 >>> UInt64.ofNat k).toNat = (BitVec.ofNat 64 _).toNat
  have h1 : (UInt64.ofNat k).toNat = k := by
    show (BitVec.ofNat 64 k).toNat = k
    rw [BitVec.toNat_ofNat, Nat.mod_eq_of_lt (by omega)]
  have h2 : (lN n).toUInt64.toNat = n := wb_tn hn
  rw [UInt64.toNat_shiftRight, h1, h2, Nat.mod_eq_of_lt hk, Nat.shiftRight_eq_div_pow, BitVec.toNat_ofNat, Nat.mod_eq_of_lt (Nat.lt_of_le_of_lt (Nat.div_le_self _ _) hn)]
theorem wb_shl (n : Nat) {k : Nat} (hk : k < 64) : lN n <<< ((nI k).toInt64 &&& 63) = lN (n * 2 ^ k) := by
  rw [wb_c k hk]
  apply wb_inj
  rw [Int64.toBitVec_shiftLeft, wb_tb, wb_tb, wb_tb, wb_sm k hk]
  apply BitVec.eq_of_toNat_eq
  rw [BitVec.shiftLeft_eq', BitVec.toNat_shiftLeft, BitVec.toNat_ofNat, BitVec.toNat_ofNat, BitVec.toNat_ofNat, Nat.mod_eq_of_lt (show k < 2 ^ 64 by omega), Nat.shiftLeft_eq, Nat.mul_mod, Nat.mod_mod, ← Nat.mul_mod]
theorem wb_and {a b : Nat} (ha : a < 2 ^ 64) (hb : b < 2 ^ 64) : lN a &&& lN b = lN (a &&& b) := by
  apply wb_inj
  rw [Int64.toBitVec_and, wb_tb, wb_tb, wb_tb]
  apply BitVec.eq_of_toNat_eq
  rw [BitVec.toNat_and, BitVec.toNat_ofNat, BitVec.toNat_ofNat, BitVec.toNat_ofNat, Nat.mod_eq_of_lt ha, Nat.mod_eq_of_lt hb, Nat.mod_eq_of_lt (Nat.and_lt_two_pow _ hb)]
theorem wb_or {a b : Nat} (ha : a < 2 ^ 64) (hb : b < 2 ^ 64) : lN a ||| lN b = lN (a ||| b) := by
  apply wb_inj
  rw [Int64.toBitVec_or, wb_tb, wb_tb, wb_tb]
  apply BitVec.eq_of_toNat_eq
  rw [BitVec.toNat_or, BitVec.toNat_ofNat, BitVec.toNat_ofNat, BitVec.toNat_ofNat, Nat.mod_eq_of_lt ha, Nat.mod_eq_of_lt hb, Nat.mod_eq_of_lt (Nat.or_lt_two_pow ha hb)]
theorem wb_mask {n k : Nat} (hn : n < 2 ^ 64) (hk : k < 64) : lN n &&& lN (2 ^ k - 1) = lN (n % 2 ^ k) := by
  rw [wb_and hn (by have := wb_lt2 hk; omega), Nat.and_two_pow_sub_one_eq_mod]
theorem wb_a1 {n : Nat} (hn : n < 2 ^ 64) : lN n &&& 1 = lN (n % 2) := wb_mask (k := 1) hn (by decide)
theorem wb_bit {n k : Nat} (hn : n < 2 ^ 64) (hk : k < 64) : ((lN n).toUInt64 >>> ((nI k).toInt64.toUInt64 &&& Int64.toUInt64 63)).toInt64 &&& 1 = lN (n / 2 ^ k % 2) := by
  rw [wb_shr hn hk, wb_a1 (Nat.lt_of_le_of_lt (Nat.div_le_self _ _) hn)]
theorem pf_lI {a : Nat} (h : a < 2 ^ 63) : (lN a).toInt = (a : Int) := lg_ofNat_toInt h
theorem pf_shr {a d : Nat} {D : Int64} (hD : (D.toBitVec.smod 64).toNat = d) (h : a < 2 ^ 62) : lN a >>> D = lN (a / 2 ^ d) := by
  have hd : a / 2 ^ d ≤ a := Nat.div_le_self _ _
  apply Int64.toInt_inj.mp
  have e : (lN a >>> D).toInt = (lN a).toInt >>> d := by
    rw [← hD]
    exact BitVec.toInt_sshiftRight ..
  rw [e, Int.shiftRight_eq_div_pow, pf_lI (by omega), pf_lI (by omega)]
  rfl

/-! packs -/
theorem cpN_lt : ∀ {l : List Nat}, (∀ c, c ∈ l → c < 256) → cpN l < 256 ^ l.length
  | [], _ => Nat.one_pos
  | c :: l, h => by
    have h1 := h c List.mem_cons_self
    have h2 := cpN_lt (l := l) fun d hd => h d (List.mem_cons_of_mem _ hd)
    show c + 256 * cpN l < 256 ^ (l.length + 1)
    rw [Nat.pow_succ]
    omega
theorem cpN_at : ∀ {l : List Nat} (i : Nat), (∀ c, c ∈ l → c < 256) → cpN l / 256 ^ i % 256 = l.getD i 0
  | [], i, _ => by
    show 0 / 256 ^ i % 256 = _
    rw [Nat.zero_div]; rfl
  | c :: l, 0, h => by
    have h1 := h c List.mem_cons_self
    show (c + 256 * cpN l) / 256 ^ 0 % 256 = c
    rw [Nat.pow_zero, Nat.div_one]; omega
  | c :: l, i + 1, h => by
    have h1 := h c List.mem_cons_self
    show (c + 256 * cpN l) / 256 ^ (i + 1) % 256 = l.getD i 0
    rw [Nat.pow_succ, Nat.mul_comm (256 ^ i) 256, ← Nat.div_div_eq_div_mul, show (c + 256 * cpN l) / 256 = cpN l by omega]
    exact cpN_at i fun d hd => h d (List.mem_cons_of_mem _ hd)
theorem okL.lt {l : List Nat} (h : okL l) : ∀ c, c ∈ l → c < 256 := fun c hc => by have := h.2.2 c hc; omega
theorem okL.cp {l : List Nat} (h : okL l) : cpN l < 2 ^ 64 := Nat.lt_of_lt_of_le (cpN_lt h.lt) (by
  have : 256 ^ l.length ≤ 256 ^ 8 := Nat.pow_le_pow_right (by decide) h.2.1
  exact Nat.le_trans this (by decide))
theorem getD_mem {l : List Nat} {i : Nat} (h : i < l.length) : l.getD i 0 ∈ l := by
  rw [List.getD_eq_getElem?_getD, List.getElem?_eq_getElem h]; exact List.getElem_mem h
theorem getD_out {l : List Nat} {i : Nat} (h : l.length ≤ i) : l.getD i 0 = 0 := by
  rw [List.getD_eq_getElem?_getD, List.getElem?_eq_none h]; rfl
theorem okL.at {l : List Nat} (h : okL l) {i : Nat} (hi : i < l.length) : 97 ≤ l.getD i 0 ∧ l.getD i 0 ≤ 122 := h.2.2 _ (getD_mem hi)
theorem okL.le {l : List Nat} (h : okL l) (i : Nat) : l.getD i 0 ≤ 122 := by
  rcases Nat.lt_or_ge i l.length with hi | hi
  · exact (h.at hi).2
  · rw [getD_out hi]; omega
theorem list_ext {l l' : List Nat} (h : l.length = l'.length) (h2 : ∀ i, i < l.length → l.getD i 0 = l'.getD i 0) : l = l' := by
  refine List.ext_getElem h fun i h1 h3 => ?_
  have := h2 i h1
  rw [List.getD_eq_getElem?_getD, List.getD_eq_getElem?_getD, List.getElem?_eq_getElem h1, List.getElem?_eq_getElem h3] at this
  exact this
/-- letter i, as the class packs a name -/
theorem c_letter {l : List Nat} (h : okL l) {i : Nat} (hi : i < 8) : sX6_letterOf (lN (cpN l)) (nI i) = some (nI (l.getD i 0)) := by
  unfold sX6_letterOf
  have e1 : ((lN (cpN l)).toUInt64 >>> ((nI (8 * i)).toInt64.toUInt64 &&& Int64.toUInt64 63)).toInt64 = lN (cpN l / 2 ^ (8 * i)) := wb_shr h.cp (by omega)
  have e2 : cpN l / 2 ^ (8 * i) % 256 = l.getD i 0 := by
    rw [Nat.pow_mul]; exact cpN_at i h.lt
  have e3 : nI (cpN l / 2 ^ (8 * i)) &&& nI 255 = nI (l.getD i 0) := by
    rw [n_and, ← e2]
    exact congrArg nI (Nat.and_two_pow_sub_one_eq_mod _ 8)
  simp (disch := omega) only [zl, pk_mul, lt_f, lt_t, ↓reduceIte, e1, lN_i, e3]
theorem c_letterO {v : Int64} {a : Int32} (h : inb a 8 = false) : sX6_letterOf v a = some (nI 0) := by
  unfold sX6_letterOf
  simp only [zl]
  by_cases h1 : a < nI 0
  · rw [if_pos h1]
  · rw [if_neg h1, if_neg]
    intro h2
    have h3 : inb a 8 = true := by
      refine decide_eq_true ?_
      rw [Int32.lt_iff_toInt_lt, nI_toInt (by omega)] at h1 h2
      omega
    rw [h3] at h; cases h
/-! the model's packs -/
theorem mpJ_s (l : List Nat) (j : Nat) : mpJ l (j + 1) = mpJ l j * 32 + (l.getD j 0 - 96) := rfl
theorem mpJ_lt {l : List Nat} (h : okL l) : ∀ j, mpJ l j < 32 ^ j
  | 0 => Nat.one_pos
  | j + 1 => by
    have ih := mpJ_lt h j
    have h1 := h.le j
    rw [mpJ_s, Nat.pow_succ]
    omega
theorem mpJ_pos {l : List Nat} (h : okL l) {j : Nat} (hj : j < l.length) : 0 < mpJ l (j + 1) := by
  have := h.at hj
  rw [mpJ_s]; omega
theorem mpJ_div {l : List Nat} (h : okL l) (j : Nat) : mpJ l (j + 1) / 32 = mpJ l j ∧ mpJ l (j + 1) % 32 = l.getD j 0 - 96 := by
  have := h.le j
  rw [mpJ_s]; omega
theorem mpJ_bd {l : List Nat} (h : okL l) {j : Nat} (hj : j ≤ 8) : mpJ l j < 2 ^ 40 := Nat.lt_of_lt_of_le (mpJ_lt h j) (by
  have : 32 ^ j ≤ 32 ^ 8 := Nat.pow_le_pow_right (by decide) hj
  exact Nat.le_trans this (by decide))
theorem mpJ_back {l : List Nat} (h : okL l) (j : Nat) : ∀ d, mpJ l (j + d) / 32 ^ d = mpJ l j
  | 0 => by rw [Nat.pow_zero, Nat.div_one, Nat.add_zero]
  | d + 1 => by
    rw [Nat.pow_succ, Nat.mul_comm (32 ^ d) 32, ← Nat.div_div_eq_div_mul, ← Nat.add_assoc, (mpJ_div h (j + d)).1]
    exact mpJ_back h j d
theorem sh5 : ((nI 5).toInt64 &&& 63).toBitVec.smod 64 = BitVec.ofNat 64 5 := by decide
theorem shK : ∀ k, k < 64 → (((nI k).toInt64 &&& 63).toBitVec.smod 64).toNat = k := by decide +kernel
theorem m_letters {l : List Nat} (h : okL l) : sX7_lettersOf (lN (mpN l)) = some (nI l.length) := by
  have hl := h.2.1
  refine fuel_up l.length (fun F k => sX7_lettersOf_b4 F (nI k) (lN (mpJ l (l.length - k)))) _ (fun F => ?_) (fun F k hk => ?_) l.length 0 FU (by omega) (FU_lt (by omega))
  · simp only [sX7_lettersOf_b4, zl]
    have e0 : lN 0 ≤ (0 : Int64) := by decide
    have e : (lN (mpJ l (l.length - l.length)) ≤ (0 : Int64)) := by rw [Nat.sub_self]; exact e0
    rw [if_pos (show lg_cmp (lN (mpJ l (l.length - l.length))) 0 ≤ nI 0 from (lg_cmp_le _ _).mpr e)]
  · simp only [sX7_lettersOf_b4, zl]
    obtain ⟨j, hj⟩ : ∃ j, l.length - k = j + 1 := ⟨l.length - k - 1, by omega⟩
    have hb := mpJ_bd h (j := j + 1) (by omega)
    have e : ¬ (lN (mpJ l (j + 1)) ≤ (0 : Int64)) := by
      show ¬ (lN (mpJ l (j + 1)) ≤ lN 0)
      rw [pk_lLE (by omega) (by decide)]
      have := mpJ_pos h (j := j) (by omega)
      omega
    have e2 : lN (mpJ l (j + 1)) >>> ((nI 5).toInt64 &&& 63) = lN (mpJ l j) := by
      rw [pf_shr (d := 5) (shK 5 (by decide)) (by omega)]
      exact congrArg lN (mpJ_div h j).1
    rw [hj, if_neg (show ¬ lg_cmp (lN (mpJ l (j + 1))) 0 ≤ nI 0 from fun q => e ((lg_cmp_le _ _).mp q)), show l.length - (k + 1) = j by omega]
    simp (disch := omega) only [zl, zm, nI_add, pk_mul, inb_t, ix_n, gd_tt, bd_e, nm_v, ite_not, ↓reduceIte, le_t, le_f, lt_t, lt_f, eq_t, eq_f, mone_f, mone_f2, e2]
theorem m_letter {l : List Nat} (h : okL l) (a : Int32) : sX7_letterOf (lN (mpN l)) a = some (nI (if inb a 8 = true then l.getD (ix a) 0 else 0)) := by
  have hl := h.2.1
  have hl1 := h.1
  unfold sX7_letterOf
  rw [m_letters h]
  simp only [bd_e, zl]
  have hin : sX7_isIn a.toInt64 (0 : Int64) (nI l.length - nI 1).toInt64 = some (nI (inR a (nI 0) (nI l.length - nI 1)).toNat) := m_isIn a (nI 0) _
  rw [hin, zs hl1]
  simp only [bd_e]
  have hiff : inR a (nI 0) (nI (l.length - 1)) = inb a l.length := by
    unfold inR inb
    rw [← Bool.decide_and]
    refine decide_eq_decide.mpr ?_
    rw [Int32.le_iff_toInt_le, Int32.le_iff_toInt_le, nI_toInt (by omega), nI_toInt (by omega)]
    omega
  rw [hiff]
  rcases in_case a l.length with hf | ⟨i, hi, rfl⟩
  · rw [hf]
    have h0 : (if inb a 8 = true then l.getD (ix a) 0 else 0) = 0 := by
      by_cases h8 : inb a 8 = true
      · rw [if_pos h8]
        obtain ⟨k, hk, rfl⟩ := inb_ex h8
        rw [ix_n (by omega)]
        refine getD_out ?_
        rcases Nat.lt_or_ge k l.length with hk2 | hk2
        · rw [inb_t hk2 (by omega)] at hf; cases hf
        · exact hk2
      · rw [if_neg h8]
    rw [h0]; rfl
  · rw [inb_t hi (by omega), inb_t (N := 8) (by omega) (by omega), ix_n (by omega)]
    have hle := h.at hi
    have e1 : lN (mpN l) >>> ((nI (5 * (l.length - 1 - i))).toInt64 &&& 63) = lN (mpJ l (i + 1)) := by
      have hb := mpJ_bd h (j := l.length) hl
      rw [pf_shr (d := 5 * (l.length - 1 - i)) (shK _ (by omega)) (show mpN l < 2 ^ 62 by unfold mpN; omega)]
      have := mpJ_back h (i + 1) (l.length - 1 - i)
      rw [show i + 1 + (l.length - 1 - i) = l.length by omega] at this
      rw [Nat.pow_mul]
      exact congrArg lN this
    have e2 : lN (mpJ l (i + 1)) &&& (31 : Int64) = lN (l.getD i 0 - 96) := by
      have hb := mpJ_bd h (j := i + 1) (by omega)
      have := wb_mask (n := mpJ l (i + 1)) (k := 5) (by omega) (by decide)
      exact this.trans (congrArg lN (mpJ_div h i).2)
    simp (disch := omega) only [Bool.toNat_true, eq_f, ↓reduceIte, zs, pk_mul, e1, e2, lN_i, nI_add]
    rw [show l.getD i 0 - 96 + 96 = l.getD i 0 by omega]
/-! packs tell names apart -/
theorem cp_inj {l l' : List Nat} (h : okL l) (h' : okL l') : lN (cpN l) = lN (cpN l') ↔ l = l' := by
  refine ⟨fun e => ?_, fun e => by rw [e]⟩
  have e2 : cpN l = cpN l' := by
    have := congrArg (fun v : Int64 => v.toBitVec.toNat) e
    simp only [wb_tn h.cp, wb_tn h'.cp] at this
    exact this
  have e3 : ∀ i, l.getD i 0 = l'.getD i 0 := fun i => by rw [← cpN_at i h.lt, ← cpN_at i h'.lt, e2]
  refine list_ext ?_ fun i _ => e3 i
  rcases Nat.lt_trichotomy l.length l'.length with h1 | h1 | h1
  · have h2 := e3 l.length
    rw [getD_out (Nat.le_refl _)] at h2
    have := (h'.at h1).1; omega
  · exact h1
  · have h2 := e3 l'.length
    rw [getD_out (Nat.le_refl l'.length)] at h2
    have := (h.at h1).1; omega
theorem mp_inj {l l' : List Nat} (h : okL l) (h' : okL l') : lN (mpN l) = lN (mpN l') ↔ l = l' := by
  refine ⟨fun e => ?_, fun e => by rw [e]⟩
  have hlen : l.length = l'.length := by
    have h1 := (m_letters h).symm.trans ((congrArg sX7_lettersOf e).trans (m_letters h'))
    have h2 := Option.some.inj h1
    have := h.2.1; have := h'.2.1
    exact (nI_eq (by omega) (by omega)).mp h2
  refine list_ext hlen fun i hi => ?_
  have h1 := (m_letter h (nI i)).symm.trans ((congrArg (fun z => sX7_letterOf z (nI i)) e).trans (m_letter h' (nI i)))
  have h2 := Option.some.inj h1
  have := h.2.1
  rw [inb_t (N := 8) (by omega) (by omega), if_pos rfl, if_pos rfl, ix_n (by omega)] at h2
  have := h.le i; have := h'.le i
  exact (nI_eq (by omega) (by omega)).mp h2
section
variable {n t : Nat} {x m c : St} {f : Nat → Int32} {w : Nat → Int64}
theorem q_letter (h : WS n t x f) (hw : NWd n x (gL m 0 7)) (a b : Int32) : ∃ r code v, sX6_letter x a b = some r ∧ sX7_letter (sr m f) a b = some (sr (pI m 0 0 0 (nI code)) f, v) ∧ Ans P3 r code v := by
  have hn := h.n8
  unfold sX6_letter sX7_letter
  rw [c_req hn h.xn, m_isBeacon hn h.fn]
  simp only [bd_e]
  rw [m_goesR]
  rcases in_case a n with ha | ⟨k, hk, rfl⟩
  · rw [ha]
    exact ⟨.inr 3, 1, nI 0, by first | rfl | (simp only [Bool.false_eq_true, ↓reduceIte]; rfl), by first | rfl | (simp only [Bool.false_eq_true, ↓reduceIte]; rfl), Or.inr ⟨3, rfl, by decide⟩⟩
  · rw [inb_t hk (by omega)]
    obtain ⟨l, o1, o2, o3⟩ := hw.1 k hk
    have e1 := m_letter o1 b
    have e2 : sX6_letterOf (lN (cpN l)) b = some (nI (if inb b 8 = true then l.getD (ix b) 0 else 0)) := by
      rcases in_case b 8 with hb | ⟨j, hj, rfl⟩
      · rw [c_letterO hb, hb]; rfl
      · rw [c_letter o1 hj, inb_t hj (by omega), ix_n (by omega)]; rfl
    exact ⟨.inl _, 0, _, (by simp (disch := omega) only [zl, zm, nI_add, pk_mul, inb_t, ix_n, gd_tt, bd_e, nm_v, ite_not, ↓reduceIte, le_t, le_f, lt_t, lt_f, eq_t, eq_f, mone_f, mone_f2, sm_il, o2, e2]; rfl), (by simp (disch := omega) only [zl, zm, nI_add, pk_mul, inb_t, ix_n, gd_tt, bd_e, nm_v, ite_not, ↓reduceIte, le_t, le_f, lt_t, lt_f, eq_t, eq_f, mone_f, mone_f2, Bool.toNat_true, Bool.not_true, Bool.toNat_false, sr_L, gL_pI, o3, e1]), Or.inl ⟨rfl, rfl⟩⟩
end
