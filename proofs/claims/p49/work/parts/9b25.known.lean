/-! stage B: the tokens of a text that is known -/
def TXR (B : Nat → Nat) (len p : Nat) (l : List Nat) : Prop := p + l.length = len ∧ ∀ j v : Nat, l[j]? = some v → B (p + j) = v
def hdN (P : Nat → Bool) : List Nat → Bool
  | [] => true
  | c :: _ => !P c
def dvN (l : List Nat) : Nat := l.foldl (fun a c => 10 * a + (c - 48)) 0
/-- a token at the head of what is left, with the blanks behind it -/
def TOKp (b s l : List Nat) (k : Nat) (v : Int64) : Prop := 0 < b.length ∧ ∀ (B : Nat → Nat) (len p : Nat), TXR B len p (b ++ (s ++ l)) → lxKd B len p = k ∧ lxVv B len p = v ∧ lxSk B len (lxNx B len p) = p + b.length + s.length
/-- what is left to be read -/
def RDP (B : Nat → Nat) (len c : Nat) (l : List Nat) (t : St) : Prop := ∃ i, LXA B len c t ∧ LXC B len i t ∧ i ≤ c ∧ gI t 0 0 8 = nI 0 ∧ gI t 0 0 9 = mone ∧ TXR B len (lxAt B len i) l
section
variable {B : Nat → Nat} {P : Nat → Bool} {len c i p k : Nat} {t t' : St} {l l' b s : List Nat} {v : Int64}
theorem TXR.app (h : TXR B len p (b ++ l)) : TXR B len (p + b.length) l := by
  obtain ⟨h1, h2⟩ := h
  rw [List.length_append] at h1
  refine ⟨by omega, fun j v hv => ?_⟩
  have := h2 (b.length + j) v (by rw [List.getElem?_append_right (by omega), Nat.add_sub_cancel_left]; exact hv)
  rw [← this, Nat.add_assoc]
theorem TXR.in (h : TXR B len p (b ++ l)) {j w : Nat} (hj : b[j]? = some w) : B (p + j) = w := by
  have hl := (List.getElem?_eq_some_iff.mp hj).1
  exact h.2 j w (by rw [List.getElem?_append_left hl]; exact hj)
theorem TXR.hd (h : TXR B len p l) (hl : hdN P l = true) (hp : p < len) : P (B p) = false := by
  cases l with
  | nil =>
    have h1 := h.1
    rw [List.length_nil] at h1
    omega
  | cons c l =>
    have := h.2 0 c rfl
    rw [Nat.add_zero] at this
    rw [this]
    have h2 : (!P c) = true := hl
    cases hc : P c
    · rfl
    · rw [hc] at h2; cases h2
theorem all_at {j w : Nat} (h : b.all P = true) (hj : b[j]? = some w) : P w = true := List.all_eq_true.mp h w (List.mem_of_getElem? hj)
theorem TXR.run (h : TXR B len p (b ++ l)) (hb : b.all P = true) (hl : hdN P l = true) : lxRun P B len p = p + b.length := by
  have h1 := h.1
  rw [List.length_append] at h1
  refine lxRun_eq (by omega) (by omega) (fun i hi1 hi2 => ?_) (h.app.hd hl)
  have hj : i - p < b.length := by omega
  have e := h.in (List.getElem?_eq_getElem hj)
  rw [show p + (i - p) = i by omega] at e
  rw [e]
  exact all_at hb (List.getElem?_eq_getElem hj)
theorem TXR.skip (h : TXR B len p (s ++ l)) (hs : s.all lxS = true) (hl : hdN lxS l = true) : lxSk B len p = p + s.length := h.run hs hl
theorem tok_word (h1 : 1 ≤ b.length) (h8 : b.length ≤ 8) (hb : b.all lxL = true) (hs : s.all lxS = true) (hx : hdN lxL (s ++ l) = true) (hl : hdN lxS l = true) : TOKp b s l 1 (lN (cpN b)) := by
  refine ⟨h1, fun B len p h => ?_⟩
  have hlen := h.1
  rw [List.length_append] at hlen
  have hp : p < len := by omega
  have e0 := h.in (List.getElem?_eq_getElem (show 0 < b.length by omega))
  rw [Nat.add_zero] at e0
  have hL : lxL (B p) = true := by rw [e0]; exact all_at hb (List.getElem?_eq_getElem (show 0 < b.length by omega))
  have hn : lxNx B len p = p + b.length := by rw [lxNx_L hp hL]; exact h.run hb hx
  have hls : lxLs B len p = b := by
    refine List.ext_getElem? fun j => ?_
    unfold lxLs
    rw [hn, Nat.add_sub_cancel_left, Nat.min_eq_right h8, List.getElem?_map]
    by_cases hj : j < b.length
    · rw [List.getElem?_range hj, List.getElem?_eq_getElem hj]
      exact congrArg some (h.in (List.getElem?_eq_getElem hj))
    · rw [List.getElem?_eq_none (by rw [List.length_range]; omega), List.getElem?_eq_none (by omega)]
      rfl
  refine ⟨?_, ?_, ?_⟩
  · unfold lxKd
    rw [if_neg (by omega), if_pos hL, hn, if_pos (by omega)]
  · unfold lxVv
    rw [if_neg (by omega), if_pos hL, hls]
  · rw [hn]; exact h.app.skip hs hl
theorem lxD_L {v : Nat} (h : lxD v = true) : lxL v = false := by
  have := lxD_of h
  unfold lxL
  rw [decide_eq_false (by omega)]
  rfl
theorem tok_num (h1 : 1 ≤ b.length) (h3 : b.length ≤ 3) (hb : b.all lxD = true) (hs : s.all lxS = true) (hx : hdN lxD (s ++ l) = true) (hl : hdN lxS l = true) : TOKp b s l 2 (lN (dvN b)) := by
  refine ⟨h1, fun B len p h => ?_⟩
  have hlen := h.1
  rw [List.length_append] at hlen
  have hp : p < len := by omega
  have e0 := h.in (List.getElem?_eq_getElem (show 0 < b.length by omega))
  rw [Nat.add_zero] at e0
  have hD : lxD (B p) = true := by rw [e0]; exact all_at hb (List.getElem?_eq_getElem (show 0 < b.length by omega))
  have hL := lxD_L hD
  have hn : lxNx B len p = p + b.length := by rw [lxNx_D hp hL hD]; exact h.run hb hx
  have hls : lxNum B len p = dvN b := by
    unfold lxNum dvN
    rw [hn, Nat.add_sub_cancel_left, Nat.min_eq_right h3]
    have hat : ∀ j w : Nat, b[j]? = some w → B (p + j) = w := fun j w hj => h.in hj
    match b, h1, h3, hat with
    | [a], _, _, hat =>
      have a0 := hat 0 a rfl
      show 10 * 0 + (B (p + 0) - 48) = 10 * 0 + (a - 48)
      rw [a0]
    | [a, d], _, _, hat =>
      have a0 := hat 0 a rfl
      have a1 := hat 1 d rfl
      show 10 * (10 * 0 + (B (p + 0) - 48)) + (B (p + 1) - 48) = 10 * (10 * 0 + (a - 48)) + (d - 48)
      rw [a0, a1]
    | [a, d, e], _, _, hat =>
      have a0 := hat 0 a rfl
      have a1 := hat 1 d rfl
      have a2 := hat 2 e rfl
      show 10 * (10 * (10 * 0 + (B (p + 0) - 48)) + (B (p + 1) - 48)) + (B (p + 2) - 48) = 10 * (10 * (10 * 0 + (a - 48)) + (d - 48)) + (e - 48)
      rw [a0, a1, a2]
    | _ :: _ :: _ :: _ :: _, _, h3, _ => simp at h3
  refine ⟨?_, ?_, ?_⟩
  · unfold lxKd
    rw [if_neg (by omega), hL, if_neg Bool.false_ne_true, if_pos hD, hn, if_pos (by omega)]
  · unfold lxVv
    rw [if_neg (by omega), hL, if_neg Bool.false_ne_true, if_pos hD, hls]
  · rw [hn]; exact h.app.skip hs hl
theorem tok_sign (hs : s.all lxS = true) (hl : hdN lxS l = true) : TOKp [59] s l 59 (lN 0) := by
  refine ⟨by decide, fun B len p h => ?_⟩
  have hlen := h.1
  rw [List.length_append] at hlen
  have hp : p < len := by
    have : ([59] : List Nat).length = 1 := rfl
    omega
  have e0 := h.in (show ([59] : List Nat)[0]? = some 59 from rfl)
  rw [Nat.add_zero] at e0
  have hL : lxL (B p) = false := by rw [e0]; decide
  have hD : lxD (B p) = false := by rw [e0]; decide
  have hn : lxNx B len p = p + [59].length := lxNx_O hp hL hD
  refine ⟨?_, ?_, ?_⟩
  · unfold lxKd
    rw [if_neg (by omega), hL, hD, if_neg Bool.false_ne_true, if_neg Bool.false_ne_true, if_pos (Or.inl e0), e0]
  · unfold lxVv
    rw [if_neg (by omega), hL, hD, if_neg Bool.false_ne_true, if_neg Bool.false_ne_true]
  · rw [hn]; exact h.app.skip hs hl
theorem RDP.tok (h : RDP B len c (b ++ (s ++ l)) t) (hT : TOKp b s l k v) : gI t 0 0 5 = nI k ∧ gL t 0 0 7 = v ∧ ∃ t', sX4_advance t = some t' ∧ RDP B len c l t' := by
  obtain ⟨i, h1, h2, h3, h4, h5, h6⟩ := h
  obtain ⟨hb, hT⟩ := hT
  obtain ⟨e1, e2, e3⟩ := hT B len _ h6
  have hlen := h6.1
  rw [List.length_append] at hlen
  have hic : i < c := by
    rcases Nat.eq_or_lt_of_le h3 with z | z
    · have := h1.2.2.1
      rw [← z] at this
      omega
    · exact z
  obtain ⟨t', g1, g2, g3, g4, g5⟩ := lx_next (i := i + 1) h1 h2.1 (by omega)
  refine ⟨by rw [h2.2.1, e1], by rw [h2.2.2.2, e2], t', g1, i + 1, g2, g3, by omega, g4.trans h4, g5.trans h5, ?_⟩
  rw [lxAt_s, e3]
  exact h6.app.app
theorem RDP.fin (h : RDP B len c [] t) : gI t 0 0 5 = nI 0 ∧ gI t 0 0 8 = nI 0 ∧ gI t 0 0 9 = mone := by
  obtain ⟨i, h1, h2, h3, h4, h5, h6⟩ := h
  have := h6.1
  refine ⟨?_, h4, h5⟩
  rw [h2.2.1]
  unfold lxKd
  rw [if_pos (by rw [List.length_nil] at this; omega)]
/-! what the class takes of it -/
theorem k_isWord {w : Nat} {W : Int64} {l0 : List Nat} (hw : WDX w W l0) (ho : okL b) (hk : gI t 0 0 5 = nI 1) (hv : gL t 0 0 7 = lN (cpN b)) : sX4_isWord w t = some (nI (decide (b = l0)).toNat) := by
  obtain ⟨o1, o2, o3, o4, rfl⟩ := hw
  unfold sX4_isWord
  have e1 := c_letter ho (show l0.length < 8 by omega)
  have g1 := ho.le l0.length
  rw [o3, hv]
  simp (disch := omega) only [zl, zm, nI_add, pk_mul, inb_t, ix_n, gd_tt, bd_e, nm_v, ite_not, ↓reduceIte, le_t, le_f, lt_t, lt_f, eq_t, eq_f, mone_f, mone_f2, hk, e1]
  by_cases hq : b = l0
  · have hz : b.getD l0.length 0 = 0 := by rw [hq]; exact getD_out (Nat.le_refl _)
    rw [hz, if_pos rfl, decide_eq_true hq]
    exact lw_true ho o2 o3 o4 hv l0.length 0 FU (by omega) (FU_lt (by omega)) fun j _ _ => by rw [hq]
  · rw [decide_eq_false hq]
    by_cases hz : b.getD l0.length 0 = 0
    · rw [hz, if_pos rfl]
      refine lw_false ho o1 o2 o3 o4 hv l0.length 0 FU (by omega) (FU_lt (by omega)) ?_
      have hll : b.length ≤ l0.length := by
        rcases Nat.lt_or_ge l0.length b.length with z | z
        · have := (ho.at z).1; omega
        · exact z
      rcases Nat.eq_or_lt_of_le hll with z | z
      · refine Classical.byContradiction fun hno => hq (list_ext z fun j hj => Classical.byContradiction fun hj2 => hno ⟨j, Nat.zero_le _, by omega, hj2⟩)
      · refine ⟨b.length, Nat.zero_le _, z, ?_⟩
        rw [getD_out (Nat.le_refl _)]
        have := (o1.at z).1; omega
    · rw [if_neg (fun z => hz ((nI_eq (by omega) (by omega)).mp z))]
      rfl
theorem k_noWord {w : Nat} {kk : Nat} (hk : gI t 0 0 5 = nI kk) (h1 : ¬ kk = 1) (h2 : kk < 100) : sX4_isWord w t = some (nI 0) := by
  unfold sX4_isWord
  simp (disch := omega) only [zl, zm, nI_add, pk_mul, inb_t, ix_n, gd_tt, bd_e, nm_v, ite_not, ↓reduceIte, le_t, le_f, lt_t, lt_f, eq_t, eq_f, mone_f, mone_f2, hk]
theorem okL_all (h1 : 1 ≤ b.length) (h8 : b.length ≤ 8) (hb : b.all lxL = true) : okL b := ⟨h1, h8, fun c hc => lxL_of (List.all_eq_true.mp hb c hc)⟩
theorem k_number {lo hi : Nat} (h : RDP B len c (b ++ (s ++ l)) t) (h1 : 1 ≤ b.length) (h3 : b.length ≤ 3) (hb : b.all lxD = true) (hs : s.all lxS = true) (hx : hdN lxD (s ++ l) = true) (hl : hdN lxS l = true) (hlo : lo ≤ dvN b) (hhi : dvN b ≤ hi) (hi2 : hi ≤ 999) : ∃ t', sX4_takeNumber t (nI lo) (nI hi) = some (t', nI (dvN b)) ∧ RDP B len c l t' := by
  obtain ⟨e1, e2, t', e3, e4⟩ := h.tok (tok_num h1 h3 hb hs hx hl)
  refine ⟨t', ?_, e4⟩
  have hl1 : (lg_cmp (lN (dvN b)) (nI lo).toInt64 < nI 0) = (dvN b < lo) := by
    rw [lgn_lt, nI_l (by omega)]; exact propext (pk_lLT (by omega) (by omega))
  have hl2 : (lg_cmp (lN (dvN b)) (nI hi).toInt64 ≤ nI 0) = (dvN b ≤ hi) := by
    rw [lgn_le, nI_l (by omega)]; exact propext (pk_lLE (by omega) (by omega))
  have q1 : ¬ dvN b < lo := by omega
  unfold sX4_takeNumber
  rw [e1, e2]
  simp (disch := omega) only [zl, zm, nI_add, pk_mul, inb_t, ix_n, gd_tt, bd_e, nm_v, ite_not, ↓reduceIte, le_t, le_f, lt_t, lt_f, eq_t, eq_f, mone_f, mone_f2, hl1, hl2, q1, hhi, e3, lN_i]
theorem k_sign (h : RDP B len c ([59] ++ (s ++ l)) t) (hs : s.all lxS = true) (hl : hdN lxS l = true) : ∃ t', sX4_takeSign t (nI 59) = some (t', nI 1) ∧ RDP B len c l t' := by
  obtain ⟨e1, e2, t', e3, e4⟩ := h.tok (tok_sign hs hl)
  refine ⟨t', ?_, e4⟩
  unfold sX4_takeSign
  rw [e1, if_pos rfl, e3]
  rfl
end
