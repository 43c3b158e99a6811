/-! stage B: all steps of a script are read -/
section
variable {B : Nat → Nat} {len c i n N C : Nat} {t m x S : St} {stk : Nat → List Nat}
/-- a repeat is closed -/
theorem sc_close (h : YG B len c i t m) (hp : PSC n C N stk S m) (hk : yk B len i = 41) (hl1 : 1 ≤ (stk N).length) : (∃ t' S' m' N' stk', sX2_readClose t S = some (t', S', nI 1) ∧ (∀ G, sX7_closes_b0 (G + 1) m = sX7_closes_b0 G m') ∧ YG B len c (i + 1 + 1) t' m' ∧ PSC n C N' stk' S' m' ∧ SF m m') ∨ (∃ t' S' m', sX2_readClose t S = some (t', S', nI 0) ∧ (∀ G, sX7_closes_b0 (G + 1) m = sX7_closes_b0 G m') ∧ YB t' m' ∧ SF m m') := by
  obtain ⟨hsc, hop, p5, p30, p8, p31, hC, hNC⟩ := hp
  have hl := hsc.2.2.2.1 N (Nat.le_refl _)
  obtain ⟨r, s, hs⟩ : ∃ r s, stk N = r :: s := by
    cases hq : stk N with
    | nil => rw [hq] at hl1; exact absurd hl1 (by decide)
    | cons r s => exact ⟨r, s, rfl⟩
  have hls : (stk N).length = s.length + 1 := by rw [hs]; rfl
  rw [hls] at p8 p31 hl hNC
  rw [hs] at hop
  have hN : N < 60 := by omega
  have hYM : YG B len c i t (pI (pI (pI m 0 0 31 (nI s.length)) 0 10 N (nI 8)) 0 0 29 (nI (N + 1))) := ((h.fld (by omega) _).set (by omega) _ _).fld (by omega) _
  obtain ⟨t1, m1, a1, a2, a3, a4⟩ := y_next hYM (by omega)
  obtain ⟨bb, t2, m2, s1, s2, s3, s4, s5⟩ := y_sign a3 (s := 59) (Or.inl rfl)
  have hsg : sX7_isSign m (nI 41) = some (nI 1) := by rw [y_isSign h, decide_eq_true hk]; rfl
  have e29 : gI (pI m 0 0 31 (nI s.length)) 0 0 29 = nI N := by rw [gI_pI, if_neg (by omega)]; exact hsc.2.1
  have e29b : gI (pI (pI m 0 0 31 (nI s.length)) 0 10 N (nI 8)) 0 0 29 = nI N := by rw [gI_pI, if_neg (by omega)]; exact e29
  have hG : ∀ G, sX7_closes_b0 (G + 1) m = sX7_closes_b0 G m2 := fun G => by
    simp only [sX7_closes_b0]
    simp (disch := omega) only [zl, zm, nI_add, pk_mul, inb_t, ix_n, gd_tt, bd_e, nm_v, ite_not, ↓reduceIte, le_t, le_f, lt_t, lt_f, eq_t, eq_f, mone_f, mone_f2, p31, hsg, zs, Nat.add_sub_cancel, e29, e29b, a2, s2]
  have hm1 : ∀ j k', ¬ (j = 0 ∧ (4 ≤ k' ∧ k' ≤ 9 ∨ k' = 29 ∨ k' = 31)) → ¬ (j = 10 ∧ k' = N) → gI m2 0 j k' = gI m 0 j k' := fun j k' h1 h2 => by
    rw [s3.1 j k' (by omega), a4.1 j k' (by omega), gI_pI, if_neg (by omega), gI_pI, if_neg (by omega), gI_pI, if_neg (by omega)]
  have hmL : ∀ j k', ¬ (j = 0 ∧ k' = 12) → gL m2 0 j k' = gL m 0 j k' := fun j k' h1 => by
    rw [s3.2 j k' h1, a4.2 j k' h1, gL_pI, gL_pI, gL_pI]
  have hsf : SF m m2 := ⟨fun j k' h1 h2 => hm1 j k' (by omega) (by omega), hmL⟩
  have z4 : gI (pI S 0 0 8 (nI s.length)) 0 0 4 = nI N := by rw [gI_pI, if_neg (by omega)]; exact hsc.1
  have z8 : gI (pI S 0 0 8 (nI s.length)) 0 0 8 = nI s.length := by rw [gI_pI, if_pos ⟨rfl, rfl, rfl⟩]
  have zo : gI (pI S 0 0 8 (nI s.length)) 0 4 s.length = nI r := by rw [gI_pI, if_neg (by omega)]; exact hop.1
  cases bb with
  | true =>
    left
    obtain ⟨v1, v2, v3, v4⟩ := sAdd_v (S := pI S 0 0 8 (nI s.length)) (N := N) (nI 8) (nI r) (nI 0)
    have hst : (if N + 1 = N + 1 then s else stk (N + 1)) = s := if_pos rfl
    refine ⟨t2, sAdd (pI S 0 0 8 (nI s.length)) N (nI 8) (nI r) (nI 0), m2, N + 1, fun i => if i = N + 1 then s else stk i, ?_, hG, (s4 rfl).2, ⟨?_, ?_, ?_, ?_, ?_, ?_, hC, ?_⟩, hsf⟩
    · unfold sX2_readClose
      simp (disch := omega) only [zl, zm, nI_add, pk_mul, inb_t, ix_n, gd_tt, bd_e, nm_v, ite_not, ↓reduceIte, le_t, le_f, lt_t, lt_f, eq_t, eq_f, mone_f, mone_f2, a1, s1, Bool.toNat_true, p8, zs, Nat.add_sub_cancel, z8, zo, s_add z4 hN]
    · refine scr_grow (k := 8) (a := r) (b := 0) hsc ⟨fun z => absurd z (by omega), fun _ z => absurd z (by omega), fun _ z => absurd z (by omega), fun z => absurd z (by omega), fun z => absurd z (by omega), fun _ => hs, fun z => absurd z (by omega)⟩ (by omega) (fun j i h1 h2 h3 => ?_) (fun j i h1 h2 h3 => hm1 j i (by omega) (by omega)) v4 ?_ ⟨v1, v2, v3, ?_, fun z => absurd rfl z, fun _ z => absurd z (by omega), by omega⟩
      · rw [sAdd_o _ _ _ (by omega) (by omega), gI_pI, if_neg (by omega)]
      · rw [s3.1 0 29 (by omega), a4.1 0 29 (by omega), gI_pI, if_pos ⟨rfl, rfl, rfl⟩]
      · rw [s3.1 10 N (by omega), a4.1 10 N (by omega), gI_pI, if_neg (by omega), gI_pI, if_pos ⟨rfl, rfl, rfl⟩]
    · show OPN _ (if N + 1 = N + 1 then s else stk (N + 1))
      rw [hst]
      exact hop.2.cg fun i hi => by rw [sAdd_o _ _ _ (by omega) (by omega), gI_pI, if_neg (by omega)]
    · rw [sAdd_o _ _ _ (by omega) (by omega), gI_pI, if_neg (by omega)]; exact p5
    · rw [hm1 0 30 (by omega) (by omega)]; exact p30
    · show _ = nI (if N + 1 = N + 1 then s else stk (N + 1)).length
      rw [hst, sAdd_o _ _ _ (by omega) (by omega)]; exact z8
    · show _ = nI (if N + 1 = N + 1 then s else stk (N + 1)).length
      rw [hst, s3.1 0 31 (by omega), a4.1 0 31 (by omega), gI_pI, if_neg (by omega), gI_pI, if_neg (by omega), gI_pI, if_pos ⟨rfl, rfl, rfl⟩]
    · show N + 1 + (if N + 1 = N + 1 then s else stk (N + 1)).length ≤ 2 * C
      rw [hst]; omega
  | false =>
    right
    refine ⟨t2, S, m2, ?_, hG, s5 rfl, hsf⟩
    unfold sX2_readClose
    simp (disch := omega) only [zl, zm, nI_add, pk_mul, inb_t, ix_n, gd_tt, bd_e, nm_v, ite_not, ↓reduceIte, le_t, le_f, lt_t, lt_f, eq_t, eq_f, mone_f, mone_f2, a1, s1, Bool.toNat_false]
/-- a wrong script is at its end -/
theorem b_end (h : BMD m) {G H : Nat} (hG : 1 ≤ G) (hH : 1 ≤ H) : bd (sX7_closes_b0 G m) (fun q => sX7_runScript_b19 H q) = sX7_runScript_b82 m := by
  obtain ⟨G, rfl⟩ : ∃ G', G = G' + 1 := ⟨G - 1, by omega⟩
  obtain ⟨H, rfl⟩ : ∃ H', H = H' + 1 := ⟨H - 1, by omega⟩
  have hcl : sX7_closes_b0 (G + 1) m = some m := by
    simp only [sX7_closes_b0]
    by_cases e : gI m 0 0 31 ≤ 0
    · rw [if_pos e]
    · rw [if_neg e, b_isSign h, bd_e, if_pos (by decide)]
  rw [hcl, bd_e]
  simp only [sX7_runScript_b19]
  unfold sX7_runScript_b63
  simp (disch := omega) only [zl, zm, nI_add, pk_mul, inb_t, ix_n, gd_tt, bd_e, nm_v, ite_not, ↓reduceIte, le_t, le_f, lt_t, lt_f, eq_t, eq_f, mone_f, mone_f2, b_good h]
theorem m_b19 (h : YG B len c i t m) (hk : ¬ yk B len i = 0) (H : Nat) : sX7_runScript_b19 (H + 1) m = bd (mStep m) fun q => bd (sX7_closes_b0 FU q) fun q' => sX7_runScript_b19 H q' := by
  have hmk := h.mk
  have hs0 : ¬ lxSrt (yk B len i) = 0 := fun z => hk (h.srt.2.1.mp z)
  have hso : lxSrt (yk B len i) ≤ 4 := h.srt.1
  have hb56 : ∀ q, sX7_runScript_b56 (fun m' => sX7_runScript_b19 H m') q = bd (sX7_closes_b0 FU q) fun q' => sX7_runScript_b19 H q' := fun q => by
    unfold sX7_runScript_b56 sX7_closes
    exact (fun h => h) rfl
  have h1 : sX7_runScript_b19 (H + 1) m = bd (sX7_command m) fun q8 => if ¬ gI q8 0 0 31 = gI m 0 0 31 then sX7_runScript_b56 (fun m' => sX7_runScript_b19 H m') q8 else bd (sX7_mustSign q8 (nI 59)) fun q10 => sX7_runScript_b56 (fun m' => sX7_runScript_b19 H m') q10 := by
    simp only [sX7_runScript_b19]
    rw [h.good, bd_e, if_neg (by decide), hmk, if_neg (show ¬ nI (lxSrt (yk B len i)) = 0 from fun z => hs0 ((nI_eq (by omega) (by omega)).mp z))]
    exact (fun h => h) rfl
  rw [h1]
  unfold mStep
  cases sX7_command m with
  | none => exact (fun h => h) rfl
  | some q =>
    rw [bd_e, bd_e]
    by_cases e : gI q 0 0 31 = gI m 0 0 31
    · rw [if_neg (fun z => z e), if_neg (fun z => z e)]
      cases sX7_mustSign q (nI 59) with
      | none => exact (fun h => h) rfl
      | some q2 => rw [bd_e, bd_e, hb56]
    · rw [if_pos e, if_pos e, bd_e, hb56]
theorem tx_scr : ∀ (e k i C N F G H : Nat) (stk : Nat → List Nat) (t S m : St), e ≤ 701 → c < i + e → k ≤ i → e ≤ F → e ≤ G → e ≤ H → YG B len c i t m → XN n x m → PSC n C N stk S m → (∃ t' S' m' C' N' stk', sX2_readAll_b17 F x t S (nI k) = some (t', S', nI 1) ∧ bd (sX7_closes_b0 G m) (fun q => sX7_runScript_b19 H q) = sX7_runScript_b82 m' ∧ gI t' 0 0 8 = nI 0 ∧ gI t' 0 0 9 = mone ∧ gI m' 0 0 8 = nI 0 ∧ gI m' 0 0 9 = mone ∧ PSC n C' N' stk' S' m' ∧ stk' N' = [] ∧ SF m m') ∨ (∃ t' S' m', sX2_readAll_b17 F x t S (nI k) = some (t', S', nI 0) ∧ bd (sX7_closes_b0 G m) (fun q => sX7_runScript_b19 H q) = sX7_runScript_b82 m' ∧ YB t' m' ∧ SF m m')
  | 0, k, i, C, N, F, G, H, stk, t, S, m, _, h1, _, _, _, _, h, _, _ => absurd h.2.2.2.1 (by omega)
  | e + 1, k, i, C, N, 0, G, H, stk, t, S, m, _, _, _, h, _, _, _, _, _ => absurd h (by omega)
  | e + 1, k, i, C, N, F, 0, H, stk, t, S, m, _, _, _, _, h, _, _, _, _ => absurd h (by omega)
  | e + 1, k, i, C, N, F, G, 0, stk, t, S, m, _, _, _, _, _, h, _, _, _ => absurd h (by omega)
  | e + 1, k, i, C, N, F + 1, G + 1, H + 1, stk, t, S, m, h0, h1, h2, h3, h4, h5, h, hx, hp => by
    have hck := h.ck
    have hmk := h.mk
    have hsr := h.srt
    have h60 := h.k60
    have hic := h.2.2.2.1
    have hc7 := h.2.1.2.1
    have hcl := h.2.1.2.2.1
    have hsp := h.sp.1
    obtain ⟨hsc, hop, p5, p30, p8, p31, hC, hNC⟩ := hp
    have hl := hsc.2.2.2.1 N (Nat.le_refl _)
    have hlt : ¬ yk B len i = 0 → i < c := fun hk => by
      rcases Nat.eq_or_lt_of_le hic with z | z
      · exact absurd (hsp.mpr (by rw [z]; exact hcl)) hk
      · exact z
    have step : sX7_closes_b0 (G + 1) m = some m → ¬ yk B len i = 0 → ((stk N).length = 0 ∨ ¬ yk B len i = 41) → (∃ t' S' m' C' N' stk', sX2_readAll_b17 (F + 1) x t S (nI k) = some (t', S', nI 1) ∧ bd (sX7_closes_b0 (G + 1) m) (fun q => sX7_runScript_b19 (H + 1) q) = sX7_runScript_b82 m' ∧ gI t' 0 0 8 = nI 0 ∧ gI t' 0 0 9 = mone ∧ gI m' 0 0 8 = nI 0 ∧ gI m' 0 0 9 = mone ∧ PSC n C' N' stk' S' m' ∧ stk' N' = [] ∧ SF m m') ∨ (∃ t' S' m', sX2_readAll_b17 (F + 1) x t S (nI k) = some (t', S', nI 0) ∧ bd (sX7_closes_b0 (G + 1) m) (fun q => sX7_runScript_b19 (H + 1) q) = sX7_runScript_b82 m' ∧ YB t' m' ∧ SF m m') := fun g1 g2 g3 => by
      have hi := hlt g2
      have hrs : sX2_readStep x t S = sX2_readStep_b24 x t S := by
        unfold sX2_readStep
        by_cases hl0 : (stk N).length = 0
        · rw [hl0] at p8
          simp (disch := omega) only [zl, zm, nI_add, pk_mul, inb_t, ix_n, gd_tt, bd_e, nm_v, ite_not, ↓reduceIte, le_t, le_f, lt_t, lt_f, eq_t, eq_f, mone_f, mone_f2, p8]
        · have hk41 := g3.resolve_left hl0
          simp (disch := omega) only [zl, zm, nI_add, pk_mul, inb_t, ix_n, gd_tt, bd_e, nm_v, ite_not, ↓reduceIte, le_t, le_f, lt_t, lt_f, eq_t, eq_f, mone_f, mone_f2, p8, hck]
      have hra : sX2_readAll_b17 (F + 1) x t S (nI k) = bd (sX2_readStep_b24 x t S) fun q7 => if ¬ q7.2.2 = nI 0 then sX2_readAll_b17 F x q7.1 q7.2.1 (nI (k + 1)) else some (q7.1, q7.2.1, nI 0) := by
        simp only [sX2_readAll_b17]
        unfold sX2_readAll_b41
        rw [hrs]
        by_cases hl0 : (stk N).length = 0
        · rw [hl0] at p8
          simp (disch := omega) only [zl, zm, nI_add, pk_mul, inb_t, ix_n, gd_tt, bd_e, nm_v, ite_not, ↓reduceIte, le_t, le_f, lt_t, lt_f, eq_t, eq_f, mone_f, mone_f2, p8, hck]
        · simp (disch := omega) only [zl, zm, nI_add, pk_mul, inb_t, ix_n, gd_tt, bd_e, nm_v, ite_not, ↓reduceIte, le_t, le_f, lt_t, lt_f, eq_t, eq_f, mone_f, mone_f2, p8, hck]
      rw [hra, g1, bd_e, m_b19 h g2 H]
      rcases sc_step h hx ⟨hsc, hop, p5, p30, p8, p31, hC, hNC⟩ with ⟨t', S', m', C', N', stk', i', f1, f2, f3, f4, f5, f6⟩ | ⟨t', S', m', f1, f2, f3, f4⟩
      · rw [f1, f2, bd_e, bd_e, if_pos (by show ¬ nI 1 = nI 0; decide)]
        rcases tx_scr e (k + 1) i' C' N' F FU H stk' t' S' m' (by omega) (by omega) (by omega) (by omega) (Nat.le_of_lt (FU_lt (by omega))) (by omega) f4 (hx.sf f6) f5 with ⟨t2, S2, m2, C2, N2, stk2, d1, d2, d3, d4, d5, d6, d7, d8, d9⟩ | ⟨t2, S2, m2, d1, d2, d3, d4⟩
        · exact Or.inl ⟨t2, S2, m2, C2, N2, stk2, d1, d2, d3, d4, d5, d6, d7, d8, sf_trans f6 d9⟩
        · exact Or.inr ⟨t2, S2, m2, d1, d2, d3, sf_trans f6 d4⟩
      · right
        refine ⟨t', S', m', ?_, ?_, f3, f4⟩
        · rw [f1, bd_e, if_neg (by show ¬ ¬ nI 0 = nI 0; decide)]
        · rw [f2, bd_e]
          exact b_end f3.bad (Nat.le_of_lt (FU_lt (by omega))) (by omega)
    by_cases hl0 : (stk N).length = 0
    · have hcls : sX7_closes_b0 (G + 1) m = some m := by
        rw [hl0] at p31
        simp only [sX7_closes_b0]
        simp (disch := omega) only [zl, zm, nI_add, pk_mul, inb_t, ix_n, gd_tt, bd_e, nm_v, ite_not, ↓reduceIte, le_t, le_f, lt_t, lt_f, eq_t, eq_f, mone_f, mone_f2, p31]
      by_cases hk : yk B len i = 0
      · left
        have hs0 := hsr.2.1.mpr hk
        rw [hk] at hck
        rw [hs0] at hmk
        refine ⟨t, S, m, C, N, stk, ?_, ?_, h.2.2.2.2.2.2.1, h.2.2.2.2.2.2.2.1, h.2.2.2.2.2.2.2.2.1, h.2.2.2.2.2.2.2.2.2, ⟨hsc, hop, p5, p30, p8, p31, hC, hNC⟩, List.eq_nil_of_length_eq_zero hl0, ⟨fun _ _ _ _ => rfl, fun _ _ _ => rfl⟩⟩
        · rw [hl0] at p8
          simp only [sX2_readAll_b17]
          simp (disch := omega) only [zl, zm, nI_add, pk_mul, inb_t, ix_n, gd_tt, bd_e, nm_v, ite_not, ↓reduceIte, le_t, le_f, lt_t, lt_f, eq_t, eq_f, mone_f, mone_f2, p8, hck]
        · rw [hl0] at p31
          rw [hcls, bd_e]
          simp only [sX7_runScript_b19]
          unfold sX7_runScript_b63
          simp (disch := omega) only [zl, zm, nI_add, pk_mul, inb_t, ix_n, gd_tt, bd_e, nm_v, ite_not, ↓reduceIte, le_t, le_f, lt_t, lt_f, eq_t, eq_f, mone_f, mone_f2, h.good, hmk, p31]
      · exact step hcls hk (Or.inl hl0)
    · by_cases hk41 : yk B len i = 41
      · have hi := hlt (by omega)
        have hra : sX2_readAll_b17 (F + 1) x t S (nI k) = bd (sX2_readClose t S) fun q7 => gd (isb q7.2.2) (if ¬ q7.2.2 = nI 0 then sX2_readAll_b17 F x q7.1 q7.2.1 (nI (k + 1)) else some (q7.1, q7.2.1, nI 0)) := by
          simp only [sX2_readAll_b17]
          unfold sX2_readAll_b41 sX2_readStep
          rw [hk41] at hck
          simp (disch := omega) only [zl, zm, nI_add, pk_mul, inb_t, ix_n, gd_tt, bd_e, nm_v, ite_not, ↓reduceIte, le_t, le_f, lt_t, lt_f, eq_t, eq_f, mone_f, mone_f2, p8, hck]
          cases sX2_readClose t S with
          | none => exact (fun h => h) rfl
          | some q =>
            simp only [bd_e]
            cases isb q.2.2 <;> exact (fun h => h) rfl
        rw [hra]
        rcases sc_close h ⟨hsc, hop, p5, p30, p8, p31, hC, hNC⟩ hk41 (by omega) with ⟨t', S', m', N', stk', f1, f2, f4, f5, f6⟩ | ⟨t', S', m', f1, f2, f3, f4⟩
        · rw [f1, f2, bd_e, isb_1, gd_tt, if_pos (by show ¬ nI 1 = nI 0; decide)]
          rcases tx_scr e (k + 1) (i + 1 + 1) C N' F G (H + 1) stk' t' S' m' (by omega) (by omega) (by omega) (by omega) (by omega) (by omega) f4 (hx.sf f6) f5 with ⟨t2, S2, m2, C2, N2, stk2, d1, d2, d3, d4, d5, d6, d7, d8, d9⟩ | ⟨t2, S2, m2, d1, d2, d3, d4⟩
          · exact Or.inl ⟨t2, S2, m2, C2, N2, stk2, d1, d2, d3, d4, d5, d6, d7, d8, sf_trans f6 d9⟩
          · exact Or.inr ⟨t2, S2, m2, d1, d2, d3, sf_trans f6 d4⟩
        · right
          refine ⟨t', S', m', ?_, ?_, f3, f4⟩
          · rw [f1, bd_e, isb_0, gd_tt, if_neg (by show ¬ ¬ nI 0 = nI 0; decide)]
          · rw [f2]
            exact b_end f3.bad (by omega) (by omega)
      · have hcls : sX7_closes_b0 (G + 1) m = some m := by
          have hsg : sX7_isSign m (nI 41) = some (nI 0) := by rw [y_isSign h, decide_eq_false hk41]; rfl
          simp only [sX7_closes_b0]
          simp (disch := omega) only [zl, zm, nI_add, pk_mul, inb_t, ix_n, gd_tt, bd_e, nm_v, ite_not, ↓reduceIte, le_t, le_f, lt_t, lt_f, eq_t, eq_f, mone_f, mone_f2, p31, hsg]
        by_cases hk : yk B len i = 0
        · right
          have hs0 := hsr.2.1.mpr hk
          rw [hk] at hck
          rw [hs0] at hmk
          obtain ⟨t', m', f1, f2, f3, f4⟩ := y_fail h (show 1 ≤ 1 by omega) (by omega) (fun _ => rfl)
          have hkh : sX2_kindHere t = some mone := by
            rcases y_kind h with ⟨k', z1, z2, _⟩ | ⟨z1, _⟩
            · omega
            · exact z1
          refine ⟨t', S, m', ?_, ?_, f3, f4.sf⟩
          · simp only [sX2_readAll_b17]
            unfold sX2_readAll_b41 sX2_readStep sX2_readStep_b24
            simp (disch := omega) only [zl, zm, nI_add, pk_mul, inb_t, ix_n, gd_tt, bd_e, nm_v, ite_not, ↓reduceIte, le_t, le_f, lt_t, lt_f, eq_t, eq_f, mone_f, mone_f2, p8, hck, hkh, f1, isb_0]
          · rw [hcls, bd_e]
            simp only [sX7_runScript_b19]
            unfold sX7_runScript_b63
            simp (disch := omega) only [zl, zm, nI_add, pk_mul, inb_t, ix_n, gd_tt, bd_e, nm_v, ite_not, ↓reduceIte, le_t, le_f, lt_t, lt_f, eq_t, eq_f, mone_f, mone_f2, h.good, hmk, p31, f2]
        · exact step hcls hk (Or.inr hk41)
end
