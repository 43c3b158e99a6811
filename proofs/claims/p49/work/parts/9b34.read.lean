/-! stage B: the grown world's text is read: the class's world is the law's -/
section
variable {N k : Nat} {Y : St} {tN : List Nat} {c : St} {xs : Nat → Int32}
theorem t_readText (hA : ASC tN) (hl : tN.length ≤ 490) (hG : GRT (QTl N Y 16) tN) (hc : CBF (PBf tN) tN.length c) (hf : FC xC c) : ∃ T2, sT_X6_readText (cTT T0 c) = some (T2, nI N) ∧ RT N 0 [] T2 Y := by
  have hP := PBf_lt hA
  obtain ⟨t1, cn, a1, a2, a3, a4, a5⟩ := lx_begin (B := PBf tN) (len := tN.length) (y := c) (t := xK) (fun k hk => ⟨by have := hP k; omega, by rw [lx_sg _ (hP k)]; exact hc.2.2 k hk⟩) (by omega)
  have hTX : TXR (PBf tN) tN.length 0 tN := ⟨Nat.zero_add _, fun j v hj => by
    unfold PBf
    rw [Nat.zero_add, List.getD_eq_getElem?_getD, hj]
    rfl⟩
  have h0 : lxAt (PBf tN) tN.length 0 = 0 := lxRun_stay (Nat.zero_le _) fun hp => hTX.hd hG.1 hp
  have hR : RDP (PBf tN) tN.length cn tN t1 := ⟨0, a2, a3, Nat.zero_le _, a4, a5, by rw [h0]; exact hTX⟩
  obtain ⟨x1, b1, b2⟩ := XGB.nil xW
  obtain ⟨k, x2, t2, d2, e1, e2, e3, e4⟩ := hG.2 (PBf tN) tN.length cn x1 (pI x0 0 0 1 (nI 0)) t1 [] rfl (by rw [List.append_nil]; exact hR) ⟨b2, by rw [gI_pI, if_pos ⟨rfl, rfl, rfl⟩]⟩
  obtain ⟨f1, f2, f3⟩ := e3.fin
  have hry := e4.1.ry
  obtain ⟨x3, g1, g2⟩ := c_copyW hry.okw xW
  have hall : sX3_readAll_b11 FU x1 t1 (pI x0 0 0 1 (nI 0)) (nI 0) = some (x2, t2, d2, nI 1) := by
    have hF : FU = (FU - k - 1 + 1) + k := by have : FU = 1000000 := rfl; omega
    rw [hF, e2]
    simp only [sX3_readAll_b11]
    simp (disch := omega) only [↓nm_v, zl, zm, nI_add, pk_mul, inb_t, ix_n, gd_tt, bd_e, nm_v, ite_not, ↓reduceIte, le_t, le_f, lt_t, lt_f, eq_t, eq_f, mone_f, mone_f2, f1]
  have hE : sX6_endReading t2 3 c = some (pI (pI (pI c 0 0 1 (nI 0)) 0 0 2 (gI t2 0 0 8)) 0 0 3 (gI t2 0 0 9)) := by
    unfold sX6_endReading
    simp (disch := omega) only [zl, nm_v]
  have hxn : gI x3 0 0 2 = nI N := (hry.ag g2).xn
  have hrd : sX6_readText xW xW xK x0 c = some (x3, x2, t2, d2, pI (pI (pI (pI c 0 0 1 (nI 0)) 0 0 2 (gI t2 0 0 8)) 0 0 3 (gI t2 0 0 9)) 0 0 9 (nI 0), .inl (nI N)) := by
    unfold sX6_readText sX3_readAll
    rw [hc.2.1, a1, bd_e, b1, bd_e, nm_v, show sX3_readAll_b11 FU x1 t1 (pI x0 0 0 1 0) 0 = some (x2, t2, d2, nI 1) from hall, bd_e, hE, bd_e, if_pos (show ¬ nI 1 = 0 by decide), g1, bd_e, nm_v, hxn]
    rfl
  refine ⟨(x3, x2, T0.2.2.1, T0.2.2.2.1, t2, T0.2.2.2.2.2.1, d2, T0.2.2.2.2.2.2.2.1, T0.2.2.2.2.2.2.2.2.1, pI (pI (pI (pI c 0 0 1 (nI 0)) 0 0 2 (gI t2 0 0 8)) 0 0 3 (gI t2 0 0 9)) 0 0 9 (nI 0), T0.2.2.2.2.2.2.2.2.2.2.1, T0.2.2.2.2.2.2.2.2.2.2.2), ?_, hry.ag g2, 0, Nat.zero_le _, by omega, by rw [gI_pI, if_pos ⟨rfl, rfl, rfl⟩], fun i => i, fun i hi => ⟨?_, hi⟩, fun i j _ _ h => h, fun i y hi => by cases hi⟩
  · unfold sT_X6_readText
    show (bd (sX6_readText xW xW xK x0 c) _) = _
    rw [hrd]
    rfl
  · show gI (pI (pI (pI (pI c 0 0 1 (nI 0)) 0 0 2 (gI t2 0 0 8)) 0 0 3 (gI t2 0 0 9)) 0 0 9 (nI 0)) 0 2 i = nI i
    rw [gI_pI, if_neg (by omega), gI_pI, if_neg (by omega), gI_pI, if_neg (by omega), gI_pI, if_neg (by omega), hf _ _ _ (by omega) (by omega)]
    rcases (by omega : i = 0 ∨ i = 1 ∨ i = 2 ∨ i = 3 ∨ i = 4 ∨ i = 5) with rfl | rfl | rfl | rfl | rfl | rfl <;> rfl
/-- all turns of the law -/
theorem all_turns {L : Nat} (hL : L ≤ 260) : ∀ (d i F : Nat) (T : TT) (Y : St) (t : Nat), i + d = 12 → d < F → t ≤ 25 * i → RT N t [] T Y → sL_law_b44 F L xs N T Y i (nI i) = some () := by
  intro d
  induction d with
  | zero =>
    intro i F T Y t hi hF ht h
    obtain rfl : i = 12 := by omega
    obtain ⟨F, rfl⟩ : ∃ z, F = z + 1 := ⟨F - 1, by omega⟩
    unfold sL_law_b44
    rw [if_pos (by decide)]
  | succ d ih =>
    intro i F T Y t hi hF ht h
    obtain ⟨F, rfl⟩ : ∃ z, F = z + 1 := ⟨F - 1, by omega⟩
    obtain ⟨T1, Y1, t1, a1, a2, a3⟩ := l_acts (xs := xs) h hL (i := i) (by omega) (by omega)
    have h2 := h_holds a3.1
    have hn := a3.1.n8
    have hnz : nz (nI 1) = true := nz_t (by omega) (by omega)
    have hi1 : nI i + (1 : Int32) = nI (i + 1) := nI_add i 1
    unfold sL_law_b44
    rw [if_neg (show ¬ (12 : Int32) ≤ nI i from nI_ge (a := i) (b := 12) (by omega) (by omega)), gd_l (by omega), a1, bd_e, hnz, gd_tt, h2, bd_e, hnz, gd_tt, hi1]
    by_cases h0 : N = 0
    · rw [if_pos (show nI N = 0 by rw [h0]; rfl)]
      exact ih (i + 1) F T1 Y1 t1 (by omega) (by omega) (by omega) a3
    · obtain ⟨k, hk, p1⟩ := p_pickC (xs := xs) (a := (500 : Int32) + nI i) (b := nI N) (i := 500 + i) (m := N) hL (nI_add 500 i) rfl (by omega) (by omega) (by omega)
      obtain ⟨T3, c1, c2⟩ := l_comes a3 hk (by omega)
      rw [if_neg (show ¬ nI N = 0 from fun z => h0 ((nI_eq (by omega) (by omega)).mp z)), p1, bd_e, c1, bd_e, hnz, gd_tt]
      exact ih (i + 1) F T3 Y1 t1 (by omega) (by omega) (by omega) c2
theorem all_well (xs : Nat → Int32) (L : Nat) (hL : L ≤ 260) : sL_law L xs = some () := by
  obtain ⟨N, Y, tN, hN, e1, hl, hA, hG⟩ := g_grown (xs := xs) hL
  obtain ⟨c1, e2, hc, hf⟩ := l_feeds hA hl
  obtain ⟨T2, e3, hRT⟩ := t_readText hA hl hG hc hf
  have hnz : nz (nI 1) = true := nz_t (by omega) (by omega)
  unfold sL_law
  rw [e1, bd_e, gd_l (show N < 9 by omega)]
  dsimp only
  rw [List.length_map, gd_l (by omega), e2, bd_e]
  dsimp only
  rw [hnz, gd_tt, e3, bd_e]
  dsimp only
  rw [decide_eq_true rfl, gd_tt]
  exact all_turns hL 12 0 FU T2 Y 0 (by omega) (FU_lt (by omega)) (by omega) hRT
end
