/-! stage B: a world grows, with its text -/
def UNN (i j : Nat) (Y : St) : Prop := ∀ a b, a < b → (i < a ∨ (a = i ∧ j ≤ b)) → gI Y 0 (b + 6) a = nI 0
def pcF : Nat → Nat
  | 0 => 0
  | 1 => 4
  | 2 => 7
  | 3 => 9
  | _ => 10
theorem pcF_t : ∀ i, i < 5 → pcF i + (4 - i) ≤ pcF (i + 1) ∧ pcF (i + 1) ≤ 10 ∧ pcF i ≤ 10 := by decide
section
variable {n p i j u L9 N : Nat} {x Y Y' : St} {xs : Nat → Int32} {tN s l : List Nat}
theorem nrT_l (j i : Nat) : (nrT j i).length = 9 := rfl
/-- a pair -/
theorem s_516 (hL : L9 ≤ 260) (hij : i < j) (hj : j < N) (hN : N ≤ 5) (ht : tN.length ≤ 500) (hu : u ≤ 150) (hU : UNN i j Y) (hA : ASC tN) (h : GRT (QTl N Y 16) tN) : ∃ Y' tN' d, (∀ m K, sX8_grown_b516 (m + 1) K L9 xs N Y (tN.map nI) u (nI N) (nI i) (nI j) = sX8_grown_b516 m K L9 xs N Y' (tN'.map nI) (u + d) (nI N) (nI i) (nI (j + 1))) ∧ d ≤ 5 ∧ tN'.length ≤ tN.length + 9 ∧ UNN i (j + 1) Y' ∧ ASC tN' ∧ GRT (QTl N Y' 16) tN' := by
  obtain ⟨q, hq, e1⟩ := p_pickC (xs := xs) (a := ((120 : Int32) + ((8 : Int32) * nI i)) + nI j) (b := 3) (i := 120 + 8 * i + j) (m := 3) hL (by
    rw [show (8 : Int32) * nI i = nI (8 * i) from pk_mul 8 i, show (120 : Int32) + nI (8 * i) = nI (120 + 8 * i) from nI_add 120 (8 * i), nI_add]) rfl (by omega) (by omega) (by omega)
  have hj1 : nI j + (1 : Int32) = nI (j + 1) := nI_add j 1
  by_cases h0 : q = 0
  · subst h0
    refine ⟨Y, tN, 0, fun m K => ?_, by omega, by omega, fun a b hab hh => hU a b hab (by omega), hA, h⟩
    simp only [sX8_grown_b516]
    rw [if_neg (nI_ge hj (by omega)), e1, bd_e, if_neg (fun z => z rfl), nm_v, hj1]
    rfl
  · have hsq := sq_near (n := N) (Y := Y) hij hj (hU i j hij (Or.inr ⟨rfl, Nat.le_refl j⟩))
    have b24 : bytJS.getD 24 [] = (wNea ++ [32]).map nI := byK.2.2.2.2.2.2
    have l24 : lenJS.getD 24 0 = 5 := lnJ.2.2.2.2.2.2.2.2.2.2.2.2.2
    have b19 : bytJS.getD 19 [] = [32].map nI := byK.2.1
    have l19 : lenJS.getD 19 0 = 1 := lnJ.2.2.2.2.2.2.2.2.1
    have b12 : bytJS.getD 12 [] = [59].map nI := byJ.2.2.2.2.2.2
    have l12 : lenJS.getD 12 0 = 1 := lnJ.2.2.2.2.2.2.1
    have h4 : wNea.length = 4 := rfl
    have h32 : ([32] : List Nat).length = 1 := rfl
    have hj97 : ([97 + j] : List Nat).length = 1 := rfl
    have hi97 : ([97 + i] : List Nat).length = 1 := rfl
    have hm1 : [nI (97 + j)] = [97 + j].map nI := rfl
    have hm2 : [nI (97 + i)] = [97 + i].map nI := rfl
    refine ⟨swY Y i j (nI 1), tN ++ nrT j i, 5, fun m K => ?_, Nat.le_refl 5, by rw [List.length_append, nrT_l]; omega, fun a b hab hh => ?_, hA.app ?_, h.step hsq (by omega) (by rw [nrT_l]; omega) (fun l => rfl)⟩
    · simp only [sX8_grown_b516]
      rw [if_neg (nI_ge hj (by omega)), e1, bd_e, if_pos (show ¬ nI q = 0 from fun z => h0 ((nI_eq (by omega) (by omega)).mp z)), inb_t (show i < 8 by omega) (by omega), gd_tt, inb_t (show j < 8 by omega) (by omega), gd_tt, ix_n (by omega), ix_n (by omega), nm_v, gd_tt, gd_tt, nm_v, l24, b24, List.length_map, gd_l (by omega), gd_l (by omega), nm_v, nm_v, v97 j (by omega), inb_t (by omega) (by omega), gd_tt, ← List.map_append, List.length_map, gd_l (by simp only [List.length_append, h4, h32]; omega), gd_l (by omega), nm_v, hm1, ← List.map_append, l19, b19, List.length_map, gd_l (by simp only [List.length_append, h4, h32, hj97]; omega), gd_l (by omega), nm_v, ← List.map_append, nm_v, v97 i (by omega), inb_t (by omega) (by omega), gd_tt, List.length_map, gd_l (by simp only [List.length_append, h4, h32, hj97]; omega), gd_l (by omega), nm_v, hm2, ← List.map_append, l12, b12, List.length_map, gd_l (by simp only [List.length_append, h4, h32, hj97, hi97]; omega), gd_l (by omega), nm_v, ← List.map_append, nm_v, hj1]
      have : tN ++ (wNea ++ [32]) ++ [97 + j] ++ [32] ++ [97 + i] ++ [59] = tN ++ nrT j i := by
        simp only [nrT, List.append_assoc]
      rw [this]
      rfl
    · unfold swY
      rw [gI_pI, if_neg (by omega), gI_pI, if_neg (by omega)]
      exact hU a b hab (by omega)
    · exact (asc_ok ok_w.2.2.2.2.2.2.2.2.2.2).app ((asc_1 (by omega)).app ((asc_1 (by omega)).app ((asc_1 (by omega)).app ((asc_1 (by omega)).app (asc_1 (by omega))))))
theorem g_516 (hL : L9 ≤ 260) (hi : i < N) (hN : N ≤ 5) : ∀ (d j F : Nat) (Y : St) (tN : List Nat) (u : Nat), j + d = N → i < j → d < F → tN.length ≤ 400 + 9 * (pcF i + (j - i - 1)) → u ≤ 100 + 5 * (pcF i + (j - i - 1)) → UNN i j Y → ASC tN → GRT (QTl N Y 16) tN → ∃ Y' tN' u', (∀ K, sX8_grown_b516 F K L9 xs N Y (tN.map nI) u (nI N) (nI i) (nI j) = K N Y' (tN'.map nI) u' (nI N) (nI (i + 1))) ∧ tN'.length ≤ 400 + 9 * pcF (i + 1) ∧ u' ≤ 100 + 5 * pcF (i + 1) ∧ UNN (i + 1) (i + 2) Y' ∧ ASC tN' ∧ GRT (QTl N Y' 16) tN' := by
  have hp := pcF_t i (by omega)
  intro d
  induction d with
  | zero =>
    intro j F Y tN u hj hij hF ht hu hU hA h
    obtain rfl : j = N := by omega
    obtain ⟨F, rfl⟩ : ∃ z, F = z + 1 := ⟨F - 1, by omega⟩
    refine ⟨Y, tN, u, fun K => ?_, by omega, by omega, fun a b hab hh => hU a b hab (by omega), hA, h⟩
    simp only [sX8_grown_b516]
    rw [if_pos (nI_le (Nat.le_refl _) (by omega)), nm_v, show nI i + (1 : Int32) = nI (i + 1) from nI_add i 1]
  | succ d ih =>
    intro j F Y tN u hj hij hF ht hu hU hA h
    obtain ⟨F, rfl⟩ : ∃ z, F = z + 1 := ⟨F - 1, by omega⟩
    obtain ⟨Y1, t1, d1, e1, e2, e3, e4, e5, e6⟩ := s_516 (xs := xs) (u := u) hL hij (show j < N by omega) hN (by omega) (by omega) hU hA h
    obtain ⟨Y2, t2, u2, f1, f2⟩ := ih (j + 1) F Y1 t1 (u + d1) (by omega) (by omega) (by omega) (by omega) (by omega) e4 e5 e6
    exact ⟨Y2, t2, u2, fun K => (e1 F K).trans (f1 K), f2⟩
theorem g_504 (hL : L9 ≤ 260) (hN : N ≤ 5) : ∀ (d i F : Nat) (Y : St) (tN : List Nat) (u : Nat), i + d = N → d < F → tN.length ≤ 400 + 9 * pcF i → u ≤ 100 + 5 * pcF i → UNN i (i + 1) Y → ASC tN → GRT (QTl N Y 16) tN → ∃ Y' tN', sX8_grown_b504 F L9 xs N Y (tN.map nI) u (nI N) (nI i) = some (N, Y', tN'.map nI) ∧ tN'.length ≤ 490 ∧ ASC tN' ∧ GRT (QTl N Y' 16) tN' := by
  intro d
  induction d with
  | zero =>
    intro i F Y tN u hi hF ht hu hU hA h
    obtain rfl : i = N := by omega
    obtain ⟨F, rfl⟩ : ∃ z, F = z + 1 := ⟨F - 1, by omega⟩
    have hp : pcF i ≤ 10 := by
      rcases (by omega : i < 5 ∨ i = 5) with z | rfl
      · exact (pcF_t i z).2.2
      · decide
    refine ⟨Y, tN, ?_, by omega, hA, h⟩
    simp only [sX8_grown_b504]
    rw [if_pos (nI_le (Nat.le_refl _) (by omega)), gd_l (by omega)]
  | succ d ih =>
    intro i F Y tN u hi hF ht hu hU hA h
    obtain ⟨F, rfl⟩ : ∃ z, F = z + 1 := ⟨F - 1, by omega⟩
    obtain ⟨Y1, t1, u1, e1, e2, e3, e4, e5, e6⟩ := g_516 (xs := xs) hL (show i < N by omega) hN (N - (i + 1)) (i + 1) FU Y tN u (by omega) (by omega) (FU_lt (by omega)) (by omega) (by omega) hU hA h
    obtain ⟨Y2, t2, f1, f2⟩ := ih (i + 1) F Y1 t1 u1 (by omega) (by omega) e2 e3 e4 e5 e6
    refine ⟨Y2, t2, ?_, f2⟩
    simp only [sX8_grown_b504]
    rw [if_neg (nI_ge (show i < N by omega) (by omega)), show nI i + (1 : Int32) = nI (i + 1) from nI_add i 1, e1]
    exact f1
theorem nmt_l {w : List Nat} {o : Option Nat} : (NMT w o).length ≤ w.length + 5 := by
  cases o with
  | none => exact Nat.zero_le _
  | some v =>
    have := dN_l v
    have h32 : ([32] : List Nat).length = 1 := rfl
    have h59 : ([59] : List Nat).length = 1 := rfl
    simp only [NMT, List.length_append, h32, h59]
    omega
theorem asc_nmt {w : List Nat} {o : Option Nat} (hw : okL w) (ho : ∀ v, o = some v → v < 1000) : ASC (NMT w o) := by
  cases o with
  | none => exact fun c hc => by cases hc
  | some v => exact (asc_ok hw).app ((asc_1 (by omega)).app ((asc_dN (ho v rfl)).app (asc_1 (by omega))))
theorem setH_n {f : Nat} {o : Option Nat} (b a : Nat) : gI (setH Y f o) 0 (b + 6) a = gI Y 0 (b + 6) a := by
  cases o with
  | none => rfl
  | some v =>
    show gI (pI Y 0 0 f (nI v)) 0 (b + 6) a = _
    rw [gI_pI, if_neg (by omega)]
theorem coY_n {c0 c1 c2 c3 : Nat} (b a : Nat) : gI (coY Y c0 c1 c2 c3) 0 (b + 6) a = gI Y 0 (b + 6) a := by
  unfold coY
  rw [gI_pI, if_neg (by omega), gI_pI, if_neg (by omega), gI_pI, if_neg (by omega), gI_pI, if_neg (by omega)]
/-- behind the costs -/
theorem g_377 (hL : L9 ≤ 260) (hN : N ≤ 5) (ht : tN.length ≤ 330) (hu : u ≤ 91) (hU : ∀ b a, gI Y 0 (b + 6) a = nI 0) (hA : ASC tN) (h : GRT (QTl N Y 2) tN) : ∃ Y' tN', sX8_grown_b377 L9 xs N Y (tN.map nI) u (nI N) = some (N, Y', tN'.map nI) ∧ tN'.length ≤ 490 ∧ ASC tN' ∧ GRT (QTl N Y' 16) tN' := by
  obtain ⟨-, -, -, -, -, -, -, o8, o9, o10, -⟩ := ok_w
  obtain ⟨oA, dA, a1, a2, a3⟩ := s_377 (xs := xs) (n := N) (Y := Y) (tN := tN) (u := u) (N9 := nI N) hL (by omega) (by omega)
  have lA : (tN ++ NMT wSee oA).length ≤ tN.length + 9 := by
    have := nmt_l (w := wSee) (o := oA)
    rw [List.length_append]
    have : wSee.length = 4 := rfl
    omega
  have hA1 : GRT (QTl N (setH Y 1 oA) 4) (tN ++ NMT wSee oA) := by
    cases oA with
    | none => rw [show NMT wSee none = [] from rfl, List.append_nil]; exact h.mono fun x d => QTl.up (by omega)
    | some v => exact h.step (sq_seed (a2 v rfl)) (by omega) (by show 1 ≤ (wSee ++ _).length; rw [List.length_append]; show 1 ≤ 4 + _; omega) (fun l => rfl)
  obtain ⟨oB, dB, b1, b2, b3⟩ := s_417 (xs := xs) (n := N) (Y := setH Y 1 oA) (tN := tN ++ NMT wSee oA) (u := u + dA) (N9 := nI N) hL (by omega) (by omega)
  have lB : (tN ++ NMT wSee oA ++ NMT wTri oB).length ≤ tN.length + 19 := by
    have := nmt_l (w := wTri) (o := oB)
    rw [List.length_append]
    have : wTri.length = 5 := rfl
    omega
  have hB1 : GRT (QTl N (setH (setH Y 1 oA) 2 oB) 8) (tN ++ NMT wSee oA ++ NMT wTri oB) := by
    cases oB with
    | none => rw [show NMT wTri none = [] from rfl, List.append_nil]; exact hA1.mono fun x d => QTl.up (by omega)
    | some v => exact hA1.step (sq_tries (b2 v rfl).1 (b2 v rfl).2) (by omega) (by show 1 ≤ (wTri ++ _).length; rw [List.length_append]; show 1 ≤ 5 + _; omega) (fun l => rfl)
  obtain ⟨oC, dC, c1, c2, c3⟩ := s_458 (xs := xs) (n := N) (Y := setH (setH Y 1 oA) 2 oB) (tN := tN ++ NMT wSee oA ++ NMT wTri oB) (u := u + dA + dB) (N9 := nI N) hL (by omega) (by omega)
  have lC : (tN ++ NMT wSee oA ++ NMT wTri oB ++ NMT wMem oC).length ≤ tN.length + 30 := by
    have := nmt_l (w := wMem) (o := oC)
    rw [List.length_append]
    have : wMem.length = 6 := rfl
    omega
  have hC1 : GRT (QTl N (setH (setH (setH Y 1 oA) 2 oB) 3 oC) 16) (tN ++ NMT wSee oA ++ NMT wTri oB ++ NMT wMem oC) := by
    cases oC with
    | none => rw [show NMT wMem none = [] from rfl, List.append_nil]; exact hB1.mono fun x d => QTl.up (by omega)
    | some v => exact hB1.step (sq_memory (c2 v rfl).1 (c2 v rfl).2) (by omega) (by show 1 ≤ (wMem ++ _).length; rw [List.length_append]; show 1 ≤ 6 + _; omega) (fun l => rfl)
  have hAC : ASC (tN ++ NMT wSee oA ++ NMT wTri oB ++ NMT wMem oC) := ((hA.app (asc_nmt o8 fun v hv => by have := a2 v hv; omega)).app (asc_nmt o9 fun v hv => by have := b2 v hv; omega)).app (asc_nmt o10 fun v hv => by have := c2 v hv; omega)
  obtain ⟨Y2, t2, f1, f2⟩ := g_504 (xs := xs) hL hN N 0 FU (setH (setH (setH Y 1 oA) 2 oB) 3 oC) (tN ++ NMT wSee oA ++ NMT wTri oB ++ NMT wMem oC) (u + dA + dB + dC) (by omega) (FU_lt (by omega)) (by show _ ≤ 400 + 9 * 0; omega) (by show _ ≤ 100 + 5 * 0; omega) (fun a b _ _ => by rw [setH_n, setH_n, setH_n]; exact hU b a) hAC hC1
  refine ⟨Y2, t2, ?_, f2⟩
  rw [a3, b3, c3]
  exact f1
/-- a world grows -/
theorem g_grown (hL : L9 ≤ 260) : ∃ N Y tN, N ≤ 5 ∧ sX8_grown L9 xs = some (N, Y, tN.map nI) ∧ tN.length ≤ 490 ∧ ASC tN ∧ GRT (QTl N Y 16) tN := by
  obtain ⟨N, hN, e1⟩ := p_pickC (xs := xs) (a := (1 : Int32)) (b := 6) (i := 1) (m := 6) hL rfl rfl (by omega) (by omega) (by omega)
  obtain ⟨Y1, t1, u1, g1, g2, g3, g4, g5, g6⟩ := g_27 (xs := xs) (N := N) hL (by omega) N 0 FU Yw [] 4 (by omega) (FU_lt (by omega)) (Nat.zero_le _) (Nat.le_refl _) (GRT.nil.mono fun x d h => h)
  have hU : ∀ b a, gI Y1 0 (b + 6) a = nI 0 := fun b a => by rw [g5]; rfl
  have hA := g6 (fun c hc => by cases hc)
  have hQ : GRT (QTl N Y1 1) t1 := g4.mono fun x d h => ⟨h.1.fin, 0, by omega, h.2⟩
  obtain ⟨q, hq, e2⟩ := p_pickC (xs := xs) (a := (2 : Int32)) (b := 2) (i := 2) (m := 2) hL rfl rfl (by omega) (by omega) (by omega)
  suffices hs : ∃ Y tN, grE L9 xs N Y1 (t1.map nI) u1 (nI N) = some (N, Y, tN.map nI) ∧ tN.length ≤ 490 ∧ ASC tN ∧ GRT (QTl N Y 16) tN by
    obtain ⟨Y, tN, s1, s2⟩ := hs
    refine ⟨N, Y, tN, by omega, ?_, s2⟩
    unfold sX8_grown
    rw [e1, bd_e]
    exact g1.trans s1
  unfold grE
  rw [e2, bd_e]
  by_cases h0 : q = 0
  · subst h0
    have hb : bytJS.getD 13 [] = wCos.map nI := byK.1
    have hl : lenJS.getD 13 0 = 5 := lnJ.2.2.2.2.2.2.2.1
    obtain ⟨c0, c1, c2, c3, h0, h1, h2, h3, e3⟩ := s_cost (xs := xs) (n := N) (Y := Y1) (tN := t1) (u := u1 + 1) (N9 := nI N) hL (by omega) (by omega)
    have hA2 : ASC (csT c0 c1 c2 c3 []) := (asc_ok ok_w.2.2.2.2.2.2.1).app ((asc_1 (by omega)).app ((asc_dN (by omega)).app ((asc_1 (by omega)).app ((asc_dN (by omega)).app ((asc_1 (by omega)).app ((asc_dN (by omega)).app ((asc_1 (by omega)).app ((asc_dN (by omega)).app ((asc_1 (by omega)).app ((asc_1 (by omega)).app ((asc_1 (by omega)).app fun c hc => by cases hc)))))))))))
    have hlen : (t1 ++ csT c0 c1 c2 c3 []).length ≤ t1.length + 24 ∧ 1 ≤ (csT c0 c1 c2 c3 []).length := by
      have := dN_l c0
      have := dN_l c1
      have := dN_l c2
      have := dN_l c3
      have h5 : wCos.length = 5 := rfl
      have h32 : ([32] : List Nat).length = 1 := rfl
      have h59 : ([59] : List Nat).length = 1 := rfl
      have h10 : ([10] : List Nat).length = 1 := rfl
      have h00 : ([] : List Nat).length = 0 := rfl
      simp only [csT, List.length_append, h5, h32, h59, h10, h00]
      omega
    obtain ⟨Y2, t2, f1, f2⟩ := g_377 (xs := xs) (Y := coY Y1 c0 c1 c2 c3) (tN := t1 ++ csT c0 c1 c2 c3 []) (u := u1 + 1 + 9) hL (by omega) (by omega) (by omega) (fun b a => by rw [coY_n]; exact hU b a) (hA.app hA2) (hQ.step (sq_costs (by omega) (by omega) (by omega) (by omega)) (by omega) hlen.2 (fun l => rfl))
    refine ⟨Y2, t2, ?_, f2⟩
    rw [if_neg (fun z => z rfl), hl, hb, List.length_map, gd_l (by omega), gd_l (by omega), nm_v, ← List.map_append, e3]
    exact f1
  · rw [if_pos (show ¬ nI q = 0 from fun z => h0 ((nI_eq (by omega) (by omega)).mp z))]
    exact g_377 (xs := xs) hL (by omega) (by omega) (by omega) hU hA (hQ.mono fun x d => QTl.up (by omega))
end
