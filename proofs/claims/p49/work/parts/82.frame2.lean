/-! a method of the class, called with the law's cells beside -/
theorem Str.narrow2 {κ κ' : KX} {U : State} {H : Heap} (h5 : κ'.2.2.2.2 = κ.2.2.2.2) (hA : ∀ q, kA κ' q → kA κ q) (h : Str κ U H) : Str κ' U H := by
  unfold Str at h ⊢
  rw [h5]
  exact ⟨h.1.narrow hA, h.2.1.narrow hA, vx_Zq.narrow h.2.2.1 hA, vx_Zq.narrow h.2.2.2.1 hA, va_Zq.narrow h.2.2.2.2 hA⟩
section
variable {g : GX} {ξ : XI} {a b : Nat} {pc : Nat} {lo : List (Nat × Value)} {own : String} {cc : ByteArray} {nL FR LO RC RS : Nat}
variable {index : Nat} {y : MethodName} {bytes : ByteArray} {mx fr lo2 n : Nat} {ret : Option FieldType} {As rest : List Value} {rv : Option Value}
theorem L_cC (X : CL g own cc nL FR LO RC RS) {T T' : TT} {B Tl Tl' : va_W} (hT : Tl = B ++ wsO (gκ g) T) (hT' : Tl' = B ++ wsO (gκ g) T') (hM : ∀ κ : KX, Ct g.2.1 κ y bytes mx ret fr lo2 (.ref (xE κ 8 0 0) :: As) T T' rv) (cal : Cal y bytes mx ret n) (hl : Cond.methodLink own index y ∈ WG) (hi : Cond.instanceMethod y ∈ WG) (hse : Cond.selects RX6 y y ∈ WG) (hR : Rm FR LO RC RS fr mx lo2 a b 0 0) (hn : As.length = n) {st : List Value} (hst : st = As.reverse ++ .ref (xE (gκ g) 8 0 0) :: rest) (hc : (rest.map fun v => v.category).sum ≤ 8)
    (hd : decode cc pc = .ok (.invokevirtual index, 3)) {st2 : List Value} (h2 : rv.toList ++ rest = st2) (k : L g a b Tl' (pc + 3) lo st2) : L g a b Tl pc lo st := by
  intro H locs ls hP hS hls
  subst hT hT' h2
  have hDA := CL_A X
  generalize hκ : ((gκ g).1, (gκ g).2.1, (gκ g).2.2.1, (fun q => (∃ p ∈ PL, q = xE (gκ g) p.1 p.2.1 p.2.2) ∨ H.size ≤ q), (gκ g).2.2.2.2) = κ'
  have ea : xE κ' = xE (gκ g) := by subst hκ; rfl
  have e1 : κ'.1 = (gκ g).1 := by subst hκ; rfl
  have eA : kA κ' = fun q => (∃ p ∈ PL, q = xE (gκ g) p.1 p.2.1 p.2.2) ∨ H.size ≤ q := by subst hκ; rfl
  have e5 : κ'.2.2.2.2 = (gκ g).2.2.2.2 := by subst hκ; rfl
  have eW : ∀ T0, wsO κ' T0 = wsO (gκ g) T0 := by intro T0; subst hκ; rfl
  have hOat : ∀ (T0 : TT) (i : Nat) (x : Nat × va_E), (wsO (gκ g) T0)[i]? = some x → (∃ p ∈ PL, x.1 = xE (gκ g) p.1 p.2.1 p.2.2) := by
    intro T0 i x hx
    unfold wsO at hx
    rw [List.getElem?_map] at hx
    cases hp : PL[i]? with
    | none => rw [hp] at hx; cases hx
    | some p => rw [hp] at hx; cases hx; exact ⟨p, List.mem_of_getElem? hp, rfl⟩
  have hPO : va_P (gκ g).1 vwCl (wsO (gκ g) T) H := fun i x hx => hP.1 (B.length + i) x (by rw [List.getElem?_append_right (Nat.le_add_right _ _), Nat.add_sub_cancel_left]; exact hx)
  have hPB : va_P (gκ g).1 vwCl B H := fun i x hx => hP.1 i x (by rw [List.getElem?_append_left (List.getElem?_eq_some_iff.mp hx).1]; exact hx)
  have hDO : va_D (kA (gκ g)) (wsO (gκ g) T) := ⟨fun i j x y hx hy e => by
      have := hP.2.1 (B.length + i) (B.length + j) x y (by rw [List.getElem?_append_right (Nat.le_add_right _ _), Nat.add_sub_cancel_left]; exact hx) (by rw [List.getElem?_append_right (Nat.le_add_right _ _), Nat.add_sub_cancel_left]; exact hy) e
      omega, fun i x hx => hP.2.2 (B.length + i) x (by rw [List.getElem?_append_right (Nat.le_add_right _ _), Nat.add_sub_cancel_left]; exact hx)⟩
  have hsub : ∀ q, kA κ' q → kA (gκ g) q := by
    intro q hq
    rw [eA] at hq
    rcases hq with ⟨p, hp, rfl⟩ | hq
    · obtain ⟨i, hi2, e⟩ := List.getElem_of_mem hp
      refine hDO.2 i (xE (gκ g) p.1 p.2.1 p.2.2, cE (gκ g) T p.1 p.2.1 p.2.2) ?_
      unfold wsO
      rw [List.getElem?_map, List.getElem?_eq_getElem hi2, e]
      rfl
    · exact hDA q (Nat.le_trans hS.1 hq)
  have hKO : KOK κ' := by
    refine ⟨fun i j x y hx hy e => ?_, fun i x hx => ?_⟩
    · have tr : ∀ (i : Nat) (x : Nat × va_E), (PL.map fun p => (κ'.2.2.1 p.1 p.2.1 p.2.2, (Sum.inr (0, []) : va_E)))[i]? = some x → ∃ e, (wsO (gκ g) T)[i]? = some (x.1, e) := by
        intro i x hx
        rw [List.getElem?_map] at hx
        cases hp : PL[i]? with
        | none => rw [hp] at hx; cases hx
        | some p =>
          rw [hp] at hx
          cases hx
          refine ⟨cE (gκ g) T p.1 p.2.1 p.2.2, ?_⟩
          unfold wsO
          rw [List.getElem?_map, hp]
          show some (xE (gκ g) p.1 p.2.1 p.2.2, _) = some (xE κ' p.1 p.2.1 p.2.2, _)
          rw [ea]
      obtain ⟨_, k1⟩ := tr i x hx
      obtain ⟨_, k2⟩ := tr j y hy
      exact hDO.1 i j _ _ k1 k2 e
    · rw [List.getElem?_map] at hx
      cases hp : PL[i]? with
      | none => rw [hp] at hx; cases hx
      | some p =>
        rw [hp] at hx
        cases hx
        rw [eA]
        refine Or.inl ⟨p, List.mem_of_getElem? hp, ?_⟩
        show xE κ' p.1 p.2.1 p.2.2 = _
        rw [ea]
  have hrec : ∃ cell : Cell, H[xE (gκ g) 8 0 0]? = some cell ∧ cell.vm.isStatics = false ∧ (gs g).vm.findClass RX6 = some cell.cls := by
    obtain ⟨i, hi2, he⟩ := wsO_at (gκ g) T (r := 8) (o := 0) (j := 0) (v := (0, 6)) rfl
    rw [cE_obj (r := 8) (o := 0) (j := 0) (c := 6) rfl rfl] at he
    exact va_recv X.2.2.2.2.2.1.1 hPO (q := vcl 6) rfl he
  have hpre : ∀ U : State, U.heap = H → (gs g).WarmedH U.vm → PreK κ' T U := by
    intro U hU hW
    refine ⟨by rw [e1, eW, hU]; exact hPO, ?_, ?_, fun q hq => ?_⟩
    · have := KxS.warm hW X.2.2.2.2.2.1
      subst hκ
      exact this
    · have h1 : Str (gκ g) U U.heap := by rw [hU]; exact Str.kept (Str.move hW.alike X.2.2.2.2.2.2.2.1) hS.2.1
      exact Str.narrow2 e5 hsub h1
    · rw [eA]
      exact Or.inr (by rw [← hU]; exact hq)
  have hrun := va_runV (l := g.2.1) (p := g.1) (e := g.2.2.1) (R := g.2.2.2.1) (below := g.2.2.2.2.2.2.2.1) (meth := g.2.2.2.2.2.2.2.2.1) (H := H) (locs := locs) (cells := a) (slots := b) (g := F0 g.2.2.2.2.2.1 pc ls st) (CL_fix X) (hM κ' X.2.2.2.2.2.2.2.2.2.2.2.1 hKO) (C := RX6) (index := index) (b := xE (gκ g) 8 0 0) (As := As) (rest := rest) (n := n) ⟨callB_of n X.2.2.2.2.1 (wsK_in cal.1) rfl rfl rfl (X.2.2.2.2.1 _ cal.2.1) (X.2.2.2.2.1 _ hl) cal.2.2 (by rw [X.2.2.2.2.2.2.2.2.1, X.2.2.2.2.2.2.2.2.2.1]; exact hR.1), X.2.2.2.2.1 _ hi, X.2.2.2.2.1 _ hse⟩ ⟨PreK.blind, hrec, fun U hU hW => ⟨by rw [ea], hpre U hU hW⟩⟩ rfl hn (hls.1.trans X.2.2.1) hst (lv_room hc) hd (by rw [X.2.2.2.2.2.2.1.1, X.2.2.2.2.2.2.1.2.1]; exact hR.2)
  intro TT0 hT0 X0
  obtain ⟨v, st₀, t, T1, L1, h0, X', hL, ee1, ee2, ⟨⟨hv, hP1⟩, hF⟩, st9⟩ := hrun TT0 hT0 X0
  cases hv
  obtain ⟨k1, k2, k3⟩ := vx_keep h0 ee1 hS (fun q _ h => hsub q h) hsub hL hF
  refine (fun hh => let ⟨t2, a1, b1⟩ := hh; ⟨t2, st9 t2 a1, b1⟩) (k T1.heap (locs ++ L1) ls ?_ k3 hls T1 rfl X')
  rw [e1, eW] at hP1
  have hlB : ∀ (i : Nat) (x : Nat × va_E), B[i]? = some x → ¬ kA κ' x.1 := by
    intro i x hx hk
    rw [eA] at hk
    have hi9 := (List.getElem?_eq_some_iff.mp hx).1
    rcases hk with ⟨p, hp, e⟩ | hk
    · obtain ⟨j, hj, ej⟩ := List.getElem_of_mem hp
      have hy : (B ++ wsO (gκ g) T)[B.length + j]? = some (xE (gκ g) p.1 p.2.1 p.2.2, cE (gκ g) T p.1 p.2.1 p.2.2) := by
        rw [List.getElem?_append_right (Nat.le_add_right _ _), Nat.add_sub_cancel_left]
        unfold wsO
        rw [List.getElem?_map, List.getElem?_eq_getElem hj, ej]
        rfl
      have := hP.2.1 i (B.length + j) x _ (by rw [List.getElem?_append_left hi9]; exact hx) hy e
      omega
    · exact absurd (va_at.lt (hPB i x hx)) (by omega)
  refine ⟨fun i x hx => ?_, fun i j x z hx hz e => ?_, fun i x hx => ?_⟩
  · by_cases hi9 : i < B.length
    · rw [List.getElem?_append_left hi9] at hx
      have h1 := hPB i x hx
      exact va_at.kept h1 (k2 x.1 (va_at.lt h1) (hlB i x hx))
    · rw [List.getElem?_append_right (by omega)] at hx
      rw [ee1]
      exact hP1 _ x hx
  · have tr : ∀ (i : Nat) (x : Nat × va_E), (B ++ wsO (gκ g) T')[i]? = some x → ∃ e, (B ++ wsO (gκ g) T)[i]? = some (x.1, e) := by
      intro i x hx
      by_cases hi9 : i < B.length
      · rw [List.getElem?_append_left hi9] at hx ⊢
        exact ⟨x.2, hx⟩
      · rw [List.getElem?_append_right (by omega)] at hx ⊢
        unfold wsO at hx ⊢
        rw [List.getElem?_map] at hx ⊢
        cases hp : PL[i - B.length]? with
        | none => rw [hp] at hx; cases hx
        | some p => rw [hp] at hx; cases hx; exact ⟨_, rfl⟩
    obtain ⟨_, q1⟩ := tr i x hx
    obtain ⟨_, q2⟩ := tr j z hz
    exact hP.2.1 i j _ _ q1 q2 e
  · by_cases hi9 : i < B.length
    · rw [List.getElem?_append_left hi9] at hx
      exact hP.2.2 i x (by rw [List.getElem?_append_left hi9]; exact hx)
    · rw [List.getElem?_append_right (by omega)] at hx
      obtain ⟨p, hp, e⟩ := hOat T' _ x hx
      rw [e]
      obtain ⟨j, hj, ej⟩ := List.getElem_of_mem hp
      refine hDO.2 j (xE (gκ g) p.1 p.2.1 p.2.2, cE (gκ g) T p.1 p.2.1 p.2.2) ?_
      unfold wsO
      rw [List.getElem?_map, List.getElem?_eq_getElem hj, ej]
      rfl
end
