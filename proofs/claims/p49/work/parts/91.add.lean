/-! a new beacon goes into the list -/
def RP (n : Nat) : List (Nat × Nat) := (PB n).filter fun p => !(p == (0, 4)) && !(p == (0, 5))
def NP (n : Nat) : List (Nat × Nat) := [(n + 1, 0), (n + 1, 1), (n + 1, 2), (n + 1, 3), (n + 1, 4)]
theorem PB_a : ∀ n, n < 5 → n ≠ 0 → (PB n).Perm ((0, 5) :: (0, 4) :: RP n) := by decide +kernel
theorem PB_0 : (PB 0).Perm ((0, 4) :: RP 0) := by decide +kernel
theorem PB_c : ∀ n, n < 5 → (PB (n + 1)).Perm ((0, 5) :: (0, 4) :: (RP n ++ NP n)) := by decide +kernel
theorem RP_mem {n : Nat} {p : Nat × Nat} (h : p ∈ RP n) : p ∈ PB n ∧ p ≠ (0, 4) ∧ p ≠ (0, 5) := by
  unfold RP at h
  obtain ⟨h1, h2⟩ := List.mem_filter.mp h
  refine ⟨h1, ?_, ?_⟩ <;> (intro e; subst e; simp at h2)
def b5 (β : Nat → Nat → Nat) (z : Nat) : Nat → Nat → Nat := fun o j => match o, j with
  | 0, 5 => z
  | o, j => β o j
theorem b5_self (β : Nat → Nat → Nat) : b5 β (β 0 5) = β := by
  funext o j
  match o, j with
  | 0, 0 | 0, 1 | 0, 2 | 0, 3 | 0, 4 | 0, 5 => rfl
  | 0, j + 6 => rfl
  | o + 1, j => rfl
section
variable {κ : KX} {n e0 tx : Nat} {β : Nat → Nat → Nat} {ω : Nat → Nat} {Y : St}
theorem kb_up {p : Nat × Nat} (h : p ∈ RP n) : kb (n + 1) p.1 p.2 = kb n p.1 p.2 := by
  obtain ⟨h1, h2, h3⟩ := RP_mem h
  obtain ⟨o, j⟩ := p
  have ho := PB_le h1
  obtain ⟨v, hv⟩ := PB_kb h1
  match o, j, ho, h3, hv with
  | 0, 0, _, _, _ | 0, 1, _, _, _ | 0, 2, _, _, _ | 0, 3, _, _, _ | 0, 4, _, _, _ => rfl
  | 0, 5, _, h, _ => exact absurd rfl h
  | 0, j + 6, _, _, _ => rfl
  | b + 1, j, _, _, hv =>
    simp only [kb] at hv ⊢
    split at hv
    · rename_i hb
      rw [if_pos (by omega), if_pos hb]
    · cases hv
theorem cB_up {z : Nat} {p : Nat × Nat} (h : p ∈ RP n) : (adB (b5 β z) ω p.1 p.2, cB κ (n + 1) (b5 β z) ω e0 tx Y p.1 p.2) = (adB β ω p.1 p.2, cB κ n β ω e0 tx Y p.1 p.2) := by
  have hk := kb_up h
  obtain ⟨h1, h2, h3⟩ := RP_mem h
  obtain ⟨o, j⟩ := p
  refine Prod.ext ?_ ?_
  · show adB (b5 β z) ω o j = adB β ω o j
    match o, j, h3 with
    | 0, 0, _ | 0, 1, _ | 0, 2, _ | 0, 3, _ | 0, 4, _ => rfl
    | 0, 5, h => exact absurd rfl h
    | 0, j + 6, _ => rfl
    | o + 1, 0, _ | o + 1, 1, _ | o + 1, 2, _ | o + 1, 3, _ => rfl
    | o + 1, j + 4, _ => rfl
  · show cB κ (n + 1) (b5 β z) ω e0 tx Y o j = cB κ n β ω e0 tx Y o j
    unfold cB
    rw [show kb (n + 1) o j = kb n o j from hk]
    cases hk2 : kb n o j with
    | none => rfl
    | some w =>
      obtain ⟨t, m⟩ := w
      match t, hk2 with
      | 0, hk2 =>
        show (Sum.inr (m, List.map (fvB (n + 1) (b5 β z) ω e0 tx m o Y) (List.range (nfB m))) : va_E) = Sum.inr (m, List.map (fvB n β ω e0 tx m o Y) (List.range (nfB m)))
        refine congrArg (fun f => (Sum.inr (m, List.map f (List.range (nfB m))) : va_E)) (funext fun x => ?_)
        rcases kb_obj hk2 with ⟨rfl, hm⟩ | ⟨rfl, rfl, rfl⟩
        · have hb : ∀ q, q ≠ 5 → b5 β z o q = β o q := fun q hq => by
            match o, q, hq with
            | 0, 0, _ | 0, 1, _ | 0, 2, _ | 0, 3, _ | 0, 4, _ => rfl
            | 0, 5, h => exact absurd rfl h
            | 0, q + 6, _ => rfl
            | o + 1, q, _ => rfl
          have hb0 : ∀ q, q ≠ 5 → b5 β z 0 q = β 0 q := fun q hq => by
            match q, hq with
            | 0, _ | 1, _ | 2, _ | 3, _ | 4, _ => rfl
            | 5, h => exact absurd rfl h
            | q + 6, _ => rfl
          unfold fvB
          split <;> first | rfl | (rw [hb0 _ (by decide)]) | (rw [hb _ (by decide)]) | (exfalso; omega)
        · exact absurd rfl h2
      | 7, _ => rfl
      | 8, hk2 =>
        exfalso
        match o, j, hk2, h3 with
        | 0, 0, hk, _ => cases hk
        | 0, 1, hk, _ => cases hk
        | 0, 2, hk, _ => cases hk
        | 0, 3, hk, _ => cases hk
        | 0, 4, hk, _ => cases hk
        | 0, 5, _, h => exact absurd rfl h
        | 0, j + 6, hk, _ => exact absurd hk (by simp [kb])
        | o + 1, 0, hk, _ => exact absurd hk (by simp [kb])
        | o + 1, 1, hk, _ => exact absurd hk (by simp [kb])
        | o + 1, 2, hk, _ => exact absurd hk (by simp [kb])
        | o + 1, 3, hk, _ => exact absurd hk (by simp [kb])
        | o + 1, 4, hk, _ => exact absurd hk (by simp [kb])
        | o + 1, j + 5, hk, _ => exact absurd hk (by simp [kb])
      | 1, _ | 2, _ | 3, _ | 4, _ | 5, _ | 6, _ => rfl
      | t + 9, _ => rfl
theorem nb_up {z : Nat} : (NP n).map (fun (p : Nat × Nat) => (adB (b5 β z) ω p.1 p.2, cB κ (n + 1) (b5 β z) ω e0 tx Y p.1 p.2)) = nbB κ n β ω Y := by
  have e9 : fvB (n + 1) (b5 β z) ω e0 tx 7 (n + 1) Y = fvB 0 β ω 0 0 7 (n + 1) Y := funext fun x => by
    unfold fvB
    split <;> first | rfl | (exfalso; omega)
  unfold NP nbB
  simp only [List.map_cons, List.map_nil]
  rw [cB_obj (kb_b0 (Nat.lt_succ_self n)), cB_arr (kb_b1 (Nat.lt_succ_self n)) (Or.inl rfl), cB_arr (kb_b2 (Nat.lt_succ_self n)) (Or.inl rfl), cB_arr (kb_b3 (Nat.lt_succ_self n)) (Or.inl rfl), cB_arr (kb_b4 (Nat.lt_succ_self n)) (Or.inl rfl), e9]
  rfl
theorem up_arr : va_up (fun k => if k < n then some (β (k + 1) 0) else none) n (some (β (n + 1) 0)) = (fun k => if k < n + 1 then some (β (k + 1) 0) else none) := by
  funext k
  unfold va_up
  show (if k = n then some (β (n + 1) 0) else if k < n then some (β (k + 1) 0) else none) = if k < n + 1 then some (β (k + 1) 0) else none
  by_cases h : k = n
  · subst h; rw [if_pos rfl, if_pos (by omega)]
  · rw [if_neg h]
    by_cases h2 : k < n
    · rw [if_pos h2, if_pos (by omega)]
    · rw [if_neg h2, if_neg (by omega)]
end
section
variable {g : GX} {ξ : XI} {a b n : Nat} {β : Nat → Nat → Nat} {ω : Nat → Nat} {tx : Nat} {Y : St} {R : va_W} {pc : Nat} {lo : List (Nat × Value)} {st : List Value} {own : String} {cc : ByteArray} {nL FR LO RC RS : Nat}
/-- the world with one beacon more, as the list's cells in front of the rest -/
theorem wsB_c {κ : KX} {e0 : Nat} {z : Nat} (hn : n < 5) : (wsB κ (n + 1) (b5 β z) ω e0 tx Y ++ R).Perm ((z, .inl (κ.2.1 8, 10, .inr (.inr (.inr (.inr (fun k => if k < n + 1 then some (β (k + 1) 0) else none)))))) :: (β 0 4, .inr (9, [.int (nI (n + 1)), .ref z, .int (nI (n + 1))])) :: (((RP n).map fun p => (adB β ω p.1 p.2, cB κ n β ω e0 tx Y p.1 p.2)) ++ (nbB κ n β ω Y ++ R))) := by
  have h1 : (wsB κ (n + 1) (b5 β z) ω e0 tx Y).Perm _ := (PB_c n hn).map (fun (p : Nat × Nat) => (adB (b5 β z) ω p.1 p.2, cB κ (n + 1) (b5 β z) ω e0 tx Y p.1 p.2))
  rw [List.map_cons, List.map_cons, List.map_append, nb_up, List.map_congr_left (fun p hp => cB_up hp)] at h1
  have h2 := h1.append_right R
  rw [List.cons_append, List.cons_append, List.append_assoc] at h2
  have e5 : cB κ (n + 1) (b5 β z) ω e0 tx Y 0 5 = .inl (κ.2.1 8, 10, .inr (.inr (.inr (.inr (fun k => if k < n + 1 then some (β (k + 1) 0) else none))))) := by
    unfold cB
    rw [kb_l (Nat.succ_pos n)]
    rfl
  have e4 : cB κ (n + 1) (b5 β z) ω e0 tx Y 0 4 = .inr (9, [.int (nI (n + 1)), .ref z, .int (nI (n + 1))]) := by
    rw [cB_obj (n := n + 1) (o := 0) (j := 4) (c := 9) rfl]
    show (Sum.inr (9, [Value.int (nI (n + 1)), Value.ref (if n + 1 = 0 then e0 else b5 β z 0 5), Value.int (nI (n + 1))]) : va_E) = _
    rw [if_neg (Nat.succ_ne_zero n)]
    rfl
  show List.Perm _ _
  rw [e5, e4] at h2
  exact h2
theorem N_add (X : CL g own cc nL FR LO RC RS) (E : XE g ξ) (hn : n < 5) {index count : Nat} (hl : Cond.methodLink own index ⟨"java/util/List", "add", "(Ljava/lang/Object;)Z"⟩ ∈ WG) (hR : (6 ≤ FR ∧ 130 ≤ LO) ∧ (a + 1 ≤ RC ∧ b + 10 ≤ RS)) (hc : (st.map fun v => v.category).sum ≤ 8) (hd : decode cc pc = .ok (.invokeinterface index count, 5)) (kk : ∀ z : Nat, L g (a + 1) (b + 10) (wsB (gκ g) (n + 1) (b5 β z) ω ξ.2.1 tx Y ++ R) (pc + 5) lo (.int 1 :: st)) : L g a b ((nbB (gκ g) n β ω Y ++ wsB (gκ g) n β ω ξ.2.1 tx Y) ++ R) pc lo (.ref (β (n + 1) 0) :: .ref (β 0 4) :: st) := by
  have pm0 : ((nbB (gκ g) n β ω Y ++ wsB (gκ g) n β ω ξ.2.1 tx Y) ++ R).Perm (wsB (gκ g) n β ω ξ.2.1 tx Y ++ (nbB (gκ g) n β ω Y ++ R)) := by
    rw [← List.append_assoc]
    exact List.perm_append_comm.append_right R
  refine L_perm pm0 ?_
  have hyk : (((RP n).map fun p => (adB β ω p.1 p.2, cB (gκ g) n β ω ξ.2.1 tx Y p.1 p.2)) ++ (nbB (gκ g) n β ω Y ++ R))[((RP n).map fun p => (adB β ω p.1 p.2, cB (gκ g) n β ω ξ.2.1 tx Y p.1 p.2)).length]? = some (β (n + 1) 0, .inr (7, (List.range 16).map (fvB 0 β ω 0 0 7 (n + 1) Y))) := by
    rw [List.getElem?_append_right (Nat.le_refl _), Nat.sub_self]
    rfl
  by_cases h0 : n = 0
  · subst h0
    have pm1 : (wsB (gκ g) 0 β ω ξ.2.1 tx Y ++ (nbB (gκ g) 0 β ω Y ++ R)).Perm ((β 0 4, .inr (9, [.int 0, .ref ξ.2.1, .int 0])) :: (((RP 0).map fun p => (adB β ω p.1 p.2, cB (gκ g) 0 β ω ξ.2.1 tx Y p.1 p.2)) ++ (nbB (gκ g) 0 β ω Y ++ R))) := by
      have h1 : (wsB (gκ g) 0 β ω ξ.2.1 tx Y).Perm _ := PB_0.map (fun (p : Nat × Nat) => (adB β ω p.1 p.2, cB (gκ g) 0 β ω ξ.2.1 tx Y p.1 p.2))
      exact h1.append_right _
    refine L_perm pm1 ?_
    refine L_cF X E (q := vcl 9) (As := [.ref (β 1 0)]) (rest := st) (cf_Jx4a65c_add_9ea2d _ hyk) cal_Jx4a65c_add_9ea2d hl wI_Jx4a65c_add_9ea2d wO_Jx4a65c_add_9ea2d FW_Jx4a65c_add_9ea2d rfl 0 rfl rfl ⟨⟨by omega, by omega⟩, hR.2⟩ rfl rfl hc hd (fun rv T hT => ?_)
    obtain ⟨z, rfl, rfl⟩ := hT
    have e : va_up (fun _ => (none : Option Nat)) (ix 0) (some (β 1 0)) = (fun k => if k < 0 + 1 then some (β (k + 1) 0) else none) := by
      have := up_arr (n := 0) (β := β)
      rw [← this]
      rfl
    rw [e]
    exact L_perm (wsB_c (n := 0) (z := z) (R := R) (by decide)).symm (kk z)
  · have pm1 : (wsB (gκ g) n β ω ξ.2.1 tx Y ++ (nbB (gκ g) n β ω Y ++ R)).Perm ((β 0 5, .inl ((gκ g).2.1 8, 10, .inr (.inr (.inr (.inr (fun k => if k < n then some (β (k + 1) 0) else none)))))) :: (β 0 4, .inr (9, [.int (nI n), .ref (β 0 5), .int (nI n)])) :: (((RP n).map fun p => (adB β ω p.1 p.2, cB (gκ g) n β ω ξ.2.1 tx Y p.1 p.2)) ++ (nbB (gκ g) n β ω Y ++ R))) := by
      have h1 : (wsB (gκ g) n β ω ξ.2.1 tx Y).Perm _ := (PB_a n hn h0).map (fun (p : Nat × Nat) => (adB β ω p.1 p.2, cB (gκ g) n β ω ξ.2.1 tx Y p.1 p.2))
      have h2 := h1.append_right (nbB (gκ g) n β ω Y ++ R)
      rw [List.map_cons, List.map_cons, List.cons_append, List.cons_append] at h2
      have e5 : cB (gκ g) n β ω ξ.2.1 tx Y 0 5 = .inl ((gκ g).2.1 8, 10, .inr (.inr (.inr (.inr (fun k => if k < n then some (β (k + 1) 0) else none))))) := by
        unfold cB
        rw [kb_l (by omega)]
        rfl
      have e4 : cB (gκ g) n β ω ξ.2.1 tx Y 0 4 = .inr (9, [.int (nI n), .ref (β 0 5), .int (nI n)]) := by
        rw [cB_obj (n := n) (o := 0) (j := 4) (c := 9) rfl]
        show (Sum.inr (9, [Value.int (nI n), Value.ref (if n = 0 then ξ.2.1 else β 0 5), Value.int (nI n)]) : va_E) = _
        rw [if_neg h0]
      rw [e5, e4] at h2
      exact h2
    refine L_perm pm1 ?_
    refine L_cF X E (q := vcl 9) (As := [.ref (β (n + 1) 0)]) (rest := st) (cm_Jx4a65c_add_9ea2d (c := nI n) _ hyk (nI_inj (by omega) (by omega) (by omega)) (inb_n (by omega) (by omega))) cal_Jx4a65c_add_9ea2d hl wI_Jx4a65c_add_9ea2d wO_Jx4a65c_add_9ea2d FW_Jx4a65c_add_9ea2d rfl 1 rfl rfl ⟨⟨by omega, by omega⟩, ⟨by omega, by omega⟩⟩ rfl rfl hc hd (fun rv T hT => ?_)
    obtain ⟨rfl, rfl⟩ := hT
    rw [ix_n (by omega), up_arr, nI_1]
    refine L_widen (a' := a + 1) (b' := b + 10) (by omega) (by omega) ?_
    have k9 := kk (β 0 5)
    exact L_perm (wsB_c (n := n) (z := β 0 5) (R := R) hn).symm k9
end
