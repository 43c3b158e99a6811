/-! what holds at the entry -/
theorem ar_prim {s : State} {args : Array Value} {ty : FieldType} (h : (Cond.arrayClass ty).before args s = true) (hR : ∀ cA, s.vm.findClass ("[" ++ ty.toString) = some cA → va_RA s cA ty) : ∃ cA, ArrOfT s cA ty ∧ va_RA s cA ty := by
  obtain ⟨cA, kA, comp, h1, h2, h3⟩ := Cond.arrayClass_spec h
  exact ⟨cA, fun n z => ⟨fun k h => (by cases h), kA, h2, comp, h3⟩, hR cA h1⟩
theorem ar_obj {s : State} {C : String} (h : va_AO C s) : ∃ cA, ArrOfT s cA (.object C) ∧ va_RA s cA (.object C) := by
  obtain ⟨comp, c, k, h1, h2, h3, h4, h5⟩ := Cond.arrayOver_spec h
  exact ⟨c, fun n z => ⟨fun k h => (by cases h), k, h3, comp, h4⟩, k, comp, h3, h4, h1, h5⟩
theorem kn_all {s : State} {args : Array Value} (hts : ∀ w ∈ WG, w.before args s = true) : ∃ D : va_G, ∀ (c : Nat) (q : vw_C), vwCl[c]? = some q → u_Kn s q.1 q.2.1 q.2.2 (D.1 c) (D.2 c) := by
  obtain ⟨c0, i0, h0⟩ := u_known hts iX0 (hts _ wN_X0)
  obtain ⟨c1, i1, h1⟩ := u_known hts iX1 (hts _ wN_X1)
  obtain ⟨c2, i2, h2⟩ := u_known hts iX2 (hts _ wN_X2)
  obtain ⟨c3, i3, h3⟩ := u_known hts iX3 (hts _ wN_X3)
  obtain ⟨c4, i4, h4⟩ := u_known hts iX4 (hts _ wN_X4)
  obtain ⟨c5, i5, h5⟩ := u_known hts iX5 (hts _ wN_X5)
  obtain ⟨c6, i6, h6⟩ := u_known hts iX6 (hts _ wN_X6)
  obtain ⟨c7, i7, h7⟩ := u_known hts iX7 (hts _ wN_X7)
  refine ⟨(fun c => match c with | 0 => c0 | 1 => c1 | 2 => c2 | 3 => c3 | 4 => c4 | 5 => c5 | 6 => c6 | _ => c7, fun c => match c with | 0 => i0 | 1 => i1 | 2 => i2 | 3 => i3 | 4 => i4 | 5 => i5 | 6 => i6 | _ => i7), fun c q hq => ?_⟩
  match c, hq with
  | 0, hq => cases hq; exact h0
  | 1, hq => cases hq; exact h1
  | 2, hq => cases hq; exact h2
  | 3, hq => cases hq; exact h3
  | 4, hq => cases hq; exact h4
  | 5, hq => cases hq; exact h5
  | 6, hq => cases hq; exact h6
  | 7, hq => cases hq; exact h7
  | c + 8, hq => exact absurd (List.getElem?_eq_some_iff.mp hq).1 (by show ¬ c + 8 < 8; omega)
/-- classes, slots and arrays' classes -/
theorem k_all {s : State} {args : Array Value} (hts : ∀ w ∈ WG, w.before args s = true) (ho : va_AO RX0 s) (ho5 : va_AO RX5 s) : ∃ (D : va_G) (cs : Nat → ClassId), va_K D vwCl [(cs 1, .int), (cs 2, .byte), (cs 3, .long), (cs 4, .object RX0), (cs 5, .object RX5)] s := by
  obtain ⟨D, hD⟩ := kn_all hts
  obtain ⟨a1, b1⟩ := ar_prim (hts _ wA_141) (fun _ h => h)
  obtain ⟨a2, b2⟩ := ar_prim (hts _ wA_140) (fun _ h => h)
  obtain ⟨a3, b3⟩ := ar_prim (hts _ wA_265) (fun _ h => h)
  obtain ⟨a4, b4⟩ := ar_obj ho
  obtain ⟨a5, b5⟩ := ar_obj ho5
  refine ⟨D, fun k => match k with | 1 => a1 | 2 => a2 | 3 => a3 | 4 => a4 | _ => a5, hD, fun k q hk => ?_⟩
  match k, hk with
  | 0, hk => cases hk; exact b1
  | 1, hk => cases hk; exact b2
  | 2, hk => cases hk; exact b3
  | 3, hk => cases hk; exact b4
  | 4, hk => cases hk; exact b5
  | k + 5, hk => exact absurd (List.getElem?_eq_some_iff.mp hk).1 (by show ¬ k + 5 < 5; omega)
