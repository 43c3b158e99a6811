/-! what holds at the entry -/
theorem ar_prim {s : State} {args : Array Value} {ty : FieldType} (h : (Cond.arrayClass ty).before args s = true) (hR : ∀ cA, s.vm.findClass ("[" ++ ty.toString) = some cA → va_RA s cA ty) : ∃ cA, ArrOfT s cA ty ∧ va_RA s cA ty := by
  obtain ⟨cA, kA, comp, h1, h2, h3⟩ := Cond.arrayClass_spec h
  exact ⟨cA, fun n z => ⟨fun k h => (by cases h), kA, h2, comp, h3⟩, hR cA h1⟩
theorem ar_obj {s : State} {C : String} (h : va_AO C s) : ∃ cA, ArrOfT s cA (.object C) ∧ va_RA s cA (.object C) := by
  obtain ⟨comp, c, k, h1, h2, h3, h4, h5⟩ := Cond.arrayOver_spec h
  exact ⟨c, fun n z => ⟨fun k h => (by cases h), k, h3, comp, h4⟩, k, comp, h3, h4, h1, h5⟩
theorem ar_arr {s : State} {args : Array Value} {t : FieldType} (h : (Cond.arrayOver (.array t)).before args s = true) : ∃ cA, ArrOfT s cA (.array t) ∧ va_RA s cA (.array t) := by
  obtain ⟨comp, c, k, h1, h2, h3, h4⟩ := Cond.arrayOver_specA h
  exact ⟨c, fun n z => ⟨fun k h => (by cases h), k, h2, comp, h3⟩, h4⟩
theorem kn_all {s : State} {args : Array Value} (hts : ∀ w ∈ WG, w.before args s = true) : ∃ D : va_G, ∀ (c : Nat) (q : vw_C), vwCl[c]? = some q → u_Kn s q.1 q.2.1 q.2.2 (D.1 c) (D.2 c) := by
  obtain ⟨c0, i0, h0⟩ := u_known hts iX0 (hts _ wN_X0)
  obtain ⟨c1, i1, h1⟩ := u_known hts iX1 (hts _ wN_X1)
  obtain ⟨c2, i2, h2⟩ := u_known hts iX2 (hts _ wN_X2)
  obtain ⟨c3, i3, h3⟩ := u_known hts iX3 (hts _ wN_X3)
  obtain ⟨c4, i4, h4⟩ := u_known hts iX4 (hts _ wN_X4)
  obtain ⟨c5, i5, h5⟩ := u_known hts iX5 (hts _ wN_X5)
  obtain ⟨c6, i6, h6⟩ := u_known hts iX6 (hts _ wN_X6)
  obtain ⟨c7, i7, h7⟩ := u_known hts iX7 (hts _ wN_X7)
  obtain ⟨c8, i8, h8⟩ := u_known hts iX8 (hts _ wN_X8)
  obtain ⟨c9, i9, h9⟩ := u_known hts iJx4a65c (hts _ wN_Jx4a65c)
  obtain ⟨c10, i10, h10⟩ := u_known hts iJx35411 (hts _ wN_Jx35411)
  obtain ⟨c11, i11, h11⟩ := u_known hts iJ4 (hts _ wN_J4)
  obtain ⟨c12, i12, h12⟩ := u_known hts iJ0 (hts _ wN_J0)
  refine ⟨(fun c => match c with | 0 => c0 | 1 => c1 | 2 => c2 | 3 => c3 | 4 => c4 | 5 => c5 | 6 => c6 | 7 => c7 | 8 => c8 | 9 => c9 | 10 => c10 | 11 => c11 | _ => c12, fun c => match c with | 0 => i0 | 1 => i1 | 2 => i2 | 3 => i3 | 4 => i4 | 5 => i5 | 6 => i6 | 7 => i7 | 8 => i8 | 9 => i9 | 10 => i10 | 11 => i11 | _ => i12), fun c q hq => ?_⟩
  match c, hq with
  | 0, hq => cases hq; exact h0
  | 1, hq => cases hq; exact h1
  | 2, hq => cases hq; exact h2
  | 3, hq => cases hq; exact h3
  | 4, hq => cases hq; exact h4
  | 5, hq => cases hq; exact h5
  | 6, hq => cases hq; exact h6
  | 7, hq => cases hq; exact h7
  | 8, hq => cases hq; exact h8
  | 9, hq => cases hq; exact h9
  | 10, hq => cases hq; exact h10
  | 11, hq => cases hq; exact h11
  | 12, hq => cases hq; exact h12
  | c + 13, hq => exact absurd (List.getElem?_eq_some_iff.mp hq).1 (by show ¬ c + 13 < 13; omega)
theorem k_all {s : State} {args : Array Value} (hts : ∀ w ∈ WG, w.before args s = true) (ho : va_AO RX0 s) (ho5 : va_AO RX5 s) (ho8 : va_AO "java/lang/Object" s) (hz : va_AOA .boolean s) : ∃ (D : va_G) (cs : Nat → ClassId), va_K D vwCl [(cs 1, .int), (cs 2, .byte), (cs 3, .long), (cs 4, .object RX0), (cs 5, .object RX5), (cs 6, .boolean), (cs 7, .array .boolean), (cs 8, .object "java/lang/Object")] s := by
  obtain ⟨D, hD⟩ := kn_all hts
  obtain ⟨a1, b1⟩ := ar_prim (hts _ wA_144) (fun _ h => h)
  obtain ⟨a2, b2⟩ := ar_prim (hts _ wA_143) (fun _ h => h)
  obtain ⟨a3, b3⟩ := ar_prim (hts _ wA_260) (fun _ h => h)
  obtain ⟨a4, b4⟩ := ar_obj ho
  obtain ⟨a5, b5⟩ := ar_obj ho5
  obtain ⟨a6, b6⟩ := ar_prim (hts _ wA_647) (fun _ h => h)
  obtain ⟨a7, b7⟩ := ar_arr (args := #[]) hz
  obtain ⟨a8, b8⟩ := ar_obj ho8
  refine ⟨D, fun k => match k with | 1 => a1 | 2 => a2 | 3 => a3 | 4 => a4 | 5 => a5 | 6 => a6 | 7 => a7 | _ => a8, hD, fun k q hk => ?_⟩
  match k, hk with
  | 0, hk => cases hk; exact b1
  | 1, hk => cases hk; exact b2
  | 2, hk => cases hk; exact b3
  | 3, hk => cases hk; exact b4
  | 4, hk => cases hk; exact b5
  | 5, hk => cases hk; exact b6
  | 6, hk => cases hk; exact b7
  | 7, hk => cases hk; exact b8
  | k + 8, hk => exact absurd (List.getElem?_eq_some_iff.mp hk).1 (by show ¬ k + 8 < 8; omega)
