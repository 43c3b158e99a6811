/-! the law's constructors -/
section
variable {g : GX} {ξ : XI} {a b : Nat} {T : va_W} {pc : Nat} {lo : List (Nat × Value)} {st : List Value} {own : String} {cc : ByteArray} {nL FR LO RC RS : Nat}
/-- an array's contents count within its length alone -/
theorem L_convI {x n : Nat} {cA : ClassId} {f f' : Nat → Int32} (i : Nat) (he : T[i]? = some (x, .inl (cA, n, .inl f))) (h : ∀ k, k < n → f k = f' k) {T' : va_W} (hT : T.set i (x, .inl (cA, n, .inl f')) = T') (k : L g a b T' pc lo st) : L g a b T pc lo st := by
  intro H locs ls hP hS hl
  subst hT
  have hi := (List.getElem?_eq_some_iff.mp he).1
  have tr : ∀ (j : Nat) (y : Nat × va_E), (T.set i (x, .inl (cA, n, .inl f')))[j]? = some y → ∃ e, T[j]? = some (y.1, e) ∧ (va_at (gκ g).1 vwCl (y.1, e) H → va_at (gκ g).1 vwCl y H) := by
    intro j y hy
    rw [List.getElem?_set] at hy
    by_cases e : i = j
    · subst e
      rw [if_pos rfl, if_pos hi] at hy
      cases hy
      refine ⟨_, he, fun hh => ?_⟩
      show H[x]? = some (vp_cell cA (n, .inl f'))
      rw [← arrI_ext h]
      exact hh
    · rw [if_neg e] at hy
      exact ⟨y.2, hy, fun hh => hh⟩
  refine k H locs ls ⟨fun j y hy => ?_, fun j1 j2 y z hy hz e => ?_, fun j y hy => ?_⟩ hS hl
  · obtain ⟨e, h1, h2⟩ := tr j y hy
    exact h2 (hP.1 j _ h1)
  · obtain ⟨e1, h1, -⟩ := tr j1 y hy
    obtain ⟨e2, h2, -⟩ := tr j2 z hz
    exact hP.2.1 j1 j2 _ _ h1 h2 e
  · obtain ⟨e, h1, -⟩ := tr j y hy
    have := hP.2.2 j (y.1, e) h1
    exact this
theorem L_mna (X : CL g own cc nL FR LO RC RS) (E : XE g ξ) {index : Nat} (hl : Cond.classLink own index "[[Z" ∈ WG) (hC : a + 9 ≤ RC) (hS9 : b + 72 ≤ RS) (hd : decode cc pc = .ok (.multianewarray index 2, 4)) (k : ∀ (q : Nat) (r : Nat → Nat), L g (a + 1 + 8) (b + 8 + 8 * 8) ((q, .inl ((gκ g).2.1 7, 8, .inr (.inr (.inr (.inr (fun i => some (r i))))))) :: (((List.range 8).map fun i => (r i, (.inl ((gκ g).2.1 6, 8, .inl (fun _ => 0)) : va_E))) ++ T)) (pc + 4) lo (.ref q :: st)) : L g a b T pc lo (.int 8 :: .int 8 :: st) := by
  intro H locs ls hP hS hls
  have hP2 : va_P (gκ g).1 vwCl (T ++ va_pl [] (fun _ => (.inr (0, []) : va_E))) H := by rw [show va_pl [] (fun _ => (.inr (0, []) : va_E)) = [] from rfl, List.append_nil]; exact hP.1
  have hD2 : va_D (kA (gκ g)) (T ++ va_pl [] (fun _ => (.inr (0, []) : va_E))) := by rw [show va_pl [] (fun _ => (.inr (0, []) : va_E)) = [] from rfl, List.append_nil]; exact hP.2
  refine va_mna (ty := .boolean) (N' := 8) (K' := 8) (z := (8, .inl (fun _ => 0))) X.1 X.2.1 X.2.2.2.1 (X.2.2.2.2.1 _ hl) E.2.2.2.2.2.1 (X.2.2.2.2.1 _ wA_647) (X.2.2.2.2.2.1.1.2 5 _ rfl).2 X.2.2.2.2.2.1.1 hP2 hD2 hS (CL_A X) (by decide) (by decide) (by decide) (by decide) (by decide) (by decide) (by decide) rfl rfl (by rw [X.2.2.2.2.2.2.1.1]; exact hC) (by rw [X.2.2.2.2.2.2.1.2.1]; exact hS9) (fun _ => rfl) hd (fun q r cA H1 _ _ hK1 hP1 hD1 hS1 => ?_)
  have e1 := (hK1.2 8 (cA, .array .boolean) rfl).2
  have e2 := (X.2.2.2.2.2.1.1.2 6 _ rfl).2
  have e := va_RA_one e1 e2
  subst e
  have hv : va_pl ([] ++ (List.range 8).map r) (vr_up (fun _ => (.inr (0, []) : va_E)) ((List.range 8).map r) (.inl ((gκ g).2.1 6, (8, .inl (fun _ => 0))))) = (List.range 8).map fun i => (r i, (.inl ((gκ g).2.1 6, 8, .inl (fun _ => 0)) : va_E)) := by
    unfold va_pl
    rw [List.nil_append, List.map_map]
    refine List.map_congr_left (fun i hi => ?_)
    show (r i, vr_up _ _ _ (r i)) = _
    rw [vr_up_in (List.mem_map_of_mem hi)]
  rw [hv] at hP1 hD1
  refine (?_ : L g (a + 1 + 8) (b + 8 + 8 * 8) ((T ++ [(q, (.inl ((gκ g).2.1 7, 8, .inr (.inr (.inr (.inr (fun i => if i < 8 then some (r i) else none))))) : va_E))]) ++ (List.range 8).map fun i => (r i, (.inl ((gκ g).2.1 6, 8, .inl (fun _ => 0)) : va_E))) (pc + 4) lo (.ref q :: st)) H1 locs ls ⟨hP1, hD1⟩ hS1 hls
  rw [List.append_assoc]
  refine L_perm List.perm_append_comm ?_
  rw [List.append_assoc, List.singleton_append]
  exact L_conv (fun i hi => if_pos hi) (k q r)
end
theorem pm_b2 {x y z : Nat × va_E} {R : va_W} : (x :: y :: z :: R).Perm (z :: x :: y :: R) := (List.Perm.cons x (List.Perm.swap z y R)).trans (List.Perm.swap z x (y :: R))
theorem pm_r5 {a b c d e : Nat × va_E} {R : va_W} : (a :: b :: c :: d :: e :: R).Perm (e :: d :: c :: b :: a :: R) := (List.reverse_perm [a, b, c, d, e]).symm.append_right R
theorem pm_f5 {l h w s o : Nat × va_E} {R : va_W} : (l :: h :: w :: s :: o :: R).Perm (o :: s :: h :: w :: l :: R) := pm_r5.trans (List.Perm.cons o (List.Perm.cons s (List.Perm.swap h w (l :: R))))
theorem pm_w {a b c d o : Nat × va_E} {rows R : va_W} : (d :: c :: b :: (rows ++ (a :: o :: R))).Perm (o :: a :: b :: c :: d :: (rows ++ R)) :=
  (List.Perm.cons d (List.Perm.cons c (List.Perm.cons b ((List.perm_middle).trans (List.Perm.cons a List.perm_middle))))).trans pm_r5
theorem cm_X7_init {l : Launch} {κ : KX} {ξ : XI} {T0 : va_W} {q : Nat}  : CtM l κ ξ yX7_init cX7_init 1 none 1 23 5 44 [.ref q] ((q, .inr (7, fzX7)) :: T0) (fun rv T => ∃ s9 h9 w9 l9 : Nat, rv = none ∧ T = (q, .inr (7, [.int 0, .int 0, .int 2, .int 2, .int 999, .int 0, .int 0, .int 0, .int 0, .int 0, .int 0, .int 0, .ref s9, .ref h9, .ref w9, .ref l9])) :: (s9, .inl (κ.2.1 1, 4, .inl (fun _ => 0))) :: (h9, .inl (κ.2.1 1, 8, .inl (fun _ => (-1)))) :: (w9, .inl (κ.2.1 1, 8, .inl (fun _ => 0))) :: (l9, .inl (κ.2.1 1, 8, .inl (fun _ => 5))) :: T0) := by
  refine CtM_v RX7 rfl (by decide +kernel) (Nat.le_of_ble_eq_true rfl) (fun g hgl hgκ X E hini hf => ?_)
  subst hgl; subst hgκ
  refine L_aload_n X 0 dX7_init_0 rfl rfl ?_
  refine L_obj X wM_X7_1 wI_obj wC_obj ⟨(Nat.le_of_ble_eq_true rfl), (Nat.le_of_ble_eq_true rfl)⟩ dX7_init_1 ?_
  refine L_aload_n X 0 dX7_init_4 rfl rfl ?_
  refine L_iconst X (v := 2) dX7_init_5 rfl ?_
  refine L_put X (C := RX7) (Tf := TX7) (N := 16) (c := 7) (k := 2) (T' := ((q, .inr (7, [.int 0, .int 0, .int 2, .int 0, .int 0, .int 0, .int 0, .int 0, .int 0, .int 0, .int 0, .int 0, .null, .null, .null, .null])) :: T0)) rfl iX7 tyX7_ok nmX7 (by decide) rfl rfl (tyX7_ok _ (by decide)) wF_X7_7 0 rfl rfl rfl (Nat.le_of_ble_eq_true rfl) rfl dX7_init_6 ?_
  refine L_aload_n X 0 dX7_init_9 rfl rfl ?_
  refine L_iconst X (v := 2) dX7_init_10 rfl ?_
  refine L_put X (C := RX7) (Tf := TX7) (N := 16) (c := 7) (k := 3) (T' := ((q, .inr (7, [.int 0, .int 0, .int 2, .int 2, .int 0, .int 0, .int 0, .int 0, .int 0, .int 0, .int 0, .int 0, .null, .null, .null, .null])) :: T0)) rfl iX7 tyX7_ok nmX7 (by decide) rfl rfl (tyX7_ok _ (by decide)) wF_X7_13 0 rfl rfl rfl (Nat.le_of_ble_eq_true rfl) rfl dX7_init_11 ?_
  refine L_aload_n X 0 dX7_init_14 rfl rfl ?_
  refine L_sipush X (v := 999) dX7_init_15 rfl ?_
  refine L_put X (C := RX7) (Tf := TX7) (N := 16) (c := 7) (k := 4) (T' := ((q, .inr (7, [.int 0, .int 0, .int 2, .int 2, .int 999, .int 0, .int 0, .int 0, .int 0, .int 0, .int 0, .int 0, .null, .null, .null, .null])) :: T0)) rfl iX7 tyX7_ok nmX7 (by decide) rfl rfl (tyX7_ok _ (by decide)) wF_X7_16 0 rfl rfl rfl (Nat.le_of_ble_eq_true rfl) rfl dX7_init_18 ?_
  refine L_aload_n X 0 dX7_init_21 rfl rfl ?_
  refine L_iconst X (v := 4) dX7_init_22 rfl ?_
  refine L_newa X (atype := .int) (ty := .int) (t := 0) (N := 4) (a0 := (4, .inl (fun _ => 0))) rfl wA_144 rfl (fun _ => rfl) (by decide) (by decide) (Nat.le_of_ble_eq_true rfl) (by omega) (by omega) dX7_init_23 (fun q1 => ?_)
  refine L_put X (C := RX7) (Tf := TX7) (N := 16) (c := 7) (k := 12) (T' := ((q1, .inl ((gκ g).2.1 1, 4, .inl (fun _ => 0))) :: (q, .inr (7, [.int 0, .int 0, .int 2, .int 2, .int 999, .int 0, .int 0, .int 0, .int 0, .int 0, .int 0, .int 0, .ref q1, .null, .null, .null])) :: T0)) rfl iX7 tyX7_ok nmX7 (by decide) rfl rfl (tyX7_ok _ (by decide)) wF_X7_19 1 rfl rfl rfl (Nat.le_of_ble_eq_true rfl) rfl dX7_init_25 ?_
  refine L_aload_n X 0 dX7_init_28 rfl rfl ?_
  refine L_bipush X (v := 8) dX7_init_29 rfl ?_
  refine L_newa X (atype := .int) (ty := .int) (t := 0) (N := 8) (a0 := (8, .inl (fun _ => 0))) rfl wA_144 rfl (fun _ => rfl) (by decide) (by decide) (Nat.le_of_ble_eq_true rfl) (by omega) (by omega) dX7_init_31 (fun q2 => ?_)
  refine L_put X (C := RX7) (Tf := TX7) (N := 16) (c := 7) (k := 13) (T' := ((q2, .inl ((gκ g).2.1 1, 8, .inl (fun _ => 0))) :: (q1, .inl ((gκ g).2.1 1, 4, .inl (fun _ => 0))) :: (q, .inr (7, [.int 0, .int 0, .int 2, .int 2, .int 999, .int 0, .int 0, .int 0, .int 0, .int 0, .int 0, .int 0, .ref q1, .ref q2, .null, .null])) :: T0)) rfl iX7 tyX7_ok nmX7 (by decide) rfl rfl (tyX7_ok _ (by decide)) wF_X7_23 2 rfl rfl rfl (Nat.le_of_ble_eq_true rfl) rfl dX7_init_33 ?_
  refine L_aload_n X 0 dX7_init_36 rfl rfl ?_
  refine L_bipush X (v := 8) dX7_init_37 rfl ?_
  refine L_newa X (atype := .int) (ty := .int) (t := 0) (N := 8) (a0 := (8, .inl (fun _ => 0))) rfl wA_144 rfl (fun _ => rfl) (by decide) (by decide) (Nat.le_of_ble_eq_true rfl) (by omega) (by omega) dX7_init_39 (fun q3 => ?_)
  refine L_put X (C := RX7) (Tf := TX7) (N := 16) (c := 7) (k := 14) (T' := ((q3, .inl ((gκ g).2.1 1, 8, .inl (fun _ => 0))) :: (q2, .inl ((gκ g).2.1 1, 8, .inl (fun _ => 0))) :: (q1, .inl ((gκ g).2.1 1, 4, .inl (fun _ => 0))) :: (q, .inr (7, [.int 0, .int 0, .int 2, .int 2, .int 999, .int 0, .int 0, .int 0, .int 0, .int 0, .int 0, .int 0, .ref q1, .ref q2, .ref q3, .null])) :: T0)) rfl iX7 tyX7_ok nmX7 (by decide) rfl rfl (tyX7_ok _ (by decide)) wF_X7_26 3 rfl rfl rfl (Nat.le_of_ble_eq_true rfl) rfl dX7_init_41 ?_
  refine L_aload_n X 0 dX7_init_44 rfl rfl ?_
  refine L_bipush X (v := 8) dX7_init_45 rfl ?_
  refine L_newa X (atype := .int) (ty := .int) (t := 0) (N := 8) (a0 := (8, .inl (fun _ => 0))) rfl wA_144 rfl (fun _ => rfl) (by decide) (by decide) (Nat.le_of_ble_eq_true rfl) (by omega) (by omega) dX7_init_47 (fun q4 => ?_)
  refine L_put X (C := RX7) (Tf := TX7) (N := 16) (c := 7) (k := 15) (T' := ((q4, .inl ((gκ g).2.1 1, 8, .inl (fun _ => 0))) :: (q3, .inl ((gκ g).2.1 1, 8, .inl (fun _ => 0))) :: (q2, .inl ((gκ g).2.1 1, 8, .inl (fun _ => 0))) :: (q1, .inl ((gκ g).2.1 1, 4, .inl (fun _ => 0))) :: (q, .inr (7, [.int 0, .int 0, .int 2, .int 2, .int 999, .int 0, .int 0, .int 0, .int 0, .int 0, .int 0, .int 0, .ref q1, .ref q2, .ref q3, .ref q4])) :: T0)) rfl iX7 tyX7_ok nmX7 (by decide) rfl rfl (tyX7_ok _ (by decide)) wF_X7_29 4 rfl rfl rfl (Nat.le_of_ble_eq_true rfl) rfl dX7_init_49 ?_
  refine L_aload_n X 0 dX7_init_52 rfl rfl ?_
  refine L_get X (C := RX7) (Tf := TX7) (N := 16) (c := 7) (k := 13) rfl iX7 (by decide) rfl wF_X7_23 4 rfl rfl dX7_init_53 ?_
  refine L_iconst X (v := (-1)) dX7_init_56 rfl ?_
  refine L_perm (T' := ((q2, .inl ((gκ g).2.1 1, 8, .inl (fun _ => 0))) :: (q4, .inl ((gκ g).2.1 1, 8, .inl (fun _ => 0))) :: (q3, .inl ((gκ g).2.1 1, 8, .inl (fun _ => 0))) :: (q1, .inl ((gκ g).2.1 1, 4, .inl (fun _ => 0))) :: (q, .inr (7, [.int 0, .int 0, .int 2, .int 2, .int 999, .int 0, .int 0, .int 0, .int 0, .int 0, .int 0, .int 0, .ref q1, .ref q2, .ref q3, .ref q4])) :: T0)) pm_b2 ?_
  refine L_cS X E (As := [.ref q2, .int (-1)]) (rest := []) (cm_J7_fill_53178) cal_J7_fill_53178 wM_X7_32 wT_J7_fill_53178 ⟨⟨(Nat.le_of_ble_eq_true rfl), (Nat.le_of_ble_eq_true rfl)⟩, ⟨by omega, by omega⟩⟩ rfl rfl (Nat.le_of_ble_eq_true rfl) dX7_init_57 (fun rv T1 hT => ?_)
  obtain ⟨fh, hfh, rfl, rfl⟩ := hT
  refine L_convI (f' := fun _ => (-1)) 0 rfl hfh rfl ?_
  refine L_aload_n X 0 dX7_init_60 rfl rfl ?_
  refine L_get X (C := RX7) (Tf := TX7) (N := 16) (c := 7) (k := 15) rfl iX7 (by decide) rfl wF_X7_29 4 rfl rfl dX7_init_61 ?_
  refine L_iconst X (v := 5) dX7_init_64 rfl ?_
  refine L_perm (T' := ((q4, .inl ((gκ g).2.1 1, 8, .inl (fun _ => 0))) :: (q2, .inl ((gκ g).2.1 1, 8, .inl (fun _ => (-1)))) :: (q3, .inl ((gκ g).2.1 1, 8, .inl (fun _ => 0))) :: (q1, .inl ((gκ g).2.1 1, 4, .inl (fun _ => 0))) :: (q, .inr (7, [.int 0, .int 0, .int 2, .int 2, .int 999, .int 0, .int 0, .int 0, .int 0, .int 0, .int 0, .int 0, .ref q1, .ref q2, .ref q3, .ref q4])) :: T0)) pm_2 ?_
  refine L_cS X E (As := [.ref q4, .int 5]) (rest := []) (cm_J7_fill_53178) cal_J7_fill_53178 wM_X7_32 wT_J7_fill_53178 ⟨⟨(Nat.le_of_ble_eq_true rfl), (Nat.le_of_ble_eq_true rfl)⟩, ⟨by omega, by omega⟩⟩ rfl rfl (Nat.le_of_ble_eq_true rfl) dX7_init_65 (fun rv T1 hT => ?_)
  obtain ⟨fl, hfl, rfl, rfl⟩ := hT
  refine L_convI (f' := fun _ => 5) 0 rfl hfl rfl ?_
  refine L_perm pm_f5 ?_
  refine L_widen (a' := 5) (b' := 44) (by omega) (by omega) ?_
  exact hf _ _ _ dX7_init_68 ⟨_, _, _, _, rfl, rfl⟩

/-- a world as it is made -/
def Yw : St := (fun o j k => match o, j, k with
  | 0, 0, 1 => 1 | 0, 0, 2 => 3 | 0, 0, 3 => 99 | 0, 1, 0 => 1 | 0, 1, 1 => 5 | 0, 1, 2 => 3 | 0, 1, 3 => 9 | _, _, _ => 0, fun _ _ _ => 0)
def bw (q q1 q2 q3 q4 : Nat) (r : Nat → Nat) : Nat → Nat → Nat := fun _ j => match j with
  | 0 => q | 1 => q1 | 2 => q2 | 3 => q3 | 4 => q4 | 5 => 0 | j + 6 => r j
theorem cm_X8_init {l : Launch} {κ : KX} {ξ : XI} {T0 : va_W} {q : Nat}  : CtM l κ ξ yX8_init cX8_init 1 none 4 72 13 200 [.ref q] ((q, .inr (8, fzX8)) :: T0) (fun rv T => ∃ (β : Nat → Nat → Nat) (ω : Nat → Nat), β 0 0 = q ∧ rv = none ∧ T = wsB κ 0 β ω ξ.2.1 (κ.2.2.2.2.1 0) Yw ++ T0) := by
  refine CtM_v RX8 rfl (by decide +kernel) (Nat.le_of_ble_eq_true rfl) (fun g hgl hgκ X E hini hf => ?_)
  subst hgl; subst hgκ
  refine L_aload_n X 0 dX8_init_0 rfl rfl ?_
  refine L_obj X wM_X8_1 wI_obj wC_obj ⟨(Nat.le_of_ble_eq_true rfl), (Nat.le_of_ble_eq_true rfl)⟩ dX8_init_1 ?_
  refine L_aload_n X 0 dX8_init_4 rfl rfl ?_
  refine L_iconst X (v := 1) dX8_init_5 rfl ?_
  refine L_put X (C := RX8) (Tf := TX8) (N := 12) (c := 8) (k := 1) (T' := ((q, .inr (8, [.int 0, .int 1, .int 0, .int 0, .int 0, .int 0, .int 0, .null, .null, .null, .null, .null])) :: T0)) rfl iX8 tyX8_ok nmX8 (by decide) rfl rfl (tyX8_ok _ (by decide)) wF_X8_7 0 rfl rfl rfl (Nat.le_of_ble_eq_true rfl) rfl dX8_init_6 ?_
  refine L_aload_n X 0 dX8_init_9 rfl rfl ?_
  refine L_iconst X (v := 3) dX8_init_10 rfl ?_
  refine L_put X (C := RX8) (Tf := TX8) (N := 12) (c := 8) (k := 2) (T' := ((q, .inr (8, [.int 0, .int 1, .int 3, .int 0, .int 0, .int 0, .int 0, .null, .null, .null, .null, .null])) :: T0)) rfl iX8 tyX8_ok nmX8 (by decide) rfl rfl (tyX8_ok _ (by decide)) wF_X8_13 0 rfl rfl rfl (Nat.le_of_ble_eq_true rfl) rfl dX8_init_11 ?_
  refine L_aload_n X 0 dX8_init_14 rfl rfl ?_
  refine L_bipush X (v := 99) dX8_init_15 rfl ?_
  refine L_put X (C := RX8) (Tf := TX8) (N := 12) (c := 8) (k := 3) (T' := ((q, .inr (8, [.int 0, .int 1, .int 3, .int 99, .int 0, .int 0, .int 0, .null, .null, .null, .null, .null])) :: T0)) rfl iX8 tyX8_ok nmX8 (by decide) rfl rfl (tyX8_ok _ (by decide)) wF_X8_16 0 rfl rfl rfl (Nat.le_of_ble_eq_true rfl) rfl dX8_init_17 ?_
  refine L_aload_n X 0 dX8_init_20 rfl rfl ?_
  refine L_iconst X (v := 4) dX8_init_21 rfl ?_
  refine L_newa X (atype := .int) (ty := .int) (t := 0) (N := 4) (a0 := (4, .inl (fun _ => 0))) rfl wA_144 rfl (fun _ => rfl) (by decide) (by decide) (Nat.le_of_ble_eq_true rfl) (by omega) (by omega) dX8_init_22 (fun q1 => ?_)
  refine L_dup X dX8_init_24 rfl ?_
  refine L_iconst X (v := 0) dX8_init_25 rfl ?_
  refine L_iconst X (v := 1) dX8_init_26 rfl ?_
  refine L_iast X (T' := ((q1, .inl ((gκ g).2.1 1, 4, .inl (upd (fun _ => 0) (ix 0) 1))) :: (q, .inr (8, [.int 0, .int 1, .int 3, .int 99, .int 0, .int 0, .int 0, .null, .null, .null, .null, .null])) :: T0)) 0 rfl (by decide) rfl dX8_init_27 ?_
  refine L_dup X dX8_init_28 rfl ?_
  refine L_iconst X (v := 1) dX8_init_29 rfl ?_
  refine L_iconst X (v := 5) dX8_init_30 rfl ?_
  refine L_iast X (T' := ((q1, .inl ((gκ g).2.1 1, 4, .inl (upd (upd (fun _ => 0) (ix 0) 1) (ix 1) 5))) :: (q, .inr (8, [.int 0, .int 1, .int 3, .int 99, .int 0, .int 0, .int 0, .null, .null, .null, .null, .null])) :: T0)) 0 rfl (by decide) rfl dX8_init_31 ?_
  refine L_dup X dX8_init_32 rfl ?_
  refine L_iconst X (v := 2) dX8_init_33 rfl ?_
  refine L_iconst X (v := 3) dX8_init_34 rfl ?_
  refine L_iast X (T' := ((q1, .inl ((gκ g).2.1 1, 4, .inl (upd (upd (upd (fun _ => 0) (ix 0) 1) (ix 1) 5) (ix 2) 3))) :: (q, .inr (8, [.int 0, .int 1, .int 3, .int 99, .int 0, .int 0, .int 0, .null, .null, .null, .null, .null])) :: T0)) 0 rfl (by decide) rfl dX8_init_35 ?_
  refine L_dup X dX8_init_36 rfl ?_
  refine L_iconst X (v := 3) dX8_init_37 rfl ?_
  refine L_bipush X (v := 9) dX8_init_38 rfl ?_
  refine L_iast X (T' := ((q1, .inl ((gκ g).2.1 1, 4, .inl (upd (upd (upd (upd (fun _ => 0) (ix 0) 1) (ix 1) 5) (ix 2) 3) (ix 3) 9))) :: (q, .inr (8, [.int 0, .int 1, .int 3, .int 99, .int 0, .int 0, .int 0, .null, .null, .null, .null, .null])) :: T0)) 0 rfl (by decide) rfl dX8_init_40 ?_
  refine L_put X (C := RX8) (Tf := TX8) (N := 12) (c := 8) (k := 7) (T' := ((q1, .inl ((gκ g).2.1 1, 4, .inl (upd (upd (upd (upd (fun _ => 0) (ix 0) 1) (ix 1) 5) (ix 2) 3) (ix 3) 9))) :: (q, .inr (8, [.int 0, .int 1, .int 3, .int 99, .int 0, .int 0, .int 0, .ref q1, .null, .null, .null, .null])) :: T0)) rfl iX8 tyX8_ok nmX8 (by decide) rfl rfl (tyX8_ok _ (by decide)) wF_X8_19 1 rfl rfl rfl (Nat.le_of_ble_eq_true rfl) rfl dX8_init_41 ?_
  refine L_aload_n X 0 dX8_init_44 rfl rfl ?_
  refine L_bipush X (v := 8) dX8_init_45 rfl ?_
  refine L_bipush X (v := 8) dX8_init_47 rfl ?_
  refine L_mna X E wCl_X8_23 (by omega) (by omega) dX8_init_49 (fun q5 r => ?_)
  refine L_put X (C := RX8) (Tf := TX8) (N := 12) (c := 8) (k := 8) (T' := ((q5, .inl ((gκ g).2.1 7, 8, .inr (.inr (.inr (.inr (fun i => some (r i))))))) :: (((List.range 8).map fun i => (r i, (.inl ((gκ g).2.1 6, 8, .inl (fun _ => 0)) : va_E))) ++ ((q1, .inl ((gκ g).2.1 1, 4, .inl (upd (upd (upd (upd (fun _ => 0) (ix 0) 1) (ix 1) 5) (ix 2) 3) (ix 3) 9))) :: (q, .inr (8, [.int 0, .int 1, .int 3, .int 99, .int 0, .int 0, .int 0, .ref q1, .ref q5, .null, .null, .null])) :: T0)))) rfl iX8 tyX8_ok nmX8 (by decide) rfl rfl (tyX8_ok _ (by decide)) wF_X8_25 10 rfl rfl rfl (Nat.le_of_ble_eq_true rfl) rfl dX8_init_53 ?_
  refine L_aload_n X 0 dX8_init_56 rfl rfl ?_
  refine L_bipush X (v := 8) dX8_init_57 rfl ?_
  refine L_newa X (atype := .boolean) (ty := .boolean) (t := 5) (N := 8) (a0 := (8, .inl (fun _ => 0))) rfl wA_647 rfl (fun _ => rfl) (by decide) (by decide) (Nat.le_of_ble_eq_true rfl) (by omega) (by omega) dX8_init_59 (fun q2 => ?_)
  refine L_put X (C := RX8) (Tf := TX8) (N := 12) (c := 8) (k := 9) (T' := ((q2, .inl ((gκ g).2.1 6, 8, .inl (fun _ => 0))) :: (q5, .inl ((gκ g).2.1 7, 8, .inr (.inr (.inr (.inr (fun i => some (r i))))))) :: (((List.range 8).map fun i => (r i, (.inl ((gκ g).2.1 6, 8, .inl (fun _ => 0)) : va_E))) ++ ((q1, .inl ((gκ g).2.1 1, 4, .inl (upd (upd (upd (upd (fun _ => 0) (ix 0) 1) (ix 1) 5) (ix 2) 3) (ix 3) 9))) :: (q, .inr (8, [.int 0, .int 1, .int 3, .int 99, .int 0, .int 0, .int 0, .ref q1, .ref q5, .ref q2, .null, .null])) :: T0)))) rfl iX8 tyX8_ok nmX8 (by decide) rfl rfl (tyX8_ok _ (by decide)) wF_X8_28 11 rfl rfl rfl (Nat.le_of_ble_eq_true rfl) rfl dX8_init_61 ?_
  refine L_aload_n X 0 dX8_init_64 rfl rfl ?_
  refine L_new X (C := RJx4a65c) (Tf := TJx4a65c) (N := 3) (ci := 9) (ty0 := tyJx4a65c) (fs := fzJx4a65c) rfl iJx4a65c tyJx4a65c_ok wCl_X8_32 wN_Jx4a65c w0_Jx4a65c hzJx4a65c (by omega) (by omega) dX8_init_65 (fun q3 => ?_)
  refine L_dup X dX8_init_68 rfl ?_
  refine L_cI X E (As := []) (rest := [.ref q3, .ref q]) (cm_Jx4a65c_init_da8c8) cal_Jx4a65c_init_da8c8 wM_X8_34 rfl wI_Jx4a65c_init_da8c8 ⟨⟨(Nat.le_of_ble_eq_true rfl), (Nat.le_of_ble_eq_true rfl)⟩, ⟨by omega, by omega⟩⟩ rfl rfl (Nat.le_of_ble_eq_true rfl) dX8_init_69 (fun rv T1 hT => ?_)
  obtain ⟨rfl, rfl⟩ := hT
  refine L_put X (C := RX8) (Tf := TX8) (N := 12) (c := 8) (k := 10) (T' := ((q3, .inr (9, [.int 0, .ref ξ.2.1, .int 0])) :: (q2, .inl ((gκ g).2.1 6, 8, .inl (fun _ => 0))) :: (q5, .inl ((gκ g).2.1 7, 8, .inr (.inr (.inr (.inr (fun i => some (r i))))))) :: (((List.range 8).map fun i => (r i, (.inl ((gκ g).2.1 6, 8, .inl (fun _ => 0)) : va_E))) ++ ((q1, .inl ((gκ g).2.1 1, 4, .inl (upd (upd (upd (upd (fun _ => 0) (ix 0) 1) (ix 1) 5) (ix 2) 3) (ix 3) 9))) :: (q, .inr (8, [.int 0, .int 1, .int 3, .int 99, .int 0, .int 0, .int 0, .ref q1, .ref q5, .ref q2, .ref q3, .null])) :: T0)))) rfl iX8 tyX8_ok nmX8 (by decide) rfl rfl (tyX8_ok _ (by decide)) wF_X8_35 12 rfl rfl rfl (Nat.le_of_ble_eq_true rfl) rfl dX8_init_72 ?_
  refine L_aload_n X 0 dX8_init_75 rfl rfl ?_
  refine L_ldcS X (i := 0) (List.mem_of_getElem? (i := 11) rfl) dX8_init_76 ?_
  refine L_put X (C := RX8) (Tf := TX8) (N := 12) (c := 8) (k := 11) (T' := ((q3, .inr (9, [.int 0, .ref ξ.2.1, .int 0])) :: (q2, .inl ((gκ g).2.1 6, 8, .inl (fun _ => 0))) :: (q5, .inl ((gκ g).2.1 7, 8, .inr (.inr (.inr (.inr (fun i => some (r i))))))) :: (((List.range 8).map fun i => (r i, (.inl ((gκ g).2.1 6, 8, .inl (fun _ => 0)) : va_E))) ++ ((q1, .inl ((gκ g).2.1 1, 4, .inl (upd (upd (upd (upd (fun _ => 0) (ix 0) 1) (ix 1) 5) (ix 2) 3) (ix 3) 9))) :: (q, .inr (8, [.int 0, .int 1, .int 3, .int 99, .int 0, .int 0, .int 0, .ref q1, .ref q5, .ref q2, .ref q3, .ref (kS g 0)])) :: T0)))) rfl iX8 tyX8_ok nmX8 (by decide) rfl rfl (tyX8_ok _ (by decide)) wF_X8_41 12 rfl rfl rfl (Nat.le_of_ble_eq_true rfl) rfl dX8_init_78 ?_
  refine L_convI (f' := fun k => gI Yw 0 1 k) (T' := ((q3, .inr (9, [.int 0, .ref ξ.2.1, .int 0])) :: (q2, .inl ((gκ g).2.1 6, 8, .inl (fun _ => 0))) :: (q5, .inl ((gκ g).2.1 7, 8, .inr (.inr (.inr (.inr (fun i => some (r i))))))) :: (((List.range 8).map fun i => (r i, (.inl ((gκ g).2.1 6, 8, .inl (fun _ => 0)) : va_E))) ++ ((q1, .inl ((gκ g).2.1 1, 4, .inl (fun k => gI Yw 0 1 k))) :: (q, .inr (8, [.int 0, .int 1, .int 3, .int 99, .int 0, .int 0, .int 0, .ref q1, .ref q5, .ref q2, .ref q3, .ref (kS g 0)])) :: T0)))) 11 rfl (fun k hk => ?_) rfl ?_
  · rcases (by omega : k = 0 ∨ k = 1 ∨ k = 2 ∨ k = 3) with rfl | rfl | rfl | rfl <;> rfl
  refine L_perm pm_w ?_
  refine L_widen (a' := 13) (b' := 200) (by omega) (by omega) ?_
  exact hf _ _ _ dX8_init_81 ⟨bw q q1 q5 q2 q3 r, fun _ => 0, rfl, rfl, rfl⟩

