/-! constructors -/
def fzX0 : List Value := [.long 0, .int 0, .int 0, .int 0, .int 0, .int 0, .int 0, .int 0, .int 0, .int 0, .int 0, .int 0, .int 0, .int 0, .null, .null, .null, .null]
theorem hzX0 : ∀ j, j < 18 → defaultValue (tyX0 j) = vp_V fzX0 j := by
  intro j hj
  match j, hj with
  | 0, _ => rfl
  | 1, _ => rfl
  | 2, _ => rfl
  | 3, _ => rfl
  | 4, _ => rfl
  | 5, _ => rfl
  | 6, _ => rfl
  | 7, _ => rfl
  | 8, _ => rfl
  | 9, _ => rfl
  | 10, _ => rfl
  | 11, _ => rfl
  | 12, _ => rfl
  | 13, _ => rfl
  | 14, _ => rfl
  | 15, _ => rfl
  | 16, _ => rfl
  | 17, _ => rfl
  | j + 18, hj => exact absurd hj (by omega)
def fzX1 : List Value := [.null, .int 0]
theorem hzX1 : ∀ j, j < 2 → defaultValue (tyX1 j) = vp_V fzX1 j := by
  intro j hj
  match j, hj with
  | 0, _ => rfl
  | 1, _ => rfl
  | j + 2, hj => exact absurd hj (by omega)
def fzX2 : List Value := [.null, .null, .null, .null, .int 0, .int 0, .null, .null, .int 0]
theorem hzX2 : ∀ j, j < 9 → defaultValue (tyX2 j) = vp_V fzX2 j := by
  intro j hj
  match j, hj with
  | 0, _ => rfl
  | 1, _ => rfl
  | 2, _ => rfl
  | 3, _ => rfl
  | 4, _ => rfl
  | 5, _ => rfl
  | 6, _ => rfl
  | 7, _ => rfl
  | 8, _ => rfl
  | j + 9, hj => exact absurd hj (by omega)
def fzX3 : List Value := [.null, .int 0]
theorem hzX3 : ∀ j, j < 2 → defaultValue (tyX3 j) = vp_V fzX3 j := by
  intro j hj
  match j, hj with
  | 0, _ => rfl
  | 1, _ => rfl
  | j + 2, hj => exact absurd hj (by omega)
def fzX4 : List Value := [.null, .null, .null, .int 0, .int 0, .int 0, .int 0, .long 0, .int 0, .int 0]
theorem hzX4 : ∀ j, j < 10 → defaultValue (tyX4 j) = vp_V fzX4 j := by
  intro j hj
  match j, hj with
  | 0, _ => rfl
  | 1, _ => rfl
  | 2, _ => rfl
  | 3, _ => rfl
  | 4, _ => rfl
  | 5, _ => rfl
  | 6, _ => rfl
  | 7, _ => rfl
  | 8, _ => rfl
  | 9, _ => rfl
  | j + 10, hj => exact absurd hj (by omega)
def fzX5 : List Value := [.null, .null, .int 0, .int 0, .int 0, .int 0, .int 0, .int 0, .int 0, .int 0, .int 0]
theorem hzX5 : ∀ j, j < 11 → defaultValue (tyX5 j) = vp_V fzX5 j := by
  intro j hj
  match j, hj with
  | 0, _ => rfl
  | 1, _ => rfl
  | 2, _ => rfl
  | 3, _ => rfl
  | 4, _ => rfl
  | 5, _ => rfl
  | 6, _ => rfl
  | 7, _ => rfl
  | 8, _ => rfl
  | 9, _ => rfl
  | 10, _ => rfl
  | j + 11, hj => exact absurd hj (by omega)
def fzX6 : List Value := [.null, .int 0, .int 0, .int 0, .null, .null, .null, .int 0, .null, .int 0, .null, .null, .null]
theorem hzX6 : ∀ j, j < 13 → defaultValue (tyX6 j) = vp_V fzX6 j := by
  intro j hj
  match j, hj with
  | 0, _ => rfl
  | 1, _ => rfl
  | 2, _ => rfl
  | 3, _ => rfl
  | 4, _ => rfl
  | 5, _ => rfl
  | 6, _ => rfl
  | 7, _ => rfl
  | 8, _ => rfl
  | 9, _ => rfl
  | 10, _ => rfl
  | 11, _ => rfl
  | 12, _ => rfl
  | j + 13, hj => exact absurd hj (by omega)
def fzX7 : List Value := [.int 0, .null, .int 0, .int 0, .int 0, .int 0, .int 0, .int 0, .int 0, .int 0, .int 0, .int 0, .long 0, .null, .null, .null, .null, .null, .null, .null, .null, .int 0, .int 0, .int 0, .null, .null, .null, .null, .null, .int 0, .int 0, .int 0, .null, .int 0, .int 0]
theorem hzX7 : ∀ j, j < 35 → defaultValue (tyX7 j) = vp_V fzX7 j := by
  intro j hj
  match j, hj with
  | 0, _ => rfl
  | 1, _ => rfl
  | 2, _ => rfl
  | 3, _ => rfl
  | 4, _ => rfl
  | 5, _ => rfl
  | 6, _ => rfl
  | 7, _ => rfl
  | 8, _ => rfl
  | 9, _ => rfl
  | 10, _ => rfl
  | 11, _ => rfl
  | 12, _ => rfl
  | 13, _ => rfl
  | 14, _ => rfl
  | 15, _ => rfl
  | 16, _ => rfl
  | 17, _ => rfl
  | 18, _ => rfl
  | 19, _ => rfl
  | 20, _ => rfl
  | 21, _ => rfl
  | 22, _ => rfl
  | 23, _ => rfl
  | 24, _ => rfl
  | 25, _ => rfl
  | 26, _ => rfl
  | 27, _ => rfl
  | 28, _ => rfl
  | 29, _ => rfl
  | 30, _ => rfl
  | 31, _ => rfl
  | 32, _ => rfl
  | 33, _ => rfl
  | 34, _ => rfl
  | j + 35, hj => exact absurd hj (by omega)
def bL (κ : KX) (f : Nat → Nat) : va_W := [(f 0, .inr (0, [.long 0, .int 0, .int 0, .int 0, .int 0, .int 0, .int 0, .int 0, .int 0, .int 0, .int 0, .int 0, .int 0, .int 0, .ref (f 1), .ref (f 2), .ref (f 3), .ref (f 4)])), (f 1, .inl (κ.2.1 1, 4, .inl (fun _ => 0))), (f 2, .inl (κ.2.1 1, 8, .inl (fun _ => 0))), (f 3, .inl (κ.2.1 1, 8, .inl (fun _ => 0))), (f 4, .inl (κ.2.1 1, 8, .inl (fun _ => 0)))]
theorem cal_X0_init : Cal yX0_init cX0_init 1 none 0 := ⟨wC_X0_init, w0_X0, by decide +kernel⟩
theorem cn_X0 (l : Launch) (κ : KX) (h : Nat) (wr : va_W) : CtN l κ yX0_init cX0_init 1 1 20 4 28 [.ref h] ((h, .inr (0, fzX0)) :: wr) (fun T => ∃ f, f 0 = h ∧ T = bL κ f ++ wr) := by
  refine CtN_of RX0 rfl (by decide) (Nat.le_of_ble_eq_true rfl) (fun g hgl hgκ X hini hfin => ?_)
  subst hgl hgκ
  refine L_aload_n X 0 dX0_init_0 rfl rfl ?_
  refine L_obj X wM_X0_3 wI_obj wC_obj ⟨(Nat.le_of_ble_eq_true rfl), (Nat.le_of_ble_eq_true rfl)⟩ dX0_init_1 ?_
  refine L_aload_n X 0 dX0_init_4 rfl rfl ?_
  refine L_iconst X (v := 4) dX0_init_5 rfl ?_
  refine L_newa X (atype := .int) (ty := .int) (t := 0) (N := 4) (a0 := (4, .inl (fun _ => 0))) rfl wA_141 rfl (fun _ => rfl) (by decide) rfl (Nat.le_of_ble_eq_true rfl) (Nat.le_of_ble_eq_true rfl) (Nat.le_of_ble_eq_true rfl) dX0_init_6 (fun q1 => ?_)
  refine L_putF X hini (C := RX0) (Tf := TX0) (N := 18) (c := 0) (k := 14) (T' := ((q1, .inl ((gκ g).2.1 1, 4, .inl (fun _ => 0))) :: ((h, .inr (0, [.long 0, .int 0, .int 0, .int 0, .int 0, .int 0, .int 0, .int 0, .int 0, .int 0, .int 0, .int 0, .int 0, .int 0, .ref q1, .null, .null, .null])) :: wr))) rfl iX0 tyX0_ok nmX0 (by decide) rfl rfl rfl (tyX0_ok _ (by decide)) wF_X0_9 1 rfl rfl rfl (Nat.le_of_ble_eq_true rfl) rfl dX0_init_8 ?_
  refine L_aload_n X 0 dX0_init_11 rfl rfl ?_
  refine L_bipush X (v := 8) dX0_init_12 rfl ?_
  refine L_newa X (atype := .int) (ty := .int) (t := 0) (N := 8) (a0 := (8, .inl (fun _ => 0))) rfl wA_141 rfl (fun _ => rfl) (by decide) rfl (Nat.le_of_ble_eq_true rfl) (Nat.le_of_ble_eq_true rfl) (Nat.le_of_ble_eq_true rfl) dX0_init_14 (fun q2 => ?_)
  refine L_putF X hini (C := RX0) (Tf := TX0) (N := 18) (c := 0) (k := 15) (T' := ((q2, .inl ((gκ g).2.1 1, 8, .inl (fun _ => 0))) :: ((q1, .inl ((gκ g).2.1 1, 4, .inl (fun _ => 0))) :: ((h, .inr (0, [.long 0, .int 0, .int 0, .int 0, .int 0, .int 0, .int 0, .int 0, .int 0, .int 0, .int 0, .int 0, .int 0, .int 0, .ref q1, .ref q2, .null, .null])) :: wr)))) rfl iX0 tyX0_ok nmX0 (by decide) rfl rfl rfl (tyX0_ok _ (by decide)) wF_X0_15 2 rfl rfl rfl (Nat.le_of_ble_eq_true rfl) rfl dX0_init_16 ?_
  refine L_aload_n X 0 dX0_init_19 rfl rfl ?_
  refine L_bipush X (v := 8) dX0_init_20 rfl ?_
  refine L_newa X (atype := .int) (ty := .int) (t := 0) (N := 8) (a0 := (8, .inl (fun _ => 0))) rfl wA_141 rfl (fun _ => rfl) (by decide) rfl (Nat.le_of_ble_eq_true rfl) (Nat.le_of_ble_eq_true rfl) (Nat.le_of_ble_eq_true rfl) dX0_init_22 (fun q3 => ?_)
  refine L_putF X hini (C := RX0) (Tf := TX0) (N := 18) (c := 0) (k := 16) (T' := ((q3, .inl ((gκ g).2.1 1, 8, .inl (fun _ => 0))) :: ((q2, .inl ((gκ g).2.1 1, 8, .inl (fun _ => 0))) :: ((q1, .inl ((gκ g).2.1 1, 4, .inl (fun _ => 0))) :: ((h, .inr (0, [.long 0, .int 0, .int 0, .int 0, .int 0, .int 0, .int 0, .int 0, .int 0, .int 0, .int 0, .int 0, .int 0, .int 0, .ref q1, .ref q2, .ref q3, .null])) :: wr))))) rfl iX0 tyX0_ok nmX0 (by decide) rfl rfl rfl (tyX0_ok _ (by decide)) wF_X0_18 3 rfl rfl rfl (Nat.le_of_ble_eq_true rfl) rfl dX0_init_24 ?_
  refine L_aload_n X 0 dX0_init_27 rfl rfl ?_
  refine L_bipush X (v := 8) dX0_init_28 rfl ?_
  refine L_newa X (atype := .int) (ty := .int) (t := 0) (N := 8) (a0 := (8, .inl (fun _ => 0))) rfl wA_141 rfl (fun _ => rfl) (by decide) rfl (Nat.le_of_ble_eq_true rfl) (Nat.le_of_ble_eq_true rfl) (Nat.le_of_ble_eq_true rfl) dX0_init_30 (fun q4 => ?_)
  refine L_putF X hini (C := RX0) (Tf := TX0) (N := 18) (c := 0) (k := 17) (T' := ((q4, .inl ((gκ g).2.1 1, 8, .inl (fun _ => 0))) :: ((q3, .inl ((gκ g).2.1 1, 8, .inl (fun _ => 0))) :: ((q2, .inl ((gκ g).2.1 1, 8, .inl (fun _ => 0))) :: ((q1, .inl ((gκ g).2.1 1, 4, .inl (fun _ => 0))) :: ((h, .inr (0, [.long 0, .int 0, .int 0, .int 0, .int 0, .int 0, .int 0, .int 0, .int 0, .int 0, .int 0, .int 0, .int 0, .int 0, .ref q1, .ref q2, .ref q3, .ref q4])) :: wr)))))) rfl iX0 tyX0_ok nmX0 (by decide) rfl rfl rfl (tyX0_ok _ (by decide)) wF_X0_21 4 rfl rfl rfl (Nat.le_of_ble_eq_true rfl) rfl dX0_init_32 ?_
  refine L_perm ((List.reverse_perm (bL (gκ g) (fun j => match j with | 0 => h | 1 => q1 | 2 => q2 | 3 => q3 | _ => q4))).append_right wr) ?_
  exact hfin _ _ _ dX0_init_35 ⟨(fun j => match j with | 0 => h | 1 => q1 | 2 => q2 | 3 => q3 | _ => q4), rfl, rfl⟩
def kL (κ : KX) (f : Nat → Nat) : va_W := [(f 0, .inr (4, [.ref (f 1), .ref (f 2), .ref (f 3), .int 0, .int 0, .int 0, .int 0, .long 0, .int 0, .int (-1)])), (f 1, .inl (κ.2.1 1, 701, .inl (fun _ => 0))), (f 2, .inl (κ.2.1 1, 701, .inl (fun _ => 0))), (f 3, .inl (κ.2.1 3, 701, .inr (.inl (fun _ => 0))))]
theorem cal_X4_init : Cal yX4_init cX4_init 1 none 0 := ⟨wC_X4_init, w0_X4, by decide +kernel⟩
theorem cn_X4 (l : Launch) (κ : KX) (h : Nat) (wr : va_W) : CtN l κ yX4_init cX4_init 1 1 20 3 2103 [.ref h] ((h, .inr (4, fzX4)) :: wr) (fun T => ∃ f, f 0 = h ∧ T = kL κ f ++ wr) := by
  refine CtN_of RX4 rfl (by decide) (Nat.le_of_ble_eq_true rfl) (fun g hgl hgκ X hini hfin => ?_)
  subst hgl hgκ
  refine L_aload_n X 0 dX4_init_0 rfl rfl ?_
  refine L_obj X wM_X4_3 wI_obj wC_obj ⟨(Nat.le_of_ble_eq_true rfl), (Nat.le_of_ble_eq_true rfl)⟩ dX4_init_1 ?_
  refine L_aload_n X 0 dX4_init_4 rfl rfl ?_
  refine L_sipush X (v := 701) dX4_init_5 rfl ?_
  refine L_newa X (atype := .int) (ty := .int) (t := 0) (N := 701) (a0 := (701, .inl (fun _ => 0))) rfl wA_141 rfl (fun _ => rfl) (by decide) rfl (Nat.le_of_ble_eq_true rfl) (Nat.le_of_ble_eq_true rfl) (Nat.le_of_ble_eq_true rfl) dX4_init_8 (fun q1 => ?_)
  refine L_putF X hini (C := RX4) (Tf := TX4) (N := 10) (c := 4) (k := 0) (T' := ((q1, .inl ((gκ g).2.1 1, 701, .inl (fun _ => 0))) :: ((h, .inr (4, [.ref q1, .null, .null, .int 0, .int 0, .int 0, .int 0, .long 0, .int 0, .int 0])) :: wr))) rfl iX4 tyX4_ok nmX4 (by decide) rfl rfl rfl (tyX4_ok _ (by decide)) wF_X4_9 1 rfl rfl rfl (Nat.le_of_ble_eq_true rfl) rfl dX4_init_10 ?_
  refine L_aload_n X 0 dX4_init_13 rfl rfl ?_
  refine L_sipush X (v := 701) dX4_init_14 rfl ?_
  refine L_newa X (atype := .int) (ty := .int) (t := 0) (N := 701) (a0 := (701, .inl (fun _ => 0))) rfl wA_141 rfl (fun _ => rfl) (by decide) rfl (Nat.le_of_ble_eq_true rfl) (Nat.le_of_ble_eq_true rfl) (Nat.le_of_ble_eq_true rfl) dX4_init_17 (fun q2 => ?_)
  refine L_putF X hini (C := RX4) (Tf := TX4) (N := 10) (c := 4) (k := 1) (T' := ((q2, .inl ((gκ g).2.1 1, 701, .inl (fun _ => 0))) :: ((q1, .inl ((gκ g).2.1 1, 701, .inl (fun _ => 0))) :: ((h, .inr (4, [.ref q1, .ref q2, .null, .int 0, .int 0, .int 0, .int 0, .long 0, .int 0, .int 0])) :: wr)))) rfl iX4 tyX4_ok nmX4 (by decide) rfl rfl rfl (tyX4_ok _ (by decide)) wF_X4_15 2 rfl rfl rfl (Nat.le_of_ble_eq_true rfl) rfl dX4_init_19 ?_
  refine L_aload_n X 0 dX4_init_22 rfl rfl ?_
  refine L_sipush X (v := 701) dX4_init_23 rfl ?_
  refine L_newa X (atype := .long) (ty := .long) (t := 2) (N := 701) (a0 := (701, .inr (.inl (fun _ => 0)))) rfl wA_265 rfl (fun _ => rfl) (by decide) rfl (Nat.le_of_ble_eq_true rfl) (Nat.le_of_ble_eq_true rfl) (Nat.le_of_ble_eq_true rfl) dX4_init_26 (fun q3 => ?_)
  refine L_putF X hini (C := RX4) (Tf := TX4) (N := 10) (c := 4) (k := 2) (T' := ((q3, .inl ((gκ g).2.1 3, 701, .inr (.inl (fun _ => 0)))) :: ((q2, .inl ((gκ g).2.1 1, 701, .inl (fun _ => 0))) :: ((q1, .inl ((gκ g).2.1 1, 701, .inl (fun _ => 0))) :: ((h, .inr (4, [.ref q1, .ref q2, .ref q3, .int 0, .int 0, .int 0, .int 0, .long 0, .int 0, .int 0])) :: wr))))) rfl iX4 tyX4_ok nmX4 (by decide) rfl rfl rfl (tyX4_ok _ (by decide)) wF_X4_18 3 rfl rfl rfl (Nat.le_of_ble_eq_true rfl) rfl dX4_init_28 ?_
  refine L_aload_n X 0 dX4_init_31 rfl rfl ?_
  refine L_iconst X (v := (-1)) dX4_init_32 rfl ?_
  refine L_put X (C := RX4) (Tf := TX4) (N := 10) (c := 4) (k := 9) (T' := ((q3, .inl ((gκ g).2.1 3, 701, .inr (.inl (fun _ => 0)))) :: ((q2, .inl ((gκ g).2.1 1, 701, .inl (fun _ => 0))) :: ((q1, .inl ((gκ g).2.1 1, 701, .inl (fun _ => 0))) :: ((h, .inr (4, [.ref q1, .ref q2, .ref q3, .int 0, .int 0, .int 0, .int 0, .long 0, .int 0, .int (-1)])) :: wr))))) rfl iX4 tyX4_ok nmX4 (by decide) rfl rfl (tyX4_ok _ (by decide)) wF_X4_22 3 rfl rfl rfl (Nat.le_of_ble_eq_true rfl) rfl dX4_init_33 ?_
  refine L_perm ((List.reverse_perm (kL (gκ g) (fun j => match j with | 0 => h | 1 => q1 | 2 => q2 | _ => q3))).append_right wr) ?_
  exact hfin _ _ _ dX4_init_36 ⟨(fun j => match j with | 0 => h | 1 => q1 | 2 => q2 | _ => q3), rfl, rfl⟩
def gLp (κ : KX) (f : Nat → Nat) : va_W := [(f 0, .inr (1, [.ref (f 1), .int 0])), (f 1, .inl (κ.2.1 2, 800, .inl (fun _ => 0)))]
theorem cal_X1_init : Cal yX1_init cX1_init 1 none 0 := ⟨wC_X1_init, w0_X1, by decide +kernel⟩
theorem cn_X1 (l : Launch) (κ : KX) (h : Nat) (wr : va_W) : CtN l κ yX1_init cX1_init 1 1 20 1 800 [.ref h] ((h, .inr (1, fzX1)) :: wr) (fun T => ∃ f, f 0 = h ∧ T = gLp κ f ++ wr) := by
  refine CtN_of RX1 rfl (by decide) (Nat.le_of_ble_eq_true rfl) (fun g hgl hgκ X hini hfin => ?_)
  subst hgl hgκ
  refine L_aload_n X 0 dX1_init_0 rfl rfl ?_
  refine L_obj X wM_X1_3 wI_obj wC_obj ⟨(Nat.le_of_ble_eq_true rfl), (Nat.le_of_ble_eq_true rfl)⟩ dX1_init_1 ?_
  refine L_aload_n X 0 dX1_init_4 rfl rfl ?_
  refine L_sipush X (v := 800) dX1_init_5 rfl ?_
  refine L_newa X (atype := .byte) (ty := .byte) (t := 1) (N := 800) (a0 := (800, .inl (fun _ => 0))) rfl wA_140 rfl (fun _ => rfl) (by decide) rfl (Nat.le_of_ble_eq_true rfl) (Nat.le_of_ble_eq_true rfl) (Nat.le_of_ble_eq_true rfl) dX1_init_8 (fun q1 => ?_)
  refine L_putF X hini (C := RX1) (Tf := TX1) (N := 2) (c := 1) (k := 0) (T' := ((q1, .inl ((gκ g).2.1 2, 800, .inl (fun _ => 0))) :: ((h, .inr (1, [.ref q1, .int 0])) :: wr))) rfl iX1 tyX1_ok nmX1 (by decide) rfl rfl rfl (tyX1_ok _ (by decide)) wF_X1_11 1 rfl rfl rfl (Nat.le_of_ble_eq_true rfl) rfl dX1_init_10 ?_
  refine L_perm ((List.reverse_perm (gLp (gκ g) (fun j => match j with | 0 => h | _ => q1))).append_right wr) ?_
  exact hfin _ _ _ dX1_init_13 ⟨(fun j => match j with | 0 => h | _ => q1), rfl, rfl⟩
