/-! constructors -/
theorem pm_mid (A B C : va_W) : (A ++ (B ++ C)).Perm (B ++ (A ++ C)) := by rw [← List.append_assoc, ← List.append_assoc]; exact List.perm_append_comm.append_right C
theorem arrV_ext {cA : ClassId} {n : Nat} {f g : Nat → Value} (h : ∀ k, k < n → f k = g k) : arrV cA n f = arrV cA n g := by
  unfold arrV
  congr 1
  refine Array.ext (by simp) (fun i h1 h2 => ?_)
  simp only [Array.size_ofFn] at h1
  simp [h i (by simpa using h1)]
theorem L_conv {g : GX} {a b : Nat} {T : va_W} {pc : Nat} {lo : List (Nat × Value)} {st : List Value} {q n : Nat} {cA : ClassId} {f f' : Nat → Option Nat} (h : ∀ k, k < n → f k = f' k) (k : L g a b ((q, .inl (cA, n, .inr (.inr (.inr (.inr f'))))) :: T) pc lo st) : L g a b ((q, .inl (cA, n, .inr (.inr (.inr (.inr f))))) :: T) pc lo st := by
  intro H locs ls hP hS hl
  refine k H locs ls ⟨fun i x hx => ?_, fun i j x y hx hy e => ?_, fun i x hx => ?_⟩ hS hl
  · cases i with
    | zero =>
      cases hx
      have h0 := hP.1 0 _ rfl
      show H[q]? = some (vp_cell cA (n, .inr (.inr (.inr (.inr f')))))
      have h1 : H[q]? = some (vp_cell cA (n, .inr (.inr (.inr (.inr f))))) := h0
      rw [h1, vp_cell_q, vp_cell_q, arrV_ext (fun k hk => by rw [h k hk])]
    | succ i => exact hP.1 (i + 1) x hx
  · have tr : ∀ (i : Nat) (x : Nat × va_E), ((q, (Sum.inl (cA, n, .inr (.inr (.inr (.inr f')))) : va_E)) :: T)[i]? = some x → ∃ e, ((q, (Sum.inl (cA, n, .inr (.inr (.inr (.inr f)))) : va_E)) :: T)[i]? = some (x.1, e) := by
      intro i x hx
      cases i with
      | zero => cases hx; exact ⟨_, rfl⟩
      | succ i => exact ⟨x.2, hx⟩
    obtain ⟨_, e1⟩ := tr i x hx
    obtain ⟨_, e2⟩ := tr j y hy
    exact hP.2.1 i j _ _ e1 e2 e
  · cases i with
    | zero => cases hx; exact hP.2.2 0 (q, .inl (cA, n, .inr (.inr (.inr (.inr f))))) rfl
    | succ i => exact hP.2.2 (i + 1) x hx
def fzX0 : List Value := [.long 0, .int 0, .int 0, .int 0, .int 0, .int 0, .int 0, .int 0, .int 0, .int 0, .int 0, .int 0, .int 0, .int 0, .null, .null, .null, .null]
theorem hzX0 : ∀ j, j < 18 → defaultValue (tyX0 j) = vp_V fzX0 j := by
  intro j hj
  match j, hj with
  | 0, _ => rfl
  | 1, _ => rfl
  | 2, _ => rfl
  | 3, _ => rfl
  | 4, _ => rfl
  | 5, _ => rfl
  | 6, _ => rfl
  | 7, _ => rfl
  | 8, _ => rfl
  | 9, _ => rfl
  | 10, _ => rfl
  | 11, _ => rfl
  | 12, _ => rfl
  | 13, _ => rfl
  | 14, _ => rfl
  | 15, _ => rfl
  | 16, _ => rfl
  | 17, _ => rfl
  | j + 18, hj => exact absurd hj (by omega)
def fzX1 : List Value := [.null, .int 0]
theorem hzX1 : ∀ j, j < 2 → defaultValue (tyX1 j) = vp_V fzX1 j := by
  intro j hj
  match j, hj with
  | 0, _ => rfl
  | 1, _ => rfl
  | j + 2, hj => exact absurd hj (by omega)
def fzX2 : List Value := [.null, .null, .null, .null, .int 0, .int 0, .null, .null, .int 0]
theorem hzX2 : ∀ j, j < 9 → defaultValue (tyX2 j) = vp_V fzX2 j := by
  intro j hj
  match j, hj with
  | 0, _ => rfl
  | 1, _ => rfl
  | 2, _ => rfl
  | 3, _ => rfl
  | 4, _ => rfl
  | 5, _ => rfl
  | 6, _ => rfl
  | 7, _ => rfl
  | 8, _ => rfl
  | j + 9, hj => exact absurd hj (by omega)
def fzX3 : List Value := [.null, .int 0]
theorem hzX3 : ∀ j, j < 2 → defaultValue (tyX3 j) = vp_V fzX3 j := by
  intro j hj
  match j, hj with
  | 0, _ => rfl
  | 1, _ => rfl
  | j + 2, hj => exact absurd hj (by omega)
def fzX4 : List Value := [.null, .null, .null, .int 0, .int 0, .int 0, .int 0, .long 0, .int 0, .int 0]
theorem hzX4 : ∀ j, j < 10 → defaultValue (tyX4 j) = vp_V fzX4 j := by
  intro j hj
  match j, hj with
  | 0, _ => rfl
  | 1, _ => rfl
  | 2, _ => rfl
  | 3, _ => rfl
  | 4, _ => rfl
  | 5, _ => rfl
  | 6, _ => rfl
  | 7, _ => rfl
  | 8, _ => rfl
  | 9, _ => rfl
  | j + 10, hj => exact absurd hj (by omega)
def fzX5 : List Value := [.null, .null, .int 0, .int 0, .int 0, .int 0, .int 0, .int 0, .int 0, .int 0, .int 0]
theorem hzX5 : ∀ j, j < 11 → defaultValue (tyX5 j) = vp_V fzX5 j := by
  intro j hj
  match j, hj with
  | 0, _ => rfl
  | 1, _ => rfl
  | 2, _ => rfl
  | 3, _ => rfl
  | 4, _ => rfl
  | 5, _ => rfl
  | 6, _ => rfl
  | 7, _ => rfl
  | 8, _ => rfl
  | 9, _ => rfl
  | 10, _ => rfl
  | j + 11, hj => exact absurd hj (by omega)
def fzX6 : List Value := [.null, .int 0, .int 0, .int 0, .null, .null, .null, .int 0, .null, .int 0, .null, .null, .null]
theorem hzX6 : ∀ j, j < 13 → defaultValue (tyX6 j) = vp_V fzX6 j := by
  intro j hj
  match j, hj with
  | 0, _ => rfl
  | 1, _ => rfl
  | 2, _ => rfl
  | 3, _ => rfl
  | 4, _ => rfl
  | 5, _ => rfl
  | 6, _ => rfl
  | 7, _ => rfl
  | 8, _ => rfl
  | 9, _ => rfl
  | 10, _ => rfl
  | 11, _ => rfl
  | 12, _ => rfl
  | j + 13, hj => exact absurd hj (by omega)
def fzX7 : List Value := [.int 0, .int 0, .int 0, .int 0, .int 0, .int 0, .int 0, .int 0, .int 0, .int 0, .int 0, .int 0, .null, .null, .null, .null]
theorem hzX7 : ∀ j, j < 35 → defaultValue (tyX7 j) = vp_V fzX7 j := by
  intro j hj
  match j, hj with
  | 0, _ => rfl
  | 1, _ => rfl
  | 2, _ => rfl
  | 3, _ => rfl
  | 4, _ => rfl
  | 5, _ => rfl
  | 6, _ => rfl
  | 7, _ => rfl
  | 8, _ => rfl
  | 9, _ => rfl
  | 10, _ => rfl
  | 11, _ => rfl
  | 12, _ => rfl
  | 13, _ => rfl
  | 14, _ => rfl
  | 15, _ => rfl
  | 16, _ => rfl
  | 17, _ => rfl
  | 18, _ => rfl
  | 19, _ => rfl
  | 20, _ => rfl
  | 21, _ => rfl
  | 22, _ => rfl
  | 23, _ => rfl
  | 24, _ => rfl
  | 25, _ => rfl
  | 26, _ => rfl
  | 27, _ => rfl
  | 28, _ => rfl
  | 29, _ => rfl
  | 30, _ => rfl
  | 31, _ => rfl
  | 32, _ => rfl
  | 33, _ => rfl
  | 34, _ => rfl
  | j + 35, hj => exact absurd hj (by omega)
def bL (κ : KX) (f : Nat → Nat) : va_W := [(f 0, .inr (0, [.long 0, .int 0, .int 0, .int 0, .int 0, .int 0, .int 0, .int 0, .int 0, .int 0, .int 0, .int 0, .int 0, .int 0, .ref (f 1), .ref (f 2), .ref (f 3), .ref (f 4)])), (f 1, .inl (κ.2.1 1, 4, .inl (fun _ => 0))), (f 2, .inl (κ.2.1 1, 8, .inl (fun _ => 0))), (f 3, .inl (κ.2.1 1, 8, .inl (fun _ => 0))), (f 4, .inl (κ.2.1 1, 8, .inl (fun _ => 0)))]
theorem cal_X0_init : Cal yX0_init cX0_init 1 none 0 := ⟨wC_X0_init, w0_X0, by decide +kernel⟩
theorem cn_X0 (l : Launch) (κ : KX) (h : Nat) (wr : va_W) : CtN l κ yX0_init cX0_init 1 1 20 4 28 [.ref h] ((h, .inr (0, fzX0)) :: wr) (fun T => ∃ f, f 0 = h ∧ T = bL κ f ++ wr) := by
  refine CtN_of RX0 rfl (by decide) (Nat.le_of_ble_eq_true rfl) (fun g hgl hgκ X hini hfin => ?_)
  subst hgl hgκ
  refine L_aload_n X 0 dX0_init_0 rfl rfl ?_
  refine L_obj X wM_X0_3 wI_obj wC_obj ⟨(Nat.le_of_ble_eq_true rfl), (Nat.le_of_ble_eq_true rfl)⟩ dX0_init_1 ?_
  refine L_aload_n X 0 dX0_init_4 rfl rfl ?_
  refine L_iconst X (v := 4) dX0_init_5 rfl ?_
  refine L_newa X (atype := .int) (ty := .int) (t := 0) (N := 4) (a0 := (4, .inl (fun _ => 0))) rfl wA_144 rfl (fun _ => rfl) (by decide) rfl (Nat.le_of_ble_eq_true rfl) (Nat.le_of_ble_eq_true rfl) (Nat.le_of_ble_eq_true rfl) dX0_init_6 (fun q1 => ?_)
  refine L_putF X hini (C := RX0) (Tf := TX0) (N := 18) (c := 0) (k := 14) (T' := ((q1, .inl ((gκ g).2.1 1, 4, .inl (fun _ => 0))) :: ((h, .inr (0, [.long 0, .int 0, .int 0, .int 0, .int 0, .int 0, .int 0, .int 0, .int 0, .int 0, .int 0, .int 0, .int 0, .int 0, .ref q1, .null, .null, .null])) :: wr))) rfl iX0 tyX0_ok nmX0 (by decide) rfl rfl rfl (tyX0_ok _ (by decide)) wF_X0_9 1 rfl rfl rfl (Nat.le_of_ble_eq_true rfl) rfl dX0_init_8 ?_
  refine L_aload_n X 0 dX0_init_11 rfl rfl ?_
  refine L_bipush X (v := 8) dX0_init_12 rfl ?_
  refine L_newa X (atype := .int) (ty := .int) (t := 0) (N := 8) (a0 := (8, .inl (fun _ => 0))) rfl wA_144 rfl (fun _ => rfl) (by decide) rfl (Nat.le_of_ble_eq_true rfl) (Nat.le_of_ble_eq_true rfl) (Nat.le_of_ble_eq_true rfl) dX0_init_14 (fun q2 => ?_)
  refine L_putF X hini (C := RX0) (Tf := TX0) (N := 18) (c := 0) (k := 15) (T' := ((q2, .inl ((gκ g).2.1 1, 8, .inl (fun _ => 0))) :: ((q1, .inl ((gκ g).2.1 1, 4, .inl (fun _ => 0))) :: ((h, .inr (0, [.long 0, .int 0, .int 0, .int 0, .int 0, .int 0, .int 0, .int 0, .int 0, .int 0, .int 0, .int 0, .int 0, .int 0, .ref q1, .ref q2, .null, .null])) :: wr)))) rfl iX0 tyX0_ok nmX0 (by decide) rfl rfl rfl (tyX0_ok _ (by decide)) wF_X0_15 2 rfl rfl rfl (Nat.le_of_ble_eq_true rfl) rfl dX0_init_16 ?_
  refine L_aload_n X 0 dX0_init_19 rfl rfl ?_
  refine L_bipush X (v := 8) dX0_init_20 rfl ?_
  refine L_newa X (atype := .int) (ty := .int) (t := 0) (N := 8) (a0 := (8, .inl (fun _ => 0))) rfl wA_144 rfl (fun _ => rfl) (by decide) rfl (Nat.le_of_ble_eq_true rfl) (Nat.le_of_ble_eq_true rfl) (Nat.le_of_ble_eq_true rfl) dX0_init_22 (fun q3 => ?_)
  refine L_putF X hini (C := RX0) (Tf := TX0) (N := 18) (c := 0) (k := 16) (T' := ((q3, .inl ((gκ g).2.1 1, 8, .inl (fun _ => 0))) :: ((q2, .inl ((gκ g).2.1 1, 8, .inl (fun _ => 0))) :: ((q1, .inl ((gκ g).2.1 1, 4, .inl (fun _ => 0))) :: ((h, .inr (0, [.long 0, .int 0, .int 0, .int 0, .int 0, .int 0, .int 0, .int 0, .int 0, .int 0, .int 0, .int 0, .int 0, .int 0, .ref q1, .ref q2, .ref q3, .null])) :: wr))))) rfl iX0 tyX0_ok nmX0 (by decide) rfl rfl rfl (tyX0_ok _ (by decide)) wF_X0_18 3 rfl rfl rfl (Nat.le_of_ble_eq_true rfl) rfl dX0_init_24 ?_
  refine L_aload_n X 0 dX0_init_27 rfl rfl ?_
  refine L_bipush X (v := 8) dX0_init_28 rfl ?_
  refine L_newa X (atype := .int) (ty := .int) (t := 0) (N := 8) (a0 := (8, .inl (fun _ => 0))) rfl wA_144 rfl (fun _ => rfl) (by decide) rfl (Nat.le_of_ble_eq_true rfl) (Nat.le_of_ble_eq_true rfl) (Nat.le_of_ble_eq_true rfl) dX0_init_30 (fun q4 => ?_)
  refine L_putF X hini (C := RX0) (Tf := TX0) (N := 18) (c := 0) (k := 17) (T' := ((q4, .inl ((gκ g).2.1 1, 8, .inl (fun _ => 0))) :: ((q3, .inl ((gκ g).2.1 1, 8, .inl (fun _ => 0))) :: ((q2, .inl ((gκ g).2.1 1, 8, .inl (fun _ => 0))) :: ((q1, .inl ((gκ g).2.1 1, 4, .inl (fun _ => 0))) :: ((h, .inr (0, [.long 0, .int 0, .int 0, .int 0, .int 0, .int 0, .int 0, .int 0, .int 0, .int 0, .int 0, .int 0, .int 0, .int 0, .ref q1, .ref q2, .ref q3, .ref q4])) :: wr)))))) rfl iX0 tyX0_ok nmX0 (by decide) rfl rfl rfl (tyX0_ok _ (by decide)) wF_X0_21 4 rfl rfl rfl (Nat.le_of_ble_eq_true rfl) rfl dX0_init_32 ?_
  refine L_perm ((List.reverse_perm (bL (gκ g) (fun j => match j with | 0 => h | 1 => q1 | 2 => q2 | 3 => q3 | _ => q4))).append_right wr) ?_
  exact hfin _ _ _ dX0_init_35 ⟨(fun j => match j with | 0 => h | 1 => q1 | 2 => q2 | 3 => q3 | _ => q4), rfl, rfl⟩
def kL (κ : KX) (f : Nat → Nat) : va_W := [(f 0, .inr (4, [.ref (f 1), .ref (f 2), .ref (f 3), .int 0, .int 0, .int 0, .int 0, .long 0, .int 0, .int (-1)])), (f 1, .inl (κ.2.1 1, 701, .inl (fun _ => 0))), (f 2, .inl (κ.2.1 1, 701, .inl (fun _ => 0))), (f 3, .inl (κ.2.1 3, 701, .inr (.inl (fun _ => 0))))]
theorem cal_X4_init : Cal yX4_init cX4_init 1 none 0 := ⟨wC_X4_init, w0_X4, by decide +kernel⟩
theorem cn_X4 (l : Launch) (κ : KX) (h : Nat) (wr : va_W) : CtN l κ yX4_init cX4_init 1 1 20 3 2103 [.ref h] ((h, .inr (4, fzX4)) :: wr) (fun T => ∃ f, f 0 = h ∧ T = kL κ f ++ wr) := by
  refine CtN_of RX4 rfl (by decide) (Nat.le_of_ble_eq_true rfl) (fun g hgl hgκ X hini hfin => ?_)
  subst hgl hgκ
  refine L_aload_n X 0 dX4_init_0 rfl rfl ?_
  refine L_obj X wM_X4_3 wI_obj wC_obj ⟨(Nat.le_of_ble_eq_true rfl), (Nat.le_of_ble_eq_true rfl)⟩ dX4_init_1 ?_
  refine L_aload_n X 0 dX4_init_4 rfl rfl ?_
  refine L_sipush X (v := 701) dX4_init_5 rfl ?_
  refine L_newa X (atype := .int) (ty := .int) (t := 0) (N := 701) (a0 := (701, .inl (fun _ => 0))) rfl wA_144 rfl (fun _ => rfl) (by decide) rfl (Nat.le_of_ble_eq_true rfl) (Nat.le_of_ble_eq_true rfl) (Nat.le_of_ble_eq_true rfl) dX4_init_8 (fun q1 => ?_)
  refine L_putF X hini (C := RX4) (Tf := TX4) (N := 10) (c := 4) (k := 0) (T' := ((q1, .inl ((gκ g).2.1 1, 701, .inl (fun _ => 0))) :: ((h, .inr (4, [.ref q1, .null, .null, .int 0, .int 0, .int 0, .int 0, .long 0, .int 0, .int 0])) :: wr))) rfl iX4 tyX4_ok nmX4 (by decide) rfl rfl rfl (tyX4_ok _ (by decide)) wF_X4_9 1 rfl rfl rfl (Nat.le_of_ble_eq_true rfl) rfl dX4_init_10 ?_
  refine L_aload_n X 0 dX4_init_13 rfl rfl ?_
  refine L_sipush X (v := 701) dX4_init_14 rfl ?_
  refine L_newa X (atype := .int) (ty := .int) (t := 0) (N := 701) (a0 := (701, .inl (fun _ => 0))) rfl wA_144 rfl (fun _ => rfl) (by decide) rfl (Nat.le_of_ble_eq_true rfl) (Nat.le_of_ble_eq_true rfl) (Nat.le_of_ble_eq_true rfl) dX4_init_17 (fun q2 => ?_)
  refine L_putF X hini (C := RX4) (Tf := TX4) (N := 10) (c := 4) (k := 1) (T' := ((q2, .inl ((gκ g).2.1 1, 701, .inl (fun _ => 0))) :: ((q1, .inl ((gκ g).2.1 1, 701, .inl (fun _ => 0))) :: ((h, .inr (4, [.ref q1, .ref q2, .null, .int 0, .int 0, .int 0, .int 0, .long 0, .int 0, .int 0])) :: wr)))) rfl iX4 tyX4_ok nmX4 (by decide) rfl rfl rfl (tyX4_ok _ (by decide)) wF_X4_15 2 rfl rfl rfl (Nat.le_of_ble_eq_true rfl) rfl dX4_init_19 ?_
  refine L_aload_n X 0 dX4_init_22 rfl rfl ?_
  refine L_sipush X (v := 701) dX4_init_23 rfl ?_
  refine L_newa X (atype := .long) (ty := .long) (t := 2) (N := 701) (a0 := (701, .inr (.inl (fun _ => 0)))) rfl wA_260 rfl (fun _ => rfl) (by decide) rfl (Nat.le_of_ble_eq_true rfl) (Nat.le_of_ble_eq_true rfl) (Nat.le_of_ble_eq_true rfl) dX4_init_26 (fun q3 => ?_)
  refine L_putF X hini (C := RX4) (Tf := TX4) (N := 10) (c := 4) (k := 2) (T' := ((q3, .inl ((gκ g).2.1 3, 701, .inr (.inl (fun _ => 0)))) :: ((q2, .inl ((gκ g).2.1 1, 701, .inl (fun _ => 0))) :: ((q1, .inl ((gκ g).2.1 1, 701, .inl (fun _ => 0))) :: ((h, .inr (4, [.ref q1, .ref q2, .ref q3, .int 0, .int 0, .int 0, .int 0, .long 0, .int 0, .int 0])) :: wr))))) rfl iX4 tyX4_ok nmX4 (by decide) rfl rfl rfl (tyX4_ok _ (by decide)) wF_X4_18 3 rfl rfl rfl (Nat.le_of_ble_eq_true rfl) rfl dX4_init_28 ?_
  refine L_aload_n X 0 dX4_init_31 rfl rfl ?_
  refine L_iconst X (v := (-1)) dX4_init_32 rfl ?_
  refine L_put X (C := RX4) (Tf := TX4) (N := 10) (c := 4) (k := 9) (T' := ((q3, .inl ((gκ g).2.1 3, 701, .inr (.inl (fun _ => 0)))) :: ((q2, .inl ((gκ g).2.1 1, 701, .inl (fun _ => 0))) :: ((q1, .inl ((gκ g).2.1 1, 701, .inl (fun _ => 0))) :: ((h, .inr (4, [.ref q1, .ref q2, .ref q3, .int 0, .int 0, .int 0, .int 0, .long 0, .int 0, .int (-1)])) :: wr))))) rfl iX4 tyX4_ok nmX4 (by decide) rfl rfl (tyX4_ok _ (by decide)) wF_X4_22 3 rfl rfl rfl (Nat.le_of_ble_eq_true rfl) rfl dX4_init_33 ?_
  refine L_perm ((List.reverse_perm (kL (gκ g) (fun j => match j with | 0 => h | 1 => q1 | 2 => q2 | _ => q3))).append_right wr) ?_
  exact hfin _ _ _ dX4_init_36 ⟨(fun j => match j with | 0 => h | 1 => q1 | 2 => q2 | _ => q3), rfl, rfl⟩
def gLp (κ : KX) (f : Nat → Nat) : va_W := [(f 0, .inr (1, [.ref (f 1), .int 0])), (f 1, .inl (κ.2.1 2, 800, .inl (fun _ => 0)))]
theorem cal_X1_init : Cal yX1_init cX1_init 1 none 0 := ⟨wC_X1_init, w0_X1, by decide +kernel⟩
theorem cn_X1 (l : Launch) (κ : KX) (h : Nat) (wr : va_W) : CtN l κ yX1_init cX1_init 1 1 20 1 800 [.ref h] ((h, .inr (1, fzX1)) :: wr) (fun T => ∃ f, f 0 = h ∧ T = gLp κ f ++ wr) := by
  refine CtN_of RX1 rfl (by decide) (Nat.le_of_ble_eq_true rfl) (fun g hgl hgκ X hini hfin => ?_)
  subst hgl hgκ
  refine L_aload_n X 0 dX1_init_0 rfl rfl ?_
  refine L_obj X wM_X1_3 wI_obj wC_obj ⟨(Nat.le_of_ble_eq_true rfl), (Nat.le_of_ble_eq_true rfl)⟩ dX1_init_1 ?_
  refine L_aload_n X 0 dX1_init_4 rfl rfl ?_
  refine L_sipush X (v := 800) dX1_init_5 rfl ?_
  refine L_newa X (atype := .byte) (ty := .byte) (t := 1) (N := 800) (a0 := (800, .inl (fun _ => 0))) rfl wA_143 rfl (fun _ => rfl) (by decide) rfl (Nat.le_of_ble_eq_true rfl) (Nat.le_of_ble_eq_true rfl) (Nat.le_of_ble_eq_true rfl) dX1_init_8 (fun q1 => ?_)
  refine L_putF X hini (C := RX1) (Tf := TX1) (N := 2) (c := 1) (k := 0) (T' := ((q1, .inl ((gκ g).2.1 2, 800, .inl (fun _ => 0))) :: ((h, .inr (1, [.ref q1, .int 0])) :: wr))) rfl iX1 tyX1_ok nmX1 (by decide) rfl rfl rfl (tyX1_ok _ (by decide)) wF_X1_11 1 rfl rfl rfl (Nat.le_of_ble_eq_true rfl) rfl dX1_init_10 ?_
  refine L_perm ((List.reverse_perm (gLp (gκ g) (fun j => match j with | 0 => h | _ => q1))).append_right wr) ?_
  exact hfin _ _ _ dX1_init_13 ⟨(fun j => match j with | 0 => h | _ => q1), rfl, rfl⟩
def dL (κ : KX) (f : Nat → Nat) : va_W := kL κ (fun j => f (j + 1)) ++ [(f 0, .inr (3, [.ref (f 1), .int 0]))]
theorem cal_X3_init : Cal yX3_init cX3_init 1 none 0 := ⟨wC_X3_init, w0_X3, by decide +kernel⟩
theorem cn_X3 (l : Launch) (κ : KX) (h : Nat) (wr : va_W) : CtN l κ yX3_init cX3_init 1 3 60 4 2113 [.ref h] ((h, .inr (3, fzX3)) :: wr) (fun T => ∃ f, f 0 = h ∧ T = dL κ f ++ wr) := by
  refine CtN_of RX3 rfl (by decide) (Nat.le_of_ble_eq_true rfl) (fun g hgl hgκ X hini hfin => ?_)
  subst hgl hgκ
  refine L_aload_n X 0 dX3_init_0 rfl rfl ?_
  refine L_obj X wM_X3_3 wI_obj wC_obj ⟨(Nat.le_of_ble_eq_true rfl), (Nat.le_of_ble_eq_true rfl)⟩ dX3_init_1 ?_
  refine L_aload_n X 0 dX3_init_4 rfl rfl ?_
  refine L_new X (C := RX4) (Tf := TX4) (N := 10) (ci := 4) (ty0 := tyX4) (fs := fzX4) rfl iX4 tyX4_ok wCl_X3_9 wN_X4 w0_X4 hzX4 (Nat.le_of_ble_eq_true rfl) (Nat.le_of_ble_eq_true rfl) dX3_init_5 (fun q1 => ?_)
  refine L_dup X dX3_init_8 rfl ?_
  refine L_initN X (T := _) (cn_X4 _ _ q1 _) cal_X4_init nM_X3_11 rfl wI_X4_init ⟨(Nat.le_of_ble_eq_true rfl), (Nat.le_of_ble_eq_true rfl)⟩ rfl rfl (Nat.le_of_ble_eq_true rfl) ⟨(Nat.le_of_ble_eq_true rfl), (Nat.le_of_ble_eq_true rfl)⟩ dX3_init_9 (fun T1 hT1 => ?_)
  obtain ⟨f2, rfl, rfl⟩ := hT1
  refine L_putF X hini (C := RX3) (Tf := TX3) (N := 2) (c := 3) (k := 0) (T' := (kL (gκ g) f2 ++ ((h, .inr (3, [.ref (f2 0), .int 0])) :: wr))) rfl iX3 tyX3_ok nmX3 (by decide) rfl rfl rfl (tyX3_ok _ (by decide)) wF_X3_12 4 rfl rfl rfl (Nat.le_of_ble_eq_true rfl) rfl dX3_init_12 ?_
  exact hfin _ _ _ dX3_init_15 ⟨(fun j => match j with | 0 => h | j + 1 => f2 j), rfl, rfl⟩
def sLp (κ : KX) (f : Nat → Nat) : va_W := [(f 5, .inl (κ.2.1 1, 2, .inl (fun _ => 0))), (f 4, .inl (κ.2.1 1, 2, .inl (fun _ => 0))), (f 3, .inl (κ.2.1 1, 60, .inl (fun _ => 0))), (f 2, .inl (κ.2.1 1, 60, .inl (fun _ => 0))), (f 1, .inl (κ.2.1 1, 60, .inl (fun _ => 0)))] ++ (kL κ (fun j => f (j + 6)) ++ [(f 0, .inr (2, [.ref (f 6), .ref (f 1), .ref (f 2), .ref (f 3), .int 0, .int 0, .ref (f 4), .ref (f 5), .int 0]))])
theorem cal_X2_init : Cal yX2_init cX2_init 1 none 0 := ⟨wC_X2_init, w0_X2, by decide +kernel⟩
theorem cn_X2 (l : Launch) (κ : KX) (h : Nat) (wr : va_W) : CtN l κ yX2_init cX2_init 1 3 60 9 2297 [.ref h] ((h, .inr (2, fzX2)) :: wr) (fun T => ∃ f, f 0 = h ∧ T = sLp κ f ++ wr) := by
  refine CtN_of RX2 rfl (by decide) (Nat.le_of_ble_eq_true rfl) (fun g hgl hgκ X hini hfin => ?_)
  subst hgl hgκ
  refine L_aload_n X 0 dX2_init_0 rfl rfl ?_
  refine L_obj X wM_X2_5 wI_obj wC_obj ⟨(Nat.le_of_ble_eq_true rfl), (Nat.le_of_ble_eq_true rfl)⟩ dX2_init_1 ?_
  refine L_aload_n X 0 dX2_init_4 rfl rfl ?_
  refine L_new X (C := RX4) (Tf := TX4) (N := 10) (ci := 4) (ty0 := tyX4) (fs := fzX4) rfl iX4 tyX4_ok wCl_X2_11 wN_X4 w0_X4 hzX4 (Nat.le_of_ble_eq_true rfl) (Nat.le_of_ble_eq_true rfl) dX2_init_5 (fun q1 => ?_)
  refine L_dup X dX2_init_8 rfl ?_
  refine L_initN X (T := _) (cn_X4 _ _ q1 _) cal_X4_init nM_X2_13 rfl wI_X4_init ⟨(Nat.le_of_ble_eq_true rfl), (Nat.le_of_ble_eq_true rfl)⟩ rfl rfl (Nat.le_of_ble_eq_true rfl) ⟨(Nat.le_of_ble_eq_true rfl), (Nat.le_of_ble_eq_true rfl)⟩ dX2_init_9 (fun T1 hT1 => ?_)
  obtain ⟨f2, rfl, rfl⟩ := hT1
  refine L_putF X hini (C := RX2) (Tf := TX2) (N := 9) (c := 2) (k := 0) (T' := (kL (gκ g) f2 ++ ((h, .inr (2, [.ref (f2 0), .null, .null, .null, .int 0, .int 0, .null, .null, .int 0])) :: wr))) rfl iX2 tyX2_ok nmX2 (by decide) rfl rfl rfl (tyX2_ok _ (by decide)) wF_X2_14 4 rfl rfl rfl (Nat.le_of_ble_eq_true rfl) rfl dX2_init_12 ?_
  refine L_aload_n X 0 dX2_init_15 rfl rfl ?_
  refine L_bipush X (v := 60) dX2_init_16 rfl ?_
  refine L_newa X (atype := .int) (ty := .int) (t := 0) (N := 60) (a0 := (60, .inl (fun _ => 0))) rfl wA_144 rfl (fun _ => rfl) (by decide) rfl (Nat.le_of_ble_eq_true rfl) (Nat.le_of_ble_eq_true rfl) (Nat.le_of_ble_eq_true rfl) dX2_init_18 (fun q3 => ?_)
  refine L_putF X hini (C := RX2) (Tf := TX2) (N := 9) (c := 2) (k := 1) (T' := ((q3, .inl ((gκ g).2.1 1, 60, .inl (fun _ => 0))) :: (kL (gκ g) f2 ++ ((h, .inr (2, [.ref (f2 0), .ref q3, .null, .null, .int 0, .int 0, .null, .null, .int 0])) :: wr)))) rfl iX2 tyX2_ok nmX2 (by decide) rfl rfl rfl (tyX2_ok _ (by decide)) wF_X2_18 5 rfl rfl rfl (Nat.le_of_ble_eq_true rfl) rfl dX2_init_20 ?_
  refine L_aload_n X 0 dX2_init_23 rfl rfl ?_
  refine L_bipush X (v := 60) dX2_init_24 rfl ?_
  refine L_newa X (atype := .int) (ty := .int) (t := 0) (N := 60) (a0 := (60, .inl (fun _ => 0))) rfl wA_144 rfl (fun _ => rfl) (by decide) rfl (Nat.le_of_ble_eq_true rfl) (Nat.le_of_ble_eq_true rfl) (Nat.le_of_ble_eq_true rfl) dX2_init_26 (fun q4 => ?_)
  refine L_putF X hini (C := RX2) (Tf := TX2) (N := 9) (c := 2) (k := 2) (T' := ((q4, .inl ((gκ g).2.1 1, 60, .inl (fun _ => 0))) :: ((q3, .inl ((gκ g).2.1 1, 60, .inl (fun _ => 0))) :: (kL (gκ g) f2 ++ ((h, .inr (2, [.ref (f2 0), .ref q3, .ref q4, .null, .int 0, .int 0, .null, .null, .int 0])) :: wr))))) rfl iX2 tyX2_ok nmX2 (by decide) rfl rfl rfl (tyX2_ok _ (by decide)) wF_X2_22 6 rfl rfl rfl (Nat.le_of_ble_eq_true rfl) rfl dX2_init_28 ?_
  refine L_aload_n X 0 dX2_init_31 rfl rfl ?_
  refine L_bipush X (v := 60) dX2_init_32 rfl ?_
  refine L_newa X (atype := .int) (ty := .int) (t := 0) (N := 60) (a0 := (60, .inl (fun _ => 0))) rfl wA_144 rfl (fun _ => rfl) (by decide) rfl (Nat.le_of_ble_eq_true rfl) (Nat.le_of_ble_eq_true rfl) (Nat.le_of_ble_eq_true rfl) dX2_init_34 (fun q5 => ?_)
  refine L_putF X hini (C := RX2) (Tf := TX2) (N := 9) (c := 2) (k := 3) (T' := ((q5, .inl ((gκ g).2.1 1, 60, .inl (fun _ => 0))) :: ((q4, .inl ((gκ g).2.1 1, 60, .inl (fun _ => 0))) :: ((q3, .inl ((gκ g).2.1 1, 60, .inl (fun _ => 0))) :: (kL (gκ g) f2 ++ ((h, .inr (2, [.ref (f2 0), .ref q3, .ref q4, .ref q5, .int 0, .int 0, .null, .null, .int 0])) :: wr)))))) rfl iX2 tyX2_ok nmX2 (by decide) rfl rfl rfl (tyX2_ok _ (by decide)) wF_X2_25 7 rfl rfl rfl (Nat.le_of_ble_eq_true rfl) rfl dX2_init_36 ?_
  refine L_aload_n X 0 dX2_init_39 rfl rfl ?_
  refine L_iconst X (v := 2) dX2_init_40 rfl ?_
  refine L_newa X (atype := .int) (ty := .int) (t := 0) (N := 2) (a0 := (2, .inl (fun _ => 0))) rfl wA_144 rfl (fun _ => rfl) (by decide) rfl (Nat.le_of_ble_eq_true rfl) (Nat.le_of_ble_eq_true rfl) (Nat.le_of_ble_eq_true rfl) dX2_init_41 (fun q6 => ?_)
  refine L_putF X hini (C := RX2) (Tf := TX2) (N := 9) (c := 2) (k := 6) (T' := ((q6, .inl ((gκ g).2.1 1, 2, .inl (fun _ => 0))) :: ((q5, .inl ((gκ g).2.1 1, 60, .inl (fun _ => 0))) :: ((q4, .inl ((gκ g).2.1 1, 60, .inl (fun _ => 0))) :: ((q3, .inl ((gκ g).2.1 1, 60, .inl (fun _ => 0))) :: (kL (gκ g) f2 ++ ((h, .inr (2, [.ref (f2 0), .ref q3, .ref q4, .ref q5, .int 0, .int 0, .ref q6, .null, .int 0])) :: wr))))))) rfl iX2 tyX2_ok nmX2 (by decide) rfl rfl rfl (tyX2_ok _ (by decide)) wF_X2_28 8 rfl rfl rfl (Nat.le_of_ble_eq_true rfl) rfl dX2_init_43 ?_
  refine L_aload_n X 0 dX2_init_46 rfl rfl ?_
  refine L_iconst X (v := 2) dX2_init_47 rfl ?_
  refine L_newa X (atype := .int) (ty := .int) (t := 0) (N := 2) (a0 := (2, .inl (fun _ => 0))) rfl wA_144 rfl (fun _ => rfl) (by decide) rfl (Nat.le_of_ble_eq_true rfl) (Nat.le_of_ble_eq_true rfl) (Nat.le_of_ble_eq_true rfl) dX2_init_48 (fun q7 => ?_)
  refine L_putF X hini (C := RX2) (Tf := TX2) (N := 9) (c := 2) (k := 7) (T' := ((q7, .inl ((gκ g).2.1 1, 2, .inl (fun _ => 0))) :: ((q6, .inl ((gκ g).2.1 1, 2, .inl (fun _ => 0))) :: ((q5, .inl ((gκ g).2.1 1, 60, .inl (fun _ => 0))) :: ((q4, .inl ((gκ g).2.1 1, 60, .inl (fun _ => 0))) :: ((q3, .inl ((gκ g).2.1 1, 60, .inl (fun _ => 0))) :: (kL (gκ g) f2 ++ ((h, .inr (2, [.ref (f2 0), .ref q3, .ref q4, .ref q5, .int 0, .int 0, .ref q6, .ref q7, .int 0])) :: wr)))))))) rfl iX2 tyX2_ok nmX2 (by decide) rfl rfl rfl (tyX2_ok _ (by decide)) wF_X2_31 9 rfl rfl rfl (Nat.le_of_ble_eq_true rfl) rfl dX2_init_50 ?_
  exact hfin _ _ _ dX2_init_53 ⟨(fun j => match j with | 0 => h | 1 => q3 | 2 => q4 | 3 => q5 | 4 => q6 | 5 => q7 | j + 6 => f2 j), rfl, rfl⟩
theorem cn_clr (l : Launch) (κ : KX) (h qc qb : Nat) (wr : va_W) : CtN l κ yX5_clear cX5_clear 1 1 20 0 0 [.ref h] ((h, .inr (5, [.ref qb, .ref qc, .int 0, .int 0, .int 0, .int 0, .int 0, .int 0, .int 0, .int 0, .int 0])) :: (qc, .inl (κ.2.1 1, 4, .inl (fun _ => 0))) :: wr) (fun T => T = (h, .inr (5, [.ref qb, .ref qc, .int 0, .int 3, .int 99, .int 0, .int 1, .int 0, .int 0, .int 0, .int 0])) :: (qc, .inl (κ.2.1 1, 4, .inl (upd (upd (upd (upd (fun _ => 0) 0 1) 1 5) 2 3) 3 9))) :: wr) := by
  refine CtN_of RX5 rfl (by decide) (Nat.le_of_ble_eq_true rfl) (fun g hgl hgκ X _ hfin => ?_)
  subst hgl hgκ
  refine L_aload_n X 0 dX5_clear_0 rfl rfl ?_
  refine L_iconst X (v := 0) dX5_clear_1 rfl ?_
  refine L_put X (C := RX5) (Tf := TX5) (N := 11) (c := 5) (k := 2) (T' := ((h, .inr (5, [.ref qb, .ref qc, .int 0, .int 0, .int 0, .int 0, .int 0, .int 0, .int 0, .int 0, .int 0])) :: ((qc, .inl ((gκ g).2.1 1, 4, .inl (fun _ => 0))) :: wr))) rfl iX5 tyX5_ok nmX5 (by decide) rfl rfl (tyX5_ok _ (by decide)) wF_X5_25 0 rfl rfl rfl (Nat.le_of_ble_eq_true rfl) rfl dX5_clear_2 ?_
  refine L_aload_n X 0 dX5_clear_5 rfl rfl ?_
  refine L_get X (C := RX5) (Tf := TX5) (N := 11) (c := 5) (k := 1) rfl iX5 (by decide) rfl wF_X5_9 0 rfl rfl dX5_clear_6 ?_
  refine L_iconst X (v := 0) dX5_clear_9 rfl ?_
  refine L_iconst X (v := 1) dX5_clear_10 rfl ?_
  refine L_iast X (n := 4) (T' := ((h, .inr (5, [.ref qb, .ref qc, .int 0, .int 0, .int 0, .int 0, .int 0, .int 0, .int 0, .int 0, .int 0])) :: ((qc, .inl ((gκ g).2.1 1, 4, .inl (upd (fun _ => 0) 0 1))) :: wr))) 1 rfl rfl rfl dX5_clear_11 ?_
  refine L_aload_n X 0 dX5_clear_12 rfl rfl ?_
  refine L_get X (C := RX5) (Tf := TX5) (N := 11) (c := 5) (k := 1) rfl iX5 (by decide) rfl wF_X5_9 0 rfl rfl dX5_clear_13 ?_
  refine L_iconst X (v := 1) dX5_clear_16 rfl ?_
  refine L_iconst X (v := 5) dX5_clear_17 rfl ?_
  refine L_iast X (n := 4) (T' := ((h, .inr (5, [.ref qb, .ref qc, .int 0, .int 0, .int 0, .int 0, .int 0, .int 0, .int 0, .int 0, .int 0])) :: ((qc, .inl ((gκ g).2.1 1, 4, .inl (upd (upd (fun _ => 0) 0 1) 1 5))) :: wr))) 1 rfl rfl rfl dX5_clear_18 ?_
  refine L_aload_n X 0 dX5_clear_19 rfl rfl ?_
  refine L_get X (C := RX5) (Tf := TX5) (N := 11) (c := 5) (k := 1) rfl iX5 (by decide) rfl wF_X5_9 0 rfl rfl dX5_clear_20 ?_
  refine L_iconst X (v := 2) dX5_clear_23 rfl ?_
  refine L_iconst X (v := 3) dX5_clear_24 rfl ?_
  refine L_iast X (n := 4) (T' := ((h, .inr (5, [.ref qb, .ref qc, .int 0, .int 0, .int 0, .int 0, .int 0, .int 0, .int 0, .int 0, .int 0])) :: ((qc, .inl ((gκ g).2.1 1, 4, .inl (upd (upd (upd (fun _ => 0) 0 1) 1 5) 2 3))) :: wr))) 1 rfl rfl rfl dX5_clear_25 ?_
  refine L_aload_n X 0 dX5_clear_26 rfl rfl ?_
  refine L_get X (C := RX5) (Tf := TX5) (N := 11) (c := 5) (k := 1) rfl iX5 (by decide) rfl wF_X5_9 0 rfl rfl dX5_clear_27 ?_
  refine L_iconst X (v := 3) dX5_clear_30 rfl ?_
  refine L_bipush X (v := 9) dX5_clear_31 rfl ?_
  refine L_iast X (n := 4) (T' := ((h, .inr (5, [.ref qb, .ref qc, .int 0, .int 0, .int 0, .int 0, .int 0, .int 0, .int 0, .int 0, .int 0])) :: ((qc, .inl ((gκ g).2.1 1, 4, .inl (upd (upd (upd (upd (fun _ => 0) 0 1) 1 5) 2 3) 3 9))) :: wr))) 1 rfl rfl rfl dX5_clear_33 ?_
  refine L_aload_n X 0 dX5_clear_34 rfl rfl ?_
  refine L_iconst X (v := 1) dX5_clear_35 rfl ?_
  refine L_put X (C := RX5) (Tf := TX5) (N := 11) (c := 5) (k := 6) (T' := ((h, .inr (5, [.ref qb, .ref qc, .int 0, .int 0, .int 0, .int 0, .int 1, .int 0, .int 0, .int 0, .int 0])) :: ((qc, .inl ((gκ g).2.1 1, 4, .inl (upd (upd (upd (upd (fun _ => 0) 0 1) 1 5) 2 3) 3 9))) :: wr))) rfl iX5 tyX5_ok nmX5 (by decide) rfl rfl (tyX5_ok _ (by decide)) wF_X5_29 0 rfl rfl rfl (Nat.le_of_ble_eq_true rfl) rfl dX5_clear_36 ?_
  refine L_aload_n X 0 dX5_clear_39 rfl rfl ?_
  refine L_iconst X (v := 3) dX5_clear_40 rfl ?_
  refine L_put X (C := RX5) (Tf := TX5) (N := 11) (c := 5) (k := 3) (T' := ((h, .inr (5, [.ref qb, .ref qc, .int 0, .int 3, .int 0, .int 0, .int 1, .int 0, .int 0, .int 0, .int 0])) :: ((qc, .inl ((gκ g).2.1 1, 4, .inl (upd (upd (upd (upd (fun _ => 0) 0 1) 1 5) 2 3) 3 9))) :: wr))) rfl iX5 tyX5_ok nmX5 (by decide) rfl rfl (tyX5_ok _ (by decide)) wF_X5_32 0 rfl rfl rfl (Nat.le_of_ble_eq_true rfl) rfl dX5_clear_41 ?_
  refine L_aload_n X 0 dX5_clear_44 rfl rfl ?_
  refine L_bipush X (v := 99) dX5_clear_45 rfl ?_
  refine L_put X (C := RX5) (Tf := TX5) (N := 11) (c := 5) (k := 4) (T' := ((h, .inr (5, [.ref qb, .ref qc, .int 0, .int 3, .int 99, .int 0, .int 1, .int 0, .int 0, .int 0, .int 0])) :: ((qc, .inl ((gκ g).2.1 1, 4, .inl (upd (upd (upd (upd (fun _ => 0) 0 1) 1 5) 2 3) 3 9))) :: wr))) rfl iX5 tyX5_ok nmX5 (by decide) rfl rfl (tyX5_ok _ (by decide)) wF_X5_35 0 rfl rfl rfl (Nat.le_of_ble_eq_true rfl) rfl dX5_clear_47 ?_
  refine L_aload_n X 0 dX5_clear_50 rfl rfl ?_
  refine L_iconst X (v := 0) dX5_clear_51 rfl ?_
  refine L_put X (C := RX5) (Tf := TX5) (N := 11) (c := 5) (k := 5) (T' := ((h, .inr (5, [.ref qb, .ref qc, .int 0, .int 3, .int 99, .int 0, .int 1, .int 0, .int 0, .int 0, .int 0])) :: ((qc, .inl ((gκ g).2.1 1, 4, .inl (upd (upd (upd (upd (fun _ => 0) 0 1) 1 5) 2 3) 3 9))) :: wr))) rfl iX5 tyX5_ok nmX5 (by decide) rfl rfl (tyX5_ok _ (by decide)) wF_X5_38 0 rfl rfl rfl (Nat.le_of_ble_eq_true rfl) rfl dX5_clear_52 ?_
  refine L_aload_n X 0 dX5_clear_55 rfl rfl ?_
  refine L_iconst X (v := 0) dX5_clear_56 rfl ?_
  refine L_put X (C := RX5) (Tf := TX5) (N := 11) (c := 5) (k := 7) (T' := ((h, .inr (5, [.ref qb, .ref qc, .int 0, .int 3, .int 99, .int 0, .int 1, .int 0, .int 0, .int 0, .int 0])) :: ((qc, .inl ((gκ g).2.1 1, 4, .inl (upd (upd (upd (upd (fun _ => 0) 0 1) 1 5) 2 3) 3 9))) :: wr))) rfl iX5 tyX5_ok nmX5 (by decide) rfl rfl (tyX5_ok _ (by decide)) wF_X5_41 0 rfl rfl rfl (Nat.le_of_ble_eq_true rfl) rfl dX5_clear_57 ?_
  refine L_aload_n X 0 dX5_clear_60 rfl rfl ?_
  refine L_iconst X (v := 0) dX5_clear_61 rfl ?_
  refine L_put X (C := RX5) (Tf := TX5) (N := 11) (c := 5) (k := 8) (T' := ((h, .inr (5, [.ref qb, .ref qc, .int 0, .int 3, .int 99, .int 0, .int 1, .int 0, .int 0, .int 0, .int 0])) :: ((qc, .inl ((gκ g).2.1 1, 4, .inl (upd (upd (upd (upd (fun _ => 0) 0 1) 1 5) 2 3) 3 9))) :: wr))) rfl iX5 tyX5_ok nmX5 (by decide) rfl rfl (tyX5_ok _ (by decide)) wF_X5_44 0 rfl rfl rfl (Nat.le_of_ble_eq_true rfl) rfl dX5_clear_62 ?_
  refine L_aload_n X 0 dX5_clear_65 rfl rfl ?_
  refine L_iconst X (v := 0) dX5_clear_66 rfl ?_
  refine L_put X (C := RX5) (Tf := TX5) (N := 11) (c := 5) (k := 9) (T' := ((h, .inr (5, [.ref qb, .ref qc, .int 0, .int 3, .int 99, .int 0, .int 1, .int 0, .int 0, .int 0, .int 0])) :: ((qc, .inl ((gκ g).2.1 1, 4, .inl (upd (upd (upd (upd (fun _ => 0) 0 1) 1 5) 2 3) 3 9))) :: wr))) rfl iX5 tyX5_ok nmX5 (by decide) rfl rfl (tyX5_ok _ (by decide)) wF_X5_47 0 rfl rfl rfl (Nat.le_of_ble_eq_true rfl) rfl dX5_clear_67 ?_
  refine L_aload_n X 0 dX5_clear_70 rfl rfl ?_
  refine L_iconst X (v := 0) dX5_clear_71 rfl ?_
  refine L_put X (C := RX5) (Tf := TX5) (N := 11) (c := 5) (k := 10) (T' := ((h, .inr (5, [.ref qb, .ref qc, .int 0, .int 3, .int 99, .int 0, .int 1, .int 0, .int 0, .int 0, .int 0])) :: ((qc, .inl ((gκ g).2.1 1, 4, .inl (upd (upd (upd (upd (fun _ => 0) 0 1) 1 5) 2 3) 3 9))) :: wr))) rfl iX5 tyX5_ok nmX5 (by decide) rfl rfl (tyX5_ok _ (by decide)) wF_X5_50 0 rfl rfl rfl (Nat.le_of_ble_eq_true rfl) rfl dX5_clear_72 ?_
  exact hfin _ _ _ dX5_clear_75 rfl
def wLr (κ : KX) (F : Nat → Nat → Nat) : va_W := [(F 0 0, .inr (5, [.ref (F 0 2), .ref (F 0 1), .int 0, .int 3, .int 99, .int 0, .int 1, .int 0, .int 0, .int 0, .int 0])), (F 0 1, .inl (κ.2.1 1, 4, .inl (upd (upd (upd (upd (fun _ => 0) 0 1) 1 5) 2 3) 3 9))), (F 0 2, .inl (κ.2.1 4, 8, .inr (.inr (.inr (.inr (fun k => some (F (k + 1) 0)))))))] ++ (bL κ (F 8) ++ (bL κ (F 7) ++ (bL κ (F 6) ++ (bL κ (F 5) ++ (bL κ (F 4) ++ (bL κ (F 3) ++ (bL κ (F 2) ++ (bL κ (F 1)))))))))
theorem cal_X5_init : Cal yX5_init cX5_init 2 none 0 := ⟨wC_X5_init, w0_X5, by decide +kernel⟩
theorem cn_X5 (l : Launch) (κ : KX) (h : Nat) (wr : va_W) : CtN l κ yX5_init cX5_init 2 4 100 42 380 [.ref h] ((h, .inr (5, fzX5)) :: wr) (fun T => ∃ f, f 0 0 = h ∧ T = wLr κ f ++ wr) := by
  refine CtN_of RX5 rfl (by decide) (Nat.le_of_ble_eq_true rfl) (fun g hgl hgκ X hini hfin => ?_)
  subst hgl hgκ
  refine L_aload_n X 0 dX5_init_0 rfl rfl ?_
  refine L_obj X wM_X5_3 wI_obj wC_obj ⟨(Nat.le_of_ble_eq_true rfl), (Nat.le_of_ble_eq_true rfl)⟩ dX5_init_1 ?_
  refine L_aload_n X 0 dX5_init_4 rfl rfl ?_
  refine L_iconst X (v := 4) dX5_init_5 rfl ?_
  refine L_newa X (atype := .int) (ty := .int) (t := 0) (N := 4) (a0 := (4, .inl (fun _ => 0))) rfl wA_144 rfl (fun _ => rfl) (by decide) rfl (Nat.le_of_ble_eq_true rfl) (Nat.le_of_ble_eq_true rfl) (Nat.le_of_ble_eq_true rfl) dX5_init_6 (fun q1 => ?_)
  refine L_putF X hini (C := RX5) (Tf := TX5) (N := 11) (c := 5) (k := 1) (T' := ((q1, .inl ((gκ g).2.1 1, 4, .inl (fun _ => 0))) :: ((h, .inr (5, [.null, .ref q1, .int 0, .int 0, .int 0, .int 0, .int 0, .int 0, .int 0, .int 0, .int 0])) :: wr))) rfl iX5 tyX5_ok nmX5 (by decide) rfl rfl rfl (tyX5_ok _ (by decide)) wF_X5_9 1 rfl rfl rfl (Nat.le_of_ble_eq_true rfl) rfl dX5_init_8 ?_
  refine L_aload_n X 0 dX5_init_11 rfl rfl ?_
  refine L_bipush X (v := 8) dX5_init_12 rfl ?_
  refine L_newq X (C := RX0) (t := 3) (N := 8) wCl_X5_15 X.2.2.2.2.2.2.1.2.2.1 rfl (by decide) rfl (Nat.le_of_ble_eq_true rfl) (Nat.le_of_ble_eq_true rfl) (Nat.le_of_ble_eq_true rfl) dX5_init_14 (fun q2 => ?_)
  refine L_putF X hini (C := RX5) (Tf := TX5) (N := 11) (c := 5) (k := 0) (T' := ((q2, .inl ((gκ g).2.1 4, 8, .inr (.inr (.inr (.inr (fun _ => none)))))) :: ((q1, .inl ((gκ g).2.1 1, 4, .inl (fun _ => 0))) :: ((h, .inr (5, [.ref q2, .ref q1, .int 0, .int 0, .int 0, .int 0, .int 0, .int 0, .int 0, .int 0, .int 0])) :: wr)))) rfl iX5 tyX5_ok nmX5 (by decide) rfl rfl rfl (tyX5_ok _ (by decide)) wF_X5_17 2 rfl rfl rfl (Nat.le_of_ble_eq_true rfl) rfl dX5_init_17 ?_
  refine L_iconst X (v := 0) dX5_init_20 rfl ?_
  refine L_istore_n X dX5_init_21 rfl (by decide) rfl ?_
  refine L_iload_n X 0 dX5_init_22 rfl rfl ?_
  refine L_bipush X (v := 8) dX5_init_23 rfl ?_
  refine L_icmp_ge X (tgt := 47) dX5_init_25 rfl (fun hn => absurd hn (by decide)) (fun _ => ?_)
  refine L_aload_n X 1 dX5_init_28 rfl rfl ?_
  refine L_get X (C := RX5) (Tf := TX5) (N := 11) (c := 5) (k := 0) rfl iX5 (by decide) rfl wF_X5_17 2 rfl rfl dX5_init_29 ?_
  refine L_iload_n X 0 dX5_init_32 rfl rfl ?_
  refine L_new X (C := RX0) (Tf := TX0) (N := 18) (ci := 0) (ty0 := tyX0) (fs := fzX0) rfl iX0 tyX0_ok wCl_X5_15 wN_X0 w0_X0 hzX0 (Nat.le_of_ble_eq_true rfl) (Nat.le_of_ble_eq_true rfl) dX5_init_33 (fun q3 => ?_)
  refine L_dup X dX5_init_36 rfl ?_
  refine L_initN X (T := _) (cn_X0 _ _ q3 _) cal_X0_init nM_X5_21 rfl wI_X0_init ⟨(Nat.le_of_ble_eq_true rfl), (Nat.le_of_ble_eq_true rfl)⟩ rfl rfl (Nat.le_of_ble_eq_true rfl) ⟨(Nat.le_of_ble_eq_true rfl), (Nat.le_of_ble_eq_true rfl)⟩ dX5_init_37 (fun T1 hT1 => ?_)
  obtain ⟨f4, rfl, rfl⟩ := hT1
  refine L_aast X (t := 3) (r := (RX0, TX0, 18)) (T' := (bL (gκ g) f4 ++ ((q2, .inl ((gκ g).2.1 4, 8, .inr (.inr (.inr (.inr (va_up (fun _ => none) 0 (some (f4 0)))))))) :: ((q1, .inl ((gκ g).2.1 1, 4, .inl (fun _ => 0))) :: ((h, .inr (5, [.ref q2, .ref q1, .int 0, .int 0, .int 0, .int 0, .int 0, .int 0, .int 0, .int 0, .int 0])) :: wr))))) 5 0 rfl rfl rfl rfl rfl rfl dX5_init_40 ?_
  refine L_perm (T' := ((q2, .inl ((gκ g).2.1 4, 8, .inr (.inr (.inr (.inr (va_up (fun _ => none) 0 (some (f4 0)))))))) :: ((q1, .inl ((gκ g).2.1 1, 4, .inl (fun _ => 0))) :: ((h, .inr (5, [.ref q2, .ref q1, .int 0, .int 0, .int 0, .int 0, .int 0, .int 0, .int 0, .int 0, .int 0])) :: (bL (gκ g) f4 ++ wr))))) (pm_mid (bL (gκ g) f4) [(q2, .inl ((gκ g).2.1 4, 8, .inr (.inr (.inr (.inr (va_up (fun _ => none) 0 (some (f4 0)))))))), (q1, .inl ((gκ g).2.1 1, 4, .inl (fun _ => 0))), (h, .inr (5, [.ref q2, .ref q1, .int 0, .int 0, .int 0, .int 0, .int 0, .int 0, .int 0, .int 0, .int 0]))] wr) ?_
  refine L_iinc X (v := 1) 0 dX5_init_41 rfl rfl (by decide) rfl ?_
  refine L_goto X (tgt := 22) dX5_init_44 rfl ?_
  refine L_iload_n X 0 dX5_init_22 rfl rfl ?_
  refine L_bipush X (v := 8) dX5_init_23 rfl ?_
  refine L_icmp_ge X (tgt := 47) dX5_init_25 rfl (fun hn => absurd hn (by decide)) (fun _ => ?_)
  refine L_aload_n X 1 dX5_init_28 rfl rfl ?_
  refine L_get X (C := RX5) (Tf := TX5) (N := 11) (c := 5) (k := 0) rfl iX5 (by decide) rfl wF_X5_17 2 rfl rfl dX5_init_29 ?_
  refine L_iload_n X 0 dX5_init_32 rfl rfl ?_
  refine L_new X (C := RX0) (Tf := TX0) (N := 18) (ci := 0) (ty0 := tyX0) (fs := fzX0) rfl iX0 tyX0_ok wCl_X5_15 wN_X0 w0_X0 hzX0 (Nat.le_of_ble_eq_true rfl) (Nat.le_of_ble_eq_true rfl) dX5_init_33 (fun q5 => ?_)
  refine L_dup X dX5_init_36 rfl ?_
  refine L_initN X (T := _) (cn_X0 _ _ q5 _) cal_X0_init nM_X5_21 rfl wI_X0_init ⟨(Nat.le_of_ble_eq_true rfl), (Nat.le_of_ble_eq_true rfl)⟩ rfl rfl (Nat.le_of_ble_eq_true rfl) ⟨(Nat.le_of_ble_eq_true rfl), (Nat.le_of_ble_eq_true rfl)⟩ dX5_init_37 (fun T1 hT1 => ?_)
  obtain ⟨f6, rfl, rfl⟩ := hT1
  refine L_aast X (t := 3) (r := (RX0, TX0, 18)) (T' := (bL (gκ g) f6 ++ ((q2, .inl ((gκ g).2.1 4, 8, .inr (.inr (.inr (.inr (va_up (va_up (fun _ => none) 0 (some (f4 0))) 1 (some (f6 0)))))))) :: ((q1, .inl ((gκ g).2.1 1, 4, .inl (fun _ => 0))) :: ((h, .inr (5, [.ref q2, .ref q1, .int 0, .int 0, .int 0, .int 0, .int 0, .int 0, .int 0, .int 0, .int 0])) :: (bL (gκ g) f4 ++ wr)))))) 5 0 rfl rfl rfl rfl rfl rfl dX5_init_40 ?_
  refine L_perm (T' := ((q2, .inl ((gκ g).2.1 4, 8, .inr (.inr (.inr (.inr (va_up (va_up (fun _ => none) 0 (some (f4 0))) 1 (some (f6 0)))))))) :: ((q1, .inl ((gκ g).2.1 1, 4, .inl (fun _ => 0))) :: ((h, .inr (5, [.ref q2, .ref q1, .int 0, .int 0, .int 0, .int 0, .int 0, .int 0, .int 0, .int 0, .int 0])) :: (bL (gκ g) f6 ++ (bL (gκ g) f4 ++ wr)))))) (pm_mid (bL (gκ g) f6) [(q2, .inl ((gκ g).2.1 4, 8, .inr (.inr (.inr (.inr (va_up (va_up (fun _ => none) 0 (some (f4 0))) 1 (some (f6 0)))))))), (q1, .inl ((gκ g).2.1 1, 4, .inl (fun _ => 0))), (h, .inr (5, [.ref q2, .ref q1, .int 0, .int 0, .int 0, .int 0, .int 0, .int 0, .int 0, .int 0, .int 0]))] (bL (gκ g) f4 ++ wr)) ?_
  refine L_iinc X (v := 2) 0 dX5_init_41 rfl rfl (by decide) rfl ?_
  refine L_goto X (tgt := 22) dX5_init_44 rfl ?_
  refine L_iload_n X 0 dX5_init_22 rfl rfl ?_
  refine L_bipush X (v := 8) dX5_init_23 rfl ?_
  refine L_icmp_ge X (tgt := 47) dX5_init_25 rfl (fun hn => absurd hn (by decide)) (fun _ => ?_)
  refine L_aload_n X 1 dX5_init_28 rfl rfl ?_
  refine L_get X (C := RX5) (Tf := TX5) (N := 11) (c := 5) (k := 0) rfl iX5 (by decide) rfl wF_X5_17 2 rfl rfl dX5_init_29 ?_
  refine L_iload_n X 0 dX5_init_32 rfl rfl ?_
  refine L_new X (C := RX0) (Tf := TX0) (N := 18) (ci := 0) (ty0 := tyX0) (fs := fzX0) rfl iX0 tyX0_ok wCl_X5_15 wN_X0 w0_X0 hzX0 (Nat.le_of_ble_eq_true rfl) (Nat.le_of_ble_eq_true rfl) dX5_init_33 (fun q7 => ?_)
  refine L_dup X dX5_init_36 rfl ?_
  refine L_initN X (T := _) (cn_X0 _ _ q7 _) cal_X0_init nM_X5_21 rfl wI_X0_init ⟨(Nat.le_of_ble_eq_true rfl), (Nat.le_of_ble_eq_true rfl)⟩ rfl rfl (Nat.le_of_ble_eq_true rfl) ⟨(Nat.le_of_ble_eq_true rfl), (Nat.le_of_ble_eq_true rfl)⟩ dX5_init_37 (fun T1 hT1 => ?_)
  obtain ⟨f8, rfl, rfl⟩ := hT1
  refine L_aast X (t := 3) (r := (RX0, TX0, 18)) (T' := (bL (gκ g) f8 ++ ((q2, .inl ((gκ g).2.1 4, 8, .inr (.inr (.inr (.inr (va_up (va_up (va_up (fun _ => none) 0 (some (f4 0))) 1 (some (f6 0))) 2 (some (f8 0)))))))) :: ((q1, .inl ((gκ g).2.1 1, 4, .inl (fun _ => 0))) :: ((h, .inr (5, [.ref q2, .ref q1, .int 0, .int 0, .int 0, .int 0, .int 0, .int 0, .int 0, .int 0, .int 0])) :: (bL (gκ g) f6 ++ (bL (gκ g) f4 ++ wr))))))) 5 0 rfl rfl rfl rfl rfl rfl dX5_init_40 ?_
  refine L_perm (T' := ((q2, .inl ((gκ g).2.1 4, 8, .inr (.inr (.inr (.inr (va_up (va_up (va_up (fun _ => none) 0 (some (f4 0))) 1 (some (f6 0))) 2 (some (f8 0)))))))) :: ((q1, .inl ((gκ g).2.1 1, 4, .inl (fun _ => 0))) :: ((h, .inr (5, [.ref q2, .ref q1, .int 0, .int 0, .int 0, .int 0, .int 0, .int 0, .int 0, .int 0, .int 0])) :: (bL (gκ g) f8 ++ (bL (gκ g) f6 ++ (bL (gκ g) f4 ++ wr))))))) (pm_mid (bL (gκ g) f8) [(q2, .inl ((gκ g).2.1 4, 8, .inr (.inr (.inr (.inr (va_up (va_up (va_up (fun _ => none) 0 (some (f4 0))) 1 (some (f6 0))) 2 (some (f8 0)))))))), (q1, .inl ((gκ g).2.1 1, 4, .inl (fun _ => 0))), (h, .inr (5, [.ref q2, .ref q1, .int 0, .int 0, .int 0, .int 0, .int 0, .int 0, .int 0, .int 0, .int 0]))] (bL (gκ g) f6 ++ (bL (gκ g) f4 ++ wr))) ?_
  refine L_iinc X (v := 3) 0 dX5_init_41 rfl rfl (by decide) rfl ?_
  refine L_goto X (tgt := 22) dX5_init_44 rfl ?_
  refine L_iload_n X 0 dX5_init_22 rfl rfl ?_
  refine L_bipush X (v := 8) dX5_init_23 rfl ?_
  refine L_icmp_ge X (tgt := 47) dX5_init_25 rfl (fun hn => absurd hn (by decide)) (fun _ => ?_)
  refine L_aload_n X 1 dX5_init_28 rfl rfl ?_
  refine L_get X (C := RX5) (Tf := TX5) (N := 11) (c := 5) (k := 0) rfl iX5 (by decide) rfl wF_X5_17 2 rfl rfl dX5_init_29 ?_
  refine L_iload_n X 0 dX5_init_32 rfl rfl ?_
  refine L_new X (C := RX0) (Tf := TX0) (N := 18) (ci := 0) (ty0 := tyX0) (fs := fzX0) rfl iX0 tyX0_ok wCl_X5_15 wN_X0 w0_X0 hzX0 (Nat.le_of_ble_eq_true rfl) (Nat.le_of_ble_eq_true rfl) dX5_init_33 (fun q9 => ?_)
  refine L_dup X dX5_init_36 rfl ?_
  refine L_initN X (T := _) (cn_X0 _ _ q9 _) cal_X0_init nM_X5_21 rfl wI_X0_init ⟨(Nat.le_of_ble_eq_true rfl), (Nat.le_of_ble_eq_true rfl)⟩ rfl rfl (Nat.le_of_ble_eq_true rfl) ⟨(Nat.le_of_ble_eq_true rfl), (Nat.le_of_ble_eq_true rfl)⟩ dX5_init_37 (fun T1 hT1 => ?_)
  obtain ⟨f10, rfl, rfl⟩ := hT1
  refine L_aast X (t := 3) (r := (RX0, TX0, 18)) (T' := (bL (gκ g) f10 ++ ((q2, .inl ((gκ g).2.1 4, 8, .inr (.inr (.inr (.inr (va_up (va_up (va_up (va_up (fun _ => none) 0 (some (f4 0))) 1 (some (f6 0))) 2 (some (f8 0))) 3 (some (f10 0)))))))) :: ((q1, .inl ((gκ g).2.1 1, 4, .inl (fun _ => 0))) :: ((h, .inr (5, [.ref q2, .ref q1, .int 0, .int 0, .int 0, .int 0, .int 0, .int 0, .int 0, .int 0, .int 0])) :: (bL (gκ g) f8 ++ (bL (gκ g) f6 ++ (bL (gκ g) f4 ++ wr)))))))) 5 0 rfl rfl rfl rfl rfl rfl dX5_init_40 ?_
  refine L_perm (T' := ((q2, .inl ((gκ g).2.1 4, 8, .inr (.inr (.inr (.inr (va_up (va_up (va_up (va_up (fun _ => none) 0 (some (f4 0))) 1 (some (f6 0))) 2 (some (f8 0))) 3 (some (f10 0)))))))) :: ((q1, .inl ((gκ g).2.1 1, 4, .inl (fun _ => 0))) :: ((h, .inr (5, [.ref q2, .ref q1, .int 0, .int 0, .int 0, .int 0, .int 0, .int 0, .int 0, .int 0, .int 0])) :: (bL (gκ g) f10 ++ (bL (gκ g) f8 ++ (bL (gκ g) f6 ++ (bL (gκ g) f4 ++ wr)))))))) (pm_mid (bL (gκ g) f10) [(q2, .inl ((gκ g).2.1 4, 8, .inr (.inr (.inr (.inr (va_up (va_up (va_up (va_up (fun _ => none) 0 (some (f4 0))) 1 (some (f6 0))) 2 (some (f8 0))) 3 (some (f10 0)))))))), (q1, .inl ((gκ g).2.1 1, 4, .inl (fun _ => 0))), (h, .inr (5, [.ref q2, .ref q1, .int 0, .int 0, .int 0, .int 0, .int 0, .int 0, .int 0, .int 0, .int 0]))] (bL (gκ g) f8 ++ (bL (gκ g) f6 ++ (bL (gκ g) f4 ++ wr)))) ?_
  refine L_iinc X (v := 4) 0 dX5_init_41 rfl rfl (by decide) rfl ?_
  refine L_goto X (tgt := 22) dX5_init_44 rfl ?_
  refine L_iload_n X 0 dX5_init_22 rfl rfl ?_
  refine L_bipush X (v := 8) dX5_init_23 rfl ?_
  refine L_icmp_ge X (tgt := 47) dX5_init_25 rfl (fun hn => absurd hn (by decide)) (fun _ => ?_)
  refine L_aload_n X 1 dX5_init_28 rfl rfl ?_
  refine L_get X (C := RX5) (Tf := TX5) (N := 11) (c := 5) (k := 0) rfl iX5 (by decide) rfl wF_X5_17 2 rfl rfl dX5_init_29 ?_
  refine L_iload_n X 0 dX5_init_32 rfl rfl ?_
  refine L_new X (C := RX0) (Tf := TX0) (N := 18) (ci := 0) (ty0 := tyX0) (fs := fzX0) rfl iX0 tyX0_ok wCl_X5_15 wN_X0 w0_X0 hzX0 (Nat.le_of_ble_eq_true rfl) (Nat.le_of_ble_eq_true rfl) dX5_init_33 (fun q11 => ?_)
  refine L_dup X dX5_init_36 rfl ?_
  refine L_initN X (T := _) (cn_X0 _ _ q11 _) cal_X0_init nM_X5_21 rfl wI_X0_init ⟨(Nat.le_of_ble_eq_true rfl), (Nat.le_of_ble_eq_true rfl)⟩ rfl rfl (Nat.le_of_ble_eq_true rfl) ⟨(Nat.le_of_ble_eq_true rfl), (Nat.le_of_ble_eq_true rfl)⟩ dX5_init_37 (fun T1 hT1 => ?_)
  obtain ⟨f12, rfl, rfl⟩ := hT1
  refine L_aast X (t := 3) (r := (RX0, TX0, 18)) (T' := (bL (gκ g) f12 ++ ((q2, .inl ((gκ g).2.1 4, 8, .inr (.inr (.inr (.inr (va_up (va_up (va_up (va_up (va_up (fun _ => none) 0 (some (f4 0))) 1 (some (f6 0))) 2 (some (f8 0))) 3 (some (f10 0))) 4 (some (f12 0)))))))) :: ((q1, .inl ((gκ g).2.1 1, 4, .inl (fun _ => 0))) :: ((h, .inr (5, [.ref q2, .ref q1, .int 0, .int 0, .int 0, .int 0, .int 0, .int 0, .int 0, .int 0, .int 0])) :: (bL (gκ g) f10 ++ (bL (gκ g) f8 ++ (bL (gκ g) f6 ++ (bL (gκ g) f4 ++ wr))))))))) 5 0 rfl rfl rfl rfl rfl rfl dX5_init_40 ?_
  refine L_perm (T' := ((q2, .inl ((gκ g).2.1 4, 8, .inr (.inr (.inr (.inr (va_up (va_up (va_up (va_up (va_up (fun _ => none) 0 (some (f4 0))) 1 (some (f6 0))) 2 (some (f8 0))) 3 (some (f10 0))) 4 (some (f12 0)))))))) :: ((q1, .inl ((gκ g).2.1 1, 4, .inl (fun _ => 0))) :: ((h, .inr (5, [.ref q2, .ref q1, .int 0, .int 0, .int 0, .int 0, .int 0, .int 0, .int 0, .int 0, .int 0])) :: (bL (gκ g) f12 ++ (bL (gκ g) f10 ++ (bL (gκ g) f8 ++ (bL (gκ g) f6 ++ (bL (gκ g) f4 ++ wr))))))))) (pm_mid (bL (gκ g) f12) [(q2, .inl ((gκ g).2.1 4, 8, .inr (.inr (.inr (.inr (va_up (va_up (va_up (va_up (va_up (fun _ => none) 0 (some (f4 0))) 1 (some (f6 0))) 2 (some (f8 0))) 3 (some (f10 0))) 4 (some (f12 0)))))))), (q1, .inl ((gκ g).2.1 1, 4, .inl (fun _ => 0))), (h, .inr (5, [.ref q2, .ref q1, .int 0, .int 0, .int 0, .int 0, .int 0, .int 0, .int 0, .int 0, .int 0]))] (bL (gκ g) f10 ++ (bL (gκ g) f8 ++ (bL (gκ g) f6 ++ (bL (gκ g) f4 ++ wr))))) ?_
  refine L_iinc X (v := 5) 0 dX5_init_41 rfl rfl (by decide) rfl ?_
  refine L_goto X (tgt := 22) dX5_init_44 rfl ?_
  refine L_iload_n X 0 dX5_init_22 rfl rfl ?_
  refine L_bipush X (v := 8) dX5_init_23 rfl ?_
  refine L_icmp_ge X (tgt := 47) dX5_init_25 rfl (fun hn => absurd hn (by decide)) (fun _ => ?_)
  refine L_aload_n X 1 dX5_init_28 rfl rfl ?_
  refine L_get X (C := RX5) (Tf := TX5) (N := 11) (c := 5) (k := 0) rfl iX5 (by decide) rfl wF_X5_17 2 rfl rfl dX5_init_29 ?_
  refine L_iload_n X 0 dX5_init_32 rfl rfl ?_
  refine L_new X (C := RX0) (Tf := TX0) (N := 18) (ci := 0) (ty0 := tyX0) (fs := fzX0) rfl iX0 tyX0_ok wCl_X5_15 wN_X0 w0_X0 hzX0 (Nat.le_of_ble_eq_true rfl) (Nat.le_of_ble_eq_true rfl) dX5_init_33 (fun q13 => ?_)
  refine L_dup X dX5_init_36 rfl ?_
  refine L_initN X (T := _) (cn_X0 _ _ q13 _) cal_X0_init nM_X5_21 rfl wI_X0_init ⟨(Nat.le_of_ble_eq_true rfl), (Nat.le_of_ble_eq_true rfl)⟩ rfl rfl (Nat.le_of_ble_eq_true rfl) ⟨(Nat.le_of_ble_eq_true rfl), (Nat.le_of_ble_eq_true rfl)⟩ dX5_init_37 (fun T1 hT1 => ?_)
  obtain ⟨f14, rfl, rfl⟩ := hT1
  refine L_aast X (t := 3) (r := (RX0, TX0, 18)) (T' := (bL (gκ g) f14 ++ ((q2, .inl ((gκ g).2.1 4, 8, .inr (.inr (.inr (.inr (va_up (va_up (va_up (va_up (va_up (va_up (fun _ => none) 0 (some (f4 0))) 1 (some (f6 0))) 2 (some (f8 0))) 3 (some (f10 0))) 4 (some (f12 0))) 5 (some (f14 0)))))))) :: ((q1, .inl ((gκ g).2.1 1, 4, .inl (fun _ => 0))) :: ((h, .inr (5, [.ref q2, .ref q1, .int 0, .int 0, .int 0, .int 0, .int 0, .int 0, .int 0, .int 0, .int 0])) :: (bL (gκ g) f12 ++ (bL (gκ g) f10 ++ (bL (gκ g) f8 ++ (bL (gκ g) f6 ++ (bL (gκ g) f4 ++ wr)))))))))) 5 0 rfl rfl rfl rfl rfl rfl dX5_init_40 ?_
  refine L_perm (T' := ((q2, .inl ((gκ g).2.1 4, 8, .inr (.inr (.inr (.inr (va_up (va_up (va_up (va_up (va_up (va_up (fun _ => none) 0 (some (f4 0))) 1 (some (f6 0))) 2 (some (f8 0))) 3 (some (f10 0))) 4 (some (f12 0))) 5 (some (f14 0)))))))) :: ((q1, .inl ((gκ g).2.1 1, 4, .inl (fun _ => 0))) :: ((h, .inr (5, [.ref q2, .ref q1, .int 0, .int 0, .int 0, .int 0, .int 0, .int 0, .int 0, .int 0, .int 0])) :: (bL (gκ g) f14 ++ (bL (gκ g) f12 ++ (bL (gκ g) f10 ++ (bL (gκ g) f8 ++ (bL (gκ g) f6 ++ (bL (gκ g) f4 ++ wr)))))))))) (pm_mid (bL (gκ g) f14) [(q2, .inl ((gκ g).2.1 4, 8, .inr (.inr (.inr (.inr (va_up (va_up (va_up (va_up (va_up (va_up (fun _ => none) 0 (some (f4 0))) 1 (some (f6 0))) 2 (some (f8 0))) 3 (some (f10 0))) 4 (some (f12 0))) 5 (some (f14 0)))))))), (q1, .inl ((gκ g).2.1 1, 4, .inl (fun _ => 0))), (h, .inr (5, [.ref q2, .ref q1, .int 0, .int 0, .int 0, .int 0, .int 0, .int 0, .int 0, .int 0, .int 0]))] (bL (gκ g) f12 ++ (bL (gκ g) f10 ++ (bL (gκ g) f8 ++ (bL (gκ g) f6 ++ (bL (gκ g) f4 ++ wr)))))) ?_
  refine L_iinc X (v := 6) 0 dX5_init_41 rfl rfl (by decide) rfl ?_
  refine L_goto X (tgt := 22) dX5_init_44 rfl ?_
  refine L_iload_n X 0 dX5_init_22 rfl rfl ?_
  refine L_bipush X (v := 8) dX5_init_23 rfl ?_
  refine L_icmp_ge X (tgt := 47) dX5_init_25 rfl (fun hn => absurd hn (by decide)) (fun _ => ?_)
  refine L_aload_n X 1 dX5_init_28 rfl rfl ?_
  refine L_get X (C := RX5) (Tf := TX5) (N := 11) (c := 5) (k := 0) rfl iX5 (by decide) rfl wF_X5_17 2 rfl rfl dX5_init_29 ?_
  refine L_iload_n X 0 dX5_init_32 rfl rfl ?_
  refine L_new X (C := RX0) (Tf := TX0) (N := 18) (ci := 0) (ty0 := tyX0) (fs := fzX0) rfl iX0 tyX0_ok wCl_X5_15 wN_X0 w0_X0 hzX0 (Nat.le_of_ble_eq_true rfl) (Nat.le_of_ble_eq_true rfl) dX5_init_33 (fun q15 => ?_)
  refine L_dup X dX5_init_36 rfl ?_
  refine L_initN X (T := _) (cn_X0 _ _ q15 _) cal_X0_init nM_X5_21 rfl wI_X0_init ⟨(Nat.le_of_ble_eq_true rfl), (Nat.le_of_ble_eq_true rfl)⟩ rfl rfl (Nat.le_of_ble_eq_true rfl) ⟨(Nat.le_of_ble_eq_true rfl), (Nat.le_of_ble_eq_true rfl)⟩ dX5_init_37 (fun T1 hT1 => ?_)
  obtain ⟨f16, rfl, rfl⟩ := hT1
  refine L_aast X (t := 3) (r := (RX0, TX0, 18)) (T' := (bL (gκ g) f16 ++ ((q2, .inl ((gκ g).2.1 4, 8, .inr (.inr (.inr (.inr (va_up (va_up (va_up (va_up (va_up (va_up (va_up (fun _ => none) 0 (some (f4 0))) 1 (some (f6 0))) 2 (some (f8 0))) 3 (some (f10 0))) 4 (some (f12 0))) 5 (some (f14 0))) 6 (some (f16 0)))))))) :: ((q1, .inl ((gκ g).2.1 1, 4, .inl (fun _ => 0))) :: ((h, .inr (5, [.ref q2, .ref q1, .int 0, .int 0, .int 0, .int 0, .int 0, .int 0, .int 0, .int 0, .int 0])) :: (bL (gκ g) f14 ++ (bL (gκ g) f12 ++ (bL (gκ g) f10 ++ (bL (gκ g) f8 ++ (bL (gκ g) f6 ++ (bL (gκ g) f4 ++ wr))))))))))) 5 0 rfl rfl rfl rfl rfl rfl dX5_init_40 ?_
  refine L_perm (T' := ((q2, .inl ((gκ g).2.1 4, 8, .inr (.inr (.inr (.inr (va_up (va_up (va_up (va_up (va_up (va_up (va_up (fun _ => none) 0 (some (f4 0))) 1 (some (f6 0))) 2 (some (f8 0))) 3 (some (f10 0))) 4 (some (f12 0))) 5 (some (f14 0))) 6 (some (f16 0)))))))) :: ((q1, .inl ((gκ g).2.1 1, 4, .inl (fun _ => 0))) :: ((h, .inr (5, [.ref q2, .ref q1, .int 0, .int 0, .int 0, .int 0, .int 0, .int 0, .int 0, .int 0, .int 0])) :: (bL (gκ g) f16 ++ (bL (gκ g) f14 ++ (bL (gκ g) f12 ++ (bL (gκ g) f10 ++ (bL (gκ g) f8 ++ (bL (gκ g) f6 ++ (bL (gκ g) f4 ++ wr))))))))))) (pm_mid (bL (gκ g) f16) [(q2, .inl ((gκ g).2.1 4, 8, .inr (.inr (.inr (.inr (va_up (va_up (va_up (va_up (va_up (va_up (va_up (fun _ => none) 0 (some (f4 0))) 1 (some (f6 0))) 2 (some (f8 0))) 3 (some (f10 0))) 4 (some (f12 0))) 5 (some (f14 0))) 6 (some (f16 0)))))))), (q1, .inl ((gκ g).2.1 1, 4, .inl (fun _ => 0))), (h, .inr (5, [.ref q2, .ref q1, .int 0, .int 0, .int 0, .int 0, .int 0, .int 0, .int 0, .int 0, .int 0]))] (bL (gκ g) f14 ++ (bL (gκ g) f12 ++ (bL (gκ g) f10 ++ (bL (gκ g) f8 ++ (bL (gκ g) f6 ++ (bL (gκ g) f4 ++ wr))))))) ?_
  refine L_iinc X (v := 7) 0 dX5_init_41 rfl rfl (by decide) rfl ?_
  refine L_goto X (tgt := 22) dX5_init_44 rfl ?_
  refine L_iload_n X 0 dX5_init_22 rfl rfl ?_
  refine L_bipush X (v := 8) dX5_init_23 rfl ?_
  refine L_icmp_ge X (tgt := 47) dX5_init_25 rfl (fun hn => absurd hn (by decide)) (fun _ => ?_)
  refine L_aload_n X 1 dX5_init_28 rfl rfl ?_
  refine L_get X (C := RX5) (Tf := TX5) (N := 11) (c := 5) (k := 0) rfl iX5 (by decide) rfl wF_X5_17 2 rfl rfl dX5_init_29 ?_
  refine L_iload_n X 0 dX5_init_32 rfl rfl ?_
  refine L_new X (C := RX0) (Tf := TX0) (N := 18) (ci := 0) (ty0 := tyX0) (fs := fzX0) rfl iX0 tyX0_ok wCl_X5_15 wN_X0 w0_X0 hzX0 (Nat.le_of_ble_eq_true rfl) (Nat.le_of_ble_eq_true rfl) dX5_init_33 (fun q17 => ?_)
  refine L_dup X dX5_init_36 rfl ?_
  refine L_initN X (T := _) (cn_X0 _ _ q17 _) cal_X0_init nM_X5_21 rfl wI_X0_init ⟨(Nat.le_of_ble_eq_true rfl), (Nat.le_of_ble_eq_true rfl)⟩ rfl rfl (Nat.le_of_ble_eq_true rfl) ⟨(Nat.le_of_ble_eq_true rfl), (Nat.le_of_ble_eq_true rfl)⟩ dX5_init_37 (fun T1 hT1 => ?_)
  obtain ⟨f18, rfl, rfl⟩ := hT1
  refine L_aast X (t := 3) (r := (RX0, TX0, 18)) (T' := (bL (gκ g) f18 ++ ((q2, .inl ((gκ g).2.1 4, 8, .inr (.inr (.inr (.inr (va_up (va_up (va_up (va_up (va_up (va_up (va_up (va_up (fun _ => none) 0 (some (f4 0))) 1 (some (f6 0))) 2 (some (f8 0))) 3 (some (f10 0))) 4 (some (f12 0))) 5 (some (f14 0))) 6 (some (f16 0))) 7 (some (f18 0)))))))) :: ((q1, .inl ((gκ g).2.1 1, 4, .inl (fun _ => 0))) :: ((h, .inr (5, [.ref q2, .ref q1, .int 0, .int 0, .int 0, .int 0, .int 0, .int 0, .int 0, .int 0, .int 0])) :: (bL (gκ g) f16 ++ (bL (gκ g) f14 ++ (bL (gκ g) f12 ++ (bL (gκ g) f10 ++ (bL (gκ g) f8 ++ (bL (gκ g) f6 ++ (bL (gκ g) f4 ++ wr)))))))))))) 5 0 rfl rfl rfl rfl rfl rfl dX5_init_40 ?_
  refine L_perm (T' := ((q2, .inl ((gκ g).2.1 4, 8, .inr (.inr (.inr (.inr (va_up (va_up (va_up (va_up (va_up (va_up (va_up (va_up (fun _ => none) 0 (some (f4 0))) 1 (some (f6 0))) 2 (some (f8 0))) 3 (some (f10 0))) 4 (some (f12 0))) 5 (some (f14 0))) 6 (some (f16 0))) 7 (some (f18 0)))))))) :: ((q1, .inl ((gκ g).2.1 1, 4, .inl (fun _ => 0))) :: ((h, .inr (5, [.ref q2, .ref q1, .int 0, .int 0, .int 0, .int 0, .int 0, .int 0, .int 0, .int 0, .int 0])) :: (bL (gκ g) f18 ++ (bL (gκ g) f16 ++ (bL (gκ g) f14 ++ (bL (gκ g) f12 ++ (bL (gκ g) f10 ++ (bL (gκ g) f8 ++ (bL (gκ g) f6 ++ (bL (gκ g) f4 ++ wr)))))))))))) (pm_mid (bL (gκ g) f18) [(q2, .inl ((gκ g).2.1 4, 8, .inr (.inr (.inr (.inr (va_up (va_up (va_up (va_up (va_up (va_up (va_up (va_up (fun _ => none) 0 (some (f4 0))) 1 (some (f6 0))) 2 (some (f8 0))) 3 (some (f10 0))) 4 (some (f12 0))) 5 (some (f14 0))) 6 (some (f16 0))) 7 (some (f18 0)))))))), (q1, .inl ((gκ g).2.1 1, 4, .inl (fun _ => 0))), (h, .inr (5, [.ref q2, .ref q1, .int 0, .int 0, .int 0, .int 0, .int 0, .int 0, .int 0, .int 0, .int 0]))] (bL (gκ g) f16 ++ (bL (gκ g) f14 ++ (bL (gκ g) f12 ++ (bL (gκ g) f10 ++ (bL (gκ g) f8 ++ (bL (gκ g) f6 ++ (bL (gκ g) f4 ++ wr)))))))) ?_
  refine L_iinc X (v := 8) 0 dX5_init_41 rfl rfl (by decide) rfl ?_
  refine L_goto X (tgt := 22) dX5_init_44 rfl ?_
  refine L_iload_n X 0 dX5_init_22 rfl rfl ?_
  refine L_bipush X (v := 8) dX5_init_23 rfl ?_
  refine L_icmp_ge X (tgt := 47) dX5_init_25 rfl (fun _ => ?_) (fun hn => absurd (by decide) hn)
  refine L_aload_n X 1 dX5_init_47 rfl rfl ?_
  refine L_conv (f' := fun k => some (((fun o => match o with | 0 => (fun j => match j with | 0 => h | 1 => q1 | _ => q2) | 1 => f4 | 2 => f6 | 3 => f8 | 4 => f10 | 5 => f12 | 6 => f14 | 7 => f16 | _ => f18) : Nat → Nat → Nat) (k + 1) 0)) (fun k hk => by match k, hk with | 0, _ => rfl | 1, _ => rfl | 2, _ => rfl | 3, _ => rfl | 4, _ => rfl | 5, _ => rfl | 6, _ => rfl | 7, _ => rfl) ?_
  refine L_perm (T' := ([(h, .inr (5, [.ref q2, .ref q1, .int 0, .int 0, .int 0, .int 0, .int 0, .int 0, .int 0, .int 0, .int 0])), (q1, .inl ((gκ g).2.1 1, 4, .inl (fun _ => 0))), (q2, .inl ((gκ g).2.1 4, 8, .inr (.inr (.inr (.inr (fun k => some (((fun o => match o with | 0 => (fun j => match j with | 0 => h | 1 => q1 | _ => q2) | 1 => f4 | 2 => f6 | 3 => f8 | 4 => f10 | 5 => f12 | 6 => f14 | 7 => f16 | _ => f18) : Nat → Nat → Nat) (k + 1) 0)))))))] : va_W) ++ (bL (gκ g) f18 ++ (bL (gκ g) f16 ++ (bL (gκ g) f14 ++ (bL (gκ g) f12 ++ (bL (gκ g) f10 ++ (bL (gκ g) f8 ++ (bL (gκ g) f6 ++ (bL (gκ g) f4 ++ wr))))))))) ((List.reverse_perm ([(h, .inr (5, [.ref q2, .ref q1, .int 0, .int 0, .int 0, .int 0, .int 0, .int 0, .int 0, .int 0, .int 0])), (q1, .inl ((gκ g).2.1 1, 4, .inl (fun _ => 0))), (q2, .inl ((gκ g).2.1 4, 8, .inr (.inr (.inr (.inr (fun k => some (((fun o => match o with | 0 => (fun j => match j with | 0 => h | 1 => q1 | _ => q2) | 1 => f4 | 2 => f6 | 3 => f8 | 4 => f10 | 5 => f12 | 6 => f14 | 7 => f16 | _ => f18) : Nat → Nat → Nat) (k + 1) 0)))))))] : va_W)).append_right (bL (gκ g) f18 ++ (bL (gκ g) f16 ++ (bL (gκ g) f14 ++ (bL (gκ g) f12 ++ (bL (gκ g) f10 ++ (bL (gκ g) f8 ++ (bL (gκ g) f6 ++ (bL (gκ g) f4 ++ wr))))))))) ?_
  refine L_callV X (T := _) (q := (RX5, TX5, 11)) (cn_clr _ _ h q1 q2 _) cal_X5_clear wM_X5_22 wI_X5_clear wS_X5_clear 0 rfl rfl ⟨(Nat.le_of_ble_eq_true rfl), (Nat.le_of_ble_eq_true rfl)⟩ rfl rfl (Nat.le_of_ble_eq_true rfl) ⟨(Nat.le_of_ble_eq_true rfl), (Nat.le_of_ble_eq_true rfl)⟩ dX5_init_48 (fun T1 hT1 => ?_)
  subst hT1
  exact hfin _ _ _ dX5_init_51 ⟨(fun o => match o with | 0 => (fun j => match j with | 0 => h | 1 => q1 | _ => q2) | 1 => f4 | 2 => f6 | 3 => f8 | 4 => f10 | 5 => f12 | 6 => f14 | 7 => f16 | _ => f18), rfl, rfl⟩
