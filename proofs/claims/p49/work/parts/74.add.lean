/-! ArrayList: made, and filled up to ten; Arrays.fill -/
theorem cm_Jxa1e45_init_da8c8 {l : Launch} {κ : KX} {ξ : XI} {T0 : va_W} {q : Nat}  : CtM l κ ξ yJxa1e45_init_da8c8 cJxa1e45_init_da8c8 1 none 1 12 0 0 [.ref q] T0 (fun rv T => rv = none ∧ T = T0) := by
  refine CtM_v RJxa1e45 rfl (by decide +kernel) (Nat.le_of_ble_eq_true rfl) (fun g hgl hgκ X E hini hf => ?_)
  subst hgl; subst hgκ
  refine L_aload_n X 0 dJxa1e45_init_da8c8_0 rfl rfl ?_
  refine L_obj X wM_Jxa1e45_1 wI_obj wC_obj ⟨(Nat.le_of_ble_eq_true rfl), (Nat.le_of_ble_eq_true rfl)⟩ dJxa1e45_init_da8c8_1 ?_
  exact hf _ _ _ dJxa1e45_init_da8c8_4 ⟨rfl, rfl⟩

theorem cm_Jxc12de_init_da8c8 {l : Launch} {κ : KX} {ξ : XI} {T0 : va_W} {q : Nat} {m : Int32} {e c : Value}  : CtM l κ ξ yJxc12de_init_da8c8 cJxc12de_init_da8c8 1 none 2 32 0 0 [.ref q] ((q, .inr (9, [.int m, e, c])) :: T0) (fun rv T => rv = none ∧ T = (q, .inr (9, [.int 0, e, c])) :: T0) := by
  refine CtM_v RJxc12de rfl (by decide +kernel) (Nat.le_of_ble_eq_true rfl) (fun g hgl hgκ X E hini hf => ?_)
  subst hgl; subst hgκ
  refine L_aload_n X 0 dJxc12de_init_da8c8_0 rfl rfl ?_
  refine L_cI X E (As := []) (rest := []) (cm_Jxa1e45_init_da8c8) cal_Jxa1e45_init_da8c8 wM_Jxc12de_1 rfl wI_Jxa1e45_init_da8c8 ⟨⟨(Nat.le_of_ble_eq_true rfl), (Nat.le_of_ble_eq_true rfl)⟩, ⟨by omega, by omega⟩⟩ rfl rfl (Nat.le_of_ble_eq_true rfl) dJxc12de_init_da8c8_1 (fun rv T1 hT => ?_)
  obtain ⟨rfl, rfl⟩ := hT
  refine L_aload_n X 0 dJxc12de_init_da8c8_4 rfl rfl ?_
  refine L_iconst X (v := 0) dJxc12de_init_da8c8_5 rfl ?_
  refine L_put X (C := RJx4a65c) (Tf := TJx4a65c) (N := 3) (c := 9) (k := 0) (T' := ((q, .inr (9, [.int 0, e, c])) :: T0)) rfl iJx4a65c tyJx4a65c_ok nmJx4a65c (by decide) rfl rfl (tyJx4a65c_ok _ (by decide)) wF_Jxc12de_7 0 rfl rfl rfl (Nat.le_of_ble_eq_true rfl) rfl dJxc12de_init_da8c8_6 ?_
  exact hf _ _ _ dJxc12de_init_da8c8_9 ⟨rfl, rfl⟩

theorem cm_Jx4a65c_init_da8c8 {l : Launch} {κ : KX} {ξ : XI} {T0 : va_W} {q : Nat}  : CtM l κ ξ yJx4a65c_init_da8c8 cJx4a65c_init_da8c8 1 none 3 52 0 0 [.ref q] ((q, .inr (9, fzJx4a65c)) :: T0) (fun rv T => rv = none ∧ T = (q, .inr (9, [.int 0, .ref ξ.2.1, .int 0])) :: T0) := by
  refine CtM_v RJx4a65c rfl (by decide +kernel) (Nat.le_of_ble_eq_true rfl) (fun g hgl hgκ X E hini hf => ?_)
  subst hgl; subst hgκ
  refine L_aload_n X 0 dJx4a65c_init_da8c8_0 rfl rfl ?_
  refine L_cI X E (As := []) (rest := []) (cm_Jxc12de_init_da8c8) cal_Jxc12de_init_da8c8 wM_Jx4a65c_1 rfl wI_Jxc12de_init_da8c8 ⟨⟨(Nat.le_of_ble_eq_true rfl), (Nat.le_of_ble_eq_true rfl)⟩, ⟨by omega, by omega⟩⟩ rfl rfl (Nat.le_of_ble_eq_true rfl) dJx4a65c_init_da8c8_1 (fun rv T1 hT => ?_)
  obtain ⟨rfl, rfl⟩ := hT
  refine L_aload_n X 0 dJx4a65c_init_da8c8_4 rfl rfl ?_
  refine L_gets X E.2.2.1.1 rfl wF_Jx4a65c_39 dJx4a65c_init_da8c8_5 ?_
  refine L_put X (C := RJx4a65c) (Tf := TJx4a65c) (N := 3) (c := 9) (k := 1) (T' := ((q, .inr (9, [.int 0, .ref ξ.2.1, .int 0])) :: T0)) rfl iJx4a65c tyJx4a65c_ok nmJx4a65c (by decide) rfl rfl (tyJx4a65c_ok _ (by decide)) wF_Jx4a65c_9 0 rfl rfl rfl (Nat.le_of_ble_eq_true rfl) rfl dJx4a65c_init_da8c8_8 ?_
  exact hf _ _ _ dJx4a65c_init_da8c8_11 ⟨rfl, rfl⟩

theorem cm_Jx4a65c_grow_92f84 {l : Launch} {κ : KX} {ξ : XI} {T0 : va_W} {q : Nat} {m : Int32}  : CtM l κ ξ yJx4a65c_grow_92f84 cJx4a65c_grow_92f84 4 (some (.array (.object "java/lang/Object"))) 1 21 1 10 [.ref q, .int 1] ((q, .inr (9, [.int m, .ref ξ.2.1, .int 0])) :: T0) (fun rv T => ∃ z : Nat, rv = some (.ref z) ∧ T = (z, .inl (κ.2.1 8, 10, .inr (.inr (.inr (.inr (fun _ => none)))))) :: (q, .inr (9, [.int m, .ref z, .int 0])) :: T0) := by
  refine CtM_a RJx4a65c rfl (by decide +kernel) rfl (Nat.le_of_ble_eq_true rfl) (fun g hgl hgκ X E hf => ?_)
  subst hgl; subst hgκ
  refine L_aload_n X 0 dJx4a65c_grow_92f84_0 rfl rfl ?_
  refine L_get X (C := RJx4a65c) (Tf := TJx4a65c) (N := 3) (c := 9) (k := 1) rfl iJx4a65c (by decide) rfl wF_Jx4a65c_9 0 rfl rfl dJx4a65c_grow_92f84_1 ?_
  refine L_tlen X E.2.2.1.2 rfl dJx4a65c_grow_92f84_4 ?_
  refine L_istore_n X dJx4a65c_grow_92f84_5 rfl (by decide) rfl ?_
  refine L_iload_n X 0 dJx4a65c_grow_92f84_6 rfl rfl ?_
  refine L_if_gt X (tgt := 20) dJx4a65c_grow_92f84_7 (by decide) (fun hn => absurd hn (by decide)) (fun _ => ?_)
  refine L_aload_n X 1 dJx4a65c_grow_92f84_10 rfl rfl ?_
  refine L_get X (C := RJx4a65c) (Tf := TJx4a65c) (N := 3) (c := 9) (k := 1) rfl iJx4a65c (by decide) rfl wF_Jx4a65c_9 0 rfl rfl dJx4a65c_grow_92f84_11 ?_
  refine L_gets X E.2.2.1.1 rfl wF_Jx4a65c_39 dJx4a65c_grow_92f84_14 ?_
  refine L_acmp_eq X (tgt := 45) dJx4a65c_grow_92f84_17 (by decide) (fun _ => ?_) (fun hn => absurd rfl hn)
  refine L_aload_n X 1 dJx4a65c_grow_92f84_45 rfl rfl ?_
  refine L_bipush X (v := 10) dJx4a65c_grow_92f84_46 rfl ?_
  refine L_iload_n X 2 dJx4a65c_grow_92f84_48 rfl rfl ?_
  refine L_mmax X wM_Jx4a65c_79 ⟨(Nat.le_of_ble_eq_true rfl), (Nat.le_of_ble_eq_true rfl)⟩ (Nat.le_of_ble_eq_true rfl) ⟨Nat.zero_le _, Nat.zero_le _⟩ dJx4a65c_grow_92f84_49 ?_
  refine L_newq X (C := "java/lang/Object") (t := 7) (N := 10) wCl_Jx4a65c_7 E.2.2.2.2.2.2.1 rfl (by decide) (by decide) (Nat.le_of_ble_eq_true rfl) (Nat.le_of_ble_eq_true rfl) (Nat.le_of_ble_eq_true rfl) dJx4a65c_grow_92f84_52 (fun q1 => ?_)
  refine L_dup_x1 X dJx4a65c_grow_92f84_55 rfl rfl ?_
  refine L_put X (C := RJx4a65c) (Tf := TJx4a65c) (N := 3) (c := 9) (k := 1) (T' := ((q1, .inl ((gκ g).2.1 8, 10, .inr (.inr (.inr (.inr (fun _ => none)))))) :: (q, .inr (9, [.int m, .ref q1, .int 0])) :: T0)) rfl iJx4a65c tyJx4a65c_ok nmJx4a65c (by decide) rfl rfl (tyJx4a65c_ok _ (by decide)) wF_Jx4a65c_9 1 rfl rfl rfl (Nat.le_of_ble_eq_true rfl) rfl dJx4a65c_grow_92f84_56 ?_
  exact hf _ _ _ _ dJx4a65c_grow_92f84_59 ⟨q1, rfl, rfl⟩

theorem cm_Jx4a65c_grow_d5877 {l : Launch} {κ : KX} {ξ : XI} {T0 : va_W} {q : Nat} {m : Int32}  : CtM l κ ξ yJx4a65c_grow_d5877 cJx4a65c_grow_d5877 1 (some (.array (.object "java/lang/Object"))) 2 44 1 10 [.ref q] ((q, .inr (9, [.int m, .ref ξ.2.1, .int 0])) :: T0) (fun rv T => ∃ z : Nat, rv = some (.ref z) ∧ T = (z, .inl (κ.2.1 8, 10, .inr (.inr (.inr (.inr (fun _ => none)))))) :: (q, .inr (9, [.int m, .ref z, .int 0])) :: T0) := by
  refine CtM_a RJx4a65c rfl (by decide +kernel) rfl (Nat.le_of_ble_eq_true rfl) (fun g hgl hgκ X E hf => ?_)
  subst hgl; subst hgκ
  refine L_aload_n X 0 dJx4a65c_grow_d5877_0 rfl rfl ?_
  refine L_aload_n X 0 dJx4a65c_grow_d5877_1 rfl rfl ?_
  refine L_get X (C := RJx4a65c) (Tf := TJx4a65c) (N := 3) (c := 9) (k := 2) rfl iJx4a65c (by decide) rfl wF_Jx4a65c_48 0 rfl rfl dJx4a65c_grow_d5877_2 ?_
  refine L_iconst X (v := 1) dJx4a65c_grow_d5877_5 rfl ?_
  refine L_iadd X dJx4a65c_grow_d5877_6 ?_
  refine L_nmi (v := 1) (by decide) ?_
  refine L_cV X E (q := vcl 9) (As := [.int 1]) (rest := []) (cm_Jx4a65c_grow_92f84) cal_Jx4a65c_grow_92f84 wM_Jx4a65c_69 wI_Jx4a65c_grow_92f84 wS_Jx4a65c_grow_92f84 0 rfl rfl ⟨⟨(Nat.le_of_ble_eq_true rfl), (Nat.le_of_ble_eq_true rfl)⟩, ⟨by omega, by omega⟩⟩ rfl rfl (Nat.le_of_ble_eq_true rfl) dJx4a65c_grow_d5877_7 (fun rv T1 hT => ?_)
  obtain ⟨q1, rfl, rfl⟩ := hT
  exact hf _ _ _ _ dJx4a65c_grow_d5877_10 ⟨q1, rfl, rfl⟩

theorem cf_Jx4a65c_add_72be8 {l : Launch} {κ : KX} {ξ : XI} {T0 : va_W} {q y : Nat} {m : Int32} {vs : List Value} (k : Nat) (hy : T0[k]? = some (y, .inr (7, vs))) : CtM l κ ξ yJx4a65c_add_72be8 cJx4a65c_add_72be8 4 none 3 64 1 10 [.ref q, .ref y, .ref ξ.2.1, .int 0] ((q, .inr (9, [.int m, .ref ξ.2.1, .int 0])) :: T0) (fun rv T => ∃ z : Nat, rv = none ∧ T = (z, .inl (κ.2.1 8, 10, .inr (.inr (.inr (.inr (va_up (fun _ => none) (ix 0) (some y))))))) :: (q, .inr (9, [.int m, .ref z, .int (0 + 1)])) :: T0) := by
  refine CtM_v RJx4a65c rfl (by decide +kernel) (Nat.le_of_ble_eq_true rfl) (fun g hgl hgκ X E hini hf => ?_)
  subst hgl; subst hgκ
  refine L_iload_n X 3 dJx4a65c_add_72be8_0 rfl rfl ?_
  refine L_aload_n X 2 dJx4a65c_add_72be8_1 rfl rfl ?_
  refine L_tlen X E.2.2.1.2 rfl dJx4a65c_add_72be8_2 ?_
  refine L_icmp_ne X (tgt := 11) dJx4a65c_add_72be8_3 (by decide) (fun hn => absurd hn (fun h => h rfl)) (fun _ => ?_)
  refine L_aload_n X 0 dJx4a65c_add_72be8_6 rfl rfl ?_
  refine L_cV X E (q := vcl 9) (As := []) (rest := []) (cm_Jx4a65c_grow_d5877) cal_Jx4a65c_grow_d5877 wM_Jx4a65c_129 wI_Jx4a65c_grow_d5877 wS_Jx4a65c_grow_d5877 0 rfl rfl ⟨⟨(Nat.le_of_ble_eq_true rfl), (Nat.le_of_ble_eq_true rfl)⟩, ⟨by omega, by omega⟩⟩ rfl rfl (Nat.le_of_ble_eq_true rfl) dJx4a65c_add_72be8_7 (fun rv T1 hT => ?_)
  obtain ⟨q1, rfl, rfl⟩ := hT
  refine L_astore_n X dJx4a65c_add_72be8_10 rfl (by decide) rfl ?_
  refine L_aload_n X 0 dJx4a65c_add_72be8_11 rfl rfl ?_
  refine L_iload_n X 3 dJx4a65c_add_72be8_12 rfl rfl ?_
  refine L_aload_n X 2 dJx4a65c_add_72be8_13 rfl rfl ?_
  refine L_oast X E (T' := (q1, .inl ((gκ g).2.1 8, 10, .inr (.inr (.inr (.inr (va_up (fun _ => none) (ix 0) (some y))))))) :: (q, .inr (9, [.int m, .ref q1, .int 0])) :: T0) 0 (k + 2) rfl hy (by decide) rfl dJx4a65c_add_72be8_14 ?_
  refine L_aload_n X 1 dJx4a65c_add_72be8_15 rfl rfl ?_
  refine L_iload_n X 3 dJx4a65c_add_72be8_16 rfl rfl ?_
  refine L_iconst X (v := 1) dJx4a65c_add_72be8_17 rfl ?_
  refine L_iadd X dJx4a65c_add_72be8_18 ?_
  refine L_put X (C := RJx4a65c) (Tf := TJx4a65c) (N := 3) (c := 9) (k := 2) (T' := ((q1, .inl ((gκ g).2.1 8, 10, .inr (.inr (.inr (.inr (va_up (fun _ => none) (ix 0) (some y))))))) :: (q, .inr (9, [.int m, .ref q1, .int (0 + 1)])) :: T0)) rfl iJx4a65c tyJx4a65c_ok nmJx4a65c (by decide) rfl rfl (tyJx4a65c_ok _ (by decide)) wF_Jx4a65c_48 1 rfl rfl rfl (Nat.le_of_ble_eq_true rfl) rfl dJx4a65c_add_72be8_19 ?_
  exact hf _ _ _ dJx4a65c_add_72be8_22 ⟨q1, rfl, rfl⟩

theorem cm_Jx4a65c_add_72be8 {l : Launch} {κ : KX} {ξ : XI} {T0 : va_W} {q y e : Nat} {m c : Int32} {f : Nat → Option Nat} {vs : List Value} (k : Nat) (hy : T0[k]? = some (y, .inr (7, vs))) (hc : ¬ c = nI 10) (hi : inb c 10 = true) : CtM l κ ξ yJx4a65c_add_72be8 cJx4a65c_add_72be8 4 none 0 0 0 0 [.ref q, .ref y, .ref e, .int c] ((e, .inl (κ.2.1 8, 10, .inr (.inr (.inr (.inr f))))) :: (q, .inr (9, [.int m, .ref e, .int c])) :: T0) (fun rv T => rv = none ∧ T = (e, .inl (κ.2.1 8, 10, .inr (.inr (.inr (.inr (va_up f (ix c) (some y))))))) :: (q, .inr (9, [.int m, .ref e, .int (c + 1)])) :: T0) := by
  refine CtM_v RJx4a65c rfl (by decide +kernel) (Nat.le_of_ble_eq_true rfl) (fun g hgl hgκ X E hini hf => ?_)
  subst hgl; subst hgκ
  refine L_iload_n X 3 dJx4a65c_add_72be8_0 rfl rfl ?_
  refine L_aload_n X 2 dJx4a65c_add_72be8_1 rfl rfl ?_
  refine L_alen X 0 7 rfl rfl rfl rfl dJx4a65c_add_72be8_2 ?_
  refine L_icmp_ne X (tgt := 11) dJx4a65c_add_72be8_3 (by decide) (fun _ => ?_) (fun hn => absurd hn hc)
  refine L_aload_n X 2 dJx4a65c_add_72be8_11 rfl rfl ?_
  refine L_iload_n X 3 dJx4a65c_add_72be8_12 rfl rfl ?_
  refine L_aload_n X 1 dJx4a65c_add_72be8_13 rfl rfl ?_
  refine L_oast X E (T' := (e, .inl ((gκ g).2.1 8, 10, .inr (.inr (.inr (.inr (va_up f (ix c) (some y))))))) :: (q, .inr (9, [.int m, .ref e, .int c])) :: T0) 0 (k + 2) rfl hy hi rfl dJx4a65c_add_72be8_14 ?_
  refine L_aload_n X 0 dJx4a65c_add_72be8_15 rfl rfl ?_
  refine L_iload_n X 3 dJx4a65c_add_72be8_16 rfl rfl ?_
  refine L_iconst X (v := 1) dJx4a65c_add_72be8_17 rfl ?_
  refine L_iadd X dJx4a65c_add_72be8_18 ?_
  refine L_put X (C := RJx4a65c) (Tf := TJx4a65c) (N := 3) (c := 9) (k := 2) (T' := ((e, .inl ((gκ g).2.1 8, 10, .inr (.inr (.inr (.inr (va_up f (ix c) (some y))))))) :: (q, .inr (9, [.int m, .ref e, .int (c + 1)])) :: T0)) rfl iJx4a65c tyJx4a65c_ok nmJx4a65c (by decide) rfl rfl (tyJx4a65c_ok _ (by decide)) wF_Jx4a65c_48 1 rfl rfl rfl (Nat.le_of_ble_eq_true rfl) rfl dJx4a65c_add_72be8_19 ?_
  exact hf _ _ _ dJx4a65c_add_72be8_22 ⟨rfl, rfl⟩

theorem cf_Jx4a65c_add_9ea2d {l : Launch} {κ : KX} {ξ : XI} {T0 : va_W} {q y : Nat} {m : Int32} {vs : List Value} (k : Nat) (hy : T0[k]? = some (y, .inr (7, vs))) : CtM l κ ξ yJx4a65c_add_9ea2d cJx4a65c_add_9ea2d 2 (some .boolean) 5 103 1 10 [.ref q, .ref y] ((q, .inr (9, [.int m, .ref ξ.2.1, .int 0])) :: T0) (fun rv T => ∃ z : Nat, rv = some (.int 1) ∧ T = (z, .inl (κ.2.1 8, 10, .inr (.inr (.inr (.inr (va_up (fun _ => none) (ix 0) (some y))))))) :: (q, .inr (9, [.int (m + 1), .ref z, .int (0 + 1)])) :: T0) := by
  refine CtM_i RJx4a65c rfl (by decide +kernel) (Nat.le_of_ble_eq_true rfl) (fun g hgl hgκ X E hf => ?_)
  subst hgl; subst hgκ
  refine L_aload_n X 0 dJx4a65c_add_9ea2d_0 rfl rfl ?_
  refine L_dup X dJx4a65c_add_9ea2d_1 rfl ?_
  refine L_getmc X E wF_Jx4a65c_63 0 rfl dJx4a65c_add_9ea2d_2 ?_
  refine L_iconst X (v := 1) dJx4a65c_add_9ea2d_5 rfl ?_
  refine L_iadd X dJx4a65c_add_9ea2d_6 ?_
  refine L_putmc X E (T' := ((q, .inr (9, [.int (m + 1), .ref ξ.2.1, .int 0])) :: T0)) wF_Jx4a65c_63 0 rfl rfl rfl dJx4a65c_add_9ea2d_7 ?_
  refine L_aload_n X 0 dJx4a65c_add_9ea2d_10 rfl rfl ?_
  refine L_aload_n X 1 dJx4a65c_add_9ea2d_11 rfl rfl ?_
  refine L_aload_n X 0 dJx4a65c_add_9ea2d_12 rfl rfl ?_
  refine L_get X (C := RJx4a65c) (Tf := TJx4a65c) (N := 3) (c := 9) (k := 1) rfl iJx4a65c (by decide) rfl wF_Jx4a65c_9 0 rfl rfl dJx4a65c_add_9ea2d_13 ?_
  refine L_aload_n X 0 dJx4a65c_add_9ea2d_16 rfl rfl ?_
  refine L_get X (C := RJx4a65c) (Tf := TJx4a65c) (N := 3) (c := 9) (k := 2) rfl iJx4a65c (by decide) rfl wF_Jx4a65c_48 0 rfl rfl dJx4a65c_add_9ea2d_17 ?_
  refine L_cV X E (q := vcl 9) (As := [.ref y, .ref ξ.2.1, .int 0]) (rest := []) (cf_Jx4a65c_add_72be8 k hy) cal_Jx4a65c_add_72be8 wM_Jx4a65c_131 wI_Jx4a65c_add_72be8 wS_Jx4a65c_add_72be8 0 rfl rfl ⟨⟨(Nat.le_of_ble_eq_true rfl), (Nat.le_of_ble_eq_true rfl)⟩, ⟨by omega, by omega⟩⟩ rfl rfl (Nat.le_of_ble_eq_true rfl) dJx4a65c_add_9ea2d_20 (fun rv T1 hT => ?_)
  obtain ⟨q1, rfl, rfl⟩ := hT
  refine L_iconst X (v := 1) dJx4a65c_add_9ea2d_23 rfl ?_
  exact hf _ _ _ _ dJx4a65c_add_9ea2d_24 rfl ⟨q1, rfl, rfl⟩

theorem cm_Jx4a65c_add_9ea2d {l : Launch} {κ : KX} {ξ : XI} {T0 : va_W} {q y e : Nat} {m c : Int32} {f : Nat → Option Nat} {vs : List Value} (k : Nat) (hy : T0[k]? = some (y, .inr (7, vs))) (hc : ¬ c = nI 10) (hi : inb c 10 = true) : CtM l κ ξ yJx4a65c_add_9ea2d cJx4a65c_add_9ea2d 2 (some .boolean) 5 103 0 0 [.ref q, .ref y] ((e, .inl (κ.2.1 8, 10, .inr (.inr (.inr (.inr f))))) :: (q, .inr (9, [.int m, .ref e, .int c])) :: T0) (fun rv T => rv = some (.int 1) ∧ T = (e, .inl (κ.2.1 8, 10, .inr (.inr (.inr (.inr (va_up f (ix c) (some y))))))) :: (q, .inr (9, [.int (m + 1), .ref e, .int (c + 1)])) :: T0) := by
  refine CtM_i RJx4a65c rfl (by decide +kernel) (Nat.le_of_ble_eq_true rfl) (fun g hgl hgκ X E hf => ?_)
  subst hgl; subst hgκ
  refine L_aload_n X 0 dJx4a65c_add_9ea2d_0 rfl rfl ?_
  refine L_dup X dJx4a65c_add_9ea2d_1 rfl ?_
  refine L_getmc X E wF_Jx4a65c_63 1 rfl dJx4a65c_add_9ea2d_2 ?_
  refine L_iconst X (v := 1) dJx4a65c_add_9ea2d_5 rfl ?_
  refine L_iadd X dJx4a65c_add_9ea2d_6 ?_
  refine L_putmc X E (T' := ((e, .inl ((gκ g).2.1 8, 10, .inr (.inr (.inr (.inr f))))) :: (q, .inr (9, [.int (m + 1), .ref e, .int c])) :: T0)) wF_Jx4a65c_63 1 rfl rfl rfl dJx4a65c_add_9ea2d_7 ?_
  refine L_aload_n X 0 dJx4a65c_add_9ea2d_10 rfl rfl ?_
  refine L_aload_n X 1 dJx4a65c_add_9ea2d_11 rfl rfl ?_
  refine L_aload_n X 0 dJx4a65c_add_9ea2d_12 rfl rfl ?_
  refine L_get X (C := RJx4a65c) (Tf := TJx4a65c) (N := 3) (c := 9) (k := 1) rfl iJx4a65c (by decide) rfl wF_Jx4a65c_9 1 rfl rfl dJx4a65c_add_9ea2d_13 ?_
  refine L_aload_n X 0 dJx4a65c_add_9ea2d_16 rfl rfl ?_
  refine L_get X (C := RJx4a65c) (Tf := TJx4a65c) (N := 3) (c := 9) (k := 2) rfl iJx4a65c (by decide) rfl wF_Jx4a65c_48 1 rfl rfl dJx4a65c_add_9ea2d_17 ?_
  refine L_cV X E (q := vcl 9) (As := [.ref y, .ref e, .int c]) (rest := []) (cm_Jx4a65c_add_72be8 k hy hc hi) cal_Jx4a65c_add_72be8 wM_Jx4a65c_131 wI_Jx4a65c_add_72be8 wS_Jx4a65c_add_72be8 1 rfl rfl ⟨⟨(Nat.le_of_ble_eq_true rfl), (Nat.le_of_ble_eq_true rfl)⟩, ⟨by omega, by omega⟩⟩ rfl rfl (Nat.le_of_ble_eq_true rfl) dJx4a65c_add_9ea2d_20 (fun rv T1 hT => ?_)
  obtain ⟨rfl, rfl⟩ := hT
  refine L_iconst X (v := 1) dJx4a65c_add_9ea2d_23 rfl ?_
  exact hf _ _ _ _ dJx4a65c_add_9ea2d_24 rfl ⟨rfl, rfl⟩

