/-! java.util.ArrayList and its iterator, by the JDK's own code -/
theorem cm_J3_checkIndex_8e157 {l : Launch} {κ : KX} {ξ : XI} {T0 : va_W} {i n : Int32} (h0 : ¬ i < 0) (h1 : i < n) : CtM l κ ξ yJ3_checkIndex_8e157 cJ3_checkIndex_8e157 3 (some .int) 0 0 0 0 [.int i, .int n, .null] T0 (fun rv T => rv = some (.int i) ∧ T = T0) := by
  refine CtM_i RJ3 rfl (by decide +kernel) (Nat.le_of_ble_eq_true rfl) (fun g hgl hgκ X E hf => ?_)
  subst hgl; subst hgκ
  refine L_iload_n X 0 dJ3_checkIndex_8e157_0 rfl rfl ?_
  refine L_if_lt X (tgt := 9) dJ3_checkIndex_8e157_1 (by decide) (fun hn => absurd hn h0) (fun _ => ?_)
  refine L_iload_n X 0 dJ3_checkIndex_8e157_4 rfl rfl ?_
  refine L_iload_n X 1 dJ3_checkIndex_8e157_5 rfl rfl ?_
  refine L_icmp_lt X (tgt := 16) dJ3_checkIndex_8e157_6 (by decide) (fun _ => ?_) (fun hn => absurd h1 hn)
  refine L_iload_n X 0 dJ3_checkIndex_8e157_16 rfl rfl ?_
  exact hf _ _ _ _ dJ3_checkIndex_8e157_17 rfl ⟨rfl, rfl⟩

theorem cm_J15_checkIndex_7cf53 {l : Launch} {κ : KX} {ξ : XI} {T0 : va_W} {i n : Int32} (h0 : ¬ i < 0) (h1 : i < n) : CtM l κ ξ yJ15_checkIndex_7cf53 cJ15_checkIndex_7cf53 2 (some .int) 1 22 0 0 [.int i, .int n] T0 (fun rv T => rv = some (.int i) ∧ T = T0) := by
  refine CtM_i RJ15 rfl (by decide +kernel) (Nat.le_of_ble_eq_true rfl) (fun g hgl hgκ X E hf => ?_)
  subst hgl; subst hgκ
  refine L_iload_n X 0 dJ15_checkIndex_7cf53_0 rfl rfl ?_
  refine L_iload_n X 1 dJ15_checkIndex_7cf53_1 rfl rfl ?_
  refine L_null X dJ15_checkIndex_7cf53_2 ?_
  refine L_cS X E (As := [.int i, .int n, .null]) (rest := []) (cm_J3_checkIndex_8e157 h0 h1) cal_J3_checkIndex_8e157 wM_J15_105 wT_J3_checkIndex_8e157 ⟨⟨(Nat.le_of_ble_eq_true rfl), (Nat.le_of_ble_eq_true rfl)⟩, ⟨by omega, by omega⟩⟩ rfl rfl (Nat.le_of_ble_eq_true rfl) dJ15_checkIndex_7cf53_3 (fun rv T1 hT => ?_)
  obtain ⟨rfl, rfl⟩ := hT
  exact hf _ _ _ _ dJ15_checkIndex_7cf53_6 rfl ⟨rfl, rfl⟩

theorem cm_Jx4a65c_size_8abf5 {l : Launch} {κ : KX} {ξ : XI} {T0 : va_W} {q e : Nat} {m c : Int32} (k : Nat) (he : T0[k]? = some (q, .inr (9, [.int m, .ref e, .int c]))) : CtM l κ ξ yJx4a65c_size_8abf5 cJx4a65c_size_8abf5 1 (some .int) 0 0 0 0 [.ref q] T0 (fun rv T => rv = some (.int c) ∧ T = T0) := by
  refine CtM_i RJx4a65c rfl (by decide +kernel) (Nat.le_of_ble_eq_true rfl) (fun g hgl hgκ X E hf => ?_)
  subst hgl; subst hgκ
  refine L_aload_n X 0 dJx4a65c_size_8abf5_0 rfl rfl ?_
  refine L_get X (C := RJx4a65c) (Tf := TJx4a65c) (N := 3) (c := 9) (k := 2) rfl iJx4a65c (by decide) rfl wF_Jx4a65c_48 k he rfl dJx4a65c_size_8abf5_1 ?_
  exact hf _ _ _ _ dJx4a65c_size_8abf5_4 rfl ⟨rfl, rfl⟩

theorem cm_Jx4a65c_isEmpty_aae02 {l : Launch} {κ : KX} {ξ : XI} {T0 : va_W} {q e : Nat} {m c : Int32} (k : Nat) (he : T0[k]? = some (q, .inr (9, [.int m, .ref e, .int c]))) : CtM l κ ξ yJx4a65c_isEmpty_aae02 cJx4a65c_isEmpty_aae02 1 (some .boolean) 0 0 0 0 [.ref q] T0 (fun rv T => rv = some (.int (if c = 0 then 1 else 0)) ∧ T = T0) := by
  refine CtM_i RJx4a65c rfl (by decide +kernel) (Nat.le_of_ble_eq_true rfl) (fun g hgl hgκ X E hf => ?_)
  subst hgl; subst hgκ
  refine L_aload_n X 0 dJx4a65c_isEmpty_aae02_0 rfl rfl ?_
  refine L_get X (C := RJx4a65c) (Tf := TJx4a65c) (N := 3) (c := 9) (k := 2) rfl iJx4a65c (by decide) rfl wF_Jx4a65c_48 k he rfl dJx4a65c_isEmpty_aae02_1 ?_
  refine L_if_ne X (tgt := 11) dJx4a65c_isEmpty_aae02_4 (by decide) (fun hc => ?_) (fun hc => ?_)
  · refine L_iconst X (v := 0) dJx4a65c_isEmpty_aae02_11 rfl ?_
    exact hf _ _ _ _ dJx4a65c_isEmpty_aae02_12 rfl ⟨by rw [if_neg hc], rfl⟩
  · refine L_iconst X (v := 1) dJx4a65c_isEmpty_aae02_7 rfl ?_
    refine L_goto X (tgt := 12) dJx4a65c_isEmpty_aae02_8 (by decide) ?_
    exact hf _ _ _ _ dJx4a65c_isEmpty_aae02_12 rfl ⟨by rw [if_pos hc], rfl⟩

theorem cm_Jx4a65c_elementData_915e3 {l : Launch} {κ : KX} {ξ : XI} {T0 : va_W} {q e n y : Nat} {m c i : Int32} {f : Nat → Option Nat} (k : Nat) (he : T0[k]? = some (q, .inr (9, [.int m, .ref e, .int c]))) (k2 : Nat) (he2 : T0[k2]? = some (e, .inl (κ.2.1 8, n, .inr (.inr (.inr (.inr f)))))) (hi : inb i n = true) (hy : f (ix i) = some y) : CtM l κ ξ yJx4a65c_elementData_915e3 cJx4a65c_elementData_915e3 2 (some (.object "java/lang/Object")) 0 0 0 0 [.ref q, .int i] T0 (fun rv T => rv = some (.ref y) ∧ T = T0) := by
  refine CtM_a RJx4a65c rfl (by decide +kernel) rfl (Nat.le_of_ble_eq_true rfl) (fun g hgl hgκ X E hf => ?_)
  subst hgl; subst hgκ
  refine L_aload_n X 0 dJx4a65c_elementData_915e3_0 rfl rfl ?_
  refine L_get X (C := RJx4a65c) (Tf := TJx4a65c) (N := 3) (c := 9) (k := 1) rfl iJx4a65c (by decide) rfl wF_Jx4a65c_9 k he rfl dJx4a65c_elementData_915e3_1 ?_
  refine L_iload_n X 1 dJx4a65c_elementData_915e3_4 rfl rfl ?_
  refine L_oald X k2 he2 hi hy dJx4a65c_elementData_915e3_5 ?_
  exact hf _ _ _ _ dJx4a65c_elementData_915e3_6 ⟨rfl, rfl⟩

theorem cm_Jx4a65c_get_915e3 {l : Launch} {κ : KX} {ξ : XI} {T0 : va_W} {q e n y : Nat} {m c i : Int32} {f : Nat → Option Nat} (k : Nat) (he : T0[k]? = some (q, .inr (9, [.int m, .ref e, .int c]))) (k2 : Nat) (he2 : T0[k2]? = some (e, .inl (κ.2.1 8, n, .inr (.inr (.inr (.inr f)))))) (hi : inb i n = true) (hy : f (ix i) = some y) (h0 : ¬ i < 0) (h1 : i < c) : CtM l κ ξ yJx4a65c_get_915e3 cJx4a65c_get_915e3 2 (some (.object "java/lang/Object")) 2 43 0 0 [.ref q, .int i] T0 (fun rv T => rv = some (.ref y) ∧ T = T0) := by
  refine CtM_a RJx4a65c rfl (by decide +kernel) rfl (Nat.le_of_ble_eq_true rfl) (fun g hgl hgκ X E hf => ?_)
  subst hgl; subst hgκ
  refine L_iload_n X 1 dJx4a65c_get_915e3_0 rfl rfl ?_
  refine L_aload_n X 0 dJx4a65c_get_915e3_1 rfl rfl ?_
  refine L_get X (C := RJx4a65c) (Tf := TJx4a65c) (N := 3) (c := 9) (k := 2) rfl iJx4a65c (by decide) rfl wF_Jx4a65c_48 k he rfl dJx4a65c_get_915e3_2 ?_
  refine L_cS X E (As := [.int i, .int c]) (rest := []) (cm_J15_checkIndex_7cf53 h0 h1) cal_J15_checkIndex_7cf53 wM_Jx4a65c_118 wT_J15_checkIndex_7cf53 ⟨⟨(Nat.le_of_ble_eq_true rfl), (Nat.le_of_ble_eq_true rfl)⟩, ⟨by omega, by omega⟩⟩ rfl rfl (Nat.le_of_ble_eq_true rfl) dJx4a65c_get_915e3_5 (fun rv T1 hT => ?_)
  obtain ⟨rfl, rfl⟩ := hT
  refine L_pop X dJx4a65c_get_915e3_8 rfl ?_
  refine L_aload_n X 0 dJx4a65c_get_915e3_9 rfl rfl ?_
  refine L_iload_n X 1 dJx4a65c_get_915e3_10 rfl rfl ?_
  refine L_cV X E (q := vcl 9) (As := [.int i]) (rest := []) (cm_Jx4a65c_elementData_915e3 k he k2 he2 hi hy) cal_Jx4a65c_elementData_915e3 wM_Jx4a65c_123 wI_Jx4a65c_elementData_915e3 wS_Jx4a65c_elementData_915e3 k he rfl ⟨⟨(Nat.le_of_ble_eq_true rfl), (Nat.le_of_ble_eq_true rfl)⟩, ⟨by omega, by omega⟩⟩ rfl rfl (Nat.le_of_ble_eq_true rfl) dJx4a65c_get_915e3_11 (fun rv T1 hT => ?_)
  obtain ⟨rfl, rfl⟩ := hT
  exact hf _ _ _ _ dJx4a65c_get_915e3_14 ⟨rfl, rfl⟩

theorem cm_Jx35411_init_45d68 {l : Launch} {κ : KX} {ξ : XI} {T0 : va_W} {q e z : Nat} {m c : Int32} (k : Nat) (he : T0[k]? = some (q, .inr (9, [.int m, .ref e, .int c]))) : CtM l κ ξ yJx35411_init_45d68 cJx35411_init_45d68 2 none 1 12 0 0 [.ref z, .ref q] ((z, .inr (10, fzJx35411)) :: T0) (fun rv T => rv = none ∧ T = (z, .inr (10, [.int 0, .int (-1), .int m, .ref q])) :: T0) := by
  refine CtM_v RJx35411 rfl (by decide +kernel) (Nat.le_of_ble_eq_true rfl) (fun g hgl hgκ X E hini hf => ?_)
  subst hgl; subst hgκ
  refine L_aload_n X 0 dJx35411_init_45d68_0 rfl rfl ?_
  refine L_aload_n X 1 dJx35411_init_45d68_1 rfl rfl ?_
  refine L_putF X hini (C := RJx35411) (Tf := TJx35411) (N := 4) (c := 10) (k := 3) (T' := ((z, .inr (10, [.int 0, .int 0, .int 0, .ref q])) :: T0)) rfl iJx35411 tyJx35411_ok nmJx35411 (by decide) rfl rfl rfl (tyJx35411_ok _ (by decide)) wF_Jx35411_1 0 rfl rfl rfl (Nat.le_of_ble_eq_true rfl) rfl dJx35411_init_45d68_2 ?_
  refine L_aload_n X 0 dJx35411_init_45d68_5 rfl rfl ?_
  refine L_obj X wM_Jx35411_7 wI_obj wC_obj ⟨(Nat.le_of_ble_eq_true rfl), (Nat.le_of_ble_eq_true rfl)⟩ dJx35411_init_45d68_6 ?_
  refine L_aload_n X 0 dJx35411_init_45d68_9 rfl rfl ?_
  refine L_iconst X (v := (-1)) dJx35411_init_45d68_10 rfl ?_
  refine L_put X (C := RJx35411) (Tf := TJx35411) (N := 4) (c := 10) (k := 1) (T' := ((z, .inr (10, [.int 0, .int (-1), .int 0, .ref q])) :: T0)) rfl iJx35411 tyJx35411_ok nmJx35411 (by decide) rfl rfl (tyJx35411_ok _ (by decide)) wF_Jx35411_13 0 rfl rfl rfl (Nat.le_of_ble_eq_true rfl) rfl dJx35411_init_45d68_11 ?_
  refine L_aload_n X 0 dJx35411_init_45d68_14 rfl rfl ?_
  refine L_aload_n X 0 dJx35411_init_45d68_15 rfl rfl ?_
  refine L_get X (C := RJx35411) (Tf := TJx35411) (N := 4) (c := 10) (k := 3) rfl iJx35411 (by decide) rfl wF_Jx35411_1 0 rfl rfl dJx35411_init_45d68_16 ?_
  refine L_getmc X E wF_Jx35411_17 (k + 1) he dJx35411_init_45d68_19 ?_
  refine L_put X (C := RJx35411) (Tf := TJx35411) (N := 4) (c := 10) (k := 2) (T' := ((z, .inr (10, [.int 0, .int (-1), .int m, .ref q])) :: T0)) rfl iJx35411 tyJx35411_ok nmJx35411 (by decide) rfl rfl (tyJx35411_ok _ (by decide)) wF_Jx35411_22 0 rfl rfl rfl (Nat.le_of_ble_eq_true rfl) rfl dJx35411_init_45d68_22 ?_
  exact hf _ _ _ dJx35411_init_45d68_25 ⟨rfl, rfl⟩

theorem cm_Jx4a65c_iterator_32c93 {l : Launch} {κ : KX} {ξ : XI} {T0 : va_W} {q e : Nat} {m c : Int32} (k : Nat) (he : T0[k]? = some (q, .inr (9, [.int m, .ref e, .int c]))) : CtM l κ ξ yJx4a65c_iterator_32c93 cJx4a65c_iterator_32c93 1 (some (.object "java/util/Iterator")) 2 33 1 4 [.ref q] T0 (fun rv T => ∃ z : Nat, rv = some (.ref z) ∧ T = (z, .inr (10, [.int 0, .int (-1), .int m, .ref q])) :: T0) := by
  refine CtM_a RJx4a65c rfl (by decide +kernel) rfl (Nat.le_of_ble_eq_true rfl) (fun g hgl hgκ X E hf => ?_)
  subst hgl; subst hgκ
  refine L_new X (C := RJx35411) (Tf := TJx35411) (N := 4) (ci := 10) (ty0 := tyJx35411) (fs := fzJx35411) rfl iJx35411 tyJx35411_ok wCl_Jx4a65c_267 wN_Jx35411 w0_Jx35411 hzJx35411 (Nat.le_of_ble_eq_true rfl) (Nat.le_of_ble_eq_true rfl) dJx4a65c_iterator_32c93_0 (fun q1 => ?_)
  refine L_dup X dJx4a65c_iterator_32c93_3 rfl ?_
  refine L_aload_n X 0 dJx4a65c_iterator_32c93_4 rfl rfl ?_
  refine L_cI X E (As := [.ref q]) (rest := [.ref q1]) (cm_Jx35411_init_45d68 k he) cal_Jx35411_init_45d68 wM_Jx4a65c_269 rfl wI_Jx35411_init_45d68 ⟨⟨(Nat.le_of_ble_eq_true rfl), (Nat.le_of_ble_eq_true rfl)⟩, ⟨(Nat.le_of_ble_eq_true rfl), (Nat.le_of_ble_eq_true rfl)⟩⟩ rfl rfl (Nat.le_of_ble_eq_true rfl) dJx4a65c_iterator_32c93_5 (fun rv T1 hT => ?_)
  obtain ⟨rfl, rfl⟩ := hT
  exact hf _ _ _ _ dJx4a65c_iterator_32c93_8 ⟨q1, rfl, rfl⟩

theorem cm_Jx35411_hasNext_aae02 {l : Launch} {κ : KX} {ξ : XI} {T0 : va_W} {q e z : Nat} {m c u v : Int32} (k : Nat) (he : T0[k]? = some (q, .inr (9, [.int m, .ref e, .int c]))) (k3 : Nat) (he3 : T0[k3]? = some (z, .inr (10, [.int u, .int v, .int m, .ref q]))) : CtM l κ ξ yJx35411_hasNext_aae02 cJx35411_hasNext_aae02 1 (some .boolean) 0 0 0 0 [.ref z] T0 (fun rv T => rv = some (.int (if u = c then 0 else 1)) ∧ T = T0) := by
  refine CtM_i RJx35411 rfl (by decide +kernel) (Nat.le_of_ble_eq_true rfl) (fun g hgl hgκ X E hf => ?_)
  subst hgl; subst hgκ
  refine L_aload_n X 0 dJx35411_hasNext_aae02_0 rfl rfl ?_
  refine L_get X (C := RJx35411) (Tf := TJx35411) (N := 4) (c := 10) (k := 0) rfl iJx35411 (by decide) rfl wF_Jx35411_25 k3 he3 rfl dJx35411_hasNext_aae02_1 ?_
  refine L_aload_n X 0 dJx35411_hasNext_aae02_4 rfl rfl ?_
  refine L_get X (C := RJx35411) (Tf := TJx35411) (N := 4) (c := 10) (k := 3) rfl iJx35411 (by decide) rfl wF_Jx35411_1 k3 he3 rfl dJx35411_hasNext_aae02_5 ?_
  refine L_getN X (C := RJx4a65c) (Tf := TJx4a65c) (N := 3) (c := 9) (k := 2) rfl iJx4a65c (by decide) rfl nF_Jx35411_28 k he rfl dJx35411_hasNext_aae02_8 ?_
  refine L_icmp_eq X (tgt := 18) dJx35411_hasNext_aae02_11 (by decide) (fun hc => ?_) (fun hc => ?_)
  · refine L_iconst X (v := 0) dJx35411_hasNext_aae02_18 rfl ?_
    exact hf _ _ _ _ dJx35411_hasNext_aae02_19 rfl ⟨by rw [if_pos hc], rfl⟩
  · refine L_iconst X (v := 1) dJx35411_hasNext_aae02_14 rfl ?_
    refine L_goto X (tgt := 19) dJx35411_hasNext_aae02_15 (by decide) ?_
    exact hf _ _ _ _ dJx35411_hasNext_aae02_19 rfl ⟨by rw [if_neg hc], rfl⟩

theorem cm_Jx35411_checkForComodification_da8c8 {l : Launch} {κ : KX} {ξ : XI} {T0 : va_W} {q e z : Nat} {m c u v : Int32} (k : Nat) (he : T0[k]? = some (q, .inr (9, [.int m, .ref e, .int c]))) (k3 : Nat) (he3 : T0[k3]? = some (z, .inr (10, [.int u, .int v, .int m, .ref q]))) : CtM l κ ξ yJx35411_checkForComodification_da8c8 cJx35411_checkForComodification_da8c8 1 none 0 0 0 0 [.ref z] T0 (fun rv T => rv = none ∧ T = T0) := by
  refine CtM_v RJx35411 rfl (by decide +kernel) (Nat.le_of_ble_eq_true rfl) (fun g hgl hgκ X E hini hf => ?_)
  subst hgl; subst hgκ
  refine L_aload_n X 0 dJx35411_checkForComodification_da8c8_0 rfl rfl ?_
  refine L_get X (C := RJx35411) (Tf := TJx35411) (N := 4) (c := 10) (k := 3) rfl iJx35411 (by decide) rfl wF_Jx35411_1 k3 he3 rfl dJx35411_checkForComodification_da8c8_1 ?_
  refine L_getmc X E wF_Jx35411_17 k he dJx35411_checkForComodification_da8c8_4 ?_
  refine L_aload_n X 0 dJx35411_checkForComodification_da8c8_7 rfl rfl ?_
  refine L_get X (C := RJx35411) (Tf := TJx35411) (N := 4) (c := 10) (k := 2) rfl iJx35411 (by decide) rfl wF_Jx35411_22 k3 he3 rfl dJx35411_checkForComodification_da8c8_8 ?_
  refine L_icmp_eq X (tgt := 22) dJx35411_checkForComodification_da8c8_11 (by decide) (fun _ => ?_) (fun hn => absurd rfl hn)
  exact hf _ _ _ dJx35411_checkForComodification_da8c8_22 ⟨rfl, rfl⟩

theorem cm_Jx35411_next_0502b {l : Launch} {κ : KX} {ξ : XI} {T0 : va_W} {q e z n y : Nat} {m c u v : Int32} {f : Nat → Option Nat} (k : Nat) (he : T0[k]? = some (q, .inr (9, [.int m, .ref e, .int c]))) (k2 : Nat) (he2 : T0[k2]? = some (e, .inl (κ.2.1 8, n, .inr (.inr (.inr (.inr f)))))) (h1 : u < c) (h2 : u < nI n) (hi : inb u n = true) (hy : f (ix u) = some y) : CtM l κ ξ yJx35411_next_0502b cJx35411_next_0502b 3 (some (.object "java/lang/Object")) 1 20 0 0 [.ref z] ((z, .inr (10, [.int u, .int v, .int m, .ref q])) :: T0) (fun rv T => rv = some (.ref y) ∧ T = (z, .inr (10, [.int (u + 1), .int u, .int m, .ref q])) :: T0) := by
  refine CtM_a RJx35411 rfl (by decide +kernel) rfl (Nat.le_of_ble_eq_true rfl) (fun g hgl hgκ X E hf => ?_)
  subst hgl; subst hgκ
  refine L_aload_n X 0 dJx35411_next_0502b_0 rfl rfl ?_
  refine L_cV X E (q := vcl 10) (As := []) (rest := []) (cm_Jx35411_checkForComodification_da8c8 (k + 1) he 0 rfl) cal_Jx35411_checkForComodification_da8c8 wM_Jx35411_31 wI_Jx35411_checkForComodification_da8c8 wS_Jx35411_checkForComodification_da8c8 0 rfl rfl ⟨⟨(Nat.le_of_ble_eq_true rfl), (Nat.le_of_ble_eq_true rfl)⟩, ⟨by omega, by omega⟩⟩ rfl rfl (Nat.le_of_ble_eq_true rfl) dJx35411_next_0502b_1 (fun rv T1 hT => ?_)
  obtain ⟨rfl, rfl⟩ := hT
  refine L_aload_n X 0 dJx35411_next_0502b_4 rfl rfl ?_
  refine L_get X (C := RJx35411) (Tf := TJx35411) (N := 4) (c := 10) (k := 0) rfl iJx35411 (by decide) rfl wF_Jx35411_25 0 rfl rfl dJx35411_next_0502b_5 ?_
  refine L_istore_n X dJx35411_next_0502b_8 rfl (by decide) rfl ?_
  refine L_iload_n X 0 dJx35411_next_0502b_9 rfl rfl ?_
  refine L_aload_n X 1 dJx35411_next_0502b_10 rfl rfl ?_
  refine L_get X (C := RJx35411) (Tf := TJx35411) (N := 4) (c := 10) (k := 3) rfl iJx35411 (by decide) rfl wF_Jx35411_1 0 rfl rfl dJx35411_next_0502b_11 ?_
  refine L_getN X (C := RJx4a65c) (Tf := TJx4a65c) (N := 3) (c := 9) (k := 2) rfl iJx4a65c (by decide) rfl nF_Jx35411_28 (k + 1) he rfl dJx35411_next_0502b_14 ?_
  refine L_icmp_lt X (tgt := 28) dJx35411_next_0502b_17 (by decide) (fun _ => ?_) (fun hn => absurd h1 hn)
  refine L_aload_n X 1 dJx35411_next_0502b_28 rfl rfl ?_
  refine L_get X (C := RJx35411) (Tf := TJx35411) (N := 4) (c := 10) (k := 3) rfl iJx35411 (by decide) rfl wF_Jx35411_1 0 rfl rfl dJx35411_next_0502b_29 ?_
  refine L_get X (C := RJx4a65c) (Tf := TJx4a65c) (N := 3) (c := 9) (k := 1) rfl iJx4a65c (by decide) rfl wF_Jx35411_37 (k + 1) he rfl dJx35411_next_0502b_32 ?_
  refine L_astore_n X dJx35411_next_0502b_35 rfl (by decide) rfl ?_
  refine L_iload_n X 1 dJx35411_next_0502b_36 rfl rfl ?_
  refine L_aload_n X 0 dJx35411_next_0502b_37 rfl rfl ?_
  refine L_alen X (k2 + 1) 7 he2 rfl rfl rfl dJx35411_next_0502b_38 ?_
  refine L_icmp_lt X (tgt := 50) dJx35411_next_0502b_39 (by decide) (fun _ => ?_) (fun hn => absurd h2 hn)
  refine L_aload_n X 2 dJx35411_next_0502b_50 rfl rfl ?_
  refine L_iload_n X 1 dJx35411_next_0502b_51 rfl rfl ?_
  refine L_iconst X (v := 1) dJx35411_next_0502b_52 rfl ?_
  refine L_iadd X dJx35411_next_0502b_53 ?_
  refine L_put X (C := RJx35411) (Tf := TJx35411) (N := 4) (c := 10) (k := 0) (T' := ((z, .inr (10, [.int (u + 1), .int v, .int m, .ref q])) :: T0)) rfl iJx35411 tyJx35411_ok nmJx35411 (by decide) rfl rfl (tyJx35411_ok _ (by decide)) wF_Jx35411_25 0 rfl rfl rfl (Nat.le_of_ble_eq_true rfl) rfl dJx35411_next_0502b_54 ?_
  refine L_aload_n X 0 dJx35411_next_0502b_57 rfl rfl ?_
  refine L_aload_n X 2 dJx35411_next_0502b_58 rfl rfl ?_
  refine L_iload_n X 1 dJx35411_next_0502b_59 rfl rfl ?_
  refine L_dup_x1 X dJx35411_next_0502b_60 rfl rfl ?_
  refine L_put X (C := RJx35411) (Tf := TJx35411) (N := 4) (c := 10) (k := 1) (T' := ((z, .inr (10, [.int (u + 1), .int u, .int m, .ref q])) :: T0)) rfl iJx35411 tyJx35411_ok nmJx35411 (by decide) rfl rfl (tyJx35411_ok _ (by decide)) wF_Jx35411_13 0 rfl rfl rfl (Nat.le_of_ble_eq_true rfl) rfl dJx35411_next_0502b_61 ?_
  refine L_oald X (k2 + 1) he2 hi hy dJx35411_next_0502b_64 ?_
  exact hf _ _ _ _ dJx35411_next_0502b_65 ⟨rfl, rfl⟩

