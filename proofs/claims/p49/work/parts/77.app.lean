/-! StringBuilder: append -/
theorem by_c : ∀ c, c < 128 → (nI c).toInt8.toInt32 = nI c := by decide +kernel
theorem sbt_app {t u : List Int32} {cap cap2 : Nat} {f f3 : Nat → Int32} (h : SBt t cap f) (hc : cap2 ≤ 1300) (hl : t.length + u.length ≤ cap2) (hf : sb_Fit f3) (h1 : ∀ i, i < t.length → f3 i = f i) (h2 : ∀ i, i < u.length → f3 (t.length + i) = u.getD i 0) : SBt (t ++ u) cap2 f3 := by
  refine ⟨by rw [List.length_append]; exact hl, hc, hf, fun i hi => ?_⟩
  rw [List.length_append] at hi
  by_cases e : i < t.length
  · rw [h1 i e, h.2.2.2 i e, List.getD_eq_getElem?_getD, List.getD_eq_getElem?_getD, List.getElem?_append_left e]
  · have k := h2 (i - t.length) (by omega)
    rw [show t.length + (i - t.length) = i by omega] at k
    rw [k, List.getD_eq_getElem?_getD, List.getD_eq_getElem?_getD, List.getElem?_append_right (by omega)]
theorem len_nI {t u : List Int32} : nI t.length + nI u.length = nI (t ++ u).length := by rw [List.length_append]; exact nI_add _ _
theorem cm_J1_canEncode_fc78d {l : Launch} {κ : KX} {ξ : XI} {T0 : va_W} {c : Nat} (hc : c < 128) : CtM l κ ξ yJ1_canEncode_fc78d cJ1_canEncode_fc78d 1 (some .boolean) 0 0 0 0 [.int (nI c)] T0 (fun rv T => rv = some (.int 1) ∧ T = T0) := by
  refine CtM_i RJ1 rfl (by decide +kernel) (Nat.le_of_ble_eq_true rfl) (fun g hgl hgκ X E hf => ?_)
  subst hgl; subst hgκ
  refine L_iload_n X 0 dJ1_canEncode_fc78d_0 rfl rfl ?_
  refine L_sipush X (v := 255) dJ1_canEncode_fc78d_1 rfl ?_
  refine L_icmp_gt X (tgt := 11) dJ1_canEncode_fc78d_4 (by decide) (fun hn => absurd hn (show ¬ nI 255 < nI c from nI_nlt (by omega) (by omega))) (fun _ => ?_)
  refine L_iconst X (v := 1) dJ1_canEncode_fc78d_7 rfl ?_
  refine L_goto X (tgt := 12) dJ1_canEncode_fc78d_8 (by decide) ?_
  exact hf _ _ _ _ dJ1_canEncode_fc78d_12 rfl ⟨rfl, rfl⟩

theorem cm_J5_append_3fe6f {l : Launch} {κ : KX} {ξ : XI} {T0 : va_W} {q v cap : Nat} {ml : Int32} {f : Nat → Int32} {t : List Int32} {c : Nat} (hc : c < 128) (hS : SBt t cap f) (hl : t.length + 1 ≤ 600) : CtM l κ ξ yJ5_append_3fe6f cJ5_append_3fe6f 2 (some (.object "java/lang/AbstractStringBuilder")) 4 104 1 1300 [.ref q, .int (nI c)] ((q, .inr (11, [.ref v, .int 0, .int ml, .int (nI t.length)])) :: (v, .inl (κ.2.1 2, cap, .inl f)) :: T0) (fun rv T => ∃ (v2 cap2 : Nat) (f2 : Nat → Int32), rv = some (.ref q) ∧ SBt (t ++ [nI c]) cap2 f2 ∧ T = (q, .inr (11, [.ref v2, .int 0, .int ml, .int (nI (t ++ [nI c]).length)])) :: (v2, .inl (κ.2.1 2, cap2, .inl f2)) :: T0) := by
  refine CtM_a RJ5 rfl (by decide +kernel) rfl (Nat.le_of_ble_eq_true rfl) (fun g hgl hgκ X E hf => ?_)
  subst hgl; subst hgκ
  have hS2 := hS.2.1
  have hS1 := hS.1
  refine L_aload_n X 0 dJ5_append_3fe6f_0 rfl rfl ?_
  refine L_aload_n X 0 dJ5_append_3fe6f_1 rfl rfl ?_
  refine L_get X (C := RJ4) (Tf := TJ4) (N := 4) (c := 11) (k := 3) rfl iJ4 (by decide) rfl wF_J5_79 0 rfl rfl dJ5_append_3fe6f_2 ?_
  refine L_iconst X (v := 1) dJ5_append_3fe6f_5 rfl ?_
  refine L_iadd X dJ5_append_3fe6f_6 ?_
  refine L_nmi (v := nI (t.length + 1)) (nI_1 _).symm ?_
  refine L_cU X E (q := vcl 11) (owner := RJ5) (As := [.int (nI (t.length + 1))]) (rest := []) (cm_J5_ensureCapacityInternal_d00df (by omega) hS.2.1 hS.2.2.1) cal_J5_ensureCapacityInternal_d00df wM_J5_100 wX_1542 wI_J5_ensureCapacityInternal_d00df (List.mem_append_right _ (List.mem_of_getElem? (i := 0) rfl)) rfl 0 rfl rfl ⟨⟨(Nat.le_of_ble_eq_true rfl), (Nat.le_of_ble_eq_true rfl)⟩, ⟨by omega, by omega⟩⟩ rfl rfl (Nat.le_of_ble_eq_true rfl) dJ5_append_3fe6f_7 (fun rv T1 hT => ?_)
  obtain ⟨rfl, v2, cap2, f2, hc2, hm2, hcc2, hf2, hk2, rfl⟩ := hT
  refine L_aload_n X 0 dJ5_append_3fe6f_10 rfl rfl ?_
  refine L_cU X E (q := vcl 11) (owner := RJ5) (As := []) (rest := []) (cm_J5_isLatin1_aae02 0 rfl) cal_J5_isLatin1_aae02 wM_J5_83 wX_863 wI_J5_isLatin1_aae02 (List.mem_append_left _ wO_J5_isLatin1_aae02) rfl 0 rfl rfl ⟨⟨(Nat.le_of_ble_eq_true rfl), (Nat.le_of_ble_eq_true rfl)⟩, ⟨by omega, by omega⟩⟩ rfl rfl (Nat.le_of_ble_eq_true rfl) dJ5_append_3fe6f_11 (fun rv T1 hT => ?_)
  obtain ⟨rfl, rfl⟩ := hT
  refine L_if_eq X (tgt := 45) dJ5_append_3fe6f_14 (by decide) (fun hn => absurd hn (by decide)) (fun _ => ?_)
  refine L_iload_n X 1 dJ5_append_3fe6f_17 rfl rfl ?_
  refine L_cS X E (As := [.int (nI c)]) (rest := []) (cm_J1_canEncode_fc78d hc) cal_J1_canEncode_fc78d wM_J5_191 wT_J1_canEncode_fc78d ⟨⟨(Nat.le_of_ble_eq_true rfl), (Nat.le_of_ble_eq_true rfl)⟩, ⟨by omega, by omega⟩⟩ rfl rfl (Nat.le_of_ble_eq_true rfl) dJ5_append_3fe6f_18 (fun rv T1 hT => ?_)
  obtain ⟨rfl, rfl⟩ := hT
  refine L_if_eq X (tgt := 45) dJ5_append_3fe6f_21 (by decide) (fun hn => absurd hn (by decide)) (fun _ => ?_)
  refine L_aload_n X 0 dJ5_append_3fe6f_24 rfl rfl ?_
  refine L_get X (C := RJ4) (Tf := TJ4) (N := 4) (c := 11) (k := 0) rfl iJ4 (by decide) rfl wF_J5_15 0 rfl rfl dJ5_append_3fe6f_25 ?_
  refine L_aload_n X 0 dJ5_append_3fe6f_28 rfl rfl ?_
  refine L_dup X dJ5_append_3fe6f_29 rfl ?_
  refine L_get X (C := RJ4) (Tf := TJ4) (N := 4) (c := 11) (k := 3) rfl iJ4 (by decide) rfl wF_J5_79 0 rfl rfl dJ5_append_3fe6f_30 ?_
  refine L_dup_x1 X dJ5_append_3fe6f_33 rfl rfl ?_
  refine L_iconst X (v := 1) dJ5_append_3fe6f_34 rfl ?_
  refine L_iadd X dJ5_append_3fe6f_35 ?_
  refine L_nmi (v := nI (t.length + 1)) (nI_1 _).symm ?_
  refine L_put X (C := RJ4) (Tf := TJ4) (N := 4) (c := 11) (k := 3) (T' := ((q, .inr (11, [.ref v2, .int 0, .int ml, .int (nI (t.length + 1))])) :: (v2, .inl ((gκ g).2.1 2, cap2, .inl f2)) :: T0)) rfl iJ4 tyJ4_ok nmJ4 (by decide) rfl rfl (tyJ4_ok _ (by decide)) wF_J5_79 0 rfl rfl rfl (Nat.le_of_ble_eq_true rfl) rfl dJ5_append_3fe6f_36 ?_
  refine L_iload_n X 1 dJ5_append_3fe6f_39 rfl rfl ?_
  refine L_i2b X dJ5_append_3fe6f_40 ?_
  refine L_nmi (v := nI c) (by_c c hc).symm ?_
  refine L_bast X (T' := ((q, .inr (11, [.ref v2, .int 0, .int ml, .int (nI (t.length + 1))])) :: (v2, .inl ((gκ g).2.1 2, cap2, .inl (upd f2 (ix (nI t.length)) ((nI c).toInt8.toInt32)))) :: T0)) 1 rfl (inb_n (by omega) (by omega)) rfl dJ5_append_3fe6f_41 ?_
  refine L_goto X (tgt := 75) dJ5_append_3fe6f_42 (by decide) ?_
  refine L_aload_n X 0 dJ5_append_3fe6f_75 rfl rfl ?_
  refine L_widen (a' := 1) (b' := 1300) (by omega) (by omega) ?_
  exact hf _ _ _ _ dJ5_append_3fe6f_76 ⟨v2, cap2, _, rfl, sbt_app (u := [nI c]) (f3 := upd f2 (ix (nI t.length)) (nI c).toInt8.toInt32) hS hc2 hm2 (sb_fitU hf2 (pk_fb _)) (fun i hi => by rw [ix_n (by omega), pk_un (by omega)]; exact hk2 i (by omega)) (fun i hi => by obtain rfl : i = 0 := (by simp only [List.length_singleton] at hi; omega); rw [ix_n (by omega), Nat.add_zero, pk_us, by_c c hc]; rfl), by rw [List.length_append]; rfl⟩

theorem cm_J4_append_cf468 {l : Launch} {κ : KX} {ξ : XI} {T0 : va_W} {q v cap : Nat} {ml : Int32} {f : Nat → Int32} {t : List Int32} {c : Nat} (hc : c < 128) (hS : SBt t cap f) (hl : t.length + 1 ≤ 600) : CtM l κ ξ yJ4_append_cf468 cJ4_append_cf468 2 (some (.object "java/lang/StringBuilder")) 5 125 1 1300 [.ref q, .int (nI c)] ((q, .inr (11, [.ref v, .int 0, .int ml, .int (nI t.length)])) :: (v, .inl (κ.2.1 2, cap, .inl f)) :: T0) (fun rv T => ∃ (v2 cap2 : Nat) (f2 : Nat → Int32), rv = some (.ref q) ∧ SBt (t ++ [nI c]) cap2 f2 ∧ T = (q, .inr (11, [.ref v2, .int 0, .int ml, .int (nI (t ++ [nI c]).length)])) :: (v2, .inl (κ.2.1 2, cap2, .inl f2)) :: T0) := by
  refine CtM_a RJ4 rfl (by decide +kernel) rfl (Nat.le_of_ble_eq_true rfl) (fun g hgl hgκ X E hf => ?_)
  subst hgl; subst hgκ
  refine L_aload_n X 0 dJ4_append_cf468_0 rfl rfl ?_
  refine L_iload_n X 1 dJ4_append_cf468_1 rfl rfl ?_
  refine L_cSU X E (q := vcl 11) (As := [.int (nI c)]) (rest := []) (cm_J5_append_3fe6f hc hS hl) cal_J5_append_3fe6f wM_J4_50 wX_1547 wU_J4 wI_J5_append_3fe6f (by decide) 0 rfl rfl ⟨⟨(Nat.le_of_ble_eq_true rfl), (Nat.le_of_ble_eq_true rfl)⟩, ⟨by omega, by omega⟩⟩ rfl rfl (Nat.le_of_ble_eq_true rfl) dJ4_append_cf468_2 (fun rv T1 hT => ?_)
  obtain ⟨v2, cap2, f2, rfl, hS2, rfl⟩ := hT
  refine L_pop X dJ4_append_cf468_5 rfl ?_
  refine L_aload_n X 0 dJ4_append_cf468_6 rfl rfl ?_
  refine L_widen (a' := 1) (b' := 1300) (by omega) (by omega) ?_
  exact hf _ _ _ _ dJ4_append_cf468_7 ⟨v2, cap2, f2, rfl, hS2, rfl⟩

theorem ck_J0_coder_7d493 {l : Launch} {κ : KX} {ξ : XI} {T0 : va_W} {i : Nat} (hi : i < nJS) : CtM l κ ξ yJ0_coder_7d493 cJ0_coder_7d493 1 (some .byte) 0 0 0 0 [.ref (κ.2.2.2.2.1 i)] T0 (fun rv T => rv = some (.int 0) ∧ T = T0) := by
  refine CtM_i RJ0 rfl (by decide +kernel) (Nat.le_of_ble_eq_true rfl) (fun g hgl hgκ X E hf => ?_)
  subst hgl; subst hgκ
  refine L_gets X (CL_cs X) rfl wF_J0_38 dJ0_coder_7d493_0 ?_
  refine L_if_eq X (tgt := 13) dJ0_coder_7d493_3 (by decide) (fun hn => absurd hn (by decide)) (fun _ => ?_)
  refine L_aload_n X 0 dJ0_coder_7d493_6 rfl rfl ?_
  refine L_scod X hi dJ0_coder_7d493_7 ?_
  refine L_goto X (tgt := 14) dJ0_coder_7d493_10 (by decide) ?_
  exact hf _ _ _ _ dJ0_coder_7d493_14 rfl ⟨rfl, rfl⟩

theorem ck_J0_length_8abf5 {l : Launch} {κ : KX} {ξ : XI} {T0 : va_W} {i : Nat} (hi : i < nJS) : CtM l κ ξ yJ0_length_8abf5 cJ0_length_8abf5 1 (some .int) 1 20 0 0 [.ref (κ.2.2.2.2.1 i)] T0 (fun rv T => rv = some (.int (nI (lenJS.getD i 0))) ∧ T = T0) := by
  refine CtM_i RJ0 rfl (by decide +kernel) (Nat.le_of_ble_eq_true rfl) (fun g hgl hgκ X E hf => ?_)
  subst hgl; subst hgκ
  refine L_aload_n X 0 dJ0_length_8abf5_0 rfl rfl ?_
  refine L_sval X hi dJ0_length_8abf5_1 ?_
  refine L_svln X hi dJ0_length_8abf5_4 ?_
  refine L_aload_n X 0 dJ0_length_8abf5_5 rfl rfl ?_
  refine L_cK X E (As := []) (rest := [.int (nI (lenJS.getD i 0))]) (i := i) hi (ck_J0_coder_7d493 hi) cal_J0_coder_7d493 wM_J0_335 wI_J0_coder_7d493 wS_J0_coder_7d493 ⟨⟨(Nat.le_of_ble_eq_true rfl), (Nat.le_of_ble_eq_true rfl)⟩, ⟨by omega, by omega⟩⟩ rfl rfl (Nat.le_of_ble_eq_true rfl) dJ0_length_8abf5_6 (fun rv T1 hT => ?_)
  obtain ⟨rfl, rfl⟩ := hT
  refine L_ishr X dJ0_length_8abf5_9 ?_
  refine L_nmi (v := nI (lenJS.getD i 0)) (sb_shr0 _).symm ?_
  exact hf _ _ _ _ dJ0_length_8abf5_10 rfl ⟨rfl, rfl⟩

theorem ck_J0_getBytes_840e7 {l : Launch} {κ : KX} {ξ : XI} {T0 : va_W} {c0 : Nat × va_E} {v n cap i : Nat} {f : Nat → Int32} (hi : i < nJS) (hr : n + lenJS.getD i 0 ≤ cap) (hc : cap ≤ 1300) : CtM l κ ξ yJ0_getBytes_840e7 cJ0_getBytes_840e7 4 none 1 60 0 0 [.ref (κ.2.2.2.2.1 i), .ref v, .int (nI n), .int 0] (c0 :: (v, .inl (κ.2.1 2, cap, .inl f)) :: T0) (fun rv T => rv = none ∧ T = c0 :: (v, .inl (κ.2.1 2, cap, .inl (va_cpy (fun k => (bytJS.getD i []).getD k 0) f 0 (ix (nI n)) (lenJS.getD i 0)))) :: T0) := by
  refine CtM_v RJ0 rfl (by decide +kernel) (Nat.le_of_ble_eq_true rfl) (fun g hgl hgκ X E hini hf => ?_)
  subst hgl; subst hgκ
  refine L_aload_n X 0 dJ0_getBytes_840e7_0 rfl rfl ?_
  refine L_cK X E (As := []) (rest := []) (i := i) hi (ck_J0_coder_7d493 hi) cal_J0_coder_7d493 wM_J0_335 wI_J0_coder_7d493 wS_J0_coder_7d493 ⟨⟨(Nat.le_of_ble_eq_true rfl), (Nat.le_of_ble_eq_true rfl)⟩, ⟨by omega, by omega⟩⟩ rfl rfl (Nat.le_of_ble_eq_true rfl) dJ0_getBytes_840e7_1 (fun rv T1 hT => ?_)
  obtain ⟨rfl, rfl⟩ := hT
  refine L_iload_n X 3 dJ0_getBytes_840e7_4 rfl rfl ?_
  refine L_icmp_ne X (tgt := 28) dJ0_getBytes_840e7_5 (by decide) (fun hn => absurd hn (fun h => h rfl)) (fun _ => ?_)
  refine L_aload_n X 0 dJ0_getBytes_840e7_8 rfl rfl ?_
  refine L_sval X hi dJ0_getBytes_840e7_9 ?_
  refine L_iconst X (v := 0) dJ0_getBytes_840e7_12 rfl ?_
  refine L_aload_n X 1 dJ0_getBytes_840e7_13 rfl rfl ?_
  refine L_iload_n X 2 dJ0_getBytes_840e7_14 rfl rfl ?_
  refine L_iload_n X 3 dJ0_getBytes_840e7_15 rfl rfl ?_
  refine L_ishl X dJ0_getBytes_840e7_16 ?_
  refine L_nmi (v := nI n) (sb_shl0 _).symm ?_
  refine L_aload_n X 0 dJ0_getBytes_840e7_17 rfl rfl ?_
  refine L_sval X hi dJ0_getBytes_840e7_18 ?_
  refine L_svln X hi dJ0_getBytes_840e7_21 ?_
  refine L_copyK X (T' := (c0 :: (v, .inl ((gκ g).2.1 2, cap, .inl (va_cpy (fun k => (bytJS.getD i []).getD k 0) f 0 (ix (nI n)) (lenJS.getD i 0)))) :: T0)) hi wM_J0_212 1 rfl (nI_pos (by omega)) (by rw [ix_n (by omega)]; exact hr) ⟨(Nat.le_of_ble_eq_true rfl), (Nat.le_of_ble_eq_true rfl)⟩ rfl dJ0_getBytes_840e7_22 ?_
  refine L_goto X (tgt := 43) dJ0_getBytes_840e7_25 (by decide) ?_
  exact hf _ _ _ dJ0_getBytes_840e7_43 ⟨rfl, rfl⟩

theorem ck_J5_inflateIfNeededFor_a7421 {l : Launch} {κ : KX} {ξ : XI} {T0 : va_W} {i : Nat} {q v : Nat} {ml n : Int32} (k : Nat) (he : T0[k]? = some (q, .inr (11, [.ref v, .int 0, .int ml, .int n]))) (hi : i < nJS) : CtM l κ ξ yJ5_inflateIfNeededFor_a7421 cJ5_inflateIfNeededFor_a7421 2 none 1 20 0 0 [.ref q, .ref (κ.2.2.2.2.1 i)] T0 (fun rv T => rv = none ∧ T = T0) := by
  refine CtM_v RJ5 rfl (by decide +kernel) (Nat.le_of_ble_eq_true rfl) (fun g hgl hgκ X E hini hf => ?_)
  subst hgl; subst hgκ
  refine L_gets X (CL_cs X) rfl wF_J5_18 dJ5_inflateIfNeededFor_a7421_0 ?_
  refine L_if_eq X (tgt := 21) dJ5_inflateIfNeededFor_a7421_3 (by decide) (fun hn => absurd hn (by decide)) (fun _ => ?_)
  refine L_aload_n X 0 dJ5_inflateIfNeededFor_a7421_6 rfl rfl ?_
  refine L_get X (C := RJ4) (Tf := TJ4) (N := 4) (c := 11) (k := 1) rfl iJ4 (by decide) rfl wF_J5_22 k he rfl dJ5_inflateIfNeededFor_a7421_7 ?_
  refine L_aload_n X 1 dJ5_inflateIfNeededFor_a7421_10 rfl rfl ?_
  refine L_cK X E (As := []) (rest := [.int 0]) (i := i) hi (ck_J0_coder_7d493 hi) cal_J0_coder_7d493 wM_J5_40 wI_J0_coder_7d493 wS_J0_coder_7d493 ⟨⟨(Nat.le_of_ble_eq_true rfl), (Nat.le_of_ble_eq_true rfl)⟩, ⟨by omega, by omega⟩⟩ rfl rfl (Nat.le_of_ble_eq_true rfl) dJ5_inflateIfNeededFor_a7421_11 (fun rv T1 hT => ?_)
  obtain ⟨rfl, rfl⟩ := hT
  refine L_icmp_eq X (tgt := 21) dJ5_inflateIfNeededFor_a7421_14 (by decide) (fun _ => ?_) (fun hn => absurd rfl hn)
  exact hf _ _ _ dJ5_inflateIfNeededFor_a7421_21 ⟨rfl, rfl⟩

theorem ck_J5_putStringAt_47b60 {l : Launch} {κ : KX} {ξ : XI} {T0 : va_W} {q v n cap i : Nat} {ml : Int32} {f : Nat → Int32} (hi : i < nJS) (hr : n + lenJS.getD i 0 ≤ cap) (hc : cap ≤ 1300) : CtM l κ ξ yJ5_putStringAt_47b60 cJ5_putStringAt_47b60 3 none 2 83 0 0 [.ref q, .int (nI n), .ref (κ.2.2.2.2.1 i)] ((q, .inr (11, [.ref v, .int 0, .int ml, .int (nI n)])) :: (v, .inl (κ.2.1 2, cap, .inl f)) :: T0) (fun rv T => rv = none ∧ T = (q, .inr (11, [.ref v, .int 0, .int ml, .int (nI n)])) :: (v, .inl (κ.2.1 2, cap, .inl (va_cpy (fun k => (bytJS.getD i []).getD k 0) f 0 (ix (nI n)) (lenJS.getD i 0)))) :: T0) := by
  refine CtM_v RJ5 rfl (by decide +kernel) (Nat.le_of_ble_eq_true rfl) (fun g hgl hgκ X E hini hf => ?_)
  subst hgl; subst hgκ
  refine L_aload_n X 0 dJ5_putStringAt_47b60_0 rfl rfl ?_
  refine L_aload_n X 2 dJ5_putStringAt_47b60_1 rfl rfl ?_
  refine L_cU X E (q := vcl 11) (owner := RJ5) (As := [.ref (kS g i)]) (rest := []) (ck_J5_inflateIfNeededFor_a7421 0 rfl hi) cal_J5_inflateIfNeededFor_a7421 wM_J5_397 wX_1545 wI_J5_inflateIfNeededFor_a7421 (List.mem_append_right _ (List.mem_of_getElem? (i := 3) rfl)) rfl 0 rfl rfl ⟨⟨(Nat.le_of_ble_eq_true rfl), (Nat.le_of_ble_eq_true rfl)⟩, ⟨by omega, by omega⟩⟩ rfl rfl (Nat.le_of_ble_eq_true rfl) dJ5_putStringAt_47b60_2 (fun rv T1 hT => ?_)
  obtain ⟨rfl, rfl⟩ := hT
  refine L_aload_n X 2 dJ5_putStringAt_47b60_5 rfl rfl ?_
  refine L_aload_n X 0 dJ5_putStringAt_47b60_6 rfl rfl ?_
  refine L_get X (C := RJ4) (Tf := TJ4) (N := 4) (c := 11) (k := 0) rfl iJ4 (by decide) rfl wF_J5_15 0 rfl rfl dJ5_putStringAt_47b60_7 ?_
  refine L_iload_n X 1 dJ5_putStringAt_47b60_10 rfl rfl ?_
  refine L_aload_n X 0 dJ5_putStringAt_47b60_11 rfl rfl ?_
  refine L_get X (C := RJ4) (Tf := TJ4) (N := 4) (c := 11) (k := 1) rfl iJ4 (by decide) rfl wF_J5_22 0 rfl rfl dJ5_putStringAt_47b60_12 ?_
  refine L_cK X E (As := [.ref v, .int (nI n), .int 0]) (rest := []) (i := i) hi (ck_J0_getBytes_840e7 hi hr hc) cal_J0_getBytes_840e7 wM_J5_399 wI_J0_getBytes_840e7 wS_J0_getBytes_840e7 ⟨⟨(Nat.le_of_ble_eq_true rfl), (Nat.le_of_ble_eq_true rfl)⟩, ⟨by omega, by omega⟩⟩ rfl rfl (Nat.le_of_ble_eq_true rfl) dJ5_putStringAt_47b60_15 (fun rv T1 hT => ?_)
  obtain ⟨rfl, rfl⟩ := hT
  exact hf _ _ _ dJ5_putStringAt_47b60_18 ⟨rfl, rfl⟩

theorem js_bl : ∀ i, i < nJS → (bytJS.getD i []).length = lenJS.getD i 0 := by decide +kernel
theorem js_fitA {i : Nat} (hi : i < nJS) : ∀ k, k < lenJS.getD i 0 → fits .byte (.int ((bytJS.getD i []).getD k 0)) = true := js_fit i hi
theorem js_fitB {i : Nat} (hi : i < nJS) : sb_Fit (fun k => (bytJS.getD i []).getD k 0) := by
  intro k
  by_cases h : k < lenJS.getD i 0
  · exact js_fit i hi k h
  · show fits .byte (.int ((bytJS.getD i []).getD k 0)) = true
    rw [List.getD_eq_getElem?_getD, List.getElem?_eq_none (by rw [js_bl i hi]; omega)]
    rfl
theorem cm_J5_append_cf1ce {l : Launch} {κ : KX} {ξ : XI} {T0 : va_W} {q v cap : Nat} {ml : Int32} {f : Nat → Int32} {t : List Int32} {i : Nat} (hi : i < nJS) (hS : SBt t cap f) (hl : t.length + lenJS.getD i 0 ≤ 600) : CtM l κ ξ yJ5_append_cf1ce cJ5_append_cf1ce 3 (some (.object "java/lang/AbstractStringBuilder")) 4 105 1 1300 [.ref q, .ref (κ.2.2.2.2.1 i)] ((q, .inr (11, [.ref v, .int 0, .int ml, .int (nI t.length)])) :: (v, .inl (κ.2.1 2, cap, .inl f)) :: T0) (fun rv T => ∃ (v2 cap2 : Nat) (f2 : Nat → Int32), rv = some (.ref q) ∧ SBt (t ++ bytJS.getD i []) cap2 f2 ∧ T = (q, .inr (11, [.ref v2, .int 0, .int ml, .int (nI (t ++ bytJS.getD i []).length)])) :: (v2, .inl (κ.2.1 2, cap2, .inl f2)) :: T0) := by
  refine CtM_a RJ5 rfl (by decide +kernel) rfl (Nat.le_of_ble_eq_true rfl) (fun g hgl hgκ X E hf => ?_)
  subst hgl; subst hgκ
  have hS2 := hS.2.1
  have hS1 := hS.1
  refine L_aload_n X 1 dJ5_append_cf1ce_0 rfl rfl ?_
  refine L_ifnn X (tgt := 9) dJ5_append_cf1ce_1 (by decide) ?_
  refine L_aload_n X 1 dJ5_append_cf1ce_9 rfl rfl ?_
  refine L_cK X E (As := []) (rest := []) (i := i) hi (ck_J0_length_8abf5 hi) cal_J0_length_8abf5 wM_J5_32 wI_J0_length_8abf5 wS_J0_length_8abf5 ⟨⟨(Nat.le_of_ble_eq_true rfl), (Nat.le_of_ble_eq_true rfl)⟩, ⟨by omega, by omega⟩⟩ rfl rfl (Nat.le_of_ble_eq_true rfl) dJ5_append_cf1ce_10 (fun rv T1 hT => ?_)
  obtain ⟨rfl, rfl⟩ := hT
  refine L_istore_n X dJ5_append_cf1ce_13 rfl (by decide) rfl ?_
  refine L_aload_n X 1 dJ5_append_cf1ce_14 rfl rfl ?_
  refine L_aload_n X 1 dJ5_append_cf1ce_15 rfl rfl ?_
  refine L_get X (C := RJ4) (Tf := TJ4) (N := 4) (c := 11) (k := 3) rfl iJ4 (by decide) rfl wF_J5_79 0 rfl rfl dJ5_append_cf1ce_16 ?_
  refine L_iload_n X 0 dJ5_append_cf1ce_19 rfl rfl ?_
  refine L_iadd X dJ5_append_cf1ce_20 ?_
  refine L_nmi (v := nI (t.length + lenJS.getD i 0)) (nI_add _ _).symm ?_
  refine L_cU X E (q := vcl 11) (owner := RJ5) (As := [.int (nI (t.length + lenJS.getD i 0))]) (rest := []) (cm_J5_ensureCapacityInternal_d00df (by omega) hS.2.1 hS.2.2.1) cal_J5_ensureCapacityInternal_d00df wM_J5_100 wX_1542 wI_J5_ensureCapacityInternal_d00df (List.mem_append_right _ (List.mem_of_getElem? (i := 0) rfl)) rfl 0 rfl rfl ⟨⟨(Nat.le_of_ble_eq_true rfl), (Nat.le_of_ble_eq_true rfl)⟩, ⟨by omega, by omega⟩⟩ rfl rfl (Nat.le_of_ble_eq_true rfl) dJ5_append_cf1ce_21 (fun rv T1 hT => ?_)
  obtain ⟨rfl, v2, cap2, f2, hc2, hm2, hcc2, hf2, hk2, rfl⟩ := hT
  refine L_aload_n X 1 dJ5_append_cf1ce_24 rfl rfl ?_
  refine L_aload_n X 1 dJ5_append_cf1ce_25 rfl rfl ?_
  refine L_get X (C := RJ4) (Tf := TJ4) (N := 4) (c := 11) (k := 3) rfl iJ4 (by decide) rfl wF_J5_79 0 rfl rfl dJ5_append_cf1ce_26 ?_
  refine L_aload_n X 2 dJ5_append_cf1ce_29 rfl rfl ?_
  refine L_cU X E (q := vcl 11) (owner := RJ5) (As := [.int (nI t.length), .ref (kS g i)]) (rest := []) (ck_J5_putStringAt_47b60 hi hm2 hc2) cal_J5_putStringAt_47b60 wM_J5_208 wX_1544 wI_J5_putStringAt_47b60 (List.mem_append_right _ (List.mem_of_getElem? (i := 2) rfl)) rfl 0 rfl rfl ⟨⟨(Nat.le_of_ble_eq_true rfl), (Nat.le_of_ble_eq_true rfl)⟩, ⟨by omega, by omega⟩⟩ rfl rfl (Nat.le_of_ble_eq_true rfl) dJ5_append_cf1ce_30 (fun rv T1 hT => ?_)
  obtain ⟨rfl, rfl⟩ := hT
  refine L_aload_n X 1 dJ5_append_cf1ce_33 rfl rfl ?_
  refine L_dup X dJ5_append_cf1ce_34 rfl ?_
  refine L_get X (C := RJ4) (Tf := TJ4) (N := 4) (c := 11) (k := 3) rfl iJ4 (by decide) rfl wF_J5_79 0 rfl rfl dJ5_append_cf1ce_35 ?_
  refine L_iload_n X 0 dJ5_append_cf1ce_38 rfl rfl ?_
  refine L_iadd X dJ5_append_cf1ce_39 ?_
  refine L_nmi (v := nI (t ++ bytJS.getD i []).length) (by rw [List.length_append, js_bl i hi]; exact (nI_add _ _).symm) ?_
  refine L_put X (C := RJ4) (Tf := TJ4) (N := 4) (c := 11) (k := 3) (T' := ((q, .inr (11, [.ref v2, .int 0, .int ml, .int (nI (t ++ bytJS.getD i []).length)])) :: (v2, .inl ((gκ g).2.1 2, cap2, .inl (va_cpy (fun k => (bytJS.getD i []).getD k 0) f2 0 (ix (nI t.length)) (lenJS.getD i 0)))) :: T0)) rfl iJ4 tyJ4_ok nmJ4 (by decide) rfl rfl (tyJ4_ok _ (by decide)) wF_J5_79 0 rfl rfl rfl (Nat.le_of_ble_eq_true rfl) rfl dJ5_append_cf1ce_40 ?_
  refine L_aload_n X 1 dJ5_append_cf1ce_43 rfl rfl ?_
  refine L_widen (a' := 1) (b' := 1300) (by omega) (by omega) ?_
  exact hf _ _ _ _ dJ5_append_cf1ce_44 ⟨v2, cap2, _, rfl, sbt_app (u := bytJS.getD i []) hS hc2 (by rw [js_bl i hi]; exact hm2) (sb_fitC (js_fitB hi) hf2) (fun j hj => by rw [ix_n (by omega), pk_cpy_out (Or.inl hj)]; exact hk2 j (by omega)) (fun j hj => by rw [js_bl i hi] at hj; rw [ix_n (by omega), pk_cpy_in (by omega) (by omega)]; show (bytJS.getD i []).getD (0 + (t.length + j - t.length)) 0 = _; rw [show 0 + (t.length + j - t.length) = j by omega]), rfl⟩

theorem cm_J4_append_15ec4 {l : Launch} {κ : KX} {ξ : XI} {T0 : va_W} {q v cap : Nat} {ml : Int32} {f : Nat → Int32} {t : List Int32} {i : Nat} (hi : i < nJS) (hS : SBt t cap f) (hl : t.length + lenJS.getD i 0 ≤ 600) : CtM l κ ξ yJ4_append_15ec4 cJ4_append_15ec4 2 (some (.object "java/lang/StringBuilder")) 5 127 1 1300 [.ref q, .ref (κ.2.2.2.2.1 i)] ((q, .inr (11, [.ref v, .int 0, .int ml, .int (nI t.length)])) :: (v, .inl (κ.2.1 2, cap, .inl f)) :: T0) (fun rv T => ∃ (v2 cap2 : Nat) (f2 : Nat → Int32), rv = some (.ref q) ∧ SBt (t ++ bytJS.getD i []) cap2 f2 ∧ T = (q, .inr (11, [.ref v2, .int 0, .int ml, .int (nI (t ++ bytJS.getD i []).length)])) :: (v2, .inl (κ.2.1 2, cap2, .inl f2)) :: T0) := by
  refine CtM_a RJ4 rfl (by decide +kernel) rfl (Nat.le_of_ble_eq_true rfl) (fun g hgl hgκ X E hf => ?_)
  subst hgl; subst hgκ
  refine L_aload_n X 0 dJ4_append_15ec4_0 rfl rfl ?_
  refine L_aload_n X 1 dJ4_append_15ec4_1 rfl rfl ?_
  refine L_cSU X E (q := vcl 11) (As := [.ref (kS g i)]) (rest := []) (cm_J5_append_cf1ce hi hS hl) cal_J5_append_cf1ce wM_J4_29 wX_1540 wU_J4 wI_J5_append_cf1ce (by decide) 0 rfl rfl ⟨⟨(Nat.le_of_ble_eq_true rfl), (Nat.le_of_ble_eq_true rfl)⟩, ⟨by omega, by omega⟩⟩ rfl rfl (Nat.le_of_ble_eq_true rfl) dJ4_append_15ec4_2 (fun rv T1 hT => ?_)
  obtain ⟨v2, cap2, f2, rfl, hS2, rfl⟩ := hT
  refine L_pop X dJ4_append_15ec4_5 rfl ?_
  refine L_aload_n X 0 dJ4_append_15ec4_6 rfl rfl ?_
  refine L_widen (a' := 1) (b' := 1300) (by omega) (by omega) ?_
  exact hf _ _ _ _ dJ4_append_15ec4_7 ⟨v2, cap2, f2, rfl, hS2, rfl⟩

