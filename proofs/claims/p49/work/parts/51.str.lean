/-! String constants: length() and charAt(int), by the JDK's own code -/
theorem js_all : ∀ i, i < nJS → lenJS.getD i 0 < 12 ∧ (bytJS.getD i []).length = lenJS.getD i 0 := by decide +kernel
theorem js_ch : ∀ i, i < nJS → ∀ k, k < 12 → (((bytJS.getD i []).getD k 0 &&& 255).toUInt32 % 65536).toInt32 = chJ i k ∧ narrow .char (.int (chJ i k)) = .int (chJ i k) := by decide +kernel
theorem js_len : ∀ i, i < nJS → nI (lenJS.getD i 0) >>> ((0 : Int32) &&& 31) = nI (lenJS.getD i 0) := by decide +kernel
section
variable {g : GX} {a b : Nat} {T : TT} {pc : Nat} {lo : List (Nat × Value)} {st : List Value} {own : String} {cc : ByteArray} {nL FR LO : Nat}
theorem G_gets (X : CX g own cc nL FR LO) {index : Nat} {C n d : String} {v : Value} (hZ : va_Z C n d v (kA (gκ g)) (gs g) (gs g).heap) (hl : Cond.fieldLink own index C n d ∈ WG) (hd : decode cc pc = .ok (.getstatic index, 3)) (k : G g a b T (pc + 3) lo (v :: st)) : G g a b T pc lo st := by
  intro H locs ls hP hS hls
  exact va_gets X.1 X.2.1 hZ hS X.2.2.2.1 (X.2.2.2.2.1 _ hl) (fun _ h => h) hd (k H locs ls hP hS hls)
theorem G_scod (X : CX g RJ0 cc nL FR LO) {i : Nat} (hi : i < nJS) (hd : decode cc pc = .ok (.getfield 15, 3)) (k : G g a b T (pc + 3) lo (.int 0 :: st)) : G g a b T pc lo (.ref ((gκ g).2.2.2.2.1 i) :: st) := by
  intro H locs ls hP hS hls
  exact vk_getf X.1 X.2.1 (X.2.2.2.2.2.2.2.1.1.1 i hi).2.1 hS X.2.2.2.1 (X.2.2.2.2.1 _ wF_J0_15) (fun _ h => h) hd (k H locs ls hP hS hls)
theorem G_sval (X : CX g RJ0 cc nL FR LO) {i : Nat} (hi : i < nJS) (hd : decode cc pc = .ok (.getfield 9, 3)) (k : G g a b T (pc + 3) lo (.ref ((gκ g).2.2.2.2.2 i) :: st)) : G g a b T pc lo (.ref ((gκ g).2.2.2.2.1 i) :: st) := by
  intro H locs ls hP hS hls
  exact vk_getf X.1 X.2.1 (X.2.2.2.2.2.2.2.1.1.1 i hi).2.2.1 hS X.2.2.2.1 (X.2.2.2.2.1 _ wF_J0_9) (fun _ h => h) hd (k H locs ls hP hS hls)
theorem G_svln (X : CX g own cc nL FR LO) {i : Nat} (hi : i < nJS) (hd : decode cc pc = .ok (.arraylength, 1)) (k : G g a b T (pc + 1) lo (.int (nI (lenJS.getD i 0)) :: st)) : G g a b T pc lo (.ref ((gκ g).2.2.2.2.2 i) :: st) := by
  intro H locs ls hP hS hls
  exact va_tlen X.1 X.2.1 (X.2.2.2.2.2.2.2.1.1.1 i hi).2.2.2 hS rfl hd (k H locs ls hP hS hls)
theorem G_svld (X : CX g own cc nL FR LO) {i : Nat} {j : Int32} (hi : i < nJS) (hj : inb j (lenJS.getD i 0) = true) (hd : decode cc pc = .ok (.baload, 1)) (k : G g a b T (pc + 1) lo (.int ((bytJS.getD i []).getD (ix j) 0) :: st)) : G g a b T pc lo (.int j :: .ref ((gκ g).2.2.2.2.2 i) :: st) := by
  intro H locs ls hP hS hls
  exact va_tb X.1 X.2.1 (X.2.2.2.2.2.2.2.1.1.1 i hi).2.2.2 hS (inb_vp hj) rfl hd (k H locs ls hP hS hls)
theorem G_i2c (X : CX g own cc nL FR LO) {x v : Int32} (hd : decode cc pc = .ok (.i2c, 1)) (hv : (x.toUInt32 % 65536).toInt32 = v) (k : G g a b T (pc + 1) lo (.int v :: st)) : G g a b T pc lo (.int x :: st) := fun H locs ls hP hS hls => lv_i2c X.1 X.2.1 hd hv (k H locs ls hP hS hls)
theorem G_av_n (X : CX g own cc nL FR LO) {n : Fin 4} {i : Nat} {x : Nat} (q : Nat) (hd : decode cc pc = .ok (.aload_n n, 1)) (hi : (n : Nat) = i) (hq : lo[q]? = some (i, .ref x)) (k : G g a b T (pc + 1) lo (.ref x :: st)) : G g a b T pc lo st := G_aload_n X q hd hi hq k
variable {index : Nat} {y : MethodName} {bytes : ByteArray} {mx fr lo2 n : Nat} {ret : Option FieldType} {As rest : List Value} {T' : TT} {rv : Option Value}
/-- a method of a String constant -/
theorem G_callK (X : CX g own cc nL FR LO) {i : Nat} (hi9 : i < nJS) (hM : Ct g.2.1 (gκ g) y bytes mx ret fr lo2 (.ref ((gκ g).2.2.2.2.1 i) :: As) T T' rv) (cal : Cal y bytes mx ret n) (hl : Cond.methodLink own index y ∈ WG) (hi : Cond.instanceMethod y ∈ WG) (hse : Cond.selects RJ0 y y ∈ WG) (hR : fr + 1 ≤ FR ∧ 8 + (mx + 11) + lo2 ≤ LO) (hn : As.length = n) {st : List Value} (hst : st = As.reverse ++ .ref ((gκ g).2.2.2.2.1 i) :: rest) (hc : (rest.map fun v => v.category).sum ≤ 8) (hab : a ≤ g.2.2.2.1.cells ∧ b ≤ g.2.2.2.1.slots)
    (hd : decode cc pc = .ok (.invokevirtual index, 3)) {st2 : List Value} (h2 : rv.toList ++ rest = st2) (k : G g a b T' (pc + 3) lo st2) : G g a b T pc lo st := by
  intro H locs ls hP hS hls
  refine run_G (va_runV (CX_fix X) (hM X.2.2.2.2.2.2.2.2.2.2.2.1 X.2.2.2.2.2.2.1) ⟨CX_callB X cal hl hR, X.2.2.2.2.1 _ hi, X.2.2.2.2.1 _ hse⟩ ⟨PreK.blind, vk_recv X.2.2.2.2.2.2.2.1.1 hi9 hS, fun U hU hW => ⟨rfl, CX_pre X hP hS hU hW⟩⟩ rfl hn (hls.1.trans X.2.2.1) hst (lv_room hc) hd hab) hS (fun H1 locs1 hP1 hS1 => by subst h2; exact k H1 locs1 ls hP1 hS1 hls)
end
theorem cal_J0_coder : Cal yJ0_coder_7d493 cJ0_coder_7d493 1 (some .byte) 0 := ⟨wC_J0_coder_7d493, w0_J0, by decide +kernel⟩
theorem cal_J0_isLatin1 : Cal yJ0_isLatin1_aae02 cJ0_isLatin1_aae02 1 (some .boolean) 0 := ⟨wC_J0_isLatin1_aae02, w0_J0, by decide +kernel⟩
theorem cal_J0_length : Cal yJ0_length_8abf5 cJ0_length_8abf5 1 (some .int) 0 := ⟨wC_J0_length_8abf5, w0_J0, by decide +kernel⟩
theorem cal_J0_charAt : Cal yJ0_charAt_5068e cJ0_charAt_5068e 2 (some .char) 1 := ⟨wC_J0_charAt_5068e, w0_J0, by decide +kernel⟩
theorem cal_J1_charAt : Cal yJ1_charAt_3b067 cJ1_charAt_3b067 2 (some .char) 2 := ⟨wC_J1_charAt_3b067, w0_J1, by decide +kernel⟩
theorem cal_J0_checkIndex : Cal yJ0_checkIndex_df160 cJ0_checkIndex_df160 2 none 2 := ⟨wC_J0_checkIndex_df160, w0_J0, by decide +kernel⟩
theorem cal_J3_checkIndex : Cal yJ3_checkIndex_8e157 cJ3_checkIndex_8e157 3 (some .int) 3 := ⟨wC_J3_checkIndex_8e157, w0_J3, by decide +kernel⟩
section
variable {l : Launch} {κ : KX} {T : TT}
theorem ct_J0_coder {i : Nat} (hi : i < nJS) : Ct l κ yJ0_coder_7d493 cJ0_coder_7d493 1 (some .byte) 0 0 [.ref (κ.2.2.2.2.1 i)] T T (some (.int 0)) := by
  refine Ct_i RJ0 rfl (by decide +kernel) (Nat.le_of_ble_eq_true rfl) (fun g hl hκ X hf => ?_)
  subst hl; subst hκ
  refine G_gets X X.2.2.2.2.2.2.2.1.2.1 wF_J0_38 dJ0_coder_7d493_0 ?_
  refine G_if_eq X (tgt := 13) dJ0_coder_7d493_3 (by decide) (fun c => absurd c (by decide)) (fun _ => ?_)
  refine G_aload_n X (x := (gκ g).2.2.2.2.1 i) 0 dJ0_coder_7d493_6 rfl rfl ?_
  refine G_scod X hi dJ0_coder_7d493_7 ?_
  refine G_goto X (tgt := 14) dJ0_coder_7d493_10 (by decide) ?_
  exact hf _ _ dJ0_coder_7d493_14 rfl
theorem ct_J0_isLatin1 {i : Nat} (hi : i < nJS) : Ct l κ yJ0_isLatin1_aae02 cJ0_isLatin1_aae02 1 (some .boolean) 0 0 [.ref (κ.2.2.2.2.1 i)] T T (some (.int 1)) := by
  refine Ct_i RJ0 rfl (by decide +kernel) (Nat.le_of_ble_eq_true rfl) (fun g hl hκ X hf => ?_)
  subst hl; subst hκ
  refine G_gets X X.2.2.2.2.2.2.2.1.2.1 wF_J0_38 dJ0_isLatin1_aae02_0 ?_
  refine G_if_eq X (tgt := 17) dJ0_isLatin1_aae02_3 (by decide) (fun c => absurd c (by decide)) (fun _ => ?_)
  refine G_aload_n X (x := (gκ g).2.2.2.2.1 i) 0 dJ0_isLatin1_aae02_6 rfl rfl ?_
  refine G_scod X hi dJ0_isLatin1_aae02_7 ?_
  refine G_if_ne X (tgt := 17) dJ0_isLatin1_aae02_10 (by decide) (fun c => absurd rfl c) (fun _ => ?_)
  refine G_iconst X (v := 1) dJ0_isLatin1_aae02_13 (by decide) ?_
  refine G_goto X (tgt := 18) dJ0_isLatin1_aae02_14 (by decide) ?_
  exact hf _ _ dJ0_isLatin1_aae02_18 rfl
theorem ct_J0_length {i : Nat} (hi : i < nJS) : Ct l κ yJ0_length_8abf5 cJ0_length_8abf5 1 (some .int) 1 20 [.ref (κ.2.2.2.2.1 i)] T T (some (.int (nI (lenJS.getD i 0)))) := by
  refine Ct_i RJ0 rfl (by decide +kernel) (Nat.le_of_ble_eq_true rfl) (fun g hl hκ X hf => ?_)
  subst hl; subst hκ
  refine G_aload_n X (x := (gκ g).2.2.2.2.1 i) 0 dJ0_length_8abf5_0 rfl rfl ?_
  refine G_sval X hi dJ0_length_8abf5_1 ?_
  refine G_svln X hi dJ0_length_8abf5_4 ?_
  refine G_aload_n X (x := (gκ g).2.2.2.2.1 i) 0 dJ0_length_8abf5_5 rfl rfl ?_
  refine G_callK X hi (As := []) (rest := [.int (nI (lenJS.getD i 0))]) (T' := T) (st2 := [.int 0, .int (nI (lenJS.getD i 0))]) (ct_J0_coder hi) cal_J0_coder wM_J0_335 wI_J0_coder_7d493 wS_J0_coder_7d493 (by decide) rfl rfl (Nat.le_of_ble_eq_true rfl) ⟨Nat.zero_le _, Nat.zero_le _⟩ dJ0_length_8abf5_6 rfl ?_
  refine G_ishr X dJ0_length_8abf5_9 ?_
  rw [js_len i hi]
  exact hf _ _ dJ0_length_8abf5_10 rfl
theorem ct_J3_checkIndex {v : Value} {j n : Int32} (h1 : ¬ j < 0) (h2 : j < n) (hv : v.category = 1) : Ct l κ yJ3_checkIndex_8e157 cJ3_checkIndex_8e157 3 (some .int) 0 0 [.int j, .int n, v] T T (some (.int j)) := by
  refine Ct_i RJ3 rfl (by decide +kernel) ?_ (fun g hl hκ X hf => ?_)
  · cases v <;> first | exact Nat.le_of_ble_eq_true rfl | cases hv
  subst hl; subst hκ
  refine G_sub [0, 1] (lo' := [(0, .int j), (1, .int n)]) rfl ?_
  refine G_iload_n X 0 dJ3_checkIndex_8e157_0 rfl rfl ?_
  refine G_if_lt X (tgt := 9) dJ3_checkIndex_8e157_1 (by decide) (fun c => absurd c h1) (fun _ => ?_)
  refine G_iload_n X 0 dJ3_checkIndex_8e157_4 rfl rfl ?_
  refine G_iload_n X 1 dJ3_checkIndex_8e157_5 rfl rfl ?_
  refine G_icmp_lt X (tgt := 16) dJ3_checkIndex_8e157_6 (by decide) (fun _ => ?_) (fun c => absurd h2 c)
  refine G_iload_n X 0 dJ3_checkIndex_8e157_16 rfl rfl ?_
  exact hf _ _ dJ3_checkIndex_8e157_17 rfl
theorem ct_J0_checkIndex {j n : Int32} (h1 : ¬ j < 0) (h2 : j < n) : Ct l κ yJ0_checkIndex_df160 cJ0_checkIndex_df160 2 none 1 22 [.int j, .int n] T T none := by
  refine Ct_v RJ0 rfl (by decide +kernel) (Nat.le_of_ble_eq_true rfl) (fun g hl hκ X hf => ?_)
  subst hl; subst hκ
  refine G_iload_n X 0 dJ0_checkIndex_df160_0 rfl rfl ?_
  refine G_iload_n X 1 dJ0_checkIndex_df160_1 rfl rfl ?_
  have go : ∀ v : Value, v.category = 1 → G g 0 0 T 5 [(0, .int j), (1, .int n)] [v, .int n, .int j] := by
    intro v hv
    refine G_callS X (As := [.int j, .int n, v]) (rest := []) (T' := T) (st2 := [.int j]) (ct_J3_checkIndex h1 h2 hv) cal_J3_checkIndex wM_J0_1059 wT_J3_checkIndex_8e157 (by decide) rfl rfl (Nat.le_of_ble_eq_true rfl) ⟨Nat.zero_le _, Nat.zero_le _⟩ dJ0_checkIndex_df160_5 rfl ?_
    refine G_pop X dJ0_checkIndex_df160_8 rfl ?_
    exact hf _ _ dJ0_checkIndex_df160_9
  rcases X.2.2.2.2.2.2.2.1.2.2.2.2 with hz | ⟨t, hz⟩
  · exact G_gets X hz wF_J0_1053 dJ0_checkIndex_df160_2 (go _ rfl)
  · exact G_gets X hz wF_J0_1053 dJ0_checkIndex_df160_2 (go _ rfl)
theorem ct_J1_charAt {i : Nat} {j : Int32} (hi : i < nJS) (hj : inb j (lenJS.getD i 0) = true) : Ct l κ yJ1_charAt_3b067 cJ1_charAt_3b067 2 (some .char) 2 43 [.ref (κ.2.2.2.2.2 i), .int j] T T (some (.int (chJ i (ix j)))) := by
  refine Ct_i RJ1 rfl (by decide +kernel) (Nat.le_of_ble_eq_true rfl) (fun g hl hκ X hf => ?_)
  subst hl; subst hκ
  have hb := of_decide_eq_true hj
  have h9 := (js_all i hi).1
  have hl := inb_lt hj
  have h1 : ¬ j < 0 := by rw [Int32.lt_iff_toInt_lt]; show ¬ j.toInt < 0; omega
  have h2 : j < nI (lenJS.getD i 0) := by rw [Int32.lt_iff_toInt_lt, nI_toInt (by omega)]; exact hb.2
  refine G_iload_n X 1 dJ1_charAt_3b067_0 rfl rfl ?_
  refine G_aload_n X (x := (gκ g).2.2.2.2.2 i) 0 dJ1_charAt_3b067_1 rfl rfl ?_
  refine G_svln X hi dJ1_charAt_3b067_2 ?_
  refine G_callS X (As := [.int j, .int (nI (lenJS.getD i 0))]) (rest := []) (T' := T) (st2 := []) (ct_J0_checkIndex h1 h2) cal_J0_checkIndex wM_J1_9 wT_J0_checkIndex_df160 (by decide) rfl rfl (Nat.le_of_ble_eq_true rfl) ⟨Nat.zero_le _, Nat.zero_le _⟩ dJ1_charAt_3b067_3 rfl ?_
  refine G_aload_n X (x := (gκ g).2.2.2.2.2 i) 0 dJ1_charAt_3b067_6 rfl rfl ?_
  refine G_iload_n X 1 dJ1_charAt_3b067_7 rfl rfl ?_
  refine G_svld X hi hj dJ1_charAt_3b067_8 ?_
  refine G_sipush X (v := 255) dJ1_charAt_3b067_9 (by decide) ?_
  refine G_iand X dJ1_charAt_3b067_12 ?_
  refine G_i2c X dJ1_charAt_3b067_13 (js_ch i hi _ (by omega)).1 ?_
  exact hf _ _ dJ1_charAt_3b067_14 (js_ch i hi _ (by omega)).2
theorem ct_J0_charAt {i : Nat} {j : Int32} (hi : i < nJS) (hj : inb j (lenJS.getD i 0) = true) : Ct l κ yJ0_charAt_5068e cJ0_charAt_5068e 2 (some .char) 3 64 [.ref (κ.2.2.2.2.1 i), .int j] T T (some (.int (chJ i (ix j)))) := by
  refine Ct_i RJ0 rfl (by decide +kernel) (Nat.le_of_ble_eq_true rfl) (fun g hl hκ X hf => ?_)
  subst hl; subst hκ
  refine G_aload_n X (x := (gκ g).2.2.2.2.1 i) 0 dJ0_charAt_5068e_0 rfl rfl ?_
  refine G_callK X hi (As := []) (rest := []) (T' := T) (st2 := [.int 1]) (ct_J0_isLatin1 hi) cal_J0_isLatin1 wM_J0_492 wI_J0_isLatin1_aae02 wS_J0_isLatin1_aae02 (by decide) rfl rfl (Nat.le_of_ble_eq_true rfl) ⟨Nat.zero_le _, Nat.zero_le _⟩ dJ0_charAt_5068e_1 rfl ?_
  refine G_if_eq X (tgt := 16) dJ0_charAt_5068e_4 (by decide) (fun c => absurd c (by decide)) (fun _ => ?_)
  refine G_aload_n X (x := (gκ g).2.2.2.2.1 i) 0 dJ0_charAt_5068e_7 rfl rfl ?_
  refine G_sval X hi dJ0_charAt_5068e_8 ?_
  refine G_iload_n X 1 dJ0_charAt_5068e_11 rfl rfl ?_
  refine G_callS X (As := [.ref ((gκ g).2.2.2.2.2 i), .int j]) (rest := []) (T' := T) (st2 := [.int (chJ i (ix j))]) (ct_J1_charAt hi hj) cal_J1_charAt wM_J0_495 wT_J1_charAt_3b067 (by decide) rfl rfl (Nat.le_of_ble_eq_true rfl) ⟨Nat.zero_le _, Nat.zero_le _⟩ dJ0_charAt_5068e_12 rfl ?_
  exact hf _ _ dJ0_charAt_5068e_15 (js_ch i hi _ (by have := (js_all i hi).1; have := inb_lt hj; omega)).2
end
section
variable {g : GX} {a b : Nat} {T : TT} {pc : Nat} {lo : List (Nat × Value)} {st : List Value} {own : String} {cc : ByteArray} {nL FR LO : Nat}
theorem G_slen (X : CX g own cc nL FR LO) {index i : Nat} (hl : Cond.methodLink own index yJ0_length_8abf5 ∈ WG) (hi : i < nJS) (hR : 4 ≤ FR ∧ 85 ≤ LO) (hc : (st.map fun v => v.category).sum ≤ 8) (hab : a ≤ g.2.2.2.1.cells ∧ b ≤ g.2.2.2.1.slots) (hd : decode cc pc = .ok (.invokevirtual index, 3)) (k : G g a b T (pc + 3) lo (.int (nI (lenJS.getD i 0)) :: st)) : G g a b T pc lo (.ref ((gκ g).2.2.2.2.1 i) :: st) :=
  G_callK X hi (As := []) (rest := st) (T' := T) (ct_J0_length hi) cal_J0_length hl wI_J0_length_8abf5 wS_J0_length_8abf5 (by omega) rfl rfl hc hab hd rfl k
theorem G_schr (X : CX g own cc nL FR LO) {index i : Nat} {j : Int32} (hl : Cond.methodLink own index yJ0_charAt_5068e ∈ WG) (hi : i < nJS) (hj : inb j (lenJS.getD i 0) = true) (hR : 4 ≤ FR ∧ 85 ≤ LO) (hc : (st.map fun v => v.category).sum ≤ 8) (hab : a ≤ g.2.2.2.1.cells ∧ b ≤ g.2.2.2.1.slots) (hd : decode cc pc = .ok (.invokevirtual index, 3)) (k : G g a b T (pc + 3) lo (.int (chJ i (ix j)) :: st)) : G g a b T pc lo (.int j :: .ref ((gκ g).2.2.2.2.1 i) :: st) :=
  G_callK X hi (As := [.int j]) (rest := st) (T' := T) (ct_J0_charAt hi hj) cal_J0_charAt hl wI_J0_charAt_5068e wS_J0_charAt_5068e (by omega) rfl rfl hc hab hd rfl k
end
