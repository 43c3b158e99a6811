/-! StringBuilder: made; toString; the String that it makes; Arrays.fill -/
section
variable {g : GX} {ξ : XI} {a b : Nat} {T : va_W} {pc : Nat} {lo : List (Nat × Value)} {own : String} {cc : ByteArray} {nL FR LO RC RS : Nat}
/-- an overriding method -/
theorem L_cO (X : CL g own cc nL FR LO RC RS) (E : XE g ξ) {index : Nat} {xm y : MethodName} {bytes : ByteArray} {mx fr lo2 dc ds n : Nat} {ret : Option FieldType} {As rest : List Value} {post : Option Value → va_W → Prop} {owner : String} {x ci : Nat} {fs : List Value} {q : vw_C} {b0 : ByteArray} {m0 : Nat} {r0 : Option FieldType} (hM : CtM g.2.1 (gκ g) ξ y bytes mx ret fr lo2 dc ds (.ref x :: As) T post) (cal : Cal y bytes mx ret n) (hl : Cond.methodLink own index xm ∈ WG) (hsm : Cond.sameMethod xm.cls owner xm.name xm.desc ∈ WG) (hi0 : Cond.instanceMethod ⟨owner, xm.name, xm.desc⟩ ∈ WG) (hi : Cond.instanceMethod y ∈ WG) (hse : Cond.selects q.1 xm y ∈ WG) (h0 : Cond.code ⟨owner, xm.name, xm.desc⟩ b0 m0 r0 ∈ WG) (how : owner ≠ "java/lang/invoke/MethodHandle" ∧ owner ≠ "java/lang/invoke/VarHandle" ∧ (parseMethodDescriptor xm.desc).map (fun d => d.parameters.length) = some n) (i : Nat) (he : T[i]? = some (x, .inr (ci, fs))) (hq : vwCl[ci]? = some q) (hR : Rm FR LO RC RS fr mx lo2 a b dc ds) (hn : As.length = n) {st : List Value} (hst : st = As.reverse ++ .ref x :: rest) (hc : (rest.map fun v => v.category).sum ≤ 8)
    (hd : decode cc pc = .ok (.invokevirtual index, 3)) (k : ∀ rv T1, post rv T1 → L g (a + dc) (b + ds) T1 (pc + 3) lo (rv.toList ++ rest)) : L g a b T pc lo st := by
  intro H locs ls hP hS hls
  exact run_M (va_runU (CL_fix X) (hM X.2.2.2.2.2.2.2.2.2.2.2.1) (va_cwO n X.2.2.2.2.1 (fun w hw => by
      rcases List.mem_append.mp hw with hw | hw
      · rcases List.mem_cons.mp hw with rfl | hw
        · exact WG_ok hl
        rcases List.mem_cons.mp hw with rfl | hw
        · exact WG_ok hsm
        rcases List.mem_cons.mp hw with rfl | hw
        · exact WG_ok hi0
        rcases List.mem_cons.mp hw with rfl | hw
        · exact WG_ok hse
        rcases List.mem_cons.mp hw with rfl | hw
        · exact WG_ok hi
        rcases List.mem_cons.mp hw with rfl | hw
        · exact WG_ok cal.2.1
        · exact absurd hw List.not_mem_nil
      · exact wsK_in cal.1 w hw) rfl rfl rfl h0 how (by rw [X.2.2.2.2.2.2.2.2.1, X.2.2.2.2.2.2.2.2.2.1]; exact hR.1)) ⟨PreM.blind, va_recv X.2.2.2.2.2.1.1 hP.1 hq he, fun U hU hW => ⟨rfl, XE_pre X E hP hS hU hW⟩⟩ rfl hn (hls.1.trans X.2.2.1) hst (lv_room hc) hd (by rw [X.2.2.2.2.2.2.1.1, X.2.2.2.2.2.2.1.2.1]; exact hR.2)) hS (fun rv T1 H1 locs1 hp hP1 hS1 => k rv T1 hp H1 locs1 ls hP1 hS1 hls)
theorem L_castB (X : CL g own cc nL FR LO RC RS) {x n index : Nat} {f : Nat → Int32} {st : List Value} (hl : Cond.classLink own index "[B" ∈ WG) (q : Nat) (he : T[q]? = some (x, .inl ((gκ g).2.1 2, n, .inl f))) (hd : decode cc pc = .ok (.checkcast index, 3)) (k : L g a b T (pc + 3) lo (.ref x :: st)) : L g a b T pc lo (.ref x :: st) := by
  intro H locs ls hP hS hls
  exact va_castA X.1 X.2.1 X.2.2.2.1 (X.2.2.2.2.1 _ hl) hP.1 q he (X.2.2.2.2.2.1.1.2 1 _ rfl).2 hd (k H locs ls hP hS hls)
theorem L_getq (X : CL g own cc nL FR LO RC RS) {index : Nat} {C n d ref : String} {st : List Value} (hZ : va_Zq C n d (kA (gκ g)) (gs g) (gs g).heap) (href : C = ref) (hl : Cond.fieldLink own index ref n d ∈ WG) (hd : decode cc pc = .ok (.getstatic index, 3)) (k0 : L g a b T (pc + 3) lo (.null :: st)) (k : ∀ t : Nat, L g a b T (pc + 3) lo (.ref t :: st)) : L g a b T pc lo st := by
  rcases hZ with h | ⟨t, h⟩
  · exact L_gets X h href hl hd k0
  · exact L_gets X h href hl hd (k t)
end
theorem mn_n {n cap : Nat} (h : n ≤ cap) (hc : cap < 2 ^ 31) : nI n = (if nI n < nI cap then nI n else nI cap) := by
  by_cases e : n < cap
  · rw [if_pos (nI_lt e hc)]
  · rw [if_neg (nI_nlt (by omega) (by omega)), show n = cap by omega]
theorem arrI_ext {cA : ClassId} {n : Nat} {f f' : Nat → Int32} (h : ∀ k, k < n → f k = f' k) : vp_cell cA (n, .inl f) = vp_cell cA (n, .inl f') := by
  rw [vp_cell_i, vp_cell_i]
  exact arrV_ext (fun k hk => by rw [h k hk])
theorem cm_J5_init_d00df {l : Launch} {κ : KX} {ξ : XI} {T0 : va_W} {q : Nat}  : CtM l κ ξ yJ5_init_d00df cJ5_init_d00df 2 none 1 12 1 16 [.ref q, .int 16] ((q, .inr (11, fzJ4)) :: T0) (fun rv T => ∃ v : Nat, rv = none ∧ T = (q, .inr (11, [.ref v, .int 0, .int 0, .int (nI 0)])) :: (v, .inl (κ.2.1 2, 16, .inl (fun _ => 0))) :: T0) := by
  refine CtM_v RJ5 rfl (by decide +kernel) (Nat.le_of_ble_eq_true rfl) (fun g hgl hgκ X E hini hf => ?_)
  subst hgl; subst hgκ
  refine L_aload_n X 0 dJ5_init_d00df_0 rfl rfl ?_
  refine L_obj X wM_J5_3 wI_obj wC_obj ⟨(Nat.le_of_ble_eq_true rfl), (Nat.le_of_ble_eq_true rfl)⟩ dJ5_init_d00df_1 ?_
  refine L_gets X (CL_cs X) rfl wF_J5_18 dJ5_init_d00df_4 ?_
  refine L_if_eq X (tgt := 25) dJ5_init_d00df_7 (by decide) (fun hn => absurd hn (by decide)) (fun _ => ?_)
  refine L_aload_n X 0 dJ5_init_d00df_10 rfl rfl ?_
  refine L_iload_n X 1 dJ5_init_d00df_11 rfl rfl ?_
  refine L_newa X (atype := .byte) (ty := .byte) (t := 1) (N := 16) (a0 := (16, .inl (fun _ => 0))) rfl wA_143 rfl (fun _ => rfl) (by decide) (by decide) (Nat.le_of_ble_eq_true rfl) (by omega) (by omega) dJ5_init_d00df_12 (fun q1 => ?_)
  refine L_put X (C := RJ4) (Tf := TJ4) (N := 4) (c := 11) (k := 0) (T' := ((q1, .inl ((gκ g).2.1 2, 16, .inl (fun _ => 0))) :: (q, .inr (11, [.ref q1, .int 0, .int 0, .int 0])) :: T0)) rfl iJ4 tyJ4_ok nmJ4 (by decide) rfl rfl (tyJ4_ok _ (by decide)) wF_J5_15 1 rfl rfl rfl (Nat.le_of_ble_eq_true rfl) rfl dJ5_init_d00df_14 ?_
  refine L_aload_n X 0 dJ5_init_d00df_17 rfl rfl ?_
  refine L_iconst X (v := 0) dJ5_init_d00df_18 rfl ?_
  refine L_put X (C := RJ4) (Tf := TJ4) (N := 4) (c := 11) (k := 1) (T' := ((q1, .inl ((gκ g).2.1 2, 16, .inl (fun _ => 0))) :: (q, .inr (11, [.ref q1, .int 0, .int 0, .int 0])) :: T0)) rfl iJ4 tyJ4_ok nmJ4 (by decide) rfl rfl (tyJ4_ok _ (by decide)) wF_J5_22 1 rfl rfl rfl (Nat.le_of_ble_eq_true rfl) rfl dJ5_init_d00df_19 ?_
  refine L_goto X (tgt := 38) dJ5_init_d00df_22 (by decide) ?_
  refine L_perm pm_2 ?_
  refine L_widen (a' := 1) (b' := 16) (by omega) (by omega) ?_
  exact hf _ _ _ dJ5_init_d00df_38 ⟨q1, rfl, rfl⟩

theorem cm_J4_init_da8c8 {l : Launch} {κ : KX} {ξ : XI} {T0 : va_W} {q : Nat}  : CtM l κ ξ yJ4_init_da8c8 cJ4_init_da8c8 1 none 2 33 1 16 [.ref q] ((q, .inr (11, fzJ4)) :: T0) (fun rv T => ∃ v : Nat, rv = none ∧ T = (q, .inr (11, [.ref v, .int 0, .int 0, .int (nI 0)])) :: (v, .inl (κ.2.1 2, 16, .inl (fun _ => 0))) :: T0) := by
  refine CtM_v RJ4 rfl (by decide +kernel) (Nat.le_of_ble_eq_true rfl) (fun g hgl hgκ X E hini hf => ?_)
  subst hgl; subst hgκ
  refine L_aload_n X 0 dJ4_init_da8c8_0 rfl rfl ?_
  refine L_bipush X (v := 16) dJ4_init_da8c8_1 rfl ?_
  refine L_cI X E (As := [.int 16]) (rest := []) (cm_J5_init_d00df) cal_J5_init_d00df wM_J4_1 rfl wI_J5_init_d00df ⟨⟨(Nat.le_of_ble_eq_true rfl), (Nat.le_of_ble_eq_true rfl)⟩, ⟨by omega, by omega⟩⟩ rfl rfl (Nat.le_of_ble_eq_true rfl) dJ4_init_da8c8_3 (fun rv T1 hT => ?_)
  obtain ⟨v, rfl, rfl⟩ := hT
  refine L_widen (a' := 1) (b' := 16) (by omega) (by omega) ?_
  exact hf _ _ _ dJ4_init_da8c8_6 ⟨v, rfl, rfl⟩

theorem cm_J5_getValue_6d5f1 {l : Launch} {κ : KX} {ξ : XI} {T0 : va_W} {q v : Nat} {ml n : Int32} (k : Nat) (he : T0[k]? = some (q, .inr (11, [.ref v, .int 0, .int ml, .int n]))) : CtM l κ ξ yJ5_getValue_6d5f1 cJ5_getValue_6d5f1 1 (some (.array .byte)) 0 0 0 0 [.ref q] T0 (fun rv T => rv = some (.ref v) ∧ T = T0) := by
  refine CtM_a RJ5 rfl (by decide +kernel) rfl (Nat.le_of_ble_eq_true rfl) (fun g hgl hgκ X E hf => ?_)
  subst hgl; subst hgκ
  refine L_aload_n X 0 dJ5_getValue_6d5f1_0 rfl rfl ?_
  refine L_get X (C := RJ4) (Tf := TJ4) (N := 4) (c := 11) (k := 0) rfl iJ4 (by decide) rfl wF_J5_15 k he rfl dJ5_getValue_6d5f1_1 ?_
  exact hf _ _ _ _ dJ5_getValue_6d5f1_4 ⟨rfl, rfl⟩

theorem cm_J5_length_8abf5 {l : Launch} {κ : KX} {ξ : XI} {T0 : va_W} {q v : Nat} {ml n : Int32} (k : Nat) (he : T0[k]? = some (q, .inr (11, [.ref v, .int 0, .int ml, .int n]))) : CtM l κ ξ yJ5_length_8abf5 cJ5_length_8abf5 1 (some .int) 0 0 0 0 [.ref q] T0 (fun rv T => rv = some (.int n) ∧ T = T0) := by
  refine CtM_i RJ5 rfl (by decide +kernel) (Nat.le_of_ble_eq_true rfl) (fun g hgl hgκ X E hf => ?_)
  subst hgl; subst hgκ
  refine L_aload_n X 0 dJ5_length_8abf5_0 rfl rfl ?_
  refine L_get X (C := RJ4) (Tf := TJ4) (N := 4) (c := 11) (k := 3) rfl iJ4 (by decide) rfl wF_J5_79 k he rfl dJ5_length_8abf5_1 ?_
  exact hf _ _ _ _ dJ5_length_8abf5_4 rfl ⟨rfl, rfl⟩

theorem cm_J4_length_8abf5 {l : Launch} {κ : KX} {ξ : XI} {T0 : va_W} {q v : Nat} {ml n : Int32} (k : Nat) (he : T0[k]? = some (q, .inr (11, [.ref v, .int 0, .int ml, .int n]))) : CtM l κ ξ yJ4_length_8abf5 cJ4_length_8abf5 1 (some .int) 1 20 0 0 [.ref q] T0 (fun rv T => rv = some (.int n) ∧ T = T0) := by
  refine CtM_i RJ4 rfl (by decide +kernel) (Nat.le_of_ble_eq_true rfl) (fun g hgl hgκ X E hf => ?_)
  subst hgl; subst hgκ
  refine L_aload_n X 0 dJ4_length_8abf5_0 rfl rfl ?_
  refine L_cSU X E (q := vcl 11) (As := []) (rest := []) (cm_J5_length_8abf5 k he) cal_J5_length_8abf5 wM_J4_343 wX_1041 wU_J4 wI_J5_length_8abf5 (by decide) k he rfl ⟨⟨(Nat.le_of_ble_eq_true rfl), (Nat.le_of_ble_eq_true rfl)⟩, ⟨by omega, by omega⟩⟩ rfl rfl (Nat.le_of_ble_eq_true rfl) dJ4_length_8abf5_1 (fun rv T1 hT => ?_)
  obtain ⟨rfl, rfl⟩ := hT
  exact hf _ _ _ _ dJ4_length_8abf5_4 rfl ⟨rfl, rfl⟩

theorem cm_J7_checkLength_df160 {l : Launch} {κ : KX} {ξ : XI} {T0 : va_W} {n : Nat} (hn : n ≤ 1300) : CtM l κ ξ yJ7_checkLength_df160 cJ7_checkLength_df160 2 none 0 0 0 0 [.int 0, .int (nI n)] T0 (fun rv T => rv = none ∧ T = T0) := by
  refine CtM_v RJ7 rfl (by decide +kernel) (Nat.le_of_ble_eq_true rfl) (fun g hgl hgκ X E hini hf => ?_)
  subst hgl; subst hgκ
  refine L_iload_n X 1 dJ7_checkLength_df160_0 rfl rfl ?_
  refine L_iload_n X 0 dJ7_checkLength_df160_1 rfl rfl ?_
  refine L_icmp_ge X (tgt := 37) dJ7_checkLength_df160_2 (by decide) (fun _ => ?_) (fun hn => absurd (nI_pos' (by omega)) hn)
  exact hf _ _ _ dJ7_checkLength_df160_37 ⟨rfl, rfl⟩

theorem cm_J7_copyOfRangeByte_39247 {l : Launch} {κ : KX} {ξ : XI} {T0 : va_W} {v n cap : Nat} {f : Nat → Int32} (k2 : Nat) (he2 : T0[k2]? = some (v, .inl (κ.2.1 2, cap, .inl f))) (hn : n ≤ cap) (hc : cap ≤ 1300) (hfit : sb_Fit f) : CtM l κ ξ yJ7_copyOfRangeByte_39247 cJ7_copyOfRangeByte_39247 5 (some (.array .byte)) 1 60 1 1300 [.ref v, .int 0, .int (nI n)] T0 (fun rv T => ∃ (z : Nat) (f2 : Nat → Int32), rv = some (.ref z) ∧ (∀ i, i < n → f2 i = f i) ∧ sb_Fit f2 ∧ T = (z, .inl (κ.2.1 2, n, .inl f2)) :: T0) := by
  refine CtM_a RJ7 rfl (by decide +kernel) rfl (Nat.le_of_ble_eq_true rfl) (fun g hgl hgκ X E hf => ?_)
  subst hgl; subst hgκ
  refine L_iload_n X 1 dJ7_copyOfRangeByte_39247_0 rfl rfl ?_
  refine L_iload_n X 2 dJ7_copyOfRangeByte_39247_1 rfl rfl ?_
  refine L_cS X E (As := [.int 0, .int (nI n)]) (rest := []) (cm_J7_checkLength_df160 (by omega)) cal_J7_checkLength_df160 wM_J7_343 wT_J7_checkLength_df160 ⟨⟨(Nat.le_of_ble_eq_true rfl), (Nat.le_of_ble_eq_true rfl)⟩, ⟨by omega, by omega⟩⟩ rfl rfl (Nat.le_of_ble_eq_true rfl) dJ7_copyOfRangeByte_39247_2 (fun rv T1 hT => ?_)
  obtain ⟨rfl, hT⟩ := hT
  rw [hT]
  refine L_iload_n X 2 dJ7_copyOfRangeByte_39247_5 rfl rfl ?_
  refine L_iload_n X 1 dJ7_copyOfRangeByte_39247_6 rfl rfl ?_
  refine L_isub X dJ7_copyOfRangeByte_39247_7 ?_
  refine L_nmi (v := nI n) (Int32.sub_zero _).symm ?_
  refine L_istore_n X dJ7_copyOfRangeByte_39247_8 rfl (by decide) rfl ?_
  refine L_iload_n X 0 dJ7_copyOfRangeByte_39247_9 rfl rfl ?_
  refine L_newa X (atype := .byte) (ty := .byte) (t := 1) (N := n) (a0 := (n, .inl (fun _ => 0))) rfl wA_143 rfl (fun _ => rfl) (nI_pos (by omega)) (nI_clamp (by omega)) (by show n * 1 ≤ _; omega) (by omega) (by omega) dJ7_copyOfRangeByte_39247_10 (fun q1 => ?_)
  refine L_astore X dJ7_copyOfRangeByte_39247_12 (by decide) rfl ?_
  refine L_aload_n X 2 dJ7_copyOfRangeByte_39247_14 rfl rfl ?_
  refine L_iload_n X 3 dJ7_copyOfRangeByte_39247_15 rfl rfl ?_
  refine L_aload X 0 dJ7_copyOfRangeByte_39247_16 rfl ?_
  refine L_iconst X (v := 0) dJ7_copyOfRangeByte_39247_18 rfl ?_
  refine L_aload_n X 2 dJ7_copyOfRangeByte_39247_19 rfl rfl ?_
  refine L_alen X (k2 + 1) 1 he2 rfl rfl rfl dJ7_copyOfRangeByte_39247_20 ?_
  refine L_iload_n X 3 dJ7_copyOfRangeByte_39247_21 rfl rfl ?_
  refine L_isub X dJ7_copyOfRangeByte_39247_22 ?_
  refine L_nmi (v := nI cap) (Int32.sub_zero _).symm ?_
  refine L_iload_n X 1 dJ7_copyOfRangeByte_39247_23 rfl rfl ?_
  refine L_mmin X wM_J7_304 ⟨(Nat.le_of_ble_eq_true rfl), (Nat.le_of_ble_eq_true rfl)⟩ (Nat.le_of_ble_eq_true rfl) ⟨(by omega), (by omega)⟩ dJ7_copyOfRangeByte_39247_24 ?_
  refine L_nmi (v := nI n) (mn_n hn (by omega)) ?_
  refine L_copy X (t := 1) (T' := ((q1, .inl ((gκ g).2.1 2, n, .inl (va_cpy f (fun _ => 0) (ix 0) (ix 0) (ix (nI n))))) :: T0)) wM_J7_150 (k2 + 1) 0 he2 rfl rfl rfl (by decide) (by decide) (nI_pos (by omega)) (by rw [ix_n (by omega)]; show 0 + n ≤ cap; omega) (by rw [ix_n (by omega)]; show 0 + n ≤ n; omega) (fun i _ => hfit _) ⟨(Nat.le_of_ble_eq_true rfl), (Nat.le_of_ble_eq_true rfl)⟩ rfl dJ7_copyOfRangeByte_39247_27 ?_
  refine L_aload X 0 dJ7_copyOfRangeByte_39247_30 rfl ?_
  refine L_widen (a' := 1) (b' := 1300) (by omega) (by omega) ?_
  exact hf _ _ _ _ dJ7_copyOfRangeByte_39247_32 ⟨q1, _, rfl, fun i hi => by rw [ix_n (by omega)]; exact sb_cpy0 hi, sb_fitC hfit sb_fit0, rfl⟩

theorem cm_J7_copyOfRange_39247 {l : Launch} {κ : KX} {ξ : XI} {T0 : va_W} {v n cap : Nat} {f : Nat → Int32} (k2 : Nat) (he2 : T0[k2]? = some (v, .inl (κ.2.1 2, cap, .inl f))) (hn : n ≤ cap) (hc : cap ≤ 1300) (hfit : sb_Fit f) : CtM l κ ξ yJ7_copyOfRange_39247 cJ7_copyOfRange_39247 3 (some (.array .byte)) 2 84 1 1300 [.ref v, .int 0, .int (nI n)] T0 (fun rv T => ∃ (z : Nat) (f2 : Nat → Int32), rv = some (.ref z) ∧ (∀ i, i < n → f2 i = f i) ∧ sb_Fit f2 ∧ T = (z, .inl (κ.2.1 2, n, .inl f2)) :: T0) := by
  refine CtM_a RJ7 rfl (by decide +kernel) rfl (Nat.le_of_ble_eq_true rfl) (fun g hgl hgκ X E hf => ?_)
  subst hgl; subst hgκ
  refine L_iload_n X 1 dJ7_copyOfRange_39247_0 rfl rfl ?_
  refine L_if_ne X (tgt := 10) dJ7_copyOfRange_39247_1 (by decide) (fun hn => absurd hn (fun h => h rfl)) (fun _ => ?_)
  refine L_iload_n X 2 dJ7_copyOfRange_39247_4 rfl rfl ?_
  refine L_aload_n X 0 dJ7_copyOfRange_39247_5 rfl rfl ?_
  refine L_alen X k2 1 he2 rfl rfl rfl dJ7_copyOfRange_39247_6 ?_
  refine L_icmp_eq X (tgt := 17) dJ7_copyOfRange_39247_7 (by decide) (fun hc9 => ?_) (fun hc9 => ?_)
  · obtain rfl : n = cap := (nI_eq (by omega) (by omega)).mp hc9
    refine L_aload_n X 0 dJ7_copyOfRange_39247_17 rfl rfl ?_
    refine L_clone X E wM_J7_310 k2 he2 (fun i _ => hfit i) ⟨(Nat.le_of_ble_eq_true rfl), by show 0 + 14 ≤ _; omega⟩ (by omega) (by omega) dJ7_copyOfRange_39247_18 (fun q1 => ?_)
    refine L_castB X wCl_J7_311 0 rfl dJ7_copyOfRange_39247_21 ?_
    refine L_widen (a' := 1) (b' := 1300) (by omega) (by omega) ?_
    exact hf _ _ _ _ dJ7_copyOfRange_39247_24 ⟨q1, f, rfl, fun _ _ => rfl, hfit, rfl⟩
  · refine L_aload_n X 0 dJ7_copyOfRange_39247_10 rfl rfl ?_
    refine L_iload_n X 1 dJ7_copyOfRange_39247_11 rfl rfl ?_
    refine L_iload_n X 2 dJ7_copyOfRange_39247_12 rfl rfl ?_
    refine L_cS X E (As := [.ref v, .int 0, .int (nI n)]) (rest := []) (cm_J7_copyOfRangeByte_39247 k2 he2 hn hc hfit) cal_J7_copyOfRangeByte_39247 wM_J7_339 wT_J7_copyOfRangeByte_39247 ⟨⟨(Nat.le_of_ble_eq_true rfl), (Nat.le_of_ble_eq_true rfl)⟩, ⟨by omega, by omega⟩⟩ rfl rfl (Nat.le_of_ble_eq_true rfl) dJ7_copyOfRange_39247_13 (fun rv T1 hT => ?_)
    obtain ⟨z2, f2, rfl, hf2, hft2, rfl⟩ := hT
    refine L_widen (a' := 1) (b' := 1300) (by omega) (by omega) ?_
    exact hf _ _ _ _ dJ7_copyOfRange_39247_16 ⟨z2, f2, rfl, hf2, hft2, rfl⟩

theorem cm_J0_init_db425 {l : Launch} {κ : KX} {ξ : XI} {T0 : va_W} {z q v n cap : Nat} {ml : Int32} {f : Nat → Int32} (hn : n ≤ cap) (hc : cap ≤ 1300) (hfit : sb_Fit f) : CtM l κ ξ yJ0_init_db425 cJ0_init_db425 5 none 3 106 1 1300 [.ref z, .ref q, .null] ((z, .inr (12, fzJ0)) :: (q, .inr (11, [.ref v, .int 0, .int ml, .int (nI n)])) :: (v, .inl (κ.2.1 2, cap, .inl f)) :: T0) (fun rv T => ∃ (z2 : Nat) (f2 : Nat → Int32), rv = none ∧ (∀ i, i < n → f2 i = f i) ∧ sb_Fit f2 ∧ T = (z, .inr (12, [.ref z2, .int 0, .int 0, .int 0])) :: (z2, .inl (κ.2.1 2, n, .inl f2)) :: (q, .inr (11, [.ref v, .int 0, .int ml, .int (nI n)])) :: (v, .inl (κ.2.1 2, cap, .inl f)) :: T0) := by
  refine CtM_v RJ0 rfl (by decide +kernel) (Nat.le_of_ble_eq_true rfl) (fun g hgl hgκ X E hini hf => ?_)
  subst hgl; subst hgκ
  refine L_aload_n X 0 dJ0_init_db425_0 rfl rfl ?_
  refine L_obj X wM_J0_1 wI_obj wC_obj ⟨(Nat.le_of_ble_eq_true rfl), (Nat.le_of_ble_eq_true rfl)⟩ dJ0_init_db425_1 ?_
  refine L_aload_n X 1 dJ0_init_db425_4 rfl rfl ?_
  refine L_cU X E (q := vcl 11) (owner := RJ5) (As := []) (rest := []) (cm_J5_getValue_6d5f1 1 rfl) cal_J5_getValue_6d5f1 wM_J0_552 wX_1036 wI_J5_getValue_6d5f1 (List.mem_append_left _ wO_J5_getValue_6d5f1) rfl 1 rfl rfl ⟨⟨(Nat.le_of_ble_eq_true rfl), (Nat.le_of_ble_eq_true rfl)⟩, ⟨by omega, by omega⟩⟩ rfl rfl (Nat.le_of_ble_eq_true rfl) dJ0_init_db425_5 (fun rv T1 hT => ?_)
  obtain ⟨rfl, rfl⟩ := hT
  refine L_astore_n X dJ0_init_db425_8 rfl (by decide) rfl ?_
  refine L_aload_n X 2 dJ0_init_db425_9 rfl rfl ?_
  refine L_cO X E (q := vcl 11) (owner := RJ5) (As := []) (rest := []) (cm_J4_length_8abf5 1 rfl) cal_J4_length_8abf5 wM_J0_549 wX_1041 wI_J5_length_8abf5 wI_J4_length_8abf5 wO_J4_length_8abf5 wC_J5_length_8abf5 (by decide +kernel) 1 rfl rfl ⟨⟨(Nat.le_of_ble_eq_true rfl), (Nat.le_of_ble_eq_true rfl)⟩, ⟨by omega, by omega⟩⟩ rfl rfl (Nat.le_of_ble_eq_true rfl) dJ0_init_db425_10 (fun rv T hT => ?_)
  obtain ⟨rfl, rfl⟩ := hT
  refine L_istore X dJ0_init_db425_13 (by decide) rfl ?_
  refine L_aload_n X 3 dJ0_init_db425_15 rfl rfl ?_
  refine L_cU X E (q := vcl 11) (owner := RJ5) (As := []) (rest := []) (cm_J5_isLatin1_aae02 1 rfl) cal_J5_isLatin1_aae02 wM_J0_1047 wX_863 wI_J5_isLatin1_aae02 (List.mem_append_left _ wO_J5_isLatin1_aae02) rfl 1 rfl rfl ⟨⟨(Nat.le_of_ble_eq_true rfl), (Nat.le_of_ble_eq_true rfl)⟩, ⟨by omega, by omega⟩⟩ rfl rfl (Nat.le_of_ble_eq_true rfl) dJ0_init_db425_16 (fun rv T1 hT => ?_)
  obtain ⟨rfl, rfl⟩ := hT
  refine L_if_eq X (tgt := 41) dJ0_init_db425_19 (by decide) (fun hn => absurd hn (by decide)) (fun _ => ?_)
  refine L_aload_n X 2 dJ0_init_db425_22 rfl rfl ?_
  refine L_iconst X (v := 0) dJ0_init_db425_23 rfl ?_
  refine L_putF X hini (C := RJ0) (Tf := TJ0) (N := 4) (c := 12) (k := 1) (T' := ((z, .inr (12, [.null, .int 0, .int 0, .int 0])) :: (q, .inr (11, [.ref v, .int 0, .int ml, .int (nI n)])) :: (v, .inl ((gκ g).2.1 2, cap, .inl f)) :: T0)) rfl iJ0 tyJ0_ok nmJ0 (by decide) rfl rfl rfl (tyJ0_ok _ (by decide)) wF_J0_15 0 rfl rfl rfl (Nat.le_of_ble_eq_true rfl) rfl dJ0_init_db425_24 ?_
  refine L_aload_n X 2 dJ0_init_db425_27 rfl rfl ?_
  refine L_aload_n X 1 dJ0_init_db425_28 rfl rfl ?_
  refine L_iconst X (v := 0) dJ0_init_db425_29 rfl ?_
  refine L_iload X 0 dJ0_init_db425_30 rfl ?_
  refine L_cS X E (As := [.ref v, .int 0, .int (nI n)]) (rest := [.ref z]) (cm_J7_copyOfRange_39247 2 rfl hn hc hfit) cal_J7_copyOfRange_39247 wM_J0_54 wT_J7_copyOfRange_39247 ⟨⟨(Nat.le_of_ble_eq_true rfl), (Nat.le_of_ble_eq_true rfl)⟩, ⟨by omega, by omega⟩⟩ rfl rfl (Nat.le_of_ble_eq_true rfl) dJ0_init_db425_32 (fun rv T1 hT => ?_)
  obtain ⟨z2, f2, rfl, hf2, hft2, rfl⟩ := hT
  refine L_putF X hini (C := RJ0) (Tf := TJ0) (N := 4) (c := 12) (k := 0) (T' := ((z2, .inl ((gκ g).2.1 2, n, .inl f2)) :: (z, .inr (12, [.ref z2, .int 0, .int 0, .int 0])) :: (q, .inr (11, [.ref v, .int 0, .int ml, .int (nI n)])) :: (v, .inl ((gκ g).2.1 2, cap, .inl f)) :: T0)) rfl iJ0 tyJ0_ok nmJ0 (by decide) rfl rfl rfl (tyJ0_ok _ (by decide)) wF_J0_9 1 rfl rfl rfl (Nat.le_of_ble_eq_true rfl) rfl dJ0_init_db425_35 ?_
  refine L_goto X (tgt := 97) dJ0_init_db425_38 (by decide) ?_
  refine L_perm pm_2 ?_
  refine L_widen (a' := 1) (b' := 1300) (by omega) (by omega) ?_
  exact hf _ _ _ dJ0_init_db425_97 ⟨z2, f2, rfl, hf2, hft2, rfl⟩

theorem cm_J0_init_81219 {l : Launch} {κ : KX} {ξ : XI} {T0 : va_W} {z q v n cap : Nat} {ml : Int32} {f : Nat → Int32} (hn : n ≤ cap) (hc : cap ≤ 1300) (hfit : sb_Fit f) : CtM l κ ξ yJ0_init_81219 cJ0_init_81219 2 none 4 130 1 1300 [.ref z, .ref q] ((z, .inr (12, fzJ0)) :: (q, .inr (11, [.ref v, .int 0, .int ml, .int (nI n)])) :: (v, .inl (κ.2.1 2, cap, .inl f)) :: T0) (fun rv T => ∃ (z2 : Nat) (f2 : Nat → Int32), rv = none ∧ (∀ i, i < n → f2 i = f i) ∧ sb_Fit f2 ∧ T = (z, .inr (12, [.ref z2, .int 0, .int 0, .int 0])) :: (z2, .inl (κ.2.1 2, n, .inl f2)) :: (q, .inr (11, [.ref v, .int 0, .int ml, .int (nI n)])) :: (v, .inl (κ.2.1 2, cap, .inl f)) :: T0) := by
  refine CtM_v RJ0 rfl (by decide +kernel) (Nat.le_of_ble_eq_true rfl) (fun g hgl hgκ X E hini hf => ?_)
  subst hgl; subst hgκ
  refine L_aload_n X 0 dJ0_init_81219_0 rfl rfl ?_
  refine L_aload_n X 1 dJ0_init_81219_1 rfl rfl ?_
  refine L_null X dJ0_init_81219_2 ?_
  refine L_cI X E (As := [.ref q, .null]) (rest := []) (cm_J0_init_db425 hn hc hfit) cal_J0_init_db425 wM_J0_489 rfl wI_J0_init_db425 ⟨⟨(Nat.le_of_ble_eq_true rfl), (Nat.le_of_ble_eq_true rfl)⟩, ⟨by omega, by omega⟩⟩ rfl rfl (Nat.le_of_ble_eq_true rfl) dJ0_init_81219_3 (fun rv T1 hT => ?_)
  obtain ⟨z2, f2, rfl, hf2, hft2, rfl⟩ := hT
  refine L_widen (a' := 1) (b' := 1300) (by omega) (by omega) ?_
  exact hf _ _ _ dJ0_init_81219_6 ⟨z2, f2, rfl, hf2, hft2, rfl⟩

theorem cm_J4_toString_0e30d {l : Launch} {κ : KX} {ξ : XI} {T0 : va_W} {q v n cap : Nat} {ml : Int32} {f : Nat → Int32} (hn : n ≤ cap) (hc : cap ≤ 1300) (hfit : sb_Fit f) : CtM l κ ξ yJ4_toString_0e30d cJ4_toString_0e30d 1 (some (.object "java/lang/String")) 5 151 2 1304 [.ref q] ((q, .inr (11, [.ref v, .int 0, .int ml, .int (nI n)])) :: (v, .inl (κ.2.1 2, cap, .inl f)) :: T0) (fun rv T => ∃ (z z2 : Nat) (f2 : Nat → Int32), rv = some (.ref z) ∧ (∀ i, i < n → f2 i = f i) ∧ sb_Fit f2 ∧ T = (z, .inr (12, [.ref z2, .int 0, .int 0, .int 0])) :: (z2, .inl (κ.2.1 2, n, .inl f2)) :: (q, .inr (11, [.ref v, .int 0, .int ml, .int (nI n)])) :: (v, .inl (κ.2.1 2, cap, .inl f)) :: T0) := by
  refine CtM_a RJ4 rfl (by decide +kernel) rfl (Nat.le_of_ble_eq_true rfl) (fun g hgl hgκ X E hf => ?_)
  subst hgl; subst hgκ
  refine L_new X (C := RJ0) (Tf := TJ0) (N := 4) (ci := 12) (ty0 := tyJ0) (fs := fzJ0) rfl iJ0 tyJ0_ok wCl_J4_18 wN_J0 w0_J0 hzJ0 (by omega) (by omega) dJ4_toString_0e30d_0 (fun q1 => ?_)
  refine L_dup X dJ4_toString_0e30d_3 rfl ?_
  refine L_aload_n X 0 dJ4_toString_0e30d_4 rfl rfl ?_
  refine L_cI X E (As := [.ref q]) (rest := [.ref q1]) (cm_J0_init_81219 hn hc hfit) cal_J0_init_81219 wM_J4_137 rfl wI_J0_init_81219 ⟨⟨(Nat.le_of_ble_eq_true rfl), (Nat.le_of_ble_eq_true rfl)⟩, ⟨by omega, by omega⟩⟩ rfl rfl (Nat.le_of_ble_eq_true rfl) dJ4_toString_0e30d_5 (fun rv T1 hT => ?_)
  obtain ⟨z2, f2, rfl, hf2, hft2, rfl⟩ := hT
  refine L_widen (a' := 2) (b' := 1304) (by omega) (by omega) ?_
  exact hf _ _ _ _ dJ4_toString_0e30d_8 ⟨q1, z2, f2, rfl, hf2, hft2, rfl⟩

theorem cm_J0_coder_7d493 {l : Launch} {κ : KX} {ξ : XI} {T0 : va_W} {z v : Nat} {h1 h2 : Int32} (k : Nat) (he : T0[k]? = some (z, .inr (12, [.ref v, .int 0, .int h1, .int h2]))) : CtM l κ ξ yJ0_coder_7d493 cJ0_coder_7d493 1 (some .byte) 0 0 0 0 [.ref z] T0 (fun rv T => rv = some (.int 0) ∧ T = T0) := by
  refine CtM_i RJ0 rfl (by decide +kernel) (Nat.le_of_ble_eq_true rfl) (fun g hgl hgκ X E hf => ?_)
  subst hgl; subst hgκ
  refine L_gets X (CL_cs X) rfl wF_J0_38 dJ0_coder_7d493_0 ?_
  refine L_if_eq X (tgt := 13) dJ0_coder_7d493_3 (by decide) (fun hn => absurd hn (by decide)) (fun _ => ?_)
  refine L_aload_n X 0 dJ0_coder_7d493_6 rfl rfl ?_
  refine L_get X (C := RJ0) (Tf := TJ0) (N := 4) (c := 12) (k := 1) rfl iJ0 (by decide) rfl wF_J0_15 k he rfl dJ0_coder_7d493_7 ?_
  refine L_goto X (tgt := 14) dJ0_coder_7d493_10 (by decide) ?_
  exact hf _ _ _ _ dJ0_coder_7d493_14 rfl ⟨rfl, rfl⟩

theorem cm_J0_isLatin1_aae02 {l : Launch} {κ : KX} {ξ : XI} {T0 : va_W} {z v : Nat} {h1 h2 : Int32} (k : Nat) (he : T0[k]? = some (z, .inr (12, [.ref v, .int 0, .int h1, .int h2]))) : CtM l κ ξ yJ0_isLatin1_aae02 cJ0_isLatin1_aae02 1 (some .boolean) 0 0 0 0 [.ref z] T0 (fun rv T => rv = some (.int 1) ∧ T = T0) := by
  refine CtM_i RJ0 rfl (by decide +kernel) (Nat.le_of_ble_eq_true rfl) (fun g hgl hgκ X E hf => ?_)
  subst hgl; subst hgκ
  refine L_gets X (CL_cs X) rfl wF_J0_38 dJ0_isLatin1_aae02_0 ?_
  refine L_if_eq X (tgt := 17) dJ0_isLatin1_aae02_3 (by decide) (fun hn => absurd hn (by decide)) (fun _ => ?_)
  refine L_aload_n X 0 dJ0_isLatin1_aae02_6 rfl rfl ?_
  refine L_get X (C := RJ0) (Tf := TJ0) (N := 4) (c := 12) (k := 1) rfl iJ0 (by decide) rfl wF_J0_15 k he rfl dJ0_isLatin1_aae02_7 ?_
  refine L_if_ne X (tgt := 17) dJ0_isLatin1_aae02_10 (by decide) (fun hn => absurd hn (fun h => h rfl)) (fun _ => ?_)
  refine L_iconst X (v := 1) dJ0_isLatin1_aae02_13 rfl ?_
  refine L_goto X (tgt := 18) dJ0_isLatin1_aae02_14 (by decide) ?_
  exact hf _ _ _ _ dJ0_isLatin1_aae02_18 rfl ⟨rfl, rfl⟩

theorem cm_J0_length_8abf5 {l : Launch} {κ : KX} {ξ : XI} {T0 : va_W} {z v : Nat} {h1 h2 : Int32} {n : Nat} {f : Nat → Int32} (k : Nat) (he : T0[k]? = some (z, .inr (12, [.ref v, .int 0, .int h1, .int h2]))) (k2 : Nat) (he2 : T0[k2]? = some (v, .inl (κ.2.1 2, n, .inl f))) : CtM l κ ξ yJ0_length_8abf5 cJ0_length_8abf5 1 (some .int) 1 20 0 0 [.ref z] T0 (fun rv T => rv = some (.int (nI n)) ∧ T = T0) := by
  refine CtM_i RJ0 rfl (by decide +kernel) (Nat.le_of_ble_eq_true rfl) (fun g hgl hgκ X E hf => ?_)
  subst hgl; subst hgκ
  refine L_aload_n X 0 dJ0_length_8abf5_0 rfl rfl ?_
  refine L_get X (C := RJ0) (Tf := TJ0) (N := 4) (c := 12) (k := 0) rfl iJ0 (by decide) rfl wF_J0_9 k he rfl dJ0_length_8abf5_1 ?_
  refine L_alen X k2 1 he2 rfl rfl rfl dJ0_length_8abf5_4 ?_
  refine L_aload_n X 0 dJ0_length_8abf5_5 rfl rfl ?_
  refine L_cV X E (q := vcl 12) (As := []) (rest := [.int (nI n)]) (cm_J0_coder_7d493 k he) cal_J0_coder_7d493 wM_J0_335 wI_J0_coder_7d493 wS_J0_coder_7d493 k he rfl ⟨⟨(Nat.le_of_ble_eq_true rfl), (Nat.le_of_ble_eq_true rfl)⟩, ⟨by omega, by omega⟩⟩ rfl rfl (Nat.le_of_ble_eq_true rfl) dJ0_length_8abf5_6 (fun rv T1 hT => ?_)
  obtain ⟨rfl, rfl⟩ := hT
  refine L_ishr X dJ0_length_8abf5_9 ?_
  refine L_nmi (v := nI n) (sb_shr0 _).symm ?_
  exact hf _ _ _ _ dJ0_length_8abf5_10 rfl ⟨rfl, rfl⟩

theorem cm_J0_isEmpty_aae02 {l : Launch} {κ : KX} {ξ : XI} {T0 : va_W} {z v : Nat} {h1 h2 : Int32} {n : Nat} {f : Nat → Int32} (k : Nat) (he : T0[k]? = some (z, .inr (12, [.ref v, .int 0, .int h1, .int h2]))) (k2 : Nat) (he2 : T0[k2]? = some (v, .inl (κ.2.1 2, n, .inl f))) : CtM l κ ξ yJ0_isEmpty_aae02 cJ0_isEmpty_aae02 1 (some .boolean) 0 0 0 0 [.ref z] T0 (fun rv T => rv = some (.int (if nI n = 0 then 1 else 0)) ∧ T = T0) := by
  refine CtM_i RJ0 rfl (by decide +kernel) (Nat.le_of_ble_eq_true rfl) (fun g hgl hgκ X E hf => ?_)
  subst hgl; subst hgκ
  refine L_aload_n X 0 dJ0_isEmpty_aae02_0 rfl rfl ?_
  refine L_get X (C := RJ0) (Tf := TJ0) (N := 4) (c := 12) (k := 0) rfl iJ0 (by decide) rfl wF_J0_9 k he rfl dJ0_isEmpty_aae02_1 ?_
  refine L_alen X k2 1 he2 rfl rfl rfl dJ0_isEmpty_aae02_4 ?_
  refine L_if_ne X (tgt := 12) dJ0_isEmpty_aae02_5 (by decide) (fun hc => ?_) (fun hc => ?_)
  · refine L_iconst X (v := 0) dJ0_isEmpty_aae02_12 rfl ?_
    exact hf _ _ _ _ dJ0_isEmpty_aae02_13 rfl ⟨by rw [if_neg hc], rfl⟩
  · refine L_iconst X (v := 1) dJ0_isEmpty_aae02_8 rfl ?_
    refine L_goto X (tgt := 13) dJ0_isEmpty_aae02_9 (by decide) ?_
    exact hf _ _ _ _ dJ0_isEmpty_aae02_13 rfl ⟨by rw [if_pos hc], rfl⟩

theorem by_ch : ∀ c, c < 128 → ((nI c &&& 255).toUInt32 % 65536).toInt32 = nI c ∧ narrow .char (.int (nI c)) = .int (nI c) := by decide +kernel
theorem cr_J3_checkIndex_8e157 {l : Launch} {κ : KX} {ξ : XI} {T0 : va_W} {i n : Int32} {t9 : Nat} (h0 : ¬ i < 0) (h1 : i < n) : CtM l κ ξ yJ3_checkIndex_8e157 cJ3_checkIndex_8e157 3 (some .int) 0 0 0 0 [.int i, .int n, .ref t9] T0 (fun rv T => rv = some (.int i) ∧ T = T0) := by
  refine CtM_i RJ3 rfl (by decide +kernel) (Nat.le_of_ble_eq_true rfl) (fun g hgl hgκ X E hf => ?_)
  subst hgl; subst hgκ
  refine L_iload_n X 0 dJ3_checkIndex_8e157_0 rfl rfl ?_
  refine L_if_lt X (tgt := 9) dJ3_checkIndex_8e157_1 (by decide) (fun hn => absurd hn h0) (fun _ => ?_)
  refine L_iload_n X 0 dJ3_checkIndex_8e157_4 rfl rfl ?_
  refine L_iload_n X 1 dJ3_checkIndex_8e157_5 rfl rfl ?_
  refine L_icmp_lt X (tgt := 16) dJ3_checkIndex_8e157_6 (by decide) (fun _ => ?_) (fun hn => absurd h1 hn)
  refine L_iload_n X 0 dJ3_checkIndex_8e157_16 rfl rfl ?_
  exact hf _ _ _ _ dJ3_checkIndex_8e157_17 rfl ⟨rfl, rfl⟩

theorem cm_J0_checkIndex_df160 {l : Launch} {κ : KX} {ξ : XI} {T0 : va_W} {i n : Int32} (h0 : ¬ i < 0) (h1 : i < n) : CtM l κ ξ yJ0_checkIndex_df160 cJ0_checkIndex_df160 2 none 1 22 0 0 [.int i, .int n] T0 (fun rv T => rv = none ∧ T = T0) := by
  refine CtM_v RJ0 rfl (by decide +kernel) (Nat.le_of_ble_eq_true rfl) (fun g hgl hgκ X E hini hf => ?_)
  subst hgl; subst hgκ
  refine L_iload_n X 0 dJ0_checkIndex_df160_0 rfl rfl ?_
  refine L_iload_n X 1 dJ0_checkIndex_df160_1 rfl rfl ?_
  refine L_getq X X.2.2.2.2.2.2.2.1.2.2.2.2 rfl wF_J0_1053 dJ0_checkIndex_df160_2 ?_ (fun t9 => ?_)
  · refine L_cS X E (As := [.int i, .int n, .null]) (rest := []) (cm_J3_checkIndex_8e157 h0 h1) cal_J3_checkIndex_8e157 wM_J0_1059 wT_J3_checkIndex_8e157 ⟨⟨(Nat.le_of_ble_eq_true rfl), (Nat.le_of_ble_eq_true rfl)⟩, ⟨by omega, by omega⟩⟩ rfl rfl (Nat.le_of_ble_eq_true rfl) dJ0_checkIndex_df160_5 (fun rv T1 hT => ?_)
    obtain ⟨rfl, rfl⟩ := hT
    refine L_pop X dJ0_checkIndex_df160_8 rfl ?_
    exact hf _ _ _ dJ0_checkIndex_df160_9 ⟨rfl, rfl⟩
  · refine L_cS X E (As := [.int i, .int n, .ref t9]) (rest := []) (cr_J3_checkIndex_8e157 (t9 := t9) h0 h1) cal_J3_checkIndex_8e157 wM_J0_1059 wT_J3_checkIndex_8e157 ⟨⟨(Nat.le_of_ble_eq_true rfl), (Nat.le_of_ble_eq_true rfl)⟩, ⟨by omega, by omega⟩⟩ rfl rfl (Nat.le_of_ble_eq_true rfl) dJ0_checkIndex_df160_5 (fun rv T1 hT => ?_)
    obtain ⟨rfl, rfl⟩ := hT
    refine L_pop X dJ0_checkIndex_df160_8 rfl ?_
    exact hf _ _ _ dJ0_checkIndex_df160_9 ⟨rfl, rfl⟩

theorem cm_J1_charAt_3b067 {l : Launch} {κ : KX} {ξ : XI} {T0 : va_W} {v n i c : Nat} {f : Nat → Int32} (k2 : Nat) (he2 : T0[k2]? = some (v, .inl (κ.2.1 2, n, .inl f))) (hn : n ≤ 1300) (hi : i < n) (hc : c < 128) (hfi : f i = nI c) : CtM l κ ξ yJ1_charAt_3b067 cJ1_charAt_3b067 2 (some .char) 2 43 0 0 [.ref v, .int (nI i)] T0 (fun rv T => rv = some (.int (nI c)) ∧ T = T0) := by
  refine CtM_i RJ1 rfl (by decide +kernel) (Nat.le_of_ble_eq_true rfl) (fun g hgl hgκ X E hf => ?_)
  subst hgl; subst hgκ
  refine L_iload_n X 1 dJ1_charAt_3b067_0 rfl rfl ?_
  refine L_aload_n X 0 dJ1_charAt_3b067_1 rfl rfl ?_
  refine L_alen X k2 1 he2 rfl rfl rfl dJ1_charAt_3b067_2 ?_
  refine L_cS X E (As := [.int (nI i), .int (nI n)]) (rest := []) (cm_J0_checkIndex_df160 (nI_pos (by omega)) (nI_lt hi (by omega))) cal_J0_checkIndex_df160 wM_J1_9 wT_J0_checkIndex_df160 ⟨⟨(Nat.le_of_ble_eq_true rfl), (Nat.le_of_ble_eq_true rfl)⟩, ⟨by omega, by omega⟩⟩ rfl rfl (Nat.le_of_ble_eq_true rfl) dJ1_charAt_3b067_3 (fun rv T1 hT => ?_)
  obtain ⟨rfl, rfl⟩ := hT
  refine L_aload_n X 0 dJ1_charAt_3b067_6 rfl rfl ?_
  refine L_iload_n X 1 dJ1_charAt_3b067_7 rfl rfl ?_
  refine L_bald X k2 he2 (inb_n hi (by omega)) dJ1_charAt_3b067_8 ?_
  refine L_nmi (v := nI c) (by rw [ix_n (by omega)]; exact hfi.symm) ?_
  refine L_sipush X (v := 255) dJ1_charAt_3b067_9 rfl ?_
  refine L_iand X dJ1_charAt_3b067_12 ?_
  refine L_i2c X dJ1_charAt_3b067_13 (by_ch c hc).1 ?_
  exact hf _ _ _ _ dJ1_charAt_3b067_14 (by_ch c hc).2 ⟨rfl, rfl⟩

theorem cm_J0_charAt_5068e {l : Launch} {κ : KX} {ξ : XI} {T0 : va_W} {z v : Nat} {h1 h2 : Int32} {n i c : Nat} {f : Nat → Int32} (k : Nat) (he : T0[k]? = some (z, .inr (12, [.ref v, .int 0, .int h1, .int h2]))) (k2 : Nat) (he2 : T0[k2]? = some (v, .inl (κ.2.1 2, n, .inl f))) (hn : n ≤ 1300) (hi : i < n) (hc : c < 128) (hfi : f i = nI c) : CtM l κ ξ yJ0_charAt_5068e cJ0_charAt_5068e 2 (some .char) 3 64 0 0 [.ref z, .int (nI i)] T0 (fun rv T => rv = some (.int (nI c)) ∧ T = T0) := by
  refine CtM_i RJ0 rfl (by decide +kernel) (Nat.le_of_ble_eq_true rfl) (fun g hgl hgκ X E hf => ?_)
  subst hgl; subst hgκ
  refine L_aload_n X 0 dJ0_charAt_5068e_0 rfl rfl ?_
  refine L_cV X E (q := vcl 12) (As := []) (rest := []) (cm_J0_isLatin1_aae02 k he) cal_J0_isLatin1_aae02 wM_J0_492 wI_J0_isLatin1_aae02 wS_J0_isLatin1_aae02 k he rfl ⟨⟨(Nat.le_of_ble_eq_true rfl), (Nat.le_of_ble_eq_true rfl)⟩, ⟨by omega, by omega⟩⟩ rfl rfl (Nat.le_of_ble_eq_true rfl) dJ0_charAt_5068e_1 (fun rv T1 hT => ?_)
  obtain ⟨rfl, rfl⟩ := hT
  refine L_if_eq X (tgt := 16) dJ0_charAt_5068e_4 (by decide) (fun hn => absurd hn (by decide)) (fun _ => ?_)
  refine L_aload_n X 0 dJ0_charAt_5068e_7 rfl rfl ?_
  refine L_get X (C := RJ0) (Tf := TJ0) (N := 4) (c := 12) (k := 0) rfl iJ0 (by decide) rfl wF_J0_9 k he rfl dJ0_charAt_5068e_8 ?_
  refine L_iload_n X 1 dJ0_charAt_5068e_11 rfl rfl ?_
  refine L_cS X E (As := [.ref v, .int (nI i)]) (rest := []) (cm_J1_charAt_3b067 k2 he2 hn hi hc hfi) cal_J1_charAt_3b067 wM_J0_495 wT_J1_charAt_3b067 ⟨⟨(Nat.le_of_ble_eq_true rfl), (Nat.le_of_ble_eq_true rfl)⟩, ⟨by omega, by omega⟩⟩ rfl rfl (Nat.le_of_ble_eq_true rfl) dJ0_charAt_5068e_12 (fun rv T1 hT => ?_)
  obtain ⟨rfl, rfl⟩ := hT
  exact hf _ _ _ _ dJ0_charAt_5068e_15 (by_ch c hc).2 ⟨rfl, rfl⟩

theorem fill8 {f : Nat → Int32} {v : Int32} : ∀ k, k < 8 → (upd (upd (upd (upd (upd (upd (upd (upd f (ix 0) v) (ix 1) v) (ix 2) v) (ix 3) v) (ix 4) v) (ix 5) v) (ix 6) v) (ix 7) v) k = v := by
  intro k hk
  rcases (by omega : k = 0 ∨ k = 1 ∨ k = 2 ∨ k = 3 ∨ k = 4 ∨ k = 5 ∨ k = 6 ∨ k = 7) with rfl | rfl | rfl | rfl | rfl | rfl | rfl | rfl <;> rfl
theorem cm_J7_fill_53178 {l : Launch} {κ : KX} {ξ : XI} {T0 : va_W} {b : Nat} {v : Int32} {f : Nat → Int32}  : CtM l κ ξ yJ7_fill_53178 cJ7_fill_53178 4 none 0 0 0 0 [.ref b, .int v] ((b, .inl (κ.2.1 1, 8, .inl f)) :: T0) (fun rv T => ∃ f2 : Nat → Int32, (∀ k, k < 8 → f2 k = v) ∧ rv = none ∧ T = (b, .inl (κ.2.1 1, 8, .inl f2)) :: T0) := by
  refine CtM_v RJ7 rfl (by decide +kernel) (Nat.le_of_ble_eq_true rfl) (fun g hgl hgκ X E hini hf => ?_)
  subst hgl; subst hgκ
  refine L_iconst X (v := 0) dJ7_fill_53178_0 rfl ?_
  refine L_istore_n X dJ7_fill_53178_1 rfl (by decide) rfl ?_
  refine L_aload_n X 1 dJ7_fill_53178_2 rfl rfl ?_
  refine L_alen X 0 0 rfl rfl rfl rfl dJ7_fill_53178_3 ?_
  refine L_nmi (v := 8) rfl ?_
  refine L_istore_n X dJ7_fill_53178_4 rfl (by decide) rfl ?_
  refine L_iload_n X 1 dJ7_fill_53178_5 rfl rfl ?_
  refine L_iload_n X 0 dJ7_fill_53178_6 rfl rfl ?_
  refine L_icmp_ge X (tgt := 20) dJ7_fill_53178_7 (by decide) (fun hn => absurd hn (by decide)) (fun _ => ?_)
  refine L_aload_n X 2 dJ7_fill_53178_10 rfl rfl ?_
  refine L_iload_n X 1 dJ7_fill_53178_11 rfl rfl ?_
  refine L_iload_n X 3 dJ7_fill_53178_12 rfl rfl ?_
  refine L_iast X (T' := ((b, .inl ((gκ g).2.1 1, 8, .inl (upd f (ix 0) v))) :: T0)) 0 rfl (by decide) rfl dJ7_fill_53178_13 ?_
  refine L_iinc X (v := 1) 1 dJ7_fill_53178_14 rfl rfl (by decide) rfl ?_
  refine L_goto X (tgt := 5) dJ7_fill_53178_17 (by decide) ?_
  refine L_iload_n X 0 dJ7_fill_53178_5 rfl rfl ?_
  refine L_iload_n X 1 dJ7_fill_53178_6 rfl rfl ?_
  refine L_icmp_ge X (tgt := 20) dJ7_fill_53178_7 (by decide) (fun hn => absurd hn (by decide)) (fun _ => ?_)
  refine L_aload_n X 2 dJ7_fill_53178_10 rfl rfl ?_
  refine L_iload_n X 0 dJ7_fill_53178_11 rfl rfl ?_
  refine L_iload_n X 3 dJ7_fill_53178_12 rfl rfl ?_
  refine L_iast X (T' := ((b, .inl ((gκ g).2.1 1, 8, .inl (upd (upd f (ix 0) v) (ix 1) v))) :: T0)) 0 rfl (by decide) rfl dJ7_fill_53178_13 ?_
  refine L_iinc X (v := 2) 0 dJ7_fill_53178_14 rfl rfl (by decide) rfl ?_
  refine L_goto X (tgt := 5) dJ7_fill_53178_17 (by decide) ?_
  refine L_iload_n X 0 dJ7_fill_53178_5 rfl rfl ?_
  refine L_iload_n X 1 dJ7_fill_53178_6 rfl rfl ?_
  refine L_icmp_ge X (tgt := 20) dJ7_fill_53178_7 (by decide) (fun hn => absurd hn (by decide)) (fun _ => ?_)
  refine L_aload_n X 2 dJ7_fill_53178_10 rfl rfl ?_
  refine L_iload_n X 0 dJ7_fill_53178_11 rfl rfl ?_
  refine L_iload_n X 3 dJ7_fill_53178_12 rfl rfl ?_
  refine L_iast X (T' := ((b, .inl ((gκ g).2.1 1, 8, .inl (upd (upd (upd f (ix 0) v) (ix 1) v) (ix 2) v))) :: T0)) 0 rfl (by decide) rfl dJ7_fill_53178_13 ?_
  refine L_iinc X (v := 3) 0 dJ7_fill_53178_14 rfl rfl (by decide) rfl ?_
  refine L_goto X (tgt := 5) dJ7_fill_53178_17 (by decide) ?_
  refine L_iload_n X 0 dJ7_fill_53178_5 rfl rfl ?_
  refine L_iload_n X 1 dJ7_fill_53178_6 rfl rfl ?_
  refine L_icmp_ge X (tgt := 20) dJ7_fill_53178_7 (by decide) (fun hn => absurd hn (by decide)) (fun _ => ?_)
  refine L_aload_n X 2 dJ7_fill_53178_10 rfl rfl ?_
  refine L_iload_n X 0 dJ7_fill_53178_11 rfl rfl ?_
  refine L_iload_n X 3 dJ7_fill_53178_12 rfl rfl ?_
  refine L_iast X (T' := ((b, .inl ((gκ g).2.1 1, 8, .inl (upd (upd (upd (upd f (ix 0) v) (ix 1) v) (ix 2) v) (ix 3) v))) :: T0)) 0 rfl (by decide) rfl dJ7_fill_53178_13 ?_
  refine L_iinc X (v := 4) 0 dJ7_fill_53178_14 rfl rfl (by decide) rfl ?_
  refine L_goto X (tgt := 5) dJ7_fill_53178_17 (by decide) ?_
  refine L_iload_n X 0 dJ7_fill_53178_5 rfl rfl ?_
  refine L_iload_n X 1 dJ7_fill_53178_6 rfl rfl ?_
  refine L_icmp_ge X (tgt := 20) dJ7_fill_53178_7 (by decide) (fun hn => absurd hn (by decide)) (fun _ => ?_)
  refine L_aload_n X 2 dJ7_fill_53178_10 rfl rfl ?_
  refine L_iload_n X 0 dJ7_fill_53178_11 rfl rfl ?_
  refine L_iload_n X 3 dJ7_fill_53178_12 rfl rfl ?_
  refine L_iast X (T' := ((b, .inl ((gκ g).2.1 1, 8, .inl (upd (upd (upd (upd (upd f (ix 0) v) (ix 1) v) (ix 2) v) (ix 3) v) (ix 4) v))) :: T0)) 0 rfl (by decide) rfl dJ7_fill_53178_13 ?_
  refine L_iinc X (v := 5) 0 dJ7_fill_53178_14 rfl rfl (by decide) rfl ?_
  refine L_goto X (tgt := 5) dJ7_fill_53178_17 (by decide) ?_
  refine L_iload_n X 0 dJ7_fill_53178_5 rfl rfl ?_
  refine L_iload_n X 1 dJ7_fill_53178_6 rfl rfl ?_
  refine L_icmp_ge X (tgt := 20) dJ7_fill_53178_7 (by decide) (fun hn => absurd hn (by decide)) (fun _ => ?_)
  refine L_aload_n X 2 dJ7_fill_53178_10 rfl rfl ?_
  refine L_iload_n X 0 dJ7_fill_53178_11 rfl rfl ?_
  refine L_iload_n X 3 dJ7_fill_53178_12 rfl rfl ?_
  refine L_iast X (T' := ((b, .inl ((gκ g).2.1 1, 8, .inl (upd (upd (upd (upd (upd (upd f (ix 0) v) (ix 1) v) (ix 2) v) (ix 3) v) (ix 4) v) (ix 5) v))) :: T0)) 0 rfl (by decide) rfl dJ7_fill_53178_13 ?_
  refine L_iinc X (v := 6) 0 dJ7_fill_53178_14 rfl rfl (by decide) rfl ?_
  refine L_goto X (tgt := 5) dJ7_fill_53178_17 (by decide) ?_
  refine L_iload_n X 0 dJ7_fill_53178_5 rfl rfl ?_
  refine L_iload_n X 1 dJ7_fill_53178_6 rfl rfl ?_
  refine L_icmp_ge X (tgt := 20) dJ7_fill_53178_7 (by decide) (fun hn => absurd hn (by decide)) (fun _ => ?_)
  refine L_aload_n X 2 dJ7_fill_53178_10 rfl rfl ?_
  refine L_iload_n X 0 dJ7_fill_53178_11 rfl rfl ?_
  refine L_iload_n X 3 dJ7_fill_53178_12 rfl rfl ?_
  refine L_iast X (T' := ((b, .inl ((gκ g).2.1 1, 8, .inl (upd (upd (upd (upd (upd (upd (upd f (ix 0) v) (ix 1) v) (ix 2) v) (ix 3) v) (ix 4) v) (ix 5) v) (ix 6) v))) :: T0)) 0 rfl (by decide) rfl dJ7_fill_53178_13 ?_
  refine L_iinc X (v := 7) 0 dJ7_fill_53178_14 rfl rfl (by decide) rfl ?_
  refine L_goto X (tgt := 5) dJ7_fill_53178_17 (by decide) ?_
  refine L_iload_n X 0 dJ7_fill_53178_5 rfl rfl ?_
  refine L_iload_n X 1 dJ7_fill_53178_6 rfl rfl ?_
  refine L_icmp_ge X (tgt := 20) dJ7_fill_53178_7 (by decide) (fun hn => absurd hn (by decide)) (fun _ => ?_)
  refine L_aload_n X 2 dJ7_fill_53178_10 rfl rfl ?_
  refine L_iload_n X 0 dJ7_fill_53178_11 rfl rfl ?_
  refine L_iload_n X 3 dJ7_fill_53178_12 rfl rfl ?_
  refine L_iast X (T' := ((b, .inl ((gκ g).2.1 1, 8, .inl (upd (upd (upd (upd (upd (upd (upd (upd f (ix 0) v) (ix 1) v) (ix 2) v) (ix 3) v) (ix 4) v) (ix 5) v) (ix 6) v) (ix 7) v))) :: T0)) 0 rfl (by decide) rfl dJ7_fill_53178_13 ?_
  refine L_iinc X (v := 8) 0 dJ7_fill_53178_14 rfl rfl (by decide) rfl ?_
  refine L_goto X (tgt := 5) dJ7_fill_53178_17 (by decide) ?_
  refine L_iload_n X 0 dJ7_fill_53178_5 rfl rfl ?_
  refine L_iload_n X 1 dJ7_fill_53178_6 rfl rfl ?_
  refine L_icmp_ge X (tgt := 20) dJ7_fill_53178_7 (by decide) (fun _ => ?_) (fun hn => absurd (by decide) hn)
  exact hf _ _ _ dJ7_fill_53178_20 ⟨_, fill8, rfl, rfl⟩

