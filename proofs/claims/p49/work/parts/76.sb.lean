/-! java.lang.StringBuilder, by the JDK's own code -/
/-- what a StringBuilder holds: the text t in front of its bytes -/
def SBt (t : List Int32) (cap : Nat) (f : Nat → Int32) : Prop := t.length ≤ cap ∧ cap ≤ 1300 ∧ sb_Fit f ∧ ∀ i, i < t.length → f i = t.getD i 0
theorem L_tail {g : GX} {a b : Nat} {T : va_W} {c : Nat × va_E} {pc : Nat} {lo : List (Nat × Value)} {st : List Value} (k : L g a b T pc lo st) : L g a b (c :: T) pc lo st := fun H locs ls hP hS hl =>
  k H locs ls ⟨fun i x hx => hP.1 (i + 1) x hx, fun i j x y hx hy e => Nat.succ_inj.mp (hP.2.1 (i + 1) (j + 1) x y hx hy e), fun i x hx => hP.2.2 (i + 1) x hx⟩ hS hl
theorem pm_3 {x y z : Nat × va_E} {R : va_W} : (x :: y :: z :: R).Perm (z :: y :: x :: R) :=
  ((List.Perm.swap y x _).trans (List.Perm.cons y (List.Perm.swap z x R))).trans (List.Perm.swap z y _)
theorem pm_2 {x y : Nat × va_E} {R : va_W} : (x :: y :: R).Perm (y :: x :: R) := List.Perm.swap y x R
theorem ix_n {n : Nat} (h : n < 2 ^ 31) : ix (nI n) = n := nI_clamp h
theorem nI_inj {a b : Nat} (ha : a < 2 ^ 31) (hb : b < 2 ^ 31) (h : a ≠ b) : ¬ nI a = nI b := fun e => h ((nI_eq ha hb).mp e)
theorem inb_n {k n : Nat} (h : k < n) (hn : n < 2 ^ 31) : inb (nI k) n = true := by
  unfold inb
  rw [nI_toInt (by omega)]
  exact decide_eq_true (by omega)
theorem nI_num (n : Nat) : nI n = Int32.ofNat n := rfl
theorem mx_n {a b : Nat} (ha : a < 2 ^ 31) (hb : b < 2 ^ 31) : nI (if a < b then b else a) = (if nI a < nI b then nI b else nI a) := by
  by_cases h : a < b
  · rw [if_pos h, if_pos (nI_lt h hb)]
  · rw [if_neg h, if_neg (nI_nlt (by omega) ha)]
theorem cm_J5_isLatin1_aae02 {l : Launch} {κ : KX} {ξ : XI} {T0 : va_W} {q v : Nat} {ml n : Int32} (k : Nat) (he : T0[k]? = some (q, .inr (11, [.ref v, .int 0, .int ml, .int n]))) : CtM l κ ξ yJ5_isLatin1_aae02 cJ5_isLatin1_aae02 1 (some .boolean) 0 0 0 0 [.ref q] T0 (fun rv T => rv = some (.int 1) ∧ T = T0) := by
  refine CtM_i RJ5 rfl (by decide +kernel) (Nat.le_of_ble_eq_true rfl) (fun g hgl hgκ X E hf => ?_)
  subst hgl; subst hgκ
  refine L_gets X (CL_cs X) rfl wF_J5_18 dJ5_isLatin1_aae02_0 ?_
  refine L_if_eq X (tgt := 17) dJ5_isLatin1_aae02_3 (by decide) (fun hn => absurd hn (by decide)) (fun _ => ?_)
  refine L_aload_n X 0 dJ5_isLatin1_aae02_6 rfl rfl ?_
  refine L_get X (C := RJ4) (Tf := TJ4) (N := 4) (c := 11) (k := 1) rfl iJ4 (by decide) rfl wF_J5_22 k he rfl dJ5_isLatin1_aae02_7 ?_
  refine L_if_ne X (tgt := 17) dJ5_isLatin1_aae02_10 (by decide) (fun hn => absurd hn (fun h => h rfl)) (fun _ => ?_)
  refine L_iconst X (v := 1) dJ5_isLatin1_aae02_13 rfl ?_
  refine L_goto X (tgt := 18) dJ5_isLatin1_aae02_14 (by decide) ?_
  exact hf _ _ _ _ dJ5_isLatin1_aae02_18 rfl ⟨rfl, rfl⟩

theorem cm_J8_newLength_cabcc {l : Launch} {κ : KX} {ξ : XI} {T0 : va_W} {a b c : Nat} (hb : b < 2 ^ 31) (hc : c < 2 ^ 31) (h0 : 0 < a + (if b < c then c else b)) (h1 : a + (if b < c then c else b) ≤ 10000) : CtM l κ ξ yJ8_newLength_cabcc cJ8_newLength_cabcc 4 (some .int) 1 21 0 0 [.int (nI a), .int (nI b), .int (nI c)] T0 (fun rv T => rv = some (.int (nI (a + (if b < c then c else b)))) ∧ T = T0) := by
  refine CtM_i RJ8 rfl (by decide +kernel) (Nat.le_of_ble_eq_true rfl) (fun g hgl hgκ X E hf => ?_)
  subst hgl; subst hgκ
  refine L_iload_n X 0 dJ8_newLength_cabcc_0 rfl rfl ?_
  refine L_iload_n X 1 dJ8_newLength_cabcc_1 rfl rfl ?_
  refine L_iload_n X 2 dJ8_newLength_cabcc_2 rfl rfl ?_
  refine L_mmax X wM_J8_194 ⟨(Nat.le_of_ble_eq_true rfl), (Nat.le_of_ble_eq_true rfl)⟩ (Nat.le_of_ble_eq_true rfl) ⟨Nat.zero_le _, Nat.zero_le _⟩ dJ8_newLength_cabcc_3 ?_
  refine L_nmi (v := nI (if b < c then c else b)) (mx_n hb hc) ?_
  refine L_iadd X dJ8_newLength_cabcc_6 ?_
  refine L_nmi (v := nI (a + (if b < c then c else b))) (nI_add _ _).symm ?_
  refine L_istore_n X dJ8_newLength_cabcc_7 rfl (by decide) rfl ?_
  refine L_iconst X (v := 0) dJ8_newLength_cabcc_8 rfl ?_
  refine L_iload_n X 0 dJ8_newLength_cabcc_9 rfl rfl ?_
  refine L_icmp_ge X (tgt := 21) dJ8_newLength_cabcc_10 (by decide) (fun hn => absurd hn (nI_nle h0 (by omega))) (fun _ => ?_)
  refine L_iload_n X 0 dJ8_newLength_cabcc_13 rfl rfl ?_
  refine L_ldc X (v := 2147483639) dJ8_newLength_cabcc_14 wK_J8_200 ?_
  refine L_icmp_gt X (tgt := 21) dJ8_newLength_cabcc_16 (by decide) (fun hn => absurd hn (show ¬ nI 2147483639 < nI (a + (if b < c then c else b)) from nI_nlt (by omega) (by decide))) (fun _ => ?_)
  refine L_iload_n X 0 dJ8_newLength_cabcc_19 rfl rfl ?_
  exact hf _ _ _ _ dJ8_newLength_cabcc_20 rfl ⟨rfl, rfl⟩

theorem cm_J5_newCapacity_0f7a4 {l : Launch} {κ : KX} {ξ : XI} {T0 : va_W} {q v m cap : Nat} {ml n : Int32} {f : Nat → Int32} (k : Nat) (he : T0[k]? = some (q, .inr (11, [.ref v, .int 0, .int ml, .int n]))) (k2 : Nat) (he2 : T0[k2]? = some (v, .inl (κ.2.1 2, cap, .inl f))) (hm : cap < m) (hm6 : m ≤ 600) : CtM l κ ξ yJ5_newCapacity_0f7a4 cJ5_newCapacity_0f7a4 6 (some .int) 2 44 0 0 [.ref q, .int (nI m)] T0 (fun rv T => rv = some (.int (nI (cap + (if m - cap < cap + 2 then cap + 2 else m - cap)))) ∧ T = T0) := by
  refine CtM_i RJ5 rfl (by decide +kernel) (Nat.le_of_ble_eq_true rfl) (fun g hgl hgκ X E hf => ?_)
  subst hgl; subst hgκ
  refine L_aload_n X 0 dJ5_newCapacity_0f7a4_0 rfl rfl ?_
  refine L_get X (C := RJ4) (Tf := TJ4) (N := 4) (c := 11) (k := 0) rfl iJ4 (by decide) rfl wF_J5_15 k he rfl dJ5_newCapacity_0f7a4_1 ?_
  refine L_alen X k2 1 he2 rfl rfl rfl dJ5_newCapacity_0f7a4_4 ?_
  refine L_istore_n X dJ5_newCapacity_0f7a4_5 rfl (by decide) rfl ?_
  refine L_iload_n X 2 dJ5_newCapacity_0f7a4_6 rfl rfl ?_
  refine L_aload_n X 1 dJ5_newCapacity_0f7a4_7 rfl rfl ?_
  refine L_get X (C := RJ4) (Tf := TJ4) (N := 4) (c := 11) (k := 1) rfl iJ4 (by decide) rfl wF_J5_22 k he rfl dJ5_newCapacity_0f7a4_8 ?_
  refine L_ishl X dJ5_newCapacity_0f7a4_11 ?_
  refine L_nmi (v := nI m) (sb_shl0 _).symm ?_
  refine L_istore_n X dJ5_newCapacity_0f7a4_12 rfl (by decide) rfl ?_
  refine L_iload_n X 0 dJ5_newCapacity_0f7a4_13 rfl rfl ?_
  refine L_iload_n X 1 dJ5_newCapacity_0f7a4_14 rfl rfl ?_
  refine L_isub X dJ5_newCapacity_0f7a4_15 ?_
  refine L_nmi (v := nI (m - cap)) (pk_sub (by omega)).symm ?_
  refine L_istore X dJ5_newCapacity_0f7a4_16 (by decide) rfl ?_
  refine L_iload_n X 2 dJ5_newCapacity_0f7a4_18 rfl rfl ?_
  refine L_iload X 0 dJ5_newCapacity_0f7a4_19 rfl ?_
  refine L_iload_n X 2 dJ5_newCapacity_0f7a4_21 rfl rfl ?_
  refine L_iconst X (v := 2) dJ5_newCapacity_0f7a4_22 rfl ?_
  refine L_aload_n X 3 dJ5_newCapacity_0f7a4_23 rfl rfl ?_
  refine L_get X (C := RJ4) (Tf := TJ4) (N := 4) (c := 11) (k := 1) rfl iJ4 (by decide) rfl wF_J5_22 k he rfl dJ5_newCapacity_0f7a4_24 ?_
  refine L_ishl X dJ5_newCapacity_0f7a4_27 ?_
  refine L_nmi (v := 2) (sb_shl0 _).symm ?_
  refine L_iadd X dJ5_newCapacity_0f7a4_28 ?_
  refine L_nmi (v := nI (cap + 2)) (nI_add cap 2).symm ?_
  refine L_cS X E (As := [.int (nI cap), .int (nI (m - cap)), .int (nI (cap + 2))]) (rest := []) (cm_J8_newLength_cabcc (by omega) (by omega) (by split <;> omega) (by split <;> omega)) cal_J8_newLength_cabcc wM_J5_114 wT_J8_newLength_cabcc ⟨⟨(Nat.le_of_ble_eq_true rfl), (Nat.le_of_ble_eq_true rfl)⟩, ⟨by omega, by omega⟩⟩ rfl rfl (Nat.le_of_ble_eq_true rfl) dJ5_newCapacity_0f7a4_29 (fun rv T1 hT => ?_)
  obtain ⟨rfl, rfl⟩ := hT
  refine L_istore X dJ5_newCapacity_0f7a4_32 (by decide) rfl ?_
  refine L_iload X 0 dJ5_newCapacity_0f7a4_34 rfl ?_
  refine L_ldc X (v := 2147483647) dJ5_newCapacity_0f7a4_36 wK_J5_39 ?_
  refine L_icmp_ne X (tgt := 51) dJ5_newCapacity_0f7a4_38 (by decide) (fun _ => ?_) (fun hn => absurd hn (show ¬ nI (cap + (if m - cap < cap + 2 then cap + 2 else m - cap)) = nI 2147483647 from nI_inj (by split <;> omega) (by decide) (by split <;> omega)))
  refine L_iload X 0 dJ5_newCapacity_0f7a4_51 rfl ?_
  refine L_aload_n X 4 dJ5_newCapacity_0f7a4_53 rfl rfl ?_
  refine L_get X (C := RJ4) (Tf := TJ4) (N := 4) (c := 11) (k := 1) rfl iJ4 (by decide) rfl wF_J5_22 k he rfl dJ5_newCapacity_0f7a4_54 ?_
  refine L_ishr X dJ5_newCapacity_0f7a4_57 ?_
  refine L_nmi (v := nI (cap + (if m - cap < cap + 2 then cap + 2 else m - cap))) (sb_shr0 _).symm ?_
  exact hf _ _ _ _ dJ5_newCapacity_0f7a4_58 rfl ⟨rfl, rfl⟩

theorem cm_J7_copyOf_9075b {l : Launch} {κ : KX} {ξ : XI} {T0 : va_W} {v N cap : Nat} {f : Nat → Int32} (k2 : Nat) (he2 : T0[k2]? = some (v, .inl (κ.2.1 2, cap, .inl f))) (hm : cap < N) (hN : N ≤ 1300) (hfit : sb_Fit f) : CtM l κ ξ yJ7_copyOf_9075b cJ7_copyOf_9075b 3 (some (.array .byte)) 1 60 1 N [.ref v, .int (nI N)] T0 (fun rv T => ∃ z : Nat, rv = some (.ref z) ∧ T = (z, .inl (κ.2.1 2, N, .inl (va_cpy f (fun _ => 0) (ix 0) (ix 0) (ix (nI cap))))) :: T0) := by
  refine CtM_a RJ7 rfl (by decide +kernel) rfl (Nat.le_of_ble_eq_true rfl) (fun g hgl hgκ X E hf => ?_)
  subst hgl; subst hgκ
  refine L_iload_n X 1 dJ7_copyOf_9075b_0 rfl rfl ?_
  refine L_aload_n X 0 dJ7_copyOf_9075b_1 rfl rfl ?_
  refine L_alen X k2 1 he2 rfl rfl rfl dJ7_copyOf_9075b_2 ?_
  refine L_icmp_ne X (tgt := 14) dJ7_copyOf_9075b_3 (by decide) (fun _ => ?_) (fun hn => absurd hn (nI_inj (by omega) (by omega) (by omega)))
  refine L_iload_n X 1 dJ7_copyOf_9075b_14 rfl rfl ?_
  refine L_newa X (atype := .byte) (ty := .byte) (t := 1) (N := N) (a0 := (N, .inl (fun _ => 0))) rfl wA_143 rfl (fun _ => rfl) (nI_pos (by omega)) (nI_clamp (by omega)) (by show N * 1 ≤ _; omega) (by omega) (by omega) dJ7_copyOf_9075b_15 (fun q1 => ?_)
  refine L_astore_n X dJ7_copyOf_9075b_17 rfl (by decide) rfl ?_
  refine L_aload_n X 1 dJ7_copyOf_9075b_18 rfl rfl ?_
  refine L_iconst X (v := 0) dJ7_copyOf_9075b_19 rfl ?_
  refine L_aload_n X 0 dJ7_copyOf_9075b_20 rfl rfl ?_
  refine L_iconst X (v := 0) dJ7_copyOf_9075b_21 rfl ?_
  refine L_aload_n X 1 dJ7_copyOf_9075b_22 rfl rfl ?_
  refine L_alen X (k2 + 1) 1 he2 rfl rfl rfl dJ7_copyOf_9075b_23 ?_
  refine L_iload_n X 2 dJ7_copyOf_9075b_24 rfl rfl ?_
  refine L_mmin X wM_J7_304 ⟨(Nat.le_of_ble_eq_true rfl), (Nat.le_of_ble_eq_true rfl)⟩ (Nat.le_of_ble_eq_true rfl) ⟨(by omega), (by omega)⟩ dJ7_copyOf_9075b_25 ?_
  refine L_nmi (v := nI cap) (if_neg (nI_nlt (by omega) (by omega))).symm ?_
  refine L_copy X (t := 1) (T' := ((q1, .inl ((gκ g).2.1 2, N, .inl (va_cpy f (fun _ => 0) (ix 0) (ix 0) (ix (nI cap))))) :: T0)) wM_J7_150 (k2 + 1) 0 he2 rfl rfl rfl (by decide) (by decide) (nI_pos (by omega)) (by rw [ix_n (by omega)]; show 0 + cap ≤ cap; omega) (by rw [ix_n (by omega)]; show 0 + cap ≤ N; omega) (fun i _ => hfit _) ⟨(Nat.le_of_ble_eq_true rfl), (Nat.le_of_ble_eq_true rfl)⟩ rfl dJ7_copyOf_9075b_28 ?_
  refine L_aload_n X 0 dJ7_copyOf_9075b_31 rfl rfl ?_
  refine L_widen (a' := 1) (b' := N) (by omega) (by omega) ?_
  exact hf _ _ _ _ dJ7_copyOf_9075b_32 ⟨q1, rfl, rfl⟩

/-- room is made: the bytes that were there stay -/
def Ens (q : Nat) (ml n : Int32) (m cap : Nat) (f : Nat → Int32) (κ : KX) (T0 T : va_W) : Prop := ∃ (v' cap' : Nat) (f' : Nat → Int32), cap' ≤ 1300 ∧ m ≤ cap' ∧ cap ≤ cap' ∧ sb_Fit f' ∧ (∀ i, i < cap → f' i = f i) ∧ T = (q, .inr (11, [.ref v', .int 0, .int ml, .int n])) :: (v', .inl (κ.2.1 2, cap', .inl f')) :: T0
theorem en_le {m cap : Nat} (hm : m ≤ 600) (hc : cap ≤ 1300) (h : nI m - nI cap ≤ 0) : m ≤ cap := by
  have e := pk_sub_toInt (a := m) (b := cap) (by omega) (by omega)
  rw [Int32.le_iff_toInt_le, e, Int32.toInt_zero] at h
  omega
theorem en_lt {m cap : Nat} (hm : m ≤ 600) (hc : cap ≤ 1300) (h : ¬ nI m - nI cap ≤ 0) : cap < m := by
  have e := pk_sub_toInt (a := m) (b := cap) (by omega) (by omega)
  rw [Int32.le_iff_toInt_le, e, Int32.toInt_zero] at h
  omega
theorem en_cpy {cap i : Nat} {f : Nat → Int32} (hc : cap < 2 ^ 31) (hi : i < cap) : va_cpy f (fun _ => 0) (ix 0) (ix 0) (ix (nI cap)) i = f i := by
  rw [ix_n hc, show ix 0 = 0 from rfl]
  exact sb_cpy0 hi
theorem cm_J5_ensureCapacityInternal_d00df {l : Launch} {κ : KX} {ξ : XI} {T0 : va_W} {q v m cap : Nat} {ml n : Int32} {f : Nat → Int32} (hm : m ≤ 600) (hcap : cap ≤ 1300) (hfit : sb_Fit f) : CtM l κ ξ yJ5_ensureCapacityInternal_d00df cJ5_ensureCapacityInternal_d00df 3 none 3 82 1 1300 [.ref q, .int (nI m)] ((q, .inr (11, [.ref v, .int 0, .int ml, .int n])) :: (v, .inl (κ.2.1 2, cap, .inl f)) :: T0) (fun rv T => rv = none ∧ Ens q ml n m cap f κ T0 T) := by
  refine CtM_v RJ5 rfl (by decide +kernel) (Nat.le_of_ble_eq_true rfl) (fun g hgl hgκ X E hini hf => ?_)
  subst hgl; subst hgκ
  refine L_aload_n X 0 dJ5_ensureCapacityInternal_d00df_0 rfl rfl ?_
  refine L_get X (C := RJ4) (Tf := TJ4) (N := 4) (c := 11) (k := 0) rfl iJ4 (by decide) rfl wF_J5_15 0 rfl rfl dJ5_ensureCapacityInternal_d00df_1 ?_
  refine L_alen X 1 1 rfl rfl rfl rfl dJ5_ensureCapacityInternal_d00df_4 ?_
  refine L_aload_n X 0 dJ5_ensureCapacityInternal_d00df_5 rfl rfl ?_
  refine L_get X (C := RJ4) (Tf := TJ4) (N := 4) (c := 11) (k := 1) rfl iJ4 (by decide) rfl wF_J5_22 0 rfl rfl dJ5_ensureCapacityInternal_d00df_6 ?_
  refine L_ishr X dJ5_ensureCapacityInternal_d00df_9 ?_
  refine L_nmi (v := nI cap) (sb_shr0 _).symm ?_
  refine L_istore_n X dJ5_ensureCapacityInternal_d00df_10 rfl (by decide) rfl ?_
  refine L_iload_n X 2 dJ5_ensureCapacityInternal_d00df_11 rfl rfl ?_
  refine L_iload_n X 0 dJ5_ensureCapacityInternal_d00df_12 rfl rfl ?_
  refine L_isub X dJ5_ensureCapacityInternal_d00df_13 ?_
  refine L_if_le X (tgt := 38) dJ5_ensureCapacityInternal_d00df_14 (by decide) (fun hc => ?_) (fun hc => ?_)
  · have hle : m ≤ cap := en_le hm hcap hc
    refine L_widen (a' := 1) (b' := 1300) (by omega) (by omega) ?_
    exact hf _ _ _ dJ5_ensureCapacityInternal_d00df_38 ⟨rfl, v, cap, f, by omega, by omega, Nat.le_refl _, hfit, fun _ _ => rfl, rfl⟩
  · have hlt : cap < m := en_lt hm hcap hc
    have hN : cap + (if m - cap < cap + 2 then cap + 2 else m - cap) ≤ 1300 := by split <;> omega
    have hN2 : cap < cap + (if m - cap < cap + 2 then cap + 2 else m - cap) := by split <;> omega
    have hN3 : m ≤ cap + (if m - cap < cap + 2 then cap + 2 else m - cap) := by split <;> omega
    refine L_aload_n X 1 dJ5_ensureCapacityInternal_d00df_17 rfl rfl ?_
    refine L_aload_n X 1 dJ5_ensureCapacityInternal_d00df_18 rfl rfl ?_
    refine L_get X (C := RJ4) (Tf := TJ4) (N := 4) (c := 11) (k := 0) rfl iJ4 (by decide) rfl wF_J5_15 0 rfl rfl dJ5_ensureCapacityInternal_d00df_19 ?_
    refine L_aload_n X 1 dJ5_ensureCapacityInternal_d00df_22 rfl rfl ?_
    refine L_iload_n X 2 dJ5_ensureCapacityInternal_d00df_23 rfl rfl ?_
    refine L_cU X E (q := vcl 11) (owner := RJ5) (As := [.int (nI m)]) (rest := [.ref v, .ref q]) (cm_J5_newCapacity_0f7a4 0 rfl 1 rfl hlt (by omega)) cal_J5_newCapacity_0f7a4 wM_J5_104 wX_1543 wI_J5_newCapacity_0f7a4 (List.mem_append_right _ (List.mem_of_getElem? (i := 1) rfl)) rfl 0 rfl rfl ⟨⟨(Nat.le_of_ble_eq_true rfl), (Nat.le_of_ble_eq_true rfl)⟩, ⟨by omega, by omega⟩⟩ rfl rfl (Nat.le_of_ble_eq_true rfl) dJ5_ensureCapacityInternal_d00df_24 (fun rv T1 hT => ?_)
    obtain ⟨rfl, rfl⟩ := hT
    refine L_aload_n X 1 dJ5_ensureCapacityInternal_d00df_27 rfl rfl ?_
    refine L_get X (C := RJ4) (Tf := TJ4) (N := 4) (c := 11) (k := 1) rfl iJ4 (by decide) rfl wF_J5_22 0 rfl rfl dJ5_ensureCapacityInternal_d00df_28 ?_
    refine L_ishl X dJ5_ensureCapacityInternal_d00df_31 ?_
    refine L_nmi (v := nI (cap + (if m - cap < cap + 2 then cap + 2 else m - cap))) (sb_shl0 _).symm ?_
    refine L_cS X E (As := [.ref v, .int (nI (cap + (if m - cap < cap + 2 then cap + 2 else m - cap)))]) (rest := [.ref q]) (cm_J7_copyOf_9075b 1 rfl hN2 hN hfit) cal_J7_copyOf_9075b wM_J5_108 wT_J7_copyOf_9075b ⟨⟨(Nat.le_of_ble_eq_true rfl), (Nat.le_of_ble_eq_true rfl)⟩, ⟨(by omega), (by omega)⟩⟩ rfl rfl (Nat.le_of_ble_eq_true rfl) dJ5_ensureCapacityInternal_d00df_32 (fun rv T1 hT => ?_)
    obtain ⟨q1, rfl, rfl⟩ := hT
    refine L_put X (C := RJ4) (Tf := TJ4) (N := 4) (c := 11) (k := 0) (T' := ((q1, .inl ((gκ g).2.1 2, cap + (if m - cap < cap + 2 then cap + 2 else m - cap), .inl (va_cpy f (fun _ => 0) (ix 0) (ix 0) (ix (nI cap))))) :: (q, .inr (11, [.ref q1, .int 0, .int ml, .int n])) :: (v, .inl ((gκ g).2.1 2, cap, .inl f)) :: T0)) rfl iJ4 tyJ4_ok nmJ4 (by decide) rfl rfl (tyJ4_ok _ (by decide)) wF_J5_15 1 rfl rfl rfl (Nat.le_of_ble_eq_true rfl) rfl dJ5_ensureCapacityInternal_d00df_35 ?_
    refine L_perm pm_3 ?_
    refine L_tail ?_
    refine L_widen (a' := 1) (b' := 1300) (by omega) (by omega) ?_
    exact hf _ _ _ dJ5_ensureCapacityInternal_d00df_38 ⟨rfl, q1, _, _, hN, hN3, by omega, sb_fitC hfit sb_fit0, fun i hi => en_cpy (by omega) hi, rfl⟩

