/-! StringBuilder: numbers up to three digits -/
def dgn (v : Nat) : Nat := if v < 10 then 1 else if v < 100 then 2 else 3
def dgs (v : Nat) : List Int32 := if v < 10 then [nI (48 + v)] else if v < 100 then [nI (48 + v / 10), nI (48 + v % 10)] else [nI (48 + v / 100), nI (48 + v / 10 % 10), nI (48 + v % 10)]
theorem dgs_len (v : Nat) : (dgs v).length = dgn v := by
  unfold dgs dgn
  by_cases h1 : v < 10
  · rw [if_pos h1, if_pos h1]; rfl
  · rw [if_neg h1, if_neg h1]
    by_cases h2 : v < 100
    · rw [if_pos h2, if_pos h2]; rfl
    · rw [if_neg h2, if_neg h2]; rfl
theorem dgn_le (v : Nat) : 1 ≤ dgn v ∧ dgn v ≤ 3 := by
  unfold dgn
  by_cases h1 : v < 10
  · rw [if_pos h1]; omega
  · rw [if_neg h1]
    by_cases h2 : v < 100
    · rw [if_pos h2]; omega
    · rw [if_neg h2]; omega
theorem fs_a : ∀ v, v < 10 → ¬ -nI v ≤ (-10 : Int32) := by decide +kernel
theorem fs_b : ∀ v, v < 1000 → 10 ≤ v → -nI v ≤ (-10 : Int32) := by decide +kernel
theorem fs_c : ∀ v, v < 100 → ¬ -nI v ≤ (10 * (-10) : Int32) := by decide +kernel
theorem fs_d : ∀ v, v < 1000 → 100 ≤ v → -nI v ≤ (10 * (-10) : Int32) := by decide +kernel
theorem fs_e : ∀ v, v < 1000 → ¬ -nI v ≤ (10 * (10 * (-10)) : Int32) := by decide +kernel
theorem fg_a : ∀ v, v < 100 → (-100 : Int32) < -nI v := by decide +kernel
theorem fg_b : ∀ v, v < 1000 → 100 ≤ v → ¬ (-100 : Int32) < -nI v := by decide +kernel
theorem fg_c : ∀ v, v < 10 → (-9 : Int32) ≤ -nI v := by decide +kernel
theorem fg_d : ∀ v, v < 100 → 10 ≤ v → ¬ (-9 : Int32) ≤ -nI v := by decide +kernel
theorem cs1_stringSize {l : Launch} {κ : KX} {ξ : XI} {T0 : va_W} {v : Nat} (h : v < 10) : CtM l κ ξ yJ6_stringSize_0f7a4 cJ6_stringSize_0f7a4 4 (some .int) 0 0 0 0 [.int (nI v)] T0 (fun rv T => rv = some (.int (nI 1)) ∧ T = T0) := by
  refine CtM_i RJ6 rfl (by decide +kernel) (Nat.le_of_ble_eq_true rfl) (fun g hgl hgκ X E hf => ?_)
  subst hgl; subst hgκ
  refine L_iconst X (v := 1) dJ6_stringSize_0f7a4_0 rfl ?_
  refine L_istore_n X dJ6_stringSize_0f7a4_1 rfl (by decide) rfl ?_
  refine L_iload_n X 1 dJ6_stringSize_0f7a4_2 rfl rfl ?_
  refine L_if_lt X (tgt := 11) dJ6_stringSize_0f7a4_3 (by decide) (fun hn => absurd hn (nI_pos (by omega))) (fun _ => ?_)
  refine L_iconst X (v := 0) dJ6_stringSize_0f7a4_6 rfl ?_
  refine L_istore_n X dJ6_stringSize_0f7a4_7 rfl (by decide) rfl ?_
  refine L_iload_n X 1 dJ6_stringSize_0f7a4_8 rfl rfl ?_
  refine L_ineg X dJ6_stringSize_0f7a4_9 ?_
  refine L_istore_n X dJ6_stringSize_0f7a4_10 rfl (by decide) rfl ?_
  refine L_bipush X (v := (-10)) dJ6_stringSize_0f7a4_11 rfl ?_
  refine L_istore_n X dJ6_stringSize_0f7a4_13 rfl (by decide) rfl ?_
  refine L_iconst X (v := 1) dJ6_stringSize_0f7a4_14 rfl ?_
  refine L_istore_n X dJ6_stringSize_0f7a4_15 rfl (by decide) rfl ?_
  refine L_iload_n X 0 dJ6_stringSize_0f7a4_16 rfl rfl ?_
  refine L_bipush X (v := 10) dJ6_stringSize_0f7a4_17 rfl ?_
  refine L_icmp_ge X (tgt := 42) dJ6_stringSize_0f7a4_19 (by decide) (fun hn => absurd hn (by decide)) (fun _ => ?_)
  refine L_iload_n X 2 dJ6_stringSize_0f7a4_22 rfl rfl ?_
  refine L_iload_n X 1 dJ6_stringSize_0f7a4_23 rfl rfl ?_
  refine L_icmp_le X (tgt := 31) dJ6_stringSize_0f7a4_24 (by decide) (fun hn => absurd hn (fs_a v h)) (fun _ => ?_)
  refine L_iload_n X 0 dJ6_stringSize_0f7a4_27 rfl rfl ?_
  refine L_iload_n X 3 dJ6_stringSize_0f7a4_28 rfl rfl ?_
  refine L_iadd X dJ6_stringSize_0f7a4_29 ?_
  exact hf _ _ _ _ dJ6_stringSize_0f7a4_30 rfl ⟨rfl, rfl⟩

theorem cs2_stringSize {l : Launch} {κ : KX} {ξ : XI} {T0 : va_W} {v : Nat} (h : v < 100) (h1 : 10 ≤ v) : CtM l κ ξ yJ6_stringSize_0f7a4 cJ6_stringSize_0f7a4 4 (some .int) 0 0 0 0 [.int (nI v)] T0 (fun rv T => rv = some (.int (nI 2)) ∧ T = T0) := by
  refine CtM_i RJ6 rfl (by decide +kernel) (Nat.le_of_ble_eq_true rfl) (fun g hgl hgκ X E hf => ?_)
  subst hgl; subst hgκ
  refine L_iconst X (v := 1) dJ6_stringSize_0f7a4_0 rfl ?_
  refine L_istore_n X dJ6_stringSize_0f7a4_1 rfl (by decide) rfl ?_
  refine L_iload_n X 1 dJ6_stringSize_0f7a4_2 rfl rfl ?_
  refine L_if_lt X (tgt := 11) dJ6_stringSize_0f7a4_3 (by decide) (fun hn => absurd hn (nI_pos (by omega))) (fun _ => ?_)
  refine L_iconst X (v := 0) dJ6_stringSize_0f7a4_6 rfl ?_
  refine L_istore_n X dJ6_stringSize_0f7a4_7 rfl (by decide) rfl ?_
  refine L_iload_n X 1 dJ6_stringSize_0f7a4_8 rfl rfl ?_
  refine L_ineg X dJ6_stringSize_0f7a4_9 ?_
  refine L_istore_n X dJ6_stringSize_0f7a4_10 rfl (by decide) rfl ?_
  refine L_bipush X (v := (-10)) dJ6_stringSize_0f7a4_11 rfl ?_
  refine L_istore_n X dJ6_stringSize_0f7a4_13 rfl (by decide) rfl ?_
  refine L_iconst X (v := 1) dJ6_stringSize_0f7a4_14 rfl ?_
  refine L_istore_n X dJ6_stringSize_0f7a4_15 rfl (by decide) rfl ?_
  refine L_iload_n X 0 dJ6_stringSize_0f7a4_16 rfl rfl ?_
  refine L_bipush X (v := 10) dJ6_stringSize_0f7a4_17 rfl ?_
  refine L_icmp_ge X (tgt := 42) dJ6_stringSize_0f7a4_19 (by decide) (fun hn => absurd hn (by decide)) (fun _ => ?_)
  refine L_iload_n X 2 dJ6_stringSize_0f7a4_22 rfl rfl ?_
  refine L_iload_n X 1 dJ6_stringSize_0f7a4_23 rfl rfl ?_
  refine L_icmp_le X (tgt := 31) dJ6_stringSize_0f7a4_24 (by decide) (fun _ => ?_) (fun hn => absurd (fs_b v (by omega) (by omega)) hn)
  refine L_bipush X (v := 10) dJ6_stringSize_0f7a4_31 rfl ?_
  refine L_iload_n X 1 dJ6_stringSize_0f7a4_33 rfl rfl ?_
  refine L_imul X dJ6_stringSize_0f7a4_34 ?_
  refine L_istore_n X dJ6_stringSize_0f7a4_35 rfl (by decide) rfl ?_
  refine L_iinc X (v := 1 + 1) 1 dJ6_stringSize_0f7a4_36 rfl rfl (by decide) rfl ?_
  refine L_goto X (tgt := 16) dJ6_stringSize_0f7a4_39 (by decide) ?_
  refine L_iload_n X 0 dJ6_stringSize_0f7a4_16 rfl rfl ?_
  refine L_bipush X (v := 10) dJ6_stringSize_0f7a4_17 rfl ?_
  refine L_icmp_ge X (tgt := 42) dJ6_stringSize_0f7a4_19 (by decide) (fun hn => absurd hn (by decide)) (fun _ => ?_)
  refine L_iload_n X 2 dJ6_stringSize_0f7a4_22 rfl rfl ?_
  refine L_iload_n X 1 dJ6_stringSize_0f7a4_23 rfl rfl ?_
  refine L_icmp_le X (tgt := 31) dJ6_stringSize_0f7a4_24 (by decide) (fun hn => absurd hn (fs_c v h)) (fun _ => ?_)
  refine L_iload_n X 0 dJ6_stringSize_0f7a4_27 rfl rfl ?_
  refine L_iload_n X 3 dJ6_stringSize_0f7a4_28 rfl rfl ?_
  refine L_iadd X dJ6_stringSize_0f7a4_29 ?_
  exact hf _ _ _ _ dJ6_stringSize_0f7a4_30 rfl ⟨rfl, rfl⟩

theorem cs3_stringSize {l : Launch} {κ : KX} {ξ : XI} {T0 : va_W} {v : Nat} (h : v < 1000) (h1 : 100 ≤ v) : CtM l κ ξ yJ6_stringSize_0f7a4 cJ6_stringSize_0f7a4 4 (some .int) 0 0 0 0 [.int (nI v)] T0 (fun rv T => rv = some (.int (nI 3)) ∧ T = T0) := by
  refine CtM_i RJ6 rfl (by decide +kernel) (Nat.le_of_ble_eq_true rfl) (fun g hgl hgκ X E hf => ?_)
  subst hgl; subst hgκ
  refine L_iconst X (v := 1) dJ6_stringSize_0f7a4_0 rfl ?_
  refine L_istore_n X dJ6_stringSize_0f7a4_1 rfl (by decide) rfl ?_
  refine L_iload_n X 1 dJ6_stringSize_0f7a4_2 rfl rfl ?_
  refine L_if_lt X (tgt := 11) dJ6_stringSize_0f7a4_3 (by decide) (fun hn => absurd hn (nI_pos (by omega))) (fun _ => ?_)
  refine L_iconst X (v := 0) dJ6_stringSize_0f7a4_6 rfl ?_
  refine L_istore_n X dJ6_stringSize_0f7a4_7 rfl (by decide) rfl ?_
  refine L_iload_n X 1 dJ6_stringSize_0f7a4_8 rfl rfl ?_
  refine L_ineg X dJ6_stringSize_0f7a4_9 ?_
  refine L_istore_n X dJ6_stringSize_0f7a4_10 rfl (by decide) rfl ?_
  refine L_bipush X (v := (-10)) dJ6_stringSize_0f7a4_11 rfl ?_
  refine L_istore_n X dJ6_stringSize_0f7a4_13 rfl (by decide) rfl ?_
  refine L_iconst X (v := 1) dJ6_stringSize_0f7a4_14 rfl ?_
  refine L_istore_n X dJ6_stringSize_0f7a4_15 rfl (by decide) rfl ?_
  refine L_iload_n X 0 dJ6_stringSize_0f7a4_16 rfl rfl ?_
  refine L_bipush X (v := 10) dJ6_stringSize_0f7a4_17 rfl ?_
  refine L_icmp_ge X (tgt := 42) dJ6_stringSize_0f7a4_19 (by decide) (fun hn => absurd hn (by decide)) (fun _ => ?_)
  refine L_iload_n X 2 dJ6_stringSize_0f7a4_22 rfl rfl ?_
  refine L_iload_n X 1 dJ6_stringSize_0f7a4_23 rfl rfl ?_
  refine L_icmp_le X (tgt := 31) dJ6_stringSize_0f7a4_24 (by decide) (fun _ => ?_) (fun hn => absurd (fs_b v (by omega) (by omega)) hn)
  refine L_bipush X (v := 10) dJ6_stringSize_0f7a4_31 rfl ?_
  refine L_iload_n X 1 dJ6_stringSize_0f7a4_33 rfl rfl ?_
  refine L_imul X dJ6_stringSize_0f7a4_34 ?_
  refine L_istore_n X dJ6_stringSize_0f7a4_35 rfl (by decide) rfl ?_
  refine L_iinc X (v := 1 + 1) 1 dJ6_stringSize_0f7a4_36 rfl rfl (by decide) rfl ?_
  refine L_goto X (tgt := 16) dJ6_stringSize_0f7a4_39 (by decide) ?_
  refine L_iload_n X 0 dJ6_stringSize_0f7a4_16 rfl rfl ?_
  refine L_bipush X (v := 10) dJ6_stringSize_0f7a4_17 rfl ?_
  refine L_icmp_ge X (tgt := 42) dJ6_stringSize_0f7a4_19 (by decide) (fun hn => absurd hn (by decide)) (fun _ => ?_)
  refine L_iload_n X 2 dJ6_stringSize_0f7a4_22 rfl rfl ?_
  refine L_iload_n X 1 dJ6_stringSize_0f7a4_23 rfl rfl ?_
  refine L_icmp_le X (tgt := 31) dJ6_stringSize_0f7a4_24 (by decide) (fun _ => ?_) (fun hn => absurd (fs_d v (by omega) (by omega)) hn)
  refine L_bipush X (v := 10) dJ6_stringSize_0f7a4_31 rfl ?_
  refine L_iload_n X 1 dJ6_stringSize_0f7a4_33 rfl rfl ?_
  refine L_imul X dJ6_stringSize_0f7a4_34 ?_
  refine L_istore_n X dJ6_stringSize_0f7a4_35 rfl (by decide) rfl ?_
  refine L_iinc X (v := (1 + 1) + 1) 1 dJ6_stringSize_0f7a4_36 rfl rfl (by decide) rfl ?_
  refine L_goto X (tgt := 16) dJ6_stringSize_0f7a4_39 (by decide) ?_
  refine L_iload_n X 0 dJ6_stringSize_0f7a4_16 rfl rfl ?_
  refine L_bipush X (v := 10) dJ6_stringSize_0f7a4_17 rfl ?_
  refine L_icmp_ge X (tgt := 42) dJ6_stringSize_0f7a4_19 (by decide) (fun hn => absurd hn (by decide)) (fun _ => ?_)
  refine L_iload_n X 2 dJ6_stringSize_0f7a4_22 rfl rfl ?_
  refine L_iload_n X 1 dJ6_stringSize_0f7a4_23 rfl rfl ?_
  refine L_icmp_le X (tgt := 31) dJ6_stringSize_0f7a4_24 (by decide) (fun hn => absurd hn (fs_e v h)) (fun _ => ?_)
  refine L_iload_n X 0 dJ6_stringSize_0f7a4_27 rfl rfl ?_
  refine L_iload_n X 3 dJ6_stringSize_0f7a4_28 rfl rfl ?_
  refine L_iadd X dJ6_stringSize_0f7a4_29 ?_
  exact hf _ _ _ _ dJ6_stringSize_0f7a4_30 rfl ⟨rfl, rfl⟩

theorem cm_J6_stringSize_0f7a4 {l : Launch} {κ : KX} {ξ : XI} {T0 : va_W} {v : Nat} (h : v < 1000) : CtM l κ ξ yJ6_stringSize_0f7a4 cJ6_stringSize_0f7a4 4 (some .int) 0 0 0 0 [.int (nI v)] T0 (fun rv T => rv = some (.int (nI (dgn v))) ∧ T = T0) := by
  unfold dgn
  by_cases h1 : v < 10
  · rw [if_pos h1]; exact cs1_stringSize h1
  · rw [if_neg h1]
    by_cases h2 : v < 100
    · rw [if_pos h2]; exact cs2_stringSize h2 (by omega)
    · rw [if_neg h2]; exact cs3_stringSize h (by omega)
theorem gcc1 {v p cap : Nat} {f : Nat → Int32} (hv : v < 10) (hp : 1 ≤ p) (hc : p ≤ cap ∧ cap ≤ 1300) (hfit : sb_Fit f) : sb_Fit (upd f (ix (nI (p - 1))) ((nI (48 + v % 10)).toInt8.toInt32)) ∧ (∀ i, i < p - dgn v → (upd f (ix (nI (p - 1))) ((nI (48 + v % 10)).toInt8.toInt32)) i = f i) ∧ ∀ i, i < dgn v → (upd f (ix (nI (p - 1))) ((nI (48 + v % 10)).toInt8.toInt32)) (p - dgn v + i) = (dgs v).getD i 0 := by
  have e : dgn v = 1 := by unfold dgn; rw [if_pos hv]
  have e2 : dgs v = [nI (48 + v)] := by unfold dgs; rw [if_pos hv]
  rw [e, e2]
  refine ⟨sb_fitU hfit (pk_fb _), fun i hi => ?_, fun i hi => ?_⟩
  · rw [ix_n (by omega), pk_un (by omega)]
  · obtain rfl : i = 0 := by omega
    rw [ix_n (n := p - 1) (by omega), Nat.add_zero, pk_us, by_c _ (by omega), Nat.mod_eq_of_lt hv]
    rfl
theorem cg1_getChars {l : Launch} {κ : KX} {ξ : XI} {T0 : va_W} {c0 : Nat × va_E} {b v p cap : Nat} {f : Nat → Int32} (hv : v < 10) (hp : 1 ≤ p) (hc : p ≤ cap ∧ cap ≤ 1300) (hfit : sb_Fit f) : CtM l κ ξ yJ6_getChars_ba4f3 cJ6_getChars_ba4f3 7 (some .int) 0 0 0 0 [.int (nI v), .int (nI p), .ref b] (c0 :: (b, .inl (κ.2.1 2, cap, .inl f)) :: T0) (fun rv T => ∃ (r : Int32) (f2 : Nat → Int32), (sb_Fit f2 ∧ (∀ i, i < p - dgn v → f2 i = f i) ∧ ∀ i, i < dgn v → f2 (p - dgn v + i) = (dgs v).getD i 0) ∧ rv = some (.int r) ∧ T = c0 :: (b, .inl (κ.2.1 2, cap, .inl f2)) :: T0) := by
  refine CtM_i RJ6 rfl (by decide +kernel) (Nat.le_of_ble_eq_true rfl) (fun g hgl hgκ X E hf => ?_)
  subst hgl; subst hgκ
  refine L_iload_n X 1 dJ6_getChars_ba4f3_0 rfl rfl ?_
  refine L_istore X dJ6_getChars_ba4f3_1 (by decide) rfl ?_
  refine L_iload_n X 1 dJ6_getChars_ba4f3_3 rfl rfl ?_
  refine L_if_ge X (tgt := 11) dJ6_getChars_ba4f3_4 (by decide) (fun _ => ?_) (fun hn => absurd (nI_pos' (by omega)) hn)
  refine L_iconst X (v := 0) dJ6_getChars_ba4f3_11 rfl ?_
  refine L_istore X dJ6_getChars_ba4f3_12 (by decide) rfl ?_
  refine L_iload X 0 dJ6_getChars_ba4f3_14 rfl ?_
  refine L_if_ne X (tgt := 22) dJ6_getChars_ba4f3_16 (by decide) (fun hn => absurd hn (fun h => h rfl)) (fun _ => ?_)
  refine L_iload_n X 2 dJ6_getChars_ba4f3_19 rfl rfl ?_
  refine L_ineg X dJ6_getChars_ba4f3_20 ?_
  refine L_istore_n X dJ6_getChars_ba4f3_21 rfl (by decide) rfl ?_
  refine L_iload_n X 0 dJ6_getChars_ba4f3_22 rfl rfl ?_
  refine L_bipush X (v := (-100)) dJ6_getChars_ba4f3_23 rfl ?_
  refine L_icmp_gt X (tgt := 72) dJ6_getChars_ba4f3_25 (by decide) (fun _ => ?_) (fun hn => absurd (fg_a _ (by omega)) hn)
  refine L_aload_n X 4 dJ6_getChars_ba4f3_72 rfl rfl ?_
  refine L_iinc X (v := nI (p - 1)) 2 dJ6_getChars_ba4f3_73 rfl ((show nI p + (-1) = nI (p - 1) from sb_m1 (by omega)).trans (by first | rfl | rw [Nat.sub_sub])) (by decide) rfl ?_
  refine L_iload X 0 dJ6_getChars_ba4f3_76 rfl ?_
  refine L_gets X E.2.2.2.1.1 rfl wF_J6_83 dJ6_getChars_ba4f3_78 ?_
  refine L_iload_n X 1 dJ6_getChars_ba4f3_81 rfl rfl ?_
  refine L_ineg X dJ6_getChars_ba4f3_82 ?_
  refine L_nmi (v := nI v) (by rw [Int32.neg_neg]) ?_
  refine L_tb X E.2.2.2.1.2 (inb_n (by omega) (by omega)) (by rw [ix_n (by omega)]) dJ6_getChars_ba4f3_83 ?_
  refine L_bast X (T' := (c0 :: (b, .inl ((gκ g).2.1 2, cap, .inl (upd f (ix (nI (p - 1))) ((nI (48 + v % 10)).toInt8.toInt32)))) :: T0)) 1 rfl (inb_n (by omega) (by omega)) rfl dJ6_getChars_ba4f3_84 ?_
  refine L_iload_n X 1 dJ6_getChars_ba4f3_85 rfl rfl ?_
  refine L_bipush X (v := (-9)) dJ6_getChars_ba4f3_86 rfl ?_
  refine L_icmp_ge X (tgt := 104) dJ6_getChars_ba4f3_88 (by decide) (fun _ => ?_) (fun hn => absurd (fg_c _ (by omega)) hn)
  refine L_iload X 2 dJ6_getChars_ba4f3_104 rfl ?_
  refine L_if_eq X (tgt := 118) dJ6_getChars_ba4f3_106 (by decide) (fun _ => ?_) (fun hn => absurd rfl hn)
  refine L_iload X 0 dJ6_getChars_ba4f3_118 rfl ?_
  exact hf _ _ _ _ dJ6_getChars_ba4f3_120 rfl ⟨_, _, gcc1 hv hp hc hfit, rfl, rfl⟩

theorem gcc2 {v p cap : Nat} {f : Nat → Int32} (hv : v < 100 ∧ 10 ≤ v) (hp : 2 ≤ p) (hc : p ≤ cap ∧ cap ≤ 1300) (hfit : sb_Fit f) : sb_Fit (upd (upd f (ix (nI (p - 1))) ((nI (48 + v % 10)).toInt8.toInt32)) (ix (nI (p - 2))) ((nI (48 + v / 10)).toInt8.toInt32)) ∧ (∀ i, i < p - dgn v → (upd (upd f (ix (nI (p - 1))) ((nI (48 + v % 10)).toInt8.toInt32)) (ix (nI (p - 2))) ((nI (48 + v / 10)).toInt8.toInt32)) i = f i) ∧ ∀ i, i < dgn v → (upd (upd f (ix (nI (p - 1))) ((nI (48 + v % 10)).toInt8.toInt32)) (ix (nI (p - 2))) ((nI (48 + v / 10)).toInt8.toInt32)) (p - dgn v + i) = (dgs v).getD i 0 := by
  have e : dgn v = 2 := by unfold dgn; rw [if_neg (by omega), if_pos hv.1]
  have e2 : dgs v = [nI (48 + v / 10), nI (48 + v % 10)] := by unfold dgs; rw [if_neg (by omega), if_pos hv.1]
  rw [e, e2]
  refine ⟨sb_fitU (sb_fitU hfit (pk_fb _)) (pk_fb _), fun i hi => ?_, fun i hi => ?_⟩
  · rw [ix_n (n := p - 2) (by omega), ix_n (n := p - 1) (by omega), pk_un (by omega), pk_un (by omega)]
  · rcases (by omega : i = 0 ∨ i = 1) with rfl | rfl
    · rw [ix_n (n := p - 2) (by omega), ix_n (n := p - 1) (by omega), Nat.add_zero, pk_us, by_c _ (by omega)]
      rfl
    · rw [ix_n (n := p - 2) (by omega), ix_n (n := p - 1) (by omega), pk_un (by omega), show p - 2 + 1 = p - 1 by omega, pk_us, by_c _ (by omega)]
      rfl
theorem cg2_getChars {l : Launch} {κ : KX} {ξ : XI} {T0 : va_W} {c0 : Nat × va_E} {b v p cap : Nat} {f : Nat → Int32} (hv : v < 100 ∧ 10 ≤ v) (hp : 2 ≤ p) (hc : p ≤ cap ∧ cap ≤ 1300) (hfit : sb_Fit f) : CtM l κ ξ yJ6_getChars_ba4f3 cJ6_getChars_ba4f3 7 (some .int) 0 0 0 0 [.int (nI v), .int (nI p), .ref b] (c0 :: (b, .inl (κ.2.1 2, cap, .inl f)) :: T0) (fun rv T => ∃ (r : Int32) (f2 : Nat → Int32), (sb_Fit f2 ∧ (∀ i, i < p - dgn v → f2 i = f i) ∧ ∀ i, i < dgn v → f2 (p - dgn v + i) = (dgs v).getD i 0) ∧ rv = some (.int r) ∧ T = c0 :: (b, .inl (κ.2.1 2, cap, .inl f2)) :: T0) := by
  refine CtM_i RJ6 rfl (by decide +kernel) (Nat.le_of_ble_eq_true rfl) (fun g hgl hgκ X E hf => ?_)
  subst hgl; subst hgκ
  refine L_iload_n X 1 dJ6_getChars_ba4f3_0 rfl rfl ?_
  refine L_istore X dJ6_getChars_ba4f3_1 (by decide) rfl ?_
  refine L_iload_n X 1 dJ6_getChars_ba4f3_3 rfl rfl ?_
  refine L_if_ge X (tgt := 11) dJ6_getChars_ba4f3_4 (by decide) (fun _ => ?_) (fun hn => absurd (nI_pos' (by omega)) hn)
  refine L_iconst X (v := 0) dJ6_getChars_ba4f3_11 rfl ?_
  refine L_istore X dJ6_getChars_ba4f3_12 (by decide) rfl ?_
  refine L_iload X 0 dJ6_getChars_ba4f3_14 rfl ?_
  refine L_if_ne X (tgt := 22) dJ6_getChars_ba4f3_16 (by decide) (fun hn => absurd hn (fun h => h rfl)) (fun _ => ?_)
  refine L_iload_n X 2 dJ6_getChars_ba4f3_19 rfl rfl ?_
  refine L_ineg X dJ6_getChars_ba4f3_20 ?_
  refine L_istore_n X dJ6_getChars_ba4f3_21 rfl (by decide) rfl ?_
  refine L_iload_n X 0 dJ6_getChars_ba4f3_22 rfl rfl ?_
  refine L_bipush X (v := (-100)) dJ6_getChars_ba4f3_23 rfl ?_
  refine L_icmp_gt X (tgt := 72) dJ6_getChars_ba4f3_25 (by decide) (fun _ => ?_) (fun hn => absurd (fg_a _ (by omega)) hn)
  refine L_aload_n X 4 dJ6_getChars_ba4f3_72 rfl rfl ?_
  refine L_iinc X (v := nI (p - 1)) 2 dJ6_getChars_ba4f3_73 rfl ((show nI p + (-1) = nI (p - 1) from sb_m1 (by omega)).trans (by first | rfl | rw [Nat.sub_sub])) (by decide) rfl ?_
  refine L_iload X 0 dJ6_getChars_ba4f3_76 rfl ?_
  refine L_gets X E.2.2.2.1.1 rfl wF_J6_83 dJ6_getChars_ba4f3_78 ?_
  refine L_iload_n X 1 dJ6_getChars_ba4f3_81 rfl rfl ?_
  refine L_ineg X dJ6_getChars_ba4f3_82 ?_
  refine L_nmi (v := nI v) (by rw [Int32.neg_neg]) ?_
  refine L_tb X E.2.2.2.1.2 (inb_n (by omega) (by omega)) (by rw [ix_n (by omega)]) dJ6_getChars_ba4f3_83 ?_
  refine L_bast X (T' := (c0 :: (b, .inl ((gκ g).2.1 2, cap, .inl (upd f (ix (nI (p - 1))) ((nI (48 + v % 10)).toInt8.toInt32)))) :: T0)) 1 rfl (inb_n (by omega) (by omega)) rfl dJ6_getChars_ba4f3_84 ?_
  refine L_iload_n X 1 dJ6_getChars_ba4f3_85 rfl rfl ?_
  refine L_bipush X (v := (-9)) dJ6_getChars_ba4f3_86 rfl ?_
  refine L_icmp_ge X (tgt := 104) dJ6_getChars_ba4f3_88 (by decide) (fun hn => absurd hn (fg_d v (by omega) (by omega))) (fun _ => ?_)
  refine L_aload_n X 4 dJ6_getChars_ba4f3_91 rfl rfl ?_
  refine L_iinc X (v := nI (p - 2)) 0 dJ6_getChars_ba4f3_92 rfl ((show nI (p - 1) + (-1) = nI ((p - 1) - 1) from sb_m1 (by omega)).trans (by first | rfl | rw [Nat.sub_sub])) (by decide) rfl ?_
  refine L_iload X 0 dJ6_getChars_ba4f3_95 rfl ?_
  refine L_gets X E.2.2.2.2.1.1 rfl wF_J6_87 dJ6_getChars_ba4f3_97 ?_
  refine L_iload_n X 1 dJ6_getChars_ba4f3_100 rfl rfl ?_
  refine L_ineg X dJ6_getChars_ba4f3_101 ?_
  refine L_nmi (v := nI v) (by rw [Int32.neg_neg]) ?_
  refine L_tb X E.2.2.2.2.1.2 (inb_n (by omega) (by omega)) (by rw [ix_n (by omega)]) dJ6_getChars_ba4f3_102 ?_
  refine L_bast X (T' := (c0 :: (b, .inl ((gκ g).2.1 2, cap, .inl (upd (upd f (ix (nI (p - 1))) ((nI (48 + v % 10)).toInt8.toInt32)) (ix (nI (p - 2))) ((nI (48 + v / 10)).toInt8.toInt32)))) :: T0)) 1 rfl (inb_n (by omega) (by omega)) rfl dJ6_getChars_ba4f3_103 ?_
  refine L_iload X 2 dJ6_getChars_ba4f3_104 rfl ?_
  refine L_if_eq X (tgt := 118) dJ6_getChars_ba4f3_106 (by decide) (fun _ => ?_) (fun hn => absurd rfl hn)
  refine L_iload X 0 dJ6_getChars_ba4f3_118 rfl ?_
  exact hf _ _ _ _ dJ6_getChars_ba4f3_120 rfl ⟨_, _, gcc2 hv hp hc hfit, rfl, rfl⟩

theorem gcc3 {v p cap : Nat} {f : Nat → Int32} (hv : v < 1000 ∧ 100 ≤ v) (hp : 3 ≤ p) (hc : p ≤ cap ∧ cap ≤ 1300) (hfit : sb_Fit f) : sb_Fit (upd (upd (upd f (ix (nI (p - 1))) ((nI (48 + (v % 100) % 10)).toInt8.toInt32)) (ix (nI (p - 2))) ((nI (48 + (v % 100) / 10)).toInt8.toInt32)) (ix (nI (p - 3))) ((nI (48 + (v / 100) % 10)).toInt8.toInt32)) ∧ (∀ i, i < p - dgn v → (upd (upd (upd f (ix (nI (p - 1))) ((nI (48 + (v % 100) % 10)).toInt8.toInt32)) (ix (nI (p - 2))) ((nI (48 + (v % 100) / 10)).toInt8.toInt32)) (ix (nI (p - 3))) ((nI (48 + (v / 100) % 10)).toInt8.toInt32)) i = f i) ∧ ∀ i, i < dgn v → (upd (upd (upd f (ix (nI (p - 1))) ((nI (48 + (v % 100) % 10)).toInt8.toInt32)) (ix (nI (p - 2))) ((nI (48 + (v % 100) / 10)).toInt8.toInt32)) (ix (nI (p - 3))) ((nI (48 + (v / 100) % 10)).toInt8.toInt32)) (p - dgn v + i) = (dgs v).getD i 0 := by
  have e : dgn v = 3 := by unfold dgn; rw [if_neg (by omega), if_neg (by omega)]
  have e2 : dgs v = [nI (48 + v / 100), nI (48 + v / 10 % 10), nI (48 + v % 10)] := by unfold dgs; rw [if_neg (by omega), if_neg (by omega)]
  rw [e, e2]
  refine ⟨sb_fitU (sb_fitU (sb_fitU hfit (pk_fb _)) (pk_fb _)) (pk_fb _), fun i hi => ?_, fun i hi => ?_⟩
  · rw [ix_n (n := p - 3) (by omega), ix_n (n := p - 2) (by omega), ix_n (n := p - 1) (by omega), pk_un (by omega), pk_un (by omega), pk_un (by omega)]
  · rcases (by omega : i = 0 ∨ i = 1 ∨ i = 2) with rfl | rfl | rfl
    · rw [ix_n (n := p - 3) (by omega), ix_n (n := p - 2) (by omega), ix_n (n := p - 1) (by omega), Nat.add_zero, pk_us, by_c _ (by omega), show v / 100 % 10 = v / 100 by omega]
      rfl
    · rw [ix_n (n := p - 3) (by omega), ix_n (n := p - 2) (by omega), ix_n (n := p - 1) (by omega), pk_un (by omega), show p - 3 + 1 = p - 2 by omega, pk_us, by_c _ (by omega), show v % 100 / 10 = v / 10 % 10 by omega]
      rfl
    · rw [ix_n (n := p - 3) (by omega), ix_n (n := p - 2) (by omega), ix_n (n := p - 1) (by omega), pk_un (by omega), pk_un (by omega), show p - 3 + 2 = p - 1 by omega, pk_us, by_c _ (by omega), show v % 100 % 10 = v % 10 by omega]
      rfl
theorem cg3_getChars {l : Launch} {κ : KX} {ξ : XI} {T0 : va_W} {c0 : Nat × va_E} {b v p cap : Nat} {f : Nat → Int32} (hv : v < 1000 ∧ 100 ≤ v) (hp : 3 ≤ p) (hc : p ≤ cap ∧ cap ≤ 1300) (hfit : sb_Fit f) : CtM l κ ξ yJ6_getChars_ba4f3 cJ6_getChars_ba4f3 7 (some .int) 0 0 0 0 [.int (nI v), .int (nI p), .ref b] (c0 :: (b, .inl (κ.2.1 2, cap, .inl f)) :: T0) (fun rv T => ∃ (r : Int32) (f2 : Nat → Int32), (sb_Fit f2 ∧ (∀ i, i < p - dgn v → f2 i = f i) ∧ ∀ i, i < dgn v → f2 (p - dgn v + i) = (dgs v).getD i 0) ∧ rv = some (.int r) ∧ T = c0 :: (b, .inl (κ.2.1 2, cap, .inl f2)) :: T0) := by
  refine CtM_i RJ6 rfl (by decide +kernel) (Nat.le_of_ble_eq_true rfl) (fun g hgl hgκ X E hf => ?_)
  subst hgl; subst hgκ
  refine L_iload_n X 1 dJ6_getChars_ba4f3_0 rfl rfl ?_
  refine L_istore X dJ6_getChars_ba4f3_1 (by decide) rfl ?_
  refine L_iload_n X 1 dJ6_getChars_ba4f3_3 rfl rfl ?_
  refine L_if_ge X (tgt := 11) dJ6_getChars_ba4f3_4 (by decide) (fun _ => ?_) (fun hn => absurd (nI_pos' (by omega)) hn)
  refine L_iconst X (v := 0) dJ6_getChars_ba4f3_11 rfl ?_
  refine L_istore X dJ6_getChars_ba4f3_12 (by decide) rfl ?_
  refine L_iload X 0 dJ6_getChars_ba4f3_14 rfl ?_
  refine L_if_ne X (tgt := 22) dJ6_getChars_ba4f3_16 (by decide) (fun hn => absurd hn (fun h => h rfl)) (fun _ => ?_)
  refine L_iload_n X 2 dJ6_getChars_ba4f3_19 rfl rfl ?_
  refine L_ineg X dJ6_getChars_ba4f3_20 ?_
  refine L_istore_n X dJ6_getChars_ba4f3_21 rfl (by decide) rfl ?_
  refine L_iload_n X 0 dJ6_getChars_ba4f3_22 rfl rfl ?_
  refine L_bipush X (v := (-100)) dJ6_getChars_ba4f3_23 rfl ?_
  refine L_icmp_gt X (tgt := 72) dJ6_getChars_ba4f3_25 (by decide) (fun hn => absurd hn (fg_b v (by omega) (by omega))) (fun _ => ?_)
  refine L_iload_n X 0 dJ6_getChars_ba4f3_28 rfl rfl ?_
  refine L_bipush X (v := 100) dJ6_getChars_ba4f3_29 rfl ?_
  refine L_idiv X dJ6_getChars_ba4f3_31 (by decide) ?_
  refine L_nmi (v := -nI (v / 100)) (sb_ndiv (by omega)).symm ?_
  refine L_istore_n X dJ6_getChars_ba4f3_32 rfl (by decide) rfl ?_
  refine L_iload_n X 0 dJ6_getChars_ba4f3_33 rfl rfl ?_
  refine L_bipush X (v := 100) dJ6_getChars_ba4f3_34 rfl ?_
  refine L_imul X dJ6_getChars_ba4f3_36 ?_
  refine L_iload_n X 1 dJ6_getChars_ba4f3_37 rfl rfl ?_
  refine L_isub X dJ6_getChars_ba4f3_38 ?_
  refine L_nmi (v := nI (v % 100)) (sb_nrem (by omega)).symm ?_
  refine L_istore X dJ6_getChars_ba4f3_39 (by decide) rfl ?_
  refine L_iload_n X 1 dJ6_getChars_ba4f3_41 rfl rfl ?_
  refine L_istore_n X dJ6_getChars_ba4f3_42 rfl (by decide) rfl ?_
  refine L_aload_n X 6 dJ6_getChars_ba4f3_43 rfl rfl ?_
  refine L_iinc X (v := nI (p - 1)) 4 dJ6_getChars_ba4f3_44 rfl ((show nI p + (-1) = nI (p - 1) from sb_m1 (by omega)).trans (by first | rfl | rw [Nat.sub_sub])) (by decide) rfl ?_
  refine L_iload X 0 dJ6_getChars_ba4f3_47 rfl ?_
  refine L_gets X E.2.2.2.1.1 rfl wF_J6_83 dJ6_getChars_ba4f3_49 ?_
  refine L_iload X 2 dJ6_getChars_ba4f3_52 rfl ?_
  refine L_tb X E.2.2.2.1.2 (inb_n (by omega) (by omega)) (by rw [ix_n (by omega)]) dJ6_getChars_ba4f3_54 ?_
  refine L_bast X (T' := (c0 :: (b, .inl ((gκ g).2.1 2, cap, .inl (upd f (ix (nI (p - 1))) ((nI (48 + (v % 100) % 10)).toInt8.toInt32)))) :: T0)) 1 rfl (inb_n (by omega) (by omega)) rfl dJ6_getChars_ba4f3_55 ?_
  refine L_aload_n X 6 dJ6_getChars_ba4f3_56 rfl rfl ?_
  refine L_iinc X (v := nI (p - 2)) 0 dJ6_getChars_ba4f3_57 rfl ((show nI (p - 1) + (-1) = nI ((p - 1) - 1) from sb_m1 (by omega)).trans (by first | rfl | rw [Nat.sub_sub])) (by decide) rfl ?_
  refine L_iload X 0 dJ6_getChars_ba4f3_60 rfl ?_
  refine L_gets X E.2.2.2.2.1.1 rfl wF_J6_87 dJ6_getChars_ba4f3_62 ?_
  refine L_iload X 2 dJ6_getChars_ba4f3_65 rfl ?_
  refine L_tb X E.2.2.2.2.1.2 (inb_n (by omega) (by omega)) (by rw [ix_n (by omega)]) dJ6_getChars_ba4f3_67 ?_
  refine L_bast X (T' := (c0 :: (b, .inl ((gκ g).2.1 2, cap, .inl (upd (upd f (ix (nI (p - 1))) ((nI (48 + (v % 100) % 10)).toInt8.toInt32)) (ix (nI (p - 2))) ((nI (48 + (v % 100) / 10)).toInt8.toInt32)))) :: T0)) 1 rfl (inb_n (by omega) (by omega)) rfl dJ6_getChars_ba4f3_68 ?_
  refine L_goto X (tgt := 22) dJ6_getChars_ba4f3_69 (by decide) ?_
  refine L_iload_n X 1 dJ6_getChars_ba4f3_22 rfl rfl ?_
  refine L_bipush X (v := (-100)) dJ6_getChars_ba4f3_23 rfl ?_
  refine L_icmp_gt X (tgt := 72) dJ6_getChars_ba4f3_25 (by decide) (fun _ => ?_) (fun hn => absurd (fg_a _ (by omega)) hn)
  refine L_aload_n X 6 dJ6_getChars_ba4f3_72 rfl rfl ?_
  refine L_iinc X (v := nI (p - 3)) 0 dJ6_getChars_ba4f3_73 rfl ((show nI (p - 2) + (-1) = nI ((p - 2) - 1) from sb_m1 (by omega)).trans (by first | rfl | rw [Nat.sub_sub])) (by decide) rfl ?_
  refine L_iload X 0 dJ6_getChars_ba4f3_76 rfl ?_
  refine L_gets X E.2.2.2.1.1 rfl wF_J6_83 dJ6_getChars_ba4f3_78 ?_
  refine L_iload_n X 1 dJ6_getChars_ba4f3_81 rfl rfl ?_
  refine L_ineg X dJ6_getChars_ba4f3_82 ?_
  refine L_nmi (v := nI (v / 100)) (by rw [Int32.neg_neg]) ?_
  refine L_tb X E.2.2.2.1.2 (inb_n (by omega) (by omega)) (by rw [ix_n (by omega)]) dJ6_getChars_ba4f3_83 ?_
  refine L_bast X (T' := (c0 :: (b, .inl ((gκ g).2.1 2, cap, .inl (upd (upd (upd f (ix (nI (p - 1))) ((nI (48 + (v % 100) % 10)).toInt8.toInt32)) (ix (nI (p - 2))) ((nI (48 + (v % 100) / 10)).toInt8.toInt32)) (ix (nI (p - 3))) ((nI (48 + (v / 100) % 10)).toInt8.toInt32)))) :: T0)) 1 rfl (inb_n (by omega) (by omega)) rfl dJ6_getChars_ba4f3_84 ?_
  refine L_iload_n X 1 dJ6_getChars_ba4f3_85 rfl rfl ?_
  refine L_bipush X (v := (-9)) dJ6_getChars_ba4f3_86 rfl ?_
  refine L_icmp_ge X (tgt := 104) dJ6_getChars_ba4f3_88 (by decide) (fun _ => ?_) (fun hn => absurd (fg_c _ (by omega)) hn)
  refine L_iload X 4 dJ6_getChars_ba4f3_104 rfl ?_
  refine L_if_eq X (tgt := 118) dJ6_getChars_ba4f3_106 (by decide) (fun _ => ?_) (fun hn => absurd rfl hn)
  refine L_iload X 0 dJ6_getChars_ba4f3_118 rfl ?_
  exact hf _ _ _ _ dJ6_getChars_ba4f3_120 rfl ⟨_, _, gcc3 hv hp hc hfit, rfl, rfl⟩

theorem cm_J6_getChars_ba4f3 {l : Launch} {κ : KX} {ξ : XI} {T0 : va_W} {c0 : Nat × va_E} {b v p cap : Nat} {f : Nat → Int32} (h : v < 1000) (hp : dgn v ≤ p) (hc : p ≤ cap ∧ cap ≤ 1300) (hfit : sb_Fit f) : CtM l κ ξ yJ6_getChars_ba4f3 cJ6_getChars_ba4f3 7 (some .int) 0 0 0 0 [.int (nI v), .int (nI p), .ref b] (c0 :: (b, .inl (κ.2.1 2, cap, .inl f)) :: T0) (fun rv T => ∃ (r : Int32) (f2 : Nat → Int32), (sb_Fit f2 ∧ (∀ i, i < p - dgn v → f2 i = f i) ∧ ∀ i, i < dgn v → f2 (p - dgn v + i) = (dgs v).getD i 0) ∧ rv = some (.int r) ∧ T = c0 :: (b, .inl (κ.2.1 2, cap, .inl f2)) :: T0) := by
  by_cases h1 : v < 10
  · exact cg1_getChars h1 (by have := dgn_le v; omega) hc hfit
  · by_cases h2 : v < 100
    · exact cg2_getChars ⟨h2, by omega⟩ (by unfold dgn at hp; rw [if_neg h1, if_pos h2] at hp; exact hp) hc hfit
    · exact cg3_getChars ⟨h, by omega⟩ (by unfold dgn at hp; rw [if_neg h1, if_neg h2] at hp; exact hp) hc hfit
theorem cm_J5_append_c97b9 {l : Launch} {κ : KX} {ξ : XI} {T0 : va_W} {q v cap : Nat} {ml : Int32} {f : Nat → Int32} {t : List Int32} {v9 : Nat} (hv : v9 < 1000) (hS : SBt t cap f) (hl : t.length + 3 ≤ 600) : CtM l κ ξ yJ5_append_c97b9 cJ5_append_c97b9 4 (some (.object "java/lang/AbstractStringBuilder")) 4 104 1 1300 [.ref q, .int (nI v9)] ((q, .inr (11, [.ref v, .int 0, .int ml, .int (nI t.length)])) :: (v, .inl (κ.2.1 2, cap, .inl f)) :: T0) (fun rv T => ∃ (v2 cap2 : Nat) (f2 : Nat → Int32), rv = some (.ref q) ∧ SBt (t ++ dgs v9) cap2 f2 ∧ T = (q, .inr (11, [.ref v2, .int 0, .int ml, .int (nI (t ++ dgs v9).length)])) :: (v2, .inl (κ.2.1 2, cap2, .inl f2)) :: T0) := by
  refine CtM_a RJ5 rfl (by decide +kernel) rfl (Nat.le_of_ble_eq_true rfl) (fun g hgl hgκ X E hf => ?_)
  subst hgl; subst hgκ
  have hd := dgn_le v9
  have hS2 := hS.2.1
  have hS1 := hS.1
  refine L_aload_n X 0 dJ5_append_c97b9_0 rfl rfl ?_
  refine L_get X (C := RJ4) (Tf := TJ4) (N := 4) (c := 11) (k := 3) rfl iJ4 (by decide) rfl wF_J5_79 0 rfl rfl dJ5_append_c97b9_1 ?_
  refine L_istore_n X dJ5_append_c97b9_4 rfl (by decide) rfl ?_
  refine L_iload_n X 0 dJ5_append_c97b9_5 rfl rfl ?_
  refine L_iload_n X 2 dJ5_append_c97b9_6 rfl rfl ?_
  refine L_cS X E (As := [.int (nI v9)]) (rest := [.int (nI t.length)]) (cm_J6_stringSize_0f7a4 hv) cal_J6_stringSize_0f7a4 wM_J5_245 wT_J6_stringSize_0f7a4 ⟨⟨(Nat.le_of_ble_eq_true rfl), (Nat.le_of_ble_eq_true rfl)⟩, ⟨by omega, by omega⟩⟩ rfl rfl (Nat.le_of_ble_eq_true rfl) dJ5_append_c97b9_7 (fun rv T1 hT => ?_)
  obtain ⟨rfl, rfl⟩ := hT
  refine L_iadd X dJ5_append_c97b9_10 ?_
  refine L_nmi (v := nI (t.length + dgn v9)) (nI_add _ _).symm ?_
  refine L_istore_n X dJ5_append_c97b9_11 rfl (by decide) rfl ?_
  refine L_aload_n X 2 dJ5_append_c97b9_12 rfl rfl ?_
  refine L_iload_n X 0 dJ5_append_c97b9_13 rfl rfl ?_
  refine L_cU X E (q := vcl 11) (owner := RJ5) (As := [.int (nI (t.length + dgn v9))]) (rest := []) (cm_J5_ensureCapacityInternal_d00df (by omega) hS.2.1 hS.2.2.1) cal_J5_ensureCapacityInternal_d00df wM_J5_100 wX_1542 wI_J5_ensureCapacityInternal_d00df (List.mem_append_right _ (List.mem_of_getElem? (i := 0) rfl)) rfl 0 rfl rfl ⟨⟨(Nat.le_of_ble_eq_true rfl), (Nat.le_of_ble_eq_true rfl)⟩, ⟨by omega, by omega⟩⟩ rfl rfl (Nat.le_of_ble_eq_true rfl) dJ5_append_c97b9_14 (fun rv T1 hT => ?_)
  obtain ⟨rfl, v2, cap2, f2, hc2, hm2, hcc2, hf2, hk2, rfl⟩ := hT
  refine L_aload_n X 2 dJ5_append_c97b9_17 rfl rfl ?_
  refine L_cU X E (q := vcl 11) (owner := RJ5) (As := []) (rest := []) (cm_J5_isLatin1_aae02 0 rfl) cal_J5_isLatin1_aae02 wM_J5_83 wX_863 wI_J5_isLatin1_aae02 (List.mem_append_left _ wO_J5_isLatin1_aae02) rfl 0 rfl rfl ⟨⟨(Nat.le_of_ble_eq_true rfl), (Nat.le_of_ble_eq_true rfl)⟩, ⟨by omega, by omega⟩⟩ rfl rfl (Nat.le_of_ble_eq_true rfl) dJ5_append_c97b9_18 (fun rv T1 hT => ?_)
  obtain ⟨rfl, rfl⟩ := hT
  refine L_if_eq X (tgt := 37) dJ5_append_c97b9_21 (by decide) (fun hn => absurd hn (by decide)) (fun _ => ?_)
  refine L_iload_n X 3 dJ5_append_c97b9_24 rfl rfl ?_
  refine L_iload_n X 0 dJ5_append_c97b9_25 rfl rfl ?_
  refine L_aload_n X 2 dJ5_append_c97b9_26 rfl rfl ?_
  refine L_get X (C := RJ4) (Tf := TJ4) (N := 4) (c := 11) (k := 0) rfl iJ4 (by decide) rfl wF_J5_15 0 rfl rfl dJ5_append_c97b9_27 ?_
  refine L_cS X E (As := [.int (nI v9), .int (nI (t.length + dgn v9)), .ref v2]) (rest := []) (cm_J6_getChars_ba4f3 hv (by omega) ⟨hm2, hc2⟩ hf2) cal_J6_getChars_ba4f3 wM_J5_248 wT_J6_getChars_ba4f3 ⟨⟨(Nat.le_of_ble_eq_true rfl), (Nat.le_of_ble_eq_true rfl)⟩, ⟨by omega, by omega⟩⟩ rfl rfl (Nat.le_of_ble_eq_true rfl) dJ5_append_c97b9_30 (fun rv T1 hT => ?_)
  obtain ⟨r9, f3, ⟨hf3, hg1, hg2⟩, rfl, rfl⟩ := hT
  refine L_pop X dJ5_append_c97b9_33 rfl ?_
  refine L_goto X (tgt := 48) dJ5_append_c97b9_34 (by decide) ?_
  refine L_aload_n X 2 dJ5_append_c97b9_48 rfl rfl ?_
  refine L_iload_n X 0 dJ5_append_c97b9_49 rfl rfl ?_
  refine L_put X (C := RJ4) (Tf := TJ4) (N := 4) (c := 11) (k := 3) (T' := ((q, .inr (11, [.ref v2, .int 0, .int ml, .int (nI (t.length + dgn v9))])) :: (v2, .inl ((gκ g).2.1 2, cap2, .inl f3)) :: T0)) rfl iJ4 tyJ4_ok nmJ4 (by decide) rfl rfl (tyJ4_ok _ (by decide)) wF_J5_79 0 rfl rfl rfl (Nat.le_of_ble_eq_true rfl) rfl dJ5_append_c97b9_50 ?_
  refine L_aload_n X 2 dJ5_append_c97b9_53 rfl rfl ?_
  refine L_widen (a' := 1) (b' := 1300) (by omega) (by omega) ?_
  exact hf _ _ _ _ dJ5_append_c97b9_54 ⟨v2, cap2, f3, rfl, sbt_app hS hc2 (by rw [dgs_len]; exact hm2) hf3 (fun i hi => by rw [hg1 i (by omega)]; exact hk2 i (by omega)) (fun i hi => by rw [dgs_len] at hi; have k := hg2 i hi; rw [show t.length + dgn v9 - dgn v9 + i = t.length + i by omega] at k; exact k), by rw [List.length_append, dgs_len]⟩

theorem cm_J4_append_bf812 {l : Launch} {κ : KX} {ξ : XI} {T0 : va_W} {q v cap : Nat} {ml : Int32} {f : Nat → Int32} {t : List Int32} {v9 : Nat} (hv : v9 < 1000) (hS : SBt t cap f) (hl : t.length + 3 ≤ 600) : CtM l κ ξ yJ4_append_bf812 cJ4_append_bf812 2 (some (.object "java/lang/StringBuilder")) 5 127 1 1300 [.ref q, .int (nI v9)] ((q, .inr (11, [.ref v, .int 0, .int ml, .int (nI t.length)])) :: (v, .inl (κ.2.1 2, cap, .inl f)) :: T0) (fun rv T => ∃ (v2 cap2 : Nat) (f2 : Nat → Int32), rv = some (.ref q) ∧ SBt (t ++ dgs v9) cap2 f2 ∧ T = (q, .inr (11, [.ref v2, .int 0, .int ml, .int (nI (t ++ dgs v9).length)])) :: (v2, .inl (κ.2.1 2, cap2, .inl f2)) :: T0) := by
  refine CtM_a RJ4 rfl (by decide +kernel) rfl (Nat.le_of_ble_eq_true rfl) (fun g hgl hgκ X E hf => ?_)
  subst hgl; subst hgκ
  refine L_aload_n X 0 dJ4_append_bf812_0 rfl rfl ?_
  refine L_iload_n X 1 dJ4_append_bf812_1 rfl rfl ?_
  refine L_cSU X E (q := vcl 11) (As := [.int (nI v9)]) (rest := []) (cm_J5_append_c97b9 hv hS hl) cal_J5_append_c97b9 wM_J4_53 wX_1548 wU_J4 wI_J5_append_c97b9 (by decide) 0 rfl rfl ⟨⟨(Nat.le_of_ble_eq_true rfl), (Nat.le_of_ble_eq_true rfl)⟩, ⟨by omega, by omega⟩⟩ rfl rfl (Nat.le_of_ble_eq_true rfl) dJ4_append_bf812_2 (fun rv T1 hT => ?_)
  obtain ⟨v2, cap2, f2, rfl, hS2, rfl⟩ := hT
  refine L_pop X dJ4_append_bf812_5 rfl ?_
  refine L_aload_n X 0 dJ4_append_bf812_6 rfl rfl ?_
  refine L_widen (a' := 1) (b' := 1300) (by omega) (by omega) ?_
  exact hf _ _ _ _ dJ4_append_bf812_7 ⟨v2, cap2, f2, rfl, hS2, rfl⟩

