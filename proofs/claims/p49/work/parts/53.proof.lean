set_option maxRecDepth 20000 in
theorem gX0_fallAsleep {g : GX} {T : TT} {r : Nat} {o : Nat} {x : St}  {res : St} (X : CX g RX0 cX0_fallAsleep 1 0 0) (hr : isW r) (ho : isO o) (hf : FinV g cX0_fallAsleep (rs T r res)) (h : sX0_fallAsleep o x = some res) : G g 0 0 (rs T r x) 0 [(0, .ref (xE (gκ g) r o 0))] [] := by
  unfold sX0_fallAsleep at h
  refine G_aload_n X 0 dX0_fallAsleep_0 rfl rfl ?_
  refine G_iconst X (v := (0 : Int32)) dX0_fallAsleep_1 (by decide) ?_
  obtain ⟨z1, ez1, h⟩ := nm_some h
  refine p_X0_63 X (T' := rs T r z1) (kd_o0 hr ho) (rg_rs _ _ _)  (by rw [rs_rs, ez1]) dX0_fallAsleep_2 ?_
  refine G_aload_n X 0 dX0_fallAsleep_5 rfl rfl ?_
  refine G_iconst X (v := (0 : Int32)) dX0_fallAsleep_6 (by decide) ?_
  obtain ⟨z2, ez2, h⟩ := nm_some h
  refine p_X0_66 X (T' := rs T r z2) (kd_o0 hr ho) (rg_rs _ _ _)  (by rw [rs_rs, ez2]) dX0_fallAsleep_7 ?_
  refine G_aload_n X 0 dX0_fallAsleep_10 rfl rfl ?_
  refine G_iconst X (v := (0 : Int32)) dX0_fallAsleep_11 (by decide) ?_
  obtain ⟨z3, ez3, h⟩ := nm_some h
  refine p_X0_69 X (T' := rs T r z3) (kd_o0 hr ho) (rg_rs _ _ _)  (by rw [rs_rs, ez3]) dX0_fallAsleep_12 ?_
  obtain rfl := Option.some.inj h
  exact hf _ _ dX0_fallAsleep_15
set_option maxRecDepth 20000 in
theorem ct_X0_fallAsleep {l : Launch} {κ : KX} {T : TT} {r : Nat} {o : Nat} {x : St}  {res : St} (hr : isW r) (ho : isO o) (h : sX0_fallAsleep o x = some res) : Ct l κ yX0_fallAsleep cX0_fallAsleep 1 none 0 0 [.ref (xE κ r o 0)] (rs T r x) (rs T r res) none := by
  refine Ct_v RX0 rfl (by decide +kernel) (Nat.le_of_ble_eq_true rfl) (fun g hl hκ X hf => ?_)
  subst hl; subst hκ
  exact gX0_fallAsleep X hr ho hf h
set_option maxRecDepth 20000 in
theorem gX0_begin_b81 {g : GX} {T : TT} {r : Nat} {o : Nat}  {res : St}  (X : CX g RX0 cX0_begin 4 1 20) (hr : isW r) (ho : isO o) (hf : FinV g cX0_begin (rs T r res))  : ∀ (n : Nat) (x : St) (a3 : Int32) (h : sX0_begin_b81 n  o x a3 = some res), G g 0 0 (rs T r x) 81 [(0, .ref (xE (gκ g) r o 0)), (3, .int a3)] [] := by
  intro n
  induction n with
  | zero => intro x a3 h; unfold sX0_begin_b81 at h; cases h
  | succ n ih =>
    intro x a3 h
    unfold sX0_begin_b81 at h
    refine G_iload_n X 1 dX0_begin_81 rfl rfl ?_
    refine G_bipush X (v := (8 : Int32)) dX0_begin_82 (by decide) ?_
    refine G_icmp_ge X (tgt := 114) dX0_begin_84 (by decide) (fun c17 => ?_) (fun c17 => ?_)
    · have h := it_t c17 h
      obtain rfl := Option.some.inj h
      exact hf _ _ dX0_begin_114
    · have h := it_f c17 h
      refine G_aload_n X 0 dX0_begin_87 rfl rfl ?_
      refine f_X0_15 X (kd_o0 hr ho) rfl dX0_begin_88 ?_
      refine G_iload_n X 1 dX0_begin_91 rfl rfl ?_
      refine G_iconst X (v := (-1 : Int32)) dX0_begin_92 (by decide) ?_
      obtain ⟨g18, h⟩ := gd_some h
      obtain ⟨z19, ez19, h⟩ := nm_some h
      refine G_iast X (T' := rs T r z19) (kd_o2 hr ho) (rg_rs _ _ _) g18 (by rw [rs_rs, ez19]) dX0_begin_93 ?_
      refine G_aload_n X 0 dX0_begin_94 rfl rfl ?_
      refine f_X0_18 X (kd_o0 hr ho) rfl dX0_begin_95 ?_
      refine G_iload_n X 1 dX0_begin_98 rfl rfl ?_
      refine G_iconst X (v := (0 : Int32)) dX0_begin_99 (by decide) ?_
      obtain ⟨g20, h⟩ := gd_some h
      obtain ⟨z21, ez21, h⟩ := nm_some h
      refine G_iast X (T' := rs T r z21) (kd_o3 hr ho) (rg_rs _ _ _) g20 (by rw [rs_rs, ez21]) dX0_begin_100 ?_
      refine G_aload_n X 0 dX0_begin_101 rfl rfl ?_
      refine f_X0_21 X (kd_o0 hr ho) rfl dX0_begin_102 ?_
      refine G_iload_n X 1 dX0_begin_105 rfl rfl ?_
      refine G_iconst X (v := (5 : Int32)) dX0_begin_106 (by decide) ?_
      obtain ⟨g22, h⟩ := gd_some h
      obtain ⟨z23, ez23, h⟩ := nm_some h
      refine G_iast X (T' := rs T r z23) (kd_o4 hr ho) (rg_rs _ _ _) g22 (by rw [rs_rs, ez23]) dX0_begin_107 ?_
      obtain ⟨v24, ev24, h⟩ := nm_some h
      refine G_iinc X (v := v24) (lv' := [(3, .int v24), (0, .ref (xE (gκ g) r o 0))]) 1 dX0_begin_108 rfl (by rw [ev24]; rfl) (by decide) rfl ?_
      refine G_goto X (tgt := 81) dX0_begin_111 (by decide) ?_
      refine G_sub [1, 0] rfl ?_
      exact ih _ _ h
set_option maxRecDepth 20000 in
theorem gX0_begin_b61 {g : GX} {T : TT} {r : Nat} {o : Nat}  {res : St}  (X : CX g RX0 cX0_begin 4 1 20) (hr : isW r) (ho : isO o) (hf : FinV g cX0_begin (rs T r res))  : ∀ (n : Nat) (x : St) (a3 : Int32) (h : sX0_begin_b61 n  o x a3 = some res), G g 0 0 (rs T r x) 61 [(0, .ref (xE (gκ g) r o 0)), (3, .int a3)] [] := by
  intro n
  induction n with
  | zero => intro x a3 h; unfold sX0_begin_b61 at h; cases h
  | succ n ih =>
    intro x a3 h
    unfold sX0_begin_b61 at h
    refine G_iload_n X 1 dX0_begin_61 rfl rfl ?_
    refine G_iconst X (v := (4 : Int32)) dX0_begin_62 (by decide) ?_
    refine G_icmp_ge X (tgt := 79) dX0_begin_63 (by decide) (fun c13 => ?_) (fun c13 => ?_)
    · have h := it_t c13 h
      refine G_iconst X (v := (0 : Int32)) dX0_begin_79 (by decide) ?_
      refine G_istore_n X (lv' := [(3, .int ((0 : Int32))), (0, .ref (xE (gκ g) r o 0))]) dX0_begin_80 rfl (by decide) rfl ?_
      refine G_sub [1, 0] rfl ?_
      exact gX0_begin_b81 X hr ho hf FU _ _ h
    · have h := it_f c13 h
      refine G_aload_n X 0 dX0_begin_66 rfl rfl ?_
      refine f_X0_9 X (kd_o0 hr ho) rfl dX0_begin_67 ?_
      refine G_iload_n X 1 dX0_begin_70 rfl rfl ?_
      refine G_iconst X (v := (0 : Int32)) dX0_begin_71 (by decide) ?_
      obtain ⟨g14, h⟩ := gd_some h
      obtain ⟨z15, ez15, h⟩ := nm_some h
      refine G_iast X (T' := rs T r z15) (kd_o1 hr ho) (rg_rs _ _ _) g14 (by rw [rs_rs, ez15]) dX0_begin_72 ?_
      obtain ⟨v16, ev16, h⟩ := nm_some h
      refine G_iinc X (v := v16) (lv' := [(3, .int v16), (0, .ref (xE (gκ g) r o 0))]) 1 dX0_begin_73 rfl (by rw [ev16]; rfl) (by decide) rfl ?_
      refine G_goto X (tgt := 61) dX0_begin_76 (by decide) ?_
      refine G_sub [1, 0] rfl ?_
      exact ih _ _ h
set_option maxRecDepth 20000 in
theorem gX0_begin {g : GX} {T : TT} {r : Nat} {o : Nat} {x : St} {a1 : Int64} {res : St} (X : CX g RX0 cX0_begin 4 1 20) (hr : isW r) (ho : isO o) (hf : FinV g cX0_begin (rs T r res)) (h : sX0_begin o x a1 = some res) : G g 0 0 (rs T r x) 0 [(0, .ref (xE (gκ g) r o 0)), (1, .long a1)] [] := by
  unfold sX0_begin at h
  refine G_aload_n X 0 dX0_begin_0 rfl rfl ?_
  refine G_lload_n X 1 dX0_begin_1 rfl rfl ?_
  obtain ⟨z1, ez1, h⟩ := nm_some h
  refine p_X0_24 X (T' := rs T r z1) (kd_o0 hr ho) (rg_rs _ _ _)  (by rw [rs_rs, ez1]) dX0_begin_2 ?_
  refine G_aload_n X 0 dX0_begin_5 rfl rfl ?_
  refine G_iconst X (v := (2 : Int32)) dX0_begin_6 (by decide) ?_
  obtain ⟨z2, ez2, h⟩ := nm_some h
  refine p_X0_28 X (T' := rs T r z2) (kd_o0 hr ho) (rg_rs _ _ _)  (by rw [rs_rs, ez2]) dX0_begin_7 ?_
  refine G_aload_n X 0 dX0_begin_10 rfl rfl ?_
  refine G_iconst X (v := (0 : Int32)) dX0_begin_11 (by decide) ?_
  obtain ⟨z3, ez3, h⟩ := nm_some h
  refine p_X0_32 X (T' := rs T r z3) (kd_o0 hr ho) (rg_rs _ _ _)  (by rw [rs_rs, ez3]) dX0_begin_12 ?_
  refine G_aload_n X 0 dX0_begin_15 rfl rfl ?_
  refine G_iconst X (v := (0 : Int32)) dX0_begin_16 (by decide) ?_
  obtain ⟨z4, ez4, h⟩ := nm_some h
  refine p_X0_35 X (T' := rs T r z4) (kd_o0 hr ho) (rg_rs _ _ _)  (by rw [rs_rs, ez4]) dX0_begin_17 ?_
  refine G_aload_n X 0 dX0_begin_20 rfl rfl ?_
  refine G_iconst X (v := (0 : Int32)) dX0_begin_21 (by decide) ?_
  obtain ⟨z5, ez5, h⟩ := nm_some h
  refine p_X0_38 X (T' := rs T r z5) (kd_o0 hr ho) (rg_rs _ _ _)  (by rw [rs_rs, ez5]) dX0_begin_22 ?_
  refine G_aload_n X 0 dX0_begin_25 rfl rfl ?_
  refine G_iconst X (v := (0 : Int32)) dX0_begin_26 (by decide) ?_
  obtain ⟨z6, ez6, h⟩ := nm_some h
  refine p_X0_41 X (T' := rs T r z6) (kd_o0 hr ho) (rg_rs _ _ _)  (by rw [rs_rs, ez6]) dX0_begin_27 ?_
  refine G_aload_n X 0 dX0_begin_30 rfl rfl ?_
  refine G_iconst X (v := (0 : Int32)) dX0_begin_31 (by decide) ?_
  obtain ⟨z7, ez7, h⟩ := nm_some h
  refine p_X0_44 X (T' := rs T r z7) (kd_o0 hr ho) (rg_rs _ _ _) (by decide)  (by rw [rs_rs, ez7]) dX0_begin_32 ?_
  refine G_aload_n X 0 dX0_begin_35 rfl rfl ?_
  refine G_iconst X (v := (0 : Int32)) dX0_begin_36 (by decide) ?_
  obtain ⟨z8, ez8, h⟩ := nm_some h
  refine p_X0_48 X (T' := rs T r z8) (kd_o0 hr ho) (rg_rs _ _ _)  (by rw [rs_rs, ez8]) dX0_begin_37 ?_
  refine G_aload_n X 0 dX0_begin_40 rfl rfl ?_
  refine G_iconst X (v := (0 : Int32)) dX0_begin_41 (by decide) ?_
  obtain ⟨z9, ez9, h⟩ := nm_some h
  refine p_X0_51 X (T' := rs T r z9) (kd_o0 hr ho) (rg_rs _ _ _)  (by rw [rs_rs, ez9]) dX0_begin_42 ?_
  refine G_aload_n X 0 dX0_begin_45 rfl rfl ?_
  refine G_iconst X (v := (0 : Int32)) dX0_begin_46 (by decide) ?_
  obtain ⟨z10, ez10, h⟩ := nm_some h
  refine p_X0_54 X (T' := rs T r z10) (kd_o0 hr ho) (rg_rs _ _ _)  (by rw [rs_rs, ez10]) dX0_begin_47 ?_
  refine G_aload_n X 0 dX0_begin_50 rfl rfl ?_
  refine G_iconst X (v := (0 : Int32)) dX0_begin_51 (by decide) ?_
  obtain ⟨z11, ez11, h⟩ := nm_some h
  refine p_X0_57 X (T' := rs T r z11) (kd_o0 hr ho) (rg_rs _ _ _)  (by rw [rs_rs, ez11]) dX0_begin_52 ?_
  refine G_aload_n X 0 dX0_begin_55 rfl rfl ?_
  obtain ⟨q12, hq12, h⟩ := bd_some h
  refine G_callV X (As := []) (rest := []) (T' := rs T r q12) (st2 := []) (ct_X0_fallAsleep (l := g.2.1) (κ := gκ g) (T := T) (r := r) (x := z11) hr ho hq12) cal_X0_fallAsleep wM_X0_60 wI_X0_fallAsleep wS_X0_fallAsleep (kd_o0 hr ho) rfl (by decide) rfl rfl (Nat.le_of_ble_eq_true rfl) ⟨Nat.zero_le _, Nat.zero_le _⟩ dX0_begin_56 rfl ?_
  refine G_iconst X (v := (0 : Int32)) dX0_begin_59 (by decide) ?_
  refine G_istore_n X (lv' := [(3, .int ((0 : Int32))), (0, .ref (xE (gκ g) r o 0)), (1, .long a1)]) dX0_begin_60 rfl (by decide) rfl ?_
  refine G_sub [1, 0] rfl ?_
  exact gX0_begin_b61 X hr ho hf FU _ _ h
set_option maxRecDepth 20000 in
theorem ct_X0_begin {l : Launch} {κ : KX} {T : TT} {r : Nat} {o : Nat} {x : St} {a1 : Int64} {res : St} (hr : isW r) (ho : isO o) (h : sX0_begin o x a1 = some res) : Ct l κ yX0_begin cX0_begin 4 none 1 20 [.ref (xE κ r o 0), .long a1] (rs T r x) (rs T r res) none := by
  refine Ct_v RX0 rfl (by decide +kernel) (Nat.le_of_ble_eq_true rfl) (fun g hl hκ X hf => ?_)
  subst hl; subst hκ
  exact gX0_begin X hr ho hf h
set_option maxRecDepth 20000 in
theorem gX0_copyFrom_b139 {g : GX} {T : TT} {r : Nat} {r2 : Nat} {y : St} {o : Nat} {oo : Nat}  {res : St}  (X : CX g RX0 cX0_copyFrom 3 0 0) (hr : isW r) (ho : isO o) (hr2 : isW r2) (hoo : isO oo) (hne : r2 ≠ r) (hy : rg T r2 = y) (hf : FinV g cX0_copyFrom (rs T r res))  : ∀ (n : Nat) (x : St) (a2 : Int32) (h : sX0_copyFrom_b139 n  y o oo x a2 = some res), G g 0 0 (rs T r x) 139 [(0, .ref (xE (gκ g) r o 0)), (1, .ref (xE (gκ g) r2 oo 0)), (2, .int a2)] [] := by
  intro n
  induction n with
  | zero => intro x a2 h; unfold sX0_copyFrom_b139 at h; cases h
  | succ n ih =>
    intro x a2 h
    unfold sX0_copyFrom_b139 at h
    refine G_iload_n X 2 dX0_copyFrom_139 rfl rfl ?_
    refine G_bipush X (v := (8 : Int32)) dX0_copyFrom_140 (by decide) ?_
    refine G_icmp_ge X (tgt := 187) dX0_copyFrom_142 (by decide) (fun c21 => ?_) (fun c21 => ?_)
    · have h := it_t c21 h
      obtain rfl := Option.some.inj h
      exact hf _ _ dX0_copyFrom_187
    · have h := it_f c21 h
      refine G_aload_n X 0 dX0_copyFrom_145 rfl rfl ?_
      refine f_X0_15 X (kd_o0 hr ho) rfl dX0_copyFrom_146 ?_
      refine G_iload_n X 2 dX0_copyFrom_149 rfl rfl ?_
      refine G_aload_n X 1 dX0_copyFrom_150 rfl rfl ?_
      refine f_X0_15 X (kd_o0 hr2 hoo) rfl dX0_copyFrom_151 ?_
      refine G_iload_n X 2 dX0_copyFrom_154 rfl rfl ?_
      obtain ⟨g22, h⟩ := gd_some h
      refine G_iald X (kd_o2 hr2 hoo) ((rg_rs_ne _ _ hne).trans hy) g22 dX0_copyFrom_155 ?_
      obtain ⟨g23, h⟩ := gd_some h
      obtain ⟨z24, ez24, h⟩ := nm_some h
      refine G_iast X (T' := rs T r z24) (kd_o2 hr ho) (rg_rs _ _ _) g23 (by rw [rs_rs, ez24]) dX0_copyFrom_156 ?_
      refine G_aload_n X 0 dX0_copyFrom_157 rfl rfl ?_
      refine f_X0_18 X (kd_o0 hr ho) rfl dX0_copyFrom_158 ?_
      refine G_iload_n X 2 dX0_copyFrom_161 rfl rfl ?_
      refine G_aload_n X 1 dX0_copyFrom_162 rfl rfl ?_
      refine f_X0_18 X (kd_o0 hr2 hoo) rfl dX0_copyFrom_163 ?_
      refine G_iload_n X 2 dX0_copyFrom_166 rfl rfl ?_
      obtain ⟨g25, h⟩ := gd_some h
      refine G_iald X (kd_o3 hr2 hoo) ((rg_rs_ne _ _ hne).trans hy) g25 dX0_copyFrom_167 ?_
      obtain ⟨g26, h⟩ := gd_some h
      obtain ⟨z27, ez27, h⟩ := nm_some h
      refine G_iast X (T' := rs T r z27) (kd_o3 hr ho) (rg_rs _ _ _) g26 (by rw [rs_rs, ez27]) dX0_copyFrom_168 ?_
      refine G_aload_n X 0 dX0_copyFrom_169 rfl rfl ?_
      refine f_X0_21 X (kd_o0 hr ho) rfl dX0_copyFrom_170 ?_
      refine G_iload_n X 2 dX0_copyFrom_173 rfl rfl ?_
      refine G_aload_n X 1 dX0_copyFrom_174 rfl rfl ?_
      refine f_X0_21 X (kd_o0 hr2 hoo) rfl dX0_copyFrom_175 ?_
      refine G_iload_n X 2 dX0_copyFrom_178 rfl rfl ?_
      obtain ⟨g28, h⟩ := gd_some h
      refine G_iald X (kd_o4 hr2 hoo) ((rg_rs_ne _ _ hne).trans hy) g28 dX0_copyFrom_179 ?_
      obtain ⟨g29, h⟩ := gd_some h
      obtain ⟨z30, ez30, h⟩ := nm_some h
      refine G_iast X (T' := rs T r z30) (kd_o4 hr ho) (rg_rs _ _ _) g29 (by rw [rs_rs, ez30]) dX0_copyFrom_180 ?_
      obtain ⟨v31, ev31, h⟩ := nm_some h
      refine G_iinc X (v := v31) (lv' := [(2, .int v31), (0, .ref (xE (gκ g) r o 0)), (1, .ref (xE (gκ g) r2 oo 0))]) 2 dX0_copyFrom_181 rfl (by rw [ev31]; rfl) (by decide) rfl ?_
      refine G_goto X (tgt := 139) dX0_copyFrom_184 (by decide) ?_
      refine G_sub [1, 2, 0] rfl ?_
      exact ih _ _ h
set_option maxRecDepth 20000 in
theorem gX0_copyFrom_b114 {g : GX} {T : TT} {r : Nat} {r2 : Nat} {y : St} {o : Nat} {oo : Nat}  {res : St}  (X : CX g RX0 cX0_copyFrom 3 0 0) (hr : isW r) (ho : isO o) (hr2 : isW r2) (hoo : isO oo) (hne : r2 ≠ r) (hy : rg T r2 = y) (hf : FinV g cX0_copyFrom (rs T r res))  : ∀ (n : Nat) (x : St) (a2 : Int32) (h : sX0_copyFrom_b114 n  y o oo x a2 = some res), G g 0 0 (rs T r x) 114 [(0, .ref (xE (gκ g) r o 0)), (1, .ref (xE (gκ g) r2 oo 0)), (2, .int a2)] [] := by
  intro n
  induction n with
  | zero => intro x a2 h; unfold sX0_copyFrom_b114 at h; cases h
  | succ n ih =>
    intro x a2 h
    unfold sX0_copyFrom_b114 at h
    refine G_iload_n X 2 dX0_copyFrom_114 rfl rfl ?_
    refine G_iconst X (v := (4 : Int32)) dX0_copyFrom_115 (by decide) ?_
    refine G_icmp_ge X (tgt := 137) dX0_copyFrom_116 (by decide) (fun c16 => ?_) (fun c16 => ?_)
    · have h := it_t c16 h
      refine G_iconst X (v := (0 : Int32)) dX0_copyFrom_137 (by decide) ?_
      refine G_istore_n X (lv' := [(2, .int ((0 : Int32))), (0, .ref (xE (gκ g) r o 0)), (1, .ref (xE (gκ g) r2 oo 0))]) dX0_copyFrom_138 rfl (by decide) rfl ?_
      refine G_sub [1, 2, 0] rfl ?_
      exact gX0_copyFrom_b139 X hr ho hr2 hoo hne hy hf FU _ _ h
    · have h := it_f c16 h
      refine G_aload_n X 0 dX0_copyFrom_119 rfl rfl ?_
      refine f_X0_9 X (kd_o0 hr ho) rfl dX0_copyFrom_120 ?_
      refine G_iload_n X 2 dX0_copyFrom_123 rfl rfl ?_
      refine G_aload_n X 1 dX0_copyFrom_124 rfl rfl ?_
      refine f_X0_9 X (kd_o0 hr2 hoo) rfl dX0_copyFrom_125 ?_
      refine G_iload_n X 2 dX0_copyFrom_128 rfl rfl ?_
      obtain ⟨g17, h⟩ := gd_some h
      refine G_iald X (kd_o1 hr2 hoo) ((rg_rs_ne _ _ hne).trans hy) g17 dX0_copyFrom_129 ?_
      obtain ⟨g18, h⟩ := gd_some h
      obtain ⟨z19, ez19, h⟩ := nm_some h
      refine G_iast X (T' := rs T r z19) (kd_o1 hr ho) (rg_rs _ _ _) g18 (by rw [rs_rs, ez19]) dX0_copyFrom_130 ?_
      obtain ⟨v20, ev20, h⟩ := nm_some h
      refine G_iinc X (v := v20) (lv' := [(2, .int v20), (0, .ref (xE (gκ g) r o 0)), (1, .ref (xE (gκ g) r2 oo 0))]) 2 dX0_copyFrom_131 rfl (by rw [ev20]; rfl) (by decide) rfl ?_
      refine G_goto X (tgt := 114) dX0_copyFrom_134 (by decide) ?_
      refine G_sub [1, 2, 0] rfl ?_
      exact ih _ _ h
set_option maxRecDepth 20000 in
theorem gX0_copyFrom {g : GX} {T : TT} {r : Nat} {r2 : Nat} {y : St} {o : Nat} {oo : Nat} {x : St}  {res : St} (X : CX g RX0 cX0_copyFrom 3 0 0) (hr : isW r) (ho : isO o) (hr2 : isW r2) (hoo : isO oo) (hne : r2 ≠ r) (hy : rg T r2 = y) (hf : FinV g cX0_copyFrom (rs T r res)) (h : sX0_copyFrom y o oo x = some res) : G g 0 0 (rs T r x) 0 [(0, .ref (xE (gκ g) r o 0)), (1, .ref (xE (gκ g) r2 oo 0))] [] := by
  unfold sX0_copyFrom at h
  refine G_aload_n X 0 dX0_copyFrom_0 rfl rfl ?_
  refine G_aload_n X 1 dX0_copyFrom_1 rfl rfl ?_
  refine f_X0_24 X (kd_o0 hr2 hoo) ((rg_rs_ne _ _ hne).trans hy) dX0_copyFrom_2 ?_
  obtain ⟨z1, ez1, h⟩ := nm_some h
  refine p_X0_24 X (T' := rs T r z1) (kd_o0 hr ho) (rg_rs _ _ _)  (by rw [rs_rs, ez1]) dX0_copyFrom_5 ?_
  refine G_aload_n X 0 dX0_copyFrom_8 rfl rfl ?_
  refine G_aload_n X 1 dX0_copyFrom_9 rfl rfl ?_
  refine f_X0_28 X (kd_o0 hr2 hoo) ((rg_rs_ne _ _ hne).trans hy) dX0_copyFrom_10 ?_
  obtain ⟨z2, ez2, h⟩ := nm_some h
  refine p_X0_28 X (T' := rs T r z2) (kd_o0 hr ho) (rg_rs _ _ _)  (by rw [rs_rs, ez2]) dX0_copyFrom_13 ?_
  refine G_aload_n X 0 dX0_copyFrom_16 rfl rfl ?_
  refine G_aload_n X 1 dX0_copyFrom_17 rfl rfl ?_
  refine f_X0_32 X (kd_o0 hr2 hoo) ((rg_rs_ne _ _ hne).trans hy) dX0_copyFrom_18 ?_
  obtain ⟨z3, ez3, h⟩ := nm_some h
  refine p_X0_32 X (T' := rs T r z3) (kd_o0 hr ho) (rg_rs _ _ _)  (by rw [rs_rs, ez3]) dX0_copyFrom_21 ?_
  refine G_aload_n X 0 dX0_copyFrom_24 rfl rfl ?_
  refine G_aload_n X 1 dX0_copyFrom_25 rfl rfl ?_
  refine f_X0_35 X (kd_o0 hr2 hoo) ((rg_rs_ne _ _ hne).trans hy) dX0_copyFrom_26 ?_
  obtain ⟨z4, ez4, h⟩ := nm_some h
  refine p_X0_35 X (T' := rs T r z4) (kd_o0 hr ho) (rg_rs _ _ _)  (by rw [rs_rs, ez4]) dX0_copyFrom_29 ?_
  refine G_aload_n X 0 dX0_copyFrom_32 rfl rfl ?_
  refine G_aload_n X 1 dX0_copyFrom_33 rfl rfl ?_
  refine f_X0_38 X (kd_o0 hr2 hoo) ((rg_rs_ne _ _ hne).trans hy) dX0_copyFrom_34 ?_
  obtain ⟨z5, ez5, h⟩ := nm_some h
  refine p_X0_38 X (T' := rs T r z5) (kd_o0 hr ho) (rg_rs _ _ _)  (by rw [rs_rs, ez5]) dX0_copyFrom_37 ?_
  refine G_aload_n X 0 dX0_copyFrom_40 rfl rfl ?_
  refine G_aload_n X 1 dX0_copyFrom_41 rfl rfl ?_
  refine f_X0_41 X (kd_o0 hr2 hoo) ((rg_rs_ne _ _ hne).trans hy) dX0_copyFrom_42 ?_
  obtain ⟨z6, ez6, h⟩ := nm_some h
  refine p_X0_41 X (T' := rs T r z6) (kd_o0 hr ho) (rg_rs _ _ _)  (by rw [rs_rs, ez6]) dX0_copyFrom_45 ?_
  refine G_aload_n X 0 dX0_copyFrom_48 rfl rfl ?_
  refine G_aload_n X 1 dX0_copyFrom_49 rfl rfl ?_
  refine f_X0_63 X (kd_o0 hr2 hoo) ((rg_rs_ne _ _ hne).trans hy) dX0_copyFrom_50 ?_
  obtain ⟨z7, ez7, h⟩ := nm_some h
  refine p_X0_63 X (T' := rs T r z7) (kd_o0 hr ho) (rg_rs _ _ _)  (by rw [rs_rs, ez7]) dX0_copyFrom_53 ?_
  refine G_aload_n X 0 dX0_copyFrom_56 rfl rfl ?_
  refine G_aload_n X 1 dX0_copyFrom_57 rfl rfl ?_
  refine f_X0_66 X (kd_o0 hr2 hoo) ((rg_rs_ne _ _ hne).trans hy) dX0_copyFrom_58 ?_
  obtain ⟨z8, ez8, h⟩ := nm_some h
  refine p_X0_66 X (T' := rs T r z8) (kd_o0 hr ho) (rg_rs _ _ _)  (by rw [rs_rs, ez8]) dX0_copyFrom_61 ?_
  refine G_aload_n X 0 dX0_copyFrom_64 rfl rfl ?_
  refine G_aload_n X 1 dX0_copyFrom_65 rfl rfl ?_
  refine f_X0_69 X (kd_o0 hr2 hoo) ((rg_rs_ne _ _ hne).trans hy) dX0_copyFrom_66 ?_
  obtain ⟨z9, ez9, h⟩ := nm_some h
  refine p_X0_69 X (T' := rs T r z9) (kd_o0 hr ho) (rg_rs _ _ _)  (by rw [rs_rs, ez9]) dX0_copyFrom_69 ?_
  refine G_aload_n X 0 dX0_copyFrom_72 rfl rfl ?_
  refine G_aload_n X 1 dX0_copyFrom_73 rfl rfl ?_
  refine f_X0_44 X (kd_o0 hr2 hoo) ((rg_rs_ne _ _ hne).trans hy) dX0_copyFrom_74 ?_
  obtain ⟨g10, h⟩ := gd_some h
  obtain ⟨z11, ez11, h⟩ := nm_some h
  refine p_X0_44 X (T' := rs T r z11) (kd_o0 hr ho) (rg_rs _ _ _) g10  (by rw [rs_rs, ez11]) dX0_copyFrom_77 ?_
  refine G_aload_n X 0 dX0_copyFrom_80 rfl rfl ?_
  refine G_aload_n X 1 dX0_copyFrom_81 rfl rfl ?_
  refine f_X0_48 X (kd_o0 hr2 hoo) ((rg_rs_ne _ _ hne).trans hy) dX0_copyFrom_82 ?_
  obtain ⟨z12, ez12, h⟩ := nm_some h
  refine p_X0_48 X (T' := rs T r z12) (kd_o0 hr ho) (rg_rs _ _ _)  (by rw [rs_rs, ez12]) dX0_copyFrom_85 ?_
  refine G_aload_n X 0 dX0_copyFrom_88 rfl rfl ?_
  refine G_aload_n X 1 dX0_copyFrom_89 rfl rfl ?_
  refine f_X0_51 X (kd_o0 hr2 hoo) ((rg_rs_ne _ _ hne).trans hy) dX0_copyFrom_90 ?_
  obtain ⟨z13, ez13, h⟩ := nm_some h
  refine p_X0_51 X (T' := rs T r z13) (kd_o0 hr ho) (rg_rs _ _ _)  (by rw [rs_rs, ez13]) dX0_copyFrom_93 ?_
  refine G_aload_n X 0 dX0_copyFrom_96 rfl rfl ?_
  refine G_aload_n X 1 dX0_copyFrom_97 rfl rfl ?_
  refine f_X0_54 X (kd_o0 hr2 hoo) ((rg_rs_ne _ _ hne).trans hy) dX0_copyFrom_98 ?_
  obtain ⟨z14, ez14, h⟩ := nm_some h
  refine p_X0_54 X (T' := rs T r z14) (kd_o0 hr ho) (rg_rs _ _ _)  (by rw [rs_rs, ez14]) dX0_copyFrom_101 ?_
  refine G_aload_n X 0 dX0_copyFrom_104 rfl rfl ?_
  refine G_aload_n X 1 dX0_copyFrom_105 rfl rfl ?_
  refine f_X0_57 X (kd_o0 hr2 hoo) ((rg_rs_ne _ _ hne).trans hy) dX0_copyFrom_106 ?_
  obtain ⟨z15, ez15, h⟩ := nm_some h
  refine p_X0_57 X (T' := rs T r z15) (kd_o0 hr ho) (rg_rs _ _ _)  (by rw [rs_rs, ez15]) dX0_copyFrom_109 ?_
  refine G_iconst X (v := (0 : Int32)) dX0_copyFrom_112 (by decide) ?_
  refine G_istore_n X (lv' := [(2, .int ((0 : Int32))), (0, .ref (xE (gκ g) r o 0)), (1, .ref (xE (gκ g) r2 oo 0))]) dX0_copyFrom_113 rfl (by decide) rfl ?_
  refine G_sub [1, 2, 0] rfl ?_
  exact gX0_copyFrom_b114 X hr ho hr2 hoo hne hy hf FU _ _ h
set_option maxRecDepth 20000 in
theorem ct_X0_copyFrom {l : Launch} {κ : KX} {T : TT} {r : Nat} {r2 : Nat} {y : St} {o : Nat} {oo : Nat} {x : St}  {res : St} (hr : isW r) (ho : isO o) (hr2 : isW r2) (hoo : isO oo) (hne : r2 ≠ r) (hy : rg T r2 = y) (h : sX0_copyFrom y o oo x = some res) : Ct l κ yX0_copyFrom cX0_copyFrom 3 none 0 0 [.ref (xE κ r o 0), .ref (xE κ r2 oo 0)] (rs T r x) (rs T r res) none := by
  refine Ct_v RX0 rfl (by decide +kernel) (Nat.le_of_ble_eq_true rfl) (fun g hl hκ X hf => ?_)
  subst hl; subst hκ
  exact gX0_copyFrom X hr ho hr2 hoo hne hy hf h
set_option maxRecDepth 20000 in
theorem gX0_allowsPeriod {g : GX} {T : TT} {r : Nat} {o : Nat} {x : St} {a1 : Int32} {res : Int32} (X : CX g RX0 cX0_allowsPeriod 2 0 0) (hr : isW r) (ho : isO o) (hf : FinI g cX0_allowsPeriod .boolean (rs T r x) (res)) (h : sX0_allowsPeriod o x a1 = some res) : G g 0 0 (rs T r x) 0 [(0, .ref (xE (gκ g) r o 0)), (1, .int a1)] [] := by
  unfold sX0_allowsPeriod at h
  refine G_iload_n X 1 dX0_allowsPeriod_0 rfl rfl ?_
  refine G_iconst X (v := (2 : Int32)) dX0_allowsPeriod_1 (by decide) ?_
  refine G_icmp_lt X (tgt := 23) dX0_allowsPeriod_2 (by decide) (fun c1 => ?_) (fun c1 => ?_)
  · have h := it_t c1 h
    refine G_iconst X (v := (0 : Int32)) dX0_allowsPeriod_23 (by decide) ?_
    obtain rfl := Option.some.inj h
    exact hf _ _ dX0_allowsPeriod_24 (isb_n (v := (0 : Int32)) rfl)
  · have h := it_f c1 h
    refine G_iload_n X 1 dX0_allowsPeriod_5 rfl rfl ?_
    refine G_bipush X (v := (99 : Int32)) dX0_allowsPeriod_6 (by decide) ?_
    refine G_icmp_gt X (tgt := 23) dX0_allowsPeriod_8 (by decide) (fun c2 => ?_) (fun c2 => ?_)
    · have h := it_t c2 h
      refine G_iconst X (v := (0 : Int32)) dX0_allowsPeriod_23 (by decide) ?_
      obtain rfl := Option.some.inj h
      exact hf _ _ dX0_allowsPeriod_24 (isb_n (v := (0 : Int32)) rfl)
    · have h := it_f c2 h
      refine G_iload_n X 1 dX0_allowsPeriod_11 rfl rfl ?_
      refine G_aload_n X 0 dX0_allowsPeriod_12 rfl rfl ?_
      refine f_X0_32 X (kd_o0 hr ho) (rg_rs _ _ _) dX0_allowsPeriod_13 ?_
      refine G_icmp_le X (tgt := 23) dX0_allowsPeriod_16 (by decide) (fun c3 => ?_) (fun c3 => ?_)
      · have h := it_t c3 h
        refine G_iconst X (v := (0 : Int32)) dX0_allowsPeriod_23 (by decide) ?_
        obtain rfl := Option.some.inj h
        exact hf _ _ dX0_allowsPeriod_24 (isb_n (v := (0 : Int32)) rfl)
      · have h := it_f c3 h
        refine G_iconst X (v := (1 : Int32)) dX0_allowsPeriod_19 (by decide) ?_
        refine G_goto X (tgt := 24) dX0_allowsPeriod_20 (by decide) ?_
        obtain rfl := Option.some.inj h
        exact hf _ _ dX0_allowsPeriod_24 (isb_n (v := (1 : Int32)) rfl)
set_option maxRecDepth 20000 in
theorem ct_X0_allowsPeriod {l : Launch} {κ : KX} {T : TT} {r : Nat} {o : Nat} {x : St} {a1 : Int32} {res : Int32} (hr : isW r) (ho : isO o) (h : sX0_allowsPeriod o x a1 = some res) : Ct l κ yX0_allowsPeriod cX0_allowsPeriod 2 (some .boolean) 0 0 [.ref (xE κ r o 0), .int a1] (rs T r x) (rs T r x) (some (.int (res))) := by
  refine Ct_i RX0 rfl (by decide +kernel) (Nat.le_of_ble_eq_true rfl) (fun g hl hκ X hf => ?_)
  subst hl; subst hκ
  exact gX0_allowsPeriod X hr ho hf h
set_option maxRecDepth 20000 in
theorem gX0_allowsFirstWake {g : GX} {T : TT} {r : Nat} {o : Nat} {x : St} {a1 : Int32} {res : Int32} (X : CX g RX0 cX0_allowsFirstWake 2 0 0) (hr : isW r) (ho : isO o) (hf : FinI g cX0_allowsFirstWake .boolean (rs T r x) (res)) (h : sX0_allowsFirstWake o x a1 = some res) : G g 0 0 (rs T r x) 0 [(0, .ref (xE (gκ g) r o 0)), (1, .int a1)] [] := by
  unfold sX0_allowsFirstWake at h
  refine G_iload_n X 1 dX0_allowsFirstWake_0 rfl rfl ?_
  refine G_if_lt X (tgt := 16) dX0_allowsFirstWake_1 (by decide) (fun c1 => ?_) (fun c1 => ?_)
  · have h := it_t c1 h
    refine G_iconst X (v := (0 : Int32)) dX0_allowsFirstWake_16 (by decide) ?_
    obtain rfl := Option.some.inj h
    exact hf _ _ dX0_allowsFirstWake_17 (isb_n (v := (0 : Int32)) rfl)
  · have h := it_f c1 h
    refine G_iload_n X 1 dX0_allowsFirstWake_4 rfl rfl ?_
    refine G_aload_n X 0 dX0_allowsFirstWake_5 rfl rfl ?_
    refine f_X0_28 X (kd_o0 hr ho) (rg_rs _ _ _) dX0_allowsFirstWake_6 ?_
    refine G_icmp_ge X (tgt := 16) dX0_allowsFirstWake_9 (by decide) (fun c2 => ?_) (fun c2 => ?_)
    · have h := it_t c2 h
      refine G_iconst X (v := (0 : Int32)) dX0_allowsFirstWake_16 (by decide) ?_
      obtain rfl := Option.some.inj h
      exact hf _ _ dX0_allowsFirstWake_17 (isb_n (v := (0 : Int32)) rfl)
    · have h := it_f c2 h
      refine G_iconst X (v := (1 : Int32)) dX0_allowsFirstWake_12 (by decide) ?_
      refine G_goto X (tgt := 17) dX0_allowsFirstWake_13 (by decide) ?_
      obtain rfl := Option.some.inj h
      exact hf _ _ dX0_allowsFirstWake_17 (isb_n (v := (1 : Int32)) rfl)
set_option maxRecDepth 20000 in
theorem ct_X0_allowsFirstWake {l : Launch} {κ : KX} {T : TT} {r : Nat} {o : Nat} {x : St} {a1 : Int32} {res : Int32} (hr : isW r) (ho : isO o) (h : sX0_allowsFirstWake o x a1 = some res) : Ct l κ yX0_allowsFirstWake cX0_allowsFirstWake 2 (some .boolean) 0 0 [.ref (xE κ r o 0), .int a1] (rs T r x) (rs T r x) (some (.int (res))) := by
  refine Ct_i RX0 rfl (by decide +kernel) (Nat.le_of_ble_eq_true rfl) (fun g hl hκ X hf => ?_)
  subst hl; subst hκ
  exact gX0_allowsFirstWake X hr ho hf h
set_option maxRecDepth 20000 in
theorem gX0_isDueAt {g : GX} {T : TT} {r : Nat} {o : Nat} {x : St} {a1 : Int32} {res : Int32} (X : CX g RX0 cX0_isDueAt 3 0 0) (hr : isW r) (ho : isO o) (hf : FinI g cX0_isDueAt .boolean (rs T r x) (res)) (h : sX0_isDueAt o x a1 = some res) : G g 0 0 (rs T r x) 0 [(0, .ref (xE (gκ g) r o 0)), (1, .int a1)] [] := by
  unfold sX0_isDueAt at h
  refine G_iload_n X 1 dX0_isDueAt_0 rfl rfl ?_
  refine G_aload_n X 0 dX0_isDueAt_1 rfl rfl ?_
  refine f_X0_32 X (kd_o0 hr ho) (rg_rs _ _ _) dX0_isDueAt_2 ?_
  refine G_isub X dX0_isDueAt_5 ?_
  refine G_istore_n X (lv' := [(2, .int (a1 - (gI x o 0 2))), (0, .ref (xE (gκ g) r o 0)), (1, .int a1)]) dX0_isDueAt_6 rfl (by decide) rfl ?_
  refine G_iload_n X 0 dX0_isDueAt_7 rfl rfl ?_
  refine G_if_lt X (tgt := 31) dX0_isDueAt_8 (by decide) (fun c1 => ?_) (fun c1 => ?_)
  · have h := it_t c1 h
    refine G_iconst X (v := (0 : Int32)) dX0_isDueAt_31 (by decide) ?_
    obtain rfl := Option.some.inj h
    exact hf _ _ dX0_isDueAt_32 (isb_n (v := (0 : Int32)) rfl)
  · have h := it_f c1 h
    refine G_aload_n X 1 dX0_isDueAt_11 rfl rfl ?_
    refine f_X0_28 X (kd_o0 hr ho) (rg_rs _ _ _) dX0_isDueAt_12 ?_
    refine G_if_le X (tgt := 31) dX0_isDueAt_15 (by decide) (fun c2 => ?_) (fun c2 => ?_)
    · have h := it_t c2 h
      refine G_iconst X (v := (0 : Int32)) dX0_isDueAt_31 (by decide) ?_
      obtain rfl := Option.some.inj h
      exact hf _ _ dX0_isDueAt_32 (isb_n (v := (0 : Int32)) rfl)
    · have h := it_f c2 h
      refine G_iload_n X 0 dX0_isDueAt_18 rfl rfl ?_
      refine G_aload_n X 1 dX0_isDueAt_19 rfl rfl ?_
      refine f_X0_28 X (kd_o0 hr ho) (rg_rs _ _ _) dX0_isDueAt_20 ?_
      obtain ⟨g3, h⟩ := gd_some h
      refine G_irem X dX0_isDueAt_23 (nz_ne g3) ?_
      refine G_if_ne X (tgt := 31) dX0_isDueAt_24 (by decide) (fun c4 => ?_) (fun c4 => ?_)
      · have h := it_t c4 h
        refine G_iconst X (v := (0 : Int32)) dX0_isDueAt_31 (by decide) ?_
        obtain rfl := Option.some.inj h
        exact hf _ _ dX0_isDueAt_32 (isb_n (v := (0 : Int32)) rfl)
      · have h := it_f (fun k => k c4) h
        refine G_iconst X (v := (1 : Int32)) dX0_isDueAt_27 (by decide) ?_
        refine G_goto X (tgt := 32) dX0_isDueAt_28 (by decide) ?_
        obtain rfl := Option.some.inj h
        exact hf _ _ dX0_isDueAt_32 (isb_n (v := (1 : Int32)) rfl)
set_option maxRecDepth 20000 in
theorem ct_X0_isDueAt {l : Launch} {κ : KX} {T : TT} {r : Nat} {o : Nat} {x : St} {a1 : Int32} {res : Int32} (hr : isW r) (ho : isO o) (h : sX0_isDueAt o x a1 = some res) : Ct l κ yX0_isDueAt cX0_isDueAt 3 (some .boolean) 0 0 [.ref (xE κ r o 0), .int a1] (rs T r x) (rs T r x) (some (.int (res))) := by
  refine Ct_i RX0 rfl (by decide +kernel) (Nat.le_of_ble_eq_true rfl) (fun g hl hκ X hf => ?_)
  subst hl; subst hκ
  exact gX0_isDueAt X hr ho hf h
set_option maxRecDepth 20000 in
theorem gX0_slotsUntilDue_b2 {g : GX} {T : TT} {r : Nat} {o : Nat} {x : St} {res : Int32}  (X : CX g RX0 cX0_slotsUntilDue 3 1 22) (hr : isW r) (ho : isO o) (hf : FinI g cX0_slotsUntilDue .int (rs T r x) (res))  : ∀ (n : Nat) (a1 : Int32) (a2 : Int32) (h : sX0_slotsUntilDue_b2 n  o x a1 a2 = some res), G g 0 0 (rs T r x) 2 [(0, .ref (xE (gκ g) r o 0)), (1, .int a1), (2, .int a2)] [] := by
  intro n
  induction n with
  | zero => intro a1 a2 h; unfold sX0_slotsUntilDue_b2 at h; cases h
  | succ n ih =>
    intro a1 a2 h
    unfold sX0_slotsUntilDue_b2 at h
    refine G_iload_n X 2 dX0_slotsUntilDue_2 rfl rfl ?_
    refine G_bipush X (v := (99 : Int32)) dX0_slotsUntilDue_3 (by decide) ?_
    refine G_icmp_ge X (tgt := 24) dX0_slotsUntilDue_5 (by decide) (fun c1 => ?_) (fun c1 => ?_)
    · have h := it_t c1 h
      refine G_iload_n X 2 dX0_slotsUntilDue_24 rfl rfl ?_
      obtain rfl := Option.some.inj h
      exact hf _ _ dX0_slotsUntilDue_25 rfl
    · have h := it_f c1 h
      refine G_aload_n X 0 dX0_slotsUntilDue_8 rfl rfl ?_
      refine G_iload_n X 1 dX0_slotsUntilDue_9 rfl rfl ?_
      refine G_iload_n X 2 dX0_slotsUntilDue_10 rfl rfl ?_
      refine G_iadd X dX0_slotsUntilDue_11 ?_
      obtain ⟨q2, hq2, h⟩ := bd_some h
      refine G_callV X (As := [.int (a1 + a2)]) (rest := []) (T' := rs T r x) (st2 := [.int q2]) (ct_X0_isDueAt (l := g.2.1) (κ := gκ g) (T := T) (r := r) (x := x) hr ho hq2) cal_X0_isDueAt wM_X0_72 wI_X0_isDueAt wS_X0_isDueAt (kd_o0 hr ho) rfl (by decide) rfl rfl (Nat.le_of_ble_eq_true rfl) ⟨Nat.zero_le _, Nat.zero_le _⟩ dX0_slotsUntilDue_12 rfl ?_
      refine G_if_ne X (tgt := 24) dX0_slotsUntilDue_15 (by decide) (fun c3 => ?_) (fun c3 => ?_)
      · have h := it_t c3 h
        refine G_iload_n X 2 dX0_slotsUntilDue_24 rfl rfl ?_
        obtain rfl := Option.some.inj h
        exact hf _ _ dX0_slotsUntilDue_25 rfl
      · have h := it_f (fun k => k c3) h
        obtain ⟨v4, ev4, h⟩ := nm_some h
        refine G_iinc X (v := v4) (lv' := [(2, .int v4), (0, .ref (xE (gκ g) r o 0)), (1, .int a1)]) 2 dX0_slotsUntilDue_18 rfl (by rw [ev4]; rfl) (by decide) rfl ?_
        refine G_goto X (tgt := 2) dX0_slotsUntilDue_21 (by decide) ?_
        refine G_sub [1, 2, 0] rfl ?_
        exact ih _ _ h
set_option maxRecDepth 20000 in
theorem gX0_slotsUntilDue {g : GX} {T : TT} {r : Nat} {o : Nat} {x : St} {a1 : Int32} {res : Int32} (X : CX g RX0 cX0_slotsUntilDue 3 1 22) (hr : isW r) (ho : isO o) (hf : FinI g cX0_slotsUntilDue .int (rs T r x) (res)) (h : sX0_slotsUntilDue o x a1 = some res) : G g 0 0 (rs T r x) 0 [(0, .ref (xE (gκ g) r o 0)), (1, .int a1)] [] := by
  unfold sX0_slotsUntilDue at h
  refine G_iconst X (v := (1 : Int32)) dX0_slotsUntilDue_0 (by decide) ?_
  refine G_istore_n X (lv' := [(2, .int ((1 : Int32))), (0, .ref (xE (gκ g) r o 0)), (1, .int a1)]) dX0_slotsUntilDue_1 rfl (by decide) rfl ?_
  refine G_sub [1, 2, 0] rfl ?_
  exact gX0_slotsUntilDue_b2 X hr ho hf FU _ _ h
set_option maxRecDepth 20000 in
theorem ct_X0_slotsUntilDue {l : Launch} {κ : KX} {T : TT} {r : Nat} {o : Nat} {x : St} {a1 : Int32} {res : Int32} (hr : isW r) (ho : isO o) (h : sX0_slotsUntilDue o x a1 = some res) : Ct l κ yX0_slotsUntilDue cX0_slotsUntilDue 3 (some .int) 1 22 [.ref (xE κ r o 0), .int a1] (rs T r x) (rs T r x) (some (.int (res))) := by
  refine Ct_i RX0 rfl (by decide +kernel) (Nat.le_of_ble_eq_true rfl) (fun g hl hκ X hf => ?_)
  subst hl; subst hκ
  exact gX0_slotsUntilDue X hr ho hf h
set_option maxRecDepth 20000 in
theorem gX0_windowSize {g : GX} {T : TT} {r : Nat} {o : Nat} {x : St}  {res : Int32} (X : CX g RX0 cX0_windowSize 1 1 21) (hr : isW r) (ho : isO o) (hf : FinI g cX0_windowSize .int (rs T r x) (res)) (h : sX0_windowSize o x = some res) : G g 0 0 (rs T r x) 0 [(0, .ref (xE (gκ g) r o 0))] [] := by
  unfold sX0_windowSize at h
  refine G_bipush X (v := (32 : Int32)) dX0_windowSize_0 (by decide) ?_
  refine G_iconst X (v := (2 : Int32)) dX0_windowSize_2 (by decide) ?_
  refine G_aload_n X 0 dX0_windowSize_3 rfl rfl ?_
  refine f_X0_69 X (kd_o0 hr ho) (rg_rs _ _ _) dX0_windowSize_4 ?_
  refine G_ishl X dX0_windowSize_7 ?_
  refine G_mmin X wM_X0_76 (by decide) (Nat.le_of_ble_eq_true rfl) ⟨Nat.zero_le _, Nat.zero_le _⟩ dX0_windowSize_8 ?_
  obtain rfl := Option.some.inj h
  exact hf _ _ dX0_windowSize_11 rfl
set_option maxRecDepth 20000 in
theorem ct_X0_windowSize {l : Launch} {κ : KX} {T : TT} {r : Nat} {o : Nat} {x : St}  {res : Int32} (hr : isW r) (ho : isO o) (h : sX0_windowSize o x = some res) : Ct l κ yX0_windowSize cX0_windowSize 1 (some .int) 1 21 [.ref (xE κ r o 0)] (rs T r x) (rs T r x) (some (.int (res))) := by
  refine Ct_i RX0 rfl (by decide +kernel) (Nat.le_of_ble_eq_true rfl) (fun g hl hκ X hf => ?_)
  subst hl; subst hκ
  exact gX0_windowSize X hr ho hf h
set_option maxRecDepth 20000 in
theorem gX0_hasOpenEars {g : GX} {T : TT} {r : Nat} {o : Nat} {x : St}  {res : Int32} (X : CX g RX0 cX0_hasOpenEars 1 0 0) (hr : isW r) (ho : isO o) (hf : FinI g cX0_hasOpenEars .boolean (rs T r x) (res)) (h : sX0_hasOpenEars o x = some res) : G g 0 0 (rs T r x) 0 [(0, .ref (xE (gκ g) r o 0))] [] := by
  unfold sX0_hasOpenEars at h
  refine G_aload_n X 0 dX0_hasOpenEars_0 rfl rfl ?_
  refine f_X0_63 X (kd_o0 hr ho) (rg_rs _ _ _) dX0_hasOpenEars_1 ?_
  refine G_iconst X (v := (1 : Int32)) dX0_hasOpenEars_4 (by decide) ?_
  refine G_icmp_eq X (tgt := 16) dX0_hasOpenEars_5 (by decide) (fun c1 => ?_) (fun c1 => ?_)
  · have h := it_t c1 h
    refine G_iconst X (v := (1 : Int32)) dX0_hasOpenEars_16 (by decide) ?_
    refine G_goto X (tgt := 21) dX0_hasOpenEars_17 (by decide) ?_
    obtain rfl := Option.some.inj h
    exact hf _ _ dX0_hasOpenEars_21 (isb_n (v := (1 : Int32)) rfl)
  · have h := it_f c1 h
    refine G_aload_n X 0 dX0_hasOpenEars_8 rfl rfl ?_
    refine f_X0_63 X (kd_o0 hr ho) (rg_rs _ _ _) dX0_hasOpenEars_9 ?_
    refine G_iconst X (v := (2 : Int32)) dX0_hasOpenEars_12 (by decide) ?_
    refine G_icmp_ne X (tgt := 20) dX0_hasOpenEars_13 (by decide) (fun c2 => ?_) (fun c2 => ?_)
    · have h := it_t c2 h
      refine G_iconst X (v := (0 : Int32)) dX0_hasOpenEars_20 (by decide) ?_
      obtain rfl := Option.some.inj h
      exact hf _ _ dX0_hasOpenEars_21 (isb_n (v := (0 : Int32)) rfl)
    · have h := it_f (fun k => k c2) h
      refine G_iconst X (v := (1 : Int32)) dX0_hasOpenEars_16 (by decide) ?_
      refine G_goto X (tgt := 21) dX0_hasOpenEars_17 (by decide) ?_
      obtain rfl := Option.some.inj h
      exact hf _ _ dX0_hasOpenEars_21 (isb_n (v := (1 : Int32)) rfl)
set_option maxRecDepth 20000 in
theorem ct_X0_hasOpenEars {l : Launch} {κ : KX} {T : TT} {r : Nat} {o : Nat} {x : St}  {res : Int32} (hr : isW r) (ho : isO o) (h : sX0_hasOpenEars o x = some res) : Ct l κ yX0_hasOpenEars cX0_hasOpenEars 1 (some .boolean) 0 0 [.ref (xE κ r o 0)] (rs T r x) (rs T r x) (some (.int (res))) := by
  refine Ct_i RX0 rfl (by decide +kernel) (Nat.le_of_ble_eq_true rfl) (fun g hl hκ X hf => ?_)
  subst hl; subst hκ
  exact gX0_hasOpenEars X hr ho hf h
set_option maxRecDepth 20000 in
theorem gX0_startListening {g : GX} {T : TT} {r : Nat} {o : Nat} {x : St}  {res : St} (X : CX g RX0 cX0_startListening 1 0 0) (hr : isW r) (ho : isO o) (hf : FinV g cX0_startListening (rs T r res)) (h : sX0_startListening o x = some res) : G g 0 0 (rs T r x) 0 [(0, .ref (xE (gκ g) r o 0))] [] := by
  unfold sX0_startListening at h
  refine G_aload_n X 0 dX0_startListening_0 rfl rfl ?_
  refine G_iconst X (v := (1 : Int32)) dX0_startListening_1 (by decide) ?_
  obtain ⟨z1, ez1, h⟩ := nm_some h
  refine p_X0_63 X (T' := rs T r z1) (kd_o0 hr ho) (rg_rs _ _ _)  (by rw [rs_rs, ez1]) dX0_startListening_2 ?_
  refine G_aload_n X 0 dX0_startListening_5 rfl rfl ?_
  refine G_aload_n X 0 dX0_startListening_6 rfl rfl ?_
  refine f_X0_35 X (kd_o0 hr ho) (rg_rs _ _ _) dX0_startListening_7 ?_
  obtain ⟨z2, ez2, h⟩ := nm_some h
  refine p_X0_66 X (T' := rs T r z2) (kd_o0 hr ho) (rg_rs _ _ _)  (by rw [rs_rs, ez2]) dX0_startListening_10 ?_
  refine G_aload_n X 0 dX0_startListening_13 rfl rfl ?_
  refine G_iconst X (v := (0 : Int32)) dX0_startListening_14 (by decide) ?_
  obtain ⟨z3, ez3, h⟩ := nm_some h
  refine p_X0_44 X (T' := rs T r z3) (kd_o0 hr ho) (rg_rs _ _ _) (by decide)  (by rw [rs_rs, ez3]) dX0_startListening_15 ?_
  obtain rfl := Option.some.inj h
  exact hf _ _ dX0_startListening_18
set_option maxRecDepth 20000 in
theorem ct_X0_startListening {l : Launch} {κ : KX} {T : TT} {r : Nat} {o : Nat} {x : St}  {res : St} (hr : isW r) (ho : isO o) (h : sX0_startListening o x = some res) : Ct l κ yX0_startListening cX0_startListening 1 none 0 0 [.ref (xE κ r o 0)] (rs T r x) (rs T r res) none := by
  refine Ct_v RX0 rfl (by decide +kernel) (Nat.le_of_ble_eq_true rfl) (fun g hl hκ X hf => ?_)
  subst hl; subst hκ
  exact gX0_startListening X hr ho hf h
set_option maxRecDepth 20000 in
theorem gX0_startSending_b15 {g : GX} {T : TT} {r : Nat} {o : Nat}  {res : St}  (X : CX g RX0 cX0_startSending 2 0 0) (hr : isW r) (ho : isO o) (hf : FinV g cX0_startSending (rs T r res))  : ∀ (n : Nat) (x : St) (a1 : Int32) (h : sX0_startSending_b15 n  o x a1 = some res), G g 0 0 (rs T r x) 15 [(0, .ref (xE (gκ g) r o 0)), (1, .int a1)] [] := by
  intro n
  induction n with
  | zero => intro x a1 h; unfold sX0_startSending_b15 at h; cases h
  | succ n ih =>
    intro x a1 h
    unfold sX0_startSending_b15 at h
    refine G_iload_n X 1 dX0_startSending_15 rfl rfl ?_
    refine G_bipush X (v := (8 : Int32)) dX0_startSending_16 (by decide) ?_
    refine G_icmp_ge X (tgt := 34) dX0_startSending_18 (by decide) (fun c3 => ?_) (fun c3 => ?_)
    · have h := it_t c3 h
      obtain rfl := Option.some.inj h
      exact hf _ _ dX0_startSending_34
    · have h := it_f c3 h
      refine G_aload_n X 0 dX0_startSending_21 rfl rfl ?_
      refine f_X0_18 X (kd_o0 hr ho) rfl dX0_startSending_22 ?_
      refine G_iload_n X 1 dX0_startSending_25 rfl rfl ?_
      refine G_iconst X (v := (0 : Int32)) dX0_startSending_26 (by decide) ?_
      obtain ⟨g4, h⟩ := gd_some h
      obtain ⟨z5, ez5, h⟩ := nm_some h
      refine G_iast X (T' := rs T r z5) (kd_o3 hr ho) (rg_rs _ _ _) g4 (by rw [rs_rs, ez5]) dX0_startSending_27 ?_
      obtain ⟨v6, ev6, h⟩ := nm_some h
      refine G_iinc X (v := v6) (lv' := [(1, .int v6), (0, .ref (xE (gκ g) r o 0))]) 1 dX0_startSending_28 rfl (by rw [ev6]; rfl) (by decide) rfl ?_
      refine G_goto X (tgt := 15) dX0_startSending_31 (by decide) ?_
      refine G_sub [1, 0] rfl ?_
      exact ih _ _ h
set_option maxRecDepth 20000 in
theorem gX0_startSending {g : GX} {T : TT} {r : Nat} {o : Nat} {x : St}  {res : St} (X : CX g RX0 cX0_startSending 2 0 0) (hr : isW r) (ho : isO o) (hf : FinV g cX0_startSending (rs T r res)) (h : sX0_startSending o x = some res) : G g 0 0 (rs T r x) 0 [(0, .ref (xE (gκ g) r o 0))] [] := by
  unfold sX0_startSending at h
  refine G_aload_n X 0 dX0_startSending_0 rfl rfl ?_
  refine G_iconst X (v := (3 : Int32)) dX0_startSending_1 (by decide) ?_
  obtain ⟨z1, ez1, h⟩ := nm_some h
  refine p_X0_63 X (T' := rs T r z1) (kd_o0 hr ho) (rg_rs _ _ _)  (by rw [rs_rs, ez1]) dX0_startSending_2 ?_
  refine G_aload_n X 0 dX0_startSending_5 rfl rfl ?_
  refine G_aload_n X 0 dX0_startSending_6 rfl rfl ?_
  refine f_X0_38 X (kd_o0 hr ho) (rg_rs _ _ _) dX0_startSending_7 ?_
  obtain ⟨z2, ez2, h⟩ := nm_some h
  refine p_X0_66 X (T' := rs T r z2) (kd_o0 hr ho) (rg_rs _ _ _)  (by rw [rs_rs, ez2]) dX0_startSending_10 ?_
  refine G_iconst X (v := (0 : Int32)) dX0_startSending_13 (by decide) ?_
  refine G_istore_n X (lv' := [(1, .int ((0 : Int32))), (0, .ref (xE (gκ g) r o 0))]) dX0_startSending_14 rfl (by decide) rfl ?_
  refine G_sub [1, 0] rfl ?_
  exact gX0_startSending_b15 X hr ho hf FU _ _ h
set_option maxRecDepth 20000 in
theorem ct_X0_startSending {l : Launch} {κ : KX} {T : TT} {r : Nat} {o : Nat} {x : St}  {res : St} (hr : isW r) (ho : isO o) (h : sX0_startSending o x = some res) : Ct l κ yX0_startSending cX0_startSending 2 none 0 0 [.ref (xE κ r o 0)] (rs T r x) (rs T r res) none := by
  refine Ct_v RX0 rfl (by decide +kernel) (Nat.le_of_ble_eq_true rfl) (fun g hl hκ X hf => ?_)
  subst hl; subst hκ
  exact gX0_startSending X hr ho hf h
set_option maxRecDepth 20000 in
theorem gX0_payForSlot {g : GX} {T : TT} {r : Nat} {o : Nat} {x : St} {a1 : Int32} {res : St} (X : CX g RX0 cX0_payForSlot 3 1 21) (hr : isW r) (ho : isO o) (hf : FinV g cX0_payForSlot (rs T r res)) (h : sX0_payForSlot o x a1 = some res) : G g 0 0 (rs T r x) 0 [(0, .ref (xE (gκ g) r o 0)), (1, .int a1)] [] := by
  unfold sX0_payForSlot at h
  refine G_iload_n X 1 dX0_payForSlot_0 rfl rfl ?_
  refine G_aload_n X 0 dX0_payForSlot_1 rfl rfl ?_
  refine f_X0_41 X (kd_o0 hr ho) (rg_rs _ _ _) dX0_payForSlot_2 ?_
  refine G_mmin X wM_X0_76 (by decide) (Nat.le_of_ble_eq_true rfl) ⟨Nat.zero_le _, Nat.zero_le _⟩ dX0_payForSlot_5 ?_
  obtain ⟨v1, ev1, h⟩ := nm_some h
  refine G_nmi ev1 ?_
  refine G_istore_n X (lv' := [(2, .int v1), (0, .ref (xE (gκ g) r o 0)), (1, .int a1)]) dX0_payForSlot_8 rfl (by decide) rfl ?_
  refine G_aload_n X 1 dX0_payForSlot_9 rfl rfl ?_
  refine G_dup X dX0_payForSlot_10 rfl ?_
  refine f_X0_41 X (kd_o0 hr ho) (rg_rs _ _ _) dX0_payForSlot_11 ?_
  refine G_iload_n X 0 dX0_payForSlot_14 rfl rfl ?_
  refine G_isub X dX0_payForSlot_15 ?_
  obtain ⟨z2, ez2, h⟩ := nm_some h
  refine p_X0_41 X (T' := rs T r z2) (kd_o0 hr ho) (rg_rs _ _ _)  (by rw [rs_rs, ez2]) dX0_payForSlot_16 ?_
  refine G_aload_n X 1 dX0_payForSlot_19 rfl rfl ?_
  refine G_dup X dX0_payForSlot_20 rfl ?_
  refine f_X0_57 X (kd_o0 hr ho) (rg_rs _ _ _) dX0_payForSlot_21 ?_
  refine G_iload_n X 0 dX0_payForSlot_24 rfl rfl ?_
  refine G_iadd X dX0_payForSlot_25 ?_
  obtain ⟨z3, ez3, h⟩ := nm_some h
  refine p_X0_57 X (T' := rs T r z3) (kd_o0 hr ho) (rg_rs _ _ _)  (by rw [rs_rs, ez3]) dX0_payForSlot_26 ?_
  refine G_aload_n X 1 dX0_payForSlot_29 rfl rfl ?_
  refine f_X0_41 X (kd_o0 hr ho) (rg_rs _ _ _) dX0_payForSlot_30 ?_
  refine G_if_ne X (tgt := 46) dX0_payForSlot_33 (by decide) (fun c4 => ?_) (fun c4 => ?_)
  · have h := it_t c4 h
    obtain rfl := Option.some.inj h
    exact hf _ _ dX0_payForSlot_46
  · have h := it_f (fun k => k c4) h
    refine G_aload_n X 1 dX0_payForSlot_36 rfl rfl ?_
    refine G_iconst X (v := (4 : Int32)) dX0_payForSlot_37 (by decide) ?_
    obtain ⟨z5, ez5, h⟩ := nm_some h
    refine p_X0_63 X (T' := rs T r z5) (kd_o0 hr ho) (rg_rs _ _ _)  (by rw [rs_rs, ez5]) dX0_payForSlot_38 ?_
    refine G_aload_n X 1 dX0_payForSlot_41 rfl rfl ?_
    refine G_iconst X (v := (0 : Int32)) dX0_payForSlot_42 (by decide) ?_
    obtain ⟨z6, ez6, h⟩ := nm_some h
    refine p_X0_66 X (T' := rs T r z6) (kd_o0 hr ho) (rg_rs _ _ _)  (by rw [rs_rs, ez6]) dX0_payForSlot_43 ?_
    obtain rfl := Option.some.inj h
    exact hf _ _ dX0_payForSlot_46
set_option maxRecDepth 20000 in
theorem ct_X0_payForSlot {l : Launch} {κ : KX} {T : TT} {r : Nat} {o : Nat} {x : St} {a1 : Int32} {res : St} (hr : isW r) (ho : isO o) (h : sX0_payForSlot o x a1 = some res) : Ct l κ yX0_payForSlot cX0_payForSlot 3 none 1 21 [.ref (xE κ r o 0), .int a1] (rs T r x) (rs T r res) none := by
  refine Ct_v RX0 rfl (by decide +kernel) (Nat.le_of_ble_eq_true rfl) (fun g hl hκ X hf => ?_)
  subst hl; subst hκ
  exact gX0_payForSlot X hr ho hf h
set_option maxRecDepth 20000 in
theorem gX0_takeEnergy {g : GX} {T : TT} {r : Nat} {o : Nat} {x : St} {a1 : Int32} {res : St} (X : CX g RX0 cX0_takeEnergy 2 1 21) (hr : isW r) (ho : isO o) (hf : FinV g cX0_takeEnergy (rs T r res)) (h : sX0_takeEnergy o x a1 = some res) : G g 0 0 (rs T r x) 0 [(0, .ref (xE (gκ g) r o 0)), (1, .int a1)] [] := by
  unfold sX0_takeEnergy at h
  refine G_aload_n X 0 dX0_takeEnergy_0 rfl rfl ?_
  refine G_sipush X (v := (9999 : Int32)) dX0_takeEnergy_1 (by decide) ?_
  refine G_aload_n X 0 dX0_takeEnergy_4 rfl rfl ?_
  refine f_X0_41 X (kd_o0 hr ho) (rg_rs _ _ _) dX0_takeEnergy_5 ?_
  refine G_iload_n X 1 dX0_takeEnergy_8 rfl rfl ?_
  refine G_iadd X dX0_takeEnergy_9 ?_
  refine G_mmin X wM_X0_76 (by decide) (Nat.le_of_ble_eq_true rfl) ⟨Nat.zero_le _, Nat.zero_le _⟩ dX0_takeEnergy_10 ?_
  obtain ⟨v1, ev1, h⟩ := nm_some h
  refine G_nmi ev1 ?_
  obtain ⟨z2, ez2, h⟩ := nm_some h
  refine p_X0_41 X (T' := rs T r z2) (kd_o0 hr ho) (rg_rs _ _ _)  (by rw [rs_rs, ez2]) dX0_takeEnergy_13 ?_
  refine G_aload_n X 0 dX0_takeEnergy_16 rfl rfl ?_
  refine f_X0_63 X (kd_o0 hr ho) (rg_rs _ _ _) dX0_takeEnergy_17 ?_
  refine G_iconst X (v := (4 : Int32)) dX0_takeEnergy_20 (by decide) ?_
  refine G_icmp_ne X (tgt := 28) dX0_takeEnergy_21 (by decide) (fun c3 => ?_) (fun c3 => ?_)
  · have h := it_t c3 h
    obtain rfl := Option.some.inj h
    exact hf _ _ dX0_takeEnergy_28
  · have h := it_f (fun k => k c3) h
    refine G_aload_n X 0 dX0_takeEnergy_24 rfl rfl ?_
    obtain ⟨q4, hq4, h⟩ := bd_some h
    refine G_callV X (As := []) (rest := []) (T' := rs T r q4) (st2 := []) (ct_X0_fallAsleep (l := g.2.1) (κ := gκ g) (T := T) (r := r) (x := z2) hr ho hq4) cal_X0_fallAsleep wM_X0_60 wI_X0_fallAsleep wS_X0_fallAsleep (kd_o0 hr ho) rfl (by decide) rfl rfl (Nat.le_of_ble_eq_true rfl) ⟨Nat.zero_le _, Nat.zero_le _⟩ dX0_takeEnergy_25 rfl ?_
    obtain rfl := Option.some.inj h
    exact hf _ _ dX0_takeEnergy_28
set_option maxRecDepth 20000 in
theorem ct_X0_takeEnergy {l : Launch} {κ : KX} {T : TT} {r : Nat} {o : Nat} {x : St} {a1 : Int32} {res : St} (hr : isW r) (ho : isO o) (h : sX0_takeEnergy o x a1 = some res) : Ct l κ yX0_takeEnergy cX0_takeEnergy 2 none 1 21 [.ref (xE κ r o 0), .int a1] (rs T r x) (rs T r res) none := by
  refine Ct_v RX0 rfl (by decide +kernel) (Nat.le_of_ble_eq_true rfl) (fun g hl hκ X hf => ?_)
  subst hl; subst hκ
  exact gX0_takeEnergy X hr ho hf h
set_option maxRecDepth 20000 in
theorem gX5_clear {g : GX} {T : TT} {r : Nat}  {x : St}  {res : St} (X : CX g RX5 cX5_clear 1 0 0) (hr : isW r) (hf : FinV g cX5_clear (rs T r res)) (h : sX5_clear x = some res) : G g 0 0 (rs T r x) 0 [(0, .ref (xE (gκ g) r 0 0))] [] := by
  unfold sX5_clear at h
  refine G_aload_n X 0 dX5_clear_0 rfl rfl ?_
  refine G_iconst X (v := (0 : Int32)) dX5_clear_1 (by decide) ?_
  obtain ⟨z1, ez1, h⟩ := nm_some h
  refine p_X5_25 X (T' := rs T r z1) (kd_w0 hr) (rg_rs _ _ _)  (by rw [rs_rs, ez1]) dX5_clear_2 ?_
  refine G_aload_n X 0 dX5_clear_5 rfl rfl ?_
  refine f_X5_9 X (kd_w0 hr) rfl dX5_clear_6 ?_
  refine G_iconst X (v := (0 : Int32)) dX5_clear_9 (by decide) ?_
  refine G_iconst X (v := (1 : Int32)) dX5_clear_10 (by decide) ?_
  obtain ⟨g2, h⟩ := gd_some h
  obtain ⟨z3, ez3, h⟩ := nm_some h
  refine G_iast X (T' := rs T r z3) (kd_w1 hr) (rg_rs _ _ _) g2 (by rw [rs_rs, ez3]) dX5_clear_11 ?_
  refine G_aload_n X 0 dX5_clear_12 rfl rfl ?_
  refine f_X5_9 X (kd_w0 hr) rfl dX5_clear_13 ?_
  refine G_iconst X (v := (1 : Int32)) dX5_clear_16 (by decide) ?_
  refine G_iconst X (v := (5 : Int32)) dX5_clear_17 (by decide) ?_
  obtain ⟨g4, h⟩ := gd_some h
  obtain ⟨z5, ez5, h⟩ := nm_some h
  refine G_iast X (T' := rs T r z5) (kd_w1 hr) (rg_rs _ _ _) g4 (by rw [rs_rs, ez5]) dX5_clear_18 ?_
  refine G_aload_n X 0 dX5_clear_19 rfl rfl ?_
  refine f_X5_9 X (kd_w0 hr) rfl dX5_clear_20 ?_
  refine G_iconst X (v := (2 : Int32)) dX5_clear_23 (by decide) ?_
  refine G_iconst X (v := (3 : Int32)) dX5_clear_24 (by decide) ?_
  obtain ⟨g6, h⟩ := gd_some h
  obtain ⟨z7, ez7, h⟩ := nm_some h
  refine G_iast X (T' := rs T r z7) (kd_w1 hr) (rg_rs _ _ _) g6 (by rw [rs_rs, ez7]) dX5_clear_25 ?_
  refine G_aload_n X 0 dX5_clear_26 rfl rfl ?_
  refine f_X5_9 X (kd_w0 hr) rfl dX5_clear_27 ?_
  refine G_iconst X (v := (3 : Int32)) dX5_clear_30 (by decide) ?_
  refine G_bipush X (v := (9 : Int32)) dX5_clear_31 (by decide) ?_
  obtain ⟨g8, h⟩ := gd_some h
  obtain ⟨z9, ez9, h⟩ := nm_some h
  refine G_iast X (T' := rs T r z9) (kd_w1 hr) (rg_rs _ _ _) g8 (by rw [rs_rs, ez9]) dX5_clear_33 ?_
  refine G_aload_n X 0 dX5_clear_34 rfl rfl ?_
  refine G_iconst X (v := (1 : Int32)) dX5_clear_35 (by decide) ?_
  obtain ⟨z10, ez10, h⟩ := nm_some h
  refine p_X5_29 X (T' := rs T r z10) (kd_w0 hr) (rg_rs _ _ _)  (by rw [rs_rs, ez10]) dX5_clear_36 ?_
  refine G_aload_n X 0 dX5_clear_39 rfl rfl ?_
  refine G_iconst X (v := (3 : Int32)) dX5_clear_40 (by decide) ?_
  obtain ⟨z11, ez11, h⟩ := nm_some h
  refine p_X5_32 X (T' := rs T r z11) (kd_w0 hr) (rg_rs _ _ _)  (by rw [rs_rs, ez11]) dX5_clear_41 ?_
  refine G_aload_n X 0 dX5_clear_44 rfl rfl ?_
  refine G_bipush X (v := (99 : Int32)) dX5_clear_45 (by decide) ?_
  obtain ⟨z12, ez12, h⟩ := nm_some h
  refine p_X5_35 X (T' := rs T r z12) (kd_w0 hr) (rg_rs _ _ _)  (by rw [rs_rs, ez12]) dX5_clear_47 ?_
  refine G_aload_n X 0 dX5_clear_50 rfl rfl ?_
  refine G_iconst X (v := (0 : Int32)) dX5_clear_51 (by decide) ?_
  obtain ⟨z13, ez13, h⟩ := nm_some h
  refine p_X5_38 X (T' := rs T r z13) (kd_w0 hr) (rg_rs _ _ _)  (by rw [rs_rs, ez13]) dX5_clear_52 ?_
  refine G_aload_n X 0 dX5_clear_55 rfl rfl ?_
  refine G_iconst X (v := (0 : Int32)) dX5_clear_56 (by decide) ?_
  obtain ⟨z14, ez14, h⟩ := nm_some h
  refine p_X5_41 X (T' := rs T r z14) (kd_w0 hr) (rg_rs _ _ _)  (by rw [rs_rs, ez14]) dX5_clear_57 ?_
  refine G_aload_n X 0 dX5_clear_60 rfl rfl ?_
  refine G_iconst X (v := (0 : Int32)) dX5_clear_61 (by decide) ?_
  obtain ⟨z15, ez15, h⟩ := nm_some h
  refine p_X5_44 X (T' := rs T r z15) (kd_w0 hr) (rg_rs _ _ _)  (by rw [rs_rs, ez15]) dX5_clear_62 ?_
  refine G_aload_n X 0 dX5_clear_65 rfl rfl ?_
  refine G_iconst X (v := (0 : Int32)) dX5_clear_66 (by decide) ?_
  obtain ⟨z16, ez16, h⟩ := nm_some h
  refine p_X5_47 X (T' := rs T r z16) (kd_w0 hr) (rg_rs _ _ _)  (by rw [rs_rs, ez16]) dX5_clear_67 ?_
  refine G_aload_n X 0 dX5_clear_70 rfl rfl ?_
  refine G_iconst X (v := (0 : Int32)) dX5_clear_71 (by decide) ?_
  obtain ⟨z17, ez17, h⟩ := nm_some h
  refine p_X5_50 X (T' := rs T r z17) (kd_w0 hr) (rg_rs _ _ _)  (by rw [rs_rs, ez17]) dX5_clear_72 ?_
  obtain rfl := Option.some.inj h
  exact hf _ _ dX5_clear_75
set_option maxRecDepth 20000 in
theorem ct_X5_clear {l : Launch} {κ : KX} {T : TT} {r : Nat}  {x : St}  {res : St} (hr : isW r) (h : sX5_clear x = some res) : Ct l κ yX5_clear cX5_clear 1 none 0 0 [.ref (xE κ r 0 0)] (rs T r x) (rs T r res) none := by
  refine Ct_v RX5 rfl (by decide +kernel) (Nat.le_of_ble_eq_true rfl) (fun g hl hκ X hf => ?_)
  subst hl; subst hκ
  exact gX5_clear X hr hf h
set_option maxRecDepth 20000 in
theorem gX6_letterOf {g : GX} {T : TT}   {a0 : Int64} {a2 : Int32} {res : Int32} (X : CX g RX6 cX6_letterOf 3 0 0)  (hf : FinI g cX6_letterOf .int (T) (res)) (h : sX6_letterOf a0 a2 = some res) : G g 0 0 (T) 0 [(0, .long a0), (2, .int a2)] [] := by
  unfold sX6_letterOf at h
  refine G_iload_n X 1 dX6_letterOf_0 rfl rfl ?_
  refine G_if_lt X (tgt := 10) dX6_letterOf_1 (by decide) (fun c1 => ?_) (fun c1 => ?_)
  · have h := it_t c1 h
    refine G_iconst X (v := (0 : Int32)) dX6_letterOf_10 (by decide) ?_
    refine G_goto X (tgt := 25) dX6_letterOf_11 (by decide) ?_
    obtain rfl := Option.some.inj h
    exact hf _ _ dX6_letterOf_25 rfl
  · have h := it_f c1 h
    refine G_iload_n X 1 dX6_letterOf_4 rfl rfl ?_
    refine G_bipush X (v := (8 : Int32)) dX6_letterOf_5 (by decide) ?_
    refine G_icmp_lt X (tgt := 14) dX6_letterOf_7 (by decide) (fun c2 => ?_) (fun c2 => ?_)
    · have h := it_t c2 h
      refine G_lload_n X 0 dX6_letterOf_14 rfl rfl ?_
      refine G_bipush X (v := (8 : Int32)) dX6_letterOf_15 (by decide) ?_
      refine G_iload_n X 1 dX6_letterOf_17 rfl rfl ?_
      refine G_imul X dX6_letterOf_18 ?_
      refine G_lushr X dX6_letterOf_19 ?_
      refine G_l2i X dX6_letterOf_20 ?_
      refine G_sipush X (v := (255 : Int32)) dX6_letterOf_21 (by decide) ?_
      refine G_iand X dX6_letterOf_24 ?_
      obtain rfl := Option.some.inj h
      exact hf _ _ dX6_letterOf_25 rfl
    · have h := it_f c2 h
      refine G_iconst X (v := (0 : Int32)) dX6_letterOf_10 (by decide) ?_
      refine G_goto X (tgt := 25) dX6_letterOf_11 (by decide) ?_
      obtain rfl := Option.some.inj h
      exact hf _ _ dX6_letterOf_25 rfl
set_option maxRecDepth 20000 in
theorem ct_X6_letterOf {l : Launch} {κ : KX} {T : TT}   {a0 : Int64} {a2 : Int32} {res : Int32}  (h : sX6_letterOf a0 a2 = some res) : Ct l κ yX6_letterOf cX6_letterOf 3 (some .int) 0 0 [.long a0, .int a2] (T) (T) (some (.int (res))) := by
  refine Ct_i RX6 rfl (by decide +kernel) (Nat.le_of_ble_eq_true rfl) (fun g hl hκ X hf => ?_)
  subst hl; subst hκ
  exact gX6_letterOf X  hf h
set_option maxRecDepth 20000 in
theorem gX4_isWord_b26 {g : GX} {T : TT} {r : Nat} {w1 : Nat} {t : St} {res : Int32}  (X : CX g RX4 cX4_isWord 3 4 85) (hr : kd r = kd 3) (hw1 : w1 < nJS) (hf : FinI g cX4_isWord .boolean (rs T r t) (res))  : ∀ (n : Nat) (a2 : Int32) (h : sX4_isWord_b26 n  w1 t a2 = some res), G g 0 0 (rs T r t) 26 [(0, .ref (xE (gκ g) r 0 0)), (1, .ref ((gκ g).2.2.2.2.1 w1)), (2, .int a2)] [] := by
  intro n
  induction n with
  | zero => intro a2 h; unfold sX4_isWord_b26 at h; cases h
  | succ n ih =>
    intro a2 h
    unfold sX4_isWord_b26 at h
    refine G_iload_n X 2 dX4_isWord_26 rfl rfl ?_
    refine G_aload_n X 1 dX4_isWord_27 rfl rfl ?_
    refine G_slen X wM_X4_76 hw1 (by decide) (Nat.le_of_ble_eq_true rfl) ⟨Nat.zero_le _, Nat.zero_le _⟩ dX4_isWord_28 ?_
    refine G_icmp_ge X (tgt := 58) dX4_isWord_31 (by decide) (fun c4 => ?_) (fun c4 => ?_)
    · have h := it_t c4 h
      refine G_iconst X (v := (1 : Int32)) dX4_isWord_58 (by decide) ?_
      obtain rfl := Option.some.inj h
      exact hf _ _ dX4_isWord_59 (isb_n (v := (1 : Int32)) rfl)
    · have h := it_f c4 h
      refine G_aload_n X 0 dX4_isWord_34 rfl rfl ?_
      refine f_X4_72 X (congrFun (congrFun hr 0) 0) (rg_rs _ _ _) dX4_isWord_35 ?_
      refine G_iload_n X 2 dX4_isWord_38 rfl rfl ?_
      obtain ⟨q5, hq5, h⟩ := bd_some h
      refine G_callSN X (As := [.long (gL t 0 0 7), .int a2]) (rest := []) (T' := rs T r t) (st2 := [.int q5]) (ct_X6_letterOf (l := g.2.1) (κ := gκ g)   hq5) cal_X6_letterOf nM_X4_82 wT_X6_letterOf (by decide) rfl rfl (Nat.le_of_ble_eq_true rfl) ⟨Nat.zero_le _, Nat.zero_le _⟩ dX4_isWord_39 rfl ?_
      refine G_aload_n X 1 dX4_isWord_42 rfl rfl ?_
      refine G_iload_n X 2 dX4_isWord_43 rfl rfl ?_
      obtain ⟨g6, h⟩ := gd_some h
      refine G_schr X wM_X4_86 hw1 g6 (by decide) (Nat.le_of_ble_eq_true rfl) ⟨Nat.zero_le _, Nat.zero_le _⟩ dX4_isWord_44 ?_
      refine G_icmp_eq X (tgt := 52) dX4_isWord_47 (by decide) (fun c7 => ?_) (fun c7 => ?_)
      · have h := it_t c7 h
        obtain ⟨v8, ev8, h⟩ := nm_some h
        refine G_iinc X (v := v8) (lv' := [(2, .int v8), (0, .ref (xE (gκ g) r 0 0)), (1, .ref ((gκ g).2.2.2.2.1 w1))]) 2 dX4_isWord_52 rfl (by rw [ev8]; rfl) (by decide) rfl ?_
        refine G_goto X (tgt := 26) dX4_isWord_55 (by decide) ?_
        refine G_sub [1, 2, 0] rfl ?_
        exact ih _ h
      · have h := it_f c7 h
        refine G_iconst X (v := (0 : Int32)) dX4_isWord_50 (by decide) ?_
        obtain rfl := Option.some.inj h
        exact hf _ _ dX4_isWord_51 (isb_n (v := (0 : Int32)) rfl)
set_option maxRecDepth 20000 in
theorem gX4_isWord {g : GX} {T : TT} {r : Nat} {w1 : Nat} {t : St}  {res : Int32} (X : CX g RX4 cX4_isWord 3 4 85) (hr : kd r = kd 3) (hw1 : w1 < nJS) (hf : FinI g cX4_isWord .boolean (rs T r t) (res)) (h : sX4_isWord w1 t = some res) : G g 0 0 (rs T r t) 0 [(0, .ref (xE (gκ g) r 0 0)), (1, .ref ((gκ g).2.2.2.2.1 w1))] [] := by
  unfold sX4_isWord at h
  refine G_aload_n X 0 dX4_isWord_0 rfl rfl ?_
  refine f_X4_66 X (congrFun (congrFun hr 0) 0) (rg_rs _ _ _) dX4_isWord_1 ?_
  refine G_iconst X (v := (1 : Int32)) dX4_isWord_4 (by decide) ?_
  refine G_icmp_ne X (tgt := 22) dX4_isWord_5 (by decide) (fun c1 => ?_) (fun c1 => ?_)
  · have h := it_t c1 h
    refine G_iconst X (v := (0 : Int32)) dX4_isWord_22 (by decide) ?_
    obtain rfl := Option.some.inj h
    exact hf _ _ dX4_isWord_23 (isb_n (v := (0 : Int32)) rfl)
  · have h := it_f (fun k => k c1) h
    refine G_aload_n X 0 dX4_isWord_8 rfl rfl ?_
    refine f_X4_72 X (congrFun (congrFun hr 0) 0) (rg_rs _ _ _) dX4_isWord_9 ?_
    refine G_aload_n X 1 dX4_isWord_12 rfl rfl ?_
    refine G_slen X wM_X4_76 hw1 (by decide) (Nat.le_of_ble_eq_true rfl) ⟨Nat.zero_le _, Nat.zero_le _⟩ dX4_isWord_13 ?_
    obtain ⟨q2, hq2, h⟩ := bd_some h
    refine G_callSN X (As := [.long (gL t 0 0 7), .int (nI (lenJS.getD w1 0))]) (rest := []) (T' := rs T r t) (st2 := [.int q2]) (ct_X6_letterOf (l := g.2.1) (κ := gκ g)   hq2) cal_X6_letterOf nM_X4_82 wT_X6_letterOf (by decide) rfl rfl (Nat.le_of_ble_eq_true rfl) ⟨Nat.zero_le _, Nat.zero_le _⟩ dX4_isWord_16 rfl ?_
    refine G_if_eq X (tgt := 24) dX4_isWord_19 (by decide) (fun c3 => ?_) (fun c3 => ?_)
    · have h := it_t c3 h
      refine G_iconst X (v := (0 : Int32)) dX4_isWord_24 (by decide) ?_
      refine G_istore_n X (lv' := [(2, .int ((0 : Int32))), (0, .ref (xE (gκ g) r 0 0)), (1, .ref ((gκ g).2.2.2.2.1 w1))]) dX4_isWord_25 rfl (by decide) rfl ?_
      refine G_sub [1, 2, 0] rfl ?_
      exact gX4_isWord_b26 X hr hw1 hf FU _ h
    · have h := it_f c3 h
      refine G_iconst X (v := (0 : Int32)) dX4_isWord_22 (by decide) ?_
      obtain rfl := Option.some.inj h
      exact hf _ _ dX4_isWord_23 (isb_n (v := (0 : Int32)) rfl)
set_option maxRecDepth 20000 in
theorem ct_X4_isWord {l : Launch} {κ : KX} {T : TT} {r : Nat} {w1 : Nat} {t : St}  {res : Int32} (hr : kd r = kd 3) (hw1 : w1 < nJS) (h : sX4_isWord w1 t = some res) : Ct l κ yX4_isWord cX4_isWord 3 (some .boolean) 4 85 [.ref (xE κ r 0 0), .ref (κ.2.2.2.2.1 w1)] (rs T r t) (rs T r t) (some (.int (res))) := by
  refine Ct_i RX4 rfl (by decide +kernel) (Nat.le_of_ble_eq_true rfl) (fun g hl hκ X hf => ?_)
  subst hl; subst hκ
  exact gX4_isWord X hr hw1 hf h
set_option maxRecDepth 20000 in
theorem gX4_fail {g : GX} {T : TT} {r : Nat}  {t : St} {a1 : Int32} {res : St × Int32} (X : CX g RX4 cX4_fail 2 0 0) (hr : kd r = kd 3) (hf : FinI g cX4_fail .boolean (rs T r res.1) (res.2)) (h : sX4_fail t a1 = some res) : G g 0 0 (rs T r t) 0 [(0, .ref (xE (gκ g) r 0 0)), (1, .int a1)] [] := by
  unfold sX4_fail at h
  refine G_aload_n X 0 dX4_fail_0 rfl rfl ?_
  refine G_iload_n X 1 dX4_fail_1 rfl rfl ?_
  obtain ⟨z1, ez1, h⟩ := nm_some h
  refine p_X4_38 X (T' := rs T r z1) (congrFun (congrFun hr 0) 0) (rg_rs _ _ _)  (by rw [rs_rs, ez1]) dX4_fail_2 ?_
  refine G_aload_n X 0 dX4_fail_5 rfl rfl ?_
  refine G_aload_n X 0 dX4_fail_6 rfl rfl ?_
  refine f_X4_69 X (congrFun (congrFun hr 0) 0) (rg_rs _ _ _) dX4_fail_7 ?_
  obtain ⟨z2, ez2, h⟩ := nm_some h
  refine p_X4_22 X (T' := rs T r z2) (congrFun (congrFun hr 0) 0) (rg_rs _ _ _)  (by rw [rs_rs, ez2]) dX4_fail_10 ?_
  refine G_iconst X (v := (0 : Int32)) dX4_fail_13 (by decide) ?_
  obtain rfl := Option.some.inj h
  exact hf _ _ dX4_fail_14 (isb_n (v := (0 : Int32)) rfl)
set_option maxRecDepth 20000 in
theorem ct_X4_fail {l : Launch} {κ : KX} {T : TT} {r : Nat}  {t : St} {a1 : Int32} {res : St × Int32} (hr : kd r = kd 3) (h : sX4_fail t a1 = some res) : Ct l κ yX4_fail cX4_fail 2 (some .boolean) 0 0 [.ref (xE κ r 0 0), .int a1] (rs T r t) (rs T r res.1) (some (.int (res.2))) := by
  refine Ct_i RX4 rfl (by decide +kernel) (Nat.le_of_ble_eq_true rfl) (fun g hl hκ X hf => ?_)
  subst hl; subst hκ
  exact gX4_fail X hr hf h
set_option maxRecDepth 20000 in
theorem gX4_advance {g : GX} {T : TT} {r : Nat}  {t : St}  {res : St} (X : CX g RX4 cX4_advance 1 0 0) (hr : kd r = kd 3) (hf : FinV g cX4_advance (rs T r res)) (h : sX4_advance t = some res) : G g 0 0 (rs T r t) 0 [(0, .ref (xE (gκ g) r 0 0))] [] := by
  unfold sX4_advance at h
  refine G_aload_n X 0 dX4_advance_0 rfl rfl ?_
  refine f_X4_35 X (congrFun (congrFun hr 0) 0) (rg_rs _ _ _) dX4_advance_1 ?_
  refine G_aload_n X 0 dX4_advance_4 rfl rfl ?_
  refine f_X4_32 X (congrFun (congrFun hr 0) 0) (rg_rs _ _ _) dX4_advance_5 ?_
  refine G_icmp_ge X (tgt := 60) dX4_advance_8 (by decide) (fun c1 => ?_) (fun c1 => ?_)
  · have h := it_t c1 h
    obtain rfl := Option.some.inj h
    exact hf _ _ dX4_advance_60
  · have h := it_f c1 h
    refine G_aload_n X 0 dX4_advance_11 rfl rfl ?_
    refine G_aload_n X 0 dX4_advance_12 rfl rfl ?_
    refine f_X4_9 X (congrFun (congrFun hr 0) 0) rfl dX4_advance_13 ?_
    refine G_aload_n X 0 dX4_advance_16 rfl rfl ?_
    refine f_X4_35 X (congrFun (congrFun hr 0) 0) (rg_rs _ _ _) dX4_advance_17 ?_
    obtain ⟨g2, h⟩ := gd_some h
    refine G_iald X (congrFun (congrFun hr 0) 1) (rg_rs _ _ _) g2 dX4_advance_20 ?_
    obtain ⟨z3, ez3, h⟩ := nm_some h
    refine p_X4_66 X (T' := rs T r z3) (congrFun (congrFun hr 0) 0) (rg_rs _ _ _)  (by rw [rs_rs, ez3]) dX4_advance_21 ?_
    refine G_aload_n X 0 dX4_advance_24 rfl rfl ?_
    refine G_aload_n X 0 dX4_advance_25 rfl rfl ?_
    refine f_X4_15 X (congrFun (congrFun hr 0) 0) rfl dX4_advance_26 ?_
    refine G_aload_n X 0 dX4_advance_29 rfl rfl ?_
    refine f_X4_35 X (congrFun (congrFun hr 0) 0) (rg_rs _ _ _) dX4_advance_30 ?_
    obtain ⟨g4, h⟩ := gd_some h
    refine G_iald X (congrFun (congrFun hr 0) 2) (rg_rs _ _ _) g4 dX4_advance_33 ?_
    obtain ⟨z5, ez5, h⟩ := nm_some h
    refine p_X4_69 X (T' := rs T r z5) (congrFun (congrFun hr 0) 0) (rg_rs _ _ _)  (by rw [rs_rs, ez5]) dX4_advance_34 ?_
    refine G_aload_n X 0 dX4_advance_37 rfl rfl ?_
    refine G_aload_n X 0 dX4_advance_38 rfl rfl ?_
    refine f_X4_18 X (congrFun (congrFun hr 0) 0) rfl dX4_advance_39 ?_
    refine G_aload_n X 0 dX4_advance_42 rfl rfl ?_
    refine f_X4_35 X (congrFun (congrFun hr 0) 0) (rg_rs _ _ _) dX4_advance_43 ?_
    obtain ⟨g6, h⟩ := gd_some h
    refine G_lald X (congrFun (congrFun hr 0) 3) (rg_rs _ _ _) g6 dX4_advance_46 ?_
    obtain ⟨z7, ez7, h⟩ := nm_some h
    refine p_X4_72 X (T' := rs T r z7) (congrFun (congrFun hr 0) 0) (rg_rs _ _ _)  (by rw [rs_rs, ez7]) dX4_advance_47 ?_
    refine G_aload_n X 0 dX4_advance_50 rfl rfl ?_
    refine G_dup X dX4_advance_51 rfl ?_
    refine f_X4_35 X (congrFun (congrFun hr 0) 0) (rg_rs _ _ _) dX4_advance_52 ?_
    refine G_iconst X (v := (1 : Int32)) dX4_advance_55 (by decide) ?_
    refine G_iadd X dX4_advance_56 ?_
    obtain ⟨z8, ez8, h⟩ := nm_some h
    refine p_X4_35 X (T' := rs T r z8) (congrFun (congrFun hr 0) 0) (rg_rs _ _ _)  (by rw [rs_rs, ez8]) dX4_advance_57 ?_
    obtain rfl := Option.some.inj h
    exact hf _ _ dX4_advance_60
set_option maxRecDepth 20000 in
theorem ct_X4_advance {l : Launch} {κ : KX} {T : TT} {r : Nat}  {t : St}  {res : St} (hr : kd r = kd 3) (h : sX4_advance t = some res) : Ct l κ yX4_advance cX4_advance 1 none 0 0 [.ref (xE κ r 0 0)] (rs T r t) (rs T r res) none := by
  refine Ct_v RX4 rfl (by decide +kernel) (Nat.le_of_ble_eq_true rfl) (fun g hl hκ X hf => ?_)
  subst hl; subst hκ
  exact gX4_advance X hr hf h
set_option maxRecDepth 20000 in
theorem gX3_tellOnce {g : GX}  {x0 : St} {x1 : St} {x2 : St} {ps : Nat → St} {ta : St} {tb : St} {d : St} {S : St} {pg : St} {c : St} {m : St} {ot : St} {a1 : Int32} {res : St × St × Int32} (X : CX g RX3 cX3_tellOnce 2 1 21)  (hf : FinI g cX3_tellOnce .boolean ((x0, x1, x2, ps, res.1, tb, res.2.1, S, pg, c, m, ot)) (res.2.2)) (h : sX3_tellOnce ta d a1 = some res) : G g 0 0 ((x0, x1, x2, ps, ta, tb, d, S, pg, c, m, ot)) 0 [(0, .ref (xE (gκ g) 5 0 0)), (1, .int a1)] [] := by
  unfold sX3_tellOnce at h
  refine G_aload_n X 0 dX3_tellOnce_0 rfl rfl ?_
  refine f_X3_23 X rfl rfl dX3_tellOnce_1 ?_
  refine G_iload_n X 1 dX3_tellOnce_4 rfl rfl ?_
  refine G_iand X dX3_tellOnce_5 ?_
  refine G_if_eq X (tgt := 18) dX3_tellOnce_6 (by decide) (fun c1 => ?_) (fun c1 => ?_)
  · have h := it_t c1 h
    refine G_aload_n X 0 dX3_tellOnce_18 rfl rfl ?_
    refine G_dup X dX3_tellOnce_19 rfl ?_
    refine f_X3_23 X rfl rfl dX3_tellOnce_20 ?_
    refine G_iload_n X 1 dX3_tellOnce_23 rfl rfl ?_
    refine G_ior X dX3_tellOnce_24 ?_
    obtain ⟨z2, ez2, h⟩ := nm_some h
    refine p_X3_23 X (T' := (x0, x1, x2, ps, ta, tb, z2, S, pg, c, m, ot)) rfl rfl  (by rw [ez2]; rfl) dX3_tellOnce_25 ?_
    refine G_aload_n X 0 dX3_tellOnce_28 rfl rfl ?_
    refine f_X3_12 X rfl rfl dX3_tellOnce_29 ?_
    obtain ⟨q3, hq3, h⟩ := bd_some h
    refine G_callVN X (As := []) (rest := []) (T' := (x0, x1, x2, ps, q3, tb, z2, S, pg, c, m, ot)) (st2 := []) (ct_X4_advance (l := g.2.1) (κ := gκ g) (T := ((x0, x1, x2, ps, ta, tb, z2, S, pg, c, m, ot))) (r := 3) (t := ta) rfl hq3) cal_X4_advance nM_X3_79 wI_X4_advance wS_X4_advance rfl rfl (by decide) rfl rfl (Nat.le_of_ble_eq_true rfl) ⟨Nat.zero_le _, Nat.zero_le _⟩ dX3_tellOnce_32 rfl ?_
    refine G_iconst X (v := (1 : Int32)) dX3_tellOnce_35 (by decide) ?_
    obtain rfl := Option.some.inj h
    exact hf _ _ dX3_tellOnce_36 (isb_n (v := (1 : Int32)) rfl)
  · have h := it_f c1 h
    refine G_aload_n X 0 dX3_tellOnce_9 rfl rfl ?_
    refine f_X3_12 X rfl rfl dX3_tellOnce_10 ?_
    refine G_iconst X (v := (3 : Int32)) dX3_tellOnce_13 (by decide) ?_
    obtain ⟨q4, hq4, h⟩ := bd_some h
    refine G_callVN X (As := [.int ((3 : Int32))]) (rest := []) (T' := (x0, x1, x2, ps, q4.1, tb, d, S, pg, c, m, ot)) (st2 := [.int q4.2]) (ct_X4_fail (l := g.2.1) (κ := gκ g) (T := ((x0, x1, x2, ps, ta, tb, d, S, pg, c, m, ot))) (r := 3) (t := ta) rfl hq4) cal_X4_fail nM_X3_76 wI_X4_fail wS_X4_fail rfl rfl (by decide) rfl rfl (Nat.le_of_ble_eq_true rfl) ⟨Nat.zero_le _, Nat.zero_le _⟩ dX3_tellOnce_14 rfl ?_
    obtain ⟨g5, h⟩ := gd_some h
    obtain rfl := Option.some.inj h
    exact hf _ _ dX3_tellOnce_17 (isb_n g5)
set_option maxRecDepth 20000 in
theorem ct_X3_tellOnce {l : Launch} {κ : KX}  {x0 : St} {x1 : St} {x2 : St} {ps : Nat → St} {ta : St} {tb : St} {d : St} {S : St} {pg : St} {c : St} {m : St} {ot : St} {a1 : Int32} {res : St × St × Int32}  (h : sX3_tellOnce ta d a1 = some res) : Ct l κ yX3_tellOnce cX3_tellOnce 2 (some .boolean) 1 21 [.ref (xE κ 5 0 0), .int a1] ((x0, x1, x2, ps, ta, tb, d, S, pg, c, m, ot)) ((x0, x1, x2, ps, res.1, tb, res.2.1, S, pg, c, m, ot)) (some (.int (res.2.2))) := by
  refine Ct_i RX3 rfl (by decide +kernel) (Nat.le_of_ble_eq_true rfl) (fun g hl hκ X hf => ?_)
  subst hl; subst hκ
  exact gX3_tellOnce X  hf h
set_option maxRecDepth 20000 in
theorem gX4_takeNumber_b36 {g : GX} {T : TT} {r : Nat}  {t : St}  {res : St × Int32}  (X : CX g RX4 cX4_takeNumber 4 1 21) (hr : kd r = kd 3) (hf : FinI g cX4_takeNumber .int (rs T r res.1) (res.2))   (h : sX4_takeNumber_b36  t = some res) : G g 0 0 (rs T r t) 36 [(0, .ref (xE (gκ g) r 0 0))] [] := by
  unfold sX4_takeNumber_b36 at h
  refine G_aload_n X 0 dX4_takeNumber_36 rfl rfl ?_
  refine G_iconst X (v := (2 : Int32)) dX4_takeNumber_37 (by decide) ?_
  obtain ⟨q6, hq6, h⟩ := bd_some h
  refine G_callV X (As := [.int ((2 : Int32))]) (rest := []) (T' := rs T r q6.1) (st2 := [.int q6.2]) (ct_X4_fail (l := g.2.1) (κ := gκ g) (T := T) (r := r) (t := t) hr hq6) cal_X4_fail wM_X4_94 wI_X4_fail wS_X4_fail (congrFun (congrFun hr 0) 0) rfl (by decide) rfl rfl (Nat.le_of_ble_eq_true rfl) ⟨Nat.zero_le _, Nat.zero_le _⟩ dX4_takeNumber_38 rfl ?_
  refine G_pop X dX4_takeNumber_41 rfl ?_
  refine G_iconst X (v := (-1 : Int32)) dX4_takeNumber_42 (by decide) ?_
  obtain rfl := Option.some.inj h
  exact hf _ _ dX4_takeNumber_43 rfl
set_option maxRecDepth 20000 in
theorem gX4_takeNumber {g : GX} {T : TT} {r : Nat}  {t : St} {a1 : Int32} {a2 : Int32} {res : St × Int32} (X : CX g RX4 cX4_takeNumber 4 1 21) (hr : kd r = kd 3) (hf : FinI g cX4_takeNumber .int (rs T r res.1) (res.2)) (h : sX4_takeNumber t a1 a2 = some res) : G g 0 0 (rs T r t) 0 [(0, .ref (xE (gκ g) r 0 0)), (1, .int a1), (2, .int a2)] [] := by
  unfold sX4_takeNumber at h
  refine G_aload_n X 0 dX4_takeNumber_0 rfl rfl ?_
  refine f_X4_66 X (congrFun (congrFun hr 0) 0) (rg_rs _ _ _) dX4_takeNumber_1 ?_
  refine G_iconst X (v := (2 : Int32)) dX4_takeNumber_4 (by decide) ?_
  refine G_icmp_eq X (tgt := 16) dX4_takeNumber_5 (by decide) (fun c1 => ?_) (fun c1 => ?_)
  · have h := it_t c1 h
    refine G_aload_n X 0 dX4_takeNumber_16 rfl rfl ?_
    refine f_X4_72 X (congrFun (congrFun hr 0) 0) (rg_rs _ _ _) dX4_takeNumber_17 ?_
    refine G_iload_n X 1 dX4_takeNumber_20 rfl rfl ?_
    refine G_i2l X dX4_takeNumber_21 ?_
    refine G_lcmp X dX4_takeNumber_22 ?_
    refine G_if_lt X (tgt := 36) dX4_takeNumber_23 (by decide) (fun c2 => ?_) (fun c2 => ?_)
    · have h := it_t c2 h
      refine G_sub [0] rfl ?_
      exact gX4_takeNumber_b36 X hr hf h
    · have h := it_f c2 h
      refine G_aload_n X 0 dX4_takeNumber_26 rfl rfl ?_
      refine f_X4_72 X (congrFun (congrFun hr 0) 0) (rg_rs _ _ _) dX4_takeNumber_27 ?_
      refine G_iload_n X 2 dX4_takeNumber_30 rfl rfl ?_
      refine G_i2l X dX4_takeNumber_31 ?_
      refine G_lcmp X dX4_takeNumber_32 ?_
      refine G_if_le X (tgt := 44) dX4_takeNumber_33 (by decide) (fun c3 => ?_) (fun c3 => ?_)
      · have h := it_t c3 h
        refine G_aload_n X 0 dX4_takeNumber_44 rfl rfl ?_
        refine f_X4_72 X (congrFun (congrFun hr 0) 0) (rg_rs _ _ _) dX4_takeNumber_45 ?_
        refine G_l2i X dX4_takeNumber_48 ?_
        refine G_istore_n X (lv' := [(3, .int ((gL t 0 0 7).toInt32)), (0, .ref (xE (gκ g) r 0 0)), (1, .int a1), (2, .int a2)]) dX4_takeNumber_49 rfl (by decide) rfl ?_
        refine G_aload_n X 1 dX4_takeNumber_50 rfl rfl ?_
        obtain ⟨q4, hq4, h⟩ := bd_some h
        refine G_callV X (As := []) (rest := []) (T' := rs T r q4) (st2 := []) (ct_X4_advance (l := g.2.1) (κ := gκ g) (T := T) (r := r) (t := t) hr hq4) cal_X4_advance wM_X4_63 wI_X4_advance wS_X4_advance (congrFun (congrFun hr 0) 0) rfl (by decide) rfl rfl (Nat.le_of_ble_eq_true rfl) ⟨Nat.zero_le _, Nat.zero_le _⟩ dX4_takeNumber_51 rfl ?_
        refine G_iload_n X 0 dX4_takeNumber_54 rfl rfl ?_
        obtain rfl := Option.some.inj h
        exact hf _ _ dX4_takeNumber_55 rfl
      · have h := it_f c3 h
        refine G_sub [0] rfl ?_
        exact gX4_takeNumber_b36 X hr hf h
  · have h := it_f c1 h
    refine G_aload_n X 0 dX4_takeNumber_8 rfl rfl ?_
    refine G_iconst X (v := (1 : Int32)) dX4_takeNumber_9 (by decide) ?_
    obtain ⟨q5, hq5, h⟩ := bd_some h
    refine G_callV X (As := [.int ((1 : Int32))]) (rest := []) (T' := rs T r q5.1) (st2 := [.int q5.2]) (ct_X4_fail (l := g.2.1) (κ := gκ g) (T := T) (r := r) (t := t) hr hq5) cal_X4_fail wM_X4_94 wI_X4_fail wS_X4_fail (congrFun (congrFun hr 0) 0) rfl (by decide) rfl rfl (Nat.le_of_ble_eq_true rfl) ⟨Nat.zero_le _, Nat.zero_le _⟩ dX4_takeNumber_10 rfl ?_
    refine G_pop X dX4_takeNumber_13 rfl ?_
    refine G_iconst X (v := (-1 : Int32)) dX4_takeNumber_14 (by decide) ?_
    obtain rfl := Option.some.inj h
    exact hf _ _ dX4_takeNumber_15 rfl
set_option maxRecDepth 20000 in
theorem ct_X4_takeNumber {l : Launch} {κ : KX} {T : TT} {r : Nat}  {t : St} {a1 : Int32} {a2 : Int32} {res : St × Int32} (hr : kd r = kd 3) (h : sX4_takeNumber t a1 a2 = some res) : Ct l κ yX4_takeNumber cX4_takeNumber 4 (some .int) 1 21 [.ref (xE κ r 0 0), .int a1, .int a2] (rs T r t) (rs T r res.1) (some (.int (res.2))) := by
  refine Ct_i RX4 rfl (by decide +kernel) (Nat.le_of_ble_eq_true rfl) (fun g hl hκ X hf => ?_)
  subst hl; subst hκ
  exact gX4_takeNumber X hr hf h
set_option maxRecDepth 20000 in
theorem gX3_readCosts_b2 {g : GX}  {x0 : St} {x2 : St} {ps : Nat → St} {tb : St} {d : St} {S : St} {pg : St} {c : St} {m : St} {ot : St} {res : St × St × Int32}  (X : CX g RX3 cX3_readCosts 4 2 44)  (hf : FinI g cX3_readCosts .boolean ((x0, res.1, x2, ps, res.2.1, tb, d, S, pg, c, m, ot)) (res.2.2))  : ∀ (n : Nat) (x1 : St) (ta : St) (a2 : Int32) (h : sX3_readCosts_b2 n  x1 ta a2 = some res), G g 0 0 ((x0, x1, x2, ps, ta, tb, d, S, pg, c, m, ot)) 2 [(0, .ref (xE (gκ g) 5 0 0)), (1, .ref (xE (gκ g) 1 0 0)), (2, .int a2)] [] := by
  intro n
  induction n with
  | zero => intro x1 ta a2 h; unfold sX3_readCosts_b2 at h; cases h
  | succ n ih =>
    intro x1 ta a2 h
    unfold sX3_readCosts_b2 at h
    refine G_iload_n X 2 dX3_readCosts_2 rfl rfl ?_
    refine G_iconst X (v := (4 : Int32)) dX3_readCosts_3 (by decide) ?_
    refine G_icmp_ge X (tgt := 38) dX3_readCosts_4 (by decide) (fun c1 => ?_) (fun c1 => ?_)
    · have h := it_t c1 h
      refine G_iconst X (v := (1 : Int32)) dX3_readCosts_38 (by decide) ?_
      obtain rfl := Option.some.inj h
      exact hf _ _ dX3_readCosts_39 (isb_n (v := (1 : Int32)) rfl)
    · have h := it_f c1 h
      refine G_aload_n X 0 dX3_readCosts_7 rfl rfl ?_
      refine f_X3_12 X rfl rfl dX3_readCosts_8 ?_
      refine G_iconst X (v := (0 : Int32)) dX3_readCosts_11 (by decide) ?_
      refine G_bipush X (v := (99 : Int32)) dX3_readCosts_12 (by decide) ?_
      obtain ⟨q2, hq2, h⟩ := bd_some h
      refine G_callVN X (As := [.int ((0 : Int32)), .int ((99 : Int32))]) (rest := []) (T' := (x0, x1, x2, ps, q2.1, tb, d, S, pg, c, m, ot)) (st2 := [.int q2.2]) (ct_X4_takeNumber (l := g.2.1) (κ := gκ g) (T := ((x0, x1, x2, ps, ta, tb, d, S, pg, c, m, ot))) (r := 3) (t := ta) rfl hq2) cal_X4_takeNumber nM_X3_82 wI_X4_takeNumber wS_X4_takeNumber rfl rfl (by decide) rfl rfl (Nat.le_of_ble_eq_true rfl) ⟨Nat.zero_le _, Nat.zero_le _⟩ dX3_readCosts_14 rfl ?_
      refine G_istore_n X (lv' := [(3, .int q2.2), (0, .ref (xE (gκ g) 5 0 0)), (1, .ref (xE (gκ g) 1 0 0)), (2, .int a2)]) dX3_readCosts_17 rfl (by decide) rfl ?_
      refine G_iload_n X 0 dX3_readCosts_18 rfl rfl ?_
      refine G_iconst X (v := (-1 : Int32)) dX3_readCosts_19 (by decide) ?_
      refine G_icmp_ne X (tgt := 25) dX3_readCosts_20 (by decide) (fun c3 => ?_) (fun c3 => ?_)
      · have h := it_t c3 h
        refine G_aload_n X 2 dX3_readCosts_25 rfl rfl ?_
        refine f_X3_86 X (kd_w0 (Or.inl (by decide))) rfl dX3_readCosts_26 ?_
        refine G_iload_n X 3 dX3_readCosts_29 rfl rfl ?_
        refine G_iload_n X 0 dX3_readCosts_30 rfl rfl ?_
        obtain ⟨g4, h⟩ := gd_some h
        obtain ⟨z5, ez5, h⟩ := nm_some h
        refine G_iast X (T' := (x0, z5, x2, ps, q2.1, tb, d, S, pg, c, m, ot)) (kd_w1 (Or.inl (by decide))) rfl g4 (by rw [ez5]; rfl) dX3_readCosts_31 ?_
        obtain ⟨v6, ev6, h⟩ := nm_some h
        refine G_iinc X (v := v6) (lv' := [(2, .int v6), (3, .int q2.2), (0, .ref (xE (gκ g) 5 0 0)), (1, .ref (xE (gκ g) 1 0 0))]) 3 dX3_readCosts_32 rfl (by rw [ev6]; rfl) (by decide) rfl ?_
        refine G_goto X (tgt := 2) dX3_readCosts_35 (by decide) ?_
        refine G_sub [2, 3, 0] rfl ?_
        exact ih _ _ _ h
      · have h := it_f (fun k => k c3) h
        refine G_iconst X (v := (0 : Int32)) dX3_readCosts_23 (by decide) ?_
        obtain rfl := Option.some.inj h
        exact hf _ _ dX3_readCosts_24 (isb_n (v := (0 : Int32)) rfl)
set_option maxRecDepth 20000 in
theorem gX3_readCosts {g : GX}  {x0 : St} {x1 : St} {x2 : St} {ps : Nat → St} {ta : St} {tb : St} {d : St} {S : St} {pg : St} {c : St} {m : St} {ot : St}  {res : St × St × Int32} (X : CX g RX3 cX3_readCosts 4 2 44)  (hf : FinI g cX3_readCosts .boolean ((x0, res.1, x2, ps, res.2.1, tb, d, S, pg, c, m, ot)) (res.2.2)) (h : sX3_readCosts x1 ta = some res) : G g 0 0 ((x0, x1, x2, ps, ta, tb, d, S, pg, c, m, ot)) 0 [(0, .ref (xE (gκ g) 5 0 0)), (1, .ref (xE (gκ g) 1 0 0))] [] := by
  unfold sX3_readCosts at h
  refine G_iconst X (v := (0 : Int32)) dX3_readCosts_0 (by decide) ?_
  refine G_istore_n X (lv' := [(2, .int ((0 : Int32))), (0, .ref (xE (gκ g) 5 0 0)), (1, .ref (xE (gκ g) 1 0 0))]) dX3_readCosts_1 rfl (by decide) rfl ?_
  refine G_sub [1, 2, 0] rfl ?_
  exact gX3_readCosts_b2 X hf FU _ _ _ h
set_option maxRecDepth 20000 in
theorem ct_X3_readCosts {l : Launch} {κ : KX}  {x0 : St} {x1 : St} {x2 : St} {ps : Nat → St} {ta : St} {tb : St} {d : St} {S : St} {pg : St} {c : St} {m : St} {ot : St}  {res : St × St × Int32}  (h : sX3_readCosts x1 ta = some res) : Ct l κ yX3_readCosts cX3_readCosts 4 (some .boolean) 2 44 [.ref (xE κ 5 0 0), .ref (xE κ 1 0 0)] ((x0, x1, x2, ps, ta, tb, d, S, pg, c, m, ot)) ((x0, res.1, x2, ps, res.2.1, tb, d, S, pg, c, m, ot)) (some (.int (res.2.2))) := by
  refine Ct_i RX3 rfl (by decide +kernel) (Nat.le_of_ble_eq_true rfl) (fun g hl hκ X hf => ?_)
  subst hl; subst hκ
  exact gX3_readCosts X  hf h
set_option maxRecDepth 20000 in
theorem gX3_readSeed {g : GX}  {x0 : St} {x1 : St} {x2 : St} {ps : Nat → St} {ta : St} {tb : St} {d : St} {S : St} {pg : St} {c : St} {m : St} {ot : St}  {res : St × St × Int32} (X : CX g RX3 cX3_readSeed 2 2 44)  (hf : FinI g cX3_readSeed .boolean ((x0, res.1, x2, ps, res.2.1, tb, d, S, pg, c, m, ot)) (res.2.2)) (h : sX3_readSeed x1 ta = some res) : G g 0 0 ((x0, x1, x2, ps, ta, tb, d, S, pg, c, m, ot)) 0 [(0, .ref (xE (gκ g) 5 0 0)), (1, .ref (xE (gκ g) 1 0 0))] [] := by
  unfold sX3_readSeed at h
  refine G_aload_n X 1 dX3_readSeed_0 rfl rfl ?_
  refine G_aload_n X 0 dX3_readSeed_1 rfl rfl ?_
  refine f_X3_12 X rfl rfl dX3_readSeed_2 ?_
  refine G_iconst X (v := (0 : Int32)) dX3_readSeed_5 (by decide) ?_
  refine G_sipush X (v := (999 : Int32)) dX3_readSeed_6 (by decide) ?_
  obtain ⟨q1, hq1, h⟩ := bd_some h
  refine G_callVN X (As := [.int ((0 : Int32)), .int ((999 : Int32))]) (rest := [.ref (xE (gκ g) 1 0 0)]) (T' := (x0, x1, x2, ps, q1.1, tb, d, S, pg, c, m, ot)) (st2 := [.int q1.2, .ref (xE (gκ g) 1 0 0)]) (ct_X4_takeNumber (l := g.2.1) (κ := gκ g) (T := ((x0, x1, x2, ps, ta, tb, d, S, pg, c, m, ot))) (r := 3) (t := ta) rfl hq1) cal_X4_takeNumber nM_X3_82 wI_X4_takeNumber wS_X4_takeNumber rfl rfl (by decide) rfl rfl (Nat.le_of_ble_eq_true rfl) ⟨Nat.zero_le _, Nat.zero_le _⟩ dX3_readSeed_9 rfl ?_
  obtain ⟨z2, ez2, h⟩ := nm_some h
  refine p_X3_89 X (T' := (x0, z2, x2, ps, q1.1, tb, d, S, pg, c, m, ot)) (kd_w0 (Or.inl (by decide))) rfl  (by rw [ez2]; rfl) dX3_readSeed_12 ?_
  refine G_aload_n X 1 dX3_readSeed_15 rfl rfl ?_
  refine f_X3_89 X (kd_w0 (Or.inl (by decide))) rfl dX3_readSeed_16 ?_
  refine G_iconst X (v := (-1 : Int32)) dX3_readSeed_19 (by decide) ?_
  refine G_icmp_eq X (tgt := 27) dX3_readSeed_20 (by decide) (fun c3 => ?_) (fun c3 => ?_)
  · have h := it_t c3 h
    refine G_iconst X (v := (0 : Int32)) dX3_readSeed_27 (by decide) ?_
    obtain rfl := Option.some.inj h
    exact hf _ _ dX3_readSeed_28 (isb_n (v := (0 : Int32)) rfl)
  · have h := it_f c3 h
    refine G_iconst X (v := (1 : Int32)) dX3_readSeed_23 (by decide) ?_
    refine G_goto X (tgt := 28) dX3_readSeed_24 (by decide) ?_
    obtain rfl := Option.some.inj h
    exact hf _ _ dX3_readSeed_28 (isb_n (v := (1 : Int32)) rfl)
set_option maxRecDepth 20000 in
theorem ct_X3_readSeed {l : Launch} {κ : KX}  {x0 : St} {x1 : St} {x2 : St} {ps : Nat → St} {ta : St} {tb : St} {d : St} {S : St} {pg : St} {c : St} {m : St} {ot : St}  {res : St × St × Int32}  (h : sX3_readSeed x1 ta = some res) : Ct l κ yX3_readSeed cX3_readSeed 2 (some .boolean) 2 44 [.ref (xE κ 5 0 0), .ref (xE κ 1 0 0)] ((x0, x1, x2, ps, ta, tb, d, S, pg, c, m, ot)) ((x0, res.1, x2, ps, res.2.1, tb, d, S, pg, c, m, ot)) (some (.int (res.2.2))) := by
  refine Ct_i RX3 rfl (by decide +kernel) (Nat.le_of_ble_eq_true rfl) (fun g hl hκ X hf => ?_)
  subst hl; subst hκ
  exact gX3_readSeed X  hf h
set_option maxRecDepth 20000 in
theorem gX3_readTries {g : GX}  {x0 : St} {x1 : St} {x2 : St} {ps : Nat → St} {ta : St} {tb : St} {d : St} {S : St} {pg : St} {c : St} {m : St} {ot : St}  {res : St × St × Int32} (X : CX g RX3 cX3_readTries 2 2 44)  (hf : FinI g cX3_readTries .boolean ((x0, res.1, x2, ps, res.2.1, tb, d, S, pg, c, m, ot)) (res.2.2)) (h : sX3_readTries x1 ta = some res) : G g 0 0 ((x0, x1, x2, ps, ta, tb, d, S, pg, c, m, ot)) 0 [(0, .ref (xE (gκ g) 5 0 0)), (1, .ref (xE (gκ g) 1 0 0))] [] := by
  unfold sX3_readTries at h
  refine G_aload_n X 1 dX3_readTries_0 rfl rfl ?_
  refine G_aload_n X 0 dX3_readTries_1 rfl rfl ?_
  refine f_X3_12 X rfl rfl dX3_readTries_2 ?_
  refine G_iconst X (v := (1 : Int32)) dX3_readTries_5 (by decide) ?_
  refine G_bipush X (v := (9 : Int32)) dX3_readTries_6 (by decide) ?_
  obtain ⟨q1, hq1, h⟩ := bd_some h
  refine G_callVN X (As := [.int ((1 : Int32)), .int ((9 : Int32))]) (rest := [.ref (xE (gκ g) 1 0 0)]) (T' := (x0, x1, x2, ps, q1.1, tb, d, S, pg, c, m, ot)) (st2 := [.int q1.2, .ref (xE (gκ g) 1 0 0)]) (ct_X4_takeNumber (l := g.2.1) (κ := gκ g) (T := ((x0, x1, x2, ps, ta, tb, d, S, pg, c, m, ot))) (r := 3) (t := ta) rfl hq1) cal_X4_takeNumber nM_X3_82 wI_X4_takeNumber wS_X4_takeNumber rfl rfl (by decide) rfl rfl (Nat.le_of_ble_eq_true rfl) ⟨Nat.zero_le _, Nat.zero_le _⟩ dX3_readTries_8 rfl ?_
  obtain ⟨z2, ez2, h⟩ := nm_some h
  refine p_X3_92 X (T' := (x0, z2, x2, ps, q1.1, tb, d, S, pg, c, m, ot)) (kd_w0 (Or.inl (by decide))) rfl  (by rw [ez2]; rfl) dX3_readTries_11 ?_
  refine G_aload_n X 1 dX3_readTries_14 rfl rfl ?_
  refine f_X3_92 X (kd_w0 (Or.inl (by decide))) rfl dX3_readTries_15 ?_
  refine G_iconst X (v := (-1 : Int32)) dX3_readTries_18 (by decide) ?_
  refine G_icmp_eq X (tgt := 26) dX3_readTries_19 (by decide) (fun c3 => ?_) (fun c3 => ?_)
  · have h := it_t c3 h
    refine G_iconst X (v := (0 : Int32)) dX3_readTries_26 (by decide) ?_
    obtain rfl := Option.some.inj h
    exact hf _ _ dX3_readTries_27 (isb_n (v := (0 : Int32)) rfl)
  · have h := it_f c3 h
    refine G_iconst X (v := (1 : Int32)) dX3_readTries_22 (by decide) ?_
    refine G_goto X (tgt := 27) dX3_readTries_23 (by decide) ?_
    obtain rfl := Option.some.inj h
    exact hf _ _ dX3_readTries_27 (isb_n (v := (1 : Int32)) rfl)
set_option maxRecDepth 20000 in
theorem ct_X3_readTries {l : Launch} {κ : KX}  {x0 : St} {x1 : St} {x2 : St} {ps : Nat → St} {ta : St} {tb : St} {d : St} {S : St} {pg : St} {c : St} {m : St} {ot : St}  {res : St × St × Int32}  (h : sX3_readTries x1 ta = some res) : Ct l κ yX3_readTries cX3_readTries 2 (some .boolean) 2 44 [.ref (xE κ 5 0 0), .ref (xE κ 1 0 0)] ((x0, x1, x2, ps, ta, tb, d, S, pg, c, m, ot)) ((x0, res.1, x2, ps, res.2.1, tb, d, S, pg, c, m, ot)) (some (.int (res.2.2))) := by
  refine Ct_i RX3 rfl (by decide +kernel) (Nat.le_of_ble_eq_true rfl) (fun g hl hκ X hf => ?_)
  subst hl; subst hκ
  exact gX3_readTries X  hf h
set_option maxRecDepth 20000 in
theorem gX3_readMemory {g : GX}  {x0 : St} {x1 : St} {x2 : St} {ps : Nat → St} {ta : St} {tb : St} {d : St} {S : St} {pg : St} {c : St} {m : St} {ot : St}  {res : St × St × Int32} (X : CX g RX3 cX3_readMemory 2 2 44)  (hf : FinI g cX3_readMemory .boolean ((x0, res.1, x2, ps, res.2.1, tb, d, S, pg, c, m, ot)) (res.2.2)) (h : sX3_readMemory x1 ta = some res) : G g 0 0 ((x0, x1, x2, ps, ta, tb, d, S, pg, c, m, ot)) 0 [(0, .ref (xE (gκ g) 5 0 0)), (1, .ref (xE (gκ g) 1 0 0))] [] := by
  unfold sX3_readMemory at h
  refine G_aload_n X 1 dX3_readMemory_0 rfl rfl ?_
  refine G_aload_n X 0 dX3_readMemory_1 rfl rfl ?_
  refine f_X3_12 X rfl rfl dX3_readMemory_2 ?_
  refine G_iconst X (v := (1 : Int32)) dX3_readMemory_5 (by decide) ?_
  refine G_sipush X (v := (999 : Int32)) dX3_readMemory_6 (by decide) ?_
  obtain ⟨q1, hq1, h⟩ := bd_some h
  refine G_callVN X (As := [.int ((1 : Int32)), .int ((999 : Int32))]) (rest := [.ref (xE (gκ g) 1 0 0)]) (T' := (x0, x1, x2, ps, q1.1, tb, d, S, pg, c, m, ot)) (st2 := [.int q1.2, .ref (xE (gκ g) 1 0 0)]) (ct_X4_takeNumber (l := g.2.1) (κ := gκ g) (T := ((x0, x1, x2, ps, ta, tb, d, S, pg, c, m, ot))) (r := 3) (t := ta) rfl hq1) cal_X4_takeNumber nM_X3_82 wI_X4_takeNumber wS_X4_takeNumber rfl rfl (by decide) rfl rfl (Nat.le_of_ble_eq_true rfl) ⟨Nat.zero_le _, Nat.zero_le _⟩ dX3_readMemory_9 rfl ?_
  obtain ⟨z2, ez2, h⟩ := nm_some h
  refine p_X3_94 X (T' := (x0, z2, x2, ps, q1.1, tb, d, S, pg, c, m, ot)) (kd_w0 (Or.inl (by decide))) rfl  (by rw [ez2]; rfl) dX3_readMemory_12 ?_
  refine G_aload_n X 1 dX3_readMemory_15 rfl rfl ?_
  refine f_X3_94 X (kd_w0 (Or.inl (by decide))) rfl dX3_readMemory_16 ?_
  refine G_iconst X (v := (-1 : Int32)) dX3_readMemory_19 (by decide) ?_
  refine G_icmp_eq X (tgt := 27) dX3_readMemory_20 (by decide) (fun c3 => ?_) (fun c3 => ?_)
  · have h := it_t c3 h
    refine G_iconst X (v := (0 : Int32)) dX3_readMemory_27 (by decide) ?_
    obtain rfl := Option.some.inj h
    exact hf _ _ dX3_readMemory_28 (isb_n (v := (0 : Int32)) rfl)
  · have h := it_f c3 h
    refine G_iconst X (v := (1 : Int32)) dX3_readMemory_23 (by decide) ?_
    refine G_goto X (tgt := 28) dX3_readMemory_24 (by decide) ?_
    obtain rfl := Option.some.inj h
    exact hf _ _ dX3_readMemory_28 (isb_n (v := (1 : Int32)) rfl)
set_option maxRecDepth 20000 in
theorem ct_X3_readMemory {l : Launch} {κ : KX}  {x0 : St} {x1 : St} {x2 : St} {ps : Nat → St} {ta : St} {tb : St} {d : St} {S : St} {pg : St} {c : St} {m : St} {ot : St}  {res : St × St × Int32}  (h : sX3_readMemory x1 ta = some res) : Ct l κ yX3_readMemory cX3_readMemory 2 (some .boolean) 2 44 [.ref (xE κ 5 0 0), .ref (xE κ 1 0 0)] ((x0, x1, x2, ps, ta, tb, d, S, pg, c, m, ot)) ((x0, res.1, x2, ps, res.2.1, tb, d, S, pg, c, m, ot)) (some (.int (res.2.2))) := by
  refine Ct_i RX3 rfl (by decide +kernel) (Nat.le_of_ble_eq_true rfl) (fun g hl hκ X hf => ?_)
  subst hl; subst hκ
  exact gX3_readMemory X  hf h
set_option maxRecDepth 20000 in
theorem gX5_find_b2 {g : GX} {T : TT} {r : Nat}  {x : St} {res : Int32}  (X : CX g RX5 cX5_find 4 0 0) (hr : isW r) (hf : FinI g cX5_find .int (rs T r x) (res))  : ∀ (n : Nat) (a1 : Int64) (a3 : Int32) (h : sX5_find_b2 n  x a1 a3 = some res), G g 0 0 (rs T r x) 2 [(0, .ref (xE (gκ g) r 0 0)), (1, .long a1), (3, .int a3)] [] := by
  intro n
  induction n with
  | zero => intro a1 a3 h; unfold sX5_find_b2 at h; cases h
  | succ n ih =>
    intro a1 a3 h
    unfold sX5_find_b2 at h
    refine G_iload_n X 2 dX5_find_2 rfl rfl ?_
    refine G_aload_n X 0 dX5_find_3 rfl rfl ?_
    refine f_X5_25 X (kd_w0 hr) (rg_rs _ _ _) dX5_find_4 ?_
    refine G_icmp_ge X (tgt := 32) dX5_find_7 (by decide) (fun c1 => ?_) (fun c1 => ?_)
    · have h := it_t c1 h
      refine G_iconst X (v := (-1 : Int32)) dX5_find_32 (by decide) ?_
      obtain rfl := Option.some.inj h
      exact hf _ _ dX5_find_33 rfl
    · have h := it_f c1 h
      refine G_aload_n X 0 dX5_find_10 rfl rfl ?_
      refine f_X5_17 X (kd_w0 hr) rfl dX5_find_11 ?_
      refine G_iload_n X 2 dX5_find_14 rfl rfl ?_
      obtain ⟨g2, h⟩ := gd_some h
      refine G_aaldB X (kd_w2 hr) g2 dX5_find_15 ?_
      refine f_X5_57 X (kd_o0 hr (inb_isO (by decide) g2)) (rg_rs _ _ _) dX5_find_16 ?_
      refine G_lload_n X 1 dX5_find_19 rfl rfl ?_
      refine G_lcmp X dX5_find_20 ?_
      refine G_if_ne X (tgt := 26) dX5_find_21 (by decide) (fun c3 => ?_) (fun c3 => ?_)
      · have h := it_t c3 h
        obtain ⟨v4, ev4, h⟩ := nm_some h
        refine G_iinc X (v := v4) (lv' := [(3, .int v4), (0, .ref (xE (gκ g) r 0 0)), (1, .long a1)]) 2 dX5_find_26 rfl (by rw [ev4]; rfl) (by decide) rfl ?_
        refine G_goto X (tgt := 2) dX5_find_29 (by decide) ?_
        refine G_sub [1, 2, 0] rfl ?_
        exact ih _ _ h
      · have h := it_f (fun k => k c3) h
        refine G_iload_n X 2 dX5_find_24 rfl rfl ?_
        obtain rfl := Option.some.inj h
        exact hf _ _ dX5_find_25 rfl
set_option maxRecDepth 20000 in
theorem gX5_find {g : GX} {T : TT} {r : Nat}  {x : St} {a1 : Int64} {res : Int32} (X : CX g RX5 cX5_find 4 0 0) (hr : isW r) (hf : FinI g cX5_find .int (rs T r x) (res)) (h : sX5_find x a1 = some res) : G g 0 0 (rs T r x) 0 [(0, .ref (xE (gκ g) r 0 0)), (1, .long a1)] [] := by
  unfold sX5_find at h
  refine G_iconst X (v := (0 : Int32)) dX5_find_0 (by decide) ?_
  refine G_istore_n X (lv' := [(3, .int ((0 : Int32))), (0, .ref (xE (gκ g) r 0 0)), (1, .long a1)]) dX5_find_1 rfl (by decide) rfl ?_
  refine G_sub [1, 2, 0] rfl ?_
  exact gX5_find_b2 X hr hf FU _ _ h
set_option maxRecDepth 20000 in
theorem ct_X5_find {l : Launch} {κ : KX} {T : TT} {r : Nat}  {x : St} {a1 : Int64} {res : Int32} (hr : isW r) (h : sX5_find x a1 = some res) : Ct l κ yX5_find cX5_find 4 (some .int) 0 0 [.ref (xE κ r 0 0), .long a1] (rs T r x) (rs T r x) (some (.int (res))) := by
  refine Ct_i RX5 rfl (by decide +kernel) (Nat.le_of_ble_eq_true rfl) (fun g hl hκ X hf => ?_)
  subst hl; subst hκ
  exact gX5_find X hr hf h
set_option maxRecDepth 20000 in
theorem gX3_takeNewName {g : GX} {o2 : Nat} {x0 : St} {x1 : St} {x2 : St} {ps : Nat → St} {ta : St} {tb : St} {d : St} {S : St} {pg : St} {c : St} {m : St} {ot : St}  {res : St × St × Int32} (X : CX g RX3 cX3_takeNewName 3 2 43) (ho2 : isO o2) (hf : FinI g cX3_takeNewName .boolean ((x0, res.1, x2, ps, res.2.1, tb, d, S, pg, c, m, ot)) (res.2.2)) (h : sX3_takeNewName o2 x1 ta = some res) : G g 0 0 ((x0, x1, x2, ps, ta, tb, d, S, pg, c, m, ot)) 0 [(0, .ref (xE (gκ g) 5 0 0)), (1, .ref (xE (gκ g) 1 0 0)), (2, .ref (xE (gκ g) 1 o2 0))] [] := by
  unfold sX3_takeNewName at h
  refine G_aload_n X 0 dX3_takeNewName_0 rfl rfl ?_
  refine f_X3_12 X rfl rfl dX3_takeNewName_1 ?_
  refine f_X3_27 X rfl rfl dX3_takeNewName_4 ?_
  refine G_iconst X (v := (1 : Int32)) dX3_takeNewName_7 (by decide) ?_
  refine G_icmp_eq X (tgt := 20) dX3_takeNewName_8 (by decide) (fun c1 => ?_) (fun c1 => ?_)
  · have h := it_t c1 h
    refine G_aload_n X 1 dX3_takeNewName_20 rfl rfl ?_
    refine G_aload_n X 0 dX3_takeNewName_21 rfl rfl ?_
    refine f_X3_12 X rfl rfl dX3_takeNewName_22 ?_
    refine f_X3_140 X rfl rfl dX3_takeNewName_25 ?_
    obtain ⟨q2, hq2, h⟩ := bd_some h
    refine G_callVN X (As := [.long (gL ta 0 0 7)]) (rest := []) (T' := (x0, x1, x2, ps, ta, tb, d, S, pg, c, m, ot)) (st2 := [.int q2]) (ct_X5_find (l := g.2.1) (κ := gκ g) (T := ((x0, x1, x2, ps, ta, tb, d, S, pg, c, m, ot))) (r := 1) (x := x1) (Or.inl (by decide)) hq2) cal_X5_find nM_X3_144 wI_X5_find wS_X5_find (kd_w0 (Or.inl (by decide))) rfl (by decide) rfl rfl (Nat.le_of_ble_eq_true rfl) ⟨Nat.zero_le _, Nat.zero_le _⟩ dX3_takeNewName_28 rfl ?_
    refine G_iconst X (v := (-1 : Int32)) dX3_takeNewName_31 (by decide) ?_
    refine G_icmp_eq X (tgt := 44) dX3_takeNewName_32 (by decide) (fun c3 => ?_) (fun c3 => ?_)
    · have h := it_t c3 h
      refine G_aload_n X 2 dX3_takeNewName_44 rfl rfl ?_
      refine G_aload_n X 0 dX3_takeNewName_45 rfl rfl ?_
      refine f_X3_12 X rfl rfl dX3_takeNewName_46 ?_
      refine f_X3_140 X rfl rfl dX3_takeNewName_49 ?_
      obtain ⟨q4, hq4, h⟩ := bd_some h
      refine G_callVN X (As := [.long (gL ta 0 0 7)]) (rest := []) (T' := (x0, q4, x2, ps, ta, tb, d, S, pg, c, m, ot)) (st2 := []) (ct_X0_begin (l := g.2.1) (κ := gκ g) (T := ((x0, x1, x2, ps, ta, tb, d, S, pg, c, m, ot))) (r := 1) (x := x1) (Or.inl (by decide)) ho2 hq4) cal_X0_begin nM_X3_148 wI_X0_begin wS_X0_begin (kd_o0 (Or.inl (by decide)) ho2) rfl (by decide) rfl rfl (Nat.le_of_ble_eq_true rfl) ⟨Nat.zero_le _, Nat.zero_le _⟩ dX3_takeNewName_52 rfl ?_
      refine G_aload_n X 0 dX3_takeNewName_55 rfl rfl ?_
      refine f_X3_12 X rfl rfl dX3_takeNewName_56 ?_
      obtain ⟨q5, hq5, h⟩ := bd_some h
      refine G_callVN X (As := []) (rest := []) (T' := (x0, q4, x2, ps, q5, tb, d, S, pg, c, m, ot)) (st2 := []) (ct_X4_advance (l := g.2.1) (κ := gκ g) (T := ((x0, q4, x2, ps, ta, tb, d, S, pg, c, m, ot))) (r := 3) (t := ta) rfl hq5) cal_X4_advance nM_X3_79 wI_X4_advance wS_X4_advance rfl rfl (by decide) rfl rfl (Nat.le_of_ble_eq_true rfl) ⟨Nat.zero_le _, Nat.zero_le _⟩ dX3_takeNewName_59 rfl ?_
      refine G_iconst X (v := (1 : Int32)) dX3_takeNewName_62 (by decide) ?_
      obtain rfl := Option.some.inj h
      exact hf _ _ dX3_takeNewName_63 (isb_n (v := (1 : Int32)) rfl)
    · have h := it_f c3 h
      refine G_aload_n X 0 dX3_takeNewName_35 rfl rfl ?_
      refine f_X3_12 X rfl rfl dX3_takeNewName_36 ?_
      refine G_iconst X (v := (3 : Int32)) dX3_takeNewName_39 (by decide) ?_
      obtain ⟨q6, hq6, h⟩ := bd_some h
      refine G_callVN X (As := [.int ((3 : Int32))]) (rest := []) (T' := (x0, x1, x2, ps, q6.1, tb, d, S, pg, c, m, ot)) (st2 := [.int q6.2]) (ct_X4_fail (l := g.2.1) (κ := gκ g) (T := ((x0, x1, x2, ps, ta, tb, d, S, pg, c, m, ot))) (r := 3) (t := ta) rfl hq6) cal_X4_fail nM_X3_76 wI_X4_fail wS_X4_fail rfl rfl (by decide) rfl rfl (Nat.le_of_ble_eq_true rfl) ⟨Nat.zero_le _, Nat.zero_le _⟩ dX3_takeNewName_40 rfl ?_
      obtain ⟨g7, h⟩ := gd_some h
      obtain rfl := Option.some.inj h
      exact hf _ _ dX3_takeNewName_43 (isb_n g7)
  · have h := it_f c1 h
    refine G_aload_n X 0 dX3_takeNewName_11 rfl rfl ?_
    refine f_X3_12 X rfl rfl dX3_takeNewName_12 ?_
    refine G_iconst X (v := (1 : Int32)) dX3_takeNewName_15 (by decide) ?_
    obtain ⟨q8, hq8, h⟩ := bd_some h
    refine G_callVN X (As := [.int ((1 : Int32))]) (rest := []) (T' := (x0, x1, x2, ps, q8.1, tb, d, S, pg, c, m, ot)) (st2 := [.int q8.2]) (ct_X4_fail (l := g.2.1) (κ := gκ g) (T := ((x0, x1, x2, ps, ta, tb, d, S, pg, c, m, ot))) (r := 3) (t := ta) rfl hq8) cal_X4_fail nM_X3_76 wI_X4_fail wS_X4_fail rfl rfl (by decide) rfl rfl (Nat.le_of_ble_eq_true rfl) ⟨Nat.zero_le _, Nat.zero_le _⟩ dX3_takeNewName_16 rfl ?_
    obtain ⟨g9, h⟩ := gd_some h
    obtain rfl := Option.some.inj h
    exact hf _ _ dX3_takeNewName_19 (isb_n g9)
set_option maxRecDepth 20000 in
theorem ct_X3_takeNewName {l : Launch} {κ : KX} {o2 : Nat} {x0 : St} {x1 : St} {x2 : St} {ps : Nat → St} {ta : St} {tb : St} {d : St} {S : St} {pg : St} {c : St} {m : St} {ot : St}  {res : St × St × Int32} (ho2 : isO o2) (h : sX3_takeNewName o2 x1 ta = some res) : Ct l κ yX3_takeNewName cX3_takeNewName 3 (some .boolean) 2 43 [.ref (xE κ 5 0 0), .ref (xE κ 1 0 0), .ref (xE κ 1 o2 0)] ((x0, x1, x2, ps, ta, tb, d, S, pg, c, m, ot)) ((x0, res.1, x2, ps, res.2.1, tb, d, S, pg, c, m, ot)) (some (.int (res.2.2))) := by
  refine Ct_i RX3 rfl (by decide +kernel) (Nat.le_of_ble_eq_true rfl) (fun g hl hκ X hf => ?_)
  subst hl; subst hκ
  exact gX3_takeNewName X ho2 hf h
set_option maxRecDepth 20000 in
theorem gX4_takeWord {g : GX} {T : TT} {r : Nat} {w1 : Nat} {t : St}  {res : St × Int32} (X : CX g RX4 cX4_takeWord 2 5 107) (hr : kd r = kd 3) (hw1 : w1 < nJS) (hf : FinI g cX4_takeWord .boolean (rs T r res.1) (res.2)) (h : sX4_takeWord w1 t = some res) : G g 0 0 (rs T r t) 0 [(0, .ref (xE (gκ g) r 0 0)), (1, .ref ((gκ g).2.2.2.2.1 w1))] [] := by
  unfold sX4_takeWord at h
  refine G_aload_n X 0 dX4_takeWord_0 rfl rfl ?_
  refine G_aload_n X 1 dX4_takeWord_1 rfl rfl ?_
  obtain ⟨q1, hq1, h⟩ := bd_some h
  refine G_callV X (As := [.ref ((gκ g).2.2.2.2.1 w1)]) (rest := []) (T' := rs T r t) (st2 := [.int q1]) (ct_X4_isWord (l := g.2.1) (κ := gκ g) (T := T) (r := r) (t := t) hr hw1 hq1) cal_X4_isWord wM_X4_90 wI_X4_isWord wS_X4_isWord (congrFun (congrFun hr 0) 0) rfl (by decide) rfl rfl (Nat.le_of_ble_eq_true rfl) ⟨Nat.zero_le _, Nat.zero_le _⟩ dX4_takeWord_2 rfl ?_
  refine G_if_ne X (tgt := 14) dX4_takeWord_5 (by decide) (fun c2 => ?_) (fun c2 => ?_)
  · have h := it_t c2 h
    refine G_aload_n X 0 dX4_takeWord_14 rfl rfl ?_
    obtain ⟨q3, hq3, h⟩ := bd_some h
    refine G_callV X (As := []) (rest := []) (T' := rs T r q3) (st2 := []) (ct_X4_advance (l := g.2.1) (κ := gκ g) (T := T) (r := r) (t := t) hr hq3) cal_X4_advance wM_X4_63 wI_X4_advance wS_X4_advance (congrFun (congrFun hr 0) 0) rfl (by decide) rfl rfl (Nat.le_of_ble_eq_true rfl) ⟨Nat.zero_le _, Nat.zero_le _⟩ dX4_takeWord_15 rfl ?_
    refine G_iconst X (v := (1 : Int32)) dX4_takeWord_18 (by decide) ?_
    obtain rfl := Option.some.inj h
    exact hf _ _ dX4_takeWord_19 (isb_n (v := (1 : Int32)) rfl)
  · have h := it_f (fun k => k c2) h
    refine G_aload_n X 0 dX4_takeWord_8 rfl rfl ?_
    refine G_iconst X (v := (1 : Int32)) dX4_takeWord_9 (by decide) ?_
    obtain ⟨q4, hq4, h⟩ := bd_some h
    refine G_callV X (As := [.int ((1 : Int32))]) (rest := []) (T' := rs T r q4.1) (st2 := [.int q4.2]) (ct_X4_fail (l := g.2.1) (κ := gκ g) (T := T) (r := r) (t := t) hr hq4) cal_X4_fail wM_X4_94 wI_X4_fail wS_X4_fail (congrFun (congrFun hr 0) 0) rfl (by decide) rfl rfl (Nat.le_of_ble_eq_true rfl) ⟨Nat.zero_le _, Nat.zero_le _⟩ dX4_takeWord_10 rfl ?_
    obtain ⟨g5, h⟩ := gd_some h
    obtain rfl := Option.some.inj h
    exact hf _ _ dX4_takeWord_13 (isb_n g5)
set_option maxRecDepth 20000 in
theorem ct_X4_takeWord {l : Launch} {κ : KX} {T : TT} {r : Nat} {w1 : Nat} {t : St}  {res : St × Int32} (hr : kd r = kd 3) (hw1 : w1 < nJS) (h : sX4_takeWord w1 t = some res) : Ct l κ yX4_takeWord cX4_takeWord 2 (some .boolean) 5 107 [.ref (xE κ r 0 0), .ref (κ.2.2.2.2.1 w1)] (rs T r t) (rs T r res.1) (some (.int (res.2))) := by
  refine Ct_i RX4 rfl (by decide +kernel) (Nat.le_of_ble_eq_true rfl) (fun g hl hκ X hf => ?_)
  subst hl; subst hκ
  exact gX4_takeWord X hr hw1 hf h
set_option maxRecDepth 20000 in
theorem gX3_readPart {g : GX} {w1 : Nat} {x0 : St} {x1 : St} {x2 : St} {ps : Nat → St} {ta : St} {tb : St} {d : St} {S : St} {pg : St} {c : St} {m : St} {ot : St} {a2 : Int32} {a3 : Int32} {a4 : Int32} {res : St × Int32} (X : CX g RX3 cX3_readPart 5 5 107) (hw1 : w1 < nJS) (hf : FinI g cX3_readPart .int ((x0, x1, x2, ps, res.1, tb, d, S, pg, c, m, ot)) (res.2)) (h : sX3_readPart w1 ta a2 a3 a4 = some res) : G g 0 0 ((x0, x1, x2, ps, ta, tb, d, S, pg, c, m, ot)) 0 [(0, .ref (xE (gκ g) 5 0 0)), (1, .ref ((gκ g).2.2.2.2.1 w1)), (2, .int a2), (3, .int a3), (4, .int a4)] [] := by
  unfold sX3_readPart at h
  refine G_aload_n X 0 dX3_readPart_0 rfl rfl ?_
  refine f_X3_12 X rfl rfl dX3_readPart_1 ?_
  refine G_aload_n X 1 dX3_readPart_4 rfl rfl ?_
  obtain ⟨q1, hq1, h⟩ := bd_some h
  refine G_callVN X (As := [.ref ((gκ g).2.2.2.2.1 w1)]) (rest := []) (T' := (x0, x1, x2, ps, ta, tb, d, S, pg, c, m, ot)) (st2 := [.int q1]) (ct_X4_isWord (l := g.2.1) (κ := gκ g) (T := ((x0, x1, x2, ps, ta, tb, d, S, pg, c, m, ot))) (r := 3) (t := ta) rfl hw1 hq1) cal_X4_isWord nM_X3_40 wI_X4_isWord wS_X4_isWord rfl rfl (by decide) rfl rfl (Nat.le_of_ble_eq_true rfl) ⟨Nat.zero_le _, Nat.zero_le _⟩ dX3_readPart_5 rfl ?_
  refine G_if_ne X (tgt := 14) dX3_readPart_8 (by decide) (fun c2 => ?_) (fun c2 => ?_)
  · have h := it_t c2 h
    refine G_aload_n X 0 dX3_readPart_14 rfl rfl ?_
    refine f_X3_12 X rfl rfl dX3_readPart_15 ?_
    obtain ⟨q3, hq3, h⟩ := bd_some h
    refine G_callVN X (As := []) (rest := []) (T' := (x0, x1, x2, ps, q3, tb, d, S, pg, c, m, ot)) (st2 := []) (ct_X4_advance (l := g.2.1) (κ := gκ g) (T := ((x0, x1, x2, ps, ta, tb, d, S, pg, c, m, ot))) (r := 3) (t := ta) rfl hq3) cal_X4_advance nM_X3_79 wI_X4_advance wS_X4_advance rfl rfl (by decide) rfl rfl (Nat.le_of_ble_eq_true rfl) ⟨Nat.zero_le _, Nat.zero_le _⟩ dX3_readPart_18 rfl ?_
    refine G_aload_n X 0 dX3_readPart_21 rfl rfl ?_
    refine f_X3_12 X rfl rfl dX3_readPart_22 ?_
    refine G_iload_n X 2 dX3_readPart_25 rfl rfl ?_
    refine G_iload_n X 3 dX3_readPart_26 rfl rfl ?_
    obtain ⟨q4, hq4, h⟩ := bd_some h
    refine G_callVN X (As := [.int a2, .int a3]) (rest := []) (T' := (x0, x1, x2, ps, q4.1, tb, d, S, pg, c, m, ot)) (st2 := [.int q4.2]) (ct_X4_takeNumber (l := g.2.1) (κ := gκ g) (T := ((x0, x1, x2, ps, q3, tb, d, S, pg, c, m, ot))) (r := 3) (t := q3) rfl hq4) cal_X4_takeNumber nM_X3_82 wI_X4_takeNumber wS_X4_takeNumber rfl rfl (by decide) rfl rfl (Nat.le_of_ble_eq_true rfl) ⟨Nat.zero_le _, Nat.zero_le _⟩ dX3_readPart_27 rfl ?_
    obtain rfl := Option.some.inj h
    exact hf _ _ dX3_readPart_30 rfl
  · have h := it_f (fun k => k c2) h
    refine G_iload X 4 dX3_readPart_11 rfl ?_
    obtain rfl := Option.some.inj h
    exact hf _ _ dX3_readPart_13 rfl
set_option maxRecDepth 20000 in
theorem ct_X3_readPart {l : Launch} {κ : KX} {w1 : Nat} {x0 : St} {x1 : St} {x2 : St} {ps : Nat → St} {ta : St} {tb : St} {d : St} {S : St} {pg : St} {c : St} {m : St} {ot : St} {a2 : Int32} {a3 : Int32} {a4 : Int32} {res : St × Int32} (hw1 : w1 < nJS) (h : sX3_readPart w1 ta a2 a3 a4 = some res) : Ct l κ yX3_readPart cX3_readPart 5 (some .int) 5 107 [.ref (xE κ 5 0 0), .ref (κ.2.2.2.2.1 w1), .int a2, .int a3, .int a4] ((x0, x1, x2, ps, ta, tb, d, S, pg, c, m, ot)) ((x0, x1, x2, ps, res.1, tb, d, S, pg, c, m, ot)) (some (.int (res.2))) := by
  refine Ct_i RX3 rfl (by decide +kernel) (Nat.le_of_ble_eq_true rfl) (fun g hl hκ X hf => ?_)
  subst hl; subst hκ
  exact gX3_readPart X hw1 hf h
set_option maxRecDepth 20000 in
theorem gX3_readBeacon_b158 {g : GX}  {x0 : St} {x1 : St} {x2 : St} {ps : Nat → St} {ta : St} {tb : St} {d : St} {S : St} {pg : St} {c : St} {m : St} {ot : St} {o2 : Nat} {a3 : Int32} {a4 : Int32} {a5 : Int32} {a6 : Int32} {s0 : Int32} {res : St × St × Int32}  (X : CX g RX3 cX3_readBeacon 8 6 131)  (hf : FinI g cX3_readBeacon .boolean ((x0, res.1, x2, ps, res.2.1, tb, d, S, pg, c, m, ot)) (res.2.2))  (ho2 : isO o2) (h : sX3_readBeacon_b158  x1 ta o2 a3 a4 a5 a6 s0 = some res) : G g 0 0 ((x0, x1, x2, ps, ta, tb, d, S, pg, c, m, ot)) 158 [(1, .ref (xE (gκ g) 1 0 0)), (2, .ref (xE (gκ g) 1 o2 0)), (3, .int a3), (4, .int a4), (5, .int a5), (6, .int a6)] [.int s0] := by
  unfold sX3_readBeacon_b158 at h
  refine G_istore X (lv' := [(7, .int s0), (1, .ref (xE (gκ g) 1 0 0)), (2, .ref (xE (gκ g) 1 o2 0)), (3, .int a3), (4, .int a4), (5, .int a5), (6, .int a6)]) dX3_readBeacon_158 (by decide) rfl ?_
  refine G_iload X 0 dX3_readBeacon_160 rfl ?_
  refine G_iconst X (v := (-1 : Int32)) dX3_readBeacon_162 (by decide) ?_
  refine G_icmp_ne X (tgt := 168) dX3_readBeacon_163 (by decide) (fun c19 => ?_) (fun c19 => ?_)
  · have h := it_t c19 h
    refine G_aload_n X 2 dX3_readBeacon_168 rfl rfl ?_
    refine G_iload_n X 3 dX3_readBeacon_169 rfl rfl ?_
    obtain ⟨z20, ez20, h⟩ := nm_some h
    refine p_X3_124 X (T' := (x0, z20, x2, ps, ta, tb, d, S, pg, c, m, ot)) (kd_o0 (Or.inl (by decide)) ho2) rfl  (by rw [ez20]; rfl) dX3_readBeacon_170 ?_
    refine G_aload_n X 2 dX3_readBeacon_173 rfl rfl ?_
    refine G_iload X 4 dX3_readBeacon_174 rfl ?_
    obtain ⟨z21, ez21, h⟩ := nm_some h
    refine p_X3_129 X (T' := (x0, z21, x2, ps, ta, tb, d, S, pg, c, m, ot)) (kd_o0 (Or.inl (by decide)) ho2) rfl  (by rw [ez21]; rfl) dX3_readBeacon_176 ?_
    refine G_aload_n X 2 dX3_readBeacon_179 rfl rfl ?_
    refine G_iload X 5 dX3_readBeacon_180 rfl ?_
    obtain ⟨z22, ez22, h⟩ := nm_some h
    refine p_X3_132 X (T' := (x0, z22, x2, ps, ta, tb, d, S, pg, c, m, ot)) (kd_o0 (Or.inl (by decide)) ho2) rfl  (by rw [ez22]; rfl) dX3_readBeacon_182 ?_
    refine G_aload_n X 2 dX3_readBeacon_185 rfl rfl ?_
    refine G_iload X 6 dX3_readBeacon_186 rfl ?_
    obtain ⟨z23, ez23, h⟩ := nm_some h
    refine p_X3_135 X (T' := (x0, z23, x2, ps, ta, tb, d, S, pg, c, m, ot)) (kd_o0 (Or.inl (by decide)) ho2) rfl  (by rw [ez23]; rfl) dX3_readBeacon_188 ?_
    refine G_aload_n X 2 dX3_readBeacon_191 rfl rfl ?_
    refine G_iload X 0 dX3_readBeacon_192 rfl ?_
    obtain ⟨z24, ez24, h⟩ := nm_some h
    refine p_X3_138 X (T' := (x0, z24, x2, ps, ta, tb, d, S, pg, c, m, ot)) (kd_o0 (Or.inl (by decide)) ho2) rfl  (by rw [ez24]; rfl) dX3_readBeacon_194 ?_
    refine G_aload_n X 1 dX3_readBeacon_197 rfl rfl ?_
    refine G_dup X dX3_readBeacon_198 rfl ?_
    refine f_X3_96 X (kd_w0 (Or.inl (by decide))) rfl dX3_readBeacon_199 ?_
    refine G_iconst X (v := (1 : Int32)) dX3_readBeacon_202 (by decide) ?_
    refine G_iadd X dX3_readBeacon_203 ?_
    obtain ⟨z25, ez25, h⟩ := nm_some h
    refine p_X3_96 X (T' := (x0, z25, x2, ps, ta, tb, d, S, pg, c, m, ot)) (kd_w0 (Or.inl (by decide))) rfl  (by rw [ez25]; rfl) dX3_readBeacon_204 ?_
    refine G_iconst X (v := (1 : Int32)) dX3_readBeacon_207 (by decide) ?_
    obtain rfl := Option.some.inj h
    exact hf _ _ dX3_readBeacon_208 (isb_n (v := (1 : Int32)) rfl)
  · have h := it_f (fun k => k c19) h
    refine G_iconst X (v := (0 : Int32)) dX3_readBeacon_166 (by decide) ?_
    obtain rfl := Option.some.inj h
    exact hf _ _ dX3_readBeacon_167 (isb_n (v := (0 : Int32)) rfl)
set_option maxRecDepth 20000 in
theorem gX3_readBeacon_b133 {g : GX}  {x0 : St} {x1 : St} {x2 : St} {ps : Nat → St} {ta : St} {tb : St} {d : St} {S : St} {pg : St} {c : St} {m : St} {ot : St} {o2 : Nat} {a3 : Int32} {a4 : Int32} {a5 : Int32} {s0 : Int32} {res : St × St × Int32}  (X : CX g RX3 cX3_readBeacon 8 6 131)  (hf : FinI g cX3_readBeacon .boolean ((x0, res.1, x2, ps, res.2.1, tb, d, S, pg, c, m, ot)) (res.2.2))  (ho2 : isO o2) (h : sX3_readBeacon_b133  x1 ta o2 a3 a4 a5 s0 = some res) : G g 0 0 ((x0, x1, x2, ps, ta, tb, d, S, pg, c, m, ot)) 133 [(0, .ref (xE (gκ g) 5 0 0)), (1, .ref (xE (gκ g) 1 0 0)), (2, .ref (xE (gκ g) 1 o2 0)), (3, .int a3), (4, .int a4), (5, .int a5)] [.int s0] := by
  unfold sX3_readBeacon_b133 at h
  refine G_istore X (lv' := [(6, .int s0), (0, .ref (xE (gκ g) 5 0 0)), (1, .ref (xE (gκ g) 1 0 0)), (2, .ref (xE (gκ g) 1 o2 0)), (3, .int a3), (4, .int a4), (5, .int a5)]) dX3_readBeacon_133 (by decide) rfl ?_
  refine G_iload X 0 dX3_readBeacon_135 rfl ?_
  refine G_iconst X (v := (-1 : Int32)) dX3_readBeacon_137 (by decide) ?_
  refine G_icmp_ne X (tgt := 145) dX3_readBeacon_138 (by decide) (fun c17 => ?_) (fun c17 => ?_)
  · have h := it_t c17 h
    refine G_aload_n X 1 dX3_readBeacon_145 rfl rfl ?_
    refine G_ldcS X (i := 18) (List.mem_of_getElem? (i := 9) rfl) dX3_readBeacon_146 ?_
    refine G_iconst X (v := (1 : Int32)) dX3_readBeacon_148 (by decide) ?_
    refine G_sipush X (v := (999 : Int32)) dX3_readBeacon_149 (by decide) ?_
    refine G_sipush X (v := (999 : Int32)) dX3_readBeacon_152 (by decide) ?_
    obtain ⟨q18, hq18, h⟩ := bd_some h
    refine G_callV X (As := [.ref ((gκ g).2.2.2.2.1 18), .int ((1 : Int32)), .int ((999 : Int32)), .int ((999 : Int32))]) (rest := []) (T' := (x0, x1, x2, ps, q18.1, tb, d, S, pg, c, m, ot)) (st2 := [.int q18.2]) (ct_X3_readPart (l := g.2.1) (κ := gκ g)  (by decide) hq18) cal_X3_readPart wM_X3_114 wI_X3_readPart wS_X3_readPart rfl rfl (by decide) rfl rfl (Nat.le_of_ble_eq_true rfl) ⟨Nat.zero_le _, Nat.zero_le _⟩ dX3_readBeacon_155 rfl ?_
    refine G_sub [2, 3, 4, 5, 6, 0] rfl ?_
    exact gX3_readBeacon_b158 X hf ho2 h
  · have h := it_f (fun k => k c17) h
    refine G_iconst X (v := (-1 : Int32)) dX3_readBeacon_141 (by decide) ?_
    refine G_goto X (tgt := 158) dX3_readBeacon_142 (by decide) ?_
    refine G_sub [2, 3, 4, 5, 6, 0] rfl ?_
    exact gX3_readBeacon_b158 X hf ho2 h
set_option maxRecDepth 20000 in
theorem gX3_readBeacon_b111 {g : GX}  {x0 : St} {x1 : St} {x2 : St} {ps : Nat → St} {ta : St} {tb : St} {d : St} {S : St} {pg : St} {c : St} {m : St} {ot : St} {o2 : Nat} {a3 : Int32} {a4 : Int32} {s0 : Int32} {res : St × St × Int32}  (X : CX g RX3 cX3_readBeacon 8 6 131)  (hf : FinI g cX3_readBeacon .boolean ((x0, res.1, x2, ps, res.2.1, tb, d, S, pg, c, m, ot)) (res.2.2))  (ho2 : isO o2) (h : sX3_readBeacon_b111  x1 ta o2 a3 a4 s0 = some res) : G g 0 0 ((x0, x1, x2, ps, ta, tb, d, S, pg, c, m, ot)) 111 [(0, .ref (xE (gκ g) 5 0 0)), (1, .ref (xE (gκ g) 1 0 0)), (2, .ref (xE (gκ g) 1 o2 0)), (3, .int a3), (4, .int a4)] [.int s0] := by
  unfold sX3_readBeacon_b111 at h
  refine G_istore X (lv' := [(5, .int s0), (0, .ref (xE (gκ g) 5 0 0)), (1, .ref (xE (gκ g) 1 0 0)), (2, .ref (xE (gκ g) 1 o2 0)), (3, .int a3), (4, .int a4)]) dX3_readBeacon_111 (by decide) rfl ?_
  refine G_iload X 0 dX3_readBeacon_113 rfl ?_
  refine G_iconst X (v := (-1 : Int32)) dX3_readBeacon_115 (by decide) ?_
  refine G_icmp_ne X (tgt := 123) dX3_readBeacon_116 (by decide) (fun c15 => ?_) (fun c15 => ?_)
  · have h := it_t c15 h
    refine G_aload_n X 1 dX3_readBeacon_123 rfl rfl ?_
    refine G_ldcS X (i := 3) (List.mem_of_getElem? (i := 8) rfl) dX3_readBeacon_124 ?_
    refine G_iconst X (v := (1 : Int32)) dX3_readBeacon_126 (by decide) ?_
    refine G_bipush X (v := (9 : Int32)) dX3_readBeacon_127 (by decide) ?_
    refine G_iconst X (v := (2 : Int32)) dX3_readBeacon_129 (by decide) ?_
    obtain ⟨q16, hq16, h⟩ := bd_some h
    refine G_callV X (As := [.ref ((gκ g).2.2.2.2.1 3), .int ((1 : Int32)), .int ((9 : Int32)), .int ((2 : Int32))]) (rest := []) (T' := (x0, x1, x2, ps, q16.1, tb, d, S, pg, c, m, ot)) (st2 := [.int q16.2]) (ct_X3_readPart (l := g.2.1) (κ := gκ g)  (by decide) hq16) cal_X3_readPart wM_X3_114 wI_X3_readPart wS_X3_readPart rfl rfl (by decide) rfl rfl (Nat.le_of_ble_eq_true rfl) ⟨Nat.zero_le _, Nat.zero_le _⟩ dX3_readBeacon_130 rfl ?_
    refine G_sub [1, 2, 3, 4, 5, 0] rfl ?_
    exact gX3_readBeacon_b133 X hf ho2 h
  · have h := it_f (fun k => k c15) h
    refine G_iconst X (v := (-1 : Int32)) dX3_readBeacon_119 (by decide) ?_
    refine G_goto X (tgt := 133) dX3_readBeacon_120 (by decide) ?_
    refine G_sub [1, 2, 3, 4, 5, 0] rfl ?_
    exact gX3_readBeacon_b133 X hf ho2 h
set_option maxRecDepth 20000 in
theorem gX3_readBeacon_b89 {g : GX}  {x0 : St} {x1 : St} {x2 : St} {ps : Nat → St} {ta : St} {tb : St} {d : St} {S : St} {pg : St} {c : St} {m : St} {ot : St} {o2 : Nat} {a3 : Int32} {s0 : Int32} {res : St × St × Int32}  (X : CX g RX3 cX3_readBeacon 8 6 131)  (hf : FinI g cX3_readBeacon .boolean ((x0, res.1, x2, ps, res.2.1, tb, d, S, pg, c, m, ot)) (res.2.2))  (ho2 : isO o2) (h : sX3_readBeacon_b89  x1 ta o2 a3 s0 = some res) : G g 0 0 ((x0, x1, x2, ps, ta, tb, d, S, pg, c, m, ot)) 89 [(0, .ref (xE (gκ g) 5 0 0)), (1, .ref (xE (gκ g) 1 0 0)), (2, .ref (xE (gκ g) 1 o2 0)), (3, .int a3)] [.int s0] := by
  unfold sX3_readBeacon_b89 at h
  refine G_istore X (lv' := [(4, .int s0), (0, .ref (xE (gκ g) 5 0 0)), (1, .ref (xE (gκ g) 1 0 0)), (2, .ref (xE (gκ g) 1 o2 0)), (3, .int a3)]) dX3_readBeacon_89 (by decide) rfl ?_
  refine G_iload X 0 dX3_readBeacon_91 rfl ?_
  refine G_iconst X (v := (-1 : Int32)) dX3_readBeacon_93 (by decide) ?_
  refine G_icmp_ne X (tgt := 101) dX3_readBeacon_94 (by decide) (fun c13 => ?_) (fun c13 => ?_)
  · have h := it_t c13 h
    refine G_aload_n X 1 dX3_readBeacon_101 rfl rfl ?_
    refine G_ldcS X (i := 1) (List.mem_of_getElem? (i := 7) rfl) dX3_readBeacon_102 ?_
    refine G_iconst X (v := (1 : Int32)) dX3_readBeacon_104 (by decide) ?_
    refine G_bipush X (v := (9 : Int32)) dX3_readBeacon_105 (by decide) ?_
    refine G_iconst X (v := (2 : Int32)) dX3_readBeacon_107 (by decide) ?_
    obtain ⟨q14, hq14, h⟩ := bd_some h
    refine G_callV X (As := [.ref ((gκ g).2.2.2.2.1 1), .int ((1 : Int32)), .int ((9 : Int32)), .int ((2 : Int32))]) (rest := []) (T' := (x0, x1, x2, ps, q14.1, tb, d, S, pg, c, m, ot)) (st2 := [.int q14.2]) (ct_X3_readPart (l := g.2.1) (κ := gκ g)  (by decide) hq14) cal_X3_readPart wM_X3_114 wI_X3_readPart wS_X3_readPart rfl rfl (by decide) rfl rfl (Nat.le_of_ble_eq_true rfl) ⟨Nat.zero_le _, Nat.zero_le _⟩ dX3_readBeacon_108 rfl ?_
    refine G_sub [1, 2, 3, 4, 0] rfl ?_
    exact gX3_readBeacon_b111 X hf ho2 h
  · have h := it_f (fun k => k c13) h
    refine G_iconst X (v := (-1 : Int32)) dX3_readBeacon_97 (by decide) ?_
    refine G_goto X (tgt := 111) dX3_readBeacon_98 (by decide) ?_
    refine G_sub [1, 2, 3, 4, 0] rfl ?_
    exact gX3_readBeacon_b111 X hf ho2 h
set_option maxRecDepth 20000 in
theorem gX3_readBeacon {g : GX}  {x0 : St} {x1 : St} {x2 : St} {ps : Nat → St} {ta : St} {tb : St} {d : St} {S : St} {pg : St} {c : St} {m : St} {ot : St}  {res : St × St × Int32} (X : CX g RX3 cX3_readBeacon 8 6 131)  (hf : FinI g cX3_readBeacon .boolean ((x0, res.1, x2, ps, res.2.1, tb, d, S, pg, c, m, ot)) (res.2.2)) (h : sX3_readBeacon x1 ta = some res) : G g 0 0 ((x0, x1, x2, ps, ta, tb, d, S, pg, c, m, ot)) 0 [(0, .ref (xE (gκ g) 5 0 0)), (1, .ref (xE (gκ g) 1 0 0))] [] := by
  unfold sX3_readBeacon at h
  refine G_aload_n X 1 dX3_readBeacon_0 rfl rfl ?_
  refine f_X3_96 X (kd_w0 (Or.inl (by decide))) rfl dX3_readBeacon_1 ?_
  refine G_bipush X (v := (8 : Int32)) dX3_readBeacon_4 (by decide) ?_
  refine G_icmp_lt X (tgt := 18) dX3_readBeacon_6 (by decide) (fun c1 => ?_) (fun c1 => ?_)
  · have h := it_t c1 h
    refine G_aload_n X 1 dX3_readBeacon_18 rfl rfl ?_
    refine f_X3_99 X (kd_w0 (Or.inl (by decide))) rfl dX3_readBeacon_19 ?_
    refine G_aload_n X 1 dX3_readBeacon_22 rfl rfl ?_
    refine f_X3_96 X (kd_w0 (Or.inl (by decide))) rfl dX3_readBeacon_23 ?_
    obtain ⟨g2, h⟩ := gd_some h
    refine G_aaldB X (kd_w2 (Or.inl (by decide))) g2 dX3_readBeacon_26 ?_
    refine G_astore_n X (lv' := [(2, .ref (xE (gκ g) 1 (ix (gI x1 0 0 2) + 1) 0)), (0, .ref (xE (gκ g) 5 0 0)), (1, .ref (xE (gκ g) 1 0 0))]) dX3_readBeacon_27 rfl (by decide) rfl ?_
    refine G_aload_n X 1 dX3_readBeacon_28 rfl rfl ?_
    refine f_X3_12 X rfl rfl dX3_readBeacon_29 ?_
    obtain ⟨q3, hq3, h⟩ := bd_some h
    refine G_callVN X (As := []) (rest := []) (T' := (x0, x1, x2, ps, q3, tb, d, S, pg, c, m, ot)) (st2 := []) (ct_X4_advance (l := g.2.1) (κ := gκ g) (T := ((x0, x1, x2, ps, ta, tb, d, S, pg, c, m, ot))) (r := 3) (t := ta) rfl hq3) cal_X4_advance nM_X3_79 wI_X4_advance wS_X4_advance rfl rfl (by decide) rfl rfl (Nat.le_of_ble_eq_true rfl) ⟨Nat.zero_le _, Nat.zero_le _⟩ dX3_readBeacon_32 rfl ?_
    refine G_aload_n X 1 dX3_readBeacon_35 rfl rfl ?_
    refine G_aload_n X 2 dX3_readBeacon_36 rfl rfl ?_
    refine G_aload_n X 0 dX3_readBeacon_37 rfl rfl ?_
    obtain ⟨q4, hq4, h⟩ := bd_some h
    refine G_callV X (As := [.ref (xE (gκ g) 1 0 0), .ref (xE (gκ g) 1 (ix (gI x1 0 0 2) + 1) 0)]) (rest := []) (T' := (x0, q4.1, x2, ps, q4.2.1, tb, d, S, pg, c, m, ot)) (st2 := [.int q4.2.2]) (ct_X3_takeNewName (l := g.2.1) (κ := gκ g)  (inb_isO (by decide) g2) hq4) cal_X3_takeNewName wM_X3_103 wI_X3_takeNewName wS_X3_takeNewName rfl rfl (by decide) rfl rfl (Nat.le_of_ble_eq_true rfl) ⟨Nat.zero_le _, Nat.zero_le _⟩ dX3_readBeacon_38 rfl ?_
    refine G_if_eq X (tgt := 56) dX3_readBeacon_41 (by decide) (fun c5 => ?_) (fun c5 => ?_)
    · have h := it_t c5 h
      refine G_iconst X (v := (0 : Int32)) dX3_readBeacon_56 (by decide) ?_
      obtain rfl := Option.some.inj h
      exact hf _ _ dX3_readBeacon_57 (isb_n (v := (0 : Int32)) rfl)
    · have h := it_f c5 h
      refine G_aload_n X 1 dX3_readBeacon_44 rfl rfl ?_
      refine f_X3_12 X rfl rfl dX3_readBeacon_45 ?_
      refine G_ldcS X (i := 7) (List.mem_of_getElem? (i := 5) rfl) dX3_readBeacon_48 ?_
      obtain ⟨q6, hq6, h⟩ := bd_some h
      refine G_callVN X (As := [.ref ((gκ g).2.2.2.2.1 7)]) (rest := []) (T' := (x0, q4.1, x2, ps, q6.1, tb, d, S, pg, c, m, ot)) (st2 := [.int q6.2]) (ct_X4_takeWord (l := g.2.1) (κ := gκ g) (T := ((x0, q4.1, x2, ps, q4.2.1, tb, d, S, pg, c, m, ot))) (r := 3) (t := q4.2.1) rfl (by decide) hq6) cal_X4_takeWord nM_X3_109 wI_X4_takeWord wS_X4_takeWord rfl rfl (by decide) rfl rfl (Nat.le_of_ble_eq_true rfl) ⟨Nat.zero_le _, Nat.zero_le _⟩ dX3_readBeacon_50 rfl ?_
      refine G_if_ne X (tgt := 58) dX3_readBeacon_53 (by decide) (fun c7 => ?_) (fun c7 => ?_)
      · have h := it_t c7 h
        refine G_aload_n X 1 dX3_readBeacon_58 rfl rfl ?_
        refine f_X3_12 X rfl rfl dX3_readBeacon_59 ?_
        refine G_iconst X (v := (2 : Int32)) dX3_readBeacon_62 (by decide) ?_
        refine G_bipush X (v := (99 : Int32)) dX3_readBeacon_63 (by decide) ?_
        obtain ⟨q8, hq8, h⟩ := bd_some h
        refine G_callVN X (As := [.int ((2 : Int32)), .int ((99 : Int32))]) (rest := []) (T' := (x0, q4.1, x2, ps, q8.1, tb, d, S, pg, c, m, ot)) (st2 := [.int q8.2]) (ct_X4_takeNumber (l := g.2.1) (κ := gκ g) (T := ((x0, q4.1, x2, ps, q6.1, tb, d, S, pg, c, m, ot))) (r := 3) (t := q6.1) rfl hq8) cal_X4_takeNumber nM_X3_82 wI_X4_takeNumber wS_X4_takeNumber rfl rfl (by decide) rfl rfl (Nat.le_of_ble_eq_true rfl) ⟨Nat.zero_le _, Nat.zero_le _⟩ dX3_readBeacon_65 rfl ?_
        refine G_istore_n X (lv' := [(3, .int q8.2), (2, .ref (xE (gκ g) 1 (ix (gI x1 0 0 2) + 1) 0)), (0, .ref (xE (gκ g) 5 0 0)), (1, .ref (xE (gκ g) 1 0 0))]) dX3_readBeacon_68 rfl (by decide) rfl ?_
        refine G_iload_n X 0 dX3_readBeacon_69 rfl rfl ?_
        refine G_iconst X (v := (-1 : Int32)) dX3_readBeacon_70 (by decide) ?_
        refine G_icmp_ne X (tgt := 78) dX3_readBeacon_71 (by decide) (fun c9 => ?_) (fun c9 => ?_)
        · have h := it_t c9 h
          refine G_aload_n X 2 dX3_readBeacon_78 rfl rfl ?_
          refine G_ldcS X (i := 8) (List.mem_of_getElem? (i := 6) rfl) dX3_readBeacon_79 ?_
          refine G_iconst X (v := (0 : Int32)) dX3_readBeacon_81 (by decide) ?_
          refine G_iload_n X 0 dX3_readBeacon_82 rfl rfl ?_
          refine G_iconst X (v := (1 : Int32)) dX3_readBeacon_83 (by decide) ?_
          refine G_isub X dX3_readBeacon_84 ?_
          refine G_iconst X (v := (0 : Int32)) dX3_readBeacon_85 (by decide) ?_
          obtain ⟨q10, hq10, h⟩ := bd_some h
          refine G_callV X (As := [.ref ((gκ g).2.2.2.2.1 8), .int ((0 : Int32)), .int (q8.2 - ((1 : Int32))), .int ((0 : Int32))]) (rest := []) (T' := (x0, q4.1, x2, ps, q10.1, tb, d, S, pg, c, m, ot)) (st2 := [.int q10.2]) (ct_X3_readPart (l := g.2.1) (κ := gκ g)  (by decide) hq10) cal_X3_readPart wM_X3_114 wI_X3_readPart wS_X3_readPart rfl rfl (by decide) rfl rfl (Nat.le_of_ble_eq_true rfl) ⟨Nat.zero_le _, Nat.zero_le _⟩ dX3_readBeacon_86 rfl ?_
          refine G_sub [2, 3, 1, 0] rfl ?_
          exact gX3_readBeacon_b89 X hf (inb_isO (by decide) g2) h
        · have h := it_f (fun k => k c9) h
          refine G_iconst X (v := (-1 : Int32)) dX3_readBeacon_74 (by decide) ?_
          refine G_goto X (tgt := 89) dX3_readBeacon_75 (by decide) ?_
          refine G_sub [2, 3, 1, 0] rfl ?_
          exact gX3_readBeacon_b89 X hf (inb_isO (by decide) g2) h
      · have h := it_f (fun k => k c7) h
        refine G_iconst X (v := (0 : Int32)) dX3_readBeacon_56 (by decide) ?_
        obtain rfl := Option.some.inj h
        exact hf _ _ dX3_readBeacon_57 (isb_n (v := (0 : Int32)) rfl)
  · have h := it_f c1 h
    refine G_aload_n X 0 dX3_readBeacon_9 rfl rfl ?_
    refine f_X3_12 X rfl rfl dX3_readBeacon_10 ?_
    refine G_iconst X (v := (5 : Int32)) dX3_readBeacon_13 (by decide) ?_
    obtain ⟨q11, hq11, h⟩ := bd_some h
    refine G_callVN X (As := [.int ((5 : Int32))]) (rest := []) (T' := (x0, x1, x2, ps, q11.1, tb, d, S, pg, c, m, ot)) (st2 := [.int q11.2]) (ct_X4_fail (l := g.2.1) (κ := gκ g) (T := ((x0, x1, x2, ps, ta, tb, d, S, pg, c, m, ot))) (r := 3) (t := ta) rfl hq11) cal_X4_fail nM_X3_76 wI_X4_fail wS_X4_fail rfl rfl (by decide) rfl rfl (Nat.le_of_ble_eq_true rfl) ⟨Nat.zero_le _, Nat.zero_le _⟩ dX3_readBeacon_14 rfl ?_
    obtain ⟨g12, h⟩ := gd_some h
    obtain rfl := Option.some.inj h
    exact hf _ _ dX3_readBeacon_17 (isb_n g12)
set_option maxRecDepth 20000 in
theorem ct_X3_readBeacon {l : Launch} {κ : KX}  {x0 : St} {x1 : St} {x2 : St} {ps : Nat → St} {ta : St} {tb : St} {d : St} {S : St} {pg : St} {c : St} {m : St} {ot : St}  {res : St × St × Int32}  (h : sX3_readBeacon x1 ta = some res) : Ct l κ yX3_readBeacon cX3_readBeacon 8 (some .boolean) 6 131 [.ref (xE κ 5 0 0), .ref (xE κ 1 0 0)] ((x0, x1, x2, ps, ta, tb, d, S, pg, c, m, ot)) ((x0, res.1, x2, ps, res.2.1, tb, d, S, pg, c, m, ot)) (some (.int (res.2.2))) := by
  refine Ct_i RX3 rfl (by decide +kernel) (Nat.le_of_ble_eq_true rfl) (fun g hl hκ X hf => ?_)
  subst hl; subst hκ
  exact gX3_readBeacon X  hf h
set_option maxRecDepth 20000 in
theorem gX4_beaconHere {g : GX} {T : TT} {r : Nat} {r2 : Nat} {y : St}  {t : St}  {res : St × Int32} (X : CX g RX4 cX4_beaconHere 3 1 23) (hr : kd r = kd 3) (hr2 : isW r2) (hne : r2 ≠ r) (hy : rg T r2 = y) (hf : FinI g cX4_beaconHere .int (rs T r res.1) (res.2)) (h : sX4_beaconHere y t = some res) : G g 0 0 (rs T r t) 0 [(0, .ref (xE (gκ g) r 0 0)), (1, .ref (xE (gκ g) r2 0 0))] [] := by
  unfold sX4_beaconHere at h
  refine G_aload_n X 0 dX4_beaconHere_0 rfl rfl ?_
  refine f_X4_66 X (congrFun (congrFun hr 0) 0) (rg_rs _ _ _) dX4_beaconHere_1 ?_
  refine G_iconst X (v := (1 : Int32)) dX4_beaconHere_4 (by decide) ?_
  refine G_icmp_eq X (tgt := 16) dX4_beaconHere_5 (by decide) (fun c1 => ?_) (fun c1 => ?_)
  · have h := it_t c1 h
    refine G_aload_n X 1 dX4_beaconHere_16 rfl rfl ?_
    refine G_aload_n X 0 dX4_beaconHere_17 rfl rfl ?_
    refine f_X4_72 X (congrFun (congrFun hr 0) 0) (rg_rs _ _ _) dX4_beaconHere_18 ?_
    obtain ⟨q2, hq2, h⟩ := bd_some h
    have e3 := rs_self (show rg (rs T r t) r2 = y from by rw [rg_rs_ne _ _ hne]; exact hy)
    have m4 := ct_X5_find (l := g.2.1) (κ := gκ g) (T := rs T r t) (r := r2) (x := y) hr2 hq2
    rw [e3] at m4
    refine G_callVN X (As := [.long (gL t 0 0 7)]) (rest := []) (T' := rs T r t) (st2 := [.int q2]) m4 cal_X5_find nM_X4_97 wI_X5_find wS_X5_find (kd_w0 hr2) rfl (by decide) rfl rfl (Nat.le_of_ble_eq_true rfl) ⟨Nat.zero_le _, Nat.zero_le _⟩ dX4_beaconHere_21 rfl ?_
    refine G_istore_n X (lv' := [(2, .int q2), (0, .ref (xE (gκ g) r 0 0)), (1, .ref (xE (gκ g) r2 0 0))]) dX4_beaconHere_24 rfl (by decide) rfl ?_
    refine G_iload_n X 0 dX4_beaconHere_25 rfl rfl ?_
    refine G_iconst X (v := (-1 : Int32)) dX4_beaconHere_26 (by decide) ?_
    refine G_icmp_ne X (tgt := 36) dX4_beaconHere_27 (by decide) (fun c5 => ?_) (fun c5 => ?_)
    · have h := it_t c5 h
      refine G_iload_n X 0 dX4_beaconHere_36 rfl rfl ?_
      obtain rfl := Option.some.inj h
      exact hf _ _ dX4_beaconHere_37 rfl
    · have h := it_f (fun k => k c5) h
      refine G_aload_n X 1 dX4_beaconHere_30 rfl rfl ?_
      refine G_iconst X (v := (4 : Int32)) dX4_beaconHere_31 (by decide) ?_
      obtain ⟨q6, hq6, h⟩ := bd_some h
      refine G_callV X (As := [.int ((4 : Int32))]) (rest := []) (T' := rs T r q6.1) (st2 := [.int q6.2]) (ct_X4_fail (l := g.2.1) (κ := gκ g) (T := T) (r := r) (t := t) hr hq6) cal_X4_fail wM_X4_94 wI_X4_fail wS_X4_fail (congrFun (congrFun hr 0) 0) rfl (by decide) rfl rfl (Nat.le_of_ble_eq_true rfl) ⟨Nat.zero_le _, Nat.zero_le _⟩ dX4_beaconHere_32 rfl ?_
      refine G_pop X dX4_beaconHere_35 rfl ?_
      refine G_iload_n X 0 dX4_beaconHere_36 rfl rfl ?_
      obtain rfl := Option.some.inj h
      exact hf _ _ dX4_beaconHere_37 rfl
  · have h := it_f c1 h
    refine G_aload_n X 0 dX4_beaconHere_8 rfl rfl ?_
    refine G_iconst X (v := (1 : Int32)) dX4_beaconHere_9 (by decide) ?_
    obtain ⟨q7, hq7, h⟩ := bd_some h
    refine G_callV X (As := [.int ((1 : Int32))]) (rest := []) (T' := rs T r q7.1) (st2 := [.int q7.2]) (ct_X4_fail (l := g.2.1) (κ := gκ g) (T := T) (r := r) (t := t) hr hq7) cal_X4_fail wM_X4_94 wI_X4_fail wS_X4_fail (congrFun (congrFun hr 0) 0) rfl (by decide) rfl rfl (Nat.le_of_ble_eq_true rfl) ⟨Nat.zero_le _, Nat.zero_le _⟩ dX4_beaconHere_10 rfl ?_
    refine G_pop X dX4_beaconHere_13 rfl ?_
    refine G_iconst X (v := (-1 : Int32)) dX4_beaconHere_14 (by decide) ?_
    obtain rfl := Option.some.inj h
    exact hf _ _ dX4_beaconHere_15 rfl
set_option maxRecDepth 20000 in
theorem ct_X4_beaconHere {l : Launch} {κ : KX} {T : TT} {r : Nat} {r2 : Nat} {y : St}  {t : St}  {res : St × Int32} (hr : kd r = kd 3) (hr2 : isW r2) (hne : r2 ≠ r) (hy : rg T r2 = y) (h : sX4_beaconHere y t = some res) : Ct l κ yX4_beaconHere cX4_beaconHere 3 (some .int) 1 23 [.ref (xE κ r 0 0), .ref (xE κ r2 0 0)] (rs T r t) (rs T r res.1) (some (.int (res.2))) := by
  refine Ct_i RX4 rfl (by decide +kernel) (Nat.le_of_ble_eq_true rfl) (fun g hl hκ X hf => ?_)
  subst hl; subst hκ
  exact gX4_beaconHere X hr hr2 hne hy hf h
set_option maxRecDepth 20000 in
theorem gX6_isIn {g : GX} {T : TT}   {a0 : Int32} {a1 : Int32} {res : Int32} (X : CX g RX6 cX6_isIn 2 0 0)  (hf : FinI g cX6_isIn .boolean (T) (res)) (h : sX6_isIn a0 a1 = some res) : G g 0 0 (T) 0 [(0, .int a0), (1, .int a1)] [] := by
  unfold sX6_isIn at h
  refine G_iload_n X 0 dX6_isIn_0 rfl rfl ?_
  refine G_iload_n X 1 dX6_isIn_1 rfl rfl ?_
  refine G_ishr X dX6_isIn_2 ?_
  refine G_iconst X (v := (1 : Int32)) dX6_isIn_3 (by decide) ?_
  refine G_iand X dX6_isIn_4 ?_
  refine G_if_eq X (tgt := 12) dX6_isIn_5 (by decide) (fun c1 => ?_) (fun c1 => ?_)
  · have h := it_t c1 h
    refine G_iconst X (v := (0 : Int32)) dX6_isIn_12 (by decide) ?_
    obtain rfl := Option.some.inj h
    exact hf _ _ dX6_isIn_13 (isb_n (v := (0 : Int32)) rfl)
  · have h := it_f c1 h
    refine G_iconst X (v := (1 : Int32)) dX6_isIn_8 (by decide) ?_
    refine G_goto X (tgt := 13) dX6_isIn_9 (by decide) ?_
    obtain rfl := Option.some.inj h
    exact hf _ _ dX6_isIn_13 (isb_n (v := (1 : Int32)) rfl)
set_option maxRecDepth 20000 in
theorem ct_X6_isIn {l : Launch} {κ : KX} {T : TT}   {a0 : Int32} {a1 : Int32} {res : Int32}  (h : sX6_isIn a0 a1 = some res) : Ct l κ yX6_isIn cX6_isIn 2 (some .boolean) 0 0 [.int a0, .int a1] (T) (T) (some (.int (res))) := by
  refine Ct_i RX6 rfl (by decide +kernel) (Nat.le_of_ble_eq_true rfl) (fun g hl hκ X hf => ?_)
  subst hl; subst hκ
  exact gX6_isIn X  hf h
set_option maxRecDepth 20000 in
theorem gX5_switchNear {g : GX} {T : TT} {r : Nat}  {x : St} {a1 : Int32} {a2 : Int32} {res : St} (X : CX g RX5 cX5_switchNear 3 0 0) (hr : isW r) (hf : FinV g cX5_switchNear (rs T r res)) (h : sX5_switchNear x a1 a2 = some res) : G g 0 0 (rs T r x) 0 [(0, .ref (xE (gκ g) r 0 0)), (1, .int a1), (2, .int a2)] [] := by
  unfold sX5_switchNear at h
  refine G_aload_n X 0 dX5_switchNear_0 rfl rfl ?_
  refine f_X5_17 X (kd_w0 hr) rfl dX5_switchNear_1 ?_
  refine G_iload_n X 1 dX5_switchNear_4 rfl rfl ?_
  obtain ⟨g1, h⟩ := gd_some h
  refine G_aaldB X (kd_w2 hr) g1 dX5_switchNear_5 ?_
  refine G_dup X dX5_switchNear_6 rfl ?_
  refine f_X5_61 X (kd_o0 hr (inb_isO (by decide) g1)) (rg_rs _ _ _) dX5_switchNear_7 ?_
  refine G_iconst X (v := (1 : Int32)) dX5_switchNear_10 (by decide) ?_
  refine G_iload_n X 2 dX5_switchNear_11 rfl rfl ?_
  refine G_ishl X dX5_switchNear_12 ?_
  refine G_ixor X dX5_switchNear_13 ?_
  obtain ⟨v2, ev2, h⟩ := nm_some h
  refine G_nmi ev2 ?_
  obtain ⟨z3, ez3, h⟩ := nm_some h
  refine p_X5_61 X (T' := rs T r z3) (kd_o0 hr (inb_isO (by decide) g1)) (rg_rs _ _ _)  (by rw [rs_rs, ez3]) dX5_switchNear_14 ?_
  refine G_aload_n X 0 dX5_switchNear_17 rfl rfl ?_
  refine f_X5_17 X (kd_w0 hr) rfl dX5_switchNear_18 ?_
  refine G_iload_n X 2 dX5_switchNear_21 rfl rfl ?_
  obtain ⟨g4, h⟩ := gd_some h
  refine G_aaldB X (kd_w2 hr) g4 dX5_switchNear_22 ?_
  refine G_dup X dX5_switchNear_23 rfl ?_
  refine f_X5_61 X (kd_o0 hr (inb_isO (by decide) g4)) (rg_rs _ _ _) dX5_switchNear_24 ?_
  refine G_iconst X (v := (1 : Int32)) dX5_switchNear_27 (by decide) ?_
  refine G_iload_n X 1 dX5_switchNear_28 rfl rfl ?_
  refine G_ishl X dX5_switchNear_29 ?_
  refine G_ixor X dX5_switchNear_30 ?_
  obtain ⟨v5, ev5, h⟩ := nm_some h
  refine G_nmi ev5 ?_
  obtain ⟨z6, ez6, h⟩ := nm_some h
  refine p_X5_61 X (T' := rs T r z6) (kd_o0 hr (inb_isO (by decide) g4)) (rg_rs _ _ _)  (by rw [rs_rs, ez6]) dX5_switchNear_31 ?_
  obtain rfl := Option.some.inj h
  exact hf _ _ dX5_switchNear_34
set_option maxRecDepth 20000 in
theorem ct_X5_switchNear {l : Launch} {κ : KX} {T : TT} {r : Nat}  {x : St} {a1 : Int32} {a2 : Int32} {res : St} (hr : isW r) (h : sX5_switchNear x a1 a2 = some res) : Ct l κ yX5_switchNear cX5_switchNear 3 none 0 0 [.ref (xE κ r 0 0), .int a1, .int a2] (rs T r x) (rs T r res) none := by
  refine Ct_v RX5 rfl (by decide +kernel) (Nat.le_of_ble_eq_true rfl) (fun g hl hκ X hf => ?_)
  subst hl; subst hκ
  exact gX5_switchNear X hr hf h
set_option maxRecDepth 20000 in
theorem gX3_readNear_b67 {g : GX}  {x0 : St} {x1 : St} {x2 : St} {ps : Nat → St} {ta : St} {tb : St} {d : St} {S : St} {pg : St} {c : St} {m : St} {ot : St}  {res : St × St × Int32}  (X : CX g RX3 cX3_readNear 4 2 45)  (hf : FinI g cX3_readNear .boolean ((x0, res.1, x2, ps, res.2.1, tb, d, S, pg, c, m, ot)) (res.2.2))   (h : sX3_readNear_b67  x1 ta = some res) : G g 0 0 ((x0, x1, x2, ps, ta, tb, d, S, pg, c, m, ot)) 67 [(0, .ref (xE (gκ g) 5 0 0))] [] := by
  unfold sX3_readNear_b67 at h
  refine G_aload_n X 0 dX3_readNear_67 rfl rfl ?_
  refine f_X3_12 X rfl rfl dX3_readNear_68 ?_
  refine G_iconst X (v := (3 : Int32)) dX3_readNear_71 (by decide) ?_
  obtain ⟨q13, hq13, h⟩ := bd_some h
  refine G_callVN X (As := [.int ((3 : Int32))]) (rest := []) (T' := (x0, x1, x2, ps, q13.1, tb, d, S, pg, c, m, ot)) (st2 := [.int q13.2]) (ct_X4_fail (l := g.2.1) (κ := gκ g) (T := ((x0, x1, x2, ps, ta, tb, d, S, pg, c, m, ot))) (r := 3) (t := ta) rfl hq13) cal_X4_fail nM_X3_76 wI_X4_fail wS_X4_fail rfl rfl (by decide) rfl rfl (Nat.le_of_ble_eq_true rfl) ⟨Nat.zero_le _, Nat.zero_le _⟩ dX3_readNear_72 rfl ?_
  obtain ⟨g14, h⟩ := gd_some h
  obtain rfl := Option.some.inj h
  exact hf _ _ dX3_readNear_75 (isb_n g14)
set_option maxRecDepth 20000 in
theorem gX3_readNear {g : GX}  {x0 : St} {x1 : St} {x2 : St} {ps : Nat → St} {ta : St} {tb : St} {d : St} {S : St} {pg : St} {c : St} {m : St} {ot : St}  {res : St × St × Int32} (X : CX g RX3 cX3_readNear 4 2 45)  (hf : FinI g cX3_readNear .boolean ((x0, res.1, x2, ps, res.2.1, tb, d, S, pg, c, m, ot)) (res.2.2)) (h : sX3_readNear x1 ta = some res) : G g 0 0 ((x0, x1, x2, ps, ta, tb, d, S, pg, c, m, ot)) 0 [(0, .ref (xE (gκ g) 5 0 0)), (1, .ref (xE (gκ g) 1 0 0))] [] := by
  unfold sX3_readNear at h
  refine G_aload_n X 0 dX3_readNear_0 rfl rfl ?_
  refine f_X3_12 X rfl rfl dX3_readNear_1 ?_
  obtain ⟨q1, hq1, h⟩ := bd_some h
  refine G_callVN X (As := []) (rest := []) (T' := (x0, x1, x2, ps, q1, tb, d, S, pg, c, m, ot)) (st2 := []) (ct_X4_advance (l := g.2.1) (κ := gκ g) (T := ((x0, x1, x2, ps, ta, tb, d, S, pg, c, m, ot))) (r := 3) (t := ta) rfl hq1) cal_X4_advance nM_X3_79 wI_X4_advance wS_X4_advance rfl rfl (by decide) rfl rfl (Nat.le_of_ble_eq_true rfl) ⟨Nat.zero_le _, Nat.zero_le _⟩ dX3_readNear_4 rfl ?_
  refine G_aload_n X 0 dX3_readNear_7 rfl rfl ?_
  refine f_X3_12 X rfl rfl dX3_readNear_8 ?_
  refine G_aload_n X 1 dX3_readNear_11 rfl rfl ?_
  obtain ⟨q2, hq2, h⟩ := bd_some h
  refine G_callVN X (As := [.ref (xE (gκ g) 1 0 0)]) (rest := []) (T' := (x0, x1, x2, ps, q2.1, tb, d, S, pg, c, m, ot)) (st2 := [.int q2.2]) (ct_X4_beaconHere (l := g.2.1) (κ := gκ g) (T := ((x0, x1, x2, ps, q1, tb, d, S, pg, c, m, ot))) (r := 3) (t := q1) (r2 := 1) rfl (Or.inl (by decide)) (by decide) rfl hq2) cal_X4_beaconHere nM_X3_152 wI_X4_beaconHere wS_X4_beaconHere rfl rfl (by decide) rfl rfl (Nat.le_of_ble_eq_true rfl) ⟨Nat.zero_le _, Nat.zero_le _⟩ dX3_readNear_12 rfl ?_
  refine G_istore_n X (lv' := [(2, .int q2.2), (0, .ref (xE (gκ g) 5 0 0)), (1, .ref (xE (gκ g) 1 0 0))]) dX3_readNear_15 rfl (by decide) rfl ?_
  refine G_iload_n X 0 dX3_readNear_16 rfl rfl ?_
  refine G_iconst X (v := (-1 : Int32)) dX3_readNear_17 (by decide) ?_
  refine G_icmp_ne X (tgt := 23) dX3_readNear_18 (by decide) (fun c3 => ?_) (fun c3 => ?_)
  · have h := it_t c3 h
    refine G_aload_n X 1 dX3_readNear_23 rfl rfl ?_
    refine f_X3_12 X rfl rfl dX3_readNear_24 ?_
    obtain ⟨q4, hq4, h⟩ := bd_some h
    refine G_callVN X (As := []) (rest := []) (T' := (x0, x1, x2, ps, q4, tb, d, S, pg, c, m, ot)) (st2 := []) (ct_X4_advance (l := g.2.1) (κ := gκ g) (T := ((x0, x1, x2, ps, q2.1, tb, d, S, pg, c, m, ot))) (r := 3) (t := q2.1) rfl hq4) cal_X4_advance nM_X3_79 wI_X4_advance wS_X4_advance rfl rfl (by decide) rfl rfl (Nat.le_of_ble_eq_true rfl) ⟨Nat.zero_le _, Nat.zero_le _⟩ dX3_readNear_27 rfl ?_
    refine G_aload_n X 1 dX3_readNear_30 rfl rfl ?_
    refine f_X3_12 X rfl rfl dX3_readNear_31 ?_
    refine G_aload_n X 2 dX3_readNear_34 rfl rfl ?_
    obtain ⟨q5, hq5, h⟩ := bd_some h
    refine G_callVN X (As := [.ref (xE (gκ g) 1 0 0)]) (rest := []) (T' := (x0, x1, x2, ps, q5.1, tb, d, S, pg, c, m, ot)) (st2 := [.int q5.2]) (ct_X4_beaconHere (l := g.2.1) (κ := gκ g) (T := ((x0, x1, x2, ps, q4, tb, d, S, pg, c, m, ot))) (r := 3) (t := q4) (r2 := 1) rfl (Or.inl (by decide)) (by decide) rfl hq5) cal_X4_beaconHere nM_X3_152 wI_X4_beaconHere wS_X4_beaconHere rfl rfl (by decide) rfl rfl (Nat.le_of_ble_eq_true rfl) ⟨Nat.zero_le _, Nat.zero_le _⟩ dX3_readNear_35 rfl ?_
    refine G_istore_n X (lv' := [(3, .int q5.2), (2, .int q2.2), (0, .ref (xE (gκ g) 5 0 0)), (1, .ref (xE (gκ g) 1 0 0))]) dX3_readNear_38 rfl (by decide) rfl ?_
    refine G_iload_n X 0 dX3_readNear_39 rfl rfl ?_
    refine G_iconst X (v := (-1 : Int32)) dX3_readNear_40 (by decide) ?_
    refine G_icmp_ne X (tgt := 46) dX3_readNear_41 (by decide) (fun c6 => ?_) (fun c6 => ?_)
    · have h := it_t c6 h
      refine G_iload_n X 0 dX3_readNear_46 rfl rfl ?_
      refine G_iload_n X 1 dX3_readNear_47 rfl rfl ?_
      refine G_icmp_eq X (tgt := 67) dX3_readNear_48 (by decide) (fun c7 => ?_) (fun c7 => ?_)
      · have h := it_t c7 h
        refine G_sub [2] rfl ?_
        exact gX3_readNear_b67 X hf h
      · have h := it_f c7 h
        refine G_aload_n X 3 dX3_readNear_51 rfl rfl ?_
        refine f_X3_99 X (kd_w0 (Or.inl (by decide))) rfl dX3_readNear_52 ?_
        refine G_iload_n X 1 dX3_readNear_55 rfl rfl ?_
        obtain ⟨g8, h⟩ := gd_some h
        refine G_aaldB X (kd_w2 (Or.inl (by decide))) g8 dX3_readNear_56 ?_
        refine f_X3_156 X (kd_o0 (Or.inl (by decide)) (inb_isO (by decide) g8)) rfl dX3_readNear_57 ?_
        refine G_iload_n X 0 dX3_readNear_60 rfl rfl ?_
        obtain ⟨q9, hq9, h⟩ := bd_some h
        refine G_callSN X (As := [.int (gI x1 (ix q2.2 + 1) 0 10), .int q5.2]) (rest := []) (T' := (x0, x1, x2, ps, q5.1, tb, d, S, pg, c, m, ot)) (st2 := [.int q9]) (ct_X6_isIn (l := g.2.1) (κ := gκ g)   hq9) cal_X6_isIn nM_X3_158 wT_X6_isIn (by decide) rfl rfl (Nat.le_of_ble_eq_true rfl) ⟨Nat.zero_le _, Nat.zero_le _⟩ dX3_readNear_61 rfl ?_
        refine G_if_eq X (tgt := 76) dX3_readNear_64 (by decide) (fun c10 => ?_) (fun c10 => ?_)
        · have h := it_t c10 h
          refine G_aload_n X 3 dX3_readNear_76 rfl rfl ?_
          refine G_iload_n X 1 dX3_readNear_77 rfl rfl ?_
          refine G_iload_n X 0 dX3_readNear_78 rfl rfl ?_
          obtain ⟨q11, hq11, h⟩ := bd_some h
          refine G_callVN X (As := [.int q2.2, .int q5.2]) (rest := []) (T' := (x0, q11, x2, ps, q5.1, tb, d, S, pg, c, m, ot)) (st2 := []) (ct_X5_switchNear (l := g.2.1) (κ := gκ g) (T := ((x0, x1, x2, ps, q5.1, tb, d, S, pg, c, m, ot))) (r := 1) (x := x1) (Or.inl (by decide)) hq11) cal_X5_switchNear nM_X3_162 wI_X5_switchNear wS_X5_switchNear (kd_w0 (Or.inl (by decide))) rfl (by decide) rfl rfl (Nat.le_of_ble_eq_true rfl) ⟨Nat.zero_le _, Nat.zero_le _⟩ dX3_readNear_79 rfl ?_
          refine G_aload_n X 2 dX3_readNear_82 rfl rfl ?_
          refine f_X3_12 X rfl rfl dX3_readNear_83 ?_
          obtain ⟨q12, hq12, h⟩ := bd_some h
          refine G_callVN X (As := []) (rest := []) (T' := (x0, q11, x2, ps, q12, tb, d, S, pg, c, m, ot)) (st2 := []) (ct_X4_advance (l := g.2.1) (κ := gκ g) (T := ((x0, q11, x2, ps, q5.1, tb, d, S, pg, c, m, ot))) (r := 3) (t := q5.1) rfl hq12) cal_X4_advance nM_X3_79 wI_X4_advance wS_X4_advance rfl rfl (by decide) rfl rfl (Nat.le_of_ble_eq_true rfl) ⟨Nat.zero_le _, Nat.zero_le _⟩ dX3_readNear_86 rfl ?_
          refine G_iconst X (v := (1 : Int32)) dX3_readNear_89 (by decide) ?_
          obtain rfl := Option.some.inj h
          exact hf _ _ dX3_readNear_90 (isb_n (v := (1 : Int32)) rfl)
        · have h := it_f c10 h
          refine G_sub [2] rfl ?_
          exact gX3_readNear_b67 X hf h
    · have h := it_f (fun k => k c6) h
      refine G_iconst X (v := (0 : Int32)) dX3_readNear_44 (by decide) ?_
      obtain rfl := Option.some.inj h
      exact hf _ _ dX3_readNear_45 (isb_n (v := (0 : Int32)) rfl)
  · have h := it_f (fun k => k c3) h
    refine G_iconst X (v := (0 : Int32)) dX3_readNear_21 (by decide) ?_
    obtain rfl := Option.some.inj h
    exact hf _ _ dX3_readNear_22 (isb_n (v := (0 : Int32)) rfl)
set_option maxRecDepth 20000 in
theorem ct_X3_readNear {l : Launch} {κ : KX}  {x0 : St} {x1 : St} {x2 : St} {ps : Nat → St} {ta : St} {tb : St} {d : St} {S : St} {pg : St} {c : St} {m : St} {ot : St}  {res : St × St × Int32}  (h : sX3_readNear x1 ta = some res) : Ct l κ yX3_readNear cX3_readNear 4 (some .boolean) 2 45 [.ref (xE κ 5 0 0), .ref (xE κ 1 0 0)] ((x0, x1, x2, ps, ta, tb, d, S, pg, c, m, ot)) ((x0, res.1, x2, ps, res.2.1, tb, d, S, pg, c, m, ot)) (some (.int (res.2.2))) := by
  refine Ct_i RX3 rfl (by decide +kernel) (Nat.le_of_ble_eq_true rfl) (fun g hl hκ X hf => ?_)
  subst hl; subst hκ
  exact gX3_readNear X  hf h
set_option maxRecDepth 20000 in
theorem gX3_readStatement {g : GX}  {x0 : St} {x1 : St} {x2 : St} {ps : Nat → St} {ta : St} {tb : St} {d : St} {S : St} {pg : St} {c : St} {m : St} {ot : St}  {res : St × St × St × Int32} (X : CX g RX3 cX3_readStatement 2 7 158)  (hf : FinI g cX3_readStatement .boolean ((x0, res.1, x2, ps, res.2.1, tb, res.2.2.1, S, pg, c, m, ot)) (res.2.2.2)) (h : sX3_readStatement x1 ta d = some res) : G g 0 0 ((x0, x1, x2, ps, ta, tb, d, S, pg, c, m, ot)) 0 [(0, .ref (xE (gκ g) 5 0 0)), (1, .ref (xE (gκ g) 1 0 0))] [] := by
  unfold sX3_readStatement at h
  refine G_aload_n X 0 dX3_readStatement_0 rfl rfl ?_
  refine f_X3_12 X rfl rfl dX3_readStatement_1 ?_
  refine G_ldcS X (i := 13) (List.mem_of_getElem? (i := 0) rfl) dX3_readStatement_4 ?_
  obtain ⟨q1, hq1, h⟩ := bd_some h
  refine G_callVN X (As := [.ref ((gκ g).2.2.2.2.1 13)]) (rest := []) (T' := (x0, x1, x2, ps, ta, tb, d, S, pg, c, m, ot)) (st2 := [.int q1]) (ct_X4_isWord (l := g.2.1) (κ := gκ g) (T := ((x0, x1, x2, ps, ta, tb, d, S, pg, c, m, ot))) (r := 3) (t := ta) rfl (by decide) hq1) cal_X4_isWord nM_X3_40 wI_X4_isWord wS_X4_isWord rfl rfl (by decide) rfl rfl (Nat.le_of_ble_eq_true rfl) ⟨Nat.zero_le _, Nat.zero_le _⟩ dX3_readStatement_6 rfl ?_
  refine G_if_eq X (tgt := 34) dX3_readStatement_9 (by decide) (fun c2 => ?_) (fun c2 => ?_)
  · have h := it_t c2 h
    refine G_aload_n X 0 dX3_readStatement_34 rfl rfl ?_
    refine f_X3_12 X rfl rfl dX3_readStatement_35 ?_
    refine G_ldcS X (i := 14) (List.mem_of_getElem? (i := 1) rfl) dX3_readStatement_38 ?_
    obtain ⟨q3, hq3, h⟩ := bd_some h
    refine G_callVN X (As := [.ref ((gκ g).2.2.2.2.1 14)]) (rest := []) (T' := (x0, x1, x2, ps, ta, tb, d, S, pg, c, m, ot)) (st2 := [.int q3]) (ct_X4_isWord (l := g.2.1) (κ := gκ g) (T := ((x0, x1, x2, ps, ta, tb, d, S, pg, c, m, ot))) (r := 3) (t := ta) rfl (by decide) hq3) cal_X4_isWord nM_X3_40 wI_X4_isWord wS_X4_isWord rfl rfl (by decide) rfl rfl (Nat.le_of_ble_eq_true rfl) ⟨Nat.zero_le _, Nat.zero_le _⟩ dX3_readStatement_40 rfl ?_
    refine G_if_eq X (tgt := 68) dX3_readStatement_43 (by decide) (fun c4 => ?_) (fun c4 => ?_)
    · have h := it_t c4 h
      refine G_aload_n X 0 dX3_readStatement_68 rfl rfl ?_
      refine f_X3_12 X rfl rfl dX3_readStatement_69 ?_
      refine G_ldcS X (i := 15) (List.mem_of_getElem? (i := 2) rfl) dX3_readStatement_72 ?_
      obtain ⟨q5, hq5, h⟩ := bd_some h
      refine G_callVN X (As := [.ref ((gκ g).2.2.2.2.1 15)]) (rest := []) (T' := (x0, x1, x2, ps, ta, tb, d, S, pg, c, m, ot)) (st2 := [.int q5]) (ct_X4_isWord (l := g.2.1) (κ := gκ g) (T := ((x0, x1, x2, ps, ta, tb, d, S, pg, c, m, ot))) (r := 3) (t := ta) rfl (by decide) hq5) cal_X4_isWord nM_X3_40 wI_X4_isWord wS_X4_isWord rfl rfl (by decide) rfl rfl (Nat.le_of_ble_eq_true rfl) ⟨Nat.zero_le _, Nat.zero_le _⟩ dX3_readStatement_74 rfl ?_
      refine G_if_eq X (tgt := 102) dX3_readStatement_77 (by decide) (fun c6 => ?_) (fun c6 => ?_)
      · have h := it_t c6 h
        refine G_aload_n X 0 dX3_readStatement_102 rfl rfl ?_
        refine f_X3_12 X rfl rfl dX3_readStatement_103 ?_
        refine G_ldcS X (i := 16) (List.mem_of_getElem? (i := 3) rfl) dX3_readStatement_106 ?_
        obtain ⟨q7, hq7, h⟩ := bd_some h
        refine G_callVN X (As := [.ref ((gκ g).2.2.2.2.1 16)]) (rest := []) (T' := (x0, x1, x2, ps, ta, tb, d, S, pg, c, m, ot)) (st2 := [.int q7]) (ct_X4_isWord (l := g.2.1) (κ := gκ g) (T := ((x0, x1, x2, ps, ta, tb, d, S, pg, c, m, ot))) (r := 3) (t := ta) rfl (by decide) hq7) cal_X4_isWord nM_X3_40 wI_X4_isWord wS_X4_isWord rfl rfl (by decide) rfl rfl (Nat.le_of_ble_eq_true rfl) ⟨Nat.zero_le _, Nat.zero_le _⟩ dX3_readStatement_108 rfl ?_
        refine G_if_eq X (tgt := 137) dX3_readStatement_111 (by decide) (fun c8 => ?_) (fun c8 => ?_)
        · have h := it_t c8 h
          refine G_aload_n X 0 dX3_readStatement_137 rfl rfl ?_
          refine f_X3_12 X rfl rfl dX3_readStatement_138 ?_
          refine G_ldcS X (i := 17) (List.mem_of_getElem? (i := 4) rfl) dX3_readStatement_141 ?_
          obtain ⟨q9, hq9, h⟩ := bd_some h
          refine G_callVN X (As := [.ref ((gκ g).2.2.2.2.1 17)]) (rest := []) (T' := (x0, x1, x2, ps, ta, tb, d, S, pg, c, m, ot)) (st2 := [.int q9]) (ct_X4_isWord (l := g.2.1) (κ := gκ g) (T := ((x0, x1, x2, ps, ta, tb, d, S, pg, c, m, ot))) (r := 3) (t := ta) rfl (by decide) hq9) cal_X4_isWord nM_X3_40 wI_X4_isWord wS_X4_isWord rfl rfl (by decide) rfl rfl (Nat.le_of_ble_eq_true rfl) ⟨Nat.zero_le _, Nat.zero_le _⟩ dX3_readStatement_143 rfl ?_
          refine G_if_eq X (tgt := 155) dX3_readStatement_146 (by decide) (fun c10 => ?_) (fun c10 => ?_)
          · have h := it_t c10 h
            refine G_aload_n X 0 dX3_readStatement_155 rfl rfl ?_
            refine f_X3_12 X rfl rfl dX3_readStatement_156 ?_
            refine G_ldcS X (i := 10) (List.mem_of_getElem? (i := 10) rfl) dX3_readStatement_159 ?_
            obtain ⟨q11, hq11, h⟩ := bd_some h
            refine G_callVN X (As := [.ref ((gκ g).2.2.2.2.1 10)]) (rest := []) (T' := (x0, x1, x2, ps, ta, tb, d, S, pg, c, m, ot)) (st2 := [.int q11]) (ct_X4_isWord (l := g.2.1) (κ := gκ g) (T := ((x0, x1, x2, ps, ta, tb, d, S, pg, c, m, ot))) (r := 3) (t := ta) rfl (by decide) hq11) cal_X4_isWord nM_X3_40 wI_X4_isWord wS_X4_isWord rfl rfl (by decide) rfl rfl (Nat.le_of_ble_eq_true rfl) ⟨Nat.zero_le _, Nat.zero_le _⟩ dX3_readStatement_161 rfl ?_
            refine G_if_eq X (tgt := 173) dX3_readStatement_164 (by decide) (fun c12 => ?_) (fun c12 => ?_)
            · have h := it_t c12 h
              refine G_aload_n X 0 dX3_readStatement_173 rfl rfl ?_
              refine f_X3_12 X rfl rfl dX3_readStatement_174 ?_
              refine G_iconst X (v := (1 : Int32)) dX3_readStatement_177 (by decide) ?_
              obtain ⟨q13, hq13, h⟩ := bd_some h
              refine G_callVN X (As := [.int ((1 : Int32))]) (rest := []) (T' := (x0, x1, x2, ps, q13.1, tb, d, S, pg, c, m, ot)) (st2 := [.int q13.2]) (ct_X4_fail (l := g.2.1) (κ := gκ g) (T := ((x0, x1, x2, ps, ta, tb, d, S, pg, c, m, ot))) (r := 3) (t := ta) rfl hq13) cal_X4_fail nM_X3_76 wI_X4_fail wS_X4_fail rfl rfl (by decide) rfl rfl (Nat.le_of_ble_eq_true rfl) ⟨Nat.zero_le _, Nat.zero_le _⟩ dX3_readStatement_178 rfl ?_
              obtain ⟨g14, h⟩ := gd_some h
              obtain rfl := Option.some.inj h
              exact hf _ _ dX3_readStatement_181 (isb_n g14)
            · have h := it_f c12 h
              refine G_aload_n X 0 dX3_readStatement_167 rfl rfl ?_
              refine G_aload_n X 1 dX3_readStatement_168 rfl rfl ?_
              obtain ⟨q15, hq15, h⟩ := bd_some h
              refine G_callV X (As := [.ref (xE (gκ g) 1 0 0)]) (rest := []) (T' := (x0, q15.1, x2, ps, q15.2.1, tb, d, S, pg, c, m, ot)) (st2 := [.int q15.2.2]) (ct_X3_readNear (l := g.2.1) (κ := gκ g)   hq15) cal_X3_readNear wM_X3_73 wI_X3_readNear wS_X3_readNear rfl rfl (by decide) rfl rfl (Nat.le_of_ble_eq_true rfl) ⟨Nat.zero_le _, Nat.zero_le _⟩ dX3_readStatement_169 rfl ?_
              obtain ⟨g16, h⟩ := gd_some h
              obtain rfl := Option.some.inj h
              exact hf _ _ dX3_readStatement_172 (isb_n g16)
          · have h := it_f c10 h
            refine G_aload_n X 0 dX3_readStatement_149 rfl rfl ?_
            refine G_aload_n X 1 dX3_readStatement_150 rfl rfl ?_
            obtain ⟨q17, hq17, h⟩ := bd_some h
            refine G_callV X (As := [.ref (xE (gκ g) 1 0 0)]) (rest := []) (T' := (x0, q17.1, x2, ps, q17.2.1, tb, d, S, pg, c, m, ot)) (st2 := [.int q17.2.2]) (ct_X3_readBeacon (l := g.2.1) (κ := gκ g)   hq17) cal_X3_readBeacon wM_X3_68 wI_X3_readBeacon wS_X3_readBeacon rfl rfl (by decide) rfl rfl (Nat.le_of_ble_eq_true rfl) ⟨Nat.zero_le _, Nat.zero_le _⟩ dX3_readStatement_151 rfl ?_
            obtain ⟨g18, h⟩ := gd_some h
            obtain rfl := Option.some.inj h
            exact hf _ _ dX3_readStatement_154 (isb_n g18)
        · have h := it_f c8 h
          refine G_aload_n X 0 dX3_readStatement_114 rfl rfl ?_
          refine G_bipush X (v := (8 : Int32)) dX3_readStatement_115 (by decide) ?_
          obtain ⟨q19, hq19, h⟩ := bd_some h
          refine G_callV X (As := [.int ((8 : Int32))]) (rest := []) (T' := (x0, x1, x2, ps, q19.1, tb, q19.2.1, S, pg, c, m, ot)) (st2 := [.int q19.2.2]) (ct_X3_tellOnce (l := g.2.1) (κ := gκ g)   hq19) cal_X3_tellOnce wM_X3_44 wI_X3_tellOnce wS_X3_tellOnce rfl rfl (by decide) rfl rfl (Nat.le_of_ble_eq_true rfl) ⟨Nat.zero_le _, Nat.zero_le _⟩ dX3_readStatement_117 rfl ?_
          refine G_if_eq X (tgt := 135) dX3_readStatement_120 (by decide) (fun c20 => ?_) (fun c20 => ?_)
          · have h := it_t c20 h
            refine G_iconst X (v := (0 : Int32)) dX3_readStatement_135 (by decide) ?_
            obtain rfl := Option.some.inj h
            exact hf _ _ dX3_readStatement_136 (isb_n (v := (0 : Int32)) rfl)
          · have h := it_f c20 h
            refine G_aload_n X 0 dX3_readStatement_123 rfl rfl ?_
            refine G_aload_n X 1 dX3_readStatement_124 rfl rfl ?_
            obtain ⟨q21, hq21, h⟩ := bd_some h
            refine G_callV X (As := [.ref (xE (gκ g) 1 0 0)]) (rest := []) (T' := (x0, q21.1, x2, ps, q21.2.1, tb, q19.2.1, S, pg, c, m, ot)) (st2 := [.int q21.2.2]) (ct_X3_readMemory (l := g.2.1) (κ := gκ g)   hq21) cal_X3_readMemory wM_X3_63 wI_X3_readMemory wS_X3_readMemory rfl rfl (by decide) rfl rfl (Nat.le_of_ble_eq_true rfl) ⟨Nat.zero_le _, Nat.zero_le _⟩ dX3_readStatement_125 rfl ?_
            refine G_if_eq X (tgt := 135) dX3_readStatement_128 (by decide) (fun c22 => ?_) (fun c22 => ?_)
            · have h := it_t c22 h
              refine G_iconst X (v := (0 : Int32)) dX3_readStatement_135 (by decide) ?_
              obtain rfl := Option.some.inj h
              exact hf _ _ dX3_readStatement_136 (isb_n (v := (0 : Int32)) rfl)
            · have h := it_f c22 h
              refine G_iconst X (v := (1 : Int32)) dX3_readStatement_131 (by decide) ?_
              refine G_goto X (tgt := 136) dX3_readStatement_132 (by decide) ?_
              obtain rfl := Option.some.inj h
              exact hf _ _ dX3_readStatement_136 (isb_n (v := (1 : Int32)) rfl)
      · have h := it_f c6 h
        refine G_aload_n X 0 dX3_readStatement_80 rfl rfl ?_
        refine G_iconst X (v := (4 : Int32)) dX3_readStatement_81 (by decide) ?_
        obtain ⟨q23, hq23, h⟩ := bd_some h
        refine G_callV X (As := [.int ((4 : Int32))]) (rest := []) (T' := (x0, x1, x2, ps, q23.1, tb, q23.2.1, S, pg, c, m, ot)) (st2 := [.int q23.2.2]) (ct_X3_tellOnce (l := g.2.1) (κ := gκ g)   hq23) cal_X3_tellOnce wM_X3_44 wI_X3_tellOnce wS_X3_tellOnce rfl rfl (by decide) rfl rfl (Nat.le_of_ble_eq_true rfl) ⟨Nat.zero_le _, Nat.zero_le _⟩ dX3_readStatement_82 rfl ?_
        refine G_if_eq X (tgt := 100) dX3_readStatement_85 (by decide) (fun c24 => ?_) (fun c24 => ?_)
        · have h := it_t c24 h
          refine G_iconst X (v := (0 : Int32)) dX3_readStatement_100 (by decide) ?_
          obtain rfl := Option.some.inj h
          exact hf _ _ dX3_readStatement_101 (isb_n (v := (0 : Int32)) rfl)
        · have h := it_f c24 h
          refine G_aload_n X 0 dX3_readStatement_88 rfl rfl ?_
          refine G_aload_n X 1 dX3_readStatement_89 rfl rfl ?_
          obtain ⟨q25, hq25, h⟩ := bd_some h
          refine G_callV X (As := [.ref (xE (gκ g) 1 0 0)]) (rest := []) (T' := (x0, q25.1, x2, ps, q25.2.1, tb, q23.2.1, S, pg, c, m, ot)) (st2 := [.int q25.2.2]) (ct_X3_readTries (l := g.2.1) (κ := gκ g)   hq25) cal_X3_readTries wM_X3_58 wI_X3_readTries wS_X3_readTries rfl rfl (by decide) rfl rfl (Nat.le_of_ble_eq_true rfl) ⟨Nat.zero_le _, Nat.zero_le _⟩ dX3_readStatement_90 rfl ?_
          refine G_if_eq X (tgt := 100) dX3_readStatement_93 (by decide) (fun c26 => ?_) (fun c26 => ?_)
          · have h := it_t c26 h
            refine G_iconst X (v := (0 : Int32)) dX3_readStatement_100 (by decide) ?_
            obtain rfl := Option.some.inj h
            exact hf _ _ dX3_readStatement_101 (isb_n (v := (0 : Int32)) rfl)
          · have h := it_f c26 h
            refine G_iconst X (v := (1 : Int32)) dX3_readStatement_96 (by decide) ?_
            refine G_goto X (tgt := 101) dX3_readStatement_97 (by decide) ?_
            obtain rfl := Option.some.inj h
            exact hf _ _ dX3_readStatement_101 (isb_n (v := (1 : Int32)) rfl)
    · have h := it_f c4 h
      refine G_aload_n X 0 dX3_readStatement_46 rfl rfl ?_
      refine G_iconst X (v := (2 : Int32)) dX3_readStatement_47 (by decide) ?_
      obtain ⟨q27, hq27, h⟩ := bd_some h
      refine G_callV X (As := [.int ((2 : Int32))]) (rest := []) (T' := (x0, x1, x2, ps, q27.1, tb, q27.2.1, S, pg, c, m, ot)) (st2 := [.int q27.2.2]) (ct_X3_tellOnce (l := g.2.1) (κ := gκ g)   hq27) cal_X3_tellOnce wM_X3_44 wI_X3_tellOnce wS_X3_tellOnce rfl rfl (by decide) rfl rfl (Nat.le_of_ble_eq_true rfl) ⟨Nat.zero_le _, Nat.zero_le _⟩ dX3_readStatement_48 rfl ?_
      refine G_if_eq X (tgt := 66) dX3_readStatement_51 (by decide) (fun c28 => ?_) (fun c28 => ?_)
      · have h := it_t c28 h
        refine G_iconst X (v := (0 : Int32)) dX3_readStatement_66 (by decide) ?_
        obtain rfl := Option.some.inj h
        exact hf _ _ dX3_readStatement_67 (isb_n (v := (0 : Int32)) rfl)
      · have h := it_f c28 h
        refine G_aload_n X 0 dX3_readStatement_54 rfl rfl ?_
        refine G_aload_n X 1 dX3_readStatement_55 rfl rfl ?_
        obtain ⟨q29, hq29, h⟩ := bd_some h
        refine G_callV X (As := [.ref (xE (gκ g) 1 0 0)]) (rest := []) (T' := (x0, q29.1, x2, ps, q29.2.1, tb, q27.2.1, S, pg, c, m, ot)) (st2 := [.int q29.2.2]) (ct_X3_readSeed (l := g.2.1) (κ := gκ g)   hq29) cal_X3_readSeed wM_X3_53 wI_X3_readSeed wS_X3_readSeed rfl rfl (by decide) rfl rfl (Nat.le_of_ble_eq_true rfl) ⟨Nat.zero_le _, Nat.zero_le _⟩ dX3_readStatement_56 rfl ?_
        refine G_if_eq X (tgt := 66) dX3_readStatement_59 (by decide) (fun c30 => ?_) (fun c30 => ?_)
        · have h := it_t c30 h
          refine G_iconst X (v := (0 : Int32)) dX3_readStatement_66 (by decide) ?_
          obtain rfl := Option.some.inj h
          exact hf _ _ dX3_readStatement_67 (isb_n (v := (0 : Int32)) rfl)
        · have h := it_f c30 h
          refine G_iconst X (v := (1 : Int32)) dX3_readStatement_62 (by decide) ?_
          refine G_goto X (tgt := 67) dX3_readStatement_63 (by decide) ?_
          obtain rfl := Option.some.inj h
          exact hf _ _ dX3_readStatement_67 (isb_n (v := (1 : Int32)) rfl)
  · have h := it_f c2 h
    refine G_aload_n X 0 dX3_readStatement_12 rfl rfl ?_
    refine G_iconst X (v := (1 : Int32)) dX3_readStatement_13 (by decide) ?_
    obtain ⟨q31, hq31, h⟩ := bd_some h
    refine G_callV X (As := [.int ((1 : Int32))]) (rest := []) (T' := (x0, x1, x2, ps, q31.1, tb, q31.2.1, S, pg, c, m, ot)) (st2 := [.int q31.2.2]) (ct_X3_tellOnce (l := g.2.1) (κ := gκ g)   hq31) cal_X3_tellOnce wM_X3_44 wI_X3_tellOnce wS_X3_tellOnce rfl rfl (by decide) rfl rfl (Nat.le_of_ble_eq_true rfl) ⟨Nat.zero_le _, Nat.zero_le _⟩ dX3_readStatement_14 rfl ?_
    refine G_if_eq X (tgt := 32) dX3_readStatement_17 (by decide) (fun c32 => ?_) (fun c32 => ?_)
    · have h := it_t c32 h
      refine G_iconst X (v := (0 : Int32)) dX3_readStatement_32 (by decide) ?_
      obtain rfl := Option.some.inj h
      exact hf _ _ dX3_readStatement_33 (isb_n (v := (0 : Int32)) rfl)
    · have h := it_f c32 h
      refine G_aload_n X 0 dX3_readStatement_20 rfl rfl ?_
      refine G_aload_n X 1 dX3_readStatement_21 rfl rfl ?_
      obtain ⟨q33, hq33, h⟩ := bd_some h
      refine G_callV X (As := [.ref (xE (gκ g) 1 0 0)]) (rest := []) (T' := (x0, q33.1, x2, ps, q33.2.1, tb, q31.2.1, S, pg, c, m, ot)) (st2 := [.int q33.2.2]) (ct_X3_readCosts (l := g.2.1) (κ := gκ g)   hq33) cal_X3_readCosts wM_X3_48 wI_X3_readCosts wS_X3_readCosts rfl rfl (by decide) rfl rfl (Nat.le_of_ble_eq_true rfl) ⟨Nat.zero_le _, Nat.zero_le _⟩ dX3_readStatement_22 rfl ?_
      refine G_if_eq X (tgt := 32) dX3_readStatement_25 (by decide) (fun c34 => ?_) (fun c34 => ?_)
      · have h := it_t c34 h
        refine G_iconst X (v := (0 : Int32)) dX3_readStatement_32 (by decide) ?_
        obtain rfl := Option.some.inj h
        exact hf _ _ dX3_readStatement_33 (isb_n (v := (0 : Int32)) rfl)
      · have h := it_f c34 h
        refine G_iconst X (v := (1 : Int32)) dX3_readStatement_28 (by decide) ?_
        refine G_goto X (tgt := 33) dX3_readStatement_29 (by decide) ?_
        obtain rfl := Option.some.inj h
        exact hf _ _ dX3_readStatement_33 (isb_n (v := (1 : Int32)) rfl)
set_option maxRecDepth 20000 in
theorem ct_X3_readStatement {l : Launch} {κ : KX}  {x0 : St} {x1 : St} {x2 : St} {ps : Nat → St} {ta : St} {tb : St} {d : St} {S : St} {pg : St} {c : St} {m : St} {ot : St}  {res : St × St × St × Int32}  (h : sX3_readStatement x1 ta d = some res) : Ct l κ yX3_readStatement cX3_readStatement 2 (some .boolean) 7 158 [.ref (xE κ 5 0 0), .ref (xE κ 1 0 0)] ((x0, x1, x2, ps, ta, tb, d, S, pg, c, m, ot)) ((x0, res.1, x2, ps, res.2.1, tb, res.2.2.1, S, pg, c, m, ot)) (some (.int (res.2.2.2))) := by
  refine Ct_i RX3 rfl (by decide +kernel) (Nat.le_of_ble_eq_true rfl) (fun g hl hκ X hf => ?_)
  subst hl; subst hκ
  exact gX3_readStatement X  hf h
set_option maxRecDepth 20000 in
theorem gX4_takeSign {g : GX} {T : TT} {r : Nat}  {t : St} {a1 : Int32} {res : St × Int32} (X : CX g RX4 cX4_takeSign 2 1 21) (hr : kd r = kd 3) (hf : FinI g cX4_takeSign .boolean (rs T r res.1) (res.2)) (h : sX4_takeSign t a1 = some res) : G g 0 0 (rs T r t) 0 [(0, .ref (xE (gκ g) r 0 0)), (1, .int a1)] [] := by
  unfold sX4_takeSign at h
  refine G_aload_n X 0 dX4_takeSign_0 rfl rfl ?_
  refine f_X4_66 X (congrFun (congrFun hr 0) 0) (rg_rs _ _ _) dX4_takeSign_1 ?_
  refine G_iload_n X 1 dX4_takeSign_4 rfl rfl ?_
  refine G_icmp_eq X (tgt := 14) dX4_takeSign_5 (by decide) (fun c1 => ?_) (fun c1 => ?_)
  · have h := it_t c1 h
    refine G_aload_n X 0 dX4_takeSign_14 rfl rfl ?_
    obtain ⟨q2, hq2, h⟩ := bd_some h
    refine G_callV X (As := []) (rest := []) (T' := rs T r q2) (st2 := []) (ct_X4_advance (l := g.2.1) (κ := gκ g) (T := T) (r := r) (t := t) hr hq2) cal_X4_advance wM_X4_63 wI_X4_advance wS_X4_advance (congrFun (congrFun hr 0) 0) rfl (by decide) rfl rfl (Nat.le_of_ble_eq_true rfl) ⟨Nat.zero_le _, Nat.zero_le _⟩ dX4_takeSign_15 rfl ?_
    refine G_iconst X (v := (1 : Int32)) dX4_takeSign_18 (by decide) ?_
    obtain rfl := Option.some.inj h
    exact hf _ _ dX4_takeSign_19 (isb_n (v := (1 : Int32)) rfl)
  · have h := it_f c1 h
    refine G_aload_n X 0 dX4_takeSign_8 rfl rfl ?_
    refine G_iconst X (v := (1 : Int32)) dX4_takeSign_9 (by decide) ?_
    obtain ⟨q3, hq3, h⟩ := bd_some h
    refine G_callV X (As := [.int ((1 : Int32))]) (rest := []) (T' := rs T r q3.1) (st2 := [.int q3.2]) (ct_X4_fail (l := g.2.1) (κ := gκ g) (T := T) (r := r) (t := t) hr hq3) cal_X4_fail wM_X4_94 wI_X4_fail wS_X4_fail (congrFun (congrFun hr 0) 0) rfl (by decide) rfl rfl (Nat.le_of_ble_eq_true rfl) ⟨Nat.zero_le _, Nat.zero_le _⟩ dX4_takeSign_10 rfl ?_
    obtain ⟨g4, h⟩ := gd_some h
    obtain rfl := Option.some.inj h
    exact hf _ _ dX4_takeSign_13 (isb_n g4)
set_option maxRecDepth 20000 in
theorem ct_X4_takeSign {l : Launch} {κ : KX} {T : TT} {r : Nat}  {t : St} {a1 : Int32} {res : St × Int32} (hr : kd r = kd 3) (h : sX4_takeSign t a1 = some res) : Ct l κ yX4_takeSign cX4_takeSign 2 (some .boolean) 1 21 [.ref (xE κ r 0 0), .int a1] (rs T r t) (rs T r res.1) (some (.int (res.2))) := by
  refine Ct_i RX4 rfl (by decide +kernel) (Nat.le_of_ble_eq_true rfl) (fun g hl hκ X hf => ?_)
  subst hl; subst hκ
  exact gX4_takeSign X hr hf h
set_option maxRecDepth 20000 in
theorem gX3_readAll_b11 {g : GX}  {x0 : St} {x2 : St} {ps : Nat → St} {tb : St} {S : St} {pg : St} {c : St} {m : St} {ot : St} {res : St × St × St × Int32}  (X : CX g RX3 cX3_readAll 3 8 179)  (hf : FinI g cX3_readAll .boolean ((x0, res.1, x2, ps, res.2.1, tb, res.2.2.1, S, pg, c, m, ot)) (res.2.2.2))  : ∀ (n : Nat) (x1 : St) (ta : St) (d : St) (a2 : Int32) (h : sX3_readAll_b11 n  x1 ta d a2 = some res), G g 0 0 ((x0, x1, x2, ps, ta, tb, d, S, pg, c, m, ot)) 11 [(0, .ref (xE (gκ g) 5 0 0)), (1, .ref (xE (gκ g) 1 0 0)), (2, .int a2)] [] := by
  intro n
  induction n with
  | zero => intro x1 ta d a2 h; unfold sX3_readAll_b11 at h; cases h
  | succ n ih =>
    intro x1 ta d a2 h
    unfold sX3_readAll_b11 at h
    refine G_iload_n X 2 dX3_readAll_11 rfl rfl ?_
    refine G_sipush X (v := (700 : Int32)) dX3_readAll_12 (by decide) ?_
    refine G_icmp_ge X (tgt := 56) dX3_readAll_15 (by decide) (fun c3 => ?_) (fun c3 => ?_)
    · have h := it_t c3 h
      refine G_iconst X (v := (1 : Int32)) dX3_readAll_56 (by decide) ?_
      obtain rfl := Option.some.inj h
      exact hf _ _ dX3_readAll_57 (isb_n (v := (1 : Int32)) rfl)
    · have h := it_f c3 h
      refine G_aload_n X 0 dX3_readAll_18 rfl rfl ?_
      refine f_X3_12 X rfl rfl dX3_readAll_19 ?_
      refine f_X3_27 X rfl rfl dX3_readAll_22 ?_
      refine G_if_eq X (tgt := 56) dX3_readAll_25 (by decide) (fun c4 => ?_) (fun c4 => ?_)
      · have h := it_t c4 h
        refine G_iconst X (v := (1 : Int32)) dX3_readAll_56 (by decide) ?_
        obtain rfl := Option.some.inj h
        exact hf _ _ dX3_readAll_57 (isb_n (v := (1 : Int32)) rfl)
      · have h := it_f c4 h
        refine G_aload_n X 0 dX3_readAll_28 rfl rfl ?_
        refine G_aload_n X 1 dX3_readAll_29 rfl rfl ?_
        obtain ⟨q5, hq5, h⟩ := bd_some h
        refine G_callV X (As := [.ref (xE (gκ g) 1 0 0)]) (rest := []) (T' := (x0, q5.1, x2, ps, q5.2.1, tb, q5.2.2.1, S, pg, c, m, ot)) (st2 := [.int q5.2.2.2]) (ct_X3_readStatement (l := g.2.1) (κ := gκ g)   hq5) cal_X3_readStatement wM_X3_30 wI_X3_readStatement wS_X3_readStatement rfl rfl (by decide) rfl rfl (Nat.le_of_ble_eq_true rfl) ⟨Nat.zero_le _, Nat.zero_le _⟩ dX3_readAll_30 rfl ?_
        refine G_if_eq X (tgt := 48) dX3_readAll_33 (by decide) (fun c6 => ?_) (fun c6 => ?_)
        · have h := it_t c6 h
          refine G_iconst X (v := (0 : Int32)) dX3_readAll_48 (by decide) ?_
          obtain rfl := Option.some.inj h
          exact hf _ _ dX3_readAll_49 (isb_n (v := (0 : Int32)) rfl)
        · have h := it_f c6 h
          refine G_aload_n X 0 dX3_readAll_36 rfl rfl ?_
          refine f_X3_12 X rfl rfl dX3_readAll_37 ?_
          refine G_bipush X (v := (59 : Int32)) dX3_readAll_40 (by decide) ?_
          obtain ⟨q7, hq7, h⟩ := bd_some h
          refine G_callVN X (As := [.int ((59 : Int32))]) (rest := []) (T' := (x0, q5.1, x2, ps, q7.1, tb, q5.2.2.1, S, pg, c, m, ot)) (st2 := [.int q7.2]) (ct_X4_takeSign (l := g.2.1) (κ := gκ g) (T := ((x0, q5.1, x2, ps, q5.2.1, tb, q5.2.2.1, S, pg, c, m, ot))) (r := 3) (t := q5.2.1) rfl hq7) cal_X4_takeSign nM_X3_34 wI_X4_takeSign wS_X4_takeSign rfl rfl (by decide) rfl rfl (Nat.le_of_ble_eq_true rfl) ⟨Nat.zero_le _, Nat.zero_le _⟩ dX3_readAll_42 rfl ?_
          refine G_if_ne X (tgt := 50) dX3_readAll_45 (by decide) (fun c8 => ?_) (fun c8 => ?_)
          · have h := it_t c8 h
            obtain ⟨v9, ev9, h⟩ := nm_some h
            refine G_iinc X (v := v9) (lv' := [(2, .int v9), (0, .ref (xE (gκ g) 5 0 0)), (1, .ref (xE (gκ g) 1 0 0))]) 2 dX3_readAll_50 rfl (by rw [ev9]; rfl) (by decide) rfl ?_
            refine G_goto X (tgt := 11) dX3_readAll_53 (by decide) ?_
            refine G_sub [1, 2, 0] rfl ?_
            exact ih _ _ _ _ h
          · have h := it_f (fun k => k c8) h
            refine G_iconst X (v := (0 : Int32)) dX3_readAll_48 (by decide) ?_
            obtain rfl := Option.some.inj h
            exact hf _ _ dX3_readAll_49 (isb_n (v := (0 : Int32)) rfl)
set_option maxRecDepth 20000 in
theorem gX3_readAll {g : GX}  {x0 : St} {x1 : St} {x2 : St} {ps : Nat → St} {ta : St} {tb : St} {d : St} {S : St} {pg : St} {c : St} {m : St} {ot : St}  {res : St × St × St × Int32} (X : CX g RX3 cX3_readAll 3 8 179)  (hf : FinI g cX3_readAll .boolean ((x0, res.1, x2, ps, res.2.1, tb, res.2.2.1, S, pg, c, m, ot)) (res.2.2.2)) (h : sX3_readAll x1 ta d = some res) : G g 0 0 ((x0, x1, x2, ps, ta, tb, d, S, pg, c, m, ot)) 0 [(0, .ref (xE (gκ g) 5 0 0)), (1, .ref (xE (gκ g) 1 0 0))] [] := by
  unfold sX3_readAll at h
  refine G_aload_n X 1 dX3_readAll_0 rfl rfl ?_
  obtain ⟨q1, hq1, h⟩ := bd_some h
  refine G_callVN X (As := []) (rest := []) (T' := (x0, q1, x2, ps, ta, tb, d, S, pg, c, m, ot)) (st2 := []) (ct_X5_clear (l := g.2.1) (κ := gκ g) (T := ((x0, x1, x2, ps, ta, tb, d, S, pg, c, m, ot))) (r := 1) (x := x1) (Or.inl (by decide)) hq1) cal_X5_clear nM_X3_18 wI_X5_clear wS_X5_clear (kd_w0 (Or.inl (by decide))) rfl (by decide) rfl rfl (Nat.le_of_ble_eq_true rfl) ⟨Nat.zero_le _, Nat.zero_le _⟩ dX3_readAll_1 rfl ?_
  refine G_aload_n X 0 dX3_readAll_4 rfl rfl ?_
  refine G_iconst X (v := (0 : Int32)) dX3_readAll_5 (by decide) ?_
  obtain ⟨z2, ez2, h⟩ := nm_some h
  refine p_X3_23 X (T' := (x0, q1, x2, ps, ta, tb, z2, S, pg, c, m, ot)) rfl rfl  (by rw [ez2]; rfl) dX3_readAll_6 ?_
  refine G_iconst X (v := (0 : Int32)) dX3_readAll_9 (by decide) ?_
  refine G_istore_n X (lv' := [(2, .int ((0 : Int32))), (0, .ref (xE (gκ g) 5 0 0)), (1, .ref (xE (gκ g) 1 0 0))]) dX3_readAll_10 rfl (by decide) rfl ?_
  refine G_sub [1, 2, 0] rfl ?_
  exact gX3_readAll_b11 X hf FU _ _ _ _ h
set_option maxRecDepth 20000 in
theorem ct_X3_readAll {l : Launch} {κ : KX}  {x0 : St} {x1 : St} {x2 : St} {ps : Nat → St} {ta : St} {tb : St} {d : St} {S : St} {pg : St} {c : St} {m : St} {ot : St}  {res : St × St × St × Int32}  (h : sX3_readAll x1 ta d = some res) : Ct l κ yX3_readAll cX3_readAll 3 (some .boolean) 8 179 [.ref (xE κ 5 0 0), .ref (xE κ 1 0 0)] ((x0, x1, x2, ps, ta, tb, d, S, pg, c, m, ot)) ((x0, res.1, x2, ps, res.2.1, tb, res.2.2.1, S, pg, c, m, ot)) (some (.int (res.2.2.2))) := by
  refine Ct_i RX3 rfl (by decide +kernel) (Nat.le_of_ble_eq_true rfl) (fun g hl hκ X hf => ?_)
  subst hl; subst hκ
  exact gX3_readAll X  hf h
set_option maxRecDepth 20000 in
theorem gX4_isLetter {g : GX} {T : TT}   {a0 : Int32} {res : Int32} (X : CX g RX4 cX4_isLetter 1 0 0)  (hf : FinI g cX4_isLetter .boolean (T) (res)) (h : sX4_isLetter a0 = some res) : G g 0 0 (T) 0 [(0, .int a0)] [] := by
  unfold sX4_isLetter at h
  refine G_iload_n X 0 dX4_isLetter_0 rfl rfl ?_
  refine G_bipush X (v := (97 : Int32)) dX4_isLetter_1 (by decide) ?_
  refine G_icmp_lt X (tgt := 16) dX4_isLetter_3 (by decide) (fun c1 => ?_) (fun c1 => ?_)
  · have h := it_t c1 h
    refine G_iconst X (v := (0 : Int32)) dX4_isLetter_16 (by decide) ?_
    obtain rfl := Option.some.inj h
    exact hf _ _ dX4_isLetter_17 (isb_n (v := (0 : Int32)) rfl)
  · have h := it_f c1 h
    refine G_iload_n X 0 dX4_isLetter_6 rfl rfl ?_
    refine G_bipush X (v := (122 : Int32)) dX4_isLetter_7 (by decide) ?_
    refine G_icmp_gt X (tgt := 16) dX4_isLetter_9 (by decide) (fun c2 => ?_) (fun c2 => ?_)
    · have h := it_t c2 h
      refine G_iconst X (v := (0 : Int32)) dX4_isLetter_16 (by decide) ?_
      obtain rfl := Option.some.inj h
      exact hf _ _ dX4_isLetter_17 (isb_n (v := (0 : Int32)) rfl)
    · have h := it_f c2 h
      refine G_iconst X (v := (1 : Int32)) dX4_isLetter_12 (by decide) ?_
      refine G_goto X (tgt := 17) dX4_isLetter_13 (by decide) ?_
      obtain rfl := Option.some.inj h
      exact hf _ _ dX4_isLetter_17 (isb_n (v := (1 : Int32)) rfl)
set_option maxRecDepth 20000 in
theorem ct_X4_isLetter {l : Launch} {κ : KX} {T : TT}   {a0 : Int32} {res : Int32}  (h : sX4_isLetter a0 = some res) : Ct l κ yX4_isLetter cX4_isLetter 1 (some .boolean) 0 0 [.int a0] (T) (T) (some (.int (res))) := by
  refine Ct_i RX4 rfl (by decide +kernel) (Nat.le_of_ble_eq_true rfl) (fun g hl hκ X hf => ?_)
  subst hl; subst hκ
  exact gX4_isLetter X  hf h
set_option maxRecDepth 20000 in
theorem gX4_add {g : GX} {T : TT} {r : Nat}  {t : St} {a1 : Int32} {a2 : Int32} {a3 : Int64} {res : St} (X : CX g RX4 cX4_add 5 0 0) (hr : kd r = kd 3) (hf : FinV g cX4_add (rs T r res)) (h : sX4_add t a1 a2 a3 = some res) : G g 0 0 (rs T r t) 0 [(0, .ref (xE (gκ g) r 0 0)), (1, .int a1), (2, .int a2), (3, .long a3)] [] := by
  unfold sX4_add at h
  refine G_aload_n X 0 dX4_add_0 rfl rfl ?_
  refine f_X4_32 X (congrFun (congrFun hr 0) 0) (rg_rs _ _ _) dX4_add_1 ?_
  refine G_sipush X (v := (700 : Int32)) dX4_add_4 (by decide) ?_
  refine G_icmp_gt X (tgt := 50) dX4_add_7 (by decide) (fun c1 => ?_) (fun c1 => ?_)
  · have h := it_t c1 h
    obtain rfl := Option.some.inj h
    exact hf _ _ dX4_add_50
  · have h := it_f c1 h
    refine G_aload_n X 0 dX4_add_10 rfl rfl ?_
    refine f_X4_9 X (congrFun (congrFun hr 0) 0) rfl dX4_add_11 ?_
    refine G_aload_n X 0 dX4_add_14 rfl rfl ?_
    refine f_X4_32 X (congrFun (congrFun hr 0) 0) (rg_rs _ _ _) dX4_add_15 ?_
    refine G_iload_n X 1 dX4_add_18 rfl rfl ?_
    obtain ⟨g2, h⟩ := gd_some h
    obtain ⟨z3, ez3, h⟩ := nm_some h
    refine G_iast X (T' := rs T r z3) (congrFun (congrFun hr 0) 1) (rg_rs _ _ _) g2 (by rw [rs_rs, ez3]) dX4_add_19 ?_
    refine G_aload_n X 0 dX4_add_20 rfl rfl ?_
    refine f_X4_15 X (congrFun (congrFun hr 0) 0) rfl dX4_add_21 ?_
    refine G_aload_n X 0 dX4_add_24 rfl rfl ?_
    refine f_X4_32 X (congrFun (congrFun hr 0) 0) (rg_rs _ _ _) dX4_add_25 ?_
    refine G_iload_n X 2 dX4_add_28 rfl rfl ?_
    obtain ⟨g4, h⟩ := gd_some h
    obtain ⟨z5, ez5, h⟩ := nm_some h
    refine G_iast X (T' := rs T r z5) (congrFun (congrFun hr 0) 2) (rg_rs _ _ _) g4 (by rw [rs_rs, ez5]) dX4_add_29 ?_
    refine G_aload_n X 0 dX4_add_30 rfl rfl ?_
    refine f_X4_18 X (congrFun (congrFun hr 0) 0) rfl dX4_add_31 ?_
    refine G_aload_n X 0 dX4_add_34 rfl rfl ?_
    refine f_X4_32 X (congrFun (congrFun hr 0) 0) (rg_rs _ _ _) dX4_add_35 ?_
    refine G_lload_n X 3 dX4_add_38 rfl rfl ?_
    obtain ⟨g6, h⟩ := gd_some h
    obtain ⟨z7, ez7, h⟩ := nm_some h
    refine G_last X (T' := rs T r z7) (congrFun (congrFun hr 0) 3) (rg_rs _ _ _) g6 (by rw [rs_rs, ez7]) dX4_add_39 ?_
    refine G_aload_n X 0 dX4_add_40 rfl rfl ?_
    refine G_dup X dX4_add_41 rfl ?_
    refine f_X4_32 X (congrFun (congrFun hr 0) 0) (rg_rs _ _ _) dX4_add_42 ?_
    refine G_iconst X (v := (1 : Int32)) dX4_add_45 (by decide) ?_
    refine G_iadd X dX4_add_46 ?_
    obtain ⟨z8, ez8, h⟩ := nm_some h
    refine p_X4_32 X (T' := rs T r z8) (congrFun (congrFun hr 0) 0) (rg_rs _ _ _)  (by rw [rs_rs, ez8]) dX4_add_47 ?_
    obtain rfl := Option.some.inj h
    exact hf _ _ dX4_add_50
set_option maxRecDepth 20000 in
theorem ct_X4_add {l : Launch} {κ : KX} {T : TT} {r : Nat}  {t : St} {a1 : Int32} {a2 : Int32} {a3 : Int64} {res : St} (hr : kd r = kd 3) (h : sX4_add t a1 a2 a3 = some res) : Ct l κ yX4_add cX4_add 5 none 0 0 [.ref (xE κ r 0 0), .int a1, .int a2, .long a3] (rs T r t) (rs T r res) none := by
  refine Ct_v RX4 rfl (by decide +kernel) (Nat.le_of_ble_eq_true rfl) (fun g hl hκ X hf => ?_)
  subst hl; subst hκ
  exact gX4_add X hr hf h
set_option maxRecDepth 20000 in
theorem gX4_addWord_b70 {g : GX} {T : TT} {r : Nat} {y : St}  {t : St} {a2 : Int32} {a4 : Int64} {a6 : Int32} {s0 : Int32} {res : St × Int32}  (X : CX g RX4 cX4_addWord 7 1 24) (hr : kd r = kd 3) (hne : 8 ≠ r) (hy : rg T 8 = y) (hf : FinI g cX4_addWord .int (rs T r res.1) (res.2))   (h : sX4_addWord_b70  y t a2 a4 a6 s0 = some res) : G g 0 0 (rs T r t) 70 [(2, .int a2), (4, .long a4), (6, .int a6)] [.int s0, .ref (xE (gκ g) r 0 0)] := by
  unfold sX4_addWord_b70 at h
  refine G_iload_n X 0 dX4_addWord_70 rfl rfl ?_
  refine G_lload X 1 dX4_addWord_71 rfl ?_
  obtain ⟨q11, hq11, h⟩ := bd_some h
  refine G_callV X (As := [.int s0, .int a2, .long a4]) (rest := []) (T' := rs T r q11) (st2 := []) (ct_X4_add (l := g.2.1) (κ := gκ g) (T := T) (r := r) (t := t) hr hq11) cal_X4_add wM_X4_59 wI_X4_add wS_X4_add (congrFun (congrFun hr 0) 0) rfl (by decide) rfl rfl (Nat.le_of_ble_eq_true rfl) ⟨Nat.zero_le _, Nat.zero_le _⟩ dX4_addWord_73 rfl ?_
  refine G_iload X 2 dX4_addWord_76 rfl ?_
  obtain rfl := Option.some.inj h
  exact hf _ _ dX4_addWord_78 rfl
set_option maxRecDepth 20000 in
theorem gX4_addWord_b55 {g : GX} {T : TT} {r : Nat} {y : St}  {t : St} {a2 : Int32} {a4 : Int64} {a6 : Int32} {res : St × Int32}  (X : CX g RX4 cX4_addWord 7 1 24) (hr : kd r = kd 3) (hne : 8 ≠ r) (hy : rg T 8 = y) (hf : FinI g cX4_addWord .int (rs T r res.1) (res.2))   (h : sX4_addWord_b55  y t a2 a4 a6 = some res) : G g 0 0 (rs T r t) 55 [(0, .ref (xE (gκ g) r 0 0)), (2, .int a2), (4, .long a4), (6, .int a6)] [] := by
  unfold sX4_addWord_b55 at h
  refine G_aload_n X 0 dX4_addWord_55 rfl rfl ?_
  refine G_iload X 3 dX4_addWord_56 rfl ?_
  refine G_iload_n X 1 dX4_addWord_58 rfl rfl ?_
  refine G_isub X dX4_addWord_59 ?_
  refine G_bipush X (v := (8 : Int32)) dX4_addWord_60 (by decide) ?_
  refine G_icmp_le X (tgt := 69) dX4_addWord_62 (by decide) (fun c10 => ?_) (fun c10 => ?_)
  · have h := it_t c10 h
    refine G_iconst X (v := (1 : Int32)) dX4_addWord_69 (by decide) ?_
    refine G_sub [1, 2, 3] rfl ?_
    exact gX4_addWord_b70 X hr hne hy hf h
  · have h := it_f c10 h
    refine G_iconst X (v := (3 : Int32)) dX4_addWord_65 (by decide) ?_
    refine G_goto X (tgt := 70) dX4_addWord_66 (by decide) ?_
    refine G_sub [1, 2, 3] rfl ?_
    exact gX4_addWord_b70 X hr hne hy hf h
set_option maxRecDepth 20000 in
theorem gX4_addWord_b6 {g : GX} {T : TT} {r : Nat} {y : St}   {res : St × Int32}  (X : CX g RX4 cX4_addWord 7 1 24) (hr : kd r = kd 3) (hne : 8 ≠ r) (hy : rg T 8 = y) (hf : FinI g cX4_addWord .int (rs T r res.1) (res.2))  : ∀ (n : Nat) (t : St) (a2 : Int32) (a3 : Int32) (a4 : Int64) (a6 : Int32) (h : sX4_addWord_b6 n  y t a2 a3 a4 a6 = some res), G g 0 0 (rs T r t) 6 [(0, .ref (xE (gκ g) r 0 0)), (1, .ref (xE (gκ g) 8 0 1)), (2, .int a2), (3, .int a3), (4, .long a4), (6, .int a6)] [] := by
  intro n
  induction n with
  | zero => intro t a2 a3 a4 a6 h; unfold sX4_addWord_b6 at h; cases h
  | succ n ih =>
    intro t a2 a3 a4 a6 h
    unfold sX4_addWord_b6 at h
    refine G_iload X 5 dX4_addWord_6 rfl ?_
    refine G_iload_n X 3 dX4_addWord_8 rfl rfl ?_
    refine G_icmp_ge X (tgt := 55) dX4_addWord_9 (by decide) (fun c1 => ?_) (fun c1 => ?_)
    · have h := it_t c1 h
      refine G_sub [0, 2, 4, 5] rfl ?_
      exact gX4_addWord_b55 X hr hne hy hf h
    · have h := it_f c1 h
      refine G_aload_n X 1 dX4_addWord_12 rfl rfl ?_
      refine G_iload X 5 dX4_addWord_13 rfl ?_
      obtain ⟨g2, h⟩ := gd_some h
      refine G_bald X rfl ((rg_rs_ne _ _ hne).trans hy) g2 dX4_addWord_15 ?_
      obtain ⟨q3, hq3, h⟩ := bd_some h
      refine G_callS X (As := [.int (gI y 0 1 (ix a6))]) (rest := []) (T' := rs T r t) (st2 := [.int q3]) (ct_X4_isLetter (l := g.2.1) (κ := gκ g)   hq3) cal_X4_isLetter wM_X4_41 wT_X4_isLetter (by decide) rfl rfl (Nat.le_of_ble_eq_true rfl) ⟨Nat.zero_le _, Nat.zero_le _⟩ dX4_addWord_16 rfl ?_
      refine G_if_eq X (tgt := 55) dX4_addWord_19 (by decide) (fun c4 => ?_) (fun c4 => ?_)
      · have h := it_t c4 h
        refine G_sub [0, 2, 4, 5] rfl ?_
        exact gX4_addWord_b55 X hr hne hy hf h
      · have h := it_f c4 h
        refine G_iload X 5 dX4_addWord_22 rfl ?_
        refine G_iload_n X 2 dX4_addWord_24 rfl rfl ?_
        refine G_isub X dX4_addWord_25 ?_
        refine G_bipush X (v := (8 : Int32)) dX4_addWord_26 (by decide) ?_
        refine G_icmp_ge X (tgt := 49) dX4_addWord_28 (by decide) (fun c5 => ?_) (fun c5 => ?_)
        · have h := it_t c5 h
          obtain ⟨v6, ev6, h⟩ := nm_some h
          refine G_iinc X (v := v6) (lv' := [(6, .int v6), (0, .ref (xE (gκ g) r 0 0)), (1, .ref (xE (gκ g) 8 0 1)), (2, .int a2), (3, .int a3), (4, .long a4)]) 5 dX4_addWord_49 rfl (by rw [ev6]; rfl) (by decide) rfl ?_
          refine G_goto X (tgt := 6) dX4_addWord_52 (by decide) ?_
          refine G_sub [1, 2, 3, 4, 5, 0] rfl ?_
          exact ih _ _ _ _ _ h
        · have h := it_f c5 h
          refine G_lload X 4 dX4_addWord_31 rfl ?_
          refine G_aload_n X 1 dX4_addWord_33 rfl rfl ?_
          refine G_iload X 5 dX4_addWord_34 rfl ?_
          obtain ⟨g7, h⟩ := gd_some h
          refine G_bald X rfl ((rg_rs_ne _ _ hne).trans hy) g7 dX4_addWord_36 ?_
          refine G_i2l X dX4_addWord_37 ?_
          refine G_bipush X (v := (8 : Int32)) dX4_addWord_38 (by decide) ?_
          refine G_iload X 5 dX4_addWord_40 rfl ?_
          refine G_iload_n X 2 dX4_addWord_42 rfl rfl ?_
          refine G_isub X dX4_addWord_43 ?_
          refine G_imul X dX4_addWord_44 ?_
          refine G_lshl X dX4_addWord_45 ?_
          refine G_lor X dX4_addWord_46 ?_
          obtain ⟨v8, ev8, h⟩ := nm_some h
          refine G_nml ev8 ?_
          refine G_lstore X (lv' := [(4, .long v8), (0, .ref (xE (gκ g) r 0 0)), (1, .ref (xE (gκ g) 8 0 1)), (2, .int a2), (3, .int a3), (6, .int a6)]) dX4_addWord_47 (by decide) rfl ?_
          obtain ⟨v9, ev9, h⟩ := nm_some h
          refine G_iinc X (v := v9) (lv' := [(6, .int v9), (4, .long v8), (0, .ref (xE (gκ g) r 0 0)), (1, .ref (xE (gκ g) 8 0 1)), (2, .int a2), (3, .int a3)]) 5 dX4_addWord_49 rfl (by rw [ev9]; rfl) (by decide) rfl ?_
          refine G_goto X (tgt := 6) dX4_addWord_52 (by decide) ?_
          refine G_sub [2, 3, 4, 5, 1, 0] rfl ?_
          exact ih _ _ _ _ _ h
set_option maxRecDepth 20000 in
theorem gX4_addWord {g : GX} {T : TT} {r : Nat} {y : St}  {t : St} {a2 : Int32} {a3 : Int32} {res : St × Int32} (X : CX g RX4 cX4_addWord 7 1 24) (hr : kd r = kd 3) (hne : 8 ≠ r) (hy : rg T 8 = y) (hf : FinI g cX4_addWord .int (rs T r res.1) (res.2)) (h : sX4_addWord y t a2 a3 = some res) : G g 0 0 (rs T r t) 0 [(0, .ref (xE (gκ g) r 0 0)), (1, .ref (xE (gκ g) 8 0 1)), (2, .int a2), (3, .int a3)] [] := by
  unfold sX4_addWord at h
  refine G_lconst X (v := (0 : Int64)) dX4_addWord_0 (by decide) ?_
  refine G_lstore X (lv' := [(4, .long ((0 : Int64))), (0, .ref (xE (gκ g) r 0 0)), (1, .ref (xE (gκ g) 8 0 1)), (2, .int a2), (3, .int a3)]) dX4_addWord_1 (by decide) rfl ?_
  refine G_iload_n X 3 dX4_addWord_3 rfl rfl ?_
  refine G_istore X (lv' := [(6, .int a2), (4, .long ((0 : Int64))), (0, .ref (xE (gκ g) r 0 0)), (1, .ref (xE (gκ g) 8 0 1)), (2, .int a2), (3, .int a3)]) dX4_addWord_4 (by decide) rfl ?_
  refine G_sub [2, 3, 4, 5, 1, 0] rfl ?_
  exact gX4_addWord_b6 X hr hne hy hf FU _ _ _ _ _ h
set_option maxRecDepth 20000 in
theorem ct_X4_addWord {l : Launch} {κ : KX} {T : TT} {r : Nat} {y : St}  {t : St} {a2 : Int32} {a3 : Int32} {res : St × Int32} (hr : kd r = kd 3) (hne : 8 ≠ r) (hy : rg T 8 = y) (h : sX4_addWord y t a2 a3 = some res) : Ct l κ yX4_addWord cX4_addWord 7 (some .int) 1 24 [.ref (xE κ r 0 0), .ref (xE κ 8 0 1), .int a2, .int a3] (rs T r t) (rs T r res.1) (some (.int (res.2))) := by
  refine Ct_i RX4 rfl (by decide +kernel) (Nat.le_of_ble_eq_true rfl) (fun g hl hκ X hf => ?_)
  subst hl; subst hκ
  exact gX4_addWord X hr hne hy hf h
set_option maxRecDepth 20000 in
theorem gX4_isDigit {g : GX} {T : TT}   {a0 : Int32} {res : Int32} (X : CX g RX4 cX4_isDigit 1 0 0)  (hf : FinI g cX4_isDigit .boolean (T) (res)) (h : sX4_isDigit a0 = some res) : G g 0 0 (T) 0 [(0, .int a0)] [] := by
  unfold sX4_isDigit at h
  refine G_iload_n X 0 dX4_isDigit_0 rfl rfl ?_
  refine G_bipush X (v := (48 : Int32)) dX4_isDigit_1 (by decide) ?_
  refine G_icmp_lt X (tgt := 16) dX4_isDigit_3 (by decide) (fun c1 => ?_) (fun c1 => ?_)
  · have h := it_t c1 h
    refine G_iconst X (v := (0 : Int32)) dX4_isDigit_16 (by decide) ?_
    obtain rfl := Option.some.inj h
    exact hf _ _ dX4_isDigit_17 (isb_n (v := (0 : Int32)) rfl)
  · have h := it_f c1 h
    refine G_iload_n X 0 dX4_isDigit_6 rfl rfl ?_
    refine G_bipush X (v := (57 : Int32)) dX4_isDigit_7 (by decide) ?_
    refine G_icmp_gt X (tgt := 16) dX4_isDigit_9 (by decide) (fun c2 => ?_) (fun c2 => ?_)
    · have h := it_t c2 h
      refine G_iconst X (v := (0 : Int32)) dX4_isDigit_16 (by decide) ?_
      obtain rfl := Option.some.inj h
      exact hf _ _ dX4_isDigit_17 (isb_n (v := (0 : Int32)) rfl)
    · have h := it_f c2 h
      refine G_iconst X (v := (1 : Int32)) dX4_isDigit_12 (by decide) ?_
      refine G_goto X (tgt := 17) dX4_isDigit_13 (by decide) ?_
      obtain rfl := Option.some.inj h
      exact hf _ _ dX4_isDigit_17 (isb_n (v := (1 : Int32)) rfl)
set_option maxRecDepth 20000 in
theorem ct_X4_isDigit {l : Launch} {κ : KX} {T : TT}   {a0 : Int32} {res : Int32}  (h : sX4_isDigit a0 = some res) : Ct l κ yX4_isDigit cX4_isDigit 1 (some .boolean) 0 0 [.int a0] (T) (T) (some (.int (res))) := by
  refine Ct_i RX4 rfl (by decide +kernel) (Nat.le_of_ble_eq_true rfl) (fun g hl hκ X hf => ?_)
  subst hl; subst hκ
  exact gX4_isDigit X  hf h
set_option maxRecDepth 20000 in
theorem gX4_addNumber_b65 {g : GX} {T : TT} {r : Nat} {y : St}  {t : St} {a2 : Int32} {a4 : Int32} {a5 : Int32} {s0 : Int32} {res : St × Int32}  (X : CX g RX4 cX4_addNumber 6 1 24) (hr : kd r = kd 3) (hne : 8 ≠ r) (hy : rg T 8 = y) (hf : FinI g cX4_addNumber .int (rs T r res.1) (res.2))   (h : sX4_addNumber_b65  y t a2 a4 a5 s0 = some res) : G g 0 0 (rs T r t) 65 [(2, .int a2), (4, .int a4), (5, .int a5)] [.int s0, .ref (xE (gκ g) r 0 0)] := by
  unfold sX4_addNumber_b65 at h
  refine G_iload_n X 0 dX4_addNumber_65 rfl rfl ?_
  refine G_iload X 1 dX4_addNumber_66 rfl ?_
  refine G_i2l X dX4_addNumber_68 ?_
  obtain ⟨q11, hq11, h⟩ := bd_some h
  refine G_callV X (As := [.int s0, .int a2, .long a4.toInt64]) (rest := []) (T' := rs T r q11) (st2 := []) (ct_X4_add (l := g.2.1) (κ := gκ g) (T := T) (r := r) (t := t) hr hq11) cal_X4_add wM_X4_59 wI_X4_add wS_X4_add (congrFun (congrFun hr 0) 0) rfl (by decide) rfl rfl (Nat.le_of_ble_eq_true rfl) ⟨Nat.zero_le _, Nat.zero_le _⟩ dX4_addNumber_69 rfl ?_
  refine G_iload X 2 dX4_addNumber_72 rfl ?_
  obtain rfl := Option.some.inj h
  exact hf _ _ dX4_addNumber_74 rfl
set_option maxRecDepth 20000 in
theorem gX4_addNumber_b51 {g : GX} {T : TT} {r : Nat} {y : St}  {t : St} {a2 : Int32} {a4 : Int32} {a5 : Int32} {res : St × Int32}  (X : CX g RX4 cX4_addNumber 6 1 24) (hr : kd r = kd 3) (hne : 8 ≠ r) (hy : rg T 8 = y) (hf : FinI g cX4_addNumber .int (rs T r res.1) (res.2))   (h : sX4_addNumber_b51  y t a2 a4 a5 = some res) : G g 0 0 (rs T r t) 51 [(0, .ref (xE (gκ g) r 0 0)), (2, .int a2), (4, .int a4), (5, .int a5)] [] := by
  unfold sX4_addNumber_b51 at h
  refine G_aload_n X 0 dX4_addNumber_51 rfl rfl ?_
  refine G_iload X 3 dX4_addNumber_52 rfl ?_
  refine G_iload_n X 1 dX4_addNumber_54 rfl rfl ?_
  refine G_isub X dX4_addNumber_55 ?_
  refine G_iconst X (v := (3 : Int32)) dX4_addNumber_56 (by decide) ?_
  refine G_icmp_le X (tgt := 64) dX4_addNumber_57 (by decide) (fun c10 => ?_) (fun c10 => ?_)
  · have h := it_t c10 h
    refine G_iconst X (v := (2 : Int32)) dX4_addNumber_64 (by decide) ?_
    refine G_sub [1, 2, 3] rfl ?_
    exact gX4_addNumber_b65 X hr hne hy hf h
  · have h := it_f c10 h
    refine G_iconst X (v := (3 : Int32)) dX4_addNumber_60 (by decide) ?_
    refine G_goto X (tgt := 65) dX4_addNumber_61 (by decide) ?_
    refine G_sub [1, 2, 3] rfl ?_
    exact gX4_addNumber_b65 X hr hne hy hf h
set_option maxRecDepth 20000 in
theorem gX4_addNumber_b6 {g : GX} {T : TT} {r : Nat} {y : St}   {res : St × Int32}  (X : CX g RX4 cX4_addNumber 6 1 24) (hr : kd r = kd 3) (hne : 8 ≠ r) (hy : rg T 8 = y) (hf : FinI g cX4_addNumber .int (rs T r res.1) (res.2))  : ∀ (n : Nat) (t : St) (a2 : Int32) (a3 : Int32) (a4 : Int32) (a5 : Int32) (h : sX4_addNumber_b6 n  y t a2 a3 a4 a5 = some res), G g 0 0 (rs T r t) 6 [(0, .ref (xE (gκ g) r 0 0)), (1, .ref (xE (gκ g) 8 0 1)), (2, .int a2), (3, .int a3), (4, .int a4), (5, .int a5)] [] := by
  intro n
  induction n with
  | zero => intro t a2 a3 a4 a5 h; unfold sX4_addNumber_b6 at h; cases h
  | succ n ih =>
    intro t a2 a3 a4 a5 h
    unfold sX4_addNumber_b6 at h
    refine G_iload X 5 dX4_addNumber_6 rfl ?_
    refine G_iload_n X 3 dX4_addNumber_8 rfl rfl ?_
    refine G_icmp_ge X (tgt := 51) dX4_addNumber_9 (by decide) (fun c1 => ?_) (fun c1 => ?_)
    · have h := it_t c1 h
      refine G_sub [0, 2, 4, 5] rfl ?_
      exact gX4_addNumber_b51 X hr hne hy hf h
    · have h := it_f c1 h
      refine G_aload_n X 1 dX4_addNumber_12 rfl rfl ?_
      refine G_iload X 5 dX4_addNumber_13 rfl ?_
      obtain ⟨g2, h⟩ := gd_some h
      refine G_bald X rfl ((rg_rs_ne _ _ hne).trans hy) g2 dX4_addNumber_15 ?_
      obtain ⟨q3, hq3, h⟩ := bd_some h
      refine G_callS X (As := [.int (gI y 0 1 (ix a5))]) (rest := []) (T' := rs T r t) (st2 := [.int q3]) (ct_X4_isDigit (l := g.2.1) (κ := gκ g)   hq3) cal_X4_isDigit wM_X4_49 wT_X4_isDigit (by decide) rfl rfl (Nat.le_of_ble_eq_true rfl) ⟨Nat.zero_le _, Nat.zero_le _⟩ dX4_addNumber_16 rfl ?_
      refine G_if_eq X (tgt := 51) dX4_addNumber_19 (by decide) (fun c4 => ?_) (fun c4 => ?_)
      · have h := it_t c4 h
        refine G_sub [0, 2, 4, 5] rfl ?_
        exact gX4_addNumber_b51 X hr hne hy hf h
      · have h := it_f c4 h
        refine G_iload X 5 dX4_addNumber_22 rfl ?_
        refine G_iload_n X 2 dX4_addNumber_24 rfl rfl ?_
        refine G_isub X dX4_addNumber_25 ?_
        refine G_iconst X (v := (3 : Int32)) dX4_addNumber_26 (by decide) ?_
        refine G_icmp_ge X (tgt := 45) dX4_addNumber_27 (by decide) (fun c5 => ?_) (fun c5 => ?_)
        · have h := it_t c5 h
          obtain ⟨v6, ev6, h⟩ := nm_some h
          refine G_iinc X (v := v6) (lv' := [(5, .int v6), (0, .ref (xE (gκ g) r 0 0)), (1, .ref (xE (gκ g) 8 0 1)), (2, .int a2), (3, .int a3), (4, .int a4)]) 5 dX4_addNumber_45 rfl (by rw [ev6]; rfl) (by decide) rfl ?_
          refine G_goto X (tgt := 6) dX4_addNumber_48 (by decide) ?_
          refine G_sub [1, 2, 3, 4, 5, 0] rfl ?_
          exact ih _ _ _ _ _ h
        · have h := it_f c5 h
          refine G_iload X 4 dX4_addNumber_30 rfl ?_
          refine G_bipush X (v := (10 : Int32)) dX4_addNumber_32 (by decide) ?_
          refine G_imul X dX4_addNumber_34 ?_
          refine G_aload_n X 1 dX4_addNumber_35 rfl rfl ?_
          refine G_iload X 5 dX4_addNumber_36 rfl ?_
          obtain ⟨g7, h⟩ := gd_some h
          refine G_bald X rfl ((rg_rs_ne _ _ hne).trans hy) g7 dX4_addNumber_38 ?_
          refine G_iadd X dX4_addNumber_39 ?_
          refine G_bipush X (v := (48 : Int32)) dX4_addNumber_40 (by decide) ?_
          refine G_isub X dX4_addNumber_42 ?_
          obtain ⟨v8, ev8, h⟩ := nm_some h
          refine G_nmi ev8 ?_
          refine G_istore X (lv' := [(4, .int v8), (0, .ref (xE (gκ g) r 0 0)), (1, .ref (xE (gκ g) 8 0 1)), (2, .int a2), (3, .int a3), (5, .int a5)]) dX4_addNumber_43 (by decide) rfl ?_
          obtain ⟨v9, ev9, h⟩ := nm_some h
          refine G_iinc X (v := v9) (lv' := [(5, .int v9), (4, .int v8), (0, .ref (xE (gκ g) r 0 0)), (1, .ref (xE (gκ g) 8 0 1)), (2, .int a2), (3, .int a3)]) 5 dX4_addNumber_45 rfl (by rw [ev9]; rfl) (by decide) rfl ?_
          refine G_goto X (tgt := 6) dX4_addNumber_48 (by decide) ?_
          refine G_sub [2, 3, 4, 5, 1, 0] rfl ?_
          exact ih _ _ _ _ _ h
set_option maxRecDepth 20000 in
theorem gX4_addNumber {g : GX} {T : TT} {r : Nat} {y : St}  {t : St} {a2 : Int32} {a3 : Int32} {res : St × Int32} (X : CX g RX4 cX4_addNumber 6 1 24) (hr : kd r = kd 3) (hne : 8 ≠ r) (hy : rg T 8 = y) (hf : FinI g cX4_addNumber .int (rs T r res.1) (res.2)) (h : sX4_addNumber y t a2 a3 = some res) : G g 0 0 (rs T r t) 0 [(0, .ref (xE (gκ g) r 0 0)), (1, .ref (xE (gκ g) 8 0 1)), (2, .int a2), (3, .int a3)] [] := by
  unfold sX4_addNumber at h
  refine G_iconst X (v := (0 : Int32)) dX4_addNumber_0 (by decide) ?_
  refine G_istore X (lv' := [(4, .int ((0 : Int32))), (0, .ref (xE (gκ g) r 0 0)), (1, .ref (xE (gκ g) 8 0 1)), (2, .int a2), (3, .int a3)]) dX4_addNumber_1 (by decide) rfl ?_
  refine G_iload_n X 3 dX4_addNumber_3 rfl rfl ?_
  refine G_istore X (lv' := [(5, .int a2), (4, .int ((0 : Int32))), (0, .ref (xE (gκ g) r 0 0)), (1, .ref (xE (gκ g) 8 0 1)), (2, .int a2), (3, .int a3)]) dX4_addNumber_4 (by decide) rfl ?_
  refine G_sub [2, 3, 4, 5, 1, 0] rfl ?_
  exact gX4_addNumber_b6 X hr hne hy hf FU _ _ _ _ _ h
set_option maxRecDepth 20000 in
theorem ct_X4_addNumber {l : Launch} {κ : KX} {T : TT} {r : Nat} {y : St}  {t : St} {a2 : Int32} {a3 : Int32} {res : St × Int32} (hr : kd r = kd 3) (hne : 8 ≠ r) (hy : rg T 8 = y) (h : sX4_addNumber y t a2 a3 = some res) : Ct l κ yX4_addNumber cX4_addNumber 6 (some .int) 1 24 [.ref (xE κ r 0 0), .ref (xE κ 8 0 1), .int a2, .int a3] (rs T r t) (rs T r res.1) (some (.int (res.2))) := by
  refine Ct_i RX4 rfl (by decide +kernel) (Nat.le_of_ble_eq_true rfl) (fun g hl hκ X hf => ?_)
  subst hl; subst hκ
  exact gX4_addNumber X hr hne hy hf h
set_option maxRecDepth 20000 in
theorem gX4_addSign_b18 {g : GX} {T : TT} {r : Nat}  {t : St} {a1 : Int32} {a2 : Int32} {res : St}  (X : CX g RX4 cX4_addSign 3 1 24) (hr : kd r = kd 3) (hf : FinV g cX4_addSign (rs T r res))   (h : sX4_addSign_b18  t a1 a2 = some res) : G g 0 0 (rs T r t) 18 [(0, .ref (xE (gκ g) r 0 0)), (1, .int a1), (2, .int a2)] [] := by
  unfold sX4_addSign_b18 at h
  refine G_aload_n X 0 dX4_addSign_18 rfl rfl ?_
  refine G_iload_n X 1 dX4_addSign_19 rfl rfl ?_
  refine G_iload_n X 2 dX4_addSign_20 rfl rfl ?_
  refine G_lconst X (v := (0 : Int64)) dX4_addSign_21 (by decide) ?_
  obtain ⟨q7, hq7, h⟩ := bd_some h
  refine G_callV X (As := [.int a1, .int a2, .long ((0 : Int64))]) (rest := []) (T' := rs T r q7) (st2 := []) (ct_X4_add (l := g.2.1) (κ := gκ g) (T := T) (r := r) (t := t) hr hq7) cal_X4_add wM_X4_59 wI_X4_add wS_X4_add (congrFun (congrFun hr 0) 0) rfl (by decide) rfl rfl (Nat.le_of_ble_eq_true rfl) ⟨Nat.zero_le _, Nat.zero_le _⟩ dX4_addSign_22 rfl ?_
  refine G_goto X (tgt := 47) dX4_addSign_25 (by decide) ?_
  obtain rfl := Option.some.inj h
  exact hf _ _ dX4_addSign_47
set_option maxRecDepth 20000 in
theorem gX4_addSign {g : GX} {T : TT} {r : Nat}  {t : St} {a1 : Int32} {a2 : Int32} {res : St} (X : CX g RX4 cX4_addSign 3 1 24) (hr : kd r = kd 3) (hf : FinV g cX4_addSign (rs T r res)) (h : sX4_addSign t a1 a2 = some res) : G g 0 0 (rs T r t) 0 [(0, .ref (xE (gκ g) r 0 0)), (1, .int a1), (2, .int a2)] [] := by
  unfold sX4_addSign at h
  refine G_iload_n X 1 dX4_addSign_0 rfl rfl ?_
  refine G_bipush X (v := (59 : Int32)) dX4_addSign_1 (by decide) ?_
  refine G_icmp_eq X (tgt := 18) dX4_addSign_3 (by decide) (fun c1 => ?_) (fun c1 => ?_)
  · have h := it_t c1 h
    exact gX4_addSign_b18 X hr hf h
  · have h := it_f c1 h
    refine G_iload_n X 1 dX4_addSign_6 rfl rfl ?_
    refine G_bipush X (v := (40 : Int32)) dX4_addSign_7 (by decide) ?_
    refine G_icmp_eq X (tgt := 18) dX4_addSign_9 (by decide) (fun c2 => ?_) (fun c2 => ?_)
    · have h := it_t c2 h
      exact gX4_addSign_b18 X hr hf h
    · have h := it_f c2 h
      refine G_iload_n X 1 dX4_addSign_12 rfl rfl ?_
      refine G_bipush X (v := (41 : Int32)) dX4_addSign_13 (by decide) ?_
      refine G_icmp_ne X (tgt := 28) dX4_addSign_15 (by decide) (fun c3 => ?_) (fun c3 => ?_)
      · have h := it_t c3 h
        refine G_iload_n X 1 dX4_addSign_28 rfl rfl ?_
        refine G_bipush X (v := (32 : Int32)) dX4_addSign_29 (by decide) ?_
        refine G_icmp_eq X (tgt := 47) dX4_addSign_31 (by decide) (fun c4 => ?_) (fun c4 => ?_)
        · have h := it_t c4 h
          obtain rfl := Option.some.inj h
          exact hf _ _ dX4_addSign_47
        · have h := it_f c4 h
          refine G_iload_n X 1 dX4_addSign_34 rfl rfl ?_
          refine G_bipush X (v := (10 : Int32)) dX4_addSign_35 (by decide) ?_
          refine G_icmp_eq X (tgt := 47) dX4_addSign_37 (by decide) (fun c5 => ?_) (fun c5 => ?_)
          · have h := it_t c5 h
            obtain rfl := Option.some.inj h
            exact hf _ _ dX4_addSign_47
          · have h := it_f c5 h
            refine G_aload_n X 0 dX4_addSign_40 rfl rfl ?_
            refine G_iconst X (v := (3 : Int32)) dX4_addSign_41 (by decide) ?_
            refine G_iload_n X 2 dX4_addSign_42 rfl rfl ?_
            refine G_lconst X (v := (0 : Int64)) dX4_addSign_43 (by decide) ?_
            obtain ⟨q6, hq6, h⟩ := bd_some h
            refine G_callV X (As := [.int ((3 : Int32)), .int a2, .long ((0 : Int64))]) (rest := []) (T' := rs T r q6) (st2 := []) (ct_X4_add (l := g.2.1) (κ := gκ g) (T := T) (r := r) (t := t) hr hq6) cal_X4_add wM_X4_59 wI_X4_add wS_X4_add (congrFun (congrFun hr 0) 0) rfl (by decide) rfl rfl (Nat.le_of_ble_eq_true rfl) ⟨Nat.zero_le _, Nat.zero_le _⟩ dX4_addSign_44 rfl ?_
            obtain rfl := Option.some.inj h
            exact hf _ _ dX4_addSign_47
      · have h := it_f (fun k => k c3) h
        exact gX4_addSign_b18 X hr hf h
set_option maxRecDepth 20000 in
theorem ct_X4_addSign {l : Launch} {κ : KX} {T : TT} {r : Nat}  {t : St} {a1 : Int32} {a2 : Int32} {res : St} (hr : kd r = kd 3) (h : sX4_addSign t a1 a2 = some res) : Ct l κ yX4_addSign cX4_addSign 3 none 1 24 [.ref (xE κ r 0 0), .int a1, .int a2] (rs T r t) (rs T r res) none := by
  refine Ct_v RX4 rfl (by decide +kernel) (Nat.le_of_ble_eq_true rfl) (fun g hl hκ X hf => ?_)
  subst hl; subst hκ
  exact gX4_addSign X hr hf h
set_option maxRecDepth 20000 in
theorem gX4_begin_b112 {g : GX} {T : TT} {r : Nat} {y : St}  {t : St} {a3 : Int32} {res : St}  (X : CX g RX4 cX4_begin 6 2 50) (hr : kd r = kd 3) (hne : 8 ≠ r) (hy : rg T 8 = y) (hf : FinV g cX4_begin (rs T r res))   (h : sX4_begin_b112  y t a3 = some res) : G g 0 0 (rs T r t) 112 [(0, .ref (xE (gκ g) r 0 0)), (3, .int a3)] [] := by
  unfold sX4_begin_b112 at h
  refine G_aload_n X 0 dX4_begin_112 rfl rfl ?_
  refine G_iconst X (v := (0 : Int32)) dX4_begin_113 (by decide) ?_
  refine G_iload_n X 1 dX4_begin_114 rfl rfl ?_
  refine G_lconst X (v := (0 : Int64)) dX4_begin_115 (by decide) ?_
  obtain ⟨q22, hq22, h⟩ := bd_some h
  refine G_callV X (As := [.int ((0 : Int32)), .int a3, .long ((0 : Int64))]) (rest := []) (T' := rs T r q22) (st2 := []) (ct_X4_add (l := g.2.1) (κ := gκ g) (T := T) (r := r) (t := t) hr hq22) cal_X4_add wM_X4_59 wI_X4_add wS_X4_add (congrFun (congrFun hr 0) 0) rfl (by decide) rfl rfl (Nat.le_of_ble_eq_true rfl) ⟨Nat.zero_le _, Nat.zero_le _⟩ dX4_begin_116 rfl ?_
  refine G_aload_n X 0 dX4_begin_119 rfl rfl ?_
  obtain ⟨q23, hq23, h⟩ := bd_some h
  refine G_callV X (As := []) (rest := []) (T' := rs T r q23) (st2 := []) (ct_X4_advance (l := g.2.1) (κ := gκ g) (T := T) (r := r) (t := q22) hr hq23) cal_X4_advance wM_X4_63 wI_X4_advance wS_X4_advance (congrFun (congrFun hr 0) 0) rfl (by decide) rfl rfl (Nat.le_of_ble_eq_true rfl) ⟨Nat.zero_le _, Nat.zero_le _⟩ dX4_begin_120 rfl ?_
  obtain rfl := Option.some.inj h
  exact hf _ _ dX4_begin_123
set_option maxRecDepth 20000 in
theorem gX4_begin_b33 {g : GX} {T : TT} {r : Nat} {y : St}   {res : St}  (X : CX g RX4 cX4_begin 6 2 50) (hr : kd r = kd 3) (hne : 8 ≠ r) (hy : rg T 8 = y) (hf : FinV g cX4_begin (rs T r res))  : ∀ (n : Nat) (t : St) (a3 : Int32) (a4 : Int32) (a5 : Int32) (h : sX4_begin_b33 n  y t a3 a4 a5 = some res), G g 0 0 (rs T r t) 33 [(0, .ref (xE (gκ g) r 0 0)), (1, .ref (xE (gκ g) 8 0 1)), (3, .int a3), (4, .int a4), (5, .int a5)] [] := by
  intro n
  induction n with
  | zero => intro t a3 a4 a5 h; unfold sX4_begin_b33 at h; cases h
  | succ n ih =>
    intro t a3 a4 a5 h
    unfold sX4_begin_b33 at h
    refine G_iload X 4 dX4_begin_33 rfl ?_
    refine G_sipush X (v := (700 : Int32)) dX4_begin_35 (by decide) ?_
    refine G_icmp_ge X (tgt := 112) dX4_begin_38 (by decide) (fun c6 => ?_) (fun c6 => ?_)
    · have h := it_t c6 h
      refine G_sub [0, 2] rfl ?_
      exact gX4_begin_b112 X hr hne hy hf h
    · have h := it_f c6 h
      refine G_iload X 3 dX4_begin_41 rfl ?_
      refine G_iload_n X 2 dX4_begin_43 rfl rfl ?_
      refine G_icmp_ge X (tgt := 112) dX4_begin_44 (by decide) (fun c7 => ?_) (fun c7 => ?_)
      · have h := it_t c7 h
        refine G_sub [0, 2] rfl ?_
        exact gX4_begin_b112 X hr hne hy hf h
      · have h := it_f c7 h
        refine G_aload_n X 1 dX4_begin_47 rfl rfl ?_
        refine G_iload X 3 dX4_begin_48 rfl ?_
        obtain ⟨g8, h⟩ := gd_some h
        refine G_bald X rfl ((rg_rs_ne _ _ hne).trans hy) g8 dX4_begin_50 ?_
        obtain ⟨q9, hq9, h⟩ := bd_some h
        refine G_callS X (As := [.int (gI y 0 1 (ix a4))]) (rest := []) (T' := rs T r t) (st2 := [.int q9]) (ct_X4_isLetter (l := g.2.1) (κ := gκ g)   hq9) cal_X4_isLetter wM_X4_41 wT_X4_isLetter (by decide) rfl rfl (Nat.le_of_ble_eq_true rfl) ⟨Nat.zero_le _, Nat.zero_le _⟩ dX4_begin_51 rfl ?_
        refine G_if_eq X (tgt := 70) dX4_begin_54 (by decide) (fun c10 => ?_) (fun c10 => ?_)
        · have h := it_t c10 h
          refine G_aload_n X 1 dX4_begin_70 rfl rfl ?_
          refine G_iload X 3 dX4_begin_71 rfl ?_
          obtain ⟨g11, h⟩ := gd_some h
          refine G_bald X rfl ((rg_rs_ne _ _ hne).trans hy) g11 dX4_begin_73 ?_
          obtain ⟨q12, hq12, h⟩ := bd_some h
          refine G_callS X (As := [.int (gI y 0 1 (ix a4))]) (rest := []) (T' := rs T r t) (st2 := [.int q12]) (ct_X4_isDigit (l := g.2.1) (κ := gκ g)   hq12) cal_X4_isDigit wM_X4_49 wT_X4_isDigit (by decide) rfl rfl (Nat.le_of_ble_eq_true rfl) ⟨Nat.zero_le _, Nat.zero_le _⟩ dX4_begin_74 rfl ?_
          refine G_if_eq X (tgt := 93) dX4_begin_77 (by decide) (fun c13 => ?_) (fun c13 => ?_)
          · have h := it_t c13 h
            refine G_aload_n X 0 dX4_begin_93 rfl rfl ?_
            refine G_aload_n X 1 dX4_begin_94 rfl rfl ?_
            refine G_iload X 3 dX4_begin_95 rfl ?_
            obtain ⟨g14, h⟩ := gd_some h
            refine G_bald X rfl ((rg_rs_ne _ _ hne).trans hy) g14 dX4_begin_97 ?_
            refine G_iload X 3 dX4_begin_98 rfl ?_
            obtain ⟨q15, hq15, h⟩ := bd_some h
            refine G_callV X (As := [.int (gI y 0 1 (ix a4)), .int a4]) (rest := []) (T' := rs T r q15) (st2 := []) (ct_X4_addSign (l := g.2.1) (κ := gκ g) (T := T) (r := r) (t := t) hr hq15) cal_X4_addSign wM_X4_55 wI_X4_addSign wS_X4_addSign (congrFun (congrFun hr 0) 0) rfl (by decide) rfl rfl (Nat.le_of_ble_eq_true rfl) ⟨Nat.zero_le _, Nat.zero_le _⟩ dX4_begin_100 rfl ?_
            obtain ⟨v16, ev16, h⟩ := nm_some h
            refine G_iinc X (v := v16) (lv' := [(4, .int v16), (0, .ref (xE (gκ g) r 0 0)), (1, .ref (xE (gκ g) 8 0 1)), (3, .int a3), (5, .int a5)]) 3 dX4_begin_103 rfl (by rw [ev16]; rfl) (by decide) rfl ?_
            obtain ⟨v17, ev17, h⟩ := nm_some h
            refine G_iinc X (v := v17) (lv' := [(5, .int v17), (4, .int v16), (0, .ref (xE (gκ g) r 0 0)), (1, .ref (xE (gκ g) 8 0 1)), (3, .int a3)]) 4 dX4_begin_106 rfl (by rw [ev17]; rfl) (by decide) rfl ?_
            refine G_goto X (tgt := 33) dX4_begin_109 (by decide) ?_
            refine G_sub [2, 3, 4, 1, 0] rfl ?_
            exact ih _ _ _ _ h
          · have h := it_f c13 h
            refine G_aload_n X 0 dX4_begin_80 rfl rfl ?_
            refine G_aload_n X 1 dX4_begin_81 rfl rfl ?_
            refine G_iload X 3 dX4_begin_82 rfl ?_
            refine G_iload_n X 2 dX4_begin_84 rfl rfl ?_
            obtain ⟨q18, hq18, h⟩ := bd_some h
            refine G_callV X (As := [.ref (xE (gκ g) 8 0 1), .int a4, .int a3]) (rest := []) (T' := rs T r q18.1) (st2 := [.int q18.2]) (ct_X4_addNumber (l := g.2.1) (κ := gκ g) (T := T) (r := r) (t := t) hr hne hy hq18) cal_X4_addNumber wM_X4_52 wI_X4_addNumber wS_X4_addNumber (congrFun (congrFun hr 0) 0) rfl (by decide) rfl rfl (Nat.le_of_ble_eq_true rfl) ⟨Nat.zero_le _, Nat.zero_le _⟩ dX4_begin_85 rfl ?_
            refine G_istore X (lv' := [(4, .int q18.2), (0, .ref (xE (gκ g) r 0 0)), (1, .ref (xE (gκ g) 8 0 1)), (3, .int a3), (5, .int a5)]) dX4_begin_88 (by decide) rfl ?_
            refine G_goto X (tgt := 106) dX4_begin_90 (by decide) ?_
            obtain ⟨v19, ev19, h⟩ := nm_some h
            refine G_iinc X (v := v19) (lv' := [(5, .int v19), (4, .int q18.2), (0, .ref (xE (gκ g) r 0 0)), (1, .ref (xE (gκ g) 8 0 1)), (3, .int a3)]) 4 dX4_begin_106 rfl (by rw [ev19]; rfl) (by decide) rfl ?_
            refine G_goto X (tgt := 33) dX4_begin_109 (by decide) ?_
            refine G_sub [2, 3, 4, 1, 0] rfl ?_
            exact ih _ _ _ _ h
        · have h := it_f c10 h
          refine G_aload_n X 0 dX4_begin_57 rfl rfl ?_
          refine G_aload_n X 1 dX4_begin_58 rfl rfl ?_
          refine G_iload X 3 dX4_begin_59 rfl ?_
          refine G_iload_n X 2 dX4_begin_61 rfl rfl ?_
          obtain ⟨q20, hq20, h⟩ := bd_some h
          refine G_callV X (As := [.ref (xE (gκ g) 8 0 1), .int a4, .int a3]) (rest := []) (T' := rs T r q20.1) (st2 := [.int q20.2]) (ct_X4_addWord (l := g.2.1) (κ := gκ g) (T := T) (r := r) (t := t) hr hne hy hq20) cal_X4_addWord wM_X4_45 wI_X4_addWord wS_X4_addWord (congrFun (congrFun hr 0) 0) rfl (by decide) rfl rfl (Nat.le_of_ble_eq_true rfl) ⟨Nat.zero_le _, Nat.zero_le _⟩ dX4_begin_62 rfl ?_
          refine G_istore X (lv' := [(4, .int q20.2), (0, .ref (xE (gκ g) r 0 0)), (1, .ref (xE (gκ g) 8 0 1)), (3, .int a3), (5, .int a5)]) dX4_begin_65 (by decide) rfl ?_
          refine G_goto X (tgt := 106) dX4_begin_67 (by decide) ?_
          obtain ⟨v21, ev21, h⟩ := nm_some h
          refine G_iinc X (v := v21) (lv' := [(5, .int v21), (4, .int q20.2), (0, .ref (xE (gκ g) r 0 0)), (1, .ref (xE (gκ g) 8 0 1)), (3, .int a3)]) 4 dX4_begin_106 rfl (by rw [ev21]; rfl) (by decide) rfl ?_
          refine G_goto X (tgt := 33) dX4_begin_109 (by decide) ?_
          refine G_sub [2, 3, 4, 1, 0] rfl ?_
          exact ih _ _ _ _ h
set_option maxRecDepth 20000 in
theorem gX4_begin {g : GX} {T : TT} {r : Nat} {y : St}  {t : St} {a2 : Int32} {res : St} (X : CX g RX4 cX4_begin 6 2 50) (hr : kd r = kd 3) (hne : 8 ≠ r) (hy : rg T 8 = y) (hf : FinV g cX4_begin (rs T r res)) (h : sX4_begin y t a2 = some res) : G g 0 0 (rs T r t) 0 [(0, .ref (xE (gκ g) r 0 0)), (1, .ref (xE (gκ g) 8 0 1)), (2, .int a2)] [] := by
  unfold sX4_begin at h
  refine G_iload_n X 2 dX4_begin_0 rfl rfl ?_
  refine G_aload_n X 1 dX4_begin_1 rfl rfl ?_
  refine G_alen X (t := 1) (v := (700 : Int32)) rfl (by decide) (by decide) dX4_begin_2 ?_
  refine G_mmin X wM_X4_26 (by decide) (Nat.le_of_ble_eq_true rfl) ⟨Nat.zero_le _, Nat.zero_le _⟩ dX4_begin_3 ?_
  obtain ⟨v1, ev1, h⟩ := nm_some h
  refine G_nmi ev1 ?_
  refine G_istore_n X (lv' := [(3, .int v1), (0, .ref (xE (gκ g) r 0 0)), (1, .ref (xE (gκ g) 8 0 1)), (2, .int a2)]) dX4_begin_6 rfl (by decide) rfl ?_
  refine G_aload_n X 1 dX4_begin_7 rfl rfl ?_
  refine G_iconst X (v := (0 : Int32)) dX4_begin_8 (by decide) ?_
  obtain ⟨z2, ez2, h⟩ := nm_some h
  refine p_X4_32 X (T' := rs T r z2) (congrFun (congrFun hr 0) 0) (rg_rs _ _ _)  (by rw [rs_rs, ez2]) dX4_begin_9 ?_
  refine G_aload_n X 1 dX4_begin_12 rfl rfl ?_
  refine G_iconst X (v := (0 : Int32)) dX4_begin_13 (by decide) ?_
  obtain ⟨z3, ez3, h⟩ := nm_some h
  refine p_X4_35 X (T' := rs T r z3) (congrFun (congrFun hr 0) 0) (rg_rs _ _ _)  (by rw [rs_rs, ez3]) dX4_begin_14 ?_
  refine G_aload_n X 1 dX4_begin_17 rfl rfl ?_
  refine G_iconst X (v := (0 : Int32)) dX4_begin_18 (by decide) ?_
  obtain ⟨z4, ez4, h⟩ := nm_some h
  refine p_X4_38 X (T' := rs T r z4) (congrFun (congrFun hr 0) 0) (rg_rs _ _ _)  (by rw [rs_rs, ez4]) dX4_begin_19 ?_
  refine G_aload_n X 1 dX4_begin_22 rfl rfl ?_
  refine G_iconst X (v := (-1 : Int32)) dX4_begin_23 (by decide) ?_
  obtain ⟨z5, ez5, h⟩ := nm_some h
  refine p_X4_22 X (T' := rs T r z5) (congrFun (congrFun hr 0) 0) (rg_rs _ _ _)  (by rw [rs_rs, ez5]) dX4_begin_24 ?_
  refine G_iconst X (v := (0 : Int32)) dX4_begin_27 (by decide) ?_
  refine G_istore X (lv' := [(4, .int ((0 : Int32))), (3, .int v1), (0, .ref (xE (gκ g) r 0 0)), (1, .ref (xE (gκ g) 8 0 1)), (2, .int a2)]) dX4_begin_28 (by decide) rfl ?_
  refine G_iconst X (v := (0 : Int32)) dX4_begin_30 (by decide) ?_
  refine G_istore X (lv' := [(5, .int ((0 : Int32))), (4, .int ((0 : Int32))), (3, .int v1), (0, .ref (xE (gκ g) r 0 0)), (1, .ref (xE (gκ g) 8 0 1)), (2, .int a2)]) dX4_begin_31 (by decide) rfl ?_
  refine G_sub [3, 4, 2, 1, 0] rfl ?_
  exact gX4_begin_b33 X hr hne hy hf FU _ _ _ _ h
set_option maxRecDepth 20000 in
theorem ct_X4_begin {l : Launch} {κ : KX} {T : TT} {r : Nat} {y : St}  {t : St} {a2 : Int32} {res : St} (hr : kd r = kd 3) (hne : 8 ≠ r) (hy : rg T 8 = y) (h : sX4_begin y t a2 = some res) : Ct l κ yX4_begin cX4_begin 6 none 2 50 [.ref (xE κ r 0 0), .ref (xE κ 8 0 1), .int a2] (rs T r t) (rs T r res) none := by
  refine Ct_v RX4 rfl (by decide +kernel) (Nat.le_of_ble_eq_true rfl) (fun g hl hκ X hf => ?_)
  subst hl; subst hκ
  exact gX4_begin X hr hne hy hf h
set_option maxRecDepth 20000 in
theorem gX5_copyFrom_b99 {g : GX} {T : TT} {r : Nat} {r2 : Nat} {y : St}   {res : St}  (X : CX g RX5 cX5_copyFrom 3 1 22) (hr : isW r) (hr2 : isW r2) (hne : r2 ≠ r) (hy : rg T r2 = y) (hf : FinV g cX5_copyFrom (rs T r res))  : ∀ (n : Nat) (x : St) (a2 : Int32) (h : sX5_copyFrom_b99 n  y x a2 = some res), G g 0 0 (rs T r x) 99 [(0, .ref (xE (gκ g) r 0 0)), (1, .ref (xE (gκ g) r2 0 0)), (2, .int a2)] [] := by
  intro n
  induction n with
  | zero => intro x a2 h; unfold sX5_copyFrom_b99 at h; cases h
  | succ n ih =>
    intro x a2 h
    unfold sX5_copyFrom_b99 at h
    refine G_iload_n X 2 dX5_copyFrom_99 rfl rfl ?_
    refine G_aload_n X 0 dX5_copyFrom_100 rfl rfl ?_
    refine f_X5_25 X (kd_w0 hr) (rg_rs _ _ _) dX5_copyFrom_101 ?_
    refine G_icmp_ge X (tgt := 128) dX5_copyFrom_104 (by decide) (fun c15 => ?_) (fun c15 => ?_)
    · have h := it_t c15 h
      obtain rfl := Option.some.inj h
      exact hf _ _ dX5_copyFrom_128
    · have h := it_f c15 h
      refine G_aload_n X 0 dX5_copyFrom_107 rfl rfl ?_
      refine f_X5_17 X (kd_w0 hr) rfl dX5_copyFrom_108 ?_
      refine G_iload_n X 2 dX5_copyFrom_111 rfl rfl ?_
      obtain ⟨g16, h⟩ := gd_some h
      refine G_aaldB X (kd_w2 hr) g16 dX5_copyFrom_112 ?_
      refine G_aload_n X 1 dX5_copyFrom_113 rfl rfl ?_
      refine f_X5_17 X (kd_w0 hr2) rfl dX5_copyFrom_114 ?_
      refine G_iload_n X 2 dX5_copyFrom_117 rfl rfl ?_
      obtain ⟨g17, h⟩ := gd_some h
      refine G_aaldB X (kd_w2 hr2) g17 dX5_copyFrom_118 ?_
      obtain ⟨q18, hq18, h⟩ := bd_some h
      refine G_callVN X (As := [.ref (xE (gκ g) r2 (ix a2 + 1) 0)]) (rest := []) (T' := rs T r q18) (st2 := []) (ct_X0_copyFrom (l := g.2.1) (κ := gκ g) (T := T) (r := r) (x := x) (r2 := r2) hr (inb_isO (by decide) g17) hr2 (inb_isO (by decide) g17) hne hy hq18) cal_X0_copyFrom nM_X5_53 wI_X0_copyFrom wS_X0_copyFrom (kd_o0 hr (inb_isO (by decide) g17)) rfl (by decide) rfl rfl (Nat.le_of_ble_eq_true rfl) ⟨Nat.zero_le _, Nat.zero_le _⟩ dX5_copyFrom_119 rfl ?_
      obtain ⟨v19, ev19, h⟩ := nm_some h
      refine G_iinc X (v := v19) (lv' := [(2, .int v19), (0, .ref (xE (gκ g) r 0 0)), (1, .ref (xE (gκ g) r2 0 0))]) 2 dX5_copyFrom_122 rfl (by rw [ev19]; rfl) (by decide) rfl ?_
      refine G_goto X (tgt := 99) dX5_copyFrom_125 (by decide) ?_
      refine G_sub [1, 2, 0] rfl ?_
      exact ih _ _ h
set_option maxRecDepth 20000 in
theorem gX5_copyFrom_b74 {g : GX} {T : TT} {r : Nat} {r2 : Nat} {y : St}   {res : St}  (X : CX g RX5 cX5_copyFrom 3 1 22) (hr : isW r) (hr2 : isW r2) (hne : r2 ≠ r) (hy : rg T r2 = y) (hf : FinV g cX5_copyFrom (rs T r res))  : ∀ (n : Nat) (x : St) (a2 : Int32) (h : sX5_copyFrom_b74 n  y x a2 = some res), G g 0 0 (rs T r x) 74 [(0, .ref (xE (gκ g) r 0 0)), (1, .ref (xE (gκ g) r2 0 0)), (2, .int a2)] [] := by
  intro n
  induction n with
  | zero => intro x a2 h; unfold sX5_copyFrom_b74 at h; cases h
  | succ n ih =>
    intro x a2 h
    unfold sX5_copyFrom_b74 at h
    refine G_iload_n X 2 dX5_copyFrom_74 rfl rfl ?_
    refine G_iconst X (v := (4 : Int32)) dX5_copyFrom_75 (by decide) ?_
    refine G_icmp_ge X (tgt := 97) dX5_copyFrom_76 (by decide) (fun c10 => ?_) (fun c10 => ?_)
    · have h := it_t c10 h
      refine G_iconst X (v := (0 : Int32)) dX5_copyFrom_97 (by decide) ?_
      refine G_istore_n X (lv' := [(2, .int ((0 : Int32))), (0, .ref (xE (gκ g) r 0 0)), (1, .ref (xE (gκ g) r2 0 0))]) dX5_copyFrom_98 rfl (by decide) rfl ?_
      refine G_sub [1, 2, 0] rfl ?_
      exact gX5_copyFrom_b99 X hr hr2 hne hy hf FU _ _ h
    · have h := it_f c10 h
      refine G_aload_n X 0 dX5_copyFrom_79 rfl rfl ?_
      refine f_X5_9 X (kd_w0 hr) rfl dX5_copyFrom_80 ?_
      refine G_iload_n X 2 dX5_copyFrom_83 rfl rfl ?_
      refine G_aload_n X 1 dX5_copyFrom_84 rfl rfl ?_
      refine f_X5_9 X (kd_w0 hr2) rfl dX5_copyFrom_85 ?_
      refine G_iload_n X 2 dX5_copyFrom_88 rfl rfl ?_
      obtain ⟨g11, h⟩ := gd_some h
      refine G_iald X (kd_w1 hr2) ((rg_rs_ne _ _ hne).trans hy) g11 dX5_copyFrom_89 ?_
      obtain ⟨g12, h⟩ := gd_some h
      obtain ⟨z13, ez13, h⟩ := nm_some h
      refine G_iast X (T' := rs T r z13) (kd_w1 hr) (rg_rs _ _ _) g12 (by rw [rs_rs, ez13]) dX5_copyFrom_90 ?_
      obtain ⟨v14, ev14, h⟩ := nm_some h
      refine G_iinc X (v := v14) (lv' := [(2, .int v14), (0, .ref (xE (gκ g) r 0 0)), (1, .ref (xE (gκ g) r2 0 0))]) 2 dX5_copyFrom_91 rfl (by rw [ev14]; rfl) (by decide) rfl ?_
      refine G_goto X (tgt := 74) dX5_copyFrom_94 (by decide) ?_
      refine G_sub [1, 2, 0] rfl ?_
      exact ih _ _ h
set_option maxRecDepth 20000 in
theorem gX5_copyFrom {g : GX} {T : TT} {r : Nat} {r2 : Nat} {y : St}  {x : St}  {res : St} (X : CX g RX5 cX5_copyFrom 3 1 22) (hr : isW r) (hr2 : isW r2) (hne : r2 ≠ r) (hy : rg T r2 = y) (hf : FinV g cX5_copyFrom (rs T r res)) (h : sX5_copyFrom y x = some res) : G g 0 0 (rs T r x) 0 [(0, .ref (xE (gκ g) r 0 0)), (1, .ref (xE (gκ g) r2 0 0))] [] := by
  unfold sX5_copyFrom at h
  refine G_aload_n X 0 dX5_copyFrom_0 rfl rfl ?_
  refine G_aload_n X 1 dX5_copyFrom_1 rfl rfl ?_
  refine f_X5_25 X (kd_w0 hr2) ((rg_rs_ne _ _ hne).trans hy) dX5_copyFrom_2 ?_
  obtain ⟨z1, ez1, h⟩ := nm_some h
  refine p_X5_25 X (T' := rs T r z1) (kd_w0 hr) (rg_rs _ _ _)  (by rw [rs_rs, ez1]) dX5_copyFrom_5 ?_
  refine G_aload_n X 0 dX5_copyFrom_8 rfl rfl ?_
  refine G_aload_n X 1 dX5_copyFrom_9 rfl rfl ?_
  refine f_X5_32 X (kd_w0 hr2) ((rg_rs_ne _ _ hne).trans hy) dX5_copyFrom_10 ?_
  obtain ⟨z2, ez2, h⟩ := nm_some h
  refine p_X5_32 X (T' := rs T r z2) (kd_w0 hr) (rg_rs _ _ _)  (by rw [rs_rs, ez2]) dX5_copyFrom_13 ?_
  refine G_aload_n X 0 dX5_copyFrom_16 rfl rfl ?_
  refine G_aload_n X 1 dX5_copyFrom_17 rfl rfl ?_
  refine f_X5_35 X (kd_w0 hr2) ((rg_rs_ne _ _ hne).trans hy) dX5_copyFrom_18 ?_
  obtain ⟨z3, ez3, h⟩ := nm_some h
  refine p_X5_35 X (T' := rs T r z3) (kd_w0 hr) (rg_rs _ _ _)  (by rw [rs_rs, ez3]) dX5_copyFrom_21 ?_
  refine G_aload_n X 0 dX5_copyFrom_24 rfl rfl ?_
  refine G_aload_n X 1 dX5_copyFrom_25 rfl rfl ?_
  refine f_X5_38 X (kd_w0 hr2) ((rg_rs_ne _ _ hne).trans hy) dX5_copyFrom_26 ?_
  obtain ⟨z4, ez4, h⟩ := nm_some h
  refine p_X5_38 X (T' := rs T r z4) (kd_w0 hr) (rg_rs _ _ _)  (by rw [rs_rs, ez4]) dX5_copyFrom_29 ?_
  refine G_aload_n X 0 dX5_copyFrom_32 rfl rfl ?_
  refine G_aload_n X 1 dX5_copyFrom_33 rfl rfl ?_
  refine f_X5_29 X (kd_w0 hr2) ((rg_rs_ne _ _ hne).trans hy) dX5_copyFrom_34 ?_
  obtain ⟨z5, ez5, h⟩ := nm_some h
  refine p_X5_29 X (T' := rs T r z5) (kd_w0 hr) (rg_rs _ _ _)  (by rw [rs_rs, ez5]) dX5_copyFrom_37 ?_
  refine G_aload_n X 0 dX5_copyFrom_40 rfl rfl ?_
  refine G_aload_n X 1 dX5_copyFrom_41 rfl rfl ?_
  refine f_X5_41 X (kd_w0 hr2) ((rg_rs_ne _ _ hne).trans hy) dX5_copyFrom_42 ?_
  obtain ⟨z6, ez6, h⟩ := nm_some h
  refine p_X5_41 X (T' := rs T r z6) (kd_w0 hr) (rg_rs _ _ _)  (by rw [rs_rs, ez6]) dX5_copyFrom_45 ?_
  refine G_aload_n X 0 dX5_copyFrom_48 rfl rfl ?_
  refine G_aload_n X 1 dX5_copyFrom_49 rfl rfl ?_
  refine f_X5_44 X (kd_w0 hr2) ((rg_rs_ne _ _ hne).trans hy) dX5_copyFrom_50 ?_
  obtain ⟨z7, ez7, h⟩ := nm_some h
  refine p_X5_44 X (T' := rs T r z7) (kd_w0 hr) (rg_rs _ _ _)  (by rw [rs_rs, ez7]) dX5_copyFrom_53 ?_
  refine G_aload_n X 0 dX5_copyFrom_56 rfl rfl ?_
  refine G_aload_n X 1 dX5_copyFrom_57 rfl rfl ?_
  refine f_X5_47 X (kd_w0 hr2) ((rg_rs_ne _ _ hne).trans hy) dX5_copyFrom_58 ?_
  obtain ⟨z8, ez8, h⟩ := nm_some h
  refine p_X5_47 X (T' := rs T r z8) (kd_w0 hr) (rg_rs _ _ _)  (by rw [rs_rs, ez8]) dX5_copyFrom_61 ?_
  refine G_aload_n X 0 dX5_copyFrom_64 rfl rfl ?_
  refine G_aload_n X 1 dX5_copyFrom_65 rfl rfl ?_
  refine f_X5_50 X (kd_w0 hr2) ((rg_rs_ne _ _ hne).trans hy) dX5_copyFrom_66 ?_
  obtain ⟨z9, ez9, h⟩ := nm_some h
  refine p_X5_50 X (T' := rs T r z9) (kd_w0 hr) (rg_rs _ _ _)  (by rw [rs_rs, ez9]) dX5_copyFrom_69 ?_
  refine G_iconst X (v := (0 : Int32)) dX5_copyFrom_72 (by decide) ?_
  refine G_istore_n X (lv' := [(2, .int ((0 : Int32))), (0, .ref (xE (gκ g) r 0 0)), (1, .ref (xE (gκ g) r2 0 0))]) dX5_copyFrom_73 rfl (by decide) rfl ?_
  refine G_sub [1, 2, 0] rfl ?_
  exact gX5_copyFrom_b74 X hr hr2 hne hy hf FU _ _ h
set_option maxRecDepth 20000 in
theorem ct_X5_copyFrom {l : Launch} {κ : KX} {T : TT} {r : Nat} {r2 : Nat} {y : St}  {x : St}  {res : St} (hr : isW r) (hr2 : isW r2) (hne : r2 ≠ r) (hy : rg T r2 = y) (h : sX5_copyFrom y x = some res) : Ct l κ yX5_copyFrom cX5_copyFrom 3 none 1 22 [.ref (xE κ r 0 0), .ref (xE κ r2 0 0)] (rs T r x) (rs T r res) none := by
  refine Ct_v RX5 rfl (by decide +kernel) (Nat.le_of_ble_eq_true rfl) (fun g hl hκ X hf => ?_)
  subst hl; subst hκ
  exact gX5_copyFrom X hr hr2 hne hy hf h
set_option maxRecDepth 20000 in
theorem gJ6_bitCount_0f7a4 {g : GX} {T : TT}   {a0 : Int32} {res : Int32} (X : CX g RJ6 cJ6_bitCount_0f7a4 1 0 0)  (hf : FinI g cJ6_bitCount_0f7a4 .int (T) (res)) (h : sJ6_bitCount_0f7a4 a0 = some res) : G g 0 0 (T) 0 [(0, .int a0)] [] := by
  unfold sJ6_bitCount_0f7a4 at h
  refine G_iload_n X 0 dJ6_bitCount_0f7a4_0 rfl rfl ?_
  refine G_iload_n X 0 dJ6_bitCount_0f7a4_1 rfl rfl ?_
  refine G_iconst X (v := (1 : Int32)) dJ6_bitCount_0f7a4_2 (by decide) ?_
  refine G_iushr X dJ6_bitCount_0f7a4_3 ?_
  refine G_ldc_w X (v := (1431655765 : Int32)) dJ6_bitCount_0f7a4_4 wK_J6_265 ?_
  refine G_iand X dJ6_bitCount_0f7a4_7 ?_
  refine G_isub X dJ6_bitCount_0f7a4_8 ?_
  obtain ⟨v1, ev1, h⟩ := nm_some h
  refine G_nmi ev1 ?_
  refine G_istore_n X (lv' := [(0, .int v1)]) dJ6_bitCount_0f7a4_9 rfl (by decide) rfl ?_
  refine G_iload_n X 0 dJ6_bitCount_0f7a4_10 rfl rfl ?_
  refine G_ldc_w X (v := (858993459 : Int32)) dJ6_bitCount_0f7a4_11 wK_J6_266 ?_
  refine G_iand X dJ6_bitCount_0f7a4_14 ?_
  refine G_iload_n X 0 dJ6_bitCount_0f7a4_15 rfl rfl ?_
  refine G_iconst X (v := (2 : Int32)) dJ6_bitCount_0f7a4_16 (by decide) ?_
  refine G_iushr X dJ6_bitCount_0f7a4_17 ?_
  refine G_ldc_w X (v := (858993459 : Int32)) dJ6_bitCount_0f7a4_18 wK_J6_266 ?_
  refine G_iand X dJ6_bitCount_0f7a4_21 ?_
  refine G_iadd X dJ6_bitCount_0f7a4_22 ?_
  obtain ⟨v2, ev2, h⟩ := nm_some h
  refine G_nmi ev2 ?_
  refine G_istore_n X (lv' := [(0, .int v2)]) dJ6_bitCount_0f7a4_23 rfl (by decide) rfl ?_
  refine G_iload_n X 0 dJ6_bitCount_0f7a4_24 rfl rfl ?_
  refine G_iload_n X 0 dJ6_bitCount_0f7a4_25 rfl rfl ?_
  refine G_iconst X (v := (4 : Int32)) dJ6_bitCount_0f7a4_26 (by decide) ?_
  refine G_iushr X dJ6_bitCount_0f7a4_27 ?_
  refine G_iadd X dJ6_bitCount_0f7a4_28 ?_
  refine G_ldc_w X (v := (252645135 : Int32)) dJ6_bitCount_0f7a4_29 wK_J6_267 ?_
  refine G_iand X dJ6_bitCount_0f7a4_32 ?_
  obtain ⟨v3, ev3, h⟩ := nm_some h
  refine G_nmi ev3 ?_
  refine G_istore_n X (lv' := [(0, .int v3)]) dJ6_bitCount_0f7a4_33 rfl (by decide) rfl ?_
  refine G_iload_n X 0 dJ6_bitCount_0f7a4_34 rfl rfl ?_
  refine G_iload_n X 0 dJ6_bitCount_0f7a4_35 rfl rfl ?_
  refine G_bipush X (v := (8 : Int32)) dJ6_bitCount_0f7a4_36 (by decide) ?_
  refine G_iushr X dJ6_bitCount_0f7a4_38 ?_
  refine G_iadd X dJ6_bitCount_0f7a4_39 ?_
  obtain ⟨v4, ev4, h⟩ := nm_some h
  refine G_nmi ev4 ?_
  refine G_istore_n X (lv' := [(0, .int v4)]) dJ6_bitCount_0f7a4_40 rfl (by decide) rfl ?_
  refine G_iload_n X 0 dJ6_bitCount_0f7a4_41 rfl rfl ?_
  refine G_iload_n X 0 dJ6_bitCount_0f7a4_42 rfl rfl ?_
  refine G_bipush X (v := (16 : Int32)) dJ6_bitCount_0f7a4_43 (by decide) ?_
  refine G_iushr X dJ6_bitCount_0f7a4_45 ?_
  refine G_iadd X dJ6_bitCount_0f7a4_46 ?_
  obtain ⟨v5, ev5, h⟩ := nm_some h
  refine G_nmi ev5 ?_
  refine G_istore_n X (lv' := [(0, .int v5)]) dJ6_bitCount_0f7a4_47 rfl (by decide) rfl ?_
  refine G_iload_n X 0 dJ6_bitCount_0f7a4_48 rfl rfl ?_
  refine G_bipush X (v := (63 : Int32)) dJ6_bitCount_0f7a4_49 (by decide) ?_
  refine G_iand X dJ6_bitCount_0f7a4_51 ?_
  obtain rfl := Option.some.inj h
  exact hf _ _ dJ6_bitCount_0f7a4_52 rfl
set_option maxRecDepth 20000 in
theorem ct_J6_bitCount_0f7a4 {l : Launch} {κ : KX} {T : TT}   {a0 : Int32} {res : Int32}  (h : sJ6_bitCount_0f7a4 a0 = some res) : Ct l κ yJ6_bitCount_0f7a4 cJ6_bitCount_0f7a4 1 (some .int) 0 0 [.int a0] (T) (T) (some (.int (res))) := by
  refine Ct_i RJ6 rfl (by decide +kernel) (Nat.le_of_ble_eq_true rfl) (fun g hl hκ X hf => ?_)
  subst hl; subst hκ
  exact gJ6_bitCount_0f7a4 X  hf h
set_option maxRecDepth 20000 in
theorem gX5_nearPairs_b4 {g : GX} {T : TT} {r : Nat}  {x : St} {res : Int32}  (X : CX g RX5 cX5_nearPairs 3 1 20) (hr : isW r) (hf : FinI g cX5_nearPairs .int (rs T r x) (res))  : ∀ (n : Nat) (a1 : Int32) (a2 : Int32) (h : sX5_nearPairs_b4 n  x a1 a2 = some res), G g 0 0 (rs T r x) 4 [(0, .ref (xE (gκ g) r 0 0)), (1, .int a1), (2, .int a2)] [] := by
  intro n
  induction n with
  | zero => intro a1 a2 h; unfold sX5_nearPairs_b4 at h; cases h
  | succ n ih =>
    intro a1 a2 h
    unfold sX5_nearPairs_b4 at h
    refine G_iload_n X 2 dX5_nearPairs_4 rfl rfl ?_
    refine G_aload_n X 0 dX5_nearPairs_5 rfl rfl ?_
    refine f_X5_25 X (kd_w0 hr) (rg_rs _ _ _) dX5_nearPairs_6 ?_
    refine G_icmp_ge X (tgt := 33) dX5_nearPairs_9 (by decide) (fun c1 => ?_) (fun c1 => ?_)
    · have h := it_t c1 h
      refine G_iload_n X 1 dX5_nearPairs_33 rfl rfl ?_
      obtain rfl := Option.some.inj h
      exact hf _ _ dX5_nearPairs_34 rfl
    · have h := it_f c1 h
      refine G_iload_n X 1 dX5_nearPairs_12 rfl rfl ?_
      refine G_aload_n X 0 dX5_nearPairs_13 rfl rfl ?_
      refine f_X5_17 X (kd_w0 hr) rfl dX5_nearPairs_14 ?_
      refine G_iload_n X 2 dX5_nearPairs_17 rfl rfl ?_
      obtain ⟨g2, h⟩ := gd_some h
      refine G_aaldB X (kd_w2 hr) g2 dX5_nearPairs_18 ?_
      refine f_X5_61 X (kd_o0 hr (inb_isO (by decide) g2)) (rg_rs _ _ _) dX5_nearPairs_19 ?_
      obtain ⟨q3, hq3, h⟩ := bd_some h
      refine G_callS X (As := [.int (gI x (ix a2 + 1) 0 10)]) (rest := [.int a1]) (T' := rs T r x) (st2 := [.int q3, .int a1]) (ct_J6_bitCount_0f7a4 (l := g.2.1) (κ := gκ g)   hq3) cal_J6_bitCount_0f7a4 wM_X5_64 wT_J6_bitCount_0f7a4 (by decide) rfl rfl (Nat.le_of_ble_eq_true rfl) ⟨Nat.zero_le _, Nat.zero_le _⟩ dX5_nearPairs_22 rfl ?_
      refine G_iadd X dX5_nearPairs_25 ?_
      refine G_istore_n X (lv' := [(1, .int (a1 + q3)), (0, .ref (xE (gκ g) r 0 0)), (2, .int a2)]) dX5_nearPairs_26 rfl (by decide) rfl ?_
      obtain ⟨v4, ev4, h⟩ := nm_some h
      refine G_iinc X (v := v4) (lv' := [(2, .int v4), (1, .int (a1 + q3)), (0, .ref (xE (gκ g) r 0 0))]) 2 dX5_nearPairs_27 rfl (by rw [ev4]; rfl) (by decide) rfl ?_
      refine G_goto X (tgt := 4) dX5_nearPairs_30 (by decide) ?_
      refine G_sub [2, 1, 0] rfl ?_
      exact ih _ _ h
set_option maxRecDepth 20000 in
theorem gX5_nearPairs {g : GX} {T : TT} {r : Nat}  {x : St}  {res : Int32} (X : CX g RX5 cX5_nearPairs 3 1 20) (hr : isW r) (hf : FinI g cX5_nearPairs .int (rs T r x) (res)) (h : sX5_nearPairs x = some res) : G g 0 0 (rs T r x) 0 [(0, .ref (xE (gκ g) r 0 0))] [] := by
  unfold sX5_nearPairs at h
  refine G_iconst X (v := (0 : Int32)) dX5_nearPairs_0 (by decide) ?_
  refine G_istore_n X (lv' := [(1, .int ((0 : Int32))), (0, .ref (xE (gκ g) r 0 0))]) dX5_nearPairs_1 rfl (by decide) rfl ?_
  refine G_iconst X (v := (0 : Int32)) dX5_nearPairs_2 (by decide) ?_
  refine G_istore_n X (lv' := [(2, .int ((0 : Int32))), (1, .int ((0 : Int32))), (0, .ref (xE (gκ g) r 0 0))]) dX5_nearPairs_3 rfl (by decide) rfl ?_
  refine G_sub [2, 1, 0] rfl ?_
  exact gX5_nearPairs_b4 X hr hf FU _ _ h
set_option maxRecDepth 20000 in
theorem ct_X5_nearPairs {l : Launch} {κ : KX} {T : TT} {r : Nat}  {x : St}  {res : Int32} (hr : isW r) (h : sX5_nearPairs x = some res) : Ct l κ yX5_nearPairs cX5_nearPairs 3 (some .int) 1 20 [.ref (xE κ r 0 0)] (rs T r x) (rs T r x) (some (.int (res))) := by
  refine Ct_i RX5 rfl (by decide +kernel) (Nat.le_of_ble_eq_true rfl) (fun g hl hκ X hf => ?_)
  subst hl; subst hκ
  exact gX5_nearPairs X hr hf h
set_option maxRecDepth 20000 in
theorem gX5_inState_b4 {g : GX} {T : TT} {r : Nat}  {x : St} {res : Int32}  (X : CX g RX5 cX5_inState 4 0 0) (hr : isW r) (hf : FinI g cX5_inState .int (rs T r x) (res))  : ∀ (n : Nat) (a1 : Int32) (a2 : Int32) (a3 : Int32) (h : sX5_inState_b4 n  x a1 a2 a3 = some res), G g 0 0 (rs T r x) 4 [(0, .ref (xE (gκ g) r 0 0)), (1, .int a1), (2, .int a2), (3, .int a3)] [] := by
  intro n
  induction n with
  | zero => intro a1 a2 a3 h; unfold sX5_inState_b4 at h; cases h
  | succ n ih =>
    intro a1 a2 a3 h
    unfold sX5_inState_b4 at h
    refine G_iload_n X 3 dX5_inState_4 rfl rfl ?_
    refine G_aload_n X 0 dX5_inState_5 rfl rfl ?_
    refine f_X5_25 X (kd_w0 hr) (rg_rs _ _ _) dX5_inState_6 ?_
    refine G_icmp_ge X (tgt := 37) dX5_inState_9 (by decide) (fun c1 => ?_) (fun c1 => ?_)
    · have h := it_t c1 h
      refine G_iload_n X 2 dX5_inState_37 rfl rfl ?_
      obtain rfl := Option.some.inj h
      exact hf _ _ dX5_inState_38 rfl
    · have h := it_f c1 h
      refine G_aload_n X 0 dX5_inState_12 rfl rfl ?_
      refine f_X5_17 X (kd_w0 hr) rfl dX5_inState_13 ?_
      refine G_iload_n X 3 dX5_inState_16 rfl rfl ?_
      obtain ⟨g2, h⟩ := gd_some h
      refine G_aaldB X (kd_w2 hr) g2 dX5_inState_17 ?_
      refine f_X5_70 X (kd_o0 hr (inb_isO (by decide) g2)) (rg_rs _ _ _) dX5_inState_18 ?_
      refine G_iload_n X 1 dX5_inState_21 rfl rfl ?_
      refine G_icmp_ne X (tgt := 31) dX5_inState_22 (by decide) (fun c3 => ?_) (fun c3 => ?_)
      · have h := it_t c3 h
        obtain ⟨v4, ev4, h⟩ := nm_some h
        refine G_iinc X (v := v4) (lv' := [(3, .int v4), (0, .ref (xE (gκ g) r 0 0)), (1, .int a1), (2, .int a2)]) 3 dX5_inState_31 rfl (by rw [ev4]; rfl) (by decide) rfl ?_
        refine G_goto X (tgt := 4) dX5_inState_34 (by decide) ?_
        refine G_sub [1, 2, 3, 0] rfl ?_
        exact ih _ _ _ h
      · have h := it_f (fun k => k c3) h
        refine G_iload_n X 2 dX5_inState_25 rfl rfl ?_
        refine G_iconst X (v := (1 : Int32)) dX5_inState_26 (by decide) ?_
        refine G_iload_n X 3 dX5_inState_27 rfl rfl ?_
        refine G_ishl X dX5_inState_28 ?_
        refine G_ior X dX5_inState_29 ?_
        obtain ⟨v5, ev5, h⟩ := nm_some h
        refine G_nmi ev5 ?_
        refine G_istore_n X (lv' := [(2, .int v5), (0, .ref (xE (gκ g) r 0 0)), (1, .int a1), (3, .int a3)]) dX5_inState_30 rfl (by decide) rfl ?_
        obtain ⟨v6, ev6, h⟩ := nm_some h
        refine G_iinc X (v := v6) (lv' := [(3, .int v6), (2, .int v5), (0, .ref (xE (gκ g) r 0 0)), (1, .int a1)]) 3 dX5_inState_31 rfl (by rw [ev6]; rfl) (by decide) rfl ?_
        refine G_goto X (tgt := 4) dX5_inState_34 (by decide) ?_
        refine G_sub [2, 3, 1, 0] rfl ?_
        exact ih _ _ _ h
set_option maxRecDepth 20000 in
theorem gX5_inState {g : GX} {T : TT} {r : Nat}  {x : St} {a1 : Int32} {res : Int32} (X : CX g RX5 cX5_inState 4 0 0) (hr : isW r) (hf : FinI g cX5_inState .int (rs T r x) (res)) (h : sX5_inState x a1 = some res) : G g 0 0 (rs T r x) 0 [(0, .ref (xE (gκ g) r 0 0)), (1, .int a1)] [] := by
  unfold sX5_inState at h
  refine G_iconst X (v := (0 : Int32)) dX5_inState_0 (by decide) ?_
  refine G_istore_n X (lv' := [(2, .int ((0 : Int32))), (0, .ref (xE (gκ g) r 0 0)), (1, .int a1)]) dX5_inState_1 rfl (by decide) rfl ?_
  refine G_iconst X (v := (0 : Int32)) dX5_inState_2 (by decide) ?_
  refine G_istore_n X (lv' := [(3, .int ((0 : Int32))), (2, .int ((0 : Int32))), (0, .ref (xE (gκ g) r 0 0)), (1, .int a1)]) dX5_inState_3 rfl (by decide) rfl ?_
  refine G_sub [2, 3, 1, 0] rfl ?_
  exact gX5_inState_b4 X hr hf FU _ _ _ h
set_option maxRecDepth 20000 in
theorem ct_X5_inState {l : Launch} {κ : KX} {T : TT} {r : Nat}  {x : St} {a1 : Int32} {res : Int32} (hr : isW r) (h : sX5_inState x a1 = some res) : Ct l κ yX5_inState cX5_inState 4 (some .int) 0 0 [.ref (xE κ r 0 0), .int a1] (rs T r x) (rs T r x) (some (.int (res))) := by
  refine Ct_i RX5 rfl (by decide +kernel) (Nat.le_of_ble_eq_true rfl) (fun g hl hκ X hf => ?_)
  subst hl; subst hκ
  exact gX5_inState X hr hf h
set_option maxRecDepth 20000 in
theorem gX5_outCount {g : GX} {T : TT} {r : Nat}  {x : St}  {res : Int32} (X : CX g RX5 cX5_outCount 1 1 23) (hr : isW r) (hf : FinI g cX5_outCount .int (rs T r x) (res)) (h : sX5_outCount x = some res) : G g 0 0 (rs T r x) 0 [(0, .ref (xE (gκ g) r 0 0))] [] := by
  unfold sX5_outCount at h
  refine G_aload_n X 0 dX5_outCount_0 rfl rfl ?_
  refine G_iconst X (v := (4 : Int32)) dX5_outCount_1 (by decide) ?_
  obtain ⟨q1, hq1, h⟩ := bd_some h
  refine G_callV X (As := [.int ((4 : Int32))]) (rest := []) (T' := rs T r x) (st2 := [.int q1]) (ct_X5_inState (l := g.2.1) (κ := gκ g) (T := T) (r := r) (x := x) hr hq1) cal_X5_inState wM_X5_73 wI_X5_inState wS_X5_inState (kd_w0 hr) rfl (by decide) rfl rfl (Nat.le_of_ble_eq_true rfl) ⟨Nat.zero_le _, Nat.zero_le _⟩ dX5_outCount_2 rfl ?_
  obtain ⟨q2, hq2, h⟩ := bd_some h
  refine G_callS X (As := [.int q1]) (rest := []) (T' := rs T r x) (st2 := [.int q2]) (ct_J6_bitCount_0f7a4 (l := g.2.1) (κ := gκ g)   hq2) cal_J6_bitCount_0f7a4 wM_X5_64 wT_J6_bitCount_0f7a4 (by decide) rfl rfl (Nat.le_of_ble_eq_true rfl) ⟨Nat.zero_le _, Nat.zero_le _⟩ dX5_outCount_5 rfl ?_
  obtain rfl := Option.some.inj h
  exact hf _ _ dX5_outCount_8 rfl
set_option maxRecDepth 20000 in
theorem ct_X5_outCount {l : Launch} {κ : KX} {T : TT} {r : Nat}  {x : St}  {res : Int32} (hr : isW r) (h : sX5_outCount x = some res) : Ct l κ yX5_outCount cX5_outCount 1 (some .int) 1 23 [.ref (xE κ r 0 0)] (rs T r x) (rs T r x) (some (.int (res))) := by
  refine Ct_i RX5 rfl (by decide +kernel) (Nat.le_of_ble_eq_true rfl) (fun g hl hκ X hf => ?_)
  subst hl; subst hκ
  exact gX5_outCount X hr hf h
set_option maxRecDepth 20000 in
theorem gX5_knownTo_b4 {g : GX} {T : TT} {r : Nat} {o1 : Nat} {x : St} {res : Int32}  (X : CX g RX5 cX5_knownTo 5 0 0) (hr : isW r) (ho1 : isO o1) (hf : FinI g cX5_knownTo .int (rs T r x) (res))  : ∀ (n : Nat) (a2 : Int32) (a3 : Int32) (h : sX5_knownTo_b4 n  o1 x a2 a3 = some res), G g 0 0 (rs T r x) 4 [(0, .ref (xE (gκ g) r 0 0)), (1, .ref (xE (gκ g) r o1 0)), (2, .int a2), (3, .int a3)] [] := by
  intro n
  induction n with
  | zero => intro a2 a3 h; unfold sX5_knownTo_b4 at h; cases h
  | succ n ih =>
    intro a2 a3 h
    unfold sX5_knownTo_b4 at h
    refine G_iload_n X 3 dX5_knownTo_4 rfl rfl ?_
    refine G_aload_n X 0 dX5_knownTo_5 rfl rfl ?_
    refine f_X5_25 X (kd_w0 hr) (rg_rs _ _ _) dX5_knownTo_6 ?_
    refine G_icmp_ge X (tgt := 52) dX5_knownTo_9 (by decide) (fun c1 => ?_) (fun c1 => ?_)
    · have h := it_t c1 h
      refine G_iload_n X 2 dX5_knownTo_52 rfl rfl ?_
      obtain rfl := Option.some.inj h
      exact hf _ _ dX5_knownTo_53 rfl
    · have h := it_f c1 h
      refine G_aload_n X 1 dX5_knownTo_12 rfl rfl ?_
      refine f_X5_76 X (kd_o0 hr ho1) rfl dX5_knownTo_13 ?_
      refine G_iload_n X 3 dX5_knownTo_16 rfl rfl ?_
      obtain ⟨g2, h⟩ := gd_some h
      refine G_iald X (kd_o2 hr ho1) (rg_rs _ _ _) g2 dX5_knownTo_17 ?_
      refine G_istore X (lv' := [(4, .int (gI x o1 2 (ix a3))), (0, .ref (xE (gκ g) r 0 0)), (1, .ref (xE (gκ g) r o1 0)), (2, .int a2), (3, .int a3)]) dX5_knownTo_18 (by decide) rfl ?_
      refine G_iload X 0 dX5_knownTo_20 rfl ?_
      refine G_iconst X (v := (-1 : Int32)) dX5_knownTo_22 (by decide) ?_
      refine G_icmp_eq X (tgt := 46) dX5_knownTo_23 (by decide) (fun c3 => ?_) (fun c3 => ?_)
      · have h := it_t c3 h
        obtain ⟨v4, ev4, h⟩ := nm_some h
        refine G_iinc X (v := v4) (lv' := [(3, .int v4), (4, .int (gI x o1 2 (ix a3))), (0, .ref (xE (gκ g) r 0 0)), (1, .ref (xE (gκ g) r o1 0)), (2, .int a2)]) 4 dX5_knownTo_46 rfl (by rw [ev4]; rfl) (by decide) rfl ?_
        refine G_goto X (tgt := 4) dX5_knownTo_49 (by decide) ?_
        refine G_sub [2, 3, 4, 0] rfl ?_
        exact ih _ _ h
      · have h := it_f c3 h
        refine G_aload_n X 1 dX5_knownTo_26 rfl rfl ?_
        refine f_X5_38 X (kd_w0 hr) (rg_rs _ _ _) dX5_knownTo_27 ?_
        refine G_iload X 0 dX5_knownTo_30 rfl ?_
        refine G_isub X dX5_knownTo_32 ?_
        refine G_aload_n X 1 dX5_knownTo_33 rfl rfl ?_
        refine f_X5_35 X (kd_w0 hr) (rg_rs _ _ _) dX5_knownTo_34 ?_
        refine G_icmp_gt X (tgt := 46) dX5_knownTo_37 (by decide) (fun c5 => ?_) (fun c5 => ?_)
        · have h := it_t c5 h
          obtain ⟨v6, ev6, h⟩ := nm_some h
          refine G_iinc X (v := v6) (lv' := [(3, .int v6), (4, .int (gI x o1 2 (ix a3))), (0, .ref (xE (gκ g) r 0 0)), (1, .ref (xE (gκ g) r o1 0)), (2, .int a2)]) 4 dX5_knownTo_46 rfl (by rw [ev6]; rfl) (by decide) rfl ?_
          refine G_goto X (tgt := 4) dX5_knownTo_49 (by decide) ?_
          refine G_sub [2, 3, 4, 0] rfl ?_
          exact ih _ _ h
        · have h := it_f c5 h
          refine G_iload_n X 3 dX5_knownTo_40 rfl rfl ?_
          refine G_iconst X (v := (1 : Int32)) dX5_knownTo_41 (by decide) ?_
          refine G_iload_n X 4 dX5_knownTo_42 rfl rfl ?_
          refine G_ishl X dX5_knownTo_43 ?_
          refine G_ior X dX5_knownTo_44 ?_
          obtain ⟨v7, ev7, h⟩ := nm_some h
          refine G_nmi ev7 ?_
          refine G_istore_n X (lv' := [(2, .int v7), (4, .int (gI x o1 2 (ix a3))), (0, .ref (xE (gκ g) r 0 0)), (1, .ref (xE (gκ g) r o1 0)), (3, .int a3)]) dX5_knownTo_45 rfl (by decide) rfl ?_
          obtain ⟨v8, ev8, h⟩ := nm_some h
          refine G_iinc X (v := v8) (lv' := [(3, .int v8), (2, .int v7), (4, .int (gI x o1 2 (ix a3))), (0, .ref (xE (gκ g) r 0 0)), (1, .ref (xE (gκ g) r o1 0))]) 4 dX5_knownTo_46 rfl (by rw [ev8]; rfl) (by decide) rfl ?_
          refine G_goto X (tgt := 4) dX5_knownTo_49 (by decide) ?_
          refine G_sub [3, 4, 1, 0] rfl ?_
          exact ih _ _ h
set_option maxRecDepth 20000 in
theorem gX5_knownTo {g : GX} {T : TT} {r : Nat} {o1 : Nat} {x : St}  {res : Int32} (X : CX g RX5 cX5_knownTo 5 0 0) (hr : isW r) (ho1 : isO o1) (hf : FinI g cX5_knownTo .int (rs T r x) (res)) (h : sX5_knownTo o1 x = some res) : G g 0 0 (rs T r x) 0 [(0, .ref (xE (gκ g) r 0 0)), (1, .ref (xE (gκ g) r o1 0))] [] := by
  unfold sX5_knownTo at h
  refine G_iconst X (v := (0 : Int32)) dX5_knownTo_0 (by decide) ?_
  refine G_istore_n X (lv' := [(2, .int ((0 : Int32))), (0, .ref (xE (gκ g) r 0 0)), (1, .ref (xE (gκ g) r o1 0))]) dX5_knownTo_1 rfl (by decide) rfl ?_
  refine G_iconst X (v := (0 : Int32)) dX5_knownTo_2 (by decide) ?_
  refine G_istore_n X (lv' := [(3, .int ((0 : Int32))), (2, .int ((0 : Int32))), (0, .ref (xE (gκ g) r 0 0)), (1, .ref (xE (gκ g) r o1 0))]) dX5_knownTo_3 rfl (by decide) rfl ?_
  refine G_sub [2, 3, 1, 0] rfl ?_
  exact gX5_knownTo_b4 X hr ho1 hf FU _ _ h
set_option maxRecDepth 20000 in
theorem ct_X5_knownTo {l : Launch} {κ : KX} {T : TT} {r : Nat} {o1 : Nat} {x : St}  {res : Int32} (hr : isW r) (ho1 : isO o1) (h : sX5_knownTo o1 x = some res) : Ct l κ yX5_knownTo cX5_knownTo 5 (some .int) 0 0 [.ref (xE κ r 0 0), .ref (xE κ r o1 0)] (rs T r x) (rs T r x) (some (.int (res))) := by
  refine Ct_i RX5 rfl (by decide +kernel) (Nat.le_of_ble_eq_true rfl) (fun g hl hκ X hf => ?_)
  subst hl; subst hκ
  exact gX5_knownTo X hr ho1 hf h
set_option maxRecDepth 20000 in
theorem gX5_isAllKnown_b2 {g : GX} {T : TT} {r : Nat}  {x : St} {res : Int32}  (X : CX g RX5 cX5_isAllKnown 2 1 24) (hr : isW r) (hf : FinI g cX5_isAllKnown .boolean (rs T r x) (res))  : ∀ (n : Nat) (a1 : Int32) (h : sX5_isAllKnown_b2 n  x a1 = some res), G g 0 0 (rs T r x) 2 [(0, .ref (xE (gκ g) r 0 0)), (1, .int a1)] [] := by
  intro n
  induction n with
  | zero => intro a1 h; unfold sX5_isAllKnown_b2 at h; cases h
  | succ n ih =>
    intro a1 h
    unfold sX5_isAllKnown_b2 at h
    refine G_iload_n X 1 dX5_isAllKnown_2 rfl rfl ?_
    refine G_aload_n X 0 dX5_isAllKnown_3 rfl rfl ?_
    refine f_X5_25 X (kd_w0 hr) (rg_rs _ _ _) dX5_isAllKnown_4 ?_
    refine G_icmp_ge X (tgt := 43) dX5_isAllKnown_7 (by decide) (fun c1 => ?_) (fun c1 => ?_)
    · have h := it_t c1 h
      refine G_iconst X (v := (1 : Int32)) dX5_isAllKnown_43 (by decide) ?_
      obtain rfl := Option.some.inj h
      exact hf _ _ dX5_isAllKnown_44 (isb_n (v := (1 : Int32)) rfl)
    · have h := it_f c1 h
      refine G_aload_n X 0 dX5_isAllKnown_10 rfl rfl ?_
      refine f_X5_17 X (kd_w0 hr) rfl dX5_isAllKnown_11 ?_
      refine G_iload_n X 1 dX5_isAllKnown_14 rfl rfl ?_
      obtain ⟨g2, h⟩ := gd_some h
      refine G_aaldB X (kd_w2 hr) g2 dX5_isAllKnown_15 ?_
      refine f_X5_61 X (kd_o0 hr (inb_isO (by decide) g2)) (rg_rs _ _ _) dX5_isAllKnown_16 ?_
      refine G_aload_n X 0 dX5_isAllKnown_19 rfl rfl ?_
      refine G_aload_n X 0 dX5_isAllKnown_20 rfl rfl ?_
      refine f_X5_17 X (kd_w0 hr) rfl dX5_isAllKnown_21 ?_
      refine G_iload_n X 1 dX5_isAllKnown_24 rfl rfl ?_
      obtain ⟨g3, h⟩ := gd_some h
      refine G_aaldB X (kd_w2 hr) g3 dX5_isAllKnown_25 ?_
      obtain ⟨q4, hq4, h⟩ := bd_some h
      refine G_callV X (As := [.ref (xE (gκ g) r (ix a1 + 1) 0)]) (rest := [.int (gI x (ix a1 + 1) 0 10)]) (T' := rs T r x) (st2 := [.int q4, .int (gI x (ix a1 + 1) 0 10)]) (ct_X5_knownTo (l := g.2.1) (κ := gκ g) (T := T) (r := r) (x := x) hr (inb_isO (by decide) g3) hq4) cal_X5_knownTo wM_X5_79 wI_X5_knownTo wS_X5_knownTo (kd_w0 hr) rfl (by decide) rfl rfl (Nat.le_of_ble_eq_true rfl) ⟨Nat.zero_le _, Nat.zero_le _⟩ dX5_isAllKnown_26 rfl ?_
      refine G_iconst X (v := (-1 : Int32)) dX5_isAllKnown_29 (by decide) ?_
      refine G_ixor X dX5_isAllKnown_30 ?_
      refine G_iand X dX5_isAllKnown_31 ?_
      refine G_if_eq X (tgt := 37) dX5_isAllKnown_32 (by decide) (fun c5 => ?_) (fun c5 => ?_)
      · have h := it_t c5 h
        obtain ⟨v6, ev6, h⟩ := nm_some h
        refine G_iinc X (v := v6) (lv' := [(1, .int v6), (0, .ref (xE (gκ g) r 0 0))]) 1 dX5_isAllKnown_37 rfl (by rw [ev6]; rfl) (by decide) rfl ?_
        refine G_goto X (tgt := 2) dX5_isAllKnown_40 (by decide) ?_
        refine G_sub [1, 0] rfl ?_
        exact ih _ h
      · have h := it_f c5 h
        refine G_iconst X (v := (0 : Int32)) dX5_isAllKnown_35 (by decide) ?_
        obtain rfl := Option.some.inj h
        exact hf _ _ dX5_isAllKnown_36 (isb_n (v := (0 : Int32)) rfl)
set_option maxRecDepth 20000 in
theorem gX5_isAllKnown {g : GX} {T : TT} {r : Nat}  {x : St}  {res : Int32} (X : CX g RX5 cX5_isAllKnown 2 1 24) (hr : isW r) (hf : FinI g cX5_isAllKnown .boolean (rs T r x) (res)) (h : sX5_isAllKnown x = some res) : G g 0 0 (rs T r x) 0 [(0, .ref (xE (gκ g) r 0 0))] [] := by
  unfold sX5_isAllKnown at h
  refine G_iconst X (v := (0 : Int32)) dX5_isAllKnown_0 (by decide) ?_
  refine G_istore_n X (lv' := [(1, .int ((0 : Int32))), (0, .ref (xE (gκ g) r 0 0))]) dX5_isAllKnown_1 rfl (by decide) rfl ?_
  refine G_sub [1, 0] rfl ?_
  exact gX5_isAllKnown_b2 X hr hf FU _ h
set_option maxRecDepth 20000 in
theorem ct_X5_isAllKnown {l : Launch} {κ : KX} {T : TT} {r : Nat}  {x : St}  {res : Int32} (hr : isW r) (h : sX5_isAllKnown x = some res) : Ct l κ yX5_isAllKnown cX5_isAllKnown 2 (some .boolean) 1 24 [.ref (xE κ r 0 0)] (rs T r x) (rs T r x) (some (.int (res))) := by
  refine Ct_i RX5 rfl (by decide +kernel) (Nat.le_of_ble_eq_true rfl) (fun g hl hκ X hf => ?_)
  subst hl; subst hκ
  exact gX5_isAllKnown X hr hf h
set_option maxRecDepth 20000 in
theorem gX5_withNear_b4 {g : GX} {T : TT} {r : Nat}  {x : St} {res : Int32}  (X : CX g RX5 cX5_withNear 4 1 21) (hr : isW r) (hf : FinI g cX5_withNear .int (rs T r x) (res))  : ∀ (n : Nat) (a1 : Int32) (a2 : Int32) (a3 : Int32) (h : sX5_withNear_b4 n  x a1 a2 a3 = some res), G g 0 0 (rs T r x) 4 [(0, .ref (xE (gκ g) r 0 0)), (1, .int a1), (2, .int a2), (3, .int a3)] [] := by
  intro n
  induction n with
  | zero => intro a1 a2 a3 h; unfold sX5_withNear_b4 at h; cases h
  | succ n ih =>
    intro a1 a2 a3 h
    unfold sX5_withNear_b4 at h
    refine G_iload_n X 3 dX5_withNear_4 rfl rfl ?_
    refine G_aload_n X 0 dX5_withNear_5 rfl rfl ?_
    refine f_X5_25 X (kd_w0 hr) (rg_rs _ _ _) dX5_withNear_6 ?_
    refine G_icmp_ge X (tgt := 38) dX5_withNear_9 (by decide) (fun c1 => ?_) (fun c1 => ?_)
    · have h := it_t c1 h
      refine G_iload_n X 2 dX5_withNear_38 rfl rfl ?_
      obtain rfl := Option.some.inj h
      exact hf _ _ dX5_withNear_39 rfl
    · have h := it_f c1 h
      refine G_iload_n X 1 dX5_withNear_12 rfl rfl ?_
      refine G_iload_n X 3 dX5_withNear_13 rfl rfl ?_
      obtain ⟨q2, hq2, h⟩ := bd_some h
      refine G_callSN X (As := [.int a1, .int a3]) (rest := []) (T' := rs T r x) (st2 := [.int q2]) (ct_X6_isIn (l := g.2.1) (κ := gκ g)   hq2) cal_X6_isIn nM_X5_83 wT_X6_isIn (by decide) rfl rfl (Nat.le_of_ble_eq_true rfl) ⟨Nat.zero_le _, Nat.zero_le _⟩ dX5_withNear_14 rfl ?_
      refine G_if_eq X (tgt := 32) dX5_withNear_17 (by decide) (fun c3 => ?_) (fun c3 => ?_)
      · have h := it_t c3 h
        obtain ⟨v4, ev4, h⟩ := nm_some h
        refine G_iinc X (v := v4) (lv' := [(3, .int v4), (0, .ref (xE (gκ g) r 0 0)), (1, .int a1), (2, .int a2)]) 3 dX5_withNear_32 rfl (by rw [ev4]; rfl) (by decide) rfl ?_
        refine G_goto X (tgt := 4) dX5_withNear_35 (by decide) ?_
        refine G_sub [1, 2, 3, 0] rfl ?_
        exact ih _ _ _ h
      · have h := it_f c3 h
        refine G_iload_n X 2 dX5_withNear_20 rfl rfl ?_
        refine G_aload_n X 0 dX5_withNear_21 rfl rfl ?_
        refine f_X5_17 X (kd_w0 hr) rfl dX5_withNear_22 ?_
        refine G_iload_n X 3 dX5_withNear_25 rfl rfl ?_
        obtain ⟨g5, h⟩ := gd_some h
        refine G_aaldB X (kd_w2 hr) g5 dX5_withNear_26 ?_
        refine f_X5_61 X (kd_o0 hr (inb_isO (by decide) g5)) (rg_rs _ _ _) dX5_withNear_27 ?_
        refine G_ior X dX5_withNear_30 ?_
        refine G_istore_n X (lv' := [(2, .int (a2 ||| (gI x (ix a3 + 1) 0 10))), (0, .ref (xE (gκ g) r 0 0)), (1, .int a1), (3, .int a3)]) dX5_withNear_31 rfl (by decide) rfl ?_
        obtain ⟨v6, ev6, h⟩ := nm_some h
        refine G_iinc X (v := v6) (lv' := [(3, .int v6), (2, .int (a2 ||| (gI x (ix a3 + 1) 0 10))), (0, .ref (xE (gκ g) r 0 0)), (1, .int a1)]) 3 dX5_withNear_32 rfl (by rw [ev6]; rfl) (by decide) rfl ?_
        refine G_goto X (tgt := 4) dX5_withNear_35 (by decide) ?_
        refine G_sub [2, 3, 1, 0] rfl ?_
        exact ih _ _ _ h
set_option maxRecDepth 20000 in
theorem gX5_withNear {g : GX} {T : TT} {r : Nat}  {x : St} {a1 : Int32} {res : Int32} (X : CX g RX5 cX5_withNear 4 1 21) (hr : isW r) (hf : FinI g cX5_withNear .int (rs T r x) (res)) (h : sX5_withNear x a1 = some res) : G g 0 0 (rs T r x) 0 [(0, .ref (xE (gκ g) r 0 0)), (1, .int a1)] [] := by
  unfold sX5_withNear at h
  refine G_iload_n X 1 dX5_withNear_0 rfl rfl ?_
  refine G_istore_n X (lv' := [(2, .int a1), (0, .ref (xE (gκ g) r 0 0)), (1, .int a1)]) dX5_withNear_1 rfl (by decide) rfl ?_
  refine G_iconst X (v := (0 : Int32)) dX5_withNear_2 (by decide) ?_
  refine G_istore_n X (lv' := [(3, .int ((0 : Int32))), (2, .int a1), (0, .ref (xE (gκ g) r 0 0)), (1, .int a1)]) dX5_withNear_3 rfl (by decide) rfl ?_
  refine G_sub [2, 3, 1, 0] rfl ?_
  exact gX5_withNear_b4 X hr hf FU _ _ _ h
set_option maxRecDepth 20000 in
theorem ct_X5_withNear {l : Launch} {κ : KX} {T : TT} {r : Nat}  {x : St} {a1 : Int32} {res : Int32} (hr : isW r) (h : sX5_withNear x a1 = some res) : Ct l κ yX5_withNear cX5_withNear 4 (some .int) 1 21 [.ref (xE κ r 0 0), .int a1] (rs T r x) (rs T r x) (some (.int (res))) := by
  refine Ct_i RX5 rfl (by decide +kernel) (Nat.le_of_ble_eq_true rfl) (fun g hl hκ X hf => ?_)
  subst hl; subst hκ
  exact gX5_withNear X hr hf h
set_option maxRecDepth 20000 in
theorem gX5_mayPass {g : GX} {T : TT} {r : Nat}  {x : St} {a1 : Int32} {res : Int32} (X : CX g RX5 cX5_mayPass 2 0 0) (hr : isW r) (hf : FinI g cX5_mayPass .boolean (rs T r x) (res)) (h : sX5_mayPass x a1 = some res) : G g 0 0 (rs T r x) 0 [(0, .ref (xE (gκ g) r 0 0)), (1, .int a1)] [] := by
  unfold sX5_mayPass at h
  refine G_iload_n X 1 dX5_mayPass_0 rfl rfl ?_
  refine G_iconst X (v := (1 : Int32)) dX5_mayPass_1 (by decide) ?_
  refine G_icmp_lt X (tgt := 26) dX5_mayPass_2 (by decide) (fun c1 => ?_) (fun c1 => ?_)
  · have h := it_t c1 h
    refine G_iconst X (v := (0 : Int32)) dX5_mayPass_26 (by decide) ?_
    obtain rfl := Option.some.inj h
    exact hf _ _ dX5_mayPass_27 (isb_n (v := (0 : Int32)) rfl)
  · have h := it_f c1 h
    refine G_iload_n X 1 dX5_mayPass_5 rfl rfl ?_
    refine G_bipush X (v := (99 : Int32)) dX5_mayPass_6 (by decide) ?_
    refine G_icmp_gt X (tgt := 26) dX5_mayPass_8 (by decide) (fun c2 => ?_) (fun c2 => ?_)
    · have h := it_t c2 h
      refine G_iconst X (v := (0 : Int32)) dX5_mayPass_26 (by decide) ?_
      obtain rfl := Option.some.inj h
      exact hf _ _ dX5_mayPass_27 (isb_n (v := (0 : Int32)) rfl)
    · have h := it_f c2 h
      refine G_aload_n X 0 dX5_mayPass_11 rfl rfl ?_
      refine f_X5_38 X (kd_w0 hr) (rg_rs _ _ _) dX5_mayPass_12 ?_
      refine G_iload_n X 1 dX5_mayPass_15 rfl rfl ?_
      refine G_iadd X dX5_mayPass_16 ?_
      refine G_ldc X (v := (99999 : Int32)) dX5_mayPass_17 wK_X5_90 ?_
      refine G_icmp_gt X (tgt := 26) dX5_mayPass_19 (by decide) (fun c3 => ?_) (fun c3 => ?_)
      · have h := it_t c3 h
        refine G_iconst X (v := (0 : Int32)) dX5_mayPass_26 (by decide) ?_
        obtain rfl := Option.some.inj h
        exact hf _ _ dX5_mayPass_27 (isb_n (v := (0 : Int32)) rfl)
      · have h := it_f c3 h
        refine G_iconst X (v := (1 : Int32)) dX5_mayPass_22 (by decide) ?_
        refine G_goto X (tgt := 27) dX5_mayPass_23 (by decide) ?_
        obtain rfl := Option.some.inj h
        exact hf _ _ dX5_mayPass_27 (isb_n (v := (1 : Int32)) rfl)
set_option maxRecDepth 20000 in
theorem ct_X5_mayPass {l : Launch} {κ : KX} {T : TT} {r : Nat}  {x : St} {a1 : Int32} {res : Int32} (hr : isW r) (h : sX5_mayPass x a1 = some res) : Ct l κ yX5_mayPass cX5_mayPass 2 (some .boolean) 0 0 [.ref (xE κ r 0 0), .int a1] (rs T r x) (rs T r x) (some (.int (res))) := by
  refine Ct_i RX5 rfl (by decide +kernel) (Nat.le_of_ble_eq_true rfl) (fun g hl hκ X hf => ?_)
  subst hl; subst hκ
  exact gX5_mayPass X hr hf h
set_option maxRecDepth 20000 in
theorem gX5_wakeOrSkip_b37 {g : GX} {T : TT} {r : Nat} {o1 : Nat} {x : St}  {res : St}  (X : CX g RX5 cX5_wakeOrSkip 2 1 24) (hr : isW r) (ho1 : isO o1) (hf : FinV g cX5_wakeOrSkip (rs T r res))   (h : sX5_wakeOrSkip_b37  o1 x = some res) : G g 0 0 (rs T r x) 37 [(1, .ref (xE (gκ g) r o1 0))] [] := by
  unfold sX5_wakeOrSkip_b37 at h
  refine G_aload_n X 0 dX5_wakeOrSkip_37 rfl rfl ?_
  obtain ⟨q6, hq6, h⟩ := bd_some h
  refine G_callVN X (As := []) (rest := []) (T' := rs T r q6) (st2 := []) (ct_X0_startListening (l := g.2.1) (κ := gκ g) (T := T) (r := r) (x := x) hr ho1 hq6) cal_X0_startListening nM_X5_123 wI_X0_startListening wS_X0_startListening (kd_o0 hr ho1) rfl (by decide) rfl rfl (Nat.le_of_ble_eq_true rfl) ⟨Nat.zero_le _, Nat.zero_le _⟩ dX5_wakeOrSkip_38 rfl ?_
  obtain rfl := Option.some.inj h
  exact hf _ _ dX5_wakeOrSkip_41
set_option maxRecDepth 20000 in
theorem gX5_wakeOrSkip {g : GX} {T : TT} {r : Nat} {o1 : Nat} {x : St}  {res : St} (X : CX g RX5 cX5_wakeOrSkip 2 1 24) (hr : isW r) (ho1 : isO o1) (hf : FinV g cX5_wakeOrSkip (rs T r res)) (h : sX5_wakeOrSkip o1 x = some res) : G g 0 0 (rs T r x) 0 [(0, .ref (xE (gκ g) r 0 0)), (1, .ref (xE (gκ g) r o1 0))] [] := by
  unfold sX5_wakeOrSkip at h
  refine G_aload_n X 1 dX5_wakeOrSkip_0 rfl rfl ?_
  refine f_X5_119 X (kd_o0 hr ho1) (rg_rs _ _ _) dX5_wakeOrSkip_1 ?_
  refine G_if_ne X (tgt := 37) dX5_wakeOrSkip_4 (by decide) (fun c1 => ?_) (fun c1 => ?_)
  · have h := it_t c1 h
    refine G_sub [1] rfl ?_
    exact gX5_wakeOrSkip_b37 X hr ho1 hf h
  · have h := it_f (fun k => k c1) h
    refine G_aload_n X 1 dX5_wakeOrSkip_7 rfl rfl ?_
    refine f_X5_61 X (kd_o0 hr ho1) (rg_rs _ _ _) dX5_wakeOrSkip_8 ?_
    refine G_if_eq X (tgt := 37) dX5_wakeOrSkip_11 (by decide) (fun c2 => ?_) (fun c2 => ?_)
    · have h := it_t c2 h
      refine G_sub [1] rfl ?_
      exact gX5_wakeOrSkip_b37 X hr ho1 hf h
    · have h := it_f c2 h
      refine G_aload_n X 1 dX5_wakeOrSkip_14 rfl rfl ?_
      refine f_X5_61 X (kd_o0 hr ho1) (rg_rs _ _ _) dX5_wakeOrSkip_15 ?_
      refine G_aload_n X 0 dX5_wakeOrSkip_18 rfl rfl ?_
      refine G_aload_n X 1 dX5_wakeOrSkip_19 rfl rfl ?_
      obtain ⟨q3, hq3, h⟩ := bd_some h
      refine G_callV X (As := [.ref (xE (gκ g) r o1 0)]) (rest := [.int (gI x o1 0 10)]) (T' := rs T r x) (st2 := [.int q3, .int (gI x o1 0 10)]) (ct_X5_knownTo (l := g.2.1) (κ := gκ g) (T := T) (r := r) (x := x) hr ho1 hq3) cal_X5_knownTo wM_X5_79 wI_X5_knownTo wS_X5_knownTo (kd_w0 hr) rfl (by decide) rfl rfl (Nat.le_of_ble_eq_true rfl) ⟨Nat.zero_le _, Nat.zero_le _⟩ dX5_wakeOrSkip_20 rfl ?_
      refine G_iconst X (v := (-1 : Int32)) dX5_wakeOrSkip_23 (by decide) ?_
      refine G_ixor X dX5_wakeOrSkip_24 ?_
      refine G_iand X dX5_wakeOrSkip_25 ?_
      refine G_if_ne X (tgt := 37) dX5_wakeOrSkip_26 (by decide) (fun c4 => ?_) (fun c4 => ?_)
      · have h := it_t c4 h
        refine G_sub [1] rfl ?_
        exact gX5_wakeOrSkip_b37 X hr ho1 hf h
      · have h := it_f (fun k => k c4) h
        refine G_aload_n X 1 dX5_wakeOrSkip_29 rfl rfl ?_
        refine G_iconst X (v := (1 : Int32)) dX5_wakeOrSkip_30 (by decide) ?_
        obtain ⟨z5, ez5, h⟩ := nm_some h
        refine p_X5_119 X (T' := rs T r z5) (kd_o0 hr ho1) (rg_rs _ _ _) (by decide)  (by rw [rs_rs, ez5]) dX5_wakeOrSkip_31 ?_
        refine G_goto X (tgt := 41) dX5_wakeOrSkip_34 (by decide) ?_
        obtain rfl := Option.some.inj h
        exact hf _ _ dX5_wakeOrSkip_41
set_option maxRecDepth 20000 in
theorem ct_X5_wakeOrSkip {l : Launch} {κ : KX} {T : TT} {r : Nat} {o1 : Nat} {x : St}  {res : St} (hr : isW r) (ho1 : isO o1) (h : sX5_wakeOrSkip o1 x = some res) : Ct l κ yX5_wakeOrSkip cX5_wakeOrSkip 2 none 1 24 [.ref (xE κ r 0 0), .ref (xE κ r o1 0)] (rs T r x) (rs T r res) none := by
  refine Ct_v RX5 rfl (by decide +kernel) (Nat.le_of_ble_eq_true rfl) (fun g hl hκ X hf => ?_)
  subst hl; subst hκ
  exact gX5_wakeOrSkip X hr ho1 hf h
set_option maxRecDepth 20000 in
theorem gX5_waitByDraw {g : GX} {T : TT} {r : Nat} {o1 : Nat} {x : St}  {res : St} (X : CX g RX5 cX5_waitByDraw 3 2 41) (hr : isW r) (ho1 : isO o1) (hf : FinV g cX5_waitByDraw (rs T r res)) (h : sX5_waitByDraw o1 x = some res) : G g 0 0 (rs T r x) 0 [(0, .ref (xE (gκ g) r 0 0)), (1, .ref (xE (gκ g) r o1 0))] [] := by
  unfold sX5_waitByDraw at h
  refine G_aload_n X 1 dX5_waitByDraw_0 rfl rfl ?_
  obtain ⟨q1, hq1, h⟩ := bd_some h
  refine G_callVN X (As := []) (rest := []) (T' := rs T r x) (st2 := [.int q1]) (ct_X0_windowSize (l := g.2.1) (κ := gκ g) (T := T) (r := r) (x := x) hr ho1 hq1) cal_X0_windowSize nM_X5_129 wI_X0_windowSize wS_X0_windowSize (kd_o0 hr ho1) rfl (by decide) rfl rfl (Nat.le_of_ble_eq_true rfl) ⟨Nat.zero_le _, Nat.zero_le _⟩ dX5_waitByDraw_1 rfl ?_
  refine G_istore_n X (lv' := [(2, .int q1), (0, .ref (xE (gκ g) r 0 0)), (1, .ref (xE (gκ g) r o1 0))]) dX5_waitByDraw_4 rfl (by decide) rfl ?_
  refine G_aload_n X 1 dX5_waitByDraw_5 rfl rfl ?_
  refine G_aload_n X 1 dX5_waitByDraw_6 rfl rfl ?_
  refine f_X5_29 X (kd_w0 hr) (rg_rs _ _ _) dX5_waitByDraw_7 ?_
  refine G_ldc X (v := (1103515245 : Int32)) dX5_waitByDraw_10 wK_X5_133 ?_
  refine G_imul X dX5_waitByDraw_12 ?_
  refine G_sipush X (v := (12345 : Int32)) dX5_waitByDraw_13 (by decide) ?_
  refine G_iadd X dX5_waitByDraw_16 ?_
  obtain ⟨v2, ev2, h⟩ := nm_some h
  refine G_nmi ev2 ?_
  obtain ⟨z3, ez3, h⟩ := nm_some h
  refine p_X5_29 X (T' := rs T r z3) (kd_w0 hr) (rg_rs _ _ _)  (by rw [rs_rs, ez3]) dX5_waitByDraw_17 ?_
  refine G_aload_n X 2 dX5_waitByDraw_20 rfl rfl ?_
  refine G_iconst X (v := (2 : Int32)) dX5_waitByDraw_21 (by decide) ?_
  obtain ⟨z4, ez4, h⟩ := nm_some h
  refine p_X5_70 X (T' := rs T r z4) (kd_o0 hr ho1) (rg_rs _ _ _)  (by rw [rs_rs, ez4]) dX5_waitByDraw_22 ?_
  refine G_aload_n X 2 dX5_waitByDraw_25 rfl rfl ?_
  refine G_iload_n X 0 dX5_waitByDraw_26 rfl rfl ?_
  refine G_iconst X (v := (1 : Int32)) dX5_waitByDraw_27 (by decide) ?_
  refine G_icmp_ge X (tgt := 35) dX5_waitByDraw_28 (by decide) (fun c5 => ?_) (fun c5 => ?_)
  · have h := it_t c5 h
    refine G_iconst X (v := (1 : Int32)) dX5_waitByDraw_35 (by decide) ?_
    refine G_aload_n X 1 dX5_waitByDraw_36 rfl rfl ?_
    refine f_X5_29 X (kd_w0 hr) (rg_rs _ _ _) dX5_waitByDraw_37 ?_
    refine G_bipush X (v := (16 : Int32)) dX5_waitByDraw_40 (by decide) ?_
    refine G_iushr X dX5_waitByDraw_42 ?_
    refine G_iload_n X 0 dX5_waitByDraw_43 rfl rfl ?_
    obtain ⟨g6, h⟩ := gd_some h
    refine G_irem X dX5_waitByDraw_44 (nz_ne g6) ?_
    refine G_iadd X dX5_waitByDraw_45 ?_
    obtain ⟨v7, ev7, h⟩ := nm_some h
    refine G_nmi ev7 ?_
    obtain ⟨z8, ez8, h⟩ := nm_some h
    refine p_X5_110 X (T' := rs T r z8) (kd_o0 hr ho1) (rg_rs _ _ _)  (by rw [rs_rs, ez8]) dX5_waitByDraw_46 ?_
    obtain rfl := Option.some.inj h
    exact hf _ _ dX5_waitByDraw_49
  · have h := it_f c5 h
    refine G_iconst X (v := (1 : Int32)) dX5_waitByDraw_31 (by decide) ?_
    refine G_goto X (tgt := 46) dX5_waitByDraw_32 (by decide) ?_
    obtain ⟨z9, ez9, h⟩ := nm_some h
    refine p_X5_110 X (T' := rs T r z9) (kd_o0 hr ho1) (rg_rs _ _ _)  (by rw [rs_rs, ez9]) dX5_waitByDraw_46 ?_
    obtain rfl := Option.some.inj h
    exact hf _ _ dX5_waitByDraw_49
set_option maxRecDepth 20000 in
theorem ct_X5_waitByDraw {l : Launch} {κ : KX} {T : TT} {r : Nat} {o1 : Nat} {x : St}  {res : St} (hr : isW r) (ho1 : isO o1) (h : sX5_waitByDraw o1 x = some res) : Ct l κ yX5_waitByDraw cX5_waitByDraw 3 none 2 41 [.ref (xE κ r 0 0), .ref (xE κ r o1 0)] (rs T r x) (rs T r res) none := by
  refine Ct_v RX5 rfl (by decide +kernel) (Nat.le_of_ble_eq_true rfl) (fun g hl hκ X hf => ?_)
  subst hl; subst hκ
  exact gX5_waitByDraw X hr ho1 hf h
set_option maxRecDepth 20000 in
theorem gX5_waitOn {g : GX} {T : TT} {r : Nat} {o1 : Nat} {x : St}  {res : St} (X : CX g RX5 cX5_waitOn 2 1 21) (hr : isW r) (ho1 : isO o1) (hf : FinV g cX5_waitOn (rs T r res)) (h : sX5_waitOn o1 x = some res) : G g 0 0 (rs T r x) 0 [(0, .ref (xE (gκ g) r 0 0)), (1, .ref (xE (gκ g) r o1 0))] [] := by
  unfold sX5_waitOn at h
  refine G_aload_n X 1 dX5_waitOn_0 rfl rfl ?_
  refine G_dup X dX5_waitOn_1 rfl ?_
  refine f_X5_110 X (kd_o0 hr ho1) (rg_rs _ _ _) dX5_waitOn_2 ?_
  refine G_iconst X (v := (1 : Int32)) dX5_waitOn_5 (by decide) ?_
  refine G_isub X dX5_waitOn_6 ?_
  obtain ⟨z1, ez1, h⟩ := nm_some h
  refine p_X5_110 X (T' := rs T r z1) (kd_o0 hr ho1) (rg_rs _ _ _)  (by rw [rs_rs, ez1]) dX5_waitOn_7 ?_
  refine G_aload_n X 1 dX5_waitOn_10 rfl rfl ?_
  refine f_X5_110 X (kd_o0 hr ho1) (rg_rs _ _ _) dX5_waitOn_11 ?_
  refine G_if_ne X (tgt := 21) dX5_waitOn_14 (by decide) (fun c2 => ?_) (fun c2 => ?_)
  · have h := it_t c2 h
    obtain rfl := Option.some.inj h
    exact hf _ _ dX5_waitOn_21
  · have h := it_f (fun k => k c2) h
    refine G_aload_n X 1 dX5_waitOn_17 rfl rfl ?_
    obtain ⟨q3, hq3, h⟩ := bd_some h
    refine G_callVN X (As := []) (rest := []) (T' := rs T r q3) (st2 := []) (ct_X0_startSending (l := g.2.1) (κ := gκ g) (T := T) (r := r) (x := z1) hr ho1 hq3) cal_X0_startSending nM_X5_126 wI_X0_startSending wS_X0_startSending (kd_o0 hr ho1) rfl (by decide) rfl rfl (Nat.le_of_ble_eq_true rfl) ⟨Nat.zero_le _, Nat.zero_le _⟩ dX5_waitOn_18 rfl ?_
    obtain rfl := Option.some.inj h
    exact hf _ _ dX5_waitOn_21
set_option maxRecDepth 20000 in
theorem ct_X5_waitOn {l : Launch} {κ : KX} {T : TT} {r : Nat} {o1 : Nat} {x : St}  {res : St} (hr : isW r) (ho1 : isO o1) (h : sX5_waitOn o1 x = some res) : Ct l κ yX5_waitOn cX5_waitOn 2 none 1 21 [.ref (xE κ r 0 0), .ref (xE κ r o1 0)] (rs T r x) (rs T r res) none := by
  refine Ct_v RX5 rfl (by decide +kernel) (Nat.le_of_ble_eq_true rfl) (fun g hl hκ X hf => ?_)
  subst hl; subst hκ
  exact gX5_waitOn X hr ho1 hf h
set_option maxRecDepth 20000 in
theorem gX5_changeStates_b2 {g : GX} {T : TT} {r : Nat}   {res : St}  (X : CX g RX5 cX5_changeStates 3 3 63) (hr : isW r) (hf : FinV g cX5_changeStates (rs T r res))  : ∀ (n : Nat) (x : St) (a1 : Int32) (h : sX5_changeStates_b2 n  x a1 = some res), G g 0 0 (rs T r x) 2 [(0, .ref (xE (gκ g) r 0 0)), (1, .int a1)] [] := by
  intro n
  induction n with
  | zero => intro x a1 h; unfold sX5_changeStates_b2 at h; cases h
  | succ n ih =>
    intro x a1 h
    unfold sX5_changeStates_b2 at h
    refine G_iload_n X 1 dX5_changeStates_2 rfl rfl ?_
    refine G_aload_n X 0 dX5_changeStates_3 rfl rfl ?_
    refine f_X5_25 X (kd_w0 hr) (rg_rs _ _ _) dX5_changeStates_4 ?_
    refine G_icmp_ge X (tgt := 118) dX5_changeStates_7 (by decide) (fun c1 => ?_) (fun c1 => ?_)
    · have h := it_t c1 h
      obtain rfl := Option.some.inj h
      exact hf _ _ dX5_changeStates_118
    · have h := it_f c1 h
      refine G_aload_n X 0 dX5_changeStates_10 rfl rfl ?_
      refine f_X5_17 X (kd_w0 hr) rfl dX5_changeStates_11 ?_
      refine G_iload_n X 1 dX5_changeStates_14 rfl rfl ?_
      obtain ⟨g2, h⟩ := gd_some h
      refine G_aaldB X (kd_w2 hr) g2 dX5_changeStates_15 ?_
      refine G_astore_n X (lv' := [(2, .ref (xE (gκ g) r (ix a1 + 1) 0)), (0, .ref (xE (gκ g) r 0 0)), (1, .int a1)]) dX5_changeStates_16 rfl (by decide) rfl ?_
      refine G_aload_n X 0 dX5_changeStates_17 rfl rfl ?_
      refine f_X5_70 X (kd_o0 hr (inb_isO (by decide) g2)) (rg_rs _ _ _) dX5_changeStates_18 ?_
      obtain ⟨v3, ev3, h⟩ := nm_some h
      refine G_nmi ev3 ?_
      by_cases c4 : v3 = (0 : Int32)
      · have h := it_t c4 h
        rw [c4]
        refine G_tabIn X (off := 27) (tgt := 48) dX5_changeStates_21 (by decide) (by decide) (by decide) (by decide) ?_
        refine G_aload_n X 0 dX5_changeStates_48 rfl rfl ?_
        refine G_aload_n X 1 dX5_changeStates_49 rfl rfl ?_
        refine f_X5_38 X (kd_w0 hr) (rg_rs _ _ _) dX5_changeStates_50 ?_
        obtain ⟨q5, hq5, h⟩ := bd_some h
        refine G_callVN X (As := [.int (gI x 0 0 5)]) (rest := []) (T' := rs T r x) (st2 := [.int q5]) (ct_X0_isDueAt (l := g.2.1) (κ := gκ g) (T := T) (r := r) (x := x) hr (inb_isO (by decide) g2) hq5) cal_X0_isDueAt nM_X5_103 wI_X0_isDueAt wS_X0_isDueAt (kd_o0 hr (inb_isO (by decide) g2)) rfl (by decide) rfl rfl (Nat.le_of_ble_eq_true rfl) ⟨Nat.zero_le _, Nat.zero_le _⟩ dX5_changeStates_53 rfl ?_
        refine G_if_eq X (tgt := 112) dX5_changeStates_56 (by decide) (fun c6 => ?_) (fun c6 => ?_)
        · have h := it_t c6 h
          obtain ⟨v7, ev7, h⟩ := nm_some h
          refine G_iinc X (v := v7) (lv' := [(1, .int v7), (2, .ref (xE (gκ g) r (ix a1 + 1) 0)), (0, .ref (xE (gκ g) r 0 0))]) 2 dX5_changeStates_112 rfl (by rw [ev7]; rfl) (by decide) rfl ?_
          refine G_goto X (tgt := 2) dX5_changeStates_115 (by decide) ?_
          refine G_sub [2, 0] rfl ?_
          exact ih _ _ h
        · have h := it_f c6 h
          refine G_aload_n X 1 dX5_changeStates_59 rfl rfl ?_
          refine G_aload_n X 0 dX5_changeStates_60 rfl rfl ?_
          obtain ⟨q8, hq8, h⟩ := bd_some h
          refine G_callV X (As := [.ref (xE (gκ g) r (ix a1 + 1) 0)]) (rest := []) (T' := rs T r q8) (st2 := []) (ct_X5_wakeOrSkip (l := g.2.1) (κ := gκ g) (T := T) (r := r) (x := x) hr (inb_isO (by decide) g2) hq8) cal_X5_wakeOrSkip wM_X5_107 wI_X5_wakeOrSkip wS_X5_wakeOrSkip (kd_w0 hr) rfl (by decide) rfl rfl (Nat.le_of_ble_eq_true rfl) ⟨Nat.zero_le _, Nat.zero_le _⟩ dX5_changeStates_61 rfl ?_
          refine G_goto X (tgt := 112) dX5_changeStates_64 (by decide) ?_
          obtain ⟨v9, ev9, h⟩ := nm_some h
          refine G_iinc X (v := v9) (lv' := [(1, .int v9), (2, .ref (xE (gκ g) r (ix a1 + 1) 0)), (0, .ref (xE (gκ g) r 0 0))]) 2 dX5_changeStates_112 rfl (by rw [ev9]; rfl) (by decide) rfl ?_
          refine G_goto X (tgt := 2) dX5_changeStates_115 (by decide) ?_
          refine G_sub [2, 0] rfl ?_
          exact ih _ _ h
      have h := it_f c4 h
      by_cases c10 : v3 = (1 : Int32)
      · have h := it_t c10 h
        rw [c10]
        refine G_tabIn X (off := 46) (tgt := 67) dX5_changeStates_21 (by decide) (by decide) (by decide) (by decide) ?_
        refine G_aload_n X 0 dX5_changeStates_67 rfl rfl ?_
        refine G_dup X dX5_changeStates_68 rfl ?_
        refine f_X5_110 X (kd_o0 hr (inb_isO (by decide) g2)) (rg_rs _ _ _) dX5_changeStates_69 ?_
        refine G_iconst X (v := (1 : Int32)) dX5_changeStates_72 (by decide) ?_
        refine G_isub X dX5_changeStates_73 ?_
        obtain ⟨v11, ev11, h⟩ := nm_some h
        refine G_nmi ev11 ?_
        obtain ⟨z12, ez12, h⟩ := nm_some h
        refine p_X5_110 X (T' := rs T r z12) (kd_o0 hr (inb_isO (by decide) g2)) (rg_rs _ _ _)  (by rw [rs_rs, ez12]) dX5_changeStates_74 ?_
        refine G_aload_n X 0 dX5_changeStates_77 rfl rfl ?_
        refine f_X5_110 X (kd_o0 hr (inb_isO (by decide) g2)) (rg_rs _ _ _) dX5_changeStates_78 ?_
        refine G_if_ne X (tgt := 112) dX5_changeStates_81 (by decide) (fun c13 => ?_) (fun c13 => ?_)
        · have h := it_t c13 h
          obtain ⟨v14, ev14, h⟩ := nm_some h
          refine G_iinc X (v := v14) (lv' := [(1, .int v14), (2, .ref (xE (gκ g) r (ix a1 + 1) 0)), (0, .ref (xE (gκ g) r 0 0))]) 2 dX5_changeStates_112 rfl (by rw [ev14]; rfl) (by decide) rfl ?_
          refine G_goto X (tgt := 2) dX5_changeStates_115 (by decide) ?_
          refine G_sub [2, 0] rfl ?_
          exact ih _ _ h
        · have h := it_f (fun k => k c13) h
          refine G_aload_n X 1 dX5_changeStates_84 rfl rfl ?_
          refine G_aload_n X 0 dX5_changeStates_85 rfl rfl ?_
          obtain ⟨q15, hq15, h⟩ := bd_some h
          refine G_callV X (As := [.ref (xE (gκ g) r (ix a1 + 1) 0)]) (rest := []) (T' := rs T r q15) (st2 := []) (ct_X5_waitByDraw (l := g.2.1) (κ := gκ g) (T := T) (r := r) (x := z12) hr (inb_isO (by decide) g2) hq15) cal_X5_waitByDraw wM_X5_113 wI_X5_waitByDraw wS_X5_waitByDraw (kd_w0 hr) rfl (by decide) rfl rfl (Nat.le_of_ble_eq_true rfl) ⟨Nat.zero_le _, Nat.zero_le _⟩ dX5_changeStates_86 rfl ?_
          refine G_goto X (tgt := 112) dX5_changeStates_89 (by decide) ?_
          obtain ⟨v16, ev16, h⟩ := nm_some h
          refine G_iinc X (v := v16) (lv' := [(1, .int v16), (2, .ref (xE (gκ g) r (ix a1 + 1) 0)), (0, .ref (xE (gκ g) r 0 0))]) 2 dX5_changeStates_112 rfl (by rw [ev16]; rfl) (by decide) rfl ?_
          refine G_goto X (tgt := 2) dX5_changeStates_115 (by decide) ?_
          refine G_sub [2, 0] rfl ?_
          exact ih _ _ h
      have h := it_f c10 h
      by_cases c17 : v3 = (2 : Int32)
      · have h := it_t c17 h
        rw [c17]
        refine G_tabIn X (off := 71) (tgt := 92) dX5_changeStates_21 (by decide) (by decide) (by decide) (by decide) ?_
        refine G_aload_n X 0 dX5_changeStates_92 rfl rfl ?_
        refine f_X5_61 X (kd_o0 hr (inb_isO (by decide) g2)) (rg_rs _ _ _) dX5_changeStates_93 ?_
        refine G_aload_n X 1 dX5_changeStates_96 rfl rfl ?_
        refine f_X5_50 X (kd_w0 hr) (rg_rs _ _ _) dX5_changeStates_97 ?_
        refine G_iand X dX5_changeStates_100 ?_
        refine G_if_ne X (tgt := 112) dX5_changeStates_101 (by decide) (fun c18 => ?_) (fun c18 => ?_)
        · have h := it_t c18 h
          obtain ⟨v19, ev19, h⟩ := nm_some h
          refine G_iinc X (v := v19) (lv' := [(1, .int v19), (2, .ref (xE (gκ g) r (ix a1 + 1) 0)), (0, .ref (xE (gκ g) r 0 0))]) 2 dX5_changeStates_112 rfl (by rw [ev19]; rfl) (by decide) rfl ?_
          refine G_goto X (tgt := 2) dX5_changeStates_115 (by decide) ?_
          refine G_sub [2, 0] rfl ?_
          exact ih _ _ h
        · have h := it_f (fun k => k c18) h
          refine G_aload_n X 1 dX5_changeStates_104 rfl rfl ?_
          refine G_aload_n X 0 dX5_changeStates_105 rfl rfl ?_
          obtain ⟨q20, hq20, h⟩ := bd_some h
          refine G_callV X (As := [.ref (xE (gκ g) r (ix a1 + 1) 0)]) (rest := []) (T' := rs T r q20) (st2 := []) (ct_X5_waitOn (l := g.2.1) (κ := gκ g) (T := T) (r := r) (x := x) hr (inb_isO (by decide) g2) hq20) cal_X5_waitOn wM_X5_116 wI_X5_waitOn wS_X5_waitOn (kd_w0 hr) rfl (by decide) rfl rfl (Nat.le_of_ble_eq_true rfl) ⟨Nat.zero_le _, Nat.zero_le _⟩ dX5_changeStates_106 rfl ?_
          refine G_goto X (tgt := 112) dX5_changeStates_109 (by decide) ?_
          obtain ⟨v21, ev21, h⟩ := nm_some h
          refine G_iinc X (v := v21) (lv' := [(1, .int v21), (2, .ref (xE (gκ g) r (ix a1 + 1) 0)), (0, .ref (xE (gκ g) r 0 0))]) 2 dX5_changeStates_112 rfl (by rw [ev21]; rfl) (by decide) rfl ?_
          refine G_goto X (tgt := 2) dX5_changeStates_115 (by decide) ?_
          refine G_sub [2, 0] rfl ?_
          exact ih _ _ h
      have h := it_f c17 h
      refine G_tabOut X (tgt := 112) dX5_changeStates_21 (sw_out 0 2 [(0 : Int32), (1 : Int32), (2 : Int32)] (by decide) (by simp [c4, c10, c17])) (by decide) ?_
      obtain ⟨v22, ev22, h⟩ := nm_some h
      refine G_iinc X (v := v22) (lv' := [(1, .int v22), (2, .ref (xE (gκ g) r (ix a1 + 1) 0)), (0, .ref (xE (gκ g) r 0 0))]) 2 dX5_changeStates_112 rfl (by rw [ev22]; rfl) (by decide) rfl ?_
      refine G_goto X (tgt := 2) dX5_changeStates_115 (by decide) ?_
      refine G_sub [2, 0] rfl ?_
      exact ih _ _ h
set_option maxRecDepth 20000 in
theorem gX5_changeStates {g : GX} {T : TT} {r : Nat}  {x : St}  {res : St} (X : CX g RX5 cX5_changeStates 3 3 63) (hr : isW r) (hf : FinV g cX5_changeStates (rs T r res)) (h : sX5_changeStates x = some res) : G g 0 0 (rs T r x) 0 [(0, .ref (xE (gκ g) r 0 0))] [] := by
  unfold sX5_changeStates at h
  refine G_iconst X (v := (0 : Int32)) dX5_changeStates_0 (by decide) ?_
  refine G_istore_n X (lv' := [(1, .int ((0 : Int32))), (0, .ref (xE (gκ g) r 0 0))]) dX5_changeStates_1 rfl (by decide) rfl ?_
  refine G_sub [1, 0] rfl ?_
  exact gX5_changeStates_b2 X hr hf FU _ _ h
set_option maxRecDepth 20000 in
theorem ct_X5_changeStates {l : Launch} {κ : KX} {T : TT} {r : Nat}  {x : St}  {res : St} (hr : isW r) (h : sX5_changeStates x = some res) : Ct l κ yX5_changeStates cX5_changeStates 3 none 3 63 [.ref (xE κ r 0 0)] (rs T r x) (rs T r res) none := by
  refine Ct_v RX5 rfl (by decide +kernel) (Nat.le_of_ble_eq_true rfl) (fun g hl hκ X hf => ?_)
  subst hl; subst hκ
  exact gX5_changeStates X hr hf h
set_option maxRecDepth 20000 in
theorem gX5_payForStates_b2 {g : GX} {T : TT} {r : Nat}   {res : St}  (X : CX g RX5 cX5_payForStates 3 2 43) (hr : isW r) (hf : FinV g cX5_payForStates (rs T r res))  : ∀ (n : Nat) (x : St) (a1 : Int32) (h : sX5_payForStates_b2 n  x a1 = some res), G g 0 0 (rs T r x) 2 [(0, .ref (xE (gκ g) r 0 0)), (1, .int a1)] [] := by
  intro n
  induction n with
  | zero => intro x a1 h; unfold sX5_payForStates_b2 at h; cases h
  | succ n ih =>
    intro x a1 h
    unfold sX5_payForStates_b2 at h
    refine G_iload_n X 1 dX5_payForStates_2 rfl rfl ?_
    refine G_aload_n X 0 dX5_payForStates_3 rfl rfl ?_
    refine f_X5_25 X (kd_w0 hr) (rg_rs _ _ _) dX5_payForStates_4 ?_
    refine G_icmp_ge X (tgt := 57) dX5_payForStates_7 (by decide) (fun c1 => ?_) (fun c1 => ?_)
    · have h := it_t c1 h
      obtain rfl := Option.some.inj h
      exact hf _ _ dX5_payForStates_57
    · have h := it_f c1 h
      refine G_aload_n X 0 dX5_payForStates_10 rfl rfl ?_
      refine f_X5_17 X (kd_w0 hr) rfl dX5_payForStates_11 ?_
      refine G_iload_n X 1 dX5_payForStates_14 rfl rfl ?_
      obtain ⟨g2, h⟩ := gd_some h
      refine G_aaldB X (kd_w2 hr) g2 dX5_payForStates_15 ?_
      refine G_astore_n X (lv' := [(2, .ref (xE (gκ g) r (ix a1 + 1) 0)), (0, .ref (xE (gκ g) r 0 0)), (1, .int a1)]) dX5_payForStates_16 rfl (by decide) rfl ?_
      refine G_aload_n X 0 dX5_payForStates_17 rfl rfl ?_
      refine f_X5_70 X (kd_o0 hr (inb_isO (by decide) g2)) (rg_rs _ _ _) dX5_payForStates_18 ?_
      refine G_iconst X (v := (4 : Int32)) dX5_payForStates_21 (by decide) ?_
      refine G_icmp_eq X (tgt := 51) dX5_payForStates_22 (by decide) (fun c3 => ?_) (fun c3 => ?_)
      · have h := it_t c3 h
        obtain ⟨v4, ev4, h⟩ := nm_some h
        refine G_iinc X (v := v4) (lv' := [(1, .int v4), (2, .ref (xE (gκ g) r (ix a1 + 1) 0)), (0, .ref (xE (gκ g) r 0 0))]) 2 dX5_payForStates_51 rfl (by rw [ev4]; rfl) (by decide) rfl ?_
        refine G_goto X (tgt := 2) dX5_payForStates_54 (by decide) ?_
        refine G_sub [2, 0] rfl ?_
        exact ih _ _ h
      · have h := it_f c3 h
        refine G_aload_n X 0 dX5_payForStates_25 rfl rfl ?_
        refine f_X5_134 X (kd_o0 hr (inb_isO (by decide) g2)) rfl dX5_payForStates_26 ?_
        refine G_aload_n X 0 dX5_payForStates_29 rfl rfl ?_
        refine f_X5_70 X (kd_o0 hr (inb_isO (by decide) g2)) (rg_rs _ _ _) dX5_payForStates_30 ?_
        refine G_dup2 X dX5_payForStates_33 rfl rfl ?_
        obtain ⟨g5, h⟩ := gd_some h
        refine G_iald X (kd_o1 hr (inb_isO (by decide) g2)) (rg_rs _ _ _) g5 dX5_payForStates_34 ?_
        refine G_iconst X (v := (1 : Int32)) dX5_payForStates_35 (by decide) ?_
        refine G_iadd X dX5_payForStates_36 ?_
        obtain ⟨v6, ev6, h⟩ := nm_some h
        refine G_nmi ev6 ?_
        obtain ⟨g7, h⟩ := gd_some h
        obtain ⟨z8, ez8, h⟩ := nm_some h
        refine G_iast X (T' := rs T r z8) (kd_o1 hr (inb_isO (by decide) g2)) (rg_rs _ _ _) g7 (by rw [rs_rs, ez8]) dX5_payForStates_37 ?_
        refine G_aload_n X 0 dX5_payForStates_38 rfl rfl ?_
        refine G_aload_n X 1 dX5_payForStates_39 rfl rfl ?_
        refine f_X5_9 X (kd_w0 hr) rfl dX5_payForStates_40 ?_
        refine G_aload_n X 0 dX5_payForStates_43 rfl rfl ?_
        refine f_X5_70 X (kd_o0 hr (inb_isO (by decide) g2)) (rg_rs _ _ _) dX5_payForStates_44 ?_
        obtain ⟨g9, h⟩ := gd_some h
        refine G_iald X (kd_w1 hr) (rg_rs _ _ _) g9 dX5_payForStates_47 ?_
        obtain ⟨q10, hq10, h⟩ := bd_some h
        refine G_callVN X (As := [.int (gI z8 0 1 (ix (gI z8 (ix a1 + 1) 0 6)))]) (rest := []) (T' := rs T r q10) (st2 := []) (ct_X0_payForSlot (l := g.2.1) (κ := gκ g) (T := T) (r := r) (x := z8) hr (inb_isO (by decide) g2) hq10) cal_X0_payForSlot nM_X5_137 wI_X0_payForSlot wS_X0_payForSlot (kd_o0 hr (inb_isO (by decide) g2)) rfl (by decide) rfl rfl (Nat.le_of_ble_eq_true rfl) ⟨Nat.zero_le _, Nat.zero_le _⟩ dX5_payForStates_48 rfl ?_
        obtain ⟨v11, ev11, h⟩ := nm_some h
        refine G_iinc X (v := v11) (lv' := [(1, .int v11), (2, .ref (xE (gκ g) r (ix a1 + 1) 0)), (0, .ref (xE (gκ g) r 0 0))]) 2 dX5_payForStates_51 rfl (by rw [ev11]; rfl) (by decide) rfl ?_
        refine G_goto X (tgt := 2) dX5_payForStates_54 (by decide) ?_
        refine G_sub [2, 0] rfl ?_
        exact ih _ _ h
set_option maxRecDepth 20000 in
theorem gX5_payForStates {g : GX} {T : TT} {r : Nat}  {x : St}  {res : St} (X : CX g RX5 cX5_payForStates 3 2 43) (hr : isW r) (hf : FinV g cX5_payForStates (rs T r res)) (h : sX5_payForStates x = some res) : G g 0 0 (rs T r x) 0 [(0, .ref (xE (gκ g) r 0 0))] [] := by
  unfold sX5_payForStates at h
  refine G_iconst X (v := (0 : Int32)) dX5_payForStates_0 (by decide) ?_
  refine G_istore_n X (lv' := [(1, .int ((0 : Int32))), (0, .ref (xE (gκ g) r 0 0))]) dX5_payForStates_1 rfl (by decide) rfl ?_
  refine G_sub [1, 0] rfl ?_
  exact gX5_payForStates_b2 X hr hf FU _ _ h
set_option maxRecDepth 20000 in
theorem ct_X5_payForStates {l : Launch} {κ : KX} {T : TT} {r : Nat}  {x : St}  {res : St} (hr : isW r) (h : sX5_payForStates x = some res) : Ct l κ yX5_payForStates cX5_payForStates 3 none 2 43 [.ref (xE κ r 0 0)] (rs T r x) (rs T r res) none := by
  refine Ct_v RX5 rfl (by decide +kernel) (Nat.le_of_ble_eq_true rfl) (fun g hl hκ X hf => ?_)
  subst hl; subst hκ
  exact gX5_payForStates X hr hf h
set_option maxRecDepth 20000 in
theorem gX5_reasonAgainst {g : GX} {T : TT} {r : Nat} {o1 : Nat} {x : St} {a2 : Int32} {a3 : Int32} {res : Int32} (X : CX g RX5 cX5_reasonAgainst 4 1 21) (hr : isW r) (ho1 : isO o1) (hf : FinI g cX5_reasonAgainst .int (rs T r x) (res)) (h : sX5_reasonAgainst o1 x a2 a3 = some res) : G g 0 0 (rs T r x) 0 [(0, .ref (xE (gκ g) r 0 0)), (1, .ref (xE (gκ g) r o1 0)), (2, .int a2), (3, .int a3)] [] := by
  unfold sX5_reasonAgainst at h
  refine G_aload_n X 1 dX5_reasonAgainst_0 rfl rfl ?_
  refine f_X5_61 X (kd_o0 hr ho1) (rg_rs _ _ _) dX5_reasonAgainst_1 ?_
  refine G_iload_n X 2 dX5_reasonAgainst_4 rfl rfl ?_
  obtain ⟨q1, hq1, h⟩ := bd_some h
  refine G_callSN X (As := [.int (gI x o1 0 10), .int a2]) (rest := []) (T' := rs T r x) (st2 := [.int q1]) (ct_X6_isIn (l := g.2.1) (κ := gκ g)   hq1) cal_X6_isIn nM_X5_83 wT_X6_isIn (by decide) rfl rfl (Nat.le_of_ble_eq_true rfl) ⟨Nat.zero_le _, Nat.zero_le _⟩ dX5_reasonAgainst_5 rfl ?_
  refine G_if_ne X (tgt := 13) dX5_reasonAgainst_8 (by decide) (fun c2 => ?_) (fun c2 => ?_)
  · have h := it_t c2 h
    refine G_aload_n X 1 dX5_reasonAgainst_13 rfl rfl ?_
    refine f_X5_70 X (kd_o0 hr ho1) (rg_rs _ _ _) dX5_reasonAgainst_14 ?_
    refine G_iconst X (v := (3 : Int32)) dX5_reasonAgainst_17 (by decide) ?_
    refine G_icmp_ne X (tgt := 23) dX5_reasonAgainst_18 (by decide) (fun c3 => ?_) (fun c3 => ?_)
    · have h := it_t c3 h
      refine G_aload_n X 1 dX5_reasonAgainst_23 rfl rfl ?_
      obtain ⟨q4, hq4, h⟩ := bd_some h
      refine G_callVN X (As := []) (rest := []) (T' := rs T r x) (st2 := [.int q4]) (ct_X0_hasOpenEars (l := g.2.1) (κ := gκ g) (T := T) (r := r) (x := x) hr ho1 hq4) cal_X0_hasOpenEars nM_X5_141 wI_X0_hasOpenEars wS_X0_hasOpenEars (kd_o0 hr ho1) rfl (by decide) rfl rfl (Nat.le_of_ble_eq_true rfl) ⟨Nat.zero_le _, Nat.zero_le _⟩ dX5_reasonAgainst_24 rfl ?_
      refine G_if_ne X (tgt := 32) dX5_reasonAgainst_27 (by decide) (fun c5 => ?_) (fun c5 => ?_)
      · have h := it_t c5 h
        refine G_iload_n X 3 dX5_reasonAgainst_32 rfl rfl ?_
        refine G_if_eq X (tgt := 40) dX5_reasonAgainst_33 (by decide) (fun c6 => ?_) (fun c6 => ?_)
        · have h := it_t c6 h
          refine G_iconst X (v := (0 : Int32)) dX5_reasonAgainst_40 (by decide) ?_
          obtain rfl := Option.some.inj h
          exact hf _ _ dX5_reasonAgainst_41 rfl
        · have h := it_f c6 h
          refine G_iconst X (v := (4 : Int32)) dX5_reasonAgainst_36 (by decide) ?_
          refine G_goto X (tgt := 41) dX5_reasonAgainst_37 (by decide) ?_
          obtain rfl := Option.some.inj h
          exact hf _ _ dX5_reasonAgainst_41 rfl
      · have h := it_f (fun k => k c5) h
        refine G_iconst X (v := (2 : Int32)) dX5_reasonAgainst_30 (by decide) ?_
        obtain rfl := Option.some.inj h
        exact hf _ _ dX5_reasonAgainst_31 rfl
    · have h := it_f (fun k => k c3) h
      refine G_iconst X (v := (3 : Int32)) dX5_reasonAgainst_21 (by decide) ?_
      obtain rfl := Option.some.inj h
      exact hf _ _ dX5_reasonAgainst_22 rfl
  · have h := it_f (fun k => k c2) h
    refine G_iconst X (v := (1 : Int32)) dX5_reasonAgainst_11 (by decide) ?_
    obtain rfl := Option.some.inj h
    exact hf _ _ dX5_reasonAgainst_12 rfl
set_option maxRecDepth 20000 in
theorem ct_X5_reasonAgainst {l : Launch} {κ : KX} {T : TT} {r : Nat} {o1 : Nat} {x : St} {a2 : Int32} {a3 : Int32} {res : Int32} (hr : isW r) (ho1 : isO o1) (h : sX5_reasonAgainst o1 x a2 a3 = some res) : Ct l κ yX5_reasonAgainst cX5_reasonAgainst 4 (some .int) 1 21 [.ref (xE κ r 0 0), .ref (xE κ r o1 0), .int a2, .int a3] (rs T r x) (rs T r x) (some (.int (res))) := by
  refine Ct_i RX5 rfl (by decide +kernel) (Nat.le_of_ble_eq_true rfl) (fun g hl hκ X hf => ?_)
  subst hl; subst hκ
  exact gX5_reasonAgainst X hr ho1 hf h
set_option maxRecDepth 20000 in
theorem gX5_listenToSenders_b80 {g : GX} {T : TT} {r : Nat}   {res : St} {k19 : St → Int32 → Option (St)} (X : CX g RX5 cX5_listenToSenders 5 2 44) (hr : isW r) (hf : FinV g cX5_listenToSenders (rs T r res)) (hk19 : ∀ (x' : St) (a1' : Int32), k19 x' a1' = some res → G g 0 0 (rs T r x') 19 [(0, .ref (xE (gκ g) r 0 0)), (1, .int a1')] []) : ∀ (n : Nat) (x : St) (a1 : Int32) (o2 : Nat) (a3 : Int32) (a4 : Int32) (ho2 : isO o2) (h : sX5_listenToSenders_b80 n k19 x a1 o2 a3 a4 = some res), G g 0 0 (rs T r x) 80 [(0, .ref (xE (gκ g) r 0 0)), (1, .int a1), (2, .ref (xE (gκ g) r o2 0)), (3, .int a3), (4, .int a4)] [] := by
  intro n
  induction n with
  | zero => intro x a1 o2 a3 a4 ho2 h; unfold sX5_listenToSenders_b80 at h; cases h
  | succ n ih =>
    intro x a1 o2 a3 a4 ho2 h
    unfold sX5_listenToSenders_b80 at h
    refine G_iload X 4 dX5_listenToSenders_80 rfl ?_
    refine G_aload_n X 0 dX5_listenToSenders_82 rfl rfl ?_
    refine f_X5_25 X (kd_w0 hr) (rg_rs _ _ _) dX5_listenToSenders_83 ?_
    refine G_icmp_ge X (tgt := 142) dX5_listenToSenders_86 (by decide) (fun c12 => ?_) (fun c12 => ?_)
    · have h := it_t c12 h
      obtain ⟨v13, ev13, h⟩ := nm_some h
      refine G_iinc X (v := v13) (lv' := [(1, .int v13), (0, .ref (xE (gκ g) r 0 0)), (2, .ref (xE (gκ g) r o2 0)), (3, .int a3), (4, .int a4)]) 1 dX5_listenToSenders_142 rfl (by rw [ev13]; rfl) (by decide) rfl ?_
      refine G_goto X (tgt := 19) dX5_listenToSenders_145 (by decide) ?_
      refine G_sub [1, 0] rfl ?_
      exact hk19 _ _ h
    · have h := it_f c12 h
      refine G_aload_n X 0 dX5_listenToSenders_89 rfl rfl ?_
      refine f_X5_50 X (kd_w0 hr) (rg_rs _ _ _) dX5_listenToSenders_90 ?_
      refine G_iload X 4 dX5_listenToSenders_93 rfl ?_
      obtain ⟨q14, hq14, h⟩ := bd_some h
      refine G_callSN X (As := [.int (gI x 0 0 10), .int a4]) (rest := []) (T' := rs T r x) (st2 := [.int q14]) (ct_X6_isIn (l := g.2.1) (κ := gκ g)   hq14) cal_X6_isIn nM_X5_83 wT_X6_isIn (by decide) rfl rfl (Nat.le_of_ble_eq_true rfl) ⟨Nat.zero_le _, Nat.zero_le _⟩ dX5_listenToSenders_95 rfl ?_
      refine G_if_eq X (tgt := 136) dX5_listenToSenders_98 (by decide) (fun c15 => ?_) (fun c15 => ?_)
      · have h := it_t c15 h
        obtain ⟨v16, ev16, h⟩ := nm_some h
        refine G_iinc X (v := v16) (lv' := [(4, .int v16), (0, .ref (xE (gκ g) r 0 0)), (1, .int a1), (2, .ref (xE (gκ g) r o2 0)), (3, .int a3)]) 4 dX5_listenToSenders_136 rfl (by rw [ev16]; rfl) (by decide) rfl ?_
        refine G_goto X (tgt := 80) dX5_listenToSenders_139 (by decide) ?_
        refine G_sub [1, 2, 3, 4, 0] rfl ?_
        exact ih _ _ _ _ _ ho2 h
      · have h := it_f c15 h
        refine G_aload_n X 0 dX5_listenToSenders_101 rfl rfl ?_
        refine f_X5_17 X (kd_w0 hr) rfl dX5_listenToSenders_102 ?_
        refine G_iload X 4 dX5_listenToSenders_105 rfl ?_
        obtain ⟨g17, h⟩ := gd_some h
        refine G_aaldB X (kd_w2 hr) g17 dX5_listenToSenders_107 ?_
        refine f_X5_145 X (kd_o0 hr (inb_isO (by decide) g17)) rfl dX5_listenToSenders_108 ?_
        refine G_iload_n X 1 dX5_listenToSenders_111 rfl rfl ?_
        obtain ⟨g18, h⟩ := gd_some h
        refine G_iald X (kd_o3 hr (inb_isO (by decide) g17)) (rg_rs _ _ _) g18 dX5_listenToSenders_112 ?_
        refine G_if_ne X (tgt := 136) dX5_listenToSenders_113 (by decide) (fun c19 => ?_) (fun c19 => ?_)
        · have h := it_t c19 h
          obtain ⟨v20, ev20, h⟩ := nm_some h
          refine G_iinc X (v := v20) (lv' := [(4, .int v20), (0, .ref (xE (gκ g) r 0 0)), (1, .int a1), (2, .ref (xE (gκ g) r o2 0)), (3, .int a3)]) 4 dX5_listenToSenders_136 rfl (by rw [ev20]; rfl) (by decide) rfl ?_
          refine G_goto X (tgt := 80) dX5_listenToSenders_139 (by decide) ?_
          refine G_sub [1, 2, 3, 4, 0] rfl ?_
          exact ih _ _ _ _ _ ho2 h
        · have h := it_f (fun k => k c19) h
          refine G_aload_n X 0 dX5_listenToSenders_116 rfl rfl ?_
          refine f_X5_17 X (kd_w0 hr) rfl dX5_listenToSenders_117 ?_
          refine G_iload X 4 dX5_listenToSenders_120 rfl ?_
          obtain ⟨g21, h⟩ := gd_some h
          refine G_aaldB X (kd_w2 hr) g21 dX5_listenToSenders_122 ?_
          refine f_X5_145 X (kd_o0 hr (inb_isO (by decide) g21)) rfl dX5_listenToSenders_123 ?_
          refine G_iload_n X 1 dX5_listenToSenders_126 rfl rfl ?_
          refine G_aload_n X 0 dX5_listenToSenders_127 rfl rfl ?_
          refine G_aload_n X 2 dX5_listenToSenders_128 rfl rfl ?_
          refine G_iload X 4 dX5_listenToSenders_129 rfl ?_
          refine G_iload_n X 3 dX5_listenToSenders_131 rfl rfl ?_
          obtain ⟨q22, hq22, h⟩ := bd_some h
          refine G_callV X (As := [.ref (xE (gκ g) r o2 0), .int a4, .int a3]) (rest := [.int a1, .ref (xE (gκ g) r (ix a4 + 1) 3)]) (T' := rs T r x) (st2 := [.int q22, .int a1, .ref (xE (gκ g) r (ix a4 + 1) 3)]) (ct_X5_reasonAgainst (l := g.2.1) (κ := gκ g) (T := T) (r := r) (x := x) hr ho2 hq22) cal_X5_reasonAgainst wM_X5_148 wI_X5_reasonAgainst wS_X5_reasonAgainst (kd_w0 hr) rfl (by decide) rfl rfl (Nat.le_of_ble_eq_true rfl) ⟨Nat.zero_le _, Nat.zero_le _⟩ dX5_listenToSenders_132 rfl ?_
          obtain ⟨g23, h⟩ := gd_some h
          obtain ⟨z24, ez24, h⟩ := nm_some h
          refine G_iast X (T' := rs T r z24) (kd_o3 hr (inb_isO (by decide) g21)) (rg_rs _ _ _) g23 (by rw [rs_rs, ez24]) dX5_listenToSenders_135 ?_
          obtain ⟨v25, ev25, h⟩ := nm_some h
          refine G_iinc X (v := v25) (lv' := [(4, .int v25), (0, .ref (xE (gκ g) r 0 0)), (1, .int a1), (2, .ref (xE (gκ g) r o2 0)), (3, .int a3)]) 4 dX5_listenToSenders_136 rfl (by rw [ev25]; rfl) (by decide) rfl ?_
          refine G_goto X (tgt := 80) dX5_listenToSenders_139 (by decide) ?_
          refine G_sub [1, 2, 3, 4, 0] rfl ?_
          exact ih _ _ _ _ _ ho2 h
set_option maxRecDepth 20000 in
theorem gX5_listenToSenders_b55 {g : GX} {T : TT} {r : Nat}  {x : St} {a1 : Int32} {o2 : Nat} {s0 : Int32} {res : St} {k19 : St → Int32 → Option (St)} (X : CX g RX5 cX5_listenToSenders 5 2 44) (hr : isW r) (hf : FinV g cX5_listenToSenders (rs T r res)) (hk19 : ∀ (x' : St) (a1' : Int32), k19 x' a1' = some res → G g 0 0 (rs T r x') 19 [(0, .ref (xE (gκ g) r 0 0)), (1, .int a1')] []) (ho2 : isO o2) (h : sX5_listenToSenders_b55 k19 x a1 o2 s0 = some res) : G g 0 0 (rs T r x) 55 [(0, .ref (xE (gκ g) r 0 0)), (1, .int a1), (2, .ref (xE (gκ g) r o2 0))] [.int s0] := by
  unfold sX5_listenToSenders_b55 at h
  refine G_istore_n X (lv' := [(3, .int s0), (0, .ref (xE (gκ g) r 0 0)), (1, .int a1), (2, .ref (xE (gκ g) r o2 0))]) dX5_listenToSenders_55 rfl (by decide) rfl ?_
  refine G_iload_n X 0 dX5_listenToSenders_56 rfl rfl ?_
  refine G_if_eq X (tgt := 77) dX5_listenToSenders_57 (by decide) (fun c8 => ?_) (fun c8 => ?_)
  · have h := it_t c8 h
    refine G_iconst X (v := (0 : Int32)) dX5_listenToSenders_77 (by decide) ?_
    refine G_istore X (lv' := [(4, .int ((0 : Int32))), (3, .int s0), (0, .ref (xE (gκ g) r 0 0)), (1, .int a1), (2, .ref (xE (gκ g) r o2 0))]) dX5_listenToSenders_78 (by decide) rfl ?_
    refine G_sub [2, 3, 4, 1, 0] rfl ?_
    exact gX5_listenToSenders_b80 X hr hf hk19 FU _ _ _ _ _ ho2 h
  · have h := it_f c8 h
    refine G_aload_n X 3 dX5_listenToSenders_60 rfl rfl ?_
    obtain ⟨q9, hq9, h⟩ := bd_some h
    refine G_callVN X (As := []) (rest := []) (T' := rs T r x) (st2 := [.int q9]) (ct_X0_hasOpenEars (l := g.2.1) (κ := gκ g) (T := T) (r := r) (x := x) hr ho2 hq9) cal_X0_hasOpenEars nM_X5_141 wI_X0_hasOpenEars wS_X0_hasOpenEars (kd_o0 hr ho2) rfl (by decide) rfl rfl (Nat.le_of_ble_eq_true rfl) ⟨Nat.zero_le _, Nat.zero_le _⟩ dX5_listenToSenders_61 rfl ?_
    refine G_if_eq X (tgt := 77) dX5_listenToSenders_64 (by decide) (fun c10 => ?_) (fun c10 => ?_)
    · have h := it_t c10 h
      refine G_iconst X (v := (0 : Int32)) dX5_listenToSenders_77 (by decide) ?_
      refine G_istore X (lv' := [(4, .int ((0 : Int32))), (3, .int s0), (0, .ref (xE (gκ g) r 0 0)), (1, .int a1), (2, .ref (xE (gκ g) r o2 0))]) dX5_listenToSenders_78 (by decide) rfl ?_
      refine G_sub [2, 3, 4, 1, 0] rfl ?_
      exact gX5_listenToSenders_b80 X hr hf hk19 FU _ _ _ _ _ ho2 h
    · have h := it_f c10 h
      refine G_aload_n X 1 dX5_listenToSenders_67 rfl rfl ?_
      refine G_dup X dX5_listenToSenders_68 rfl ?_
      refine f_X5_47 X (kd_w0 hr) (rg_rs _ _ _) dX5_listenToSenders_69 ?_
      refine G_iconst X (v := (1 : Int32)) dX5_listenToSenders_72 (by decide) ?_
      refine G_iadd X dX5_listenToSenders_73 ?_
      obtain ⟨z11, ez11, h⟩ := nm_some h
      refine p_X5_47 X (T' := rs T r z11) (kd_w0 hr) (rg_rs _ _ _)  (by rw [rs_rs, ez11]) dX5_listenToSenders_74 ?_
      refine G_iconst X (v := (0 : Int32)) dX5_listenToSenders_77 (by decide) ?_
      refine G_istore X (lv' := [(4, .int ((0 : Int32))), (3, .int s0), (0, .ref (xE (gκ g) r 0 0)), (1, .int a1), (2, .ref (xE (gκ g) r o2 0))]) dX5_listenToSenders_78 (by decide) rfl ?_
      refine G_sub [2, 3, 4, 1, 0] rfl ?_
      exact gX5_listenToSenders_b80 X hr hf hk19 FU _ _ _ _ _ ho2 h
set_option maxRecDepth 20000 in
theorem gX5_listenToSenders_b19 {g : GX} {T : TT} {r : Nat}   {res : St}  (X : CX g RX5 cX5_listenToSenders 5 2 44) (hr : isW r) (hf : FinV g cX5_listenToSenders (rs T r res))  : ∀ (n : Nat) (x : St) (a1 : Int32) (h : sX5_listenToSenders_b19 n  x a1 = some res), G g 0 0 (rs T r x) 19 [(0, .ref (xE (gκ g) r 0 0)), (1, .int a1)] [] := by
  intro n
  induction n with
  | zero => intro x a1 h; unfold sX5_listenToSenders_b19 at h; cases h
  | succ n ih =>
    intro x a1 h
    unfold sX5_listenToSenders_b19 at h
    refine G_iload_n X 1 dX5_listenToSenders_19 rfl rfl ?_
    refine G_aload_n X 0 dX5_listenToSenders_20 rfl rfl ?_
    refine f_X5_25 X (kd_w0 hr) (rg_rs _ _ _) dX5_listenToSenders_21 ?_
    refine G_icmp_ge X (tgt := 148) dX5_listenToSenders_24 (by decide) (fun c4 => ?_) (fun c4 => ?_)
    · have h := it_t c4 h
      obtain rfl := Option.some.inj h
      exact hf _ _ dX5_listenToSenders_148
    · have h := it_f c4 h
      refine G_aload_n X 0 dX5_listenToSenders_27 rfl rfl ?_
      refine f_X5_17 X (kd_w0 hr) rfl dX5_listenToSenders_28 ?_
      refine G_iload_n X 1 dX5_listenToSenders_31 rfl rfl ?_
      obtain ⟨g5, h⟩ := gd_some h
      refine G_aaldB X (kd_w2 hr) g5 dX5_listenToSenders_32 ?_
      refine G_astore_n X (lv' := [(2, .ref (xE (gκ g) r (ix a1 + 1) 0)), (0, .ref (xE (gκ g) r 0 0)), (1, .int a1)]) dX5_listenToSenders_33 rfl (by decide) rfl ?_
      refine G_aload_n X 0 dX5_listenToSenders_34 rfl rfl ?_
      refine f_X5_61 X (kd_o0 hr (inb_isO (by decide) g5)) (rg_rs _ _ _) dX5_listenToSenders_35 ?_
      refine G_aload_n X 1 dX5_listenToSenders_38 rfl rfl ?_
      refine f_X5_50 X (kd_w0 hr) (rg_rs _ _ _) dX5_listenToSenders_39 ?_
      refine G_iand X dX5_listenToSenders_42 ?_
      obtain ⟨q6, hq6, h⟩ := bd_some h
      refine G_callS X (As := [.int ((gI x (ix a1 + 1) 0 10) &&& (gI x 0 0 10))]) (rest := []) (T' := rs T r x) (st2 := [.int q6]) (ct_J6_bitCount_0f7a4 (l := g.2.1) (κ := gκ g)   hq6) cal_J6_bitCount_0f7a4 wM_X5_64 wT_J6_bitCount_0f7a4 (by decide) rfl rfl (Nat.le_of_ble_eq_true rfl) ⟨Nat.zero_le _, Nat.zero_le _⟩ dX5_listenToSenders_43 rfl ?_
      refine G_iconst X (v := (1 : Int32)) dX5_listenToSenders_46 (by decide) ?_
      refine G_icmp_le X (tgt := 54) dX5_listenToSenders_47 (by decide) (fun c7 => ?_) (fun c7 => ?_)
      · have h := it_t c7 h
        refine G_iconst X (v := (0 : Int32)) dX5_listenToSenders_54 (by decide) ?_
        refine G_sub [1, 2, 0] rfl ?_
        exact gX5_listenToSenders_b55 X hr hf (fun _ _ h => ih _ _ h) (inb_isO (by decide) g5) h
      · have h := it_f c7 h
        refine G_iconst X (v := (1 : Int32)) dX5_listenToSenders_50 (by decide) ?_
        refine G_goto X (tgt := 55) dX5_listenToSenders_51 (by decide) ?_
        refine G_sub [1, 2, 0] rfl ?_
        exact gX5_listenToSenders_b55 X hr hf (fun _ _ h => ih _ _ h) (inb_isO (by decide) g5) h
set_option maxRecDepth 20000 in
theorem gX5_listenToSenders {g : GX} {T : TT} {r : Nat}  {x : St}  {res : St} (X : CX g RX5 cX5_listenToSenders 5 2 44) (hr : isW r) (hf : FinV g cX5_listenToSenders (rs T r res)) (h : sX5_listenToSenders x = some res) : G g 0 0 (rs T r x) 0 [(0, .ref (xE (gκ g) r 0 0))] [] := by
  unfold sX5_listenToSenders at h
  refine G_aload_n X 0 dX5_listenToSenders_0 rfl rfl ?_
  refine G_aload_n X 0 dX5_listenToSenders_1 rfl rfl ?_
  refine G_iconst X (v := (3 : Int32)) dX5_listenToSenders_2 (by decide) ?_
  obtain ⟨q1, hq1, h⟩ := bd_some h
  refine G_callV X (As := [.int ((3 : Int32))]) (rest := [.ref (xE (gκ g) r 0 0)]) (T' := rs T r x) (st2 := [.int q1, .ref (xE (gκ g) r 0 0)]) (ct_X5_inState (l := g.2.1) (κ := gκ g) (T := T) (r := r) (x := x) hr hq1) cal_X5_inState wM_X5_73 wI_X5_inState wS_X5_inState (kd_w0 hr) rfl (by decide) rfl rfl (Nat.le_of_ble_eq_true rfl) ⟨Nat.zero_le _, Nat.zero_le _⟩ dX5_listenToSenders_3 rfl ?_
  obtain ⟨z2, ez2, h⟩ := nm_some h
  refine p_X5_50 X (T' := rs T r z2) (kd_w0 hr) (rg_rs _ _ _)  (by rw [rs_rs, ez2]) dX5_listenToSenders_6 ?_
  refine G_aload_n X 0 dX5_listenToSenders_9 rfl rfl ?_
  refine f_X5_50 X (kd_w0 hr) (rg_rs _ _ _) dX5_listenToSenders_10 ?_
  refine G_if_ne X (tgt := 17) dX5_listenToSenders_13 (by decide) (fun c3 => ?_) (fun c3 => ?_)
  · have h := it_t c3 h
    refine G_iconst X (v := (0 : Int32)) dX5_listenToSenders_17 (by decide) ?_
    refine G_istore_n X (lv' := [(1, .int ((0 : Int32))), (0, .ref (xE (gκ g) r 0 0))]) dX5_listenToSenders_18 rfl (by decide) rfl ?_
    refine G_sub [1, 0] rfl ?_
    exact gX5_listenToSenders_b19 X hr hf FU _ _ h
  · have h := it_f (fun k => k c3) h
    obtain rfl := Option.some.inj h
    exact hf _ _ dX5_listenToSenders_16
set_option maxRecDepth 20000 in
theorem ct_X5_listenToSenders {l : Launch} {κ : KX} {T : TT} {r : Nat}  {x : St}  {res : St} (hr : isW r) (h : sX5_listenToSenders x = some res) : Ct l κ yX5_listenToSenders cX5_listenToSenders 5 none 2 44 [.ref (xE κ r 0 0)] (rs T r x) (rs T r res) none := by
  refine Ct_v RX5 rfl (by decide +kernel) (Nat.le_of_ble_eq_true rfl) (fun g hl hκ X hf => ?_)
  subst hl; subst hκ
  exact gX5_listenToSenders X hr hf h
set_option maxRecDepth 20000 in
theorem gX5_tellEars_b5 {g : GX} {T : TT} {r : Nat} {o1 : Nat}  {res : St × Int32}  (X : CX g RX5 cX5_tellEars 5 0 0) (hr : isW r) (ho1 : isO o1) (hf : FinI g cX5_tellEars .boolean (rs T r res.1) (res.2))  : ∀ (n : Nat) (x : St) (a2 : Int32) (a3 : Int32) (a4 : Int32) (h : sX5_tellEars_b5 n  o1 x a2 a3 a4 = some res), G g 0 0 (rs T r x) 5 [(0, .ref (xE (gκ g) r 0 0)), (1, .ref (xE (gκ g) r o1 0)), (2, .int a2), (3, .int a3), (4, .int a4)] [] := by
  intro n
  induction n with
  | zero => intro x a2 a3 a4 h; unfold sX5_tellEars_b5 at h; cases h
  | succ n ih =>
    intro x a2 a3 a4 h
    unfold sX5_tellEars_b5 at h
    refine G_iload X 4 dX5_tellEars_5 rfl ?_
    refine G_aload_n X 0 dX5_tellEars_7 rfl rfl ?_
    refine f_X5_25 X (kd_w0 hr) (rg_rs _ _ _) dX5_tellEars_8 ?_
    refine G_icmp_ge X (tgt := 62) dX5_tellEars_11 (by decide) (fun c1 => ?_) (fun c1 => ?_)
    · have h := it_t c1 h
      refine G_iload_n X 3 dX5_tellEars_62 rfl rfl ?_
      obtain ⟨g2, h⟩ := gd_some h
      obtain rfl := Option.some.inj h
      exact hf _ _ dX5_tellEars_63 (isb_n g2)
    · have h := it_f c1 h
      refine G_aload_n X 1 dX5_tellEars_14 rfl rfl ?_
      refine f_X5_167 X (kd_o0 hr ho1) rfl dX5_tellEars_15 ?_
      refine G_iload X 4 dX5_tellEars_18 rfl ?_
      refine G_aload_n X 1 dX5_tellEars_20 rfl rfl ?_
      refine f_X5_145 X (kd_o0 hr ho1) rfl dX5_tellEars_21 ?_
      refine G_iload X 4 dX5_tellEars_24 rfl ?_
      obtain ⟨g3, h⟩ := gd_some h
      refine G_iald X (kd_o3 hr ho1) (rg_rs _ _ _) g3 dX5_tellEars_26 ?_
      obtain ⟨g4, h⟩ := gd_some h
      obtain ⟨z5, ez5, h⟩ := nm_some h
      refine G_iast X (T' := rs T r z5) (kd_o4 hr ho1) (rg_rs _ _ _) g4 (by rw [rs_rs, ez5]) dX5_tellEars_27 ?_
      refine G_aload_n X 1 dX5_tellEars_28 rfl rfl ?_
      refine f_X5_145 X (kd_o0 hr ho1) rfl dX5_tellEars_29 ?_
      refine G_iload X 4 dX5_tellEars_32 rfl ?_
      obtain ⟨g6, h⟩ := gd_some h
      refine G_iald X (kd_o3 hr ho1) (rg_rs _ _ _) g6 dX5_tellEars_34 ?_
      refine G_if_ne X (tgt := 56) dX5_tellEars_35 (by decide) (fun c7 => ?_) (fun c7 => ?_)
      · have h := it_t c7 h
        obtain ⟨v8, ev8, h⟩ := nm_some h
        refine G_iinc X (v := v8) (lv' := [(4, .int v8), (0, .ref (xE (gκ g) r 0 0)), (1, .ref (xE (gκ g) r o1 0)), (2, .int a2), (3, .int a3)]) 4 dX5_tellEars_56 rfl (by rw [ev8]; rfl) (by decide) rfl ?_
        refine G_goto X (tgt := 5) dX5_tellEars_59 (by decide) ?_
        refine G_sub [1, 2, 3, 4, 0] rfl ?_
        exact ih _ _ _ _ h
      · have h := it_f (fun k => k c7) h
        refine G_aload_n X 0 dX5_tellEars_38 rfl rfl ?_
        refine f_X5_17 X (kd_w0 hr) rfl dX5_tellEars_39 ?_
        refine G_iload X 4 dX5_tellEars_42 rfl ?_
        obtain ⟨g9, h⟩ := gd_some h
        refine G_aaldB X (kd_w2 hr) g9 dX5_tellEars_44 ?_
        refine f_X5_76 X (kd_o0 hr (inb_isO (by decide) g9)) rfl dX5_tellEars_45 ?_
        refine G_iload_n X 2 dX5_tellEars_48 rfl rfl ?_
        refine G_aload_n X 0 dX5_tellEars_49 rfl rfl ?_
        refine f_X5_38 X (kd_w0 hr) (rg_rs _ _ _) dX5_tellEars_50 ?_
        obtain ⟨g10, h⟩ := gd_some h
        obtain ⟨z11, ez11, h⟩ := nm_some h
        refine G_iast X (T' := rs T r z11) (kd_o2 hr (inb_isO (by decide) g9)) (rg_rs _ _ _) g10 (by rw [rs_rs, ez11]) dX5_tellEars_53 ?_
        refine G_iconst X (v := (1 : Int32)) dX5_tellEars_54 (by decide) ?_
        refine G_istore_n X (lv' := [(3, .int ((1 : Int32))), (0, .ref (xE (gκ g) r 0 0)), (1, .ref (xE (gκ g) r o1 0)), (2, .int a2), (4, .int a4)]) dX5_tellEars_55 rfl (by decide) rfl ?_
        obtain ⟨v12, ev12, h⟩ := nm_some h
        refine G_iinc X (v := v12) (lv' := [(4, .int v12), (3, .int ((1 : Int32))), (0, .ref (xE (gκ g) r 0 0)), (1, .ref (xE (gκ g) r o1 0)), (2, .int a2)]) 4 dX5_tellEars_56 rfl (by rw [ev12]; rfl) (by decide) rfl ?_
        refine G_goto X (tgt := 5) dX5_tellEars_59 (by decide) ?_
        refine G_sub [2, 3, 4, 1, 0] rfl ?_
        exact ih _ _ _ _ h
set_option maxRecDepth 20000 in
theorem gX5_tellEars {g : GX} {T : TT} {r : Nat} {o1 : Nat} {x : St} {a2 : Int32} {res : St × Int32} (X : CX g RX5 cX5_tellEars 5 0 0) (hr : isW r) (ho1 : isO o1) (hf : FinI g cX5_tellEars .boolean (rs T r res.1) (res.2)) (h : sX5_tellEars o1 x a2 = some res) : G g 0 0 (rs T r x) 0 [(0, .ref (xE (gκ g) r 0 0)), (1, .ref (xE (gκ g) r o1 0)), (2, .int a2)] [] := by
  unfold sX5_tellEars at h
  refine G_iconst X (v := (0 : Int32)) dX5_tellEars_0 (by decide) ?_
  refine G_istore_n X (lv' := [(3, .int ((0 : Int32))), (0, .ref (xE (gκ g) r 0 0)), (1, .ref (xE (gκ g) r o1 0)), (2, .int a2)]) dX5_tellEars_1 rfl (by decide) rfl ?_
  refine G_iconst X (v := (0 : Int32)) dX5_tellEars_2 (by decide) ?_
  refine G_istore X (lv' := [(4, .int ((0 : Int32))), (3, .int ((0 : Int32))), (0, .ref (xE (gκ g) r 0 0)), (1, .ref (xE (gκ g) r o1 0)), (2, .int a2)]) dX5_tellEars_3 (by decide) rfl ?_
  refine G_sub [2, 3, 4, 1, 0] rfl ?_
  exact gX5_tellEars_b5 X hr ho1 hf FU _ _ _ _ h
set_option maxRecDepth 20000 in
theorem ct_X5_tellEars {l : Launch} {κ : KX} {T : TT} {r : Nat} {o1 : Nat} {x : St} {a2 : Int32} {res : St × Int32} (hr : isW r) (ho1 : isO o1) (h : sX5_tellEars o1 x a2 = some res) : Ct l κ yX5_tellEars cX5_tellEars 5 (some .boolean) 0 0 [.ref (xE κ r 0 0), .ref (xE κ r o1 0), .int a2] (rs T r x) (rs T r res.1) (some (.int (res.2))) := by
  refine Ct_i RX5 rfl (by decide +kernel) (Nat.le_of_ble_eq_true rfl) (fun g hl hκ X hf => ?_)
  subst hl; subst hκ
  exact gX5_tellEars X hr ho1 hf h
set_option maxRecDepth 20000 in
theorem gX5_endSending {g : GX} {T : TT} {r : Nat} {o1 : Nat} {x : St} {a2 : Int32} {res : St × Int32} (X : CX g RX5 cX5_endSending 3 1 24) (hr : isW r) (ho1 : isO o1) (hf : FinI g cX5_endSending .boolean (rs T r res.1) (res.2)) (h : sX5_endSending o1 x a2 = some res) : G g 0 0 (rs T r x) 0 [(0, .ref (xE (gκ g) r 0 0)), (1, .ref (xE (gκ g) r o1 0)), (2, .int a2)] [] := by
  unfold sX5_endSending at h
  refine G_aload_n X 0 dX5_endSending_0 rfl rfl ?_
  refine G_aload_n X 1 dX5_endSending_1 rfl rfl ?_
  refine G_iload_n X 2 dX5_endSending_2 rfl rfl ?_
  obtain ⟨q1, hq1, h⟩ := bd_some h
  refine G_callV X (As := [.ref (xE (gκ g) r o1 0), .int a2]) (rest := []) (T' := rs T r q1.1) (st2 := [.int q1.2]) (ct_X5_tellEars (l := g.2.1) (κ := gκ g) (T := T) (r := r) (x := x) hr ho1 hq1) cal_X5_tellEars wM_X5_156 wI_X5_tellEars wS_X5_tellEars (kd_w0 hr) rfl (by decide) rfl rfl (Nat.le_of_ble_eq_true rfl) ⟨Nat.zero_le _, Nat.zero_le _⟩ dX5_endSending_3 rfl ?_
  refine G_if_eq X (tgt := 35) dX5_endSending_6 (by decide) (fun c2 => ?_) (fun c2 => ?_)
  · have h := it_t c2 h
    refine G_aload_n X 1 dX5_endSending_35 rfl rfl ?_
    refine G_dup X dX5_endSending_36 rfl ?_
    refine f_X5_163 X (kd_o0 hr ho1) (rg_rs _ _ _) dX5_endSending_37 ?_
    refine G_iconst X (v := (1 : Int32)) dX5_endSending_40 (by decide) ?_
    refine G_iadd X dX5_endSending_41 ?_
    obtain ⟨z3, ez3, h⟩ := nm_some h
    refine p_X5_163 X (T' := rs T r z3) (kd_o0 hr ho1) (rg_rs _ _ _)  (by rw [rs_rs, ez3]) dX5_endSending_42 ?_
    refine G_aload_n X 1 dX5_endSending_45 rfl rfl ?_
    refine f_X5_163 X (kd_o0 hr ho1) (rg_rs _ _ _) dX5_endSending_46 ?_
    refine G_aload_n X 0 dX5_endSending_49 rfl rfl ?_
    refine f_X5_32 X (kd_w0 hr) (rg_rs _ _ _) dX5_endSending_50 ?_
    refine G_icmp_lt X (tgt := 82) dX5_endSending_53 (by decide) (fun c4 => ?_) (fun c4 => ?_)
    · have h := it_t c4 h
      refine G_iconst X (v := (0 : Int32)) dX5_endSending_82 (by decide) ?_
      obtain rfl := Option.some.inj h
      exact hf _ _ dX5_endSending_83 (isb_n (v := (0 : Int32)) rfl)
    · have h := it_f c4 h
      refine G_aload_n X 1 dX5_endSending_56 rfl rfl ?_
      refine G_dup X dX5_endSending_57 rfl ?_
      refine f_X5_166 X (kd_o0 hr ho1) (rg_rs _ _ _) dX5_endSending_58 ?_
      refine G_iconst X (v := (1 : Int32)) dX5_endSending_61 (by decide) ?_
      refine G_iadd X dX5_endSending_62 ?_
      obtain ⟨z5, ez5, h⟩ := nm_some h
      refine p_X5_166 X (T' := rs T r z5) (kd_o0 hr ho1) (rg_rs _ _ _)  (by rw [rs_rs, ez5]) dX5_endSending_63 ?_
      refine G_aload_n X 0 dX5_endSending_66 rfl rfl ?_
      refine G_dup X dX5_endSending_67 rfl ?_
      refine f_X5_44 X (kd_w0 hr) (rg_rs _ _ _) dX5_endSending_68 ?_
      refine G_iconst X (v := (1 : Int32)) dX5_endSending_71 (by decide) ?_
      refine G_iadd X dX5_endSending_72 ?_
      obtain ⟨z6, ez6, h⟩ := nm_some h
      refine p_X5_44 X (T' := rs T r z6) (kd_w0 hr) (rg_rs _ _ _)  (by rw [rs_rs, ez6]) dX5_endSending_73 ?_
      refine G_aload_n X 1 dX5_endSending_76 rfl rfl ?_
      obtain ⟨q7, hq7, h⟩ := bd_some h
      refine G_callVN X (As := []) (rest := []) (T' := rs T r q7) (st2 := []) (ct_X0_fallAsleep (l := g.2.1) (κ := gκ g) (T := T) (r := r) (x := z6) hr ho1 hq7) cal_X0_fallAsleep nM_X5_160 wI_X0_fallAsleep wS_X0_fallAsleep (kd_o0 hr ho1) rfl (by decide) rfl rfl (Nat.le_of_ble_eq_true rfl) ⟨Nat.zero_le _, Nat.zero_le _⟩ dX5_endSending_77 rfl ?_
      refine G_iconst X (v := (1 : Int32)) dX5_endSending_80 (by decide) ?_
      obtain rfl := Option.some.inj h
      exact hf _ _ dX5_endSending_81 (isb_n (v := (1 : Int32)) rfl)
  · have h := it_f c2 h
    refine G_aload_n X 1 dX5_endSending_9 rfl rfl ?_
    refine G_dup X dX5_endSending_10 rfl ?_
    refine f_X5_159 X (kd_o0 hr ho1) (rg_rs _ _ _) dX5_endSending_11 ?_
    refine G_iconst X (v := (1 : Int32)) dX5_endSending_14 (by decide) ?_
    refine G_iadd X dX5_endSending_15 ?_
    obtain ⟨z8, ez8, h⟩ := nm_some h
    refine p_X5_159 X (T' := rs T r z8) (kd_o0 hr ho1) (rg_rs _ _ _)  (by rw [rs_rs, ez8]) dX5_endSending_16 ?_
    refine G_aload_n X 0 dX5_endSending_19 rfl rfl ?_
    refine G_dup X dX5_endSending_20 rfl ?_
    refine f_X5_41 X (kd_w0 hr) (rg_rs _ _ _) dX5_endSending_21 ?_
    refine G_iconst X (v := (1 : Int32)) dX5_endSending_24 (by decide) ?_
    refine G_iadd X dX5_endSending_25 ?_
    obtain ⟨z9, ez9, h⟩ := nm_some h
    refine p_X5_41 X (T' := rs T r z9) (kd_w0 hr) (rg_rs _ _ _)  (by rw [rs_rs, ez9]) dX5_endSending_26 ?_
    refine G_aload_n X 1 dX5_endSending_29 rfl rfl ?_
    obtain ⟨q10, hq10, h⟩ := bd_some h
    refine G_callVN X (As := []) (rest := []) (T' := rs T r q10) (st2 := []) (ct_X0_fallAsleep (l := g.2.1) (κ := gκ g) (T := T) (r := r) (x := z9) hr ho1 hq10) cal_X0_fallAsleep nM_X5_160 wI_X0_fallAsleep wS_X0_fallAsleep (kd_o0 hr ho1) rfl (by decide) rfl rfl (Nat.le_of_ble_eq_true rfl) ⟨Nat.zero_le _, Nat.zero_le _⟩ dX5_endSending_30 rfl ?_
    refine G_iconst X (v := (1 : Int32)) dX5_endSending_33 (by decide) ?_
    obtain rfl := Option.some.inj h
    exact hf _ _ dX5_endSending_34 (isb_n (v := (1 : Int32)) rfl)
set_option maxRecDepth 20000 in
theorem ct_X5_endSending {l : Launch} {κ : KX} {T : TT} {r : Nat} {o1 : Nat} {x : St} {a2 : Int32} {res : St × Int32} (hr : isW r) (ho1 : isO o1) (h : sX5_endSending o1 x a2 = some res) : Ct l κ yX5_endSending cX5_endSending 3 (some .boolean) 1 24 [.ref (xE κ r 0 0), .ref (xE κ r o1 0), .int a2] (rs T r x) (rs T r res.1) (some (.int (res.2))) := by
  refine Ct_i RX5 rfl (by decide +kernel) (Nat.le_of_ble_eq_true rfl) (fun g hl hκ X hf => ?_)
  subst hl; subst hκ
  exact gX5_endSending X hr ho1 hf h
set_option maxRecDepth 20000 in
theorem gX5_endSendings_b2 {g : GX} {T : TT} {r : Nat}   {res : St}  (X : CX g RX5 cX5_endSendings 3 3 63) (hr : isW r) (hf : FinV g cX5_endSendings (rs T r res))  : ∀ (n : Nat) (x : St) (a1 : Int32) (h : sX5_endSendings_b2 n  x a1 = some res), G g 0 0 (rs T r x) 2 [(0, .ref (xE (gκ g) r 0 0)), (1, .int a1)] [] := by
  intro n
  induction n with
  | zero => intro x a1 h; unfold sX5_endSendings_b2 at h; cases h
  | succ n ih =>
    intro x a1 h
    unfold sX5_endSendings_b2 at h
    refine G_iload_n X 1 dX5_endSendings_2 rfl rfl ?_
    refine G_aload_n X 0 dX5_endSendings_3 rfl rfl ?_
    refine f_X5_25 X (kd_w0 hr) (rg_rs _ _ _) dX5_endSendings_4 ?_
    refine G_icmp_ge X (tgt := 62) dX5_endSendings_7 (by decide) (fun c1 => ?_) (fun c1 => ?_)
    · have h := it_t c1 h
      obtain rfl := Option.some.inj h
      exact hf _ _ dX5_endSendings_62
    · have h := it_f c1 h
      refine G_aload_n X 0 dX5_endSendings_10 rfl rfl ?_
      refine f_X5_17 X (kd_w0 hr) rfl dX5_endSendings_11 ?_
      refine G_iload_n X 1 dX5_endSendings_14 rfl rfl ?_
      obtain ⟨g2, h⟩ := gd_some h
      refine G_aaldB X (kd_w2 hr) g2 dX5_endSendings_15 ?_
      refine G_astore_n X (lv' := [(2, .ref (xE (gκ g) r (ix a1 + 1) 0)), (0, .ref (xE (gκ g) r 0 0)), (1, .int a1)]) dX5_endSendings_16 rfl (by decide) rfl ?_
      refine G_aload_n X 0 dX5_endSendings_17 rfl rfl ?_
      refine f_X5_70 X (kd_o0 hr (inb_isO (by decide) g2)) (rg_rs _ _ _) dX5_endSendings_18 ?_
      refine G_iconst X (v := (3 : Int32)) dX5_endSendings_21 (by decide) ?_
      refine G_icmp_ne X (tgt := 56) dX5_endSendings_22 (by decide) (fun c3 => ?_) (fun c3 => ?_)
      · have h := it_t c3 h
        obtain ⟨v4, ev4, h⟩ := nm_some h
        refine G_iinc X (v := v4) (lv' := [(1, .int v4), (2, .ref (xE (gκ g) r (ix a1 + 1) 0)), (0, .ref (xE (gκ g) r 0 0))]) 2 dX5_endSendings_56 rfl (by rw [ev4]; rfl) (by decide) rfl ?_
        refine G_goto X (tgt := 2) dX5_endSendings_59 (by decide) ?_
        refine G_sub [2, 0] rfl ?_
        exact ih _ _ h
      · have h := it_f (fun k => k c3) h
        refine G_aload_n X 0 dX5_endSendings_25 rfl rfl ?_
        refine G_dup X dX5_endSendings_26 rfl ?_
        refine f_X5_110 X (kd_o0 hr (inb_isO (by decide) g2)) (rg_rs _ _ _) dX5_endSendings_27 ?_
        refine G_iconst X (v := (1 : Int32)) dX5_endSendings_30 (by decide) ?_
        refine G_isub X dX5_endSendings_31 ?_
        obtain ⟨v5, ev5, h⟩ := nm_some h
        refine G_nmi ev5 ?_
        obtain ⟨z6, ez6, h⟩ := nm_some h
        refine p_X5_110 X (T' := rs T r z6) (kd_o0 hr (inb_isO (by decide) g2)) (rg_rs _ _ _)  (by rw [rs_rs, ez6]) dX5_endSendings_32 ?_
        refine G_aload_n X 0 dX5_endSendings_35 rfl rfl ?_
        refine f_X5_110 X (kd_o0 hr (inb_isO (by decide) g2)) (rg_rs _ _ _) dX5_endSendings_36 ?_
        refine G_if_ne X (tgt := 56) dX5_endSendings_39 (by decide) (fun c7 => ?_) (fun c7 => ?_)
        · have h := it_t c7 h
          obtain ⟨v8, ev8, h⟩ := nm_some h
          refine G_iinc X (v := v8) (lv' := [(1, .int v8), (2, .ref (xE (gκ g) r (ix a1 + 1) 0)), (0, .ref (xE (gκ g) r 0 0))]) 2 dX5_endSendings_56 rfl (by rw [ev8]; rfl) (by decide) rfl ?_
          refine G_goto X (tgt := 2) dX5_endSendings_59 (by decide) ?_
          refine G_sub [2, 0] rfl ?_
          exact ih _ _ h
        · have h := it_f (fun k => k c7) h
          refine G_aload_n X 1 dX5_endSendings_42 rfl rfl ?_
          refine G_aload_n X 0 dX5_endSendings_43 rfl rfl ?_
          refine G_iload_n X 2 dX5_endSendings_44 rfl rfl ?_
          obtain ⟨q9, hq9, h⟩ := bd_some h
          refine G_callV X (As := [.ref (xE (gκ g) r (ix a1 + 1) 0), .int a1]) (rest := []) (T' := rs T r q9.1) (st2 := [.int q9.2]) (ct_X5_endSending (l := g.2.1) (κ := gκ g) (T := T) (r := r) (x := z6) hr (inb_isO (by decide) g2) hq9) cal_X5_endSending wM_X5_152 wI_X5_endSending wS_X5_endSending (kd_w0 hr) rfl (by decide) rfl rfl (Nat.le_of_ble_eq_true rfl) ⟨Nat.zero_le _, Nat.zero_le _⟩ dX5_endSendings_45 rfl ?_
          refine G_if_ne X (tgt := 56) dX5_endSendings_48 (by decide) (fun c10 => ?_) (fun c10 => ?_)
          · have h := it_t c10 h
            obtain ⟨v11, ev11, h⟩ := nm_some h
            refine G_iinc X (v := v11) (lv' := [(1, .int v11), (2, .ref (xE (gκ g) r (ix a1 + 1) 0)), (0, .ref (xE (gκ g) r 0 0))]) 2 dX5_endSendings_56 rfl (by rw [ev11]; rfl) (by decide) rfl ?_
            refine G_goto X (tgt := 2) dX5_endSendings_59 (by decide) ?_
            refine G_sub [2, 0] rfl ?_
            exact ih _ _ h
          · have h := it_f (fun k => k c10) h
            refine G_aload_n X 1 dX5_endSendings_51 rfl rfl ?_
            refine G_aload_n X 0 dX5_endSendings_52 rfl rfl ?_
            obtain ⟨q12, hq12, h⟩ := bd_some h
            refine G_callV X (As := [.ref (xE (gκ g) r (ix a1 + 1) 0)]) (rest := []) (T' := rs T r q12) (st2 := []) (ct_X5_waitByDraw (l := g.2.1) (κ := gκ g) (T := T) (r := r) (x := q9.1) hr (inb_isO (by decide) g2) hq12) cal_X5_waitByDraw wM_X5_113 wI_X5_waitByDraw wS_X5_waitByDraw (kd_w0 hr) rfl (by decide) rfl rfl (Nat.le_of_ble_eq_true rfl) ⟨Nat.zero_le _, Nat.zero_le _⟩ dX5_endSendings_53 rfl ?_
            obtain ⟨v13, ev13, h⟩ := nm_some h
            refine G_iinc X (v := v13) (lv' := [(1, .int v13), (2, .ref (xE (gκ g) r (ix a1 + 1) 0)), (0, .ref (xE (gκ g) r 0 0))]) 2 dX5_endSendings_56 rfl (by rw [ev13]; rfl) (by decide) rfl ?_
            refine G_goto X (tgt := 2) dX5_endSendings_59 (by decide) ?_
            refine G_sub [2, 0] rfl ?_
            exact ih _ _ h
set_option maxRecDepth 20000 in
theorem gX5_endSendings {g : GX} {T : TT} {r : Nat}  {x : St}  {res : St} (X : CX g RX5 cX5_endSendings 3 3 63) (hr : isW r) (hf : FinV g cX5_endSendings (rs T r res)) (h : sX5_endSendings x = some res) : G g 0 0 (rs T r x) 0 [(0, .ref (xE (gκ g) r 0 0))] [] := by
  unfold sX5_endSendings at h
  refine G_iconst X (v := (0 : Int32)) dX5_endSendings_0 (by decide) ?_
  refine G_istore_n X (lv' := [(1, .int ((0 : Int32))), (0, .ref (xE (gκ g) r 0 0))]) dX5_endSendings_1 rfl (by decide) rfl ?_
  refine G_sub [1, 0] rfl ?_
  exact gX5_endSendings_b2 X hr hf FU _ _ h
set_option maxRecDepth 20000 in
theorem ct_X5_endSendings {l : Launch} {κ : KX} {T : TT} {r : Nat}  {x : St}  {res : St} (hr : isW r) (h : sX5_endSendings x = some res) : Ct l κ yX5_endSendings cX5_endSendings 3 none 3 63 [.ref (xE κ r 0 0)] (rs T r x) (rs T r res) none := by
  refine Ct_v RX5 rfl (by decide +kernel) (Nat.le_of_ble_eq_true rfl) (fun g hl hκ X hf => ?_)
  subst hl; subst hκ
  exact gX5_endSendings X hr hf h
set_option maxRecDepth 20000 in
theorem gX5_pass_b2 {g : GX} {T : TT} {r : Nat}   {res : St}  (X : CX g RX5 cX5_pass 3 4 85) (hr : isW r) (hf : FinV g cX5_pass (rs T r res))  : ∀ (n : Nat) (x : St) (a1 : Int32) (a2 : Int32) (h : sX5_pass_b2 n  x a1 a2 = some res), G g 0 0 (rs T r x) 2 [(0, .ref (xE (gκ g) r 0 0)), (1, .int a1), (2, .int a2)] [] := by
  intro n
  induction n with
  | zero => intro x a1 a2 h; unfold sX5_pass_b2 at h; cases h
  | succ n ih =>
    intro x a1 a2 h
    unfold sX5_pass_b2 at h
    refine G_iload_n X 2 dX5_pass_2 rfl rfl ?_
    refine G_iload_n X 1 dX5_pass_3 rfl rfl ?_
    refine G_icmp_ge X (tgt := 39) dX5_pass_4 (by decide) (fun c1 => ?_) (fun c1 => ?_)
    · have h := it_t c1 h
      obtain rfl := Option.some.inj h
      exact hf _ _ dX5_pass_39
    · have h := it_f c1 h
      refine G_aload_n X 0 dX5_pass_7 rfl rfl ?_
      refine G_dup X dX5_pass_8 rfl ?_
      refine f_X5_38 X (kd_w0 hr) (rg_rs _ _ _) dX5_pass_9 ?_
      refine G_iconst X (v := (1 : Int32)) dX5_pass_12 (by decide) ?_
      refine G_iadd X dX5_pass_13 ?_
      obtain ⟨z2, ez2, h⟩ := nm_some h
      refine p_X5_38 X (T' := rs T r z2) (kd_w0 hr) (rg_rs _ _ _)  (by rw [rs_rs, ez2]) dX5_pass_14 ?_
      refine G_aload_n X 0 dX5_pass_17 rfl rfl ?_
      obtain ⟨q3, hq3, h⟩ := bd_some h
      refine G_callV X (As := []) (rest := []) (T' := rs T r q3) (st2 := []) (ct_X5_changeStates (l := g.2.1) (κ := gκ g) (T := T) (r := r) (x := z2) hr hq3) cal_X5_changeStates wM_X5_91 wI_X5_changeStates wS_X5_changeStates (kd_w0 hr) rfl (by decide) rfl rfl (Nat.le_of_ble_eq_true rfl) ⟨Nat.zero_le _, Nat.zero_le _⟩ dX5_pass_18 rfl ?_
      refine G_aload_n X 0 dX5_pass_21 rfl rfl ?_
      obtain ⟨q4, hq4, h⟩ := bd_some h
      refine G_callV X (As := []) (rest := []) (T' := rs T r q4) (st2 := []) (ct_X5_payForStates (l := g.2.1) (κ := gκ g) (T := T) (r := r) (x := q3) hr hq4) cal_X5_payForStates wM_X5_94 wI_X5_payForStates wS_X5_payForStates (kd_w0 hr) rfl (by decide) rfl rfl (Nat.le_of_ble_eq_true rfl) ⟨Nat.zero_le _, Nat.zero_le _⟩ dX5_pass_22 rfl ?_
      refine G_aload_n X 0 dX5_pass_25 rfl rfl ?_
      obtain ⟨q5, hq5, h⟩ := bd_some h
      refine G_callV X (As := []) (rest := []) (T' := rs T r q5) (st2 := []) (ct_X5_listenToSenders (l := g.2.1) (κ := gκ g) (T := T) (r := r) (x := q4) hr hq5) cal_X5_listenToSenders wM_X5_97 wI_X5_listenToSenders wS_X5_listenToSenders (kd_w0 hr) rfl (by decide) rfl rfl (Nat.le_of_ble_eq_true rfl) ⟨Nat.zero_le _, Nat.zero_le _⟩ dX5_pass_26 rfl ?_
      refine G_aload_n X 0 dX5_pass_29 rfl rfl ?_
      obtain ⟨q6, hq6, h⟩ := bd_some h
      refine G_callV X (As := []) (rest := []) (T' := rs T r q6) (st2 := []) (ct_X5_endSendings (l := g.2.1) (κ := gκ g) (T := T) (r := r) (x := q5) hr hq6) cal_X5_endSendings wM_X5_100 wI_X5_endSendings wS_X5_endSendings (kd_w0 hr) rfl (by decide) rfl rfl (Nat.le_of_ble_eq_true rfl) ⟨Nat.zero_le _, Nat.zero_le _⟩ dX5_pass_30 rfl ?_
      obtain ⟨v7, ev7, h⟩ := nm_some h
      refine G_iinc X (v := v7) (lv' := [(2, .int v7), (0, .ref (xE (gκ g) r 0 0)), (1, .int a1)]) 2 dX5_pass_33 rfl (by rw [ev7]; rfl) (by decide) rfl ?_
      refine G_goto X (tgt := 2) dX5_pass_36 (by decide) ?_
      refine G_sub [1, 2, 0] rfl ?_
      exact ih _ _ _ h
set_option maxRecDepth 20000 in
theorem gX5_pass {g : GX} {T : TT} {r : Nat}  {x : St} {a1 : Int32} {res : St} (X : CX g RX5 cX5_pass 3 4 85) (hr : isW r) (hf : FinV g cX5_pass (rs T r res)) (h : sX5_pass x a1 = some res) : G g 0 0 (rs T r x) 0 [(0, .ref (xE (gκ g) r 0 0)), (1, .int a1)] [] := by
  unfold sX5_pass at h
  refine G_iconst X (v := (0 : Int32)) dX5_pass_0 (by decide) ?_
  refine G_istore_n X (lv' := [(2, .int ((0 : Int32))), (0, .ref (xE (gκ g) r 0 0)), (1, .int a1)]) dX5_pass_1 rfl (by decide) rfl ?_
  refine G_sub [1, 2, 0] rfl ?_
  exact gX5_pass_b2 X hr hf FU _ _ _ h
set_option maxRecDepth 20000 in
theorem ct_X5_pass {l : Launch} {κ : KX} {T : TT} {r : Nat}  {x : St} {a1 : Int32} {res : St} (hr : isW r) (h : sX5_pass x a1 = some res) : Ct l κ yX5_pass cX5_pass 3 none 4 85 [.ref (xE κ r 0 0), .int a1] (rs T r x) (rs T r res) none := by
  refine Ct_v RX5 rfl (by decide +kernel) (Nat.le_of_ble_eq_true rfl) (fun g hl hκ X hf => ?_)
  subst hl; subst hκ
  exact gX5_pass X hr hf h
set_option maxRecDepth 20000 in
theorem gX6_isCharge {g : GX} {T : TT}   {a0 : Int32} {res : Int32} (X : CX g RX6 cX6_isCharge 1 0 0)  (hf : FinI g cX6_isCharge .boolean (T) (res)) (h : sX6_isCharge a0 = some res) : G g 0 0 (T) 0 [(0, .int a0)] [] := by
  unfold sX6_isCharge at h
  refine G_iload_n X 0 dX6_isCharge_0 rfl rfl ?_
  refine G_iconst X (v := (1 : Int32)) dX6_isCharge_1 (by decide) ?_
  refine G_icmp_lt X (tgt := 16) dX6_isCharge_2 (by decide) (fun c1 => ?_) (fun c1 => ?_)
  · have h := it_t c1 h
    refine G_iconst X (v := (0 : Int32)) dX6_isCharge_16 (by decide) ?_
    obtain rfl := Option.some.inj h
    exact hf _ _ dX6_isCharge_17 (isb_n (v := (0 : Int32)) rfl)
  · have h := it_f c1 h
    refine G_iload_n X 0 dX6_isCharge_5 rfl rfl ?_
    refine G_sipush X (v := (999 : Int32)) dX6_isCharge_6 (by decide) ?_
    refine G_icmp_gt X (tgt := 16) dX6_isCharge_9 (by decide) (fun c2 => ?_) (fun c2 => ?_)
    · have h := it_t c2 h
      refine G_iconst X (v := (0 : Int32)) dX6_isCharge_16 (by decide) ?_
      obtain rfl := Option.some.inj h
      exact hf _ _ dX6_isCharge_17 (isb_n (v := (0 : Int32)) rfl)
    · have h := it_f c2 h
      refine G_iconst X (v := (1 : Int32)) dX6_isCharge_12 (by decide) ?_
      refine G_goto X (tgt := 17) dX6_isCharge_13 (by decide) ?_
      obtain rfl := Option.some.inj h
      exact hf _ _ dX6_isCharge_17 (isb_n (v := (1 : Int32)) rfl)
set_option maxRecDepth 20000 in
theorem ct_X6_isCharge {l : Launch} {κ : KX} {T : TT}   {a0 : Int32} {res : Int32}  (h : sX6_isCharge a0 = some res) : Ct l κ yX6_isCharge cX6_isCharge 1 (some .boolean) 0 0 [.int a0] (T) (T) (some (.int (res))) := by
  refine Ct_i RX6 rfl (by decide +kernel) (Nat.le_of_ble_eq_true rfl) (fun g hl hκ X hf => ?_)
  subst hl; subst hκ
  exact gX6_isCharge X  hf h
