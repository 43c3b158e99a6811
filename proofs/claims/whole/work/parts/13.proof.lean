set_option maxRecDepth 20000 in
theorem gX0_fallAsleep {g : GX} {T : TT} {r : Nat} {o : Nat} {x : St}  {res : St} (X : CX g RX0 cX0_fallAsleep 1 0 0) (hr : isW r) (ho : isO o) (hf : FinV g cX0_fallAsleep (rs T r res)) (h : sX0_fallAsleep o x = some res) : G g 0 0 (rs T r x) 0 [(0, .ref (xE (gκ g) r o 0))] [] := by
  unfold sX0_fallAsleep at h
  refine G_aload_n X 0 dX0_fallAsleep_0 rfl rfl ?_
  refine G_iconst X (v := (0 : Int32)) dX0_fallAsleep_1 (by decide) ?_
  obtain ⟨x1, ex1, h⟩ := nm_some h
  refine p_X0_63 X (T' := rs T r x1) (kd_o0 hr ho) (rg_rs _ _ _)  (by rw [rs_rs, ex1]) dX0_fallAsleep_2 ?_
  refine G_aload_n X 0 dX0_fallAsleep_5 rfl rfl ?_
  refine G_iconst X (v := (0 : Int32)) dX0_fallAsleep_6 (by decide) ?_
  obtain ⟨x2, ex2, h⟩ := nm_some h
  refine p_X0_66 X (T' := rs T r x2) (kd_o0 hr ho) (rg_rs _ _ _)  (by rw [rs_rs, ex2]) dX0_fallAsleep_7 ?_
  refine G_aload_n X 0 dX0_fallAsleep_10 rfl rfl ?_
  refine G_iconst X (v := (0 : Int32)) dX0_fallAsleep_11 (by decide) ?_
  obtain ⟨x3, ex3, h⟩ := nm_some h
  refine p_X0_69 X (T' := rs T r x3) (kd_o0 hr ho) (rg_rs _ _ _)  (by rw [rs_rs, ex3]) dX0_fallAsleep_12 ?_
  obtain rfl := Option.some.inj h
  exact hf _ _ dX0_fallAsleep_15
set_option maxRecDepth 20000 in
theorem ct_X0_fallAsleep {l : Launch} {κ : KX} {T : TT} {r : Nat} {o : Nat} {x : St}  {res : St} (hr : isW r) (ho : isO o) (h : sX0_fallAsleep o x = some res) : Ct l κ yX0_fallAsleep cX0_fallAsleep 1 none 0 0 [.ref (xE κ r o 0)] (rs T r x) (rs T r res) none := by
  refine Ct_v RX0 rfl (by decide +kernel) (Nat.le_of_ble_eq_true rfl) (fun g hl hκ X hf => ?_)
  subst hl; subst hκ
  exact gX0_fallAsleep X hr ho hf h
set_option maxRecDepth 20000 in
theorem gX0_begin_b81 {g : GX} {T : TT} {r : Nat} {o : Nat}  {res : St}  (X : CX g RX0 cX0_begin 4 1 20) (hr : isW r) (ho : isO o) (hf : FinV g cX0_begin (rs T r res))  : ∀ (n : Nat) (x : St) (a3 : Int32) (h : sX0_begin_b81 n  o x a3 = some res), G g 0 0 (rs T r x) 81 [(0, .ref (xE (gκ g) r o 0)), (3, .int a3)] [] := by
  intro n
  induction n with
  | zero => intro x a3 h; unfold sX0_begin_b81 at h; cases h
  | succ n ih =>
    intro x a3 h
    unfold sX0_begin_b81 at h
    refine G_iload_n X 1 dX0_begin_81 rfl rfl ?_
    refine G_bipush X (v := (8 : Int32)) dX0_begin_82 (by decide) ?_
    refine G_icmp_ge X (tgt := 114) dX0_begin_84 (by decide) (fun c17 => ?_) (fun c17 => ?_)
    · have h := it_t c17 h
      obtain rfl := Option.some.inj h
      exact hf _ _ dX0_begin_114
    · have h := it_f c17 h
      refine G_aload_n X 0 dX0_begin_87 rfl rfl ?_
      refine f_X0_15 X (kd_o0 hr ho) rfl dX0_begin_88 ?_
      refine G_iload_n X 1 dX0_begin_91 rfl rfl ?_
      refine G_iconst X (v := (-1 : Int32)) dX0_begin_92 (by decide) ?_
      obtain ⟨g18, h⟩ := gd_some h
      obtain ⟨x19, ex19, h⟩ := nm_some h
      refine G_iast X (T' := rs T r x19) (kd_o2 hr ho) (rg_rs _ _ _) g18 (by rw [rs_rs, ex19]) dX0_begin_93 ?_
      refine G_aload_n X 0 dX0_begin_94 rfl rfl ?_
      refine f_X0_18 X (kd_o0 hr ho) rfl dX0_begin_95 ?_
      refine G_iload_n X 1 dX0_begin_98 rfl rfl ?_
      refine G_iconst X (v := (0 : Int32)) dX0_begin_99 (by decide) ?_
      obtain ⟨g20, h⟩ := gd_some h
      obtain ⟨x21, ex21, h⟩ := nm_some h
      refine G_iast X (T' := rs T r x21) (kd_o3 hr ho) (rg_rs _ _ _) g20 (by rw [rs_rs, ex21]) dX0_begin_100 ?_
      refine G_aload_n X 0 dX0_begin_101 rfl rfl ?_
      refine f_X0_21 X (kd_o0 hr ho) rfl dX0_begin_102 ?_
      refine G_iload_n X 1 dX0_begin_105 rfl rfl ?_
      refine G_iconst X (v := (5 : Int32)) dX0_begin_106 (by decide) ?_
      obtain ⟨g22, h⟩ := gd_some h
      obtain ⟨x23, ex23, h⟩ := nm_some h
      refine G_iast X (T' := rs T r x23) (kd_o4 hr ho) (rg_rs _ _ _) g22 (by rw [rs_rs, ex23]) dX0_begin_107 ?_
      obtain ⟨v24, ev24, h⟩ := nm_some h
      refine G_iinc X (v := v24) (lv' := [(3, .int v24), (0, .ref (xE (gκ g) r o 0))]) 1 dX0_begin_108 rfl (by rw [ev24]; rfl) (by decide) rfl ?_
      refine G_goto X (tgt := 81) dX0_begin_111 (by decide) ?_
      refine G_sub [1, 0] rfl ?_
      exact ih _ _ h
set_option maxRecDepth 20000 in
theorem gX0_begin_b61 {g : GX} {T : TT} {r : Nat} {o : Nat}  {res : St}  (X : CX g RX0 cX0_begin 4 1 20) (hr : isW r) (ho : isO o) (hf : FinV g cX0_begin (rs T r res))  : ∀ (n : Nat) (x : St) (a3 : Int32) (h : sX0_begin_b61 n  o x a3 = some res), G g 0 0 (rs T r x) 61 [(0, .ref (xE (gκ g) r o 0)), (3, .int a3)] [] := by
  intro n
  induction n with
  | zero => intro x a3 h; unfold sX0_begin_b61 at h; cases h
  | succ n ih =>
    intro x a3 h
    unfold sX0_begin_b61 at h
    refine G_iload_n X 1 dX0_begin_61 rfl rfl ?_
    refine G_iconst X (v := (4 : Int32)) dX0_begin_62 (by decide) ?_
    refine G_icmp_ge X (tgt := 79) dX0_begin_63 (by decide) (fun c13 => ?_) (fun c13 => ?_)
    · have h := it_t c13 h
      refine G_iconst X (v := (0 : Int32)) dX0_begin_79 (by decide) ?_
      refine G_istore_n X (lv' := [(3, .int ((0 : Int32))), (0, .ref (xE (gκ g) r o 0))]) dX0_begin_80 rfl (by decide) rfl ?_
      refine G_sub [1, 0] rfl ?_
      exact gX0_begin_b81 X hr ho hf FU _ _ h
    · have h := it_f c13 h
      refine G_aload_n X 0 dX0_begin_66 rfl rfl ?_
      refine f_X0_9 X (kd_o0 hr ho) rfl dX0_begin_67 ?_
      refine G_iload_n X 1 dX0_begin_70 rfl rfl ?_
      refine G_iconst X (v := (0 : Int32)) dX0_begin_71 (by decide) ?_
      obtain ⟨g14, h⟩ := gd_some h
      obtain ⟨x15, ex15, h⟩ := nm_some h
      refine G_iast X (T' := rs T r x15) (kd_o1 hr ho) (rg_rs _ _ _) g14 (by rw [rs_rs, ex15]) dX0_begin_72 ?_
      obtain ⟨v16, ev16, h⟩ := nm_some h
      refine G_iinc X (v := v16) (lv' := [(3, .int v16), (0, .ref (xE (gκ g) r o 0))]) 1 dX0_begin_73 rfl (by rw [ev16]; rfl) (by decide) rfl ?_
      refine G_goto X (tgt := 61) dX0_begin_76 (by decide) ?_
      refine G_sub [1, 0] rfl ?_
      exact ih _ _ h
set_option maxRecDepth 20000 in
theorem gX0_begin {g : GX} {T : TT} {r : Nat} {o : Nat} {x : St} {a1 : Int64} {res : St} (X : CX g RX0 cX0_begin 4 1 20) (hr : isW r) (ho : isO o) (hf : FinV g cX0_begin (rs T r res)) (h : sX0_begin o x a1 = some res) : G g 0 0 (rs T r x) 0 [(0, .ref (xE (gκ g) r o 0)), (1, .long a1)] [] := by
  unfold sX0_begin at h
  refine G_aload_n X 0 dX0_begin_0 rfl rfl ?_
  refine G_lload_n X 1 dX0_begin_1 rfl rfl ?_
  obtain ⟨x1, ex1, h⟩ := nm_some h
  refine p_X0_24 X (T' := rs T r x1) (kd_o0 hr ho) (rg_rs _ _ _)  (by rw [rs_rs, ex1]) dX0_begin_2 ?_
  refine G_aload_n X 0 dX0_begin_5 rfl rfl ?_
  refine G_iconst X (v := (2 : Int32)) dX0_begin_6 (by decide) ?_
  obtain ⟨x2, ex2, h⟩ := nm_some h
  refine p_X0_28 X (T' := rs T r x2) (kd_o0 hr ho) (rg_rs _ _ _)  (by rw [rs_rs, ex2]) dX0_begin_7 ?_
  refine G_aload_n X 0 dX0_begin_10 rfl rfl ?_
  refine G_iconst X (v := (0 : Int32)) dX0_begin_11 (by decide) ?_
  obtain ⟨x3, ex3, h⟩ := nm_some h
  refine p_X0_32 X (T' := rs T r x3) (kd_o0 hr ho) (rg_rs _ _ _)  (by rw [rs_rs, ex3]) dX0_begin_12 ?_
  refine G_aload_n X 0 dX0_begin_15 rfl rfl ?_
  refine G_iconst X (v := (0 : Int32)) dX0_begin_16 (by decide) ?_
  obtain ⟨x4, ex4, h⟩ := nm_some h
  refine p_X0_35 X (T' := rs T r x4) (kd_o0 hr ho) (rg_rs _ _ _)  (by rw [rs_rs, ex4]) dX0_begin_17 ?_
  refine G_aload_n X 0 dX0_begin_20 rfl rfl ?_
  refine G_iconst X (v := (0 : Int32)) dX0_begin_21 (by decide) ?_
  obtain ⟨x5, ex5, h⟩ := nm_some h
  refine p_X0_38 X (T' := rs T r x5) (kd_o0 hr ho) (rg_rs _ _ _)  (by rw [rs_rs, ex5]) dX0_begin_22 ?_
  refine G_aload_n X 0 dX0_begin_25 rfl rfl ?_
  refine G_iconst X (v := (0 : Int32)) dX0_begin_26 (by decide) ?_
  obtain ⟨x6, ex6, h⟩ := nm_some h
  refine p_X0_41 X (T' := rs T r x6) (kd_o0 hr ho) (rg_rs _ _ _)  (by rw [rs_rs, ex6]) dX0_begin_27 ?_
  refine G_aload_n X 0 dX0_begin_30 rfl rfl ?_
  refine G_iconst X (v := (0 : Int32)) dX0_begin_31 (by decide) ?_
  obtain ⟨x7, ex7, h⟩ := nm_some h
  refine p_X0_44 X (T' := rs T r x7) (kd_o0 hr ho) (rg_rs _ _ _) (by decide)  (by rw [rs_rs, ex7]) dX0_begin_32 ?_
  refine G_aload_n X 0 dX0_begin_35 rfl rfl ?_
  refine G_iconst X (v := (0 : Int32)) dX0_begin_36 (by decide) ?_
  obtain ⟨x8, ex8, h⟩ := nm_some h
  refine p_X0_48 X (T' := rs T r x8) (kd_o0 hr ho) (rg_rs _ _ _)  (by rw [rs_rs, ex8]) dX0_begin_37 ?_
  refine G_aload_n X 0 dX0_begin_40 rfl rfl ?_
  refine G_iconst X (v := (0 : Int32)) dX0_begin_41 (by decide) ?_
  obtain ⟨x9, ex9, h⟩ := nm_some h
  refine p_X0_51 X (T' := rs T r x9) (kd_o0 hr ho) (rg_rs _ _ _)  (by rw [rs_rs, ex9]) dX0_begin_42 ?_
  refine G_aload_n X 0 dX0_begin_45 rfl rfl ?_
  refine G_iconst X (v := (0 : Int32)) dX0_begin_46 (by decide) ?_
  obtain ⟨x10, ex10, h⟩ := nm_some h
  refine p_X0_54 X (T' := rs T r x10) (kd_o0 hr ho) (rg_rs _ _ _)  (by rw [rs_rs, ex10]) dX0_begin_47 ?_
  refine G_aload_n X 0 dX0_begin_50 rfl rfl ?_
  refine G_iconst X (v := (0 : Int32)) dX0_begin_51 (by decide) ?_
  obtain ⟨x11, ex11, h⟩ := nm_some h
  refine p_X0_57 X (T' := rs T r x11) (kd_o0 hr ho) (rg_rs _ _ _)  (by rw [rs_rs, ex11]) dX0_begin_52 ?_
  refine G_aload_n X 0 dX0_begin_55 rfl rfl ?_
  obtain ⟨q12, hq12, h⟩ := bd_some h
  refine G_callV X (As := []) (rest := []) (T' := rs T r q12) (st2 := []) (ct_X0_fallAsleep (l := g.2.1) (κ := gκ g) (T := T) (r := r) (x := x11) hr ho hq12) cal_X0_fallAsleep wM_X0_60 wI_X0_fallAsleep wS_X0_fallAsleep (kd_o0 hr ho) rfl (by decide) rfl rfl (Nat.le_of_ble_eq_true rfl) ⟨Nat.zero_le _, Nat.zero_le _⟩ dX0_begin_56 rfl ?_
  refine G_iconst X (v := (0 : Int32)) dX0_begin_59 (by decide) ?_
  refine G_istore_n X (lv' := [(3, .int ((0 : Int32))), (0, .ref (xE (gκ g) r o 0)), (1, .long a1)]) dX0_begin_60 rfl (by decide) rfl ?_
  refine G_sub [1, 0] rfl ?_
  exact gX0_begin_b61 X hr ho hf FU _ _ h
set_option maxRecDepth 20000 in
theorem ct_X0_begin {l : Launch} {κ : KX} {T : TT} {r : Nat} {o : Nat} {x : St} {a1 : Int64} {res : St} (hr : isW r) (ho : isO o) (h : sX0_begin o x a1 = some res) : Ct l κ yX0_begin cX0_begin 4 none 1 20 [.ref (xE κ r o 0), .long a1] (rs T r x) (rs T r res) none := by
  refine Ct_v RX0 rfl (by decide +kernel) (Nat.le_of_ble_eq_true rfl) (fun g hl hκ X hf => ?_)
  subst hl; subst hκ
  exact gX0_begin X hr ho hf h
set_option maxRecDepth 20000 in
theorem gX0_copyFrom_b139 {g : GX} {T : TT} {r : Nat} {r2 : Nat} {y : St} {o : Nat} {oo : Nat}  {res : St}  (X : CX g RX0 cX0_copyFrom 3 0 0) (hr : isW r) (ho : isO o) (hr2 : isW r2) (hoo : isO oo) (hne : r2 ≠ r) (hy : rg T r2 = y) (hf : FinV g cX0_copyFrom (rs T r res))  : ∀ (n : Nat) (x : St) (a2 : Int32) (h : sX0_copyFrom_b139 n  y o oo x a2 = some res), G g 0 0 (rs T r x) 139 [(0, .ref (xE (gκ g) r o 0)), (1, .ref (xE (gκ g) r2 oo 0)), (2, .int a2)] [] := by
  intro n
  induction n with
  | zero => intro x a2 h; unfold sX0_copyFrom_b139 at h; cases h
  | succ n ih =>
    intro x a2 h
    unfold sX0_copyFrom_b139 at h
    refine G_iload_n X 2 dX0_copyFrom_139 rfl rfl ?_
    refine G_bipush X (v := (8 : Int32)) dX0_copyFrom_140 (by decide) ?_
    refine G_icmp_ge X (tgt := 187) dX0_copyFrom_142 (by decide) (fun c21 => ?_) (fun c21 => ?_)
    · have h := it_t c21 h
      obtain rfl := Option.some.inj h
      exact hf _ _ dX0_copyFrom_187
    · have h := it_f c21 h
      refine G_aload_n X 0 dX0_copyFrom_145 rfl rfl ?_
      refine f_X0_15 X (kd_o0 hr ho) rfl dX0_copyFrom_146 ?_
      refine G_iload_n X 2 dX0_copyFrom_149 rfl rfl ?_
      refine G_aload_n X 1 dX0_copyFrom_150 rfl rfl ?_
      refine f_X0_15 X (kd_o0 hr2 hoo) rfl dX0_copyFrom_151 ?_
      refine G_iload_n X 2 dX0_copyFrom_154 rfl rfl ?_
      obtain ⟨g22, h⟩ := gd_some h
      refine G_iald X (kd_o2 hr2 hoo) ((rg_rs_ne _ _ hne).trans hy) g22 dX0_copyFrom_155 ?_
      obtain ⟨g23, h⟩ := gd_some h
      obtain ⟨x24, ex24, h⟩ := nm_some h
      refine G_iast X (T' := rs T r x24) (kd_o2 hr ho) (rg_rs _ _ _) g23 (by rw [rs_rs, ex24]) dX0_copyFrom_156 ?_
      refine G_aload_n X 0 dX0_copyFrom_157 rfl rfl ?_
      refine f_X0_18 X (kd_o0 hr ho) rfl dX0_copyFrom_158 ?_
      refine G_iload_n X 2 dX0_copyFrom_161 rfl rfl ?_
      refine G_aload_n X 1 dX0_copyFrom_162 rfl rfl ?_
      refine f_X0_18 X (kd_o0 hr2 hoo) rfl dX0_copyFrom_163 ?_
      refine G_iload_n X 2 dX0_copyFrom_166 rfl rfl ?_
      obtain ⟨g25, h⟩ := gd_some h
      refine G_iald X (kd_o3 hr2 hoo) ((rg_rs_ne _ _ hne).trans hy) g25 dX0_copyFrom_167 ?_
      obtain ⟨g26, h⟩ := gd_some h
      obtain ⟨x27, ex27, h⟩ := nm_some h
      refine G_iast X (T' := rs T r x27) (kd_o3 hr ho) (rg_rs _ _ _) g26 (by rw [rs_rs, ex27]) dX0_copyFrom_168 ?_
      refine G_aload_n X 0 dX0_copyFrom_169 rfl rfl ?_
      refine f_X0_21 X (kd_o0 hr ho) rfl dX0_copyFrom_170 ?_
      refine G_iload_n X 2 dX0_copyFrom_173 rfl rfl ?_
      refine G_aload_n X 1 dX0_copyFrom_174 rfl rfl ?_
      refine f_X0_21 X (kd_o0 hr2 hoo) rfl dX0_copyFrom_175 ?_
      refine G_iload_n X 2 dX0_copyFrom_178 rfl rfl ?_
      obtain ⟨g28, h⟩ := gd_some h
      refine G_iald X (kd_o4 hr2 hoo) ((rg_rs_ne _ _ hne).trans hy) g28 dX0_copyFrom_179 ?_
      obtain ⟨g29, h⟩ := gd_some h
      obtain ⟨x30, ex30, h⟩ := nm_some h
      refine G_iast X (T' := rs T r x30) (kd_o4 hr ho) (rg_rs _ _ _) g29 (by rw [rs_rs, ex30]) dX0_copyFrom_180 ?_
      obtain ⟨v31, ev31, h⟩ := nm_some h
      refine G_iinc X (v := v31) (lv' := [(2, .int v31), (0, .ref (xE (gκ g) r o 0)), (1, .ref (xE (gκ g) r2 oo 0))]) 2 dX0_copyFrom_181 rfl (by rw [ev31]; rfl) (by decide) rfl ?_
      refine G_goto X (tgt := 139) dX0_copyFrom_184 (by decide) ?_
      refine G_sub [1, 2, 0] rfl ?_
      exact ih _ _ h
set_option maxRecDepth 20000 in
theorem gX0_copyFrom_b114 {g : GX} {T : TT} {r : Nat} {r2 : Nat} {y : St} {o : Nat} {oo : Nat}  {res : St}  (X : CX g RX0 cX0_copyFrom 3 0 0) (hr : isW r) (ho : isO o) (hr2 : isW r2) (hoo : isO oo) (hne : r2 ≠ r) (hy : rg T r2 = y) (hf : FinV g cX0_copyFrom (rs T r res))  : ∀ (n : Nat) (x : St) (a2 : Int32) (h : sX0_copyFrom_b114 n  y o oo x a2 = some res), G g 0 0 (rs T r x) 114 [(0, .ref (xE (gκ g) r o 0)), (1, .ref (xE (gκ g) r2 oo 0)), (2, .int a2)] [] := by
  intro n
  induction n with
  | zero => intro x a2 h; unfold sX0_copyFrom_b114 at h; cases h
  | succ n ih =>
    intro x a2 h
    unfold sX0_copyFrom_b114 at h
    refine G_iload_n X 2 dX0_copyFrom_114 rfl rfl ?_
    refine G_iconst X (v := (4 : Int32)) dX0_copyFrom_115 (by decide) ?_
    refine G_icmp_ge X (tgt := 137) dX0_copyFrom_116 (by decide) (fun c16 => ?_) (fun c16 => ?_)
    · have h := it_t c16 h
      refine G_iconst X (v := (0 : Int32)) dX0_copyFrom_137 (by decide) ?_
      refine G_istore_n X (lv' := [(2, .int ((0 : Int32))), (0, .ref (xE (gκ g) r o 0)), (1, .ref (xE (gκ g) r2 oo 0))]) dX0_copyFrom_138 rfl (by decide) rfl ?_
      refine G_sub [1, 2, 0] rfl ?_
      exact gX0_copyFrom_b139 X hr ho hr2 hoo hne hy hf FU _ _ h
    · have h := it_f c16 h
      refine G_aload_n X 0 dX0_copyFrom_119 rfl rfl ?_
      refine f_X0_9 X (kd_o0 hr ho) rfl dX0_copyFrom_120 ?_
      refine G_iload_n X 2 dX0_copyFrom_123 rfl rfl ?_
      refine G_aload_n X 1 dX0_copyFrom_124 rfl rfl ?_
      refine f_X0_9 X (kd_o0 hr2 hoo) rfl dX0_copyFrom_125 ?_
      refine G_iload_n X 2 dX0_copyFrom_128 rfl rfl ?_
      obtain ⟨g17, h⟩ := gd_some h
      refine G_iald X (kd_o1 hr2 hoo) ((rg_rs_ne _ _ hne).trans hy) g17 dX0_copyFrom_129 ?_
      obtain ⟨g18, h⟩ := gd_some h
      obtain ⟨x19, ex19, h⟩ := nm_some h
      refine G_iast X (T' := rs T r x19) (kd_o1 hr ho) (rg_rs _ _ _) g18 (by rw [rs_rs, ex19]) dX0_copyFrom_130 ?_
      obtain ⟨v20, ev20, h⟩ := nm_some h
      refine G_iinc X (v := v20) (lv' := [(2, .int v20), (0, .ref (xE (gκ g) r o 0)), (1, .ref (xE (gκ g) r2 oo 0))]) 2 dX0_copyFrom_131 rfl (by rw [ev20]; rfl) (by decide) rfl ?_
      refine G_goto X (tgt := 114) dX0_copyFrom_134 (by decide) ?_
      refine G_sub [1, 2, 0] rfl ?_
      exact ih _ _ h
set_option maxRecDepth 20000 in
theorem gX0_copyFrom {g : GX} {T : TT} {r : Nat} {r2 : Nat} {y : St} {o : Nat} {oo : Nat} {x : St}  {res : St} (X : CX g RX0 cX0_copyFrom 3 0 0) (hr : isW r) (ho : isO o) (hr2 : isW r2) (hoo : isO oo) (hne : r2 ≠ r) (hy : rg T r2 = y) (hf : FinV g cX0_copyFrom (rs T r res)) (h : sX0_copyFrom y o oo x = some res) : G g 0 0 (rs T r x) 0 [(0, .ref (xE (gκ g) r o 0)), (1, .ref (xE (gκ g) r2 oo 0))] [] := by
  unfold sX0_copyFrom at h
  refine G_aload_n X 0 dX0_copyFrom_0 rfl rfl ?_
  refine G_aload_n X 1 dX0_copyFrom_1 rfl rfl ?_
  refine f_X0_24 X (kd_o0 hr2 hoo) ((rg_rs_ne _ _ hne).trans hy) dX0_copyFrom_2 ?_
  obtain ⟨x1, ex1, h⟩ := nm_some h
  refine p_X0_24 X (T' := rs T r x1) (kd_o0 hr ho) (rg_rs _ _ _)  (by rw [rs_rs, ex1]) dX0_copyFrom_5 ?_
  refine G_aload_n X 0 dX0_copyFrom_8 rfl rfl ?_
  refine G_aload_n X 1 dX0_copyFrom_9 rfl rfl ?_
  refine f_X0_28 X (kd_o0 hr2 hoo) ((rg_rs_ne _ _ hne).trans hy) dX0_copyFrom_10 ?_
  obtain ⟨x2, ex2, h⟩ := nm_some h
  refine p_X0_28 X (T' := rs T r x2) (kd_o0 hr ho) (rg_rs _ _ _)  (by rw [rs_rs, ex2]) dX0_copyFrom_13 ?_
  refine G_aload_n X 0 dX0_copyFrom_16 rfl rfl ?_
  refine G_aload_n X 1 dX0_copyFrom_17 rfl rfl ?_
  refine f_X0_32 X (kd_o0 hr2 hoo) ((rg_rs_ne _ _ hne).trans hy) dX0_copyFrom_18 ?_
  obtain ⟨x3, ex3, h⟩ := nm_some h
  refine p_X0_32 X (T' := rs T r x3) (kd_o0 hr ho) (rg_rs _ _ _)  (by rw [rs_rs, ex3]) dX0_copyFrom_21 ?_
  refine G_aload_n X 0 dX0_copyFrom_24 rfl rfl ?_
  refine G_aload_n X 1 dX0_copyFrom_25 rfl rfl ?_
  refine f_X0_35 X (kd_o0 hr2 hoo) ((rg_rs_ne _ _ hne).trans hy) dX0_copyFrom_26 ?_
  obtain ⟨x4, ex4, h⟩ := nm_some h
  refine p_X0_35 X (T' := rs T r x4) (kd_o0 hr ho) (rg_rs _ _ _)  (by rw [rs_rs, ex4]) dX0_copyFrom_29 ?_
  refine G_aload_n X 0 dX0_copyFrom_32 rfl rfl ?_
  refine G_aload_n X 1 dX0_copyFrom_33 rfl rfl ?_
  refine f_X0_38 X (kd_o0 hr2 hoo) ((rg_rs_ne _ _ hne).trans hy) dX0_copyFrom_34 ?_
  obtain ⟨x5, ex5, h⟩ := nm_some h
  refine p_X0_38 X (T' := rs T r x5) (kd_o0 hr ho) (rg_rs _ _ _)  (by rw [rs_rs, ex5]) dX0_copyFrom_37 ?_
  refine G_aload_n X 0 dX0_copyFrom_40 rfl rfl ?_
  refine G_aload_n X 1 dX0_copyFrom_41 rfl rfl ?_
  refine f_X0_41 X (kd_o0 hr2 hoo) ((rg_rs_ne _ _ hne).trans hy) dX0_copyFrom_42 ?_
  obtain ⟨x6, ex6, h⟩ := nm_some h
  refine p_X0_41 X (T' := rs T r x6) (kd_o0 hr ho) (rg_rs _ _ _)  (by rw [rs_rs, ex6]) dX0_copyFrom_45 ?_
  refine G_aload_n X 0 dX0_copyFrom_48 rfl rfl ?_
  refine G_aload_n X 1 dX0_copyFrom_49 rfl rfl ?_
  refine f_X0_63 X (kd_o0 hr2 hoo) ((rg_rs_ne _ _ hne).trans hy) dX0_copyFrom_50 ?_
  obtain ⟨x7, ex7, h⟩ := nm_some h
  refine p_X0_63 X (T' := rs T r x7) (kd_o0 hr ho) (rg_rs _ _ _)  (by rw [rs_rs, ex7]) dX0_copyFrom_53 ?_
  refine G_aload_n X 0 dX0_copyFrom_56 rfl rfl ?_
  refine G_aload_n X 1 dX0_copyFrom_57 rfl rfl ?_
  refine f_X0_66 X (kd_o0 hr2 hoo) ((rg_rs_ne _ _ hne).trans hy) dX0_copyFrom_58 ?_
  obtain ⟨x8, ex8, h⟩ := nm_some h
  refine p_X0_66 X (T' := rs T r x8) (kd_o0 hr ho) (rg_rs _ _ _)  (by rw [rs_rs, ex8]) dX0_copyFrom_61 ?_
  refine G_aload_n X 0 dX0_copyFrom_64 rfl rfl ?_
  refine G_aload_n X 1 dX0_copyFrom_65 rfl rfl ?_
  refine f_X0_69 X (kd_o0 hr2 hoo) ((rg_rs_ne _ _ hne).trans hy) dX0_copyFrom_66 ?_
  obtain ⟨x9, ex9, h⟩ := nm_some h
  refine p_X0_69 X (T' := rs T r x9) (kd_o0 hr ho) (rg_rs _ _ _)  (by rw [rs_rs, ex9]) dX0_copyFrom_69 ?_
  refine G_aload_n X 0 dX0_copyFrom_72 rfl rfl ?_
  refine G_aload_n X 1 dX0_copyFrom_73 rfl rfl ?_
  refine f_X0_44 X (kd_o0 hr2 hoo) ((rg_rs_ne _ _ hne).trans hy) dX0_copyFrom_74 ?_
  obtain ⟨g10, h⟩ := gd_some h
  obtain ⟨x11, ex11, h⟩ := nm_some h
  refine p_X0_44 X (T' := rs T r x11) (kd_o0 hr ho) (rg_rs _ _ _) g10  (by rw [rs_rs, ex11]) dX0_copyFrom_77 ?_
  refine G_aload_n X 0 dX0_copyFrom_80 rfl rfl ?_
  refine G_aload_n X 1 dX0_copyFrom_81 rfl rfl ?_
  refine f_X0_48 X (kd_o0 hr2 hoo) ((rg_rs_ne _ _ hne).trans hy) dX0_copyFrom_82 ?_
  obtain ⟨x12, ex12, h⟩ := nm_some h
  refine p_X0_48 X (T' := rs T r x12) (kd_o0 hr ho) (rg_rs _ _ _)  (by rw [rs_rs, ex12]) dX0_copyFrom_85 ?_
  refine G_aload_n X 0 dX0_copyFrom_88 rfl rfl ?_
  refine G_aload_n X 1 dX0_copyFrom_89 rfl rfl ?_
  refine f_X0_51 X (kd_o0 hr2 hoo) ((rg_rs_ne _ _ hne).trans hy) dX0_copyFrom_90 ?_
  obtain ⟨x13, ex13, h⟩ := nm_some h
  refine p_X0_51 X (T' := rs T r x13) (kd_o0 hr ho) (rg_rs _ _ _)  (by rw [rs_rs, ex13]) dX0_copyFrom_93 ?_
  refine G_aload_n X 0 dX0_copyFrom_96 rfl rfl ?_
  refine G_aload_n X 1 dX0_copyFrom_97 rfl rfl ?_
  refine f_X0_54 X (kd_o0 hr2 hoo) ((rg_rs_ne _ _ hne).trans hy) dX0_copyFrom_98 ?_
  obtain ⟨x14, ex14, h⟩ := nm_some h
  refine p_X0_54 X (T' := rs T r x14) (kd_o0 hr ho) (rg_rs _ _ _)  (by rw [rs_rs, ex14]) dX0_copyFrom_101 ?_
  refine G_aload_n X 0 dX0_copyFrom_104 rfl rfl ?_
  refine G_aload_n X 1 dX0_copyFrom_105 rfl rfl ?_
  refine f_X0_57 X (kd_o0 hr2 hoo) ((rg_rs_ne _ _ hne).trans hy) dX0_copyFrom_106 ?_
  obtain ⟨x15, ex15, h⟩ := nm_some h
  refine p_X0_57 X (T' := rs T r x15) (kd_o0 hr ho) (rg_rs _ _ _)  (by rw [rs_rs, ex15]) dX0_copyFrom_109 ?_
  refine G_iconst X (v := (0 : Int32)) dX0_copyFrom_112 (by decide) ?_
  refine G_istore_n X (lv' := [(2, .int ((0 : Int32))), (0, .ref (xE (gκ g) r o 0)), (1, .ref (xE (gκ g) r2 oo 0))]) dX0_copyFrom_113 rfl (by decide) rfl ?_
  refine G_sub [1, 2, 0] rfl ?_
  exact gX0_copyFrom_b114 X hr ho hr2 hoo hne hy hf FU _ _ h
set_option maxRecDepth 20000 in
theorem ct_X0_copyFrom {l : Launch} {κ : KX} {T : TT} {r : Nat} {r2 : Nat} {y : St} {o : Nat} {oo : Nat} {x : St}  {res : St} (hr : isW r) (ho : isO o) (hr2 : isW r2) (hoo : isO oo) (hne : r2 ≠ r) (hy : rg T r2 = y) (h : sX0_copyFrom y o oo x = some res) : Ct l κ yX0_copyFrom cX0_copyFrom 3 none 0 0 [.ref (xE κ r o 0), .ref (xE κ r2 oo 0)] (rs T r x) (rs T r res) none := by
  refine Ct_v RX0 rfl (by decide +kernel) (Nat.le_of_ble_eq_true rfl) (fun g hl hκ X hf => ?_)
  subst hl; subst hκ
  exact gX0_copyFrom X hr ho hr2 hoo hne hy hf h
set_option maxRecDepth 20000 in
theorem gX0_allowsPeriod {g : GX} {T : TT} {r : Nat} {o : Nat} {x : St} {a1 : Int32} {res : Int32} (X : CX g RX0 cX0_allowsPeriod 2 0 0) (hr : isW r) (ho : isO o) (hf : FinI g cX0_allowsPeriod .boolean (rs T r x) (res)) (h : sX0_allowsPeriod o x a1 = some res) : G g 0 0 (rs T r x) 0 [(0, .ref (xE (gκ g) r o 0)), (1, .int a1)] [] := by
  unfold sX0_allowsPeriod at h
  refine G_iload_n X 1 dX0_allowsPeriod_0 rfl rfl ?_
  refine G_iconst X (v := (2 : Int32)) dX0_allowsPeriod_1 (by decide) ?_
  refine G_icmp_lt X (tgt := 23) dX0_allowsPeriod_2 (by decide) (fun c1 => ?_) (fun c1 => ?_)
  · have h := it_t c1 h
    refine G_iconst X (v := (0 : Int32)) dX0_allowsPeriod_23 (by decide) ?_
    obtain rfl := Option.some.inj h
    exact hf _ _ dX0_allowsPeriod_24 (isb_n (v := (0 : Int32)) rfl)
  · have h := it_f c1 h
    refine G_iload_n X 1 dX0_allowsPeriod_5 rfl rfl ?_
    refine G_bipush X (v := (99 : Int32)) dX0_allowsPeriod_6 (by decide) ?_
    refine G_icmp_gt X (tgt := 23) dX0_allowsPeriod_8 (by decide) (fun c2 => ?_) (fun c2 => ?_)
    · have h := it_t c2 h
      refine G_iconst X (v := (0 : Int32)) dX0_allowsPeriod_23 (by decide) ?_
      obtain rfl := Option.some.inj h
      exact hf _ _ dX0_allowsPeriod_24 (isb_n (v := (0 : Int32)) rfl)
    · have h := it_f c2 h
      refine G_iload_n X 1 dX0_allowsPeriod_11 rfl rfl ?_
      refine G_aload_n X 0 dX0_allowsPeriod_12 rfl rfl ?_
      refine f_X0_32 X (kd_o0 hr ho) (rg_rs _ _ _) dX0_allowsPeriod_13 ?_
      refine G_icmp_le X (tgt := 23) dX0_allowsPeriod_16 (by decide) (fun c3 => ?_) (fun c3 => ?_)
      · have h := it_t c3 h
        refine G_iconst X (v := (0 : Int32)) dX0_allowsPeriod_23 (by decide) ?_
        obtain rfl := Option.some.inj h
        exact hf _ _ dX0_allowsPeriod_24 (isb_n (v := (0 : Int32)) rfl)
      · have h := it_f c3 h
        refine G_iconst X (v := (1 : Int32)) dX0_allowsPeriod_19 (by decide) ?_
        refine G_goto X (tgt := 24) dX0_allowsPeriod_20 (by decide) ?_
        obtain rfl := Option.some.inj h
        exact hf _ _ dX0_allowsPeriod_24 (isb_n (v := (1 : Int32)) rfl)
set_option maxRecDepth 20000 in
theorem ct_X0_allowsPeriod {l : Launch} {κ : KX} {T : TT} {r : Nat} {o : Nat} {x : St} {a1 : Int32} {res : Int32} (hr : isW r) (ho : isO o) (h : sX0_allowsPeriod o x a1 = some res) : Ct l κ yX0_allowsPeriod cX0_allowsPeriod 2 (some .boolean) 0 0 [.ref (xE κ r o 0), .int a1] (rs T r x) (rs T r x) (some (.int (res))) := by
  refine Ct_i RX0 rfl (by decide +kernel) (Nat.le_of_ble_eq_true rfl) (fun g hl hκ X hf => ?_)
  subst hl; subst hκ
  exact gX0_allowsPeriod X hr ho hf h
set_option maxRecDepth 20000 in
theorem gX0_allowsFirstWake {g : GX} {T : TT} {r : Nat} {o : Nat} {x : St} {a1 : Int32} {res : Int32} (X : CX g RX0 cX0_allowsFirstWake 2 0 0) (hr : isW r) (ho : isO o) (hf : FinI g cX0_allowsFirstWake .boolean (rs T r x) (res)) (h : sX0_allowsFirstWake o x a1 = some res) : G g 0 0 (rs T r x) 0 [(0, .ref (xE (gκ g) r o 0)), (1, .int a1)] [] := by
  unfold sX0_allowsFirstWake at h
  refine G_iload_n X 1 dX0_allowsFirstWake_0 rfl rfl ?_
  refine G_if_lt X (tgt := 16) dX0_allowsFirstWake_1 (by decide) (fun c1 => ?_) (fun c1 => ?_)
  · have h := it_t c1 h
    refine G_iconst X (v := (0 : Int32)) dX0_allowsFirstWake_16 (by decide) ?_
    obtain rfl := Option.some.inj h
    exact hf _ _ dX0_allowsFirstWake_17 (isb_n (v := (0 : Int32)) rfl)
  · have h := it_f c1 h
    refine G_iload_n X 1 dX0_allowsFirstWake_4 rfl rfl ?_
    refine G_aload_n X 0 dX0_allowsFirstWake_5 rfl rfl ?_
    refine f_X0_28 X (kd_o0 hr ho) (rg_rs _ _ _) dX0_allowsFirstWake_6 ?_
    refine G_icmp_ge X (tgt := 16) dX0_allowsFirstWake_9 (by decide) (fun c2 => ?_) (fun c2 => ?_)
    · have h := it_t c2 h
      refine G_iconst X (v := (0 : Int32)) dX0_allowsFirstWake_16 (by decide) ?_
      obtain rfl := Option.some.inj h
      exact hf _ _ dX0_allowsFirstWake_17 (isb_n (v := (0 : Int32)) rfl)
    · have h := it_f c2 h
      refine G_iconst X (v := (1 : Int32)) dX0_allowsFirstWake_12 (by decide) ?_
      refine G_goto X (tgt := 17) dX0_allowsFirstWake_13 (by decide) ?_
      obtain rfl := Option.some.inj h
      exact hf _ _ dX0_allowsFirstWake_17 (isb_n (v := (1 : Int32)) rfl)
set_option maxRecDepth 20000 in
theorem ct_X0_allowsFirstWake {l : Launch} {κ : KX} {T : TT} {r : Nat} {o : Nat} {x : St} {a1 : Int32} {res : Int32} (hr : isW r) (ho : isO o) (h : sX0_allowsFirstWake o x a1 = some res) : Ct l κ yX0_allowsFirstWake cX0_allowsFirstWake 2 (some .boolean) 0 0 [.ref (xE κ r o 0), .int a1] (rs T r x) (rs T r x) (some (.int (res))) := by
  refine Ct_i RX0 rfl (by decide +kernel) (Nat.le_of_ble_eq_true rfl) (fun g hl hκ X hf => ?_)
  subst hl; subst hκ
  exact gX0_allowsFirstWake X hr ho hf h
set_option maxRecDepth 20000 in
theorem gX0_isDueAt {g : GX} {T : TT} {r : Nat} {o : Nat} {x : St} {a1 : Int32} {res : Int32} (X : CX g RX0 cX0_isDueAt 3 0 0) (hr : isW r) (ho : isO o) (hf : FinI g cX0_isDueAt .boolean (rs T r x) (res)) (h : sX0_isDueAt o x a1 = some res) : G g 0 0 (rs T r x) 0 [(0, .ref (xE (gκ g) r o 0)), (1, .int a1)] [] := by
  unfold sX0_isDueAt at h
  refine G_iload_n X 1 dX0_isDueAt_0 rfl rfl ?_
  refine G_aload_n X 0 dX0_isDueAt_1 rfl rfl ?_
  refine f_X0_32 X (kd_o0 hr ho) (rg_rs _ _ _) dX0_isDueAt_2 ?_
  refine G_isub X dX0_isDueAt_5 ?_
  refine G_istore_n X (lv' := [(2, .int (a1 - (gI x o 0 2))), (0, .ref (xE (gκ g) r o 0)), (1, .int a1)]) dX0_isDueAt_6 rfl (by decide) rfl ?_
  refine G_iload_n X 0 dX0_isDueAt_7 rfl rfl ?_
  refine G_if_lt X (tgt := 31) dX0_isDueAt_8 (by decide) (fun c1 => ?_) (fun c1 => ?_)
  · have h := it_t c1 h
    refine G_iconst X (v := (0 : Int32)) dX0_isDueAt_31 (by decide) ?_
    obtain rfl := Option.some.inj h
    exact hf _ _ dX0_isDueAt_32 (isb_n (v := (0 : Int32)) rfl)
  · have h := it_f c1 h
    refine G_aload_n X 1 dX0_isDueAt_11 rfl rfl ?_
    refine f_X0_28 X (kd_o0 hr ho) (rg_rs _ _ _) dX0_isDueAt_12 ?_
    refine G_if_le X (tgt := 31) dX0_isDueAt_15 (by decide) (fun c2 => ?_) (fun c2 => ?_)
    · have h := it_t c2 h
      refine G_iconst X (v := (0 : Int32)) dX0_isDueAt_31 (by decide) ?_
      obtain rfl := Option.some.inj h
      exact hf _ _ dX0_isDueAt_32 (isb_n (v := (0 : Int32)) rfl)
    · have h := it_f c2 h
      refine G_iload_n X 0 dX0_isDueAt_18 rfl rfl ?_
      refine G_aload_n X 1 dX0_isDueAt_19 rfl rfl ?_
      refine f_X0_28 X (kd_o0 hr ho) (rg_rs _ _ _) dX0_isDueAt_20 ?_
      obtain ⟨g3, h⟩ := gd_some h
      refine G_irem X dX0_isDueAt_23 (nz_ne g3) ?_
      refine G_if_ne X (tgt := 31) dX0_isDueAt_24 (by decide) (fun c4 => ?_) (fun c4 => ?_)
      · have h := it_t c4 h
        refine G_iconst X (v := (0 : Int32)) dX0_isDueAt_31 (by decide) ?_
        obtain rfl := Option.some.inj h
        exact hf _ _ dX0_isDueAt_32 (isb_n (v := (0 : Int32)) rfl)
      · have h := it_f (fun k => k c4) h
        refine G_iconst X (v := (1 : Int32)) dX0_isDueAt_27 (by decide) ?_
        refine G_goto X (tgt := 32) dX0_isDueAt_28 (by decide) ?_
        obtain rfl := Option.some.inj h
        exact hf _ _ dX0_isDueAt_32 (isb_n (v := (1 : Int32)) rfl)
set_option maxRecDepth 20000 in
theorem ct_X0_isDueAt {l : Launch} {κ : KX} {T : TT} {r : Nat} {o : Nat} {x : St} {a1 : Int32} {res : Int32} (hr : isW r) (ho : isO o) (h : sX0_isDueAt o x a1 = some res) : Ct l κ yX0_isDueAt cX0_isDueAt 3 (some .boolean) 0 0 [.ref (xE κ r o 0), .int a1] (rs T r x) (rs T r x) (some (.int (res))) := by
  refine Ct_i RX0 rfl (by decide +kernel) (Nat.le_of_ble_eq_true rfl) (fun g hl hκ X hf => ?_)
  subst hl; subst hκ
  exact gX0_isDueAt X hr ho hf h
set_option maxRecDepth 20000 in
theorem gX0_slotsUntilDue_b2 {g : GX} {T : TT} {r : Nat} {o : Nat} {x : St} {res : Int32}  (X : CX g RX0 cX0_slotsUntilDue 3 1 22) (hr : isW r) (ho : isO o) (hf : FinI g cX0_slotsUntilDue .int (rs T r x) (res))  : ∀ (n : Nat) (a1 : Int32) (a2 : Int32) (h : sX0_slotsUntilDue_b2 n  o x a1 a2 = some res), G g 0 0 (rs T r x) 2 [(0, .ref (xE (gκ g) r o 0)), (1, .int a1), (2, .int a2)] [] := by
  intro n
  induction n with
  | zero => intro a1 a2 h; unfold sX0_slotsUntilDue_b2 at h; cases h
  | succ n ih =>
    intro a1 a2 h
    unfold sX0_slotsUntilDue_b2 at h
    refine G_iload_n X 2 dX0_slotsUntilDue_2 rfl rfl ?_
    refine G_bipush X (v := (99 : Int32)) dX0_slotsUntilDue_3 (by decide) ?_
    refine G_icmp_ge X (tgt := 24) dX0_slotsUntilDue_5 (by decide) (fun c1 => ?_) (fun c1 => ?_)
    · have h := it_t c1 h
      refine G_iload_n X 2 dX0_slotsUntilDue_24 rfl rfl ?_
      obtain rfl := Option.some.inj h
      exact hf _ _ dX0_slotsUntilDue_25 rfl
    · have h := it_f c1 h
      refine G_aload_n X 0 dX0_slotsUntilDue_8 rfl rfl ?_
      refine G_iload_n X 1 dX0_slotsUntilDue_9 rfl rfl ?_
      refine G_iload_n X 2 dX0_slotsUntilDue_10 rfl rfl ?_
      refine G_iadd X dX0_slotsUntilDue_11 ?_
      obtain ⟨q2, hq2, h⟩ := bd_some h
      refine G_callV X (As := [.int (a1 + a2)]) (rest := []) (T' := rs T r x) (st2 := [.int q2]) (ct_X0_isDueAt (l := g.2.1) (κ := gκ g) (T := T) (r := r) (x := x) hr ho hq2) cal_X0_isDueAt wM_X0_72 wI_X0_isDueAt wS_X0_isDueAt (kd_o0 hr ho) rfl (by decide) rfl rfl (Nat.le_of_ble_eq_true rfl) ⟨Nat.zero_le _, Nat.zero_le _⟩ dX0_slotsUntilDue_12 rfl ?_
      refine G_if_ne X (tgt := 24) dX0_slotsUntilDue_15 (by decide) (fun c3 => ?_) (fun c3 => ?_)
      · have h := it_t c3 h
        refine G_iload_n X 2 dX0_slotsUntilDue_24 rfl rfl ?_
        obtain rfl := Option.some.inj h
        exact hf _ _ dX0_slotsUntilDue_25 rfl
      · have h := it_f (fun k => k c3) h
        obtain ⟨v4, ev4, h⟩ := nm_some h
        refine G_iinc X (v := v4) (lv' := [(2, .int v4), (0, .ref (xE (gκ g) r o 0)), (1, .int a1)]) 2 dX0_slotsUntilDue_18 rfl (by rw [ev4]; rfl) (by decide) rfl ?_
        refine G_goto X (tgt := 2) dX0_slotsUntilDue_21 (by decide) ?_
        refine G_sub [1, 2, 0] rfl ?_
        exact ih _ _ h
set_option maxRecDepth 20000 in
theorem gX0_slotsUntilDue {g : GX} {T : TT} {r : Nat} {o : Nat} {x : St} {a1 : Int32} {res : Int32} (X : CX g RX0 cX0_slotsUntilDue 3 1 22) (hr : isW r) (ho : isO o) (hf : FinI g cX0_slotsUntilDue .int (rs T r x) (res)) (h : sX0_slotsUntilDue o x a1 = some res) : G g 0 0 (rs T r x) 0 [(0, .ref (xE (gκ g) r o 0)), (1, .int a1)] [] := by
  unfold sX0_slotsUntilDue at h
  refine G_iconst X (v := (1 : Int32)) dX0_slotsUntilDue_0 (by decide) ?_
  refine G_istore_n X (lv' := [(2, .int ((1 : Int32))), (0, .ref (xE (gκ g) r o 0)), (1, .int a1)]) dX0_slotsUntilDue_1 rfl (by decide) rfl ?_
  refine G_sub [1, 2, 0] rfl ?_
  exact gX0_slotsUntilDue_b2 X hr ho hf FU _ _ h
set_option maxRecDepth 20000 in
theorem ct_X0_slotsUntilDue {l : Launch} {κ : KX} {T : TT} {r : Nat} {o : Nat} {x : St} {a1 : Int32} {res : Int32} (hr : isW r) (ho : isO o) (h : sX0_slotsUntilDue o x a1 = some res) : Ct l κ yX0_slotsUntilDue cX0_slotsUntilDue 3 (some .int) 1 22 [.ref (xE κ r o 0), .int a1] (rs T r x) (rs T r x) (some (.int (res))) := by
  refine Ct_i RX0 rfl (by decide +kernel) (Nat.le_of_ble_eq_true rfl) (fun g hl hκ X hf => ?_)
  subst hl; subst hκ
  exact gX0_slotsUntilDue X hr ho hf h
set_option maxRecDepth 20000 in
theorem gX0_windowSize {g : GX} {T : TT} {r : Nat} {o : Nat} {x : St}  {res : Int32} (X : CX g RX0 cX0_windowSize 1 1 21) (hr : isW r) (ho : isO o) (hf : FinI g cX0_windowSize .int (rs T r x) (res)) (h : sX0_windowSize o x = some res) : G g 0 0 (rs T r x) 0 [(0, .ref (xE (gκ g) r o 0))] [] := by
  unfold sX0_windowSize at h
  refine G_bipush X (v := (32 : Int32)) dX0_windowSize_0 (by decide) ?_
  refine G_iconst X (v := (2 : Int32)) dX0_windowSize_2 (by decide) ?_
  refine G_aload_n X 0 dX0_windowSize_3 rfl rfl ?_
  refine f_X0_69 X (kd_o0 hr ho) (rg_rs _ _ _) dX0_windowSize_4 ?_
  refine G_ishl X dX0_windowSize_7 ?_
  refine G_mmin X wM_X0_76 (by decide) (Nat.le_of_ble_eq_true rfl) ⟨Nat.zero_le _, Nat.zero_le _⟩ dX0_windowSize_8 ?_
  obtain rfl := Option.some.inj h
  exact hf _ _ dX0_windowSize_11 rfl
set_option maxRecDepth 20000 in
theorem ct_X0_windowSize {l : Launch} {κ : KX} {T : TT} {r : Nat} {o : Nat} {x : St}  {res : Int32} (hr : isW r) (ho : isO o) (h : sX0_windowSize o x = some res) : Ct l κ yX0_windowSize cX0_windowSize 1 (some .int) 1 21 [.ref (xE κ r o 0)] (rs T r x) (rs T r x) (some (.int (res))) := by
  refine Ct_i RX0 rfl (by decide +kernel) (Nat.le_of_ble_eq_true rfl) (fun g hl hκ X hf => ?_)
  subst hl; subst hκ
  exact gX0_windowSize X hr ho hf h
set_option maxRecDepth 20000 in
theorem gX0_hasOpenEars {g : GX} {T : TT} {r : Nat} {o : Nat} {x : St}  {res : Int32} (X : CX g RX0 cX0_hasOpenEars 1 0 0) (hr : isW r) (ho : isO o) (hf : FinI g cX0_hasOpenEars .boolean (rs T r x) (res)) (h : sX0_hasOpenEars o x = some res) : G g 0 0 (rs T r x) 0 [(0, .ref (xE (gκ g) r o 0))] [] := by
  unfold sX0_hasOpenEars at h
  refine G_aload_n X 0 dX0_hasOpenEars_0 rfl rfl ?_
  refine f_X0_63 X (kd_o0 hr ho) (rg_rs _ _ _) dX0_hasOpenEars_1 ?_
  refine G_iconst X (v := (1 : Int32)) dX0_hasOpenEars_4 (by decide) ?_
  refine G_icmp_eq X (tgt := 16) dX0_hasOpenEars_5 (by decide) (fun c1 => ?_) (fun c1 => ?_)
  · have h := it_t c1 h
    refine G_iconst X (v := (1 : Int32)) dX0_hasOpenEars_16 (by decide) ?_
    refine G_goto X (tgt := 21) dX0_hasOpenEars_17 (by decide) ?_
    obtain rfl := Option.some.inj h
    exact hf _ _ dX0_hasOpenEars_21 (isb_n (v := (1 : Int32)) rfl)
  · have h := it_f c1 h
    refine G_aload_n X 0 dX0_hasOpenEars_8 rfl rfl ?_
    refine f_X0_63 X (kd_o0 hr ho) (rg_rs _ _ _) dX0_hasOpenEars_9 ?_
    refine G_iconst X (v := (2 : Int32)) dX0_hasOpenEars_12 (by decide) ?_
    refine G_icmp_ne X (tgt := 20) dX0_hasOpenEars_13 (by decide) (fun c2 => ?_) (fun c2 => ?_)
    · have h := it_t c2 h
      refine G_iconst X (v := (0 : Int32)) dX0_hasOpenEars_20 (by decide) ?_
      obtain rfl := Option.some.inj h
      exact hf _ _ dX0_hasOpenEars_21 (isb_n (v := (0 : Int32)) rfl)
    · have h := it_f (fun k => k c2) h
      refine G_iconst X (v := (1 : Int32)) dX0_hasOpenEars_16 (by decide) ?_
      refine G_goto X (tgt := 21) dX0_hasOpenEars_17 (by decide) ?_
      obtain rfl := Option.some.inj h
      exact hf _ _ dX0_hasOpenEars_21 (isb_n (v := (1 : Int32)) rfl)
set_option maxRecDepth 20000 in
theorem ct_X0_hasOpenEars {l : Launch} {κ : KX} {T : TT} {r : Nat} {o : Nat} {x : St}  {res : Int32} (hr : isW r) (ho : isO o) (h : sX0_hasOpenEars o x = some res) : Ct l κ yX0_hasOpenEars cX0_hasOpenEars 1 (some .boolean) 0 0 [.ref (xE κ r o 0)] (rs T r x) (rs T r x) (some (.int (res))) := by
  refine Ct_i RX0 rfl (by decide +kernel) (Nat.le_of_ble_eq_true rfl) (fun g hl hκ X hf => ?_)
  subst hl; subst hκ
  exact gX0_hasOpenEars X hr ho hf h
set_option maxRecDepth 20000 in
theorem gX0_startListening {g : GX} {T : TT} {r : Nat} {o : Nat} {x : St}  {res : St} (X : CX g RX0 cX0_startListening 1 0 0) (hr : isW r) (ho : isO o) (hf : FinV g cX0_startListening (rs T r res)) (h : sX0_startListening o x = some res) : G g 0 0 (rs T r x) 0 [(0, .ref (xE (gκ g) r o 0))] [] := by
  unfold sX0_startListening at h
  refine G_aload_n X 0 dX0_startListening_0 rfl rfl ?_
  refine G_iconst X (v := (1 : Int32)) dX0_startListening_1 (by decide) ?_
  obtain ⟨x1, ex1, h⟩ := nm_some h
  refine p_X0_63 X (T' := rs T r x1) (kd_o0 hr ho) (rg_rs _ _ _)  (by rw [rs_rs, ex1]) dX0_startListening_2 ?_
  refine G_aload_n X 0 dX0_startListening_5 rfl rfl ?_
  refine G_aload_n X 0 dX0_startListening_6 rfl rfl ?_
  refine f_X0_35 X (kd_o0 hr ho) (rg_rs _ _ _) dX0_startListening_7 ?_
  obtain ⟨x2, ex2, h⟩ := nm_some h
  refine p_X0_66 X (T' := rs T r x2) (kd_o0 hr ho) (rg_rs _ _ _)  (by rw [rs_rs, ex2]) dX0_startListening_10 ?_
  refine G_aload_n X 0 dX0_startListening_13 rfl rfl ?_
  refine G_iconst X (v := (0 : Int32)) dX0_startListening_14 (by decide) ?_
  obtain ⟨x3, ex3, h⟩ := nm_some h
  refine p_X0_44 X (T' := rs T r x3) (kd_o0 hr ho) (rg_rs _ _ _) (by decide)  (by rw [rs_rs, ex3]) dX0_startListening_15 ?_
  obtain rfl := Option.some.inj h
  exact hf _ _ dX0_startListening_18
set_option maxRecDepth 20000 in
theorem ct_X0_startListening {l : Launch} {κ : KX} {T : TT} {r : Nat} {o : Nat} {x : St}  {res : St} (hr : isW r) (ho : isO o) (h : sX0_startListening o x = some res) : Ct l κ yX0_startListening cX0_startListening 1 none 0 0 [.ref (xE κ r o 0)] (rs T r x) (rs T r res) none := by
  refine Ct_v RX0 rfl (by decide +kernel) (Nat.le_of_ble_eq_true rfl) (fun g hl hκ X hf => ?_)
  subst hl; subst hκ
  exact gX0_startListening X hr ho hf h
set_option maxRecDepth 20000 in
theorem gX0_startSending_b15 {g : GX} {T : TT} {r : Nat} {o : Nat}  {res : St}  (X : CX g RX0 cX0_startSending 2 0 0) (hr : isW r) (ho : isO o) (hf : FinV g cX0_startSending (rs T r res))  : ∀ (n : Nat) (x : St) (a1 : Int32) (h : sX0_startSending_b15 n  o x a1 = some res), G g 0 0 (rs T r x) 15 [(0, .ref (xE (gκ g) r o 0)), (1, .int a1)] [] := by
  intro n
  induction n with
  | zero => intro x a1 h; unfold sX0_startSending_b15 at h; cases h
  | succ n ih =>
    intro x a1 h
    unfold sX0_startSending_b15 at h
    refine G_iload_n X 1 dX0_startSending_15 rfl rfl ?_
    refine G_bipush X (v := (8 : Int32)) dX0_startSending_16 (by decide) ?_
    refine G_icmp_ge X (tgt := 34) dX0_startSending_18 (by decide) (fun c3 => ?_) (fun c3 => ?_)
    · have h := it_t c3 h
      obtain rfl := Option.some.inj h
      exact hf _ _ dX0_startSending_34
    · have h := it_f c3 h
      refine G_aload_n X 0 dX0_startSending_21 rfl rfl ?_
      refine f_X0_18 X (kd_o0 hr ho) rfl dX0_startSending_22 ?_
      refine G_iload_n X 1 dX0_startSending_25 rfl rfl ?_
      refine G_iconst X (v := (0 : Int32)) dX0_startSending_26 (by decide) ?_
      obtain ⟨g4, h⟩ := gd_some h
      obtain ⟨x5, ex5, h⟩ := nm_some h
      refine G_iast X (T' := rs T r x5) (kd_o3 hr ho) (rg_rs _ _ _) g4 (by rw [rs_rs, ex5]) dX0_startSending_27 ?_
      obtain ⟨v6, ev6, h⟩ := nm_some h
      refine G_iinc X (v := v6) (lv' := [(1, .int v6), (0, .ref (xE (gκ g) r o 0))]) 1 dX0_startSending_28 rfl (by rw [ev6]; rfl) (by decide) rfl ?_
      refine G_goto X (tgt := 15) dX0_startSending_31 (by decide) ?_
      refine G_sub [1, 0] rfl ?_
      exact ih _ _ h
set_option maxRecDepth 20000 in
theorem gX0_startSending {g : GX} {T : TT} {r : Nat} {o : Nat} {x : St}  {res : St} (X : CX g RX0 cX0_startSending 2 0 0) (hr : isW r) (ho : isO o) (hf : FinV g cX0_startSending (rs T r res)) (h : sX0_startSending o x = some res) : G g 0 0 (rs T r x) 0 [(0, .ref (xE (gκ g) r o 0))] [] := by
  unfold sX0_startSending at h
  refine G_aload_n X 0 dX0_startSending_0 rfl rfl ?_
  refine G_iconst X (v := (3 : Int32)) dX0_startSending_1 (by decide) ?_
  obtain ⟨x1, ex1, h⟩ := nm_some h
  refine p_X0_63 X (T' := rs T r x1) (kd_o0 hr ho) (rg_rs _ _ _)  (by rw [rs_rs, ex1]) dX0_startSending_2 ?_
  refine G_aload_n X 0 dX0_startSending_5 rfl rfl ?_
  refine G_aload_n X 0 dX0_startSending_6 rfl rfl ?_
  refine f_X0_38 X (kd_o0 hr ho) (rg_rs _ _ _) dX0_startSending_7 ?_
  obtain ⟨x2, ex2, h⟩ := nm_some h
  refine p_X0_66 X (T' := rs T r x2) (kd_o0 hr ho) (rg_rs _ _ _)  (by rw [rs_rs, ex2]) dX0_startSending_10 ?_
  refine G_iconst X (v := (0 : Int32)) dX0_startSending_13 (by decide) ?_
  refine G_istore_n X (lv' := [(1, .int ((0 : Int32))), (0, .ref (xE (gκ g) r o 0))]) dX0_startSending_14 rfl (by decide) rfl ?_
  refine G_sub [1, 0] rfl ?_
  exact gX0_startSending_b15 X hr ho hf FU _ _ h
set_option maxRecDepth 20000 in
theorem ct_X0_startSending {l : Launch} {κ : KX} {T : TT} {r : Nat} {o : Nat} {x : St}  {res : St} (hr : isW r) (ho : isO o) (h : sX0_startSending o x = some res) : Ct l κ yX0_startSending cX0_startSending 2 none 0 0 [.ref (xE κ r o 0)] (rs T r x) (rs T r res) none := by
  refine Ct_v RX0 rfl (by decide +kernel) (Nat.le_of_ble_eq_true rfl) (fun g hl hκ X hf => ?_)
  subst hl; subst hκ
  exact gX0_startSending X hr ho hf h
set_option maxRecDepth 20000 in
theorem gX0_payForSlot {g : GX} {T : TT} {r : Nat} {o : Nat} {x : St} {a1 : Int32} {res : St} (X : CX g RX0 cX0_payForSlot 3 1 21) (hr : isW r) (ho : isO o) (hf : FinV g cX0_payForSlot (rs T r res)) (h : sX0_payForSlot o x a1 = some res) : G g 0 0 (rs T r x) 0 [(0, .ref (xE (gκ g) r o 0)), (1, .int a1)] [] := by
  unfold sX0_payForSlot at h
  refine G_iload_n X 1 dX0_payForSlot_0 rfl rfl ?_
  refine G_aload_n X 0 dX0_payForSlot_1 rfl rfl ?_
  refine f_X0_41 X (kd_o0 hr ho) (rg_rs _ _ _) dX0_payForSlot_2 ?_
  refine G_mmin X wM_X0_76 (by decide) (Nat.le_of_ble_eq_true rfl) ⟨Nat.zero_le _, Nat.zero_le _⟩ dX0_payForSlot_5 ?_
  obtain ⟨v1, ev1, h⟩ := nm_some h
  refine G_nmi ev1 ?_
  refine G_istore_n X (lv' := [(2, .int v1), (0, .ref (xE (gκ g) r o 0)), (1, .int a1)]) dX0_payForSlot_8 rfl (by decide) rfl ?_
  refine G_aload_n X 1 dX0_payForSlot_9 rfl rfl ?_
  refine G_dup X dX0_payForSlot_10 rfl ?_
  refine f_X0_41 X (kd_o0 hr ho) (rg_rs _ _ _) dX0_payForSlot_11 ?_
  refine G_iload_n X 0 dX0_payForSlot_14 rfl rfl ?_
  refine G_isub X dX0_payForSlot_15 ?_
  obtain ⟨x2, ex2, h⟩ := nm_some h
  refine p_X0_41 X (T' := rs T r x2) (kd_o0 hr ho) (rg_rs _ _ _)  (by rw [rs_rs, ex2]) dX0_payForSlot_16 ?_
  refine G_aload_n X 1 dX0_payForSlot_19 rfl rfl ?_
  refine G_dup X dX0_payForSlot_20 rfl ?_
  refine f_X0_57 X (kd_o0 hr ho) (rg_rs _ _ _) dX0_payForSlot_21 ?_
  refine G_iload_n X 0 dX0_payForSlot_24 rfl rfl ?_
  refine G_iadd X dX0_payForSlot_25 ?_
  obtain ⟨x3, ex3, h⟩ := nm_some h
  refine p_X0_57 X (T' := rs T r x3) (kd_o0 hr ho) (rg_rs _ _ _)  (by rw [rs_rs, ex3]) dX0_payForSlot_26 ?_
  refine G_aload_n X 1 dX0_payForSlot_29 rfl rfl ?_
  refine f_X0_41 X (kd_o0 hr ho) (rg_rs _ _ _) dX0_payForSlot_30 ?_
  refine G_if_ne X (tgt := 46) dX0_payForSlot_33 (by decide) (fun c4 => ?_) (fun c4 => ?_)
  · have h := it_t c4 h
    obtain rfl := Option.some.inj h
    exact hf _ _ dX0_payForSlot_46
  · have h := it_f (fun k => k c4) h
    refine G_aload_n X 1 dX0_payForSlot_36 rfl rfl ?_
    refine G_iconst X (v := (4 : Int32)) dX0_payForSlot_37 (by decide) ?_
    obtain ⟨x5, ex5, h⟩ := nm_some h
    refine p_X0_63 X (T' := rs T r x5) (kd_o0 hr ho) (rg_rs _ _ _)  (by rw [rs_rs, ex5]) dX0_payForSlot_38 ?_
    refine G_aload_n X 1 dX0_payForSlot_41 rfl rfl ?_
    refine G_iconst X (v := (0 : Int32)) dX0_payForSlot_42 (by decide) ?_
    obtain ⟨x6, ex6, h⟩ := nm_some h
    refine p_X0_66 X (T' := rs T r x6) (kd_o0 hr ho) (rg_rs _ _ _)  (by rw [rs_rs, ex6]) dX0_payForSlot_43 ?_
    obtain rfl := Option.some.inj h
    exact hf _ _ dX0_payForSlot_46
set_option maxRecDepth 20000 in
theorem ct_X0_payForSlot {l : Launch} {κ : KX} {T : TT} {r : Nat} {o : Nat} {x : St} {a1 : Int32} {res : St} (hr : isW r) (ho : isO o) (h : sX0_payForSlot o x a1 = some res) : Ct l κ yX0_payForSlot cX0_payForSlot 3 none 1 21 [.ref (xE κ r o 0), .int a1] (rs T r x) (rs T r res) none := by
  refine Ct_v RX0 rfl (by decide +kernel) (Nat.le_of_ble_eq_true rfl) (fun g hl hκ X hf => ?_)
  subst hl; subst hκ
  exact gX0_payForSlot X hr ho hf h
set_option maxRecDepth 20000 in
theorem gX0_takeEnergy {g : GX} {T : TT} {r : Nat} {o : Nat} {x : St} {a1 : Int32} {res : St} (X : CX g RX0 cX0_takeEnergy 2 1 21) (hr : isW r) (ho : isO o) (hf : FinV g cX0_takeEnergy (rs T r res)) (h : sX0_takeEnergy o x a1 = some res) : G g 0 0 (rs T r x) 0 [(0, .ref (xE (gκ g) r o 0)), (1, .int a1)] [] := by
  unfold sX0_takeEnergy at h
  refine G_aload_n X 0 dX0_takeEnergy_0 rfl rfl ?_
  refine G_sipush X (v := (9999 : Int32)) dX0_takeEnergy_1 (by decide) ?_
  refine G_aload_n X 0 dX0_takeEnergy_4 rfl rfl ?_
  refine f_X0_41 X (kd_o0 hr ho) (rg_rs _ _ _) dX0_takeEnergy_5 ?_
  refine G_iload_n X 1 dX0_takeEnergy_8 rfl rfl ?_
  refine G_iadd X dX0_takeEnergy_9 ?_
  refine G_mmin X wM_X0_76 (by decide) (Nat.le_of_ble_eq_true rfl) ⟨Nat.zero_le _, Nat.zero_le _⟩ dX0_takeEnergy_10 ?_
  obtain ⟨v1, ev1, h⟩ := nm_some h
  refine G_nmi ev1 ?_
  obtain ⟨x2, ex2, h⟩ := nm_some h
  refine p_X0_41 X (T' := rs T r x2) (kd_o0 hr ho) (rg_rs _ _ _)  (by rw [rs_rs, ex2]) dX0_takeEnergy_13 ?_
  refine G_aload_n X 0 dX0_takeEnergy_16 rfl rfl ?_
  refine f_X0_63 X (kd_o0 hr ho) (rg_rs _ _ _) dX0_takeEnergy_17 ?_
  refine G_iconst X (v := (4 : Int32)) dX0_takeEnergy_20 (by decide) ?_
  refine G_icmp_ne X (tgt := 28) dX0_takeEnergy_21 (by decide) (fun c3 => ?_) (fun c3 => ?_)
  · have h := it_t c3 h
    obtain rfl := Option.some.inj h
    exact hf _ _ dX0_takeEnergy_28
  · have h := it_f (fun k => k c3) h
    refine G_aload_n X 0 dX0_takeEnergy_24 rfl rfl ?_
    obtain ⟨q4, hq4, h⟩ := bd_some h
    refine G_callV X (As := []) (rest := []) (T' := rs T r q4) (st2 := []) (ct_X0_fallAsleep (l := g.2.1) (κ := gκ g) (T := T) (r := r) (x := x2) hr ho hq4) cal_X0_fallAsleep wM_X0_60 wI_X0_fallAsleep wS_X0_fallAsleep (kd_o0 hr ho) rfl (by decide) rfl rfl (Nat.le_of_ble_eq_true rfl) ⟨Nat.zero_le _, Nat.zero_le _⟩ dX0_takeEnergy_25 rfl ?_
    obtain rfl := Option.some.inj h
    exact hf _ _ dX0_takeEnergy_28
set_option maxRecDepth 20000 in
theorem ct_X0_takeEnergy {l : Launch} {κ : KX} {T : TT} {r : Nat} {o : Nat} {x : St} {a1 : Int32} {res : St} (hr : isW r) (ho : isO o) (h : sX0_takeEnergy o x a1 = some res) : Ct l κ yX0_takeEnergy cX0_takeEnergy 2 none 1 21 [.ref (xE κ r o 0), .int a1] (rs T r x) (rs T r res) none := by
  refine Ct_v RX0 rfl (by decide +kernel) (Nat.le_of_ble_eq_true rfl) (fun g hl hκ X hf => ?_)
  subst hl; subst hκ
  exact gX0_takeEnergy X hr ho hf h
set_option maxRecDepth 20000 in
theorem gX4_isLetter {g : GX} {T : TT}   {a0 : Int32} {res : Int32} (X : CX g RX4 cX4_isLetter 1 0 0)  (hf : FinI g cX4_isLetter .boolean (T) (res)) (h : sX4_isLetter a0 = some res) : G g 0 0 (T) 0 [(0, .int a0)] [] := by
  unfold sX4_isLetter at h
  refine G_iload_n X 0 dX4_isLetter_0 rfl rfl ?_
  refine G_bipush X (v := (97 : Int32)) dX4_isLetter_1 (by decide) ?_
  refine G_icmp_lt X (tgt := 16) dX4_isLetter_3 (by decide) (fun c1 => ?_) (fun c1 => ?_)
  · have h := it_t c1 h
    refine G_iconst X (v := (0 : Int32)) dX4_isLetter_16 (by decide) ?_
    obtain rfl := Option.some.inj h
    exact hf _ _ dX4_isLetter_17 (isb_n (v := (0 : Int32)) rfl)
  · have h := it_f c1 h
    refine G_iload_n X 0 dX4_isLetter_6 rfl rfl ?_
    refine G_bipush X (v := (122 : Int32)) dX4_isLetter_7 (by decide) ?_
    refine G_icmp_gt X (tgt := 16) dX4_isLetter_9 (by decide) (fun c2 => ?_) (fun c2 => ?_)
    · have h := it_t c2 h
      refine G_iconst X (v := (0 : Int32)) dX4_isLetter_16 (by decide) ?_
      obtain rfl := Option.some.inj h
      exact hf _ _ dX4_isLetter_17 (isb_n (v := (0 : Int32)) rfl)
    · have h := it_f c2 h
      refine G_iconst X (v := (1 : Int32)) dX4_isLetter_12 (by decide) ?_
      refine G_goto X (tgt := 17) dX4_isLetter_13 (by decide) ?_
      obtain rfl := Option.some.inj h
      exact hf _ _ dX4_isLetter_17 (isb_n (v := (1 : Int32)) rfl)
set_option maxRecDepth 20000 in
theorem ct_X4_isLetter {l : Launch} {κ : KX} {T : TT}   {a0 : Int32} {res : Int32}  (h : sX4_isLetter a0 = some res) : Ct l κ yX4_isLetter cX4_isLetter 1 (some .boolean) 0 0 [.int a0] (T) (T) (some (.int (res))) := by
  refine Ct_i RX4 rfl (by decide +kernel) (Nat.le_of_ble_eq_true rfl) (fun g hl hκ X hf => ?_)
  subst hl; subst hκ
  exact gX4_isLetter X  hf h
set_option maxRecDepth 20000 in
theorem gX4_add {g : GX} {T : TT} {r : Nat}  {t : St} {a1 : Int32} {a2 : Int32} {a3 : Int64} {res : St} (X : CX g RX4 cX4_add 5 0 0) (hr : kd r = kd 3) (hf : FinV g cX4_add (rs T r res)) (h : sX4_add t a1 a2 a3 = some res) : G g 0 0 (rs T r t) 0 [(0, .ref (xE (gκ g) r 0 0)), (1, .int a1), (2, .int a2), (3, .long a3)] [] := by
  unfold sX4_add at h
  refine G_aload_n X 0 dX4_add_0 rfl rfl ?_
  refine f_X4_32 X (congrFun (congrFun hr 0) 0) (rg_rs _ _ _) dX4_add_1 ?_
  refine G_sipush X (v := (700 : Int32)) dX4_add_4 (by decide) ?_
  refine G_icmp_gt X (tgt := 50) dX4_add_7 (by decide) (fun c1 => ?_) (fun c1 => ?_)
  · have h := it_t c1 h
    obtain rfl := Option.some.inj h
    exact hf _ _ dX4_add_50
  · have h := it_f c1 h
    refine G_aload_n X 0 dX4_add_10 rfl rfl ?_
    refine f_X4_9 X (congrFun (congrFun hr 0) 0) rfl dX4_add_11 ?_
    refine G_aload_n X 0 dX4_add_14 rfl rfl ?_
    refine f_X4_32 X (congrFun (congrFun hr 0) 0) (rg_rs _ _ _) dX4_add_15 ?_
    refine G_iload_n X 1 dX4_add_18 rfl rfl ?_
    obtain ⟨g2, h⟩ := gd_some h
    obtain ⟨x3, ex3, h⟩ := nm_some h
    refine G_iast X (T' := rs T r x3) (congrFun (congrFun hr 0) 1) (rg_rs _ _ _) g2 (by rw [rs_rs, ex3]) dX4_add_19 ?_
    refine G_aload_n X 0 dX4_add_20 rfl rfl ?_
    refine f_X4_15 X (congrFun (congrFun hr 0) 0) rfl dX4_add_21 ?_
    refine G_aload_n X 0 dX4_add_24 rfl rfl ?_
    refine f_X4_32 X (congrFun (congrFun hr 0) 0) (rg_rs _ _ _) dX4_add_25 ?_
    refine G_iload_n X 2 dX4_add_28 rfl rfl ?_
    obtain ⟨g4, h⟩ := gd_some h
    obtain ⟨x5, ex5, h⟩ := nm_some h
    refine G_iast X (T' := rs T r x5) (congrFun (congrFun hr 0) 2) (rg_rs _ _ _) g4 (by rw [rs_rs, ex5]) dX4_add_29 ?_
    refine G_aload_n X 0 dX4_add_30 rfl rfl ?_
    refine f_X4_18 X (congrFun (congrFun hr 0) 0) rfl dX4_add_31 ?_
    refine G_aload_n X 0 dX4_add_34 rfl rfl ?_
    refine f_X4_32 X (congrFun (congrFun hr 0) 0) (rg_rs _ _ _) dX4_add_35 ?_
    refine G_lload_n X 3 dX4_add_38 rfl rfl ?_
    obtain ⟨g6, h⟩ := gd_some h
    obtain ⟨x7, ex7, h⟩ := nm_some h
    refine G_last X (T' := rs T r x7) (congrFun (congrFun hr 0) 3) (rg_rs _ _ _) g6 (by rw [rs_rs, ex7]) dX4_add_39 ?_
    refine G_aload_n X 0 dX4_add_40 rfl rfl ?_
    refine G_dup X dX4_add_41 rfl ?_
    refine f_X4_32 X (congrFun (congrFun hr 0) 0) (rg_rs _ _ _) dX4_add_42 ?_
    refine G_iconst X (v := (1 : Int32)) dX4_add_45 (by decide) ?_
    refine G_iadd X dX4_add_46 ?_
    obtain ⟨x8, ex8, h⟩ := nm_some h
    refine p_X4_32 X (T' := rs T r x8) (congrFun (congrFun hr 0) 0) (rg_rs _ _ _)  (by rw [rs_rs, ex8]) dX4_add_47 ?_
    obtain rfl := Option.some.inj h
    exact hf _ _ dX4_add_50
set_option maxRecDepth 20000 in
theorem ct_X4_add {l : Launch} {κ : KX} {T : TT} {r : Nat}  {t : St} {a1 : Int32} {a2 : Int32} {a3 : Int64} {res : St} (hr : kd r = kd 3) (h : sX4_add t a1 a2 a3 = some res) : Ct l κ yX4_add cX4_add 5 none 0 0 [.ref (xE κ r 0 0), .int a1, .int a2, .long a3] (rs T r t) (rs T r res) none := by
  refine Ct_v RX4 rfl (by decide +kernel) (Nat.le_of_ble_eq_true rfl) (fun g hl hκ X hf => ?_)
  subst hl; subst hκ
  exact gX4_add X hr hf h
set_option maxRecDepth 20000 in
theorem gX4_addWord_b70 {g : GX} {T : TT} {r : Nat} {y : St}  {t : St} {a2 : Int32} {a4 : Int64} {a6 : Int32} {s0 : Int32} {res : St × Int32}  (X : CX g RX4 cX4_addWord 7 1 24) (hr : kd r = kd 3) (hne : 8 ≠ r) (hy : rg T 8 = y) (hf : FinI g cX4_addWord .int (rs T r res.1) (res.2))   (h : sX4_addWord_b70  y t a2 a4 a6 s0 = some res) : G g 0 0 (rs T r t) 70 [(2, .int a2), (4, .long a4), (6, .int a6)] [.int s0, .ref (xE (gκ g) r 0 0)] := by
  unfold sX4_addWord_b70 at h
  refine G_iload_n X 0 dX4_addWord_70 rfl rfl ?_
  refine G_lload X 1 dX4_addWord_71 rfl ?_
  obtain ⟨q11, hq11, h⟩ := bd_some h
  refine G_callV X (As := [.int s0, .int a2, .long a4]) (rest := []) (T' := rs T r q11) (st2 := []) (ct_X4_add (l := g.2.1) (κ := gκ g) (T := T) (r := r) (x := t) hr hq11) cal_X4_add wM_X4_59 wI_X4_add wS_X4_add (congrFun (congrFun hr 0) 0) rfl (by decide) rfl rfl (Nat.le_of_ble_eq_true rfl) ⟨Nat.zero_le _, Nat.zero_le _⟩ dX4_addWord_73 rfl ?_
  refine G_iload X 2 dX4_addWord_76 rfl ?_
  obtain rfl := Option.some.inj h
  exact hf _ _ dX4_addWord_78 rfl
set_option maxRecDepth 20000 in
theorem gX4_addWord_b55 {g : GX} {T : TT} {r : Nat} {y : St}  {t : St} {a2 : Int32} {a4 : Int64} {a6 : Int32} {res : St × Int32}  (X : CX g RX4 cX4_addWord 7 1 24) (hr : kd r = kd 3) (hne : 8 ≠ r) (hy : rg T 8 = y) (hf : FinI g cX4_addWord .int (rs T r res.1) (res.2))   (h : sX4_addWord_b55  y t a2 a4 a6 = some res) : G g 0 0 (rs T r t) 55 [(0, .ref (xE (gκ g) r 0 0)), (2, .int a2), (4, .long a4), (6, .int a6)] [] := by
  unfold sX4_addWord_b55 at h
  refine G_aload_n X 0 dX4_addWord_55 rfl rfl ?_
  refine G_iload X 3 dX4_addWord_56 rfl ?_
  refine G_iload_n X 1 dX4_addWord_58 rfl rfl ?_
  refine G_isub X dX4_addWord_59 ?_
  refine G_bipush X (v := (8 : Int32)) dX4_addWord_60 (by decide) ?_
  refine G_icmp_le X (tgt := 69) dX4_addWord_62 (by decide) (fun c10 => ?_) (fun c10 => ?_)
  · have h := it_t c10 h
    refine G_iconst X (v := (1 : Int32)) dX4_addWord_69 (by decide) ?_
    refine G_sub [1, 2, 3] rfl ?_
    exact gX4_addWord_b70 X hr hne hy hf h
  · have h := it_f c10 h
    refine G_iconst X (v := (3 : Int32)) dX4_addWord_65 (by decide) ?_
    refine G_goto X (tgt := 70) dX4_addWord_66 (by decide) ?_
    refine G_sub [1, 2, 3] rfl ?_
    exact gX4_addWord_b70 X hr hne hy hf h
set_option maxRecDepth 20000 in
theorem gX4_addWord_b6 {g : GX} {T : TT} {r : Nat} {y : St}   {res : St × Int32}  (X : CX g RX4 cX4_addWord 7 1 24) (hr : kd r = kd 3) (hne : 8 ≠ r) (hy : rg T 8 = y) (hf : FinI g cX4_addWord .int (rs T r res.1) (res.2))  : ∀ (n : Nat) (t : St) (a2 : Int32) (a3 : Int32) (a4 : Int64) (a6 : Int32) (h : sX4_addWord_b6 n  y t a2 a3 a4 a6 = some res), G g 0 0 (rs T r t) 6 [(0, .ref (xE (gκ g) r 0 0)), (1, .ref (xE (gκ g) 8 0 1)), (2, .int a2), (3, .int a3), (4, .long a4), (6, .int a6)] [] := by
  intro n
  induction n with
  | zero => intro t a2 a3 a4 a6 h; unfold sX4_addWord_b6 at h; cases h
  | succ n ih =>
    intro t a2 a3 a4 a6 h
    unfold sX4_addWord_b6 at h
    refine G_iload X 5 dX4_addWord_6 rfl ?_
    refine G_iload_n X 3 dX4_addWord_8 rfl rfl ?_
    refine G_icmp_ge X (tgt := 55) dX4_addWord_9 (by decide) (fun c1 => ?_) (fun c1 => ?_)
    · have h := it_t c1 h
      refine G_sub [0, 2, 4, 5] rfl ?_
      exact gX4_addWord_b55 X hr hne hy hf h
    · have h := it_f c1 h
      refine G_aload_n X 1 dX4_addWord_12 rfl rfl ?_
      refine G_iload X 5 dX4_addWord_13 rfl ?_
      obtain ⟨g2, h⟩ := gd_some h
      refine G_bald X rfl ((rg_rs_ne _ _ hne).trans hy) g2 dX4_addWord_15 ?_
      obtain ⟨q3, hq3, h⟩ := bd_some h
      refine G_callS X (As := [.int (gI y 0 1 (ix a6))]) (rest := []) (T' := rs T r t) (st2 := [.int q3]) (ct_X4_isLetter (l := g.2.1) (κ := gκ g)   hq3) cal_X4_isLetter wM_X4_41 wT_X4_isLetter (by decide) rfl rfl (Nat.le_of_ble_eq_true rfl) ⟨Nat.zero_le _, Nat.zero_le _⟩ dX4_addWord_16 rfl ?_
      refine G_if_eq X (tgt := 55) dX4_addWord_19 (by decide) (fun c4 => ?_) (fun c4 => ?_)
      · have h := it_t c4 h
        refine G_sub [0, 2, 4, 5] rfl ?_
        exact gX4_addWord_b55 X hr hne hy hf h
      · have h := it_f c4 h
        refine G_iload X 5 dX4_addWord_22 rfl ?_
        refine G_iload_n X 2 dX4_addWord_24 rfl rfl ?_
        refine G_isub X dX4_addWord_25 ?_
        refine G_bipush X (v := (8 : Int32)) dX4_addWord_26 (by decide) ?_
        refine G_icmp_ge X (tgt := 49) dX4_addWord_28 (by decide) (fun c5 => ?_) (fun c5 => ?_)
        · have h := it_t c5 h
          obtain ⟨v6, ev6, h⟩ := nm_some h
          refine G_iinc X (v := v6) (lv' := [(6, .int v6), (0, .ref (xE (gκ g) r 0 0)), (1, .ref (xE (gκ g) 8 0 1)), (2, .int a2), (3, .int a3), (4, .long a4)]) 5 dX4_addWord_49 rfl (by rw [ev6]; rfl) (by decide) rfl ?_
          refine G_goto X (tgt := 6) dX4_addWord_52 (by decide) ?_
          refine G_sub [1, 2, 3, 4, 5, 0] rfl ?_
          exact ih _ _ _ _ _ h
        · have h := it_f c5 h
          refine G_lload X 4 dX4_addWord_31 rfl ?_
          refine G_aload_n X 1 dX4_addWord_33 rfl rfl ?_
          refine G_iload X 5 dX4_addWord_34 rfl ?_
          obtain ⟨g7, h⟩ := gd_some h
          refine G_bald X rfl ((rg_rs_ne _ _ hne).trans hy) g7 dX4_addWord_36 ?_
          refine G_i2l X dX4_addWord_37 ?_
          refine G_bipush X (v := (8 : Int32)) dX4_addWord_38 (by decide) ?_
          refine G_iload X 5 dX4_addWord_40 rfl ?_
          refine G_iload_n X 2 dX4_addWord_42 rfl rfl ?_
          refine G_isub X dX4_addWord_43 ?_
          refine G_imul X dX4_addWord_44 ?_
          refine G_lshl X dX4_addWord_45 ?_
          refine G_lor X dX4_addWord_46 ?_
          obtain ⟨v8, ev8, h⟩ := nm_some h
          refine G_nml ev8 ?_
          refine G_lstore X (lv' := [(4, .long v8), (0, .ref (xE (gκ g) r 0 0)), (1, .ref (xE (gκ g) 8 0 1)), (2, .int a2), (3, .int a3), (6, .int a6)]) dX4_addWord_47 (by decide) rfl ?_
          obtain ⟨v9, ev9, h⟩ := nm_some h
          refine G_iinc X (v := v9) (lv' := [(6, .int v9), (4, .long v8), (0, .ref (xE (gκ g) r 0 0)), (1, .ref (xE (gκ g) 8 0 1)), (2, .int a2), (3, .int a3)]) 5 dX4_addWord_49 rfl (by rw [ev9]; rfl) (by decide) rfl ?_
          refine G_goto X (tgt := 6) dX4_addWord_52 (by decide) ?_
          refine G_sub [2, 3, 4, 5, 1, 0] rfl ?_
          exact ih _ _ _ _ _ h
set_option maxRecDepth 20000 in
theorem gX4_addWord {g : GX} {T : TT} {r : Nat} {y : St}  {t : St} {a2 : Int32} {a3 : Int32} {res : St × Int32} (X : CX g RX4 cX4_addWord 7 1 24) (hr : kd r = kd 3) (hne : 8 ≠ r) (hy : rg T 8 = y) (hf : FinI g cX4_addWord .int (rs T r res.1) (res.2)) (h : sX4_addWord y t a2 a3 = some res) : G g 0 0 (rs T r t) 0 [(0, .ref (xE (gκ g) r 0 0)), (1, .ref (xE (gκ g) 8 0 1)), (2, .int a2), (3, .int a3)] [] := by
  unfold sX4_addWord at h
  refine G_lconst X (v := (0 : Int64)) dX4_addWord_0 (by decide) ?_
  refine G_lstore X (lv' := [(4, .long ((0 : Int64))), (0, .ref (xE (gκ g) r 0 0)), (1, .ref (xE (gκ g) 8 0 1)), (2, .int a2), (3, .int a3)]) dX4_addWord_1 (by decide) rfl ?_
  refine G_iload_n X 3 dX4_addWord_3 rfl rfl ?_
  refine G_istore X (lv' := [(6, .int a2), (4, .long ((0 : Int64))), (0, .ref (xE (gκ g) r 0 0)), (1, .ref (xE (gκ g) 8 0 1)), (2, .int a2), (3, .int a3)]) dX4_addWord_4 (by decide) rfl ?_
  refine G_sub [2, 3, 4, 5, 1, 0] rfl ?_
  exact gX4_addWord_b6 X hr hne hy hf FU _ _ _ _ _ h
set_option maxRecDepth 20000 in
theorem ct_X4_addWord {l : Launch} {κ : KX} {T : TT} {r : Nat} {y : St}  {t : St} {a2 : Int32} {a3 : Int32} {res : St × Int32} (hr : kd r = kd 3) (hne : 8 ≠ r) (hy : rg T 8 = y) (h : sX4_addWord y t a2 a3 = some res) : Ct l κ yX4_addWord cX4_addWord 7 (some .int) 1 24 [.ref (xE κ r 0 0), .ref (xE κ 8 0 1), .int a2, .int a3] (rs T r t) (rs T r res.1) (some (.int (res.2))) := by
  refine Ct_i RX4 rfl (by decide +kernel) (Nat.le_of_ble_eq_true rfl) (fun g hl hκ X hf => ?_)
  subst hl; subst hκ
  exact gX4_addWord X hr hne hy hf h
set_option maxRecDepth 20000 in
theorem gX4_isDigit {g : GX} {T : TT}   {a0 : Int32} {res : Int32} (X : CX g RX4 cX4_isDigit 1 0 0)  (hf : FinI g cX4_isDigit .boolean (T) (res)) (h : sX4_isDigit a0 = some res) : G g 0 0 (T) 0 [(0, .int a0)] [] := by
  unfold sX4_isDigit at h
  refine G_iload_n X 0 dX4_isDigit_0 rfl rfl ?_
  refine G_bipush X (v := (48 : Int32)) dX4_isDigit_1 (by decide) ?_
  refine G_icmp_lt X (tgt := 16) dX4_isDigit_3 (by decide) (fun c1 => ?_) (fun c1 => ?_)
  · have h := it_t c1 h
    refine G_iconst X (v := (0 : Int32)) dX4_isDigit_16 (by decide) ?_
    obtain rfl := Option.some.inj h
    exact hf _ _ dX4_isDigit_17 (isb_n (v := (0 : Int32)) rfl)
  · have h := it_f c1 h
    refine G_iload_n X 0 dX4_isDigit_6 rfl rfl ?_
    refine G_bipush X (v := (57 : Int32)) dX4_isDigit_7 (by decide) ?_
    refine G_icmp_gt X (tgt := 16) dX4_isDigit_9 (by decide) (fun c2 => ?_) (fun c2 => ?_)
    · have h := it_t c2 h
      refine G_iconst X (v := (0 : Int32)) dX4_isDigit_16 (by decide) ?_
      obtain rfl := Option.some.inj h
      exact hf _ _ dX4_isDigit_17 (isb_n (v := (0 : Int32)) rfl)
    · have h := it_f c2 h
      refine G_iconst X (v := (1 : Int32)) dX4_isDigit_12 (by decide) ?_
      refine G_goto X (tgt := 17) dX4_isDigit_13 (by decide) ?_
      obtain rfl := Option.some.inj h
      exact hf _ _ dX4_isDigit_17 (isb_n (v := (1 : Int32)) rfl)
set_option maxRecDepth 20000 in
theorem ct_X4_isDigit {l : Launch} {κ : KX} {T : TT}   {a0 : Int32} {res : Int32}  (h : sX4_isDigit a0 = some res) : Ct l κ yX4_isDigit cX4_isDigit 1 (some .boolean) 0 0 [.int a0] (T) (T) (some (.int (res))) := by
  refine Ct_i RX4 rfl (by decide +kernel) (Nat.le_of_ble_eq_true rfl) (fun g hl hκ X hf => ?_)
  subst hl; subst hκ
  exact gX4_isDigit X  hf h
set_option maxRecDepth 20000 in
theorem gX4_addNumber_b65 {g : GX} {T : TT} {r : Nat} {y : St}  {t : St} {a2 : Int32} {a4 : Int32} {a5 : Int32} {s0 : Int32} {res : St × Int32}  (X : CX g RX4 cX4_addNumber 6 1 24) (hr : kd r = kd 3) (hne : 8 ≠ r) (hy : rg T 8 = y) (hf : FinI g cX4_addNumber .int (rs T r res.1) (res.2))   (h : sX4_addNumber_b65  y t a2 a4 a5 s0 = some res) : G g 0 0 (rs T r t) 65 [(2, .int a2), (4, .int a4), (5, .int a5)] [.int s0, .ref (xE (gκ g) r 0 0)] := by
  unfold sX4_addNumber_b65 at h
  refine G_iload_n X 0 dX4_addNumber_65 rfl rfl ?_
  refine G_iload X 1 dX4_addNumber_66 rfl ?_
  refine G_i2l X dX4_addNumber_68 ?_
  obtain ⟨q11, hq11, h⟩ := bd_some h
  refine G_callV X (As := [.int s0, .int a2, .long a4.toInt64]) (rest := []) (T' := rs T r q11) (st2 := []) (ct_X4_add (l := g.2.1) (κ := gκ g) (T := T) (r := r) (x := t) hr hq11) cal_X4_add wM_X4_59 wI_X4_add wS_X4_add (congrFun (congrFun hr 0) 0) rfl (by decide) rfl rfl (Nat.le_of_ble_eq_true rfl) ⟨Nat.zero_le _, Nat.zero_le _⟩ dX4_addNumber_69 rfl ?_
  refine G_iload X 2 dX4_addNumber_72 rfl ?_
  obtain rfl := Option.some.inj h
  exact hf _ _ dX4_addNumber_74 rfl
set_option maxRecDepth 20000 in
theorem gX4_addNumber_b51 {g : GX} {T : TT} {r : Nat} {y : St}  {t : St} {a2 : Int32} {a4 : Int32} {a5 : Int32} {res : St × Int32}  (X : CX g RX4 cX4_addNumber 6 1 24) (hr : kd r = kd 3) (hne : 8 ≠ r) (hy : rg T 8 = y) (hf : FinI g cX4_addNumber .int (rs T r res.1) (res.2))   (h : sX4_addNumber_b51  y t a2 a4 a5 = some res) : G g 0 0 (rs T r t) 51 [(0, .ref (xE (gκ g) r 0 0)), (2, .int a2), (4, .int a4), (5, .int a5)] [] := by
  unfold sX4_addNumber_b51 at h
  refine G_aload_n X 0 dX4_addNumber_51 rfl rfl ?_
  refine G_iload X 3 dX4_addNumber_52 rfl ?_
  refine G_iload_n X 1 dX4_addNumber_54 rfl rfl ?_
  refine G_isub X dX4_addNumber_55 ?_
  refine G_iconst X (v := (3 : Int32)) dX4_addNumber_56 (by decide) ?_
  refine G_icmp_le X (tgt := 64) dX4_addNumber_57 (by decide) (fun c10 => ?_) (fun c10 => ?_)
  · have h := it_t c10 h
    refine G_iconst X (v := (2 : Int32)) dX4_addNumber_64 (by decide) ?_
    refine G_sub [1, 2, 3] rfl ?_
    exact gX4_addNumber_b65 X hr hne hy hf h
  · have h := it_f c10 h
    refine G_iconst X (v := (3 : Int32)) dX4_addNumber_60 (by decide) ?_
    refine G_goto X (tgt := 65) dX4_addNumber_61 (by decide) ?_
    refine G_sub [1, 2, 3] rfl ?_
    exact gX4_addNumber_b65 X hr hne hy hf h
set_option maxRecDepth 20000 in
theorem gX4_addNumber_b6 {g : GX} {T : TT} {r : Nat} {y : St}   {res : St × Int32}  (X : CX g RX4 cX4_addNumber 6 1 24) (hr : kd r = kd 3) (hne : 8 ≠ r) (hy : rg T 8 = y) (hf : FinI g cX4_addNumber .int (rs T r res.1) (res.2))  : ∀ (n : Nat) (t : St) (a2 : Int32) (a3 : Int32) (a4 : Int32) (a5 : Int32) (h : sX4_addNumber_b6 n  y t a2 a3 a4 a5 = some res), G g 0 0 (rs T r t) 6 [(0, .ref (xE (gκ g) r 0 0)), (1, .ref (xE (gκ g) 8 0 1)), (2, .int a2), (3, .int a3), (4, .int a4), (5, .int a5)] [] := by
  intro n
  induction n with
  | zero => intro t a2 a3 a4 a5 h; unfold sX4_addNumber_b6 at h; cases h
  | succ n ih =>
    intro t a2 a3 a4 a5 h
    unfold sX4_addNumber_b6 at h
    refine G_iload X 5 dX4_addNumber_6 rfl ?_
    refine G_iload_n X 3 dX4_addNumber_8 rfl rfl ?_
    refine G_icmp_ge X (tgt := 51) dX4_addNumber_9 (by decide) (fun c1 => ?_) (fun c1 => ?_)
    · have h := it_t c1 h
      refine G_sub [0, 2, 4, 5] rfl ?_
      exact gX4_addNumber_b51 X hr hne hy hf h
    · have h := it_f c1 h
      refine G_aload_n X 1 dX4_addNumber_12 rfl rfl ?_
      refine G_iload X 5 dX4_addNumber_13 rfl ?_
      obtain ⟨g2, h⟩ := gd_some h
      refine G_bald X rfl ((rg_rs_ne _ _ hne).trans hy) g2 dX4_addNumber_15 ?_
      obtain ⟨q3, hq3, h⟩ := bd_some h
      refine G_callS X (As := [.int (gI y 0 1 (ix a5))]) (rest := []) (T' := rs T r t) (st2 := [.int q3]) (ct_X4_isDigit (l := g.2.1) (κ := gκ g)   hq3) cal_X4_isDigit wM_X4_49 wT_X4_isDigit (by decide) rfl rfl (Nat.le_of_ble_eq_true rfl) ⟨Nat.zero_le _, Nat.zero_le _⟩ dX4_addNumber_16 rfl ?_
      refine G_if_eq X (tgt := 51) dX4_addNumber_19 (by decide) (fun c4 => ?_) (fun c4 => ?_)
      · have h := it_t c4 h
        refine G_sub [0, 2, 4, 5] rfl ?_
        exact gX4_addNumber_b51 X hr hne hy hf h
      · have h := it_f c4 h
        refine G_iload X 5 dX4_addNumber_22 rfl ?_
        refine G_iload_n X 2 dX4_addNumber_24 rfl rfl ?_
        refine G_isub X dX4_addNumber_25 ?_
        refine G_iconst X (v := (3 : Int32)) dX4_addNumber_26 (by decide) ?_
        refine G_icmp_ge X (tgt := 45) dX4_addNumber_27 (by decide) (fun c5 => ?_) (fun c5 => ?_)
        · have h := it_t c5 h
          obtain ⟨v6, ev6, h⟩ := nm_some h
          refine G_iinc X (v := v6) (lv' := [(5, .int v6), (0, .ref (xE (gκ g) r 0 0)), (1, .ref (xE (gκ g) 8 0 1)), (2, .int a2), (3, .int a3), (4, .int a4)]) 5 dX4_addNumber_45 rfl (by rw [ev6]; rfl) (by decide) rfl ?_
          refine G_goto X (tgt := 6) dX4_addNumber_48 (by decide) ?_
          refine G_sub [1, 2, 3, 4, 5, 0] rfl ?_
          exact ih _ _ _ _ _ h
        · have h := it_f c5 h
          refine G_iload X 4 dX4_addNumber_30 rfl ?_
          refine G_bipush X (v := (10 : Int32)) dX4_addNumber_32 (by decide) ?_
          refine G_imul X dX4_addNumber_34 ?_
          refine G_aload_n X 1 dX4_addNumber_35 rfl rfl ?_
          refine G_iload X 5 dX4_addNumber_36 rfl ?_
          obtain ⟨g7, h⟩ := gd_some h
          refine G_bald X rfl ((rg_rs_ne _ _ hne).trans hy) g7 dX4_addNumber_38 ?_
          refine G_iadd X dX4_addNumber_39 ?_
          refine G_bipush X (v := (48 : Int32)) dX4_addNumber_40 (by decide) ?_
          refine G_isub X dX4_addNumber_42 ?_
          obtain ⟨v8, ev8, h⟩ := nm_some h
          refine G_nmi ev8 ?_
          refine G_istore X (lv' := [(4, .int v8), (0, .ref (xE (gκ g) r 0 0)), (1, .ref (xE (gκ g) 8 0 1)), (2, .int a2), (3, .int a3), (5, .int a5)]) dX4_addNumber_43 (by decide) rfl ?_
          obtain ⟨v9, ev9, h⟩ := nm_some h
          refine G_iinc X (v := v9) (lv' := [(5, .int v9), (4, .int v8), (0, .ref (xE (gκ g) r 0 0)), (1, .ref (xE (gκ g) 8 0 1)), (2, .int a2), (3, .int a3)]) 5 dX4_addNumber_45 rfl (by rw [ev9]; rfl) (by decide) rfl ?_
          refine G_goto X (tgt := 6) dX4_addNumber_48 (by decide) ?_
          refine G_sub [2, 3, 4, 5, 1, 0] rfl ?_
          exact ih _ _ _ _ _ h
set_option maxRecDepth 20000 in
theorem gX4_addNumber {g : GX} {T : TT} {r : Nat} {y : St}  {t : St} {a2 : Int32} {a3 : Int32} {res : St × Int32} (X : CX g RX4 cX4_addNumber 6 1 24) (hr : kd r = kd 3) (hne : 8 ≠ r) (hy : rg T 8 = y) (hf : FinI g cX4_addNumber .int (rs T r res.1) (res.2)) (h : sX4_addNumber y t a2 a3 = some res) : G g 0 0 (rs T r t) 0 [(0, .ref (xE (gκ g) r 0 0)), (1, .ref (xE (gκ g) 8 0 1)), (2, .int a2), (3, .int a3)] [] := by
  unfold sX4_addNumber at h
  refine G_iconst X (v := (0 : Int32)) dX4_addNumber_0 (by decide) ?_
  refine G_istore X (lv' := [(4, .int ((0 : Int32))), (0, .ref (xE (gκ g) r 0 0)), (1, .ref (xE (gκ g) 8 0 1)), (2, .int a2), (3, .int a3)]) dX4_addNumber_1 (by decide) rfl ?_
  refine G_iload_n X 3 dX4_addNumber_3 rfl rfl ?_
  refine G_istore X (lv' := [(5, .int a2), (4, .int ((0 : Int32))), (0, .ref (xE (gκ g) r 0 0)), (1, .ref (xE (gκ g) 8 0 1)), (2, .int a2), (3, .int a3)]) dX4_addNumber_4 (by decide) rfl ?_
  refine G_sub [2, 3, 4, 5, 1, 0] rfl ?_
  exact gX4_addNumber_b6 X hr hne hy hf FU _ _ _ _ _ h
set_option maxRecDepth 20000 in
theorem ct_X4_addNumber {l : Launch} {κ : KX} {T : TT} {r : Nat} {y : St}  {t : St} {a2 : Int32} {a3 : Int32} {res : St × Int32} (hr : kd r = kd 3) (hne : 8 ≠ r) (hy : rg T 8 = y) (h : sX4_addNumber y t a2 a3 = some res) : Ct l κ yX4_addNumber cX4_addNumber 6 (some .int) 1 24 [.ref (xE κ r 0 0), .ref (xE κ 8 0 1), .int a2, .int a3] (rs T r t) (rs T r res.1) (some (.int (res.2))) := by
  refine Ct_i RX4 rfl (by decide +kernel) (Nat.le_of_ble_eq_true rfl) (fun g hl hκ X hf => ?_)
  subst hl; subst hκ
  exact gX4_addNumber X hr hne hy hf h
set_option maxRecDepth 20000 in
theorem gX4_addSign_b18 {g : GX} {T : TT} {r : Nat}  {t : St} {a1 : Int32} {a2 : Int32} {res : St}  (X : CX g RX4 cX4_addSign 3 1 24) (hr : kd r = kd 3) (hf : FinV g cX4_addSign (rs T r res))   (h : sX4_addSign_b18  t a1 a2 = some res) : G g 0 0 (rs T r t) 18 [(0, .ref (xE (gκ g) r 0 0)), (1, .int a1), (2, .int a2)] [] := by
  unfold sX4_addSign_b18 at h
  refine G_aload_n X 0 dX4_addSign_18 rfl rfl ?_
  refine G_iload_n X 1 dX4_addSign_19 rfl rfl ?_
  refine G_iload_n X 2 dX4_addSign_20 rfl rfl ?_
  refine G_lconst X (v := (0 : Int64)) dX4_addSign_21 (by decide) ?_
  obtain ⟨q7, hq7, h⟩ := bd_some h
  refine G_callV X (As := [.int a1, .int a2, .long ((0 : Int64))]) (rest := []) (T' := rs T r q7) (st2 := []) (ct_X4_add (l := g.2.1) (κ := gκ g) (T := T) (r := r) (x := t) hr hq7) cal_X4_add wM_X4_59 wI_X4_add wS_X4_add (congrFun (congrFun hr 0) 0) rfl (by decide) rfl rfl (Nat.le_of_ble_eq_true rfl) ⟨Nat.zero_le _, Nat.zero_le _⟩ dX4_addSign_22 rfl ?_
  refine G_goto X (tgt := 47) dX4_addSign_25 (by decide) ?_
  obtain rfl := Option.some.inj h
  exact hf _ _ dX4_addSign_47
set_option maxRecDepth 20000 in
theorem gX4_addSign {g : GX} {T : TT} {r : Nat}  {t : St} {a1 : Int32} {a2 : Int32} {res : St} (X : CX g RX4 cX4_addSign 3 1 24) (hr : kd r = kd 3) (hf : FinV g cX4_addSign (rs T r res)) (h : sX4_addSign t a1 a2 = some res) : G g 0 0 (rs T r t) 0 [(0, .ref (xE (gκ g) r 0 0)), (1, .int a1), (2, .int a2)] [] := by
  unfold sX4_addSign at h
  refine G_iload_n X 1 dX4_addSign_0 rfl rfl ?_
  refine G_bipush X (v := (59 : Int32)) dX4_addSign_1 (by decide) ?_
  refine G_icmp_eq X (tgt := 18) dX4_addSign_3 (by decide) (fun c1 => ?_) (fun c1 => ?_)
  · have h := it_t c1 h
    exact gX4_addSign_b18 X hr hf h
  · have h := it_f c1 h
    refine G_iload_n X 1 dX4_addSign_6 rfl rfl ?_
    refine G_bipush X (v := (40 : Int32)) dX4_addSign_7 (by decide) ?_
    refine G_icmp_eq X (tgt := 18) dX4_addSign_9 (by decide) (fun c2 => ?_) (fun c2 => ?_)
    · have h := it_t c2 h
      exact gX4_addSign_b18 X hr hf h
    · have h := it_f c2 h
      refine G_iload_n X 1 dX4_addSign_12 rfl rfl ?_
      refine G_bipush X (v := (41 : Int32)) dX4_addSign_13 (by decide) ?_
      refine G_icmp_ne X (tgt := 28) dX4_addSign_15 (by decide) (fun c3 => ?_) (fun c3 => ?_)
      · have h := it_t c3 h
        refine G_iload_n X 1 dX4_addSign_28 rfl rfl ?_
        refine G_bipush X (v := (32 : Int32)) dX4_addSign_29 (by decide) ?_
        refine G_icmp_eq X (tgt := 47) dX4_addSign_31 (by decide) (fun c4 => ?_) (fun c4 => ?_)
        · have h := it_t c4 h
          obtain rfl := Option.some.inj h
          exact hf _ _ dX4_addSign_47
        · have h := it_f c4 h
          refine G_iload_n X 1 dX4_addSign_34 rfl rfl ?_
          refine G_bipush X (v := (10 : Int32)) dX4_addSign_35 (by decide) ?_
          refine G_icmp_eq X (tgt := 47) dX4_addSign_37 (by decide) (fun c5 => ?_) (fun c5 => ?_)
          · have h := it_t c5 h
            obtain rfl := Option.some.inj h
            exact hf _ _ dX4_addSign_47
          · have h := it_f c5 h
            refine G_aload_n X 0 dX4_addSign_40 rfl rfl ?_
            refine G_iconst X (v := (3 : Int32)) dX4_addSign_41 (by decide) ?_
            refine G_iload_n X 2 dX4_addSign_42 rfl rfl ?_
            refine G_lconst X (v := (0 : Int64)) dX4_addSign_43 (by decide) ?_
            obtain ⟨q6, hq6, h⟩ := bd_some h
            refine G_callV X (As := [.int ((3 : Int32)), .int a2, .long ((0 : Int64))]) (rest := []) (T' := rs T r q6) (st2 := []) (ct_X4_add (l := g.2.1) (κ := gκ g) (T := T) (r := r) (x := t) hr hq6) cal_X4_add wM_X4_59 wI_X4_add wS_X4_add (congrFun (congrFun hr 0) 0) rfl (by decide) rfl rfl (Nat.le_of_ble_eq_true rfl) ⟨Nat.zero_le _, Nat.zero_le _⟩ dX4_addSign_44 rfl ?_
            obtain rfl := Option.some.inj h
            exact hf _ _ dX4_addSign_47
      · have h := it_f (fun k => k c3) h
        exact gX4_addSign_b18 X hr hf h
set_option maxRecDepth 20000 in
theorem ct_X4_addSign {l : Launch} {κ : KX} {T : TT} {r : Nat}  {t : St} {a1 : Int32} {a2 : Int32} {res : St} (hr : kd r = kd 3) (h : sX4_addSign t a1 a2 = some res) : Ct l κ yX4_addSign cX4_addSign 3 none 1 24 [.ref (xE κ r 0 0), .int a1, .int a2] (rs T r t) (rs T r res) none := by
  refine Ct_v RX4 rfl (by decide +kernel) (Nat.le_of_ble_eq_true rfl) (fun g hl hκ X hf => ?_)
  subst hl; subst hκ
  exact gX4_addSign X hr hf h
set_option maxRecDepth 20000 in
theorem gX4_advance {g : GX} {T : TT} {r : Nat}  {t : St}  {res : St} (X : CX g RX4 cX4_advance 1 0 0) (hr : kd r = kd 3) (hf : FinV g cX4_advance (rs T r res)) (h : sX4_advance t = some res) : G g 0 0 (rs T r t) 0 [(0, .ref (xE (gκ g) r 0 0))] [] := by
  unfold sX4_advance at h
  refine G_aload_n X 0 dX4_advance_0 rfl rfl ?_
  refine f_X4_35 X (congrFun (congrFun hr 0) 0) (rg_rs _ _ _) dX4_advance_1 ?_
  refine G_aload_n X 0 dX4_advance_4 rfl rfl ?_
  refine f_X4_32 X (congrFun (congrFun hr 0) 0) (rg_rs _ _ _) dX4_advance_5 ?_
  refine G_icmp_ge X (tgt := 60) dX4_advance_8 (by decide) (fun c1 => ?_) (fun c1 => ?_)
  · have h := it_t c1 h
    obtain rfl := Option.some.inj h
    exact hf _ _ dX4_advance_60
  · have h := it_f c1 h
    refine G_aload_n X 0 dX4_advance_11 rfl rfl ?_
    refine G_aload_n X 0 dX4_advance_12 rfl rfl ?_
    refine f_X4_9 X (congrFun (congrFun hr 0) 0) rfl dX4_advance_13 ?_
    refine G_aload_n X 0 dX4_advance_16 rfl rfl ?_
    refine f_X4_35 X (congrFun (congrFun hr 0) 0) (rg_rs _ _ _) dX4_advance_17 ?_
    obtain ⟨g2, h⟩ := gd_some h
    refine G_iald X (congrFun (congrFun hr 0) 1) (rg_rs _ _ _) g2 dX4_advance_20 ?_
    obtain ⟨x3, ex3, h⟩ := nm_some h
    refine p_X4_66 X (T' := rs T r x3) (congrFun (congrFun hr 0) 0) (rg_rs _ _ _)  (by rw [rs_rs, ex3]) dX4_advance_21 ?_
    refine G_aload_n X 0 dX4_advance_24 rfl rfl ?_
    refine G_aload_n X 0 dX4_advance_25 rfl rfl ?_
    refine f_X4_15 X (congrFun (congrFun hr 0) 0) rfl dX4_advance_26 ?_
    refine G_aload_n X 0 dX4_advance_29 rfl rfl ?_
    refine f_X4_35 X (congrFun (congrFun hr 0) 0) (rg_rs _ _ _) dX4_advance_30 ?_
    obtain ⟨g4, h⟩ := gd_some h
    refine G_iald X (congrFun (congrFun hr 0) 2) (rg_rs _ _ _) g4 dX4_advance_33 ?_
    obtain ⟨x5, ex5, h⟩ := nm_some h
    refine p_X4_69 X (T' := rs T r x5) (congrFun (congrFun hr 0) 0) (rg_rs _ _ _)  (by rw [rs_rs, ex5]) dX4_advance_34 ?_
    refine G_aload_n X 0 dX4_advance_37 rfl rfl ?_
    refine G_aload_n X 0 dX4_advance_38 rfl rfl ?_
    refine f_X4_18 X (congrFun (congrFun hr 0) 0) rfl dX4_advance_39 ?_
    refine G_aload_n X 0 dX4_advance_42 rfl rfl ?_
    refine f_X4_35 X (congrFun (congrFun hr 0) 0) (rg_rs _ _ _) dX4_advance_43 ?_
    obtain ⟨g6, h⟩ := gd_some h
    refine G_lald X (congrFun (congrFun hr 0) 3) (rg_rs _ _ _) g6 dX4_advance_46 ?_
    obtain ⟨x7, ex7, h⟩ := nm_some h
    refine p_X4_72 X (T' := rs T r x7) (congrFun (congrFun hr 0) 0) (rg_rs _ _ _)  (by rw [rs_rs, ex7]) dX4_advance_47 ?_
    refine G_aload_n X 0 dX4_advance_50 rfl rfl ?_
    refine G_dup X dX4_advance_51 rfl ?_
    refine f_X4_35 X (congrFun (congrFun hr 0) 0) (rg_rs _ _ _) dX4_advance_52 ?_
    refine G_iconst X (v := (1 : Int32)) dX4_advance_55 (by decide) ?_
    refine G_iadd X dX4_advance_56 ?_
    obtain ⟨x8, ex8, h⟩ := nm_some h
    refine p_X4_35 X (T' := rs T r x8) (congrFun (congrFun hr 0) 0) (rg_rs _ _ _)  (by rw [rs_rs, ex8]) dX4_advance_57 ?_
    obtain rfl := Option.some.inj h
    exact hf _ _ dX4_advance_60
set_option maxRecDepth 20000 in
theorem ct_X4_advance {l : Launch} {κ : KX} {T : TT} {r : Nat}  {t : St}  {res : St} (hr : kd r = kd 3) (h : sX4_advance t = some res) : Ct l κ yX4_advance cX4_advance 1 none 0 0 [.ref (xE κ r 0 0)] (rs T r t) (rs T r res) none := by
  refine Ct_v RX4 rfl (by decide +kernel) (Nat.le_of_ble_eq_true rfl) (fun g hl hκ X hf => ?_)
  subst hl; subst hκ
  exact gX4_advance X hr hf h
set_option maxRecDepth 20000 in
theorem gX4_begin_b112 {g : GX} {T : TT} {r : Nat} {y : St}  {t : St} {a3 : Int32} {res : St}  (X : CX g RX4 cX4_begin 6 2 50) (hr : kd r = kd 3) (hne : 8 ≠ r) (hy : rg T 8 = y) (hf : FinV g cX4_begin (rs T r res))   (h : sX4_begin_b112  y t a3 = some res) : G g 0 0 (rs T r t) 112 [(0, .ref (xE (gκ g) r 0 0)), (3, .int a3)] [] := by
  unfold sX4_begin_b112 at h
  refine G_aload_n X 0 dX4_begin_112 rfl rfl ?_
  refine G_iconst X (v := (0 : Int32)) dX4_begin_113 (by decide) ?_
  refine G_iload_n X 1 dX4_begin_114 rfl rfl ?_
  refine G_lconst X (v := (0 : Int64)) dX4_begin_115 (by decide) ?_
  obtain ⟨q22, hq22, h⟩ := bd_some h
  refine G_callV X (As := [.int ((0 : Int32)), .int a3, .long ((0 : Int64))]) (rest := []) (T' := rs T r q22) (st2 := []) (ct_X4_add (l := g.2.1) (κ := gκ g) (T := T) (r := r) (x := t) hr hq22) cal_X4_add wM_X4_59 wI_X4_add wS_X4_add (congrFun (congrFun hr 0) 0) rfl (by decide) rfl rfl (Nat.le_of_ble_eq_true rfl) ⟨Nat.zero_le _, Nat.zero_le _⟩ dX4_begin_116 rfl ?_
  refine G_aload_n X 0 dX4_begin_119 rfl rfl ?_
  obtain ⟨q23, hq23, h⟩ := bd_some h
  refine G_callV X (As := []) (rest := []) (T' := rs T r q23) (st2 := []) (ct_X4_advance (l := g.2.1) (κ := gκ g) (T := T) (r := r) (x := q22) hr hq23) cal_X4_advance wM_X4_63 wI_X4_advance wS_X4_advance (congrFun (congrFun hr 0) 0) rfl (by decide) rfl rfl (Nat.le_of_ble_eq_true rfl) ⟨Nat.zero_le _, Nat.zero_le _⟩ dX4_begin_120 rfl ?_
  obtain rfl := Option.some.inj h
  exact hf _ _ dX4_begin_123
set_option maxRecDepth 20000 in
theorem gX4_begin_b33 {g : GX} {T : TT} {r : Nat} {y : St}   {res : St}  (X : CX g RX4 cX4_begin 6 2 50) (hr : kd r = kd 3) (hne : 8 ≠ r) (hy : rg T 8 = y) (hf : FinV g cX4_begin (rs T r res))  : ∀ (n : Nat) (t : St) (a3 : Int32) (a4 : Int32) (a5 : Int32) (h : sX4_begin_b33 n  y t a3 a4 a5 = some res), G g 0 0 (rs T r t) 33 [(0, .ref (xE (gκ g) r 0 0)), (1, .ref (xE (gκ g) 8 0 1)), (3, .int a3), (4, .int a4), (5, .int a5)] [] := by
  intro n
  induction n with
  | zero => intro t a3 a4 a5 h; unfold sX4_begin_b33 at h; cases h
  | succ n ih =>
    intro t a3 a4 a5 h
    unfold sX4_begin_b33 at h
    refine G_iload X 4 dX4_begin_33 rfl ?_
    refine G_sipush X (v := (700 : Int32)) dX4_begin_35 (by decide) ?_
    refine G_icmp_ge X (tgt := 112) dX4_begin_38 (by decide) (fun c6 => ?_) (fun c6 => ?_)
    · have h := it_t c6 h
      refine G_sub [0, 2] rfl ?_
      exact gX4_begin_b112 X hr hne hy hf h
    · have h := it_f c6 h
      refine G_iload X 3 dX4_begin_41 rfl ?_
      refine G_iload_n X 2 dX4_begin_43 rfl rfl ?_
      refine G_icmp_ge X (tgt := 112) dX4_begin_44 (by decide) (fun c7 => ?_) (fun c7 => ?_)
      · have h := it_t c7 h
        refine G_sub [0, 2] rfl ?_
        exact gX4_begin_b112 X hr hne hy hf h
      · have h := it_f c7 h
        refine G_aload_n X 1 dX4_begin_47 rfl rfl ?_
        refine G_iload X 3 dX4_begin_48 rfl ?_
        obtain ⟨g8, h⟩ := gd_some h
        refine G_bald X rfl ((rg_rs_ne _ _ hne).trans hy) g8 dX4_begin_50 ?_
        obtain ⟨q9, hq9, h⟩ := bd_some h
        refine G_callS X (As := [.int (gI y 0 1 (ix a4))]) (rest := []) (T' := rs T r t) (st2 := [.int q9]) (ct_X4_isLetter (l := g.2.1) (κ := gκ g)   hq9) cal_X4_isLetter wM_X4_41 wT_X4_isLetter (by decide) rfl rfl (Nat.le_of_ble_eq_true rfl) ⟨Nat.zero_le _, Nat.zero_le _⟩ dX4_begin_51 rfl ?_
        refine G_if_eq X (tgt := 70) dX4_begin_54 (by decide) (fun c10 => ?_) (fun c10 => ?_)
        · have h := it_t c10 h
          refine G_aload_n X 1 dX4_begin_70 rfl rfl ?_
          refine G_iload X 3 dX4_begin_71 rfl ?_
          obtain ⟨g11, h⟩ := gd_some h
          refine G_bald X rfl ((rg_rs_ne _ _ hne).trans hy) g11 dX4_begin_73 ?_
          obtain ⟨q12, hq12, h⟩ := bd_some h
          refine G_callS X (As := [.int (gI y 0 1 (ix a4))]) (rest := []) (T' := rs T r t) (st2 := [.int q12]) (ct_X4_isDigit (l := g.2.1) (κ := gκ g)   hq12) cal_X4_isDigit wM_X4_49 wT_X4_isDigit (by decide) rfl rfl (Nat.le_of_ble_eq_true rfl) ⟨Nat.zero_le _, Nat.zero_le _⟩ dX4_begin_74 rfl ?_
          refine G_if_eq X (tgt := 93) dX4_begin_77 (by decide) (fun c13 => ?_) (fun c13 => ?_)
          · have h := it_t c13 h
            refine G_aload_n X 0 dX4_begin_93 rfl rfl ?_
            refine G_aload_n X 1 dX4_begin_94 rfl rfl ?_
            refine G_iload X 3 dX4_begin_95 rfl ?_
            obtain ⟨g14, h⟩ := gd_some h
            refine G_bald X rfl ((rg_rs_ne _ _ hne).trans hy) g14 dX4_begin_97 ?_
            refine G_iload X 3 dX4_begin_98 rfl ?_
            obtain ⟨q15, hq15, h⟩ := bd_some h
            refine G_callV X (As := [.int (gI y 0 1 (ix a4)), .int a4]) (rest := []) (T' := rs T r q15) (st2 := []) (ct_X4_addSign (l := g.2.1) (κ := gκ g) (T := T) (r := r) (x := t) hr hq15) cal_X4_addSign wM_X4_55 wI_X4_addSign wS_X4_addSign (congrFun (congrFun hr 0) 0) rfl (by decide) rfl rfl (Nat.le_of_ble_eq_true rfl) ⟨Nat.zero_le _, Nat.zero_le _⟩ dX4_begin_100 rfl ?_
            obtain ⟨v16, ev16, h⟩ := nm_some h
            refine G_iinc X (v := v16) (lv' := [(4, .int v16), (0, .ref (xE (gκ g) r 0 0)), (1, .ref (xE (gκ g) 8 0 1)), (3, .int a3), (5, .int a5)]) 3 dX4_begin_103 rfl (by rw [ev16]; rfl) (by decide) rfl ?_
            obtain ⟨v17, ev17, h⟩ := nm_some h
            refine G_iinc X (v := v17) (lv' := [(5, .int v17), (4, .int v16), (0, .ref (xE (gκ g) r 0 0)), (1, .ref (xE (gκ g) 8 0 1)), (3, .int a3)]) 4 dX4_begin_106 rfl (by rw [ev17]; rfl) (by decide) rfl ?_
            refine G_goto X (tgt := 33) dX4_begin_109 (by decide) ?_
            refine G_sub [2, 3, 4, 1, 0] rfl ?_
            exact ih _ _ _ _ h
          · have h := it_f c13 h
            refine G_aload_n X 0 dX4_begin_80 rfl rfl ?_
            refine G_aload_n X 1 dX4_begin_81 rfl rfl ?_
            refine G_iload X 3 dX4_begin_82 rfl ?_
            refine G_iload_n X 2 dX4_begin_84 rfl rfl ?_
            obtain ⟨q18, hq18, h⟩ := bd_some h
            refine G_callV X (As := [.ref (xE (gκ g) 8 0 1), .int a4, .int a3]) (rest := []) (T' := rs T r q18.1) (st2 := [.int q18.2]) (ct_X4_addNumber (l := g.2.1) (κ := gκ g) (T := T) (r := r) (x := t) hr hne hy hq18) cal_X4_addNumber wM_X4_52 wI_X4_addNumber wS_X4_addNumber (congrFun (congrFun hr 0) 0) rfl (by decide) rfl rfl (Nat.le_of_ble_eq_true rfl) ⟨Nat.zero_le _, Nat.zero_le _⟩ dX4_begin_85 rfl ?_
            refine G_istore X (lv' := [(4, .int q18.2), (0, .ref (xE (gκ g) r 0 0)), (1, .ref (xE (gκ g) 8 0 1)), (3, .int a3), (5, .int a5)]) dX4_begin_88 (by decide) rfl ?_
            refine G_goto X (tgt := 106) dX4_begin_90 (by decide) ?_
            obtain ⟨v19, ev19, h⟩ := nm_some h
            refine G_iinc X (v := v19) (lv' := [(5, .int v19), (4, .int q18.2), (0, .ref (xE (gκ g) r 0 0)), (1, .ref (xE (gκ g) 8 0 1)), (3, .int a3)]) 4 dX4_begin_106 rfl (by rw [ev19]; rfl) (by decide) rfl ?_
            refine G_goto X (tgt := 33) dX4_begin_109 (by decide) ?_
            refine G_sub [2, 3, 4, 1, 0] rfl ?_
            exact ih _ _ _ _ h
        · have h := it_f c10 h
          refine G_aload_n X 0 dX4_begin_57 rfl rfl ?_
          refine G_aload_n X 1 dX4_begin_58 rfl rfl ?_
          refine G_iload X 3 dX4_begin_59 rfl ?_
          refine G_iload_n X 2 dX4_begin_61 rfl rfl ?_
          obtain ⟨q20, hq20, h⟩ := bd_some h
          refine G_callV X (As := [.ref (xE (gκ g) 8 0 1), .int a4, .int a3]) (rest := []) (T' := rs T r q20.1) (st2 := [.int q20.2]) (ct_X4_addWord (l := g.2.1) (κ := gκ g) (T := T) (r := r) (x := t) hr hne hy hq20) cal_X4_addWord wM_X4_45 wI_X4_addWord wS_X4_addWord (congrFun (congrFun hr 0) 0) rfl (by decide) rfl rfl (Nat.le_of_ble_eq_true rfl) ⟨Nat.zero_le _, Nat.zero_le _⟩ dX4_begin_62 rfl ?_
          refine G_istore X (lv' := [(4, .int q20.2), (0, .ref (xE (gκ g) r 0 0)), (1, .ref (xE (gκ g) 8 0 1)), (3, .int a3), (5, .int a5)]) dX4_begin_65 (by decide) rfl ?_
          refine G_goto X (tgt := 106) dX4_begin_67 (by decide) ?_
          obtain ⟨v21, ev21, h⟩ := nm_some h
          refine G_iinc X (v := v21) (lv' := [(5, .int v21), (4, .int q20.2), (0, .ref (xE (gκ g) r 0 0)), (1, .ref (xE (gκ g) 8 0 1)), (3, .int a3)]) 4 dX4_begin_106 rfl (by rw [ev21]; rfl) (by decide) rfl ?_
          refine G_goto X (tgt := 33) dX4_begin_109 (by decide) ?_
          refine G_sub [2, 3, 4, 1, 0] rfl ?_
          exact ih _ _ _ _ h
set_option maxRecDepth 20000 in
theorem gX4_begin {g : GX} {T : TT} {r : Nat} {y : St}  {t : St} {a2 : Int32} {res : St} (X : CX g RX4 cX4_begin 6 2 50) (hr : kd r = kd 3) (hne : 8 ≠ r) (hy : rg T 8 = y) (hf : FinV g cX4_begin (rs T r res)) (h : sX4_begin y t a2 = some res) : G g 0 0 (rs T r t) 0 [(0, .ref (xE (gκ g) r 0 0)), (1, .ref (xE (gκ g) 8 0 1)), (2, .int a2)] [] := by
  unfold sX4_begin at h
  refine G_iload_n X 2 dX4_begin_0 rfl rfl ?_
  refine G_aload_n X 1 dX4_begin_1 rfl rfl ?_
  refine G_alen X (t := 1) (v := (700 : Int32)) rfl (by decide) (by decide) dX4_begin_2 ?_
  refine G_mmin X wM_X4_26 (by decide) (Nat.le_of_ble_eq_true rfl) ⟨Nat.zero_le _, Nat.zero_le _⟩ dX4_begin_3 ?_
  obtain ⟨v1, ev1, h⟩ := nm_some h
  refine G_nmi ev1 ?_
  refine G_istore_n X (lv' := [(3, .int v1), (0, .ref (xE (gκ g) r 0 0)), (1, .ref (xE (gκ g) 8 0 1)), (2, .int a2)]) dX4_begin_6 rfl (by decide) rfl ?_
  refine G_aload_n X 1 dX4_begin_7 rfl rfl ?_
  refine G_iconst X (v := (0 : Int32)) dX4_begin_8 (by decide) ?_
  obtain ⟨x2, ex2, h⟩ := nm_some h
  refine p_X4_32 X (T' := rs T r x2) (congrFun (congrFun hr 0) 0) (rg_rs _ _ _)  (by rw [rs_rs, ex2]) dX4_begin_9 ?_
  refine G_aload_n X 1 dX4_begin_12 rfl rfl ?_
  refine G_iconst X (v := (0 : Int32)) dX4_begin_13 (by decide) ?_
  obtain ⟨x3, ex3, h⟩ := nm_some h
  refine p_X4_35 X (T' := rs T r x3) (congrFun (congrFun hr 0) 0) (rg_rs _ _ _)  (by rw [rs_rs, ex3]) dX4_begin_14 ?_
  refine G_aload_n X 1 dX4_begin_17 rfl rfl ?_
  refine G_iconst X (v := (0 : Int32)) dX4_begin_18 (by decide) ?_
  obtain ⟨x4, ex4, h⟩ := nm_some h
  refine p_X4_38 X (T' := rs T r x4) (congrFun (congrFun hr 0) 0) (rg_rs _ _ _)  (by rw [rs_rs, ex4]) dX4_begin_19 ?_
  refine G_aload_n X 1 dX4_begin_22 rfl rfl ?_
  refine G_iconst X (v := (-1 : Int32)) dX4_begin_23 (by decide) ?_
  obtain ⟨x5, ex5, h⟩ := nm_some h
  refine p_X4_22 X (T' := rs T r x5) (congrFun (congrFun hr 0) 0) (rg_rs _ _ _)  (by rw [rs_rs, ex5]) dX4_begin_24 ?_
  refine G_iconst X (v := (0 : Int32)) dX4_begin_27 (by decide) ?_
  refine G_istore X (lv' := [(4, .int ((0 : Int32))), (3, .int v1), (0, .ref (xE (gκ g) r 0 0)), (1, .ref (xE (gκ g) 8 0 1)), (2, .int a2)]) dX4_begin_28 (by decide) rfl ?_
  refine G_iconst X (v := (0 : Int32)) dX4_begin_30 (by decide) ?_
  refine G_istore X (lv' := [(5, .int ((0 : Int32))), (4, .int ((0 : Int32))), (3, .int v1), (0, .ref (xE (gκ g) r 0 0)), (1, .ref (xE (gκ g) 8 0 1)), (2, .int a2)]) dX4_begin_31 (by decide) rfl ?_
  refine G_sub [3, 4, 2, 1, 0] rfl ?_
  exact gX4_begin_b33 X hr hne hy hf FU _ _ _ _ h
set_option maxRecDepth 20000 in
theorem ct_X4_begin {l : Launch} {κ : KX} {T : TT} {r : Nat} {y : St}  {t : St} {a2 : Int32} {res : St} (hr : kd r = kd 3) (hne : 8 ≠ r) (hy : rg T 8 = y) (h : sX4_begin y t a2 = some res) : Ct l κ yX4_begin cX4_begin 6 none 2 50 [.ref (xE κ r 0 0), .ref (xE κ 8 0 1), .int a2] (rs T r t) (rs T r res) none := by
  refine Ct_v RX4 rfl (by decide +kernel) (Nat.le_of_ble_eq_true rfl) (fun g hl hκ X hf => ?_)
  subst hl; subst hκ
  exact gX4_begin X hr hne hy hf h
set_option maxRecDepth 20000 in
theorem gX6_letterOf {g : GX} {T : TT}   {a0 : Int64} {a2 : Int32} {res : Int32} (X : CX g RX6 cX6_letterOf 3 0 0)  (hf : FinI g cX6_letterOf .int (T) (res)) (h : sX6_letterOf a0 a2 = some res) : G g 0 0 (T) 0 [(0, .long a0), (2, .int a2)] [] := by
  unfold sX6_letterOf at h
  refine G_iload_n X 1 dX6_letterOf_0 rfl rfl ?_
  refine G_if_lt X (tgt := 10) dX6_letterOf_1 (by decide) (fun c1 => ?_) (fun c1 => ?_)
  · have h := it_t c1 h
    refine G_iconst X (v := (0 : Int32)) dX6_letterOf_10 (by decide) ?_
    refine G_goto X (tgt := 25) dX6_letterOf_11 (by decide) ?_
    obtain rfl := Option.some.inj h
    exact hf _ _ dX6_letterOf_25 rfl
  · have h := it_f c1 h
    refine G_iload_n X 1 dX6_letterOf_4 rfl rfl ?_
    refine G_bipush X (v := (8 : Int32)) dX6_letterOf_5 (by decide) ?_
    refine G_icmp_lt X (tgt := 14) dX6_letterOf_7 (by decide) (fun c2 => ?_) (fun c2 => ?_)
    · have h := it_t c2 h
      refine G_lload_n X 0 dX6_letterOf_14 rfl rfl ?_
      refine G_bipush X (v := (8 : Int32)) dX6_letterOf_15 (by decide) ?_
      refine G_iload_n X 1 dX6_letterOf_17 rfl rfl ?_
      refine G_imul X dX6_letterOf_18 ?_
      refine G_lushr X dX6_letterOf_19 ?_
      refine G_l2i X dX6_letterOf_20 ?_
      refine G_sipush X (v := (255 : Int32)) dX6_letterOf_21 (by decide) ?_
      refine G_iand X dX6_letterOf_24 ?_
      obtain rfl := Option.some.inj h
      exact hf _ _ dX6_letterOf_25 rfl
    · have h := it_f c2 h
      refine G_iconst X (v := (0 : Int32)) dX6_letterOf_10 (by decide) ?_
      refine G_goto X (tgt := 25) dX6_letterOf_11 (by decide) ?_
      obtain rfl := Option.some.inj h
      exact hf _ _ dX6_letterOf_25 rfl
set_option maxRecDepth 20000 in
theorem ct_X6_letterOf {l : Launch} {κ : KX} {T : TT}   {a0 : Int64} {a2 : Int32} {res : Int32}  (h : sX6_letterOf a0 a2 = some res) : Ct l κ yX6_letterOf cX6_letterOf 3 (some .int) 0 0 [.long a0, .int a2] (T) (T) (some (.int (res))) := by
  refine Ct_i RX6 rfl (by decide +kernel) (Nat.le_of_ble_eq_true rfl) (fun g hl hκ X hf => ?_)
  subst hl; subst hκ
  exact gX6_letterOf X  hf h
set_option maxRecDepth 20000 in
theorem gX4_isWord_b26 {g : GX} {T : TT} {r : Nat} {w1 : Nat} {t : St} {res : Int32}  (X : CX g RX4 cX4_isWord 3 4 85) (hr : kd r = kd 3) (hw1 : w1 < nJS) (hf : FinI g cX4_isWord .boolean (rs T r t) (res))  : ∀ (n : Nat) (a2 : Int32) (h : sX4_isWord_b26 n  w1 t a2 = some res), G g 0 0 (rs T r t) 26 [(0, .ref (xE (gκ g) r 0 0)), (1, .ref ((gκ g).2.2.2.2.1 w1)), (2, .int a2)] [] := by
  intro n
  induction n with
  | zero => intro a2 h; unfold sX4_isWord_b26 at h; cases h
  | succ n ih =>
    intro a2 h
    unfold sX4_isWord_b26 at h
    refine G_iload_n X 2 dX4_isWord_26 rfl rfl ?_
    refine G_aload_n X 1 dX4_isWord_27 rfl rfl ?_
    refine G_slen X wM_X4_76 hw1 (by decide) (Nat.le_of_ble_eq_true rfl) ⟨Nat.zero_le _, Nat.zero_le _⟩ dX4_isWord_28 ?_
    refine G_icmp_ge X (tgt := 58) dX4_isWord_31 (by decide) (fun c4 => ?_) (fun c4 => ?_)
    · have h := it_t c4 h
      refine G_iconst X (v := (1 : Int32)) dX4_isWord_58 (by decide) ?_
      obtain rfl := Option.some.inj h
      exact hf _ _ dX4_isWord_59 (isb_n (v := (1 : Int32)) rfl)
    · have h := it_f c4 h
      refine G_aload_n X 0 dX4_isWord_34 rfl rfl ?_
      refine f_X4_72 X (congrFun (congrFun hr 0) 0) (rg_rs _ _ _) dX4_isWord_35 ?_
      refine G_iload_n X 2 dX4_isWord_38 rfl rfl ?_
      obtain ⟨q5, hq5, h⟩ := bd_some h
      refine G_callSN X (As := [.long (gL t 0 0 7), .int a2]) (rest := []) (T' := rs T r t) (st2 := [.int q5]) (ct_X6_letterOf (l := g.2.1) (κ := gκ g)   hq5) cal_X6_letterOf nM_X4_82 wT_X6_letterOf (by decide) rfl rfl (Nat.le_of_ble_eq_true rfl) ⟨Nat.zero_le _, Nat.zero_le _⟩ dX4_isWord_39 rfl ?_
      refine G_aload_n X 1 dX4_isWord_42 rfl rfl ?_
      refine G_iload_n X 2 dX4_isWord_43 rfl rfl ?_
      obtain ⟨g6, h⟩ := gd_some h
      refine G_schr X wM_X4_86 hw1 g6 (by decide) (Nat.le_of_ble_eq_true rfl) ⟨Nat.zero_le _, Nat.zero_le _⟩ dX4_isWord_44 ?_
      refine G_icmp_eq X (tgt := 52) dX4_isWord_47 (by decide) (fun c7 => ?_) (fun c7 => ?_)
      · have h := it_t c7 h
        obtain ⟨v8, ev8, h⟩ := nm_some h
        refine G_iinc X (v := v8) (lv' := [(2, .int v8), (0, .ref (xE (gκ g) r 0 0)), (1, .ref ((gκ g).2.2.2.2.1 w1))]) 2 dX4_isWord_52 rfl (by rw [ev8]; rfl) (by decide) rfl ?_
        refine G_goto X (tgt := 26) dX4_isWord_55 (by decide) ?_
        refine G_sub [1, 2, 0] rfl ?_
        exact ih _ h
      · have h := it_f c7 h
        refine G_iconst X (v := (0 : Int32)) dX4_isWord_50 (by decide) ?_
        obtain rfl := Option.some.inj h
        exact hf _ _ dX4_isWord_51 (isb_n (v := (0 : Int32)) rfl)
set_option maxRecDepth 20000 in
theorem gX4_isWord {g : GX} {T : TT} {r : Nat} {w1 : Nat} {t : St}  {res : Int32} (X : CX g RX4 cX4_isWord 3 4 85) (hr : kd r = kd 3) (hw1 : w1 < nJS) (hf : FinI g cX4_isWord .boolean (rs T r t) (res)) (h : sX4_isWord w1 t = some res) : G g 0 0 (rs T r t) 0 [(0, .ref (xE (gκ g) r 0 0)), (1, .ref ((gκ g).2.2.2.2.1 w1))] [] := by
  unfold sX4_isWord at h
  refine G_aload_n X 0 dX4_isWord_0 rfl rfl ?_
  refine f_X4_66 X (congrFun (congrFun hr 0) 0) (rg_rs _ _ _) dX4_isWord_1 ?_
  refine G_iconst X (v := (1 : Int32)) dX4_isWord_4 (by decide) ?_
  refine G_icmp_ne X (tgt := 22) dX4_isWord_5 (by decide) (fun c1 => ?_) (fun c1 => ?_)
  · have h := it_t c1 h
    refine G_iconst X (v := (0 : Int32)) dX4_isWord_22 (by decide) ?_
    obtain rfl := Option.some.inj h
    exact hf _ _ dX4_isWord_23 (isb_n (v := (0 : Int32)) rfl)
  · have h := it_f (fun k => k c1) h
    refine G_aload_n X 0 dX4_isWord_8 rfl rfl ?_
    refine f_X4_72 X (congrFun (congrFun hr 0) 0) (rg_rs _ _ _) dX4_isWord_9 ?_
    refine G_aload_n X 1 dX4_isWord_12 rfl rfl ?_
    refine G_slen X wM_X4_76 hw1 (by decide) (Nat.le_of_ble_eq_true rfl) ⟨Nat.zero_le _, Nat.zero_le _⟩ dX4_isWord_13 ?_
    obtain ⟨q2, hq2, h⟩ := bd_some h
    refine G_callSN X (As := [.long (gL t 0 0 7), .int (nI (lenJS.getD w1 0))]) (rest := []) (T' := rs T r t) (st2 := [.int q2]) (ct_X6_letterOf (l := g.2.1) (κ := gκ g)   hq2) cal_X6_letterOf nM_X4_82 wT_X6_letterOf (by decide) rfl rfl (Nat.le_of_ble_eq_true rfl) ⟨Nat.zero_le _, Nat.zero_le _⟩ dX4_isWord_16 rfl ?_
    refine G_if_eq X (tgt := 24) dX4_isWord_19 (by decide) (fun c3 => ?_) (fun c3 => ?_)
    · have h := it_t c3 h
      refine G_iconst X (v := (0 : Int32)) dX4_isWord_24 (by decide) ?_
      refine G_istore_n X (lv' := [(2, .int ((0 : Int32))), (0, .ref (xE (gκ g) r 0 0)), (1, .ref ((gκ g).2.2.2.2.1 w1))]) dX4_isWord_25 rfl (by decide) rfl ?_
      refine G_sub [1, 2, 0] rfl ?_
      exact gX4_isWord_b26 X hr hw1 hf FU _ h
    · have h := it_f c3 h
      refine G_iconst X (v := (0 : Int32)) dX4_isWord_22 (by decide) ?_
      obtain rfl := Option.some.inj h
      exact hf _ _ dX4_isWord_23 (isb_n (v := (0 : Int32)) rfl)
set_option maxRecDepth 20000 in
theorem ct_X4_isWord {l : Launch} {κ : KX} {T : TT} {r : Nat} {w1 : Nat} {t : St}  {res : Int32} (hr : kd r = kd 3) (hw1 : w1 < nJS) (h : sX4_isWord w1 t = some res) : Ct l κ yX4_isWord cX4_isWord 3 (some .boolean) 4 85 [.ref (xE κ r 0 0), .ref (κ.2.2.2.2.1 w1)] (rs T r t) (rs T r t) (some (.int (res))) := by
  refine Ct_i RX4 rfl (by decide +kernel) (Nat.le_of_ble_eq_true rfl) (fun g hl hκ X hf => ?_)
  subst hl; subst hκ
  exact gX4_isWord X hr hw1 hf h
set_option maxRecDepth 20000 in
theorem gX4_fail {g : GX} {T : TT} {r : Nat}  {t : St} {a1 : Int32} {res : St × Int32} (X : CX g RX4 cX4_fail 2 0 0) (hr : kd r = kd 3) (hf : FinI g cX4_fail .boolean (rs T r res.1) (res.2)) (h : sX4_fail t a1 = some res) : G g 0 0 (rs T r t) 0 [(0, .ref (xE (gκ g) r 0 0)), (1, .int a1)] [] := by
  unfold sX4_fail at h
  refine G_aload_n X 0 dX4_fail_0 rfl rfl ?_
  refine G_iload_n X 1 dX4_fail_1 rfl rfl ?_
  obtain ⟨x1, ex1, h⟩ := nm_some h
  refine p_X4_38 X (T' := rs T r x1) (congrFun (congrFun hr 0) 0) (rg_rs _ _ _)  (by rw [rs_rs, ex1]) dX4_fail_2 ?_
  refine G_aload_n X 0 dX4_fail_5 rfl rfl ?_
  refine G_aload_n X 0 dX4_fail_6 rfl rfl ?_
  refine f_X4_69 X (congrFun (congrFun hr 0) 0) (rg_rs _ _ _) dX4_fail_7 ?_
  obtain ⟨x2, ex2, h⟩ := nm_some h
  refine p_X4_22 X (T' := rs T r x2) (congrFun (congrFun hr 0) 0) (rg_rs _ _ _)  (by rw [rs_rs, ex2]) dX4_fail_10 ?_
  refine G_iconst X (v := (0 : Int32)) dX4_fail_13 (by decide) ?_
  obtain rfl := Option.some.inj h
  exact hf _ _ dX4_fail_14 (isb_n (v := (0 : Int32)) rfl)
set_option maxRecDepth 20000 in
theorem ct_X4_fail {l : Launch} {κ : KX} {T : TT} {r : Nat}  {t : St} {a1 : Int32} {res : St × Int32} (hr : kd r = kd 3) (h : sX4_fail t a1 = some res) : Ct l κ yX4_fail cX4_fail 2 (some .boolean) 0 0 [.ref (xE κ r 0 0), .int a1] (rs T r t) (rs T r res.1) (some (.int (res.2))) := by
  refine Ct_i RX4 rfl (by decide +kernel) (Nat.le_of_ble_eq_true rfl) (fun g hl hκ X hf => ?_)
  subst hl; subst hκ
  exact gX4_fail X hr hf h
set_option maxRecDepth 20000 in
theorem gX4_takeWord {g : GX} {T : TT} {r : Nat} {w1 : Nat} {t : St}  {res : St × Int32} (X : CX g RX4 cX4_takeWord 2 5 107) (hr : kd r = kd 3) (hw1 : w1 < nJS) (hf : FinI g cX4_takeWord .boolean (rs T r res.1) (res.2)) (h : sX4_takeWord w1 t = some res) : G g 0 0 (rs T r t) 0 [(0, .ref (xE (gκ g) r 0 0)), (1, .ref ((gκ g).2.2.2.2.1 w1))] [] := by
  unfold sX4_takeWord at h
  refine G_aload_n X 0 dX4_takeWord_0 rfl rfl ?_
  refine G_aload_n X 1 dX4_takeWord_1 rfl rfl ?_
  obtain ⟨q1, hq1, h⟩ := bd_some h
  refine G_callV X (As := [.ref ((gκ g).2.2.2.2.1 w1)]) (rest := []) (T' := rs T r t) (st2 := [.int q1]) (ct_X4_isWord (l := g.2.1) (κ := gκ g) (T := T) (r := r) (x := t) hr hw1 hq1) cal_X4_isWord wM_X4_90 wI_X4_isWord wS_X4_isWord (congrFun (congrFun hr 0) 0) rfl (by decide) rfl rfl (Nat.le_of_ble_eq_true rfl) ⟨Nat.zero_le _, Nat.zero_le _⟩ dX4_takeWord_2 rfl ?_
  refine G_if_ne X (tgt := 14) dX4_takeWord_5 (by decide) (fun c2 => ?_) (fun c2 => ?_)
  · have h := it_t c2 h
    refine G_aload_n X 0 dX4_takeWord_14 rfl rfl ?_
    obtain ⟨q3, hq3, h⟩ := bd_some h
    refine G_callV X (As := []) (rest := []) (T' := rs T r q3) (st2 := []) (ct_X4_advance (l := g.2.1) (κ := gκ g) (T := T) (r := r) (x := t) hr hq3) cal_X4_advance wM_X4_63 wI_X4_advance wS_X4_advance (congrFun (congrFun hr 0) 0) rfl (by decide) rfl rfl (Nat.le_of_ble_eq_true rfl) ⟨Nat.zero_le _, Nat.zero_le _⟩ dX4_takeWord_15 rfl ?_
    refine G_iconst X (v := (1 : Int32)) dX4_takeWord_18 (by decide) ?_
    obtain rfl := Option.some.inj h
    exact hf _ _ dX4_takeWord_19 (isb_n (v := (1 : Int32)) rfl)
  · have h := it_f (fun k => k c2) h
    refine G_aload_n X 0 dX4_takeWord_8 rfl rfl ?_
    refine G_iconst X (v := (1 : Int32)) dX4_takeWord_9 (by decide) ?_
    obtain ⟨q4, hq4, h⟩ := bd_some h
    refine G_callV X (As := [.int ((1 : Int32))]) (rest := []) (T' := rs T r q4.1) (st2 := [.int q4.2]) (ct_X4_fail (l := g.2.1) (κ := gκ g) (T := T) (r := r) (x := t) hr hq4) cal_X4_fail wM_X4_94 wI_X4_fail wS_X4_fail (congrFun (congrFun hr 0) 0) rfl (by decide) rfl rfl (Nat.le_of_ble_eq_true rfl) ⟨Nat.zero_le _, Nat.zero_le _⟩ dX4_takeWord_10 rfl ?_
    obtain ⟨g5, h⟩ := gd_some h
    obtain rfl := Option.some.inj h
    exact hf _ _ dX4_takeWord_13 (isb_n g5)
set_option maxRecDepth 20000 in
theorem ct_X4_takeWord {l : Launch} {κ : KX} {T : TT} {r : Nat} {w1 : Nat} {t : St}  {res : St × Int32} (hr : kd r = kd 3) (hw1 : w1 < nJS) (h : sX4_takeWord w1 t = some res) : Ct l κ yX4_takeWord cX4_takeWord 2 (some .boolean) 5 107 [.ref (xE κ r 0 0), .ref (κ.2.2.2.2.1 w1)] (rs T r t) (rs T r res.1) (some (.int (res.2))) := by
  refine Ct_i RX4 rfl (by decide +kernel) (Nat.le_of_ble_eq_true rfl) (fun g hl hκ X hf => ?_)
  subst hl; subst hκ
  exact gX4_takeWord X hr hw1 hf h
set_option maxRecDepth 20000 in
theorem gX4_takeSign {g : GX} {T : TT} {r : Nat}  {t : St} {a1 : Int32} {res : St × Int32} (X : CX g RX4 cX4_takeSign 2 1 21) (hr : kd r = kd 3) (hf : FinI g cX4_takeSign .boolean (rs T r res.1) (res.2)) (h : sX4_takeSign t a1 = some res) : G g 0 0 (rs T r t) 0 [(0, .ref (xE (gκ g) r 0 0)), (1, .int a1)] [] := by
  unfold sX4_takeSign at h
  refine G_aload_n X 0 dX4_takeSign_0 rfl rfl ?_
  refine f_X4_66 X (congrFun (congrFun hr 0) 0) (rg_rs _ _ _) dX4_takeSign_1 ?_
  refine G_iload_n X 1 dX4_takeSign_4 rfl rfl ?_
  refine G_icmp_eq X (tgt := 14) dX4_takeSign_5 (by decide) (fun c1 => ?_) (fun c1 => ?_)
  · have h := it_t c1 h
    refine G_aload_n X 0 dX4_takeSign_14 rfl rfl ?_
    obtain ⟨q2, hq2, h⟩ := bd_some h
    refine G_callV X (As := []) (rest := []) (T' := rs T r q2) (st2 := []) (ct_X4_advance (l := g.2.1) (κ := gκ g) (T := T) (r := r) (x := t) hr hq2) cal_X4_advance wM_X4_63 wI_X4_advance wS_X4_advance (congrFun (congrFun hr 0) 0) rfl (by decide) rfl rfl (Nat.le_of_ble_eq_true rfl) ⟨Nat.zero_le _, Nat.zero_le _⟩ dX4_takeSign_15 rfl ?_
    refine G_iconst X (v := (1 : Int32)) dX4_takeSign_18 (by decide) ?_
    obtain rfl := Option.some.inj h
    exact hf _ _ dX4_takeSign_19 (isb_n (v := (1 : Int32)) rfl)
  · have h := it_f c1 h
    refine G_aload_n X 0 dX4_takeSign_8 rfl rfl ?_
    refine G_iconst X (v := (1 : Int32)) dX4_takeSign_9 (by decide) ?_
    obtain ⟨q3, hq3, h⟩ := bd_some h
    refine G_callV X (As := [.int ((1 : Int32))]) (rest := []) (T' := rs T r q3.1) (st2 := [.int q3.2]) (ct_X4_fail (l := g.2.1) (κ := gκ g) (T := T) (r := r) (x := t) hr hq3) cal_X4_fail wM_X4_94 wI_X4_fail wS_X4_fail (congrFun (congrFun hr 0) 0) rfl (by decide) rfl rfl (Nat.le_of_ble_eq_true rfl) ⟨Nat.zero_le _, Nat.zero_le _⟩ dX4_takeSign_10 rfl ?_
    obtain ⟨g4, h⟩ := gd_some h
    obtain rfl := Option.some.inj h
    exact hf _ _ dX4_takeSign_13 (isb_n g4)
set_option maxRecDepth 20000 in
theorem ct_X4_takeSign {l : Launch} {κ : KX} {T : TT} {r : Nat}  {t : St} {a1 : Int32} {res : St × Int32} (hr : kd r = kd 3) (h : sX4_takeSign t a1 = some res) : Ct l κ yX4_takeSign cX4_takeSign 2 (some .boolean) 1 21 [.ref (xE κ r 0 0), .int a1] (rs T r t) (rs T r res.1) (some (.int (res.2))) := by
  refine Ct_i RX4 rfl (by decide +kernel) (Nat.le_of_ble_eq_true rfl) (fun g hl hκ X hf => ?_)
  subst hl; subst hκ
  exact gX4_takeSign X hr hf h
set_option maxRecDepth 20000 in
theorem gX4_takeNumber_b36 {g : GX} {T : TT} {r : Nat}  {t : St}  {res : St × Int32}  (X : CX g RX4 cX4_takeNumber 4 1 21) (hr : kd r = kd 3) (hf : FinI g cX4_takeNumber .int (rs T r res.1) (res.2))   (h : sX4_takeNumber_b36  t = some res) : G g 0 0 (rs T r t) 36 [(0, .ref (xE (gκ g) r 0 0))] [] := by
  unfold sX4_takeNumber_b36 at h
  refine G_aload_n X 0 dX4_takeNumber_36 rfl rfl ?_
  refine G_iconst X (v := (2 : Int32)) dX4_takeNumber_37 (by decide) ?_
  obtain ⟨q6, hq6, h⟩ := bd_some h
  refine G_callV X (As := [.int ((2 : Int32))]) (rest := []) (T' := rs T r q6.1) (st2 := [.int q6.2]) (ct_X4_fail (l := g.2.1) (κ := gκ g) (T := T) (r := r) (x := t) hr hq6) cal_X4_fail wM_X4_94 wI_X4_fail wS_X4_fail (congrFun (congrFun hr 0) 0) rfl (by decide) rfl rfl (Nat.le_of_ble_eq_true rfl) ⟨Nat.zero_le _, Nat.zero_le _⟩ dX4_takeNumber_38 rfl ?_
  refine G_pop X dX4_takeNumber_41 rfl ?_
  refine G_iconst X (v := (-1 : Int32)) dX4_takeNumber_42 (by decide) ?_
  obtain rfl := Option.some.inj h
  exact hf _ _ dX4_takeNumber_43 rfl
set_option maxRecDepth 20000 in
theorem gX4_takeNumber {g : GX} {T : TT} {r : Nat}  {t : St} {a1 : Int32} {a2 : Int32} {res : St × Int32} (X : CX g RX4 cX4_takeNumber 4 1 21) (hr : kd r = kd 3) (hf : FinI g cX4_takeNumber .int (rs T r res.1) (res.2)) (h : sX4_takeNumber t a1 a2 = some res) : G g 0 0 (rs T r t) 0 [(0, .ref (xE (gκ g) r 0 0)), (1, .int a1), (2, .int a2)] [] := by
  unfold sX4_takeNumber at h
  refine G_aload_n X 0 dX4_takeNumber_0 rfl rfl ?_
  refine f_X4_66 X (congrFun (congrFun hr 0) 0) (rg_rs _ _ _) dX4_takeNumber_1 ?_
  refine G_iconst X (v := (2 : Int32)) dX4_takeNumber_4 (by decide) ?_
  refine G_icmp_eq X (tgt := 16) dX4_takeNumber_5 (by decide) (fun c1 => ?_) (fun c1 => ?_)
  · have h := it_t c1 h
    refine G_aload_n X 0 dX4_takeNumber_16 rfl rfl ?_
    refine f_X4_72 X (congrFun (congrFun hr 0) 0) (rg_rs _ _ _) dX4_takeNumber_17 ?_
    refine G_iload_n X 1 dX4_takeNumber_20 rfl rfl ?_
    refine G_i2l X dX4_takeNumber_21 ?_
    refine G_lcmp X dX4_takeNumber_22 ?_
    refine G_if_lt X (tgt := 36) dX4_takeNumber_23 (by decide) (fun c2 => ?_) (fun c2 => ?_)
    · have h := it_t c2 h
      refine G_sub [0] rfl ?_
      exact gX4_takeNumber_b36 X hr hf h
    · have h := it_f c2 h
      refine G_aload_n X 0 dX4_takeNumber_26 rfl rfl ?_
      refine f_X4_72 X (congrFun (congrFun hr 0) 0) (rg_rs _ _ _) dX4_takeNumber_27 ?_
      refine G_iload_n X 2 dX4_takeNumber_30 rfl rfl ?_
      refine G_i2l X dX4_takeNumber_31 ?_
      refine G_lcmp X dX4_takeNumber_32 ?_
      refine G_if_le X (tgt := 44) dX4_takeNumber_33 (by decide) (fun c3 => ?_) (fun c3 => ?_)
      · have h := it_t c3 h
        refine G_aload_n X 0 dX4_takeNumber_44 rfl rfl ?_
        refine f_X4_72 X (congrFun (congrFun hr 0) 0) (rg_rs _ _ _) dX4_takeNumber_45 ?_
        refine G_l2i X dX4_takeNumber_48 ?_
        refine G_istore_n X (lv' := [(3, .int ((gL t 0 0 7).toInt32)), (0, .ref (xE (gκ g) r 0 0)), (1, .int a1), (2, .int a2)]) dX4_takeNumber_49 rfl (by decide) rfl ?_
        refine G_aload_n X 1 dX4_takeNumber_50 rfl rfl ?_
        obtain ⟨q4, hq4, h⟩ := bd_some h
        refine G_callV X (As := []) (rest := []) (T' := rs T r q4) (st2 := []) (ct_X4_advance (l := g.2.1) (κ := gκ g) (T := T) (r := r) (x := t) hr hq4) cal_X4_advance wM_X4_63 wI_X4_advance wS_X4_advance (congrFun (congrFun hr 0) 0) rfl (by decide) rfl rfl (Nat.le_of_ble_eq_true rfl) ⟨Nat.zero_le _, Nat.zero_le _⟩ dX4_takeNumber_51 rfl ?_
        refine G_iload_n X 0 dX4_takeNumber_54 rfl rfl ?_
        obtain rfl := Option.some.inj h
        exact hf _ _ dX4_takeNumber_55 rfl
      · have h := it_f c3 h
        refine G_sub [0] rfl ?_
        exact gX4_takeNumber_b36 X hr hf h
  · have h := it_f c1 h
    refine G_aload_n X 0 dX4_takeNumber_8 rfl rfl ?_
    refine G_iconst X (v := (1 : Int32)) dX4_takeNumber_9 (by decide) ?_
    obtain ⟨q5, hq5, h⟩ := bd_some h
    refine G_callV X (As := [.int ((1 : Int32))]) (rest := []) (T' := rs T r q5.1) (st2 := [.int q5.2]) (ct_X4_fail (l := g.2.1) (κ := gκ g) (T := T) (r := r) (x := t) hr hq5) cal_X4_fail wM_X4_94 wI_X4_fail wS_X4_fail (congrFun (congrFun hr 0) 0) rfl (by decide) rfl rfl (Nat.le_of_ble_eq_true rfl) ⟨Nat.zero_le _, Nat.zero_le _⟩ dX4_takeNumber_10 rfl ?_
    refine G_pop X dX4_takeNumber_13 rfl ?_
    refine G_iconst X (v := (-1 : Int32)) dX4_takeNumber_14 (by decide) ?_
    obtain rfl := Option.some.inj h
    exact hf _ _ dX4_takeNumber_15 rfl
set_option maxRecDepth 20000 in
theorem ct_X4_takeNumber {l : Launch} {κ : KX} {T : TT} {r : Nat}  {t : St} {a1 : Int32} {a2 : Int32} {res : St × Int32} (hr : kd r = kd 3) (h : sX4_takeNumber t a1 a2 = some res) : Ct l κ yX4_takeNumber cX4_takeNumber 4 (some .int) 1 21 [.ref (xE κ r 0 0), .int a1, .int a2] (rs T r t) (rs T r res.1) (some (.int (res.2))) := by
  refine Ct_i RX4 rfl (by decide +kernel) (Nat.le_of_ble_eq_true rfl) (fun g hl hκ X hf => ?_)
  subst hl; subst hκ
  exact gX4_takeNumber X hr hf h
set_option maxRecDepth 20000 in
theorem gX5_find_b2 {g : GX} {T : TT} {r : Nat}  {x : St} {res : Int32}  (X : CX g RX5 cX5_find 4 0 0) (hr : isW r) (hf : FinI g cX5_find .int (rs T r x) (res))  : ∀ (n : Nat) (a1 : Int64) (a3 : Int32) (h : sX5_find_b2 n  x a1 a3 = some res), G g 0 0 (rs T r x) 2 [(0, .ref (xE (gκ g) r 0 0)), (1, .long a1), (3, .int a3)] [] := by
  intro n
  induction n with
  | zero => intro a1 a3 h; unfold sX5_find_b2 at h; cases h
  | succ n ih =>
    intro a1 a3 h
    unfold sX5_find_b2 at h
    refine G_iload_n X 2 dX5_find_2 rfl rfl ?_
    refine G_aload_n X 0 dX5_find_3 rfl rfl ?_
    refine f_X5_25 X (kd_w0 hr) (rg_rs _ _ _) dX5_find_4 ?_
    refine G_icmp_ge X (tgt := 32) dX5_find_7 (by decide) (fun c1 => ?_) (fun c1 => ?_)
    · have h := it_t c1 h
      refine G_iconst X (v := (-1 : Int32)) dX5_find_32 (by decide) ?_
      obtain rfl := Option.some.inj h
      exact hf _ _ dX5_find_33 rfl
    · have h := it_f c1 h
      refine G_aload_n X 0 dX5_find_10 rfl rfl ?_
      refine f_X5_17 X (kd_w0 hr) rfl dX5_find_11 ?_
      refine G_iload_n X 2 dX5_find_14 rfl rfl ?_
      obtain ⟨g2, h⟩ := gd_some h
      refine G_aaldB X (kd_w2 hr) g2 dX5_find_15 ?_
      refine f_X5_57 X (kd_o0 hr (inb_isO (by decide) g2)) (rg_rs _ _ _) dX5_find_16 ?_
      refine G_lload_n X 1 dX5_find_19 rfl rfl ?_
      refine G_lcmp X dX5_find_20 ?_
      refine G_if_ne X (tgt := 26) dX5_find_21 (by decide) (fun c3 => ?_) (fun c3 => ?_)
      · have h := it_t c3 h
        obtain ⟨v4, ev4, h⟩ := nm_some h
        refine G_iinc X (v := v4) (lv' := [(3, .int v4), (0, .ref (xE (gκ g) r 0 0)), (1, .long a1)]) 2 dX5_find_26 rfl (by rw [ev4]; rfl) (by decide) rfl ?_
        refine G_goto X (tgt := 2) dX5_find_29 (by decide) ?_
        refine G_sub [1, 2, 0] rfl ?_
        exact ih _ _ h
      · have h := it_f (fun k => k c3) h
        refine G_iload_n X 2 dX5_find_24 rfl rfl ?_
        obtain rfl := Option.some.inj h
        exact hf _ _ dX5_find_25 rfl
set_option maxRecDepth 20000 in
theorem gX5_find {g : GX} {T : TT} {r : Nat}  {x : St} {a1 : Int64} {res : Int32} (X : CX g RX5 cX5_find 4 0 0) (hr : isW r) (hf : FinI g cX5_find .int (rs T r x) (res)) (h : sX5_find x a1 = some res) : G g 0 0 (rs T r x) 0 [(0, .ref (xE (gκ g) r 0 0)), (1, .long a1)] [] := by
  unfold sX5_find at h
  refine G_iconst X (v := (0 : Int32)) dX5_find_0 (by decide) ?_
  refine G_istore_n X (lv' := [(3, .int ((0 : Int32))), (0, .ref (xE (gκ g) r 0 0)), (1, .long a1)]) dX5_find_1 rfl (by decide) rfl ?_
  refine G_sub [1, 2, 0] rfl ?_
  exact gX5_find_b2 X hr hf FU _ _ h
set_option maxRecDepth 20000 in
theorem ct_X5_find {l : Launch} {κ : KX} {T : TT} {r : Nat}  {x : St} {a1 : Int64} {res : Int32} (hr : isW r) (h : sX5_find x a1 = some res) : Ct l κ yX5_find cX5_find 4 (some .int) 0 0 [.ref (xE κ r 0 0), .long a1] (rs T r x) (rs T r x) (some (.int (res))) := by
  refine Ct_i RX5 rfl (by decide +kernel) (Nat.le_of_ble_eq_true rfl) (fun g hl hκ X hf => ?_)
  subst hl; subst hκ
  exact gX5_find X hr hf h
set_option maxRecDepth 20000 in
theorem gX4_beaconHere {g : GX} {T : TT} {r : Nat} {r2 : Nat} {y : St}  {t : St}  {res : St × Int32} (X : CX g RX4 cX4_beaconHere 3 1 23) (hr : kd r = kd 3) (hr2 : isW r2) (hne : r2 ≠ r) (hy : rg T r2 = y) (hf : FinI g cX4_beaconHere .int (rs T r res.1) (res.2)) (h : sX4_beaconHere y t = some res) : G g 0 0 (rs T r t) 0 [(0, .ref (xE (gκ g) r 0 0)), (1, .ref (xE (gκ g) r2 0 0))] [] := by
  unfold sX4_beaconHere at h
  refine G_aload_n X 0 dX4_beaconHere_0 rfl rfl ?_
  refine f_X4_66 X (congrFun (congrFun hr 0) 0) (rg_rs _ _ _) dX4_beaconHere_1 ?_
  refine G_iconst X (v := (1 : Int32)) dX4_beaconHere_4 (by decide) ?_
  refine G_icmp_eq X (tgt := 16) dX4_beaconHere_5 (by decide) (fun c1 => ?_) (fun c1 => ?_)
  · have h := it_t c1 h
    refine G_aload_n X 1 dX4_beaconHere_16 rfl rfl ?_
    refine G_aload_n X 0 dX4_beaconHere_17 rfl rfl ?_
    refine f_X4_72 X (congrFun (congrFun hr 0) 0) (rg_rs _ _ _) dX4_beaconHere_18 ?_
    obtain ⟨q2, hq2, h⟩ := bd_some h
    have e3 := rs_self (show rg (rs T r t) r2 = y from by rw [rg_rs_ne _ _ hne]; exact hy)
    have m4 := ct_X5_find (l := g.2.1) (κ := gκ g) (T := rs T r t) (r := r2) (x := y) hr2 hq2
    rw [e3] at m4
    refine G_callVN X (As := [.long (gL t 0 0 7)]) (rest := []) (T' := rs T r t) (st2 := [.int q2]) m4 cal_X5_find nM_X4_97 wI_X5_find wS_X5_find (kd_w0 hr2) rfl (by decide) rfl rfl (Nat.le_of_ble_eq_true rfl) ⟨Nat.zero_le _, Nat.zero_le _⟩ dX4_beaconHere_21 rfl ?_
    refine G_istore_n X (lv' := [(2, .int q2), (0, .ref (xE (gκ g) r 0 0)), (1, .ref (xE (gκ g) r2 0 0))]) dX4_beaconHere_24 rfl (by decide) rfl ?_
    refine G_iload_n X 0 dX4_beaconHere_25 rfl rfl ?_
    refine G_iconst X (v := (-1 : Int32)) dX4_beaconHere_26 (by decide) ?_
    refine G_icmp_ne X (tgt := 36) dX4_beaconHere_27 (by decide) (fun c5 => ?_) (fun c5 => ?_)
    · have h := it_t c5 h
      refine G_iload_n X 0 dX4_beaconHere_36 rfl rfl ?_
      obtain rfl := Option.some.inj h
      exact hf _ _ dX4_beaconHere_37 rfl
    · have h := it_f (fun k => k c5) h
      refine G_aload_n X 1 dX4_beaconHere_30 rfl rfl ?_
      refine G_iconst X (v := (4 : Int32)) dX4_beaconHere_31 (by decide) ?_
      obtain ⟨q6, hq6, h⟩ := bd_some h
      refine G_callV X (As := [.int ((4 : Int32))]) (rest := []) (T' := rs T r q6.1) (st2 := [.int q6.2]) (ct_X4_fail (l := g.2.1) (κ := gκ g) (T := T) (r := r) (x := t) hr hq6) cal_X4_fail wM_X4_94 wI_X4_fail wS_X4_fail (congrFun (congrFun hr 0) 0) rfl (by decide) rfl rfl (Nat.le_of_ble_eq_true rfl) ⟨Nat.zero_le _, Nat.zero_le _⟩ dX4_beaconHere_32 rfl ?_
      refine G_pop X dX4_beaconHere_35 rfl ?_
      refine G_iload_n X 0 dX4_beaconHere_36 rfl rfl ?_
      obtain rfl := Option.some.inj h
      exact hf _ _ dX4_beaconHere_37 rfl
  · have h := it_f c1 h
    refine G_aload_n X 0 dX4_beaconHere_8 rfl rfl ?_
    refine G_iconst X (v := (1 : Int32)) dX4_beaconHere_9 (by decide) ?_
    obtain ⟨q7, hq7, h⟩ := bd_some h
    refine G_callV X (As := [.int ((1 : Int32))]) (rest := []) (T' := rs T r q7.1) (st2 := [.int q7.2]) (ct_X4_fail (l := g.2.1) (κ := gκ g) (T := T) (r := r) (x := t) hr hq7) cal_X4_fail wM_X4_94 wI_X4_fail wS_X4_fail (congrFun (congrFun hr 0) 0) rfl (by decide) rfl rfl (Nat.le_of_ble_eq_true rfl) ⟨Nat.zero_le _, Nat.zero_le _⟩ dX4_beaconHere_10 rfl ?_
    refine G_pop X dX4_beaconHere_13 rfl ?_
    refine G_iconst X (v := (-1 : Int32)) dX4_beaconHere_14 (by decide) ?_
    obtain rfl := Option.some.inj h
    exact hf _ _ dX4_beaconHere_15 rfl
set_option maxRecDepth 20000 in
theorem ct_X4_beaconHere {l : Launch} {κ : KX} {T : TT} {r : Nat} {r2 : Nat} {y : St}  {t : St}  {res : St × Int32} (hr : kd r = kd 3) (hr2 : isW r2) (hne : r2 ≠ r) (hy : rg T r2 = y) (h : sX4_beaconHere y t = some res) : Ct l κ yX4_beaconHere cX4_beaconHere 3 (some .int) 1 23 [.ref (xE κ r 0 0), .ref (xE κ r2 0 0)] (rs T r t) (rs T r res.1) (some (.int (res.2))) := by
  refine Ct_i RX4 rfl (by decide +kernel) (Nat.le_of_ble_eq_true rfl) (fun g hl hκ X hf => ?_)
  subst hl; subst hκ
  exact gX4_beaconHere X hr hr2 hne hy hf h
set_option maxRecDepth 20000 in
theorem gX5_clear {g : GX} {T : TT} {r : Nat}  {x : St}  {res : St} (X : CX g RX5 cX5_clear 1 0 0) (hr : isW r) (hf : FinV g cX5_clear (rs T r res)) (h : sX5_clear x = some res) : G g 0 0 (rs T r x) 0 [(0, .ref (xE (gκ g) r 0 0))] [] := by
  unfold sX5_clear at h
  refine G_aload_n X 0 dX5_clear_0 rfl rfl ?_
  refine G_iconst X (v := (0 : Int32)) dX5_clear_1 (by decide) ?_
  obtain ⟨x1, ex1, h⟩ := nm_some h
  refine p_X5_25 X (T' := rs T r x1) (kd_w0 hr) (rg_rs _ _ _)  (by rw [rs_rs, ex1]) dX5_clear_2 ?_
  refine G_aload_n X 0 dX5_clear_5 rfl rfl ?_
  refine f_X5_9 X (kd_w0 hr) rfl dX5_clear_6 ?_
  refine G_iconst X (v := (0 : Int32)) dX5_clear_9 (by decide) ?_
  refine G_iconst X (v := (1 : Int32)) dX5_clear_10 (by decide) ?_
  obtain ⟨g2, h⟩ := gd_some h
  obtain ⟨x3, ex3, h⟩ := nm_some h
  refine G_iast X (T' := rs T r x3) (kd_w1 hr) (rg_rs _ _ _) g2 (by rw [rs_rs, ex3]) dX5_clear_11 ?_
  refine G_aload_n X 0 dX5_clear_12 rfl rfl ?_
  refine f_X5_9 X (kd_w0 hr) rfl dX5_clear_13 ?_
  refine G_iconst X (v := (1 : Int32)) dX5_clear_16 (by decide) ?_
  refine G_iconst X (v := (5 : Int32)) dX5_clear_17 (by decide) ?_
  obtain ⟨g4, h⟩ := gd_some h
  obtain ⟨x5, ex5, h⟩ := nm_some h
  refine G_iast X (T' := rs T r x5) (kd_w1 hr) (rg_rs _ _ _) g4 (by rw [rs_rs, ex5]) dX5_clear_18 ?_
  refine G_aload_n X 0 dX5_clear_19 rfl rfl ?_
  refine f_X5_9 X (kd_w0 hr) rfl dX5_clear_20 ?_
  refine G_iconst X (v := (2 : Int32)) dX5_clear_23 (by decide) ?_
  refine G_iconst X (v := (3 : Int32)) dX5_clear_24 (by decide) ?_
  obtain ⟨g6, h⟩ := gd_some h
  obtain ⟨x7, ex7, h⟩ := nm_some h
  refine G_iast X (T' := rs T r x7) (kd_w1 hr) (rg_rs _ _ _) g6 (by rw [rs_rs, ex7]) dX5_clear_25 ?_
  refine G_aload_n X 0 dX5_clear_26 rfl rfl ?_
  refine f_X5_9 X (kd_w0 hr) rfl dX5_clear_27 ?_
  refine G_iconst X (v := (3 : Int32)) dX5_clear_30 (by decide) ?_
  refine G_bipush X (v := (9 : Int32)) dX5_clear_31 (by decide) ?_
  obtain ⟨g8, h⟩ := gd_some h
  obtain ⟨x9, ex9, h⟩ := nm_some h
  refine G_iast X (T' := rs T r x9) (kd_w1 hr) (rg_rs _ _ _) g8 (by rw [rs_rs, ex9]) dX5_clear_33 ?_
  refine G_aload_n X 0 dX5_clear_34 rfl rfl ?_
  refine G_iconst X (v := (1 : Int32)) dX5_clear_35 (by decide) ?_
  obtain ⟨x10, ex10, h⟩ := nm_some h
  refine p_X5_29 X (T' := rs T r x10) (kd_w0 hr) (rg_rs _ _ _)  (by rw [rs_rs, ex10]) dX5_clear_36 ?_
  refine G_aload_n X 0 dX5_clear_39 rfl rfl ?_
  refine G_iconst X (v := (3 : Int32)) dX5_clear_40 (by decide) ?_
  obtain ⟨x11, ex11, h⟩ := nm_some h
  refine p_X5_32 X (T' := rs T r x11) (kd_w0 hr) (rg_rs _ _ _)  (by rw [rs_rs, ex11]) dX5_clear_41 ?_
  refine G_aload_n X 0 dX5_clear_44 rfl rfl ?_
  refine G_bipush X (v := (99 : Int32)) dX5_clear_45 (by decide) ?_
  obtain ⟨x12, ex12, h⟩ := nm_some h
  refine p_X5_35 X (T' := rs T r x12) (kd_w0 hr) (rg_rs _ _ _)  (by rw [rs_rs, ex12]) dX5_clear_47 ?_
  refine G_aload_n X 0 dX5_clear_50 rfl rfl ?_
  refine G_iconst X (v := (0 : Int32)) dX5_clear_51 (by decide) ?_
  obtain ⟨x13, ex13, h⟩ := nm_some h
  refine p_X5_38 X (T' := rs T r x13) (kd_w0 hr) (rg_rs _ _ _)  (by rw [rs_rs, ex13]) dX5_clear_52 ?_
  refine G_aload_n X 0 dX5_clear_55 rfl rfl ?_
  refine G_iconst X (v := (0 : Int32)) dX5_clear_56 (by decide) ?_
  obtain ⟨x14, ex14, h⟩ := nm_some h
  refine p_X5_41 X (T' := rs T r x14) (kd_w0 hr) (rg_rs _ _ _)  (by rw [rs_rs, ex14]) dX5_clear_57 ?_
  refine G_aload_n X 0 dX5_clear_60 rfl rfl ?_
  refine G_iconst X (v := (0 : Int32)) dX5_clear_61 (by decide) ?_
  obtain ⟨x15, ex15, h⟩ := nm_some h
  refine p_X5_44 X (T' := rs T r x15) (kd_w0 hr) (rg_rs _ _ _)  (by rw [rs_rs, ex15]) dX5_clear_62 ?_
  refine G_aload_n X 0 dX5_clear_65 rfl rfl ?_
  refine G_iconst X (v := (0 : Int32)) dX5_clear_66 (by decide) ?_
  obtain ⟨x16, ex16, h⟩ := nm_some h
  refine p_X5_47 X (T' := rs T r x16) (kd_w0 hr) (rg_rs _ _ _)  (by rw [rs_rs, ex16]) dX5_clear_67 ?_
  refine G_aload_n X 0 dX5_clear_70 rfl rfl ?_
  refine G_iconst X (v := (0 : Int32)) dX5_clear_71 (by decide) ?_
  obtain ⟨x17, ex17, h⟩ := nm_some h
  refine p_X5_50 X (T' := rs T r x17) (kd_w0 hr) (rg_rs _ _ _)  (by rw [rs_rs, ex17]) dX5_clear_72 ?_
  obtain rfl := Option.some.inj h
  exact hf _ _ dX5_clear_75
set_option maxRecDepth 20000 in
theorem ct_X5_clear {l : Launch} {κ : KX} {T : TT} {r : Nat}  {x : St}  {res : St} (hr : isW r) (h : sX5_clear x = some res) : Ct l κ yX5_clear cX5_clear 1 none 0 0 [.ref (xE κ r 0 0)] (rs T r x) (rs T r res) none := by
  refine Ct_v RX5 rfl (by decide +kernel) (Nat.le_of_ble_eq_true rfl) (fun g hl hκ X hf => ?_)
  subst hl; subst hκ
  exact gX5_clear X hr hf h
set_option maxRecDepth 20000 in
theorem gX5_copyFrom_b99 {g : GX} {T : TT} {r : Nat} {r2 : Nat} {y : St}   {res : St}  (X : CX g RX5 cX5_copyFrom 3 1 22) (hr : isW r) (hr2 : isW r2) (hne : r2 ≠ r) (hy : rg T r2 = y) (hf : FinV g cX5_copyFrom (rs T r res))  : ∀ (n : Nat) (x : St) (a2 : Int32) (h : sX5_copyFrom_b99 n  y x a2 = some res), G g 0 0 (rs T r x) 99 [(0, .ref (xE (gκ g) r 0 0)), (1, .ref (xE (gκ g) r2 0 0)), (2, .int a2)] [] := by
  intro n
  induction n with
  | zero => intro x a2 h; unfold sX5_copyFrom_b99 at h; cases h
  | succ n ih =>
    intro x a2 h
    unfold sX5_copyFrom_b99 at h
    refine G_iload_n X 2 dX5_copyFrom_99 rfl rfl ?_
    refine G_aload_n X 0 dX5_copyFrom_100 rfl rfl ?_
    refine f_X5_25 X (kd_w0 hr) (rg_rs _ _ _) dX5_copyFrom_101 ?_
    refine G_icmp_ge X (tgt := 128) dX5_copyFrom_104 (by decide) (fun c15 => ?_) (fun c15 => ?_)
    · have h := it_t c15 h
      obtain rfl := Option.some.inj h
      exact hf _ _ dX5_copyFrom_128
    · have h := it_f c15 h
      refine G_aload_n X 0 dX5_copyFrom_107 rfl rfl ?_
      refine f_X5_17 X (kd_w0 hr) rfl dX5_copyFrom_108 ?_
      refine G_iload_n X 2 dX5_copyFrom_111 rfl rfl ?_
      obtain ⟨g16, h⟩ := gd_some h
      refine G_aaldB X (kd_w2 hr) g16 dX5_copyFrom_112 ?_
      refine G_aload_n X 1 dX5_copyFrom_113 rfl rfl ?_
      refine f_X5_17 X (kd_w0 hr2) rfl dX5_copyFrom_114 ?_
      refine G_iload_n X 2 dX5_copyFrom_117 rfl rfl ?_
      obtain ⟨g17, h⟩ := gd_some h
      refine G_aaldB X (kd_w2 hr2) g17 dX5_copyFrom_118 ?_
      obtain ⟨q18, hq18, h⟩ := bd_some h
      refine G_callVN X (As := [.ref (xE (gκ g) r2 (ix a2 + 1) 0)]) (rest := []) (T' := rs T r q18) (st2 := []) (ct_X0_copyFrom (l := g.2.1) (κ := gκ g) (T := T) (r := r) (x := x) (r2 := r2) hr (inb_isO (by decide) g17) hr2 (inb_isO (by decide) g17) hne hy hq18) cal_X0_copyFrom nM_X5_53 wI_X0_copyFrom wS_X0_copyFrom (kd_o0 hr (inb_isO (by decide) g17)) rfl (by decide) rfl rfl (Nat.le_of_ble_eq_true rfl) ⟨Nat.zero_le _, Nat.zero_le _⟩ dX5_copyFrom_119 rfl ?_
      obtain ⟨v19, ev19, h⟩ := nm_some h
      refine G_iinc X (v := v19) (lv' := [(2, .int v19), (0, .ref (xE (gκ g) r 0 0)), (1, .ref (xE (gκ g) r2 0 0))]) 2 dX5_copyFrom_122 rfl (by rw [ev19]; rfl) (by decide) rfl ?_
      refine G_goto X (tgt := 99) dX5_copyFrom_125 (by decide) ?_
      refine G_sub [1, 2, 0] rfl ?_
      exact ih _ _ h
set_option maxRecDepth 20000 in
theorem gX5_copyFrom_b74 {g : GX} {T : TT} {r : Nat} {r2 : Nat} {y : St}   {res : St}  (X : CX g RX5 cX5_copyFrom 3 1 22) (hr : isW r) (hr2 : isW r2) (hne : r2 ≠ r) (hy : rg T r2 = y) (hf : FinV g cX5_copyFrom (rs T r res))  : ∀ (n : Nat) (x : St) (a2 : Int32) (h : sX5_copyFrom_b74 n  y x a2 = some res), G g 0 0 (rs T r x) 74 [(0, .ref (xE (gκ g) r 0 0)), (1, .ref (xE (gκ g) r2 0 0)), (2, .int a2)] [] := by
  intro n
  induction n with
  | zero => intro x a2 h; unfold sX5_copyFrom_b74 at h; cases h
  | succ n ih =>
    intro x a2 h
    unfold sX5_copyFrom_b74 at h
    refine G_iload_n X 2 dX5_copyFrom_74 rfl rfl ?_
    refine G_iconst X (v := (4 : Int32)) dX5_copyFrom_75 (by decide) ?_
    refine G_icmp_ge X (tgt := 97) dX5_copyFrom_76 (by decide) (fun c10 => ?_) (fun c10 => ?_)
    · have h := it_t c10 h
      refine G_iconst X (v := (0 : Int32)) dX5_copyFrom_97 (by decide) ?_
      refine G_istore_n X (lv' := [(2, .int ((0 : Int32))), (0, .ref (xE (gκ g) r 0 0)), (1, .ref (xE (gκ g) r2 0 0))]) dX5_copyFrom_98 rfl (by decide) rfl ?_
      refine G_sub [1, 2, 0] rfl ?_
      exact gX5_copyFrom_b99 X hr hr2 hne hy hf FU _ _ h
    · have h := it_f c10 h
      refine G_aload_n X 0 dX5_copyFrom_79 rfl rfl ?_
      refine f_X5_9 X (kd_w0 hr) rfl dX5_copyFrom_80 ?_
      refine G_iload_n X 2 dX5_copyFrom_83 rfl rfl ?_
      refine G_aload_n X 1 dX5_copyFrom_84 rfl rfl ?_
      refine f_X5_9 X (kd_w0 hr2) rfl dX5_copyFrom_85 ?_
      refine G_iload_n X 2 dX5_copyFrom_88 rfl rfl ?_
      obtain ⟨g11, h⟩ := gd_some h
      refine G_iald X (kd_w1 hr2) ((rg_rs_ne _ _ hne).trans hy) g11 dX5_copyFrom_89 ?_
      obtain ⟨g12, h⟩ := gd_some h
      obtain ⟨x13, ex13, h⟩ := nm_some h
      refine G_iast X (T' := rs T r x13) (kd_w1 hr) (rg_rs _ _ _) g12 (by rw [rs_rs, ex13]) dX5_copyFrom_90 ?_
      obtain ⟨v14, ev14, h⟩ := nm_some h
      refine G_iinc X (v := v14) (lv' := [(2, .int v14), (0, .ref (xE (gκ g) r 0 0)), (1, .ref (xE (gκ g) r2 0 0))]) 2 dX5_copyFrom_91 rfl (by rw [ev14]; rfl) (by decide) rfl ?_
      refine G_goto X (tgt := 74) dX5_copyFrom_94 (by decide) ?_
      refine G_sub [1, 2, 0] rfl ?_
      exact ih _ _ h
set_option maxRecDepth 20000 in
theorem gX5_copyFrom {g : GX} {T : TT} {r : Nat} {r2 : Nat} {y : St}  {x : St}  {res : St} (X : CX g RX5 cX5_copyFrom 3 1 22) (hr : isW r) (hr2 : isW r2) (hne : r2 ≠ r) (hy : rg T r2 = y) (hf : FinV g cX5_copyFrom (rs T r res)) (h : sX5_copyFrom y x = some res) : G g 0 0 (rs T r x) 0 [(0, .ref (xE (gκ g) r 0 0)), (1, .ref (xE (gκ g) r2 0 0))] [] := by
  unfold sX5_copyFrom at h
  refine G_aload_n X 0 dX5_copyFrom_0 rfl rfl ?_
  refine G_aload_n X 1 dX5_copyFrom_1 rfl rfl ?_
  refine f_X5_25 X (kd_w0 hr2) ((rg_rs_ne _ _ hne).trans hy) dX5_copyFrom_2 ?_
  obtain ⟨x1, ex1, h⟩ := nm_some h
  refine p_X5_25 X (T' := rs T r x1) (kd_w0 hr) (rg_rs _ _ _)  (by rw [rs_rs, ex1]) dX5_copyFrom_5 ?_
  refine G_aload_n X 0 dX5_copyFrom_8 rfl rfl ?_
  refine G_aload_n X 1 dX5_copyFrom_9 rfl rfl ?_
  refine f_X5_32 X (kd_w0 hr2) ((rg_rs_ne _ _ hne).trans hy) dX5_copyFrom_10 ?_
  obtain ⟨x2, ex2, h⟩ := nm_some h
  refine p_X5_32 X (T' := rs T r x2) (kd_w0 hr) (rg_rs _ _ _)  (by rw [rs_rs, ex2]) dX5_copyFrom_13 ?_
  refine G_aload_n X 0 dX5_copyFrom_16 rfl rfl ?_
  refine G_aload_n X 1 dX5_copyFrom_17 rfl rfl ?_
  refine f_X5_35 X (kd_w0 hr2) ((rg_rs_ne _ _ hne).trans hy) dX5_copyFrom_18 ?_
  obtain ⟨x3, ex3, h⟩ := nm_some h
  refine p_X5_35 X (T' := rs T r x3) (kd_w0 hr) (rg_rs _ _ _)  (by rw [rs_rs, ex3]) dX5_copyFrom_21 ?_
  refine G_aload_n X 0 dX5_copyFrom_24 rfl rfl ?_
  refine G_aload_n X 1 dX5_copyFrom_25 rfl rfl ?_
  refine f_X5_38 X (kd_w0 hr2) ((rg_rs_ne _ _ hne).trans hy) dX5_copyFrom_26 ?_
  obtain ⟨x4, ex4, h⟩ := nm_some h
  refine p_X5_38 X (T' := rs T r x4) (kd_w0 hr) (rg_rs _ _ _)  (by rw [rs_rs, ex4]) dX5_copyFrom_29 ?_
  refine G_aload_n X 0 dX5_copyFrom_32 rfl rfl ?_
  refine G_aload_n X 1 dX5_copyFrom_33 rfl rfl ?_
  refine f_X5_29 X (kd_w0 hr2) ((rg_rs_ne _ _ hne).trans hy) dX5_copyFrom_34 ?_
  obtain ⟨x5, ex5, h⟩ := nm_some h
  refine p_X5_29 X (T' := rs T r x5) (kd_w0 hr) (rg_rs _ _ _)  (by rw [rs_rs, ex5]) dX5_copyFrom_37 ?_
  refine G_aload_n X 0 dX5_copyFrom_40 rfl rfl ?_
  refine G_aload_n X 1 dX5_copyFrom_41 rfl rfl ?_
  refine f_X5_41 X (kd_w0 hr2) ((rg_rs_ne _ _ hne).trans hy) dX5_copyFrom_42 ?_
  obtain ⟨x6, ex6, h⟩ := nm_some h
  refine p_X5_41 X (T' := rs T r x6) (kd_w0 hr) (rg_rs _ _ _)  (by rw [rs_rs, ex6]) dX5_copyFrom_45 ?_
  refine G_aload_n X 0 dX5_copyFrom_48 rfl rfl ?_
  refine G_aload_n X 1 dX5_copyFrom_49 rfl rfl ?_
  refine f_X5_44 X (kd_w0 hr2) ((rg_rs_ne _ _ hne).trans hy) dX5_copyFrom_50 ?_
  obtain ⟨x7, ex7, h⟩ := nm_some h
  refine p_X5_44 X (T' := rs T r x7) (kd_w0 hr) (rg_rs _ _ _)  (by rw [rs_rs, ex7]) dX5_copyFrom_53 ?_
  refine G_aload_n X 0 dX5_copyFrom_56 rfl rfl ?_
  refine G_aload_n X 1 dX5_copyFrom_57 rfl rfl ?_
  refine f_X5_47 X (kd_w0 hr2) ((rg_rs_ne _ _ hne).trans hy) dX5_copyFrom_58 ?_
  obtain ⟨x8, ex8, h⟩ := nm_some h
  refine p_X5_47 X (T' := rs T r x8) (kd_w0 hr) (rg_rs _ _ _)  (by rw [rs_rs, ex8]) dX5_copyFrom_61 ?_
  refine G_aload_n X 0 dX5_copyFrom_64 rfl rfl ?_
  refine G_aload_n X 1 dX5_copyFrom_65 rfl rfl ?_
  refine f_X5_50 X (kd_w0 hr2) ((rg_rs_ne _ _ hne).trans hy) dX5_copyFrom_66 ?_
  obtain ⟨x9, ex9, h⟩ := nm_some h
  refine p_X5_50 X (T' := rs T r x9) (kd_w0 hr) (rg_rs _ _ _)  (by rw [rs_rs, ex9]) dX5_copyFrom_69 ?_
  refine G_iconst X (v := (0 : Int32)) dX5_copyFrom_72 (by decide) ?_
  refine G_istore_n X (lv' := [(2, .int ((0 : Int32))), (0, .ref (xE (gκ g) r 0 0)), (1, .ref (xE (gκ g) r2 0 0))]) dX5_copyFrom_73 rfl (by decide) rfl ?_
  refine G_sub [1, 2, 0] rfl ?_
  exact gX5_copyFrom_b74 X hr hr2 hne hy hf FU _ _ h
set_option maxRecDepth 20000 in
theorem ct_X5_copyFrom {l : Launch} {κ : KX} {T : TT} {r : Nat} {r2 : Nat} {y : St}  {x : St}  {res : St} (hr : isW r) (hr2 : isW r2) (hne : r2 ≠ r) (hy : rg T r2 = y) (h : sX5_copyFrom y x = some res) : Ct l κ yX5_copyFrom cX5_copyFrom 3 none 1 22 [.ref (xE κ r 0 0), .ref (xE κ r2 0 0)] (rs T r x) (rs T r res) none := by
  refine Ct_v RX5 rfl (by decide +kernel) (Nat.le_of_ble_eq_true rfl) (fun g hl hκ X hf => ?_)
  subst hl; subst hκ
  exact gX5_copyFrom X hr hr2 hne hy hf h
set_option maxRecDepth 20000 in
theorem gJ6_bitCount_0f7a4 {g : GX} {T : TT}   {a0 : Int32} {res : Int32} (X : CX g RJ6 cJ6_bitCount_0f7a4 1 0 0)  (hf : FinI g cJ6_bitCount_0f7a4 .int (T) (res)) (h : sJ6_bitCount_0f7a4 a0 = some res) : G g 0 0 (T) 0 [(0, .int a0)] [] := by
  unfold sJ6_bitCount_0f7a4 at h
  refine G_iload_n X 0 dJ6_bitCount_0f7a4_0 rfl rfl ?_
  refine G_iload_n X 0 dJ6_bitCount_0f7a4_1 rfl rfl ?_
  refine G_iconst X (v := (1 : Int32)) dJ6_bitCount_0f7a4_2 (by decide) ?_
  refine G_iushr X dJ6_bitCount_0f7a4_3 ?_
  refine G_ldc_w X (v := (1431655765 : Int32)) dJ6_bitCount_0f7a4_4 wK_J6_265 ?_
  refine G_iand X dJ6_bitCount_0f7a4_7 ?_
  refine G_isub X dJ6_bitCount_0f7a4_8 ?_
  obtain ⟨v1, ev1, h⟩ := nm_some h
  refine G_nmi ev1 ?_
  refine G_istore_n X (lv' := [(0, .int v1)]) dJ6_bitCount_0f7a4_9 rfl (by decide) rfl ?_
  refine G_iload_n X 0 dJ6_bitCount_0f7a4_10 rfl rfl ?_
  refine G_ldc_w X (v := (858993459 : Int32)) dJ6_bitCount_0f7a4_11 wK_J6_266 ?_
  refine G_iand X dJ6_bitCount_0f7a4_14 ?_
  refine G_iload_n X 0 dJ6_bitCount_0f7a4_15 rfl rfl ?_
  refine G_iconst X (v := (2 : Int32)) dJ6_bitCount_0f7a4_16 (by decide) ?_
  refine G_iushr X dJ6_bitCount_0f7a4_17 ?_
  refine G_ldc_w X (v := (858993459 : Int32)) dJ6_bitCount_0f7a4_18 wK_J6_266 ?_
  refine G_iand X dJ6_bitCount_0f7a4_21 ?_
  refine G_iadd X dJ6_bitCount_0f7a4_22 ?_
  obtain ⟨v2, ev2, h⟩ := nm_some h
  refine G_nmi ev2 ?_
  refine G_istore_n X (lv' := [(0, .int v2)]) dJ6_bitCount_0f7a4_23 rfl (by decide) rfl ?_
  refine G_iload_n X 0 dJ6_bitCount_0f7a4_24 rfl rfl ?_
  refine G_iload_n X 0 dJ6_bitCount_0f7a4_25 rfl rfl ?_
  refine G_iconst X (v := (4 : Int32)) dJ6_bitCount_0f7a4_26 (by decide) ?_
  refine G_iushr X dJ6_bitCount_0f7a4_27 ?_
  refine G_iadd X dJ6_bitCount_0f7a4_28 ?_
  refine G_ldc_w X (v := (252645135 : Int32)) dJ6_bitCount_0f7a4_29 wK_J6_267 ?_
  refine G_iand X dJ6_bitCount_0f7a4_32 ?_
  obtain ⟨v3, ev3, h⟩ := nm_some h
  refine G_nmi ev3 ?_
  refine G_istore_n X (lv' := [(0, .int v3)]) dJ6_bitCount_0f7a4_33 rfl (by decide) rfl ?_
  refine G_iload_n X 0 dJ6_bitCount_0f7a4_34 rfl rfl ?_
  refine G_iload_n X 0 dJ6_bitCount_0f7a4_35 rfl rfl ?_
  refine G_bipush X (v := (8 : Int32)) dJ6_bitCount_0f7a4_36 (by decide) ?_
  refine G_iushr X dJ6_bitCount_0f7a4_38 ?_
  refine G_iadd X dJ6_bitCount_0f7a4_39 ?_
  obtain ⟨v4, ev4, h⟩ := nm_some h
  refine G_nmi ev4 ?_
  refine G_istore_n X (lv' := [(0, .int v4)]) dJ6_bitCount_0f7a4_40 rfl (by decide) rfl ?_
  refine G_iload_n X 0 dJ6_bitCount_0f7a4_41 rfl rfl ?_
  refine G_iload_n X 0 dJ6_bitCount_0f7a4_42 rfl rfl ?_
  refine G_bipush X (v := (16 : Int32)) dJ6_bitCount_0f7a4_43 (by decide) ?_
  refine G_iushr X dJ6_bitCount_0f7a4_45 ?_
  refine G_iadd X dJ6_bitCount_0f7a4_46 ?_
  obtain ⟨v5, ev5, h⟩ := nm_some h
  refine G_nmi ev5 ?_
  refine G_istore_n X (lv' := [(0, .int v5)]) dJ6_bitCount_0f7a4_47 rfl (by decide) rfl ?_
  refine G_iload_n X 0 dJ6_bitCount_0f7a4_48 rfl rfl ?_
  refine G_bipush X (v := (63 : Int32)) dJ6_bitCount_0f7a4_49 (by decide) ?_
  refine G_iand X dJ6_bitCount_0f7a4_51 ?_
  obtain rfl := Option.some.inj h
  exact hf _ _ dJ6_bitCount_0f7a4_52 rfl
set_option maxRecDepth 20000 in
theorem ct_J6_bitCount_0f7a4 {l : Launch} {κ : KX} {T : TT}   {a0 : Int32} {res : Int32}  (h : sJ6_bitCount_0f7a4 a0 = some res) : Ct l κ yJ6_bitCount_0f7a4 cJ6_bitCount_0f7a4 1 (some .int) 0 0 [.int a0] (T) (T) (some (.int (res))) := by
  refine Ct_i RJ6 rfl (by decide +kernel) (Nat.le_of_ble_eq_true rfl) (fun g hl hκ X hf => ?_)
  subst hl; subst hκ
  exact gJ6_bitCount_0f7a4 X  hf h
set_option maxRecDepth 20000 in
theorem gX5_nearPairs_b4 {g : GX} {T : TT} {r : Nat}  {x : St} {res : Int32}  (X : CX g RX5 cX5_nearPairs 3 1 20) (hr : isW r) (hf : FinI g cX5_nearPairs .int (rs T r x) (res))  : ∀ (n : Nat) (a1 : Int32) (a2 : Int32) (h : sX5_nearPairs_b4 n  x a1 a2 = some res), G g 0 0 (rs T r x) 4 [(0, .ref (xE (gκ g) r 0 0)), (1, .int a1), (2, .int a2)] [] := by
  intro n
  induction n with
  | zero => intro a1 a2 h; unfold sX5_nearPairs_b4 at h; cases h
  | succ n ih =>
    intro a1 a2 h
    unfold sX5_nearPairs_b4 at h
    refine G_iload_n X 2 dX5_nearPairs_4 rfl rfl ?_
    refine G_aload_n X 0 dX5_nearPairs_5 rfl rfl ?_
    refine f_X5_25 X (kd_w0 hr) (rg_rs _ _ _) dX5_nearPairs_6 ?_
    refine G_icmp_ge X (tgt := 33) dX5_nearPairs_9 (by decide) (fun c1 => ?_) (fun c1 => ?_)
    · have h := it_t c1 h
      refine G_iload_n X 1 dX5_nearPairs_33 rfl rfl ?_
      obtain rfl := Option.some.inj h
      exact hf _ _ dX5_nearPairs_34 rfl
    · have h := it_f c1 h
      refine G_iload_n X 1 dX5_nearPairs_12 rfl rfl ?_
      refine G_aload_n X 0 dX5_nearPairs_13 rfl rfl ?_
      refine f_X5_17 X (kd_w0 hr) rfl dX5_nearPairs_14 ?_
      refine G_iload_n X 2 dX5_nearPairs_17 rfl rfl ?_
      obtain ⟨g2, h⟩ := gd_some h
      refine G_aaldB X (kd_w2 hr) g2 dX5_nearPairs_18 ?_
      refine f_X5_61 X (kd_o0 hr (inb_isO (by decide) g2)) (rg_rs _ _ _) dX5_nearPairs_19 ?_
      obtain ⟨q3, hq3, h⟩ := bd_some h
      refine G_callS X (As := [.int (gI x (ix a2 + 1) 0 10)]) (rest := [.int a1]) (T' := rs T r x) (st2 := [.int q3, .int a1]) (ct_J6_bitCount_0f7a4 (l := g.2.1) (κ := gκ g)   hq3) cal_J6_bitCount_0f7a4 wM_X5_64 wT_J6_bitCount_0f7a4 (by decide) rfl rfl (Nat.le_of_ble_eq_true rfl) ⟨Nat.zero_le _, Nat.zero_le _⟩ dX5_nearPairs_22 rfl ?_
      refine G_iadd X dX5_nearPairs_25 ?_
      refine G_istore_n X (lv' := [(1, .int (a1 + q3)), (0, .ref (xE (gκ g) r 0 0)), (2, .int a2)]) dX5_nearPairs_26 rfl (by decide) rfl ?_
      obtain ⟨v4, ev4, h⟩ := nm_some h
      refine G_iinc X (v := v4) (lv' := [(2, .int v4), (1, .int (a1 + q3)), (0, .ref (xE (gκ g) r 0 0))]) 2 dX5_nearPairs_27 rfl (by rw [ev4]; rfl) (by decide) rfl ?_
      refine G_goto X (tgt := 4) dX5_nearPairs_30 (by decide) ?_
      refine G_sub [2, 1, 0] rfl ?_
      exact ih _ _ h
set_option maxRecDepth 20000 in
theorem gX5_nearPairs {g : GX} {T : TT} {r : Nat}  {x : St}  {res : Int32} (X : CX g RX5 cX5_nearPairs 3 1 20) (hr : isW r) (hf : FinI g cX5_nearPairs .int (rs T r x) (res)) (h : sX5_nearPairs x = some res) : G g 0 0 (rs T r x) 0 [(0, .ref (xE (gκ g) r 0 0))] [] := by
  unfold sX5_nearPairs at h
  refine G_iconst X (v := (0 : Int32)) dX5_nearPairs_0 (by decide) ?_
  refine G_istore_n X (lv' := [(1, .int ((0 : Int32))), (0, .ref (xE (gκ g) r 0 0))]) dX5_nearPairs_1 rfl (by decide) rfl ?_
  refine G_iconst X (v := (0 : Int32)) dX5_nearPairs_2 (by decide) ?_
  refine G_istore_n X (lv' := [(2, .int ((0 : Int32))), (1, .int ((0 : Int32))), (0, .ref (xE (gκ g) r 0 0))]) dX5_nearPairs_3 rfl (by decide) rfl ?_
  refine G_sub [2, 1, 0] rfl ?_
  exact gX5_nearPairs_b4 X hr hf FU _ _ h
set_option maxRecDepth 20000 in
theorem ct_X5_nearPairs {l : Launch} {κ : KX} {T : TT} {r : Nat}  {x : St}  {res : Int32} (hr : isW r) (h : sX5_nearPairs x = some res) : Ct l κ yX5_nearPairs cX5_nearPairs 3 (some .int) 1 20 [.ref (xE κ r 0 0)] (rs T r x) (rs T r x) (some (.int (res))) := by
  refine Ct_i RX5 rfl (by decide +kernel) (Nat.le_of_ble_eq_true rfl) (fun g hl hκ X hf => ?_)
  subst hl; subst hκ
  exact gX5_nearPairs X hr hf h
set_option maxRecDepth 20000 in
theorem gX5_inState_b4 {g : GX} {T : TT} {r : Nat}  {x : St} {res : Int32}  (X : CX g RX5 cX5_inState 4 0 0) (hr : isW r) (hf : FinI g cX5_inState .int (rs T r x) (res))  : ∀ (n : Nat) (a1 : Int32) (a2 : Int32) (a3 : Int32) (h : sX5_inState_b4 n  x a1 a2 a3 = some res), G g 0 0 (rs T r x) 4 [(0, .ref (xE (gκ g) r 0 0)), (1, .int a1), (2, .int a2), (3, .int a3)] [] := by
  intro n
  induction n with
  | zero => intro a1 a2 a3 h; unfold sX5_inState_b4 at h; cases h
  | succ n ih =>
    intro a1 a2 a3 h
    unfold sX5_inState_b4 at h
    refine G_iload_n X 3 dX5_inState_4 rfl rfl ?_
    refine G_aload_n X 0 dX5_inState_5 rfl rfl ?_
    refine f_X5_25 X (kd_w0 hr) (rg_rs _ _ _) dX5_inState_6 ?_
    refine G_icmp_ge X (tgt := 37) dX5_inState_9 (by decide) (fun c1 => ?_) (fun c1 => ?_)
    · have h := it_t c1 h
      refine G_iload_n X 2 dX5_inState_37 rfl rfl ?_
      obtain rfl := Option.some.inj h
      exact hf _ _ dX5_inState_38 rfl
    · have h := it_f c1 h
      refine G_aload_n X 0 dX5_inState_12 rfl rfl ?_
      refine f_X5_17 X (kd_w0 hr) rfl dX5_inState_13 ?_
      refine G_iload_n X 3 dX5_inState_16 rfl rfl ?_
      obtain ⟨g2, h⟩ := gd_some h
      refine G_aaldB X (kd_w2 hr) g2 dX5_inState_17 ?_
      refine f_X5_70 X (kd_o0 hr (inb_isO (by decide) g2)) (rg_rs _ _ _) dX5_inState_18 ?_
      refine G_iload_n X 1 dX5_inState_21 rfl rfl ?_
      refine G_icmp_ne X (tgt := 31) dX5_inState_22 (by decide) (fun c3 => ?_) (fun c3 => ?_)
      · have h := it_t c3 h
        obtain ⟨v4, ev4, h⟩ := nm_some h
        refine G_iinc X (v := v4) (lv' := [(3, .int v4), (0, .ref (xE (gκ g) r 0 0)), (1, .int a1), (2, .int a2)]) 3 dX5_inState_31 rfl (by rw [ev4]; rfl) (by decide) rfl ?_
        refine G_goto X (tgt := 4) dX5_inState_34 (by decide) ?_
        refine G_sub [1, 2, 3, 0] rfl ?_
        exact ih _ _ _ h
      · have h := it_f (fun k => k c3) h
        refine G_iload_n X 2 dX5_inState_25 rfl rfl ?_
        refine G_iconst X (v := (1 : Int32)) dX5_inState_26 (by decide) ?_
        refine G_iload_n X 3 dX5_inState_27 rfl rfl ?_
        refine G_ishl X dX5_inState_28 ?_
        refine G_ior X dX5_inState_29 ?_
        obtain ⟨v5, ev5, h⟩ := nm_some h
        refine G_nmi ev5 ?_
        refine G_istore_n X (lv' := [(2, .int v5), (0, .ref (xE (gκ g) r 0 0)), (1, .int a1), (3, .int a3)]) dX5_inState_30 rfl (by decide) rfl ?_
        obtain ⟨v6, ev6, h⟩ := nm_some h
        refine G_iinc X (v := v6) (lv' := [(3, .int v6), (2, .int v5), (0, .ref (xE (gκ g) r 0 0)), (1, .int a1)]) 3 dX5_inState_31 rfl (by rw [ev6]; rfl) (by decide) rfl ?_
        refine G_goto X (tgt := 4) dX5_inState_34 (by decide) ?_
        refine G_sub [2, 3, 1, 0] rfl ?_
        exact ih _ _ _ h
set_option maxRecDepth 20000 in
theorem gX5_inState {g : GX} {T : TT} {r : Nat}  {x : St} {a1 : Int32} {res : Int32} (X : CX g RX5 cX5_inState 4 0 0) (hr : isW r) (hf : FinI g cX5_inState .int (rs T r x) (res)) (h : sX5_inState x a1 = some res) : G g 0 0 (rs T r x) 0 [(0, .ref (xE (gκ g) r 0 0)), (1, .int a1)] [] := by
  unfold sX5_inState at h
  refine G_iconst X (v := (0 : Int32)) dX5_inState_0 (by decide) ?_
  refine G_istore_n X (lv' := [(2, .int ((0 : Int32))), (0, .ref (xE (gκ g) r 0 0)), (1, .int a1)]) dX5_inState_1 rfl (by decide) rfl ?_
  refine G_iconst X (v := (0 : Int32)) dX5_inState_2 (by decide) ?_
  refine G_istore_n X (lv' := [(3, .int ((0 : Int32))), (2, .int ((0 : Int32))), (0, .ref (xE (gκ g) r 0 0)), (1, .int a1)]) dX5_inState_3 rfl (by decide) rfl ?_
  refine G_sub [2, 3, 1, 0] rfl ?_
  exact gX5_inState_b4 X hr hf FU _ _ _ h
set_option maxRecDepth 20000 in
theorem ct_X5_inState {l : Launch} {κ : KX} {T : TT} {r : Nat}  {x : St} {a1 : Int32} {res : Int32} (hr : isW r) (h : sX5_inState x a1 = some res) : Ct l κ yX5_inState cX5_inState 4 (some .int) 0 0 [.ref (xE κ r 0 0), .int a1] (rs T r x) (rs T r x) (some (.int (res))) := by
  refine Ct_i RX5 rfl (by decide +kernel) (Nat.le_of_ble_eq_true rfl) (fun g hl hκ X hf => ?_)
  subst hl; subst hκ
  exact gX5_inState X hr hf h
set_option maxRecDepth 20000 in
theorem gX5_outCount {g : GX} {T : TT} {r : Nat}  {x : St}  {res : Int32} (X : CX g RX5 cX5_outCount 1 1 23) (hr : isW r) (hf : FinI g cX5_outCount .int (rs T r x) (res)) (h : sX5_outCount x = some res) : G g 0 0 (rs T r x) 0 [(0, .ref (xE (gκ g) r 0 0))] [] := by
  unfold sX5_outCount at h
  refine G_aload_n X 0 dX5_outCount_0 rfl rfl ?_
  refine G_iconst X (v := (4 : Int32)) dX5_outCount_1 (by decide) ?_
  obtain ⟨q1, hq1, h⟩ := bd_some h
  refine G_callV X (As := [.int ((4 : Int32))]) (rest := []) (T' := rs T r x) (st2 := [.int q1]) (ct_X5_inState (l := g.2.1) (κ := gκ g) (T := T) (r := r) (x := x) hr hq1) cal_X5_inState wM_X5_73 wI_X5_inState wS_X5_inState (kd_w0 hr) rfl (by decide) rfl rfl (Nat.le_of_ble_eq_true rfl) ⟨Nat.zero_le _, Nat.zero_le _⟩ dX5_outCount_2 rfl ?_
  obtain ⟨q2, hq2, h⟩ := bd_some h
  refine G_callS X (As := [.int q1]) (rest := []) (T' := rs T r x) (st2 := [.int q2]) (ct_J6_bitCount_0f7a4 (l := g.2.1) (κ := gκ g)   hq2) cal_J6_bitCount_0f7a4 wM_X5_64 wT_J6_bitCount_0f7a4 (by decide) rfl rfl (Nat.le_of_ble_eq_true rfl) ⟨Nat.zero_le _, Nat.zero_le _⟩ dX5_outCount_5 rfl ?_
  obtain rfl := Option.some.inj h
  exact hf _ _ dX5_outCount_8 rfl
set_option maxRecDepth 20000 in
theorem ct_X5_outCount {l : Launch} {κ : KX} {T : TT} {r : Nat}  {x : St}  {res : Int32} (hr : isW r) (h : sX5_outCount x = some res) : Ct l κ yX5_outCount cX5_outCount 1 (some .int) 1 23 [.ref (xE κ r 0 0)] (rs T r x) (rs T r x) (some (.int (res))) := by
  refine Ct_i RX5 rfl (by decide +kernel) (Nat.le_of_ble_eq_true rfl) (fun g hl hκ X hf => ?_)
  subst hl; subst hκ
  exact gX5_outCount X hr hf h
set_option maxRecDepth 20000 in
theorem gX5_knownTo_b4 {g : GX} {T : TT} {r : Nat} {o1 : Nat} {x : St} {res : Int32}  (X : CX g RX5 cX5_knownTo 5 0 0) (hr : isW r) (ho1 : isO o1) (hf : FinI g cX5_knownTo .int (rs T r x) (res))  : ∀ (n : Nat) (a2 : Int32) (a3 : Int32) (h : sX5_knownTo_b4 n  o1 x a2 a3 = some res), G g 0 0 (rs T r x) 4 [(0, .ref (xE (gκ g) r 0 0)), (1, .ref (xE (gκ g) r o1 0)), (2, .int a2), (3, .int a3)] [] := by
  intro n
  induction n with
  | zero => intro a2 a3 h; unfold sX5_knownTo_b4 at h; cases h
  | succ n ih =>
    intro a2 a3 h
    unfold sX5_knownTo_b4 at h
    refine G_iload_n X 3 dX5_knownTo_4 rfl rfl ?_
    refine G_aload_n X 0 dX5_knownTo_5 rfl rfl ?_
    refine f_X5_25 X (kd_w0 hr) (rg_rs _ _ _) dX5_knownTo_6 ?_
    refine G_icmp_ge X (tgt := 52) dX5_knownTo_9 (by decide) (fun c1 => ?_) (fun c1 => ?_)
    · have h := it_t c1 h
      refine G_iload_n X 2 dX5_knownTo_52 rfl rfl ?_
      obtain rfl := Option.some.inj h
      exact hf _ _ dX5_knownTo_53 rfl
    · have h := it_f c1 h
      refine G_aload_n X 1 dX5_knownTo_12 rfl rfl ?_
      refine f_X5_76 X (kd_o0 hr ho1) rfl dX5_knownTo_13 ?_
      refine G_iload_n X 3 dX5_knownTo_16 rfl rfl ?_
      obtain ⟨g2, h⟩ := gd_some h
      refine G_iald X (kd_o2 hr ho1) (rg_rs _ _ _) g2 dX5_knownTo_17 ?_
      refine G_istore X (lv' := [(4, .int (gI x o1 2 (ix a3))), (0, .ref (xE (gκ g) r 0 0)), (1, .ref (xE (gκ g) r o1 0)), (2, .int a2), (3, .int a3)]) dX5_knownTo_18 (by decide) rfl ?_
      refine G_iload X 0 dX5_knownTo_20 rfl ?_
      refine G_iconst X (v := (-1 : Int32)) dX5_knownTo_22 (by decide) ?_
      refine G_icmp_eq X (tgt := 46) dX5_knownTo_23 (by decide) (fun c3 => ?_) (fun c3 => ?_)
      · have h := it_t c3 h
        obtain ⟨v4, ev4, h⟩ := nm_some h
        refine G_iinc X (v := v4) (lv' := [(3, .int v4), (4, .int (gI x o1 2 (ix a3))), (0, .ref (xE (gκ g) r 0 0)), (1, .ref (xE (gκ g) r o1 0)), (2, .int a2)]) 4 dX5_knownTo_46 rfl (by rw [ev4]; rfl) (by decide) rfl ?_
        refine G_goto X (tgt := 4) dX5_knownTo_49 (by decide) ?_
        refine G_sub [2, 3, 4, 0] rfl ?_
        exact ih _ _ h
      · have h := it_f c3 h
        refine G_aload_n X 1 dX5_knownTo_26 rfl rfl ?_
        refine f_X5_38 X (kd_w0 hr) (rg_rs _ _ _) dX5_knownTo_27 ?_
        refine G_iload X 0 dX5_knownTo_30 rfl ?_
        refine G_isub X dX5_knownTo_32 ?_
        refine G_aload_n X 1 dX5_knownTo_33 rfl rfl ?_
        refine f_X5_35 X (kd_w0 hr) (rg_rs _ _ _) dX5_knownTo_34 ?_
        refine G_icmp_gt X (tgt := 46) dX5_knownTo_37 (by decide) (fun c5 => ?_) (fun c5 => ?_)
        · have h := it_t c5 h
          obtain ⟨v6, ev6, h⟩ := nm_some h
          refine G_iinc X (v := v6) (lv' := [(3, .int v6), (4, .int (gI x o1 2 (ix a3))), (0, .ref (xE (gκ g) r 0 0)), (1, .ref (xE (gκ g) r o1 0)), (2, .int a2)]) 4 dX5_knownTo_46 rfl (by rw [ev6]; rfl) (by decide) rfl ?_
          refine G_goto X (tgt := 4) dX5_knownTo_49 (by decide) ?_
          refine G_sub [2, 3, 4, 0] rfl ?_
          exact ih _ _ h
        · have h := it_f c5 h
          refine G_iload_n X 3 dX5_knownTo_40 rfl rfl ?_
          refine G_iconst X (v := (1 : Int32)) dX5_knownTo_41 (by decide) ?_
          refine G_iload_n X 4 dX5_knownTo_42 rfl rfl ?_
          refine G_ishl X dX5_knownTo_43 ?_
          refine G_ior X dX5_knownTo_44 ?_
          obtain ⟨v7, ev7, h⟩ := nm_some h
          refine G_nmi ev7 ?_
          refine G_istore_n X (lv' := [(2, .int v7), (4, .int (gI x o1 2 (ix a3))), (0, .ref (xE (gκ g) r 0 0)), (1, .ref (xE (gκ g) r o1 0)), (3, .int a3)]) dX5_knownTo_45 rfl (by decide) rfl ?_
          obtain ⟨v8, ev8, h⟩ := nm_some h
          refine G_iinc X (v := v8) (lv' := [(3, .int v8), (2, .int v7), (4, .int (gI x o1 2 (ix a3))), (0, .ref (xE (gκ g) r 0 0)), (1, .ref (xE (gκ g) r o1 0))]) 4 dX5_knownTo_46 rfl (by rw [ev8]; rfl) (by decide) rfl ?_
          refine G_goto X (tgt := 4) dX5_knownTo_49 (by decide) ?_
          refine G_sub [3, 4, 1, 0] rfl ?_
          exact ih _ _ h
set_option maxRecDepth 20000 in
theorem gX5_knownTo {g : GX} {T : TT} {r : Nat} {o1 : Nat} {x : St}  {res : Int32} (X : CX g RX5 cX5_knownTo 5 0 0) (hr : isW r) (ho1 : isO o1) (hf : FinI g cX5_knownTo .int (rs T r x) (res)) (h : sX5_knownTo o1 x = some res) : G g 0 0 (rs T r x) 0 [(0, .ref (xE (gκ g) r 0 0)), (1, .ref (xE (gκ g) r o1 0))] [] := by
  unfold sX5_knownTo at h
  refine G_iconst X (v := (0 : Int32)) dX5_knownTo_0 (by decide) ?_
  refine G_istore_n X (lv' := [(2, .int ((0 : Int32))), (0, .ref (xE (gκ g) r 0 0)), (1, .ref (xE (gκ g) r o1 0))]) dX5_knownTo_1 rfl (by decide) rfl ?_
  refine G_iconst X (v := (0 : Int32)) dX5_knownTo_2 (by decide) ?_
  refine G_istore_n X (lv' := [(3, .int ((0 : Int32))), (2, .int ((0 : Int32))), (0, .ref (xE (gκ g) r 0 0)), (1, .ref (xE (gκ g) r o1 0))]) dX5_knownTo_3 rfl (by decide) rfl ?_
  refine G_sub [2, 3, 1, 0] rfl ?_
  exact gX5_knownTo_b4 X hr ho1 hf FU _ _ h
set_option maxRecDepth 20000 in
theorem ct_X5_knownTo {l : Launch} {κ : KX} {T : TT} {r : Nat} {o1 : Nat} {x : St}  {res : Int32} (hr : isW r) (ho1 : isO o1) (h : sX5_knownTo o1 x = some res) : Ct l κ yX5_knownTo cX5_knownTo 5 (some .int) 0 0 [.ref (xE κ r 0 0), .ref (xE κ r o1 0)] (rs T r x) (rs T r x) (some (.int (res))) := by
  refine Ct_i RX5 rfl (by decide +kernel) (Nat.le_of_ble_eq_true rfl) (fun g hl hκ X hf => ?_)
  subst hl; subst hκ
  exact gX5_knownTo X hr ho1 hf h
set_option maxRecDepth 20000 in
theorem gX5_isAllKnown_b2 {g : GX} {T : TT} {r : Nat}  {x : St} {res : Int32}  (X : CX g RX5 cX5_isAllKnown 2 1 24) (hr : isW r) (hf : FinI g cX5_isAllKnown .boolean (rs T r x) (res))  : ∀ (n : Nat) (a1 : Int32) (h : sX5_isAllKnown_b2 n  x a1 = some res), G g 0 0 (rs T r x) 2 [(0, .ref (xE (gκ g) r 0 0)), (1, .int a1)] [] := by
  intro n
  induction n with
  | zero => intro a1 h; unfold sX5_isAllKnown_b2 at h; cases h
  | succ n ih =>
    intro a1 h
    unfold sX5_isAllKnown_b2 at h
    refine G_iload_n X 1 dX5_isAllKnown_2 rfl rfl ?_
    refine G_aload_n X 0 dX5_isAllKnown_3 rfl rfl ?_
    refine f_X5_25 X (kd_w0 hr) (rg_rs _ _ _) dX5_isAllKnown_4 ?_
    refine G_icmp_ge X (tgt := 43) dX5_isAllKnown_7 (by decide) (fun c1 => ?_) (fun c1 => ?_)
    · have h := it_t c1 h
      refine G_iconst X (v := (1 : Int32)) dX5_isAllKnown_43 (by decide) ?_
      obtain rfl := Option.some.inj h
      exact hf _ _ dX5_isAllKnown_44 (isb_n (v := (1 : Int32)) rfl)
    · have h := it_f c1 h
      refine G_aload_n X 0 dX5_isAllKnown_10 rfl rfl ?_
      refine f_X5_17 X (kd_w0 hr) rfl dX5_isAllKnown_11 ?_
      refine G_iload_n X 1 dX5_isAllKnown_14 rfl rfl ?_
      obtain ⟨g2, h⟩ := gd_some h
      refine G_aaldB X (kd_w2 hr) g2 dX5_isAllKnown_15 ?_
      refine f_X5_61 X (kd_o0 hr (inb_isO (by decide) g2)) (rg_rs _ _ _) dX5_isAllKnown_16 ?_
      refine G_aload_n X 0 dX5_isAllKnown_19 rfl rfl ?_
      refine G_aload_n X 0 dX5_isAllKnown_20 rfl rfl ?_
      refine f_X5_17 X (kd_w0 hr) rfl dX5_isAllKnown_21 ?_
      refine G_iload_n X 1 dX5_isAllKnown_24 rfl rfl ?_
      obtain ⟨g3, h⟩ := gd_some h
      refine G_aaldB X (kd_w2 hr) g3 dX5_isAllKnown_25 ?_
      obtain ⟨q4, hq4, h⟩ := bd_some h
      refine G_callV X (As := [.ref (xE (gκ g) r (ix a1 + 1) 0)]) (rest := [.int (gI x (ix a1 + 1) 0 10)]) (T' := rs T r x) (st2 := [.int q4, .int (gI x (ix a1 + 1) 0 10)]) (ct_X5_knownTo (l := g.2.1) (κ := gκ g) (T := T) (r := r) (x := x) hr (inb_isO (by decide) g3) hq4) cal_X5_knownTo wM_X5_79 wI_X5_knownTo wS_X5_knownTo (kd_w0 hr) rfl (by decide) rfl rfl (Nat.le_of_ble_eq_true rfl) ⟨Nat.zero_le _, Nat.zero_le _⟩ dX5_isAllKnown_26 rfl ?_
      refine G_iconst X (v := (-1 : Int32)) dX5_isAllKnown_29 (by decide) ?_
      refine G_ixor X dX5_isAllKnown_30 ?_
      refine G_iand X dX5_isAllKnown_31 ?_
      refine G_if_eq X (tgt := 37) dX5_isAllKnown_32 (by decide) (fun c5 => ?_) (fun c5 => ?_)
      · have h := it_t c5 h
        obtain ⟨v6, ev6, h⟩ := nm_some h
        refine G_iinc X (v := v6) (lv' := [(1, .int v6), (0, .ref (xE (gκ g) r 0 0))]) 1 dX5_isAllKnown_37 rfl (by rw [ev6]; rfl) (by decide) rfl ?_
        refine G_goto X (tgt := 2) dX5_isAllKnown_40 (by decide) ?_
        refine G_sub [1, 0] rfl ?_
        exact ih _ h
      · have h := it_f c5 h
        refine G_iconst X (v := (0 : Int32)) dX5_isAllKnown_35 (by decide) ?_
        obtain rfl := Option.some.inj h
        exact hf _ _ dX5_isAllKnown_36 (isb_n (v := (0 : Int32)) rfl)
set_option maxRecDepth 20000 in
theorem gX5_isAllKnown {g : GX} {T : TT} {r : Nat}  {x : St}  {res : Int32} (X : CX g RX5 cX5_isAllKnown 2 1 24) (hr : isW r) (hf : FinI g cX5_isAllKnown .boolean (rs T r x) (res)) (h : sX5_isAllKnown x = some res) : G g 0 0 (rs T r x) 0 [(0, .ref (xE (gκ g) r 0 0))] [] := by
  unfold sX5_isAllKnown at h
  refine G_iconst X (v := (0 : Int32)) dX5_isAllKnown_0 (by decide) ?_
  refine G_istore_n X (lv' := [(1, .int ((0 : Int32))), (0, .ref (xE (gκ g) r 0 0))]) dX5_isAllKnown_1 rfl (by decide) rfl ?_
  refine G_sub [1, 0] rfl ?_
  exact gX5_isAllKnown_b2 X hr hf FU _ h
set_option maxRecDepth 20000 in
theorem ct_X5_isAllKnown {l : Launch} {κ : KX} {T : TT} {r : Nat}  {x : St}  {res : Int32} (hr : isW r) (h : sX5_isAllKnown x = some res) : Ct l κ yX5_isAllKnown cX5_isAllKnown 2 (some .boolean) 1 24 [.ref (xE κ r 0 0)] (rs T r x) (rs T r x) (some (.int (res))) := by
  refine Ct_i RX5 rfl (by decide +kernel) (Nat.le_of_ble_eq_true rfl) (fun g hl hκ X hf => ?_)
  subst hl; subst hκ
  exact gX5_isAllKnown X hr hf h
set_option maxRecDepth 20000 in
theorem gX6_isIn {g : GX} {T : TT}   {a0 : Int32} {a1 : Int32} {res : Int32} (X : CX g RX6 cX6_isIn 2 0 0)  (hf : FinI g cX6_isIn .boolean (T) (res)) (h : sX6_isIn a0 a1 = some res) : G g 0 0 (T) 0 [(0, .int a0), (1, .int a1)] [] := by
  unfold sX6_isIn at h
  refine G_iload_n X 0 dX6_isIn_0 rfl rfl ?_
  refine G_iload_n X 1 dX6_isIn_1 rfl rfl ?_
  refine G_ishr X dX6_isIn_2 ?_
  refine G_iconst X (v := (1 : Int32)) dX6_isIn_3 (by decide) ?_
  refine G_iand X dX6_isIn_4 ?_
  refine G_if_eq X (tgt := 12) dX6_isIn_5 (by decide) (fun c1 => ?_) (fun c1 => ?_)
  · have h := it_t c1 h
    refine G_iconst X (v := (0 : Int32)) dX6_isIn_12 (by decide) ?_
    obtain rfl := Option.some.inj h
    exact hf _ _ dX6_isIn_13 (isb_n (v := (0 : Int32)) rfl)
  · have h := it_f c1 h
    refine G_iconst X (v := (1 : Int32)) dX6_isIn_8 (by decide) ?_
    refine G_goto X (tgt := 13) dX6_isIn_9 (by decide) ?_
    obtain rfl := Option.some.inj h
    exact hf _ _ dX6_isIn_13 (isb_n (v := (1 : Int32)) rfl)
set_option maxRecDepth 20000 in
theorem ct_X6_isIn {l : Launch} {κ : KX} {T : TT}   {a0 : Int32} {a1 : Int32} {res : Int32}  (h : sX6_isIn a0 a1 = some res) : Ct l κ yX6_isIn cX6_isIn 2 (some .boolean) 0 0 [.int a0, .int a1] (T) (T) (some (.int (res))) := by
  refine Ct_i RX6 rfl (by decide +kernel) (Nat.le_of_ble_eq_true rfl) (fun g hl hκ X hf => ?_)
  subst hl; subst hκ
  exact gX6_isIn X  hf h
set_option maxRecDepth 20000 in
theorem gX5_withNear_b4 {g : GX} {T : TT} {r : Nat}  {x : St} {res : Int32}  (X : CX g RX5 cX5_withNear 4 1 21) (hr : isW r) (hf : FinI g cX5_withNear .int (rs T r x) (res))  : ∀ (n : Nat) (a1 : Int32) (a2 : Int32) (a3 : Int32) (h : sX5_withNear_b4 n  x a1 a2 a3 = some res), G g 0 0 (rs T r x) 4 [(0, .ref (xE (gκ g) r 0 0)), (1, .int a1), (2, .int a2), (3, .int a3)] [] := by
  intro n
  induction n with
  | zero => intro a1 a2 a3 h; unfold sX5_withNear_b4 at h; cases h
  | succ n ih =>
    intro a1 a2 a3 h
    unfold sX5_withNear_b4 at h
    refine G_iload_n X 3 dX5_withNear_4 rfl rfl ?_
    refine G_aload_n X 0 dX5_withNear_5 rfl rfl ?_
    refine f_X5_25 X (kd_w0 hr) (rg_rs _ _ _) dX5_withNear_6 ?_
    refine G_icmp_ge X (tgt := 38) dX5_withNear_9 (by decide) (fun c1 => ?_) (fun c1 => ?_)
    · have h := it_t c1 h
      refine G_iload_n X 2 dX5_withNear_38 rfl rfl ?_
      obtain rfl := Option.some.inj h
      exact hf _ _ dX5_withNear_39 rfl
    · have h := it_f c1 h
      refine G_iload_n X 1 dX5_withNear_12 rfl rfl ?_
      refine G_iload_n X 3 dX5_withNear_13 rfl rfl ?_
      obtain ⟨q2, hq2, h⟩ := bd_some h
      refine G_callSN X (As := [.int a1, .int a3]) (rest := []) (T' := rs T r x) (st2 := [.int q2]) (ct_X6_isIn (l := g.2.1) (κ := gκ g)   hq2) cal_X6_isIn nM_X5_83 wT_X6_isIn (by decide) rfl rfl (Nat.le_of_ble_eq_true rfl) ⟨Nat.zero_le _, Nat.zero_le _⟩ dX5_withNear_14 rfl ?_
      refine G_if_eq X (tgt := 32) dX5_withNear_17 (by decide) (fun c3 => ?_) (fun c3 => ?_)
      · have h := it_t c3 h
        obtain ⟨v4, ev4, h⟩ := nm_some h
        refine G_iinc X (v := v4) (lv' := [(3, .int v4), (0, .ref (xE (gκ g) r 0 0)), (1, .int a1), (2, .int a2)]) 3 dX5_withNear_32 rfl (by rw [ev4]; rfl) (by decide) rfl ?_
        refine G_goto X (tgt := 4) dX5_withNear_35 (by decide) ?_
        refine G_sub [1, 2, 3, 0] rfl ?_
        exact ih _ _ _ h
      · have h := it_f c3 h
        refine G_iload_n X 2 dX5_withNear_20 rfl rfl ?_
        refine G_aload_n X 0 dX5_withNear_21 rfl rfl ?_
        refine f_X5_17 X (kd_w0 hr) rfl dX5_withNear_22 ?_
        refine G_iload_n X 3 dX5_withNear_25 rfl rfl ?_
        obtain ⟨g5, h⟩ := gd_some h
        refine G_aaldB X (kd_w2 hr) g5 dX5_withNear_26 ?_
        refine f_X5_61 X (kd_o0 hr (inb_isO (by decide) g5)) (rg_rs _ _ _) dX5_withNear_27 ?_
        refine G_ior X dX5_withNear_30 ?_
        refine G_istore_n X (lv' := [(2, .int (a2 ||| (gI x (ix a3 + 1) 0 10))), (0, .ref (xE (gκ g) r 0 0)), (1, .int a1), (3, .int a3)]) dX5_withNear_31 rfl (by decide) rfl ?_
        obtain ⟨v6, ev6, h⟩ := nm_some h
        refine G_iinc X (v := v6) (lv' := [(3, .int v6), (2, .int (a2 ||| (gI x (ix a3 + 1) 0 10))), (0, .ref (xE (gκ g) r 0 0)), (1, .int a1)]) 3 dX5_withNear_32 rfl (by rw [ev6]; rfl) (by decide) rfl ?_
        refine G_goto X (tgt := 4) dX5_withNear_35 (by decide) ?_
        refine G_sub [2, 3, 1, 0] rfl ?_
        exact ih _ _ _ h
set_option maxRecDepth 20000 in
theorem gX5_withNear {g : GX} {T : TT} {r : Nat}  {x : St} {a1 : Int32} {res : Int32} (X : CX g RX5 cX5_withNear 4 1 21) (hr : isW r) (hf : FinI g cX5_withNear .int (rs T r x) (res)) (h : sX5_withNear x a1 = some res) : G g 0 0 (rs T r x) 0 [(0, .ref (xE (gκ g) r 0 0)), (1, .int a1)] [] := by
  unfold sX5_withNear at h
  refine G_iload_n X 1 dX5_withNear_0 rfl rfl ?_
  refine G_istore_n X (lv' := [(2, .int a1), (0, .ref (xE (gκ g) r 0 0)), (1, .int a1)]) dX5_withNear_1 rfl (by decide) rfl ?_
  refine G_iconst X (v := (0 : Int32)) dX5_withNear_2 (by decide) ?_
  refine G_istore_n X (lv' := [(3, .int ((0 : Int32))), (2, .int a1), (0, .ref (xE (gκ g) r 0 0)), (1, .int a1)]) dX5_withNear_3 rfl (by decide) rfl ?_
  refine G_sub [2, 3, 1, 0] rfl ?_
  exact gX5_withNear_b4 X hr hf FU _ _ _ h
set_option maxRecDepth 20000 in
theorem ct_X5_withNear {l : Launch} {κ : KX} {T : TT} {r : Nat}  {x : St} {a1 : Int32} {res : Int32} (hr : isW r) (h : sX5_withNear x a1 = some res) : Ct l κ yX5_withNear cX5_withNear 4 (some .int) 1 21 [.ref (xE κ r 0 0), .int a1] (rs T r x) (rs T r x) (some (.int (res))) := by
  refine Ct_i RX5 rfl (by decide +kernel) (Nat.le_of_ble_eq_true rfl) (fun g hl hκ X hf => ?_)
  subst hl; subst hκ
  exact gX5_withNear X hr hf h
set_option maxRecDepth 20000 in
theorem gX5_withAllReached_b4 {g : GX} {T : TT} {r : Nat}  {x : St} {res : Int32}  (X : CX g RX5 cX5_withAllReached 4 2 44) (hr : isW r) (hf : FinI g cX5_withAllReached .int (rs T r x) (res))  : ∀ (n : Nat) (a2 : Int32) (a3 : Int32) (h : sX5_withAllReached_b4 n  x a2 a3 = some res), G g 0 0 (rs T r x) 4 [(0, .ref (xE (gκ g) r 0 0)), (2, .int a2), (3, .int a3)] [] := by
  intro n
  induction n with
  | zero => intro a2 a3 h; unfold sX5_withAllReached_b4 at h; cases h
  | succ n ih =>
    intro a2 a3 h
    unfold sX5_withAllReached_b4 at h
    refine G_iload_n X 2 dX5_withAllReached_4 rfl rfl ?_
    refine G_bipush X (v := (8 : Int32)) dX5_withAllReached_5 (by decide) ?_
    refine G_icmp_ge X (tgt := 22) dX5_withAllReached_7 (by decide) (fun c1 => ?_) (fun c1 => ?_)
    · have h := it_t c1 h
      refine G_iload_n X 1 dX5_withAllReached_22 rfl rfl ?_
      obtain rfl := Option.some.inj h
      exact hf _ _ dX5_withAllReached_23 rfl
    · have h := it_f c1 h
      refine G_aload_n X 0 dX5_withAllReached_10 rfl rfl ?_
      refine G_iload_n X 1 dX5_withAllReached_11 rfl rfl ?_
      obtain ⟨q2, hq2, h⟩ := bd_some h
      refine G_callV X (As := [.int a2]) (rest := []) (T' := rs T r x) (st2 := [.int q2]) (ct_X5_withNear (l := g.2.1) (κ := gκ g) (T := T) (r := r) (x := x) hr hq2) cal_X5_withNear wM_X5_87 wI_X5_withNear wS_X5_withNear (kd_w0 hr) rfl (by decide) rfl rfl (Nat.le_of_ble_eq_true rfl) ⟨Nat.zero_le _, Nat.zero_le _⟩ dX5_withAllReached_12 rfl ?_
      refine G_istore_n X (lv' := [(2, .int q2), (0, .ref (xE (gκ g) r 0 0)), (3, .int a3)]) dX5_withAllReached_15 rfl (by decide) rfl ?_
      obtain ⟨v3, ev3, h⟩ := nm_some h
      refine G_iinc X (v := v3) (lv' := [(3, .int v3), (2, .int q2), (0, .ref (xE (gκ g) r 0 0))]) 2 dX5_withAllReached_16 rfl (by rw [ev3]; rfl) (by decide) rfl ?_
      refine G_goto X (tgt := 4) dX5_withAllReached_19 (by decide) ?_
      refine G_sub [2, 1, 0] rfl ?_
      exact ih _ _ h
set_option maxRecDepth 20000 in
theorem gX5_withAllReached {g : GX} {T : TT} {r : Nat}  {x : St} {a1 : Int32} {res : Int32} (X : CX g RX5 cX5_withAllReached 4 2 44) (hr : isW r) (hf : FinI g cX5_withAllReached .int (rs T r x) (res)) (h : sX5_withAllReached x a1 = some res) : G g 0 0 (rs T r x) 0 [(0, .ref (xE (gκ g) r 0 0)), (1, .int a1)] [] := by
  unfold sX5_withAllReached at h
  refine G_iload_n X 1 dX5_withAllReached_0 rfl rfl ?_
  refine G_istore_n X (lv' := [(2, .int a1), (0, .ref (xE (gκ g) r 0 0)), (1, .int a1)]) dX5_withAllReached_1 rfl (by decide) rfl ?_
  refine G_iconst X (v := (1 : Int32)) dX5_withAllReached_2 (by decide) ?_
  refine G_istore_n X (lv' := [(3, .int ((1 : Int32))), (2, .int a1), (0, .ref (xE (gκ g) r 0 0)), (1, .int a1)]) dX5_withAllReached_3 rfl (by decide) rfl ?_
  refine G_sub [2, 1, 0] rfl ?_
  exact gX5_withAllReached_b4 X hr hf FU _ _ h
set_option maxRecDepth 20000 in
theorem ct_X5_withAllReached {l : Launch} {κ : KX} {T : TT} {r : Nat}  {x : St} {a1 : Int32} {res : Int32} (hr : isW r) (h : sX5_withAllReached x a1 = some res) : Ct l κ yX5_withAllReached cX5_withAllReached 4 (some .int) 2 44 [.ref (xE κ r 0 0), .int a1] (rs T r x) (rs T r x) (some (.int (res))) := by
  refine Ct_i RX5 rfl (by decide +kernel) (Nat.le_of_ble_eq_true rfl) (fun g hl hκ X hf => ?_)
  subst hl; subst hκ
  exact gX5_withAllReached X hr hf h
set_option maxRecDepth 20000 in
theorem gX5_switchNear {g : GX} {T : TT} {r : Nat}  {x : St} {a1 : Int32} {a2 : Int32} {res : St} (X : CX g RX5 cX5_switchNear 3 0 0) (hr : isW r) (hf : FinV g cX5_switchNear (rs T r res)) (h : sX5_switchNear x a1 a2 = some res) : G g 0 0 (rs T r x) 0 [(0, .ref (xE (gκ g) r 0 0)), (1, .int a1), (2, .int a2)] [] := by
  unfold sX5_switchNear at h
  refine G_aload_n X 0 dX5_switchNear_0 rfl rfl ?_
  refine f_X5_17 X (kd_w0 hr) rfl dX5_switchNear_1 ?_
  refine G_iload_n X 1 dX5_switchNear_4 rfl rfl ?_
  obtain ⟨g1, h⟩ := gd_some h
  refine G_aaldB X (kd_w2 hr) g1 dX5_switchNear_5 ?_
  refine G_dup X dX5_switchNear_6 rfl ?_
  refine f_X5_61 X (kd_o0 hr (inb_isO (by decide) g1)) (rg_rs _ _ _) dX5_switchNear_7 ?_
  refine G_iconst X (v := (1 : Int32)) dX5_switchNear_10 (by decide) ?_
  refine G_iload_n X 2 dX5_switchNear_11 rfl rfl ?_
  refine G_ishl X dX5_switchNear_12 ?_
  refine G_ixor X dX5_switchNear_13 ?_
  obtain ⟨v2, ev2, h⟩ := nm_some h
  refine G_nmi ev2 ?_
  obtain ⟨x3, ex3, h⟩ := nm_some h
  refine p_X5_61 X (T' := rs T r x3) (kd_o0 hr (inb_isO (by decide) g1)) (rg_rs _ _ _)  (by rw [rs_rs, ex3]) dX5_switchNear_14 ?_
  refine G_aload_n X 0 dX5_switchNear_17 rfl rfl ?_
  refine f_X5_17 X (kd_w0 hr) rfl dX5_switchNear_18 ?_
  refine G_iload_n X 2 dX5_switchNear_21 rfl rfl ?_
  obtain ⟨g4, h⟩ := gd_some h
  refine G_aaldB X (kd_w2 hr) g4 dX5_switchNear_22 ?_
  refine G_dup X dX5_switchNear_23 rfl ?_
  refine f_X5_61 X (kd_o0 hr (inb_isO (by decide) g4)) (rg_rs _ _ _) dX5_switchNear_24 ?_
  refine G_iconst X (v := (1 : Int32)) dX5_switchNear_27 (by decide) ?_
  refine G_iload_n X 1 dX5_switchNear_28 rfl rfl ?_
  refine G_ishl X dX5_switchNear_29 ?_
  refine G_ixor X dX5_switchNear_30 ?_
  obtain ⟨v5, ev5, h⟩ := nm_some h
  refine G_nmi ev5 ?_
  obtain ⟨x6, ex6, h⟩ := nm_some h
  refine p_X5_61 X (T' := rs T r x6) (kd_o0 hr (inb_isO (by decide) g4)) (rg_rs _ _ _)  (by rw [rs_rs, ex6]) dX5_switchNear_31 ?_
  obtain rfl := Option.some.inj h
  exact hf _ _ dX5_switchNear_34
set_option maxRecDepth 20000 in
theorem ct_X5_switchNear {l : Launch} {κ : KX} {T : TT} {r : Nat}  {x : St} {a1 : Int32} {a2 : Int32} {res : St} (hr : isW r) (h : sX5_switchNear x a1 a2 = some res) : Ct l κ yX5_switchNear cX5_switchNear 3 none 0 0 [.ref (xE κ r 0 0), .int a1, .int a2] (rs T r x) (rs T r res) none := by
  refine Ct_v RX5 rfl (by decide +kernel) (Nat.le_of_ble_eq_true rfl) (fun g hl hκ X hf => ?_)
  subst hl; subst hκ
  exact gX5_switchNear X hr hf h
set_option maxRecDepth 20000 in
theorem gX5_mayPass {g : GX} {T : TT} {r : Nat}  {x : St} {a1 : Int32} {res : Int32} (X : CX g RX5 cX5_mayPass 2 0 0) (hr : isW r) (hf : FinI g cX5_mayPass .boolean (rs T r x) (res)) (h : sX5_mayPass x a1 = some res) : G g 0 0 (rs T r x) 0 [(0, .ref (xE (gκ g) r 0 0)), (1, .int a1)] [] := by
  unfold sX5_mayPass at h
  refine G_iload_n X 1 dX5_mayPass_0 rfl rfl ?_
  refine G_iconst X (v := (1 : Int32)) dX5_mayPass_1 (by decide) ?_
  refine G_icmp_lt X (tgt := 26) dX5_mayPass_2 (by decide) (fun c1 => ?_) (fun c1 => ?_)
  · have h := it_t c1 h
    refine G_iconst X (v := (0 : Int32)) dX5_mayPass_26 (by decide) ?_
    obtain rfl := Option.some.inj h
    exact hf _ _ dX5_mayPass_27 (isb_n (v := (0 : Int32)) rfl)
  · have h := it_f c1 h
    refine G_iload_n X 1 dX5_mayPass_5 rfl rfl ?_
    refine G_bipush X (v := (99 : Int32)) dX5_mayPass_6 (by decide) ?_
    refine G_icmp_gt X (tgt := 26) dX5_mayPass_8 (by decide) (fun c2 => ?_) (fun c2 => ?_)
    · have h := it_t c2 h
      refine G_iconst X (v := (0 : Int32)) dX5_mayPass_26 (by decide) ?_
      obtain rfl := Option.some.inj h
      exact hf _ _ dX5_mayPass_27 (isb_n (v := (0 : Int32)) rfl)
    · have h := it_f c2 h
      refine G_aload_n X 0 dX5_mayPass_11 rfl rfl ?_
      refine f_X5_38 X (kd_w0 hr) (rg_rs _ _ _) dX5_mayPass_12 ?_
      refine G_iload_n X 1 dX5_mayPass_15 rfl rfl ?_
      refine G_iadd X dX5_mayPass_16 ?_
      refine G_ldc X (v := (99999 : Int32)) dX5_mayPass_17 wK_X5_90 ?_
      refine G_icmp_gt X (tgt := 26) dX5_mayPass_19 (by decide) (fun c3 => ?_) (fun c3 => ?_)
      · have h := it_t c3 h
        refine G_iconst X (v := (0 : Int32)) dX5_mayPass_26 (by decide) ?_
        obtain rfl := Option.some.inj h
        exact hf _ _ dX5_mayPass_27 (isb_n (v := (0 : Int32)) rfl)
      · have h := it_f c3 h
        refine G_iconst X (v := (1 : Int32)) dX5_mayPass_22 (by decide) ?_
        refine G_goto X (tgt := 27) dX5_mayPass_23 (by decide) ?_
        obtain rfl := Option.some.inj h
        exact hf _ _ dX5_mayPass_27 (isb_n (v := (1 : Int32)) rfl)
set_option maxRecDepth 20000 in
theorem ct_X5_mayPass {l : Launch} {κ : KX} {T : TT} {r : Nat}  {x : St} {a1 : Int32} {res : Int32} (hr : isW r) (h : sX5_mayPass x a1 = some res) : Ct l κ yX5_mayPass cX5_mayPass 2 (some .boolean) 0 0 [.ref (xE κ r 0 0), .int a1] (rs T r x) (rs T r x) (some (.int (res))) := by
  refine Ct_i RX5 rfl (by decide +kernel) (Nat.le_of_ble_eq_true rfl) (fun g hl hκ X hf => ?_)
  subst hl; subst hκ
  exact gX5_mayPass X hr hf h
set_option maxRecDepth 20000 in
theorem gX5_wakeOrSkip_b37 {g : GX} {T : TT} {r : Nat} {o1 : Nat} {x : St}  {res : St}  (X : CX g RX5 cX5_wakeOrSkip 2 1 24) (hr : isW r) (ho1 : isO o1) (hf : FinV g cX5_wakeOrSkip (rs T r res))   (h : sX5_wakeOrSkip_b37  o1 x = some res) : G g 0 0 (rs T r x) 37 [(1, .ref (xE (gκ g) r o1 0))] [] := by
  unfold sX5_wakeOrSkip_b37 at h
  refine G_aload_n X 0 dX5_wakeOrSkip_37 rfl rfl ?_
  obtain ⟨q6, hq6, h⟩ := bd_some h
  refine G_callVN X (As := []) (rest := []) (T' := rs T r q6) (st2 := []) (ct_X0_startListening (l := g.2.1) (κ := gκ g) (T := T) (r := r) (x := x) hr ho1 hq6) cal_X0_startListening nM_X5_123 wI_X0_startListening wS_X0_startListening (kd_o0 hr ho1) rfl (by decide) rfl rfl (Nat.le_of_ble_eq_true rfl) ⟨Nat.zero_le _, Nat.zero_le _⟩ dX5_wakeOrSkip_38 rfl ?_
  obtain rfl := Option.some.inj h
  exact hf _ _ dX5_wakeOrSkip_41
set_option maxRecDepth 20000 in
theorem gX5_wakeOrSkip {g : GX} {T : TT} {r : Nat} {o1 : Nat} {x : St}  {res : St} (X : CX g RX5 cX5_wakeOrSkip 2 1 24) (hr : isW r) (ho1 : isO o1) (hf : FinV g cX5_wakeOrSkip (rs T r res)) (h : sX5_wakeOrSkip o1 x = some res) : G g 0 0 (rs T r x) 0 [(0, .ref (xE (gκ g) r 0 0)), (1, .ref (xE (gκ g) r o1 0))] [] := by
  unfold sX5_wakeOrSkip at h
  refine G_aload_n X 1 dX5_wakeOrSkip_0 rfl rfl ?_
  refine f_X5_119 X (kd_o0 hr ho1) (rg_rs _ _ _) dX5_wakeOrSkip_1 ?_
  refine G_if_ne X (tgt := 37) dX5_wakeOrSkip_4 (by decide) (fun c1 => ?_) (fun c1 => ?_)
  · have h := it_t c1 h
    refine G_sub [1] rfl ?_
    exact gX5_wakeOrSkip_b37 X hr ho1 hf h
  · have h := it_f (fun k => k c1) h
    refine G_aload_n X 1 dX5_wakeOrSkip_7 rfl rfl ?_
    refine f_X5_61 X (kd_o0 hr ho1) (rg_rs _ _ _) dX5_wakeOrSkip_8 ?_
    refine G_if_eq X (tgt := 37) dX5_wakeOrSkip_11 (by decide) (fun c2 => ?_) (fun c2 => ?_)
    · have h := it_t c2 h
      refine G_sub [1] rfl ?_
      exact gX5_wakeOrSkip_b37 X hr ho1 hf h
    · have h := it_f c2 h
      refine G_aload_n X 1 dX5_wakeOrSkip_14 rfl rfl ?_
      refine f_X5_61 X (kd_o0 hr ho1) (rg_rs _ _ _) dX5_wakeOrSkip_15 ?_
      refine G_aload_n X 0 dX5_wakeOrSkip_18 rfl rfl ?_
      refine G_aload_n X 1 dX5_wakeOrSkip_19 rfl rfl ?_
      obtain ⟨q3, hq3, h⟩ := bd_some h
      refine G_callV X (As := [.ref (xE (gκ g) r o1 0)]) (rest := [.int (gI x o1 0 10)]) (T' := rs T r x) (st2 := [.int q3, .int (gI x o1 0 10)]) (ct_X5_knownTo (l := g.2.1) (κ := gκ g) (T := T) (r := r) (x := x) hr ho1 hq3) cal_X5_knownTo wM_X5_79 wI_X5_knownTo wS_X5_knownTo (kd_w0 hr) rfl (by decide) rfl rfl (Nat.le_of_ble_eq_true rfl) ⟨Nat.zero_le _, Nat.zero_le _⟩ dX5_wakeOrSkip_20 rfl ?_
      refine G_iconst X (v := (-1 : Int32)) dX5_wakeOrSkip_23 (by decide) ?_
      refine G_ixor X dX5_wakeOrSkip_24 ?_
      refine G_iand X dX5_wakeOrSkip_25 ?_
      refine G_if_ne X (tgt := 37) dX5_wakeOrSkip_26 (by decide) (fun c4 => ?_) (fun c4 => ?_)
      · have h := it_t c4 h
        refine G_sub [1] rfl ?_
        exact gX5_wakeOrSkip_b37 X hr ho1 hf h
      · have h := it_f (fun k => k c4) h
        refine G_aload_n X 1 dX5_wakeOrSkip_29 rfl rfl ?_
        refine G_iconst X (v := (1 : Int32)) dX5_wakeOrSkip_30 (by decide) ?_
        obtain ⟨x5, ex5, h⟩ := nm_some h
        refine p_X5_119 X (T' := rs T r x5) (kd_o0 hr ho1) (rg_rs _ _ _) (by decide)  (by rw [rs_rs, ex5]) dX5_wakeOrSkip_31 ?_
        refine G_goto X (tgt := 41) dX5_wakeOrSkip_34 (by decide) ?_
        obtain rfl := Option.some.inj h
        exact hf _ _ dX5_wakeOrSkip_41
set_option maxRecDepth 20000 in
theorem ct_X5_wakeOrSkip {l : Launch} {κ : KX} {T : TT} {r : Nat} {o1 : Nat} {x : St}  {res : St} (hr : isW r) (ho1 : isO o1) (h : sX5_wakeOrSkip o1 x = some res) : Ct l κ yX5_wakeOrSkip cX5_wakeOrSkip 2 none 1 24 [.ref (xE κ r 0 0), .ref (xE κ r o1 0)] (rs T r x) (rs T r res) none := by
  refine Ct_v RX5 rfl (by decide +kernel) (Nat.le_of_ble_eq_true rfl) (fun g hl hκ X hf => ?_)
  subst hl; subst hκ
  exact gX5_wakeOrSkip X hr ho1 hf h
set_option maxRecDepth 20000 in
theorem gX5_waitByDraw {g : GX} {T : TT} {r : Nat} {o1 : Nat} {x : St}  {res : St} (X : CX g RX5 cX5_waitByDraw 3 2 41) (hr : isW r) (ho1 : isO o1) (hf : FinV g cX5_waitByDraw (rs T r res)) (h : sX5_waitByDraw o1 x = some res) : G g 0 0 (rs T r x) 0 [(0, .ref (xE (gκ g) r 0 0)), (1, .ref (xE (gκ g) r o1 0))] [] := by
  unfold sX5_waitByDraw at h
  refine G_aload_n X 1 dX5_waitByDraw_0 rfl rfl ?_
  obtain ⟨q1, hq1, h⟩ := bd_some h
  refine G_callVN X (As := []) (rest := []) (T' := rs T r x) (st2 := [.int q1]) (ct_X0_windowSize (l := g.2.1) (κ := gκ g) (T := T) (r := r) (x := x) hr ho1 hq1) cal_X0_windowSize nM_X5_129 wI_X0_windowSize wS_X0_windowSize (kd_o0 hr ho1) rfl (by decide) rfl rfl (Nat.le_of_ble_eq_true rfl) ⟨Nat.zero_le _, Nat.zero_le _⟩ dX5_waitByDraw_1 rfl ?_
  refine G_istore_n X (lv' := [(2, .int q1), (0, .ref (xE (gκ g) r 0 0)), (1, .ref (xE (gκ g) r o1 0))]) dX5_waitByDraw_4 rfl (by decide) rfl ?_
  refine G_aload_n X 1 dX5_waitByDraw_5 rfl rfl ?_
  refine G_aload_n X 1 dX5_waitByDraw_6 rfl rfl ?_
  refine f_X5_29 X (kd_w0 hr) (rg_rs _ _ _) dX5_waitByDraw_7 ?_
  refine G_ldc X (v := (1103515245 : Int32)) dX5_waitByDraw_10 wK_X5_133 ?_
  refine G_imul X dX5_waitByDraw_12 ?_
  refine G_sipush X (v := (12345 : Int32)) dX5_waitByDraw_13 (by decide) ?_
  refine G_iadd X dX5_waitByDraw_16 ?_
  obtain ⟨v2, ev2, h⟩ := nm_some h
  refine G_nmi ev2 ?_
  obtain ⟨x3, ex3, h⟩ := nm_some h
  refine p_X5_29 X (T' := rs T r x3) (kd_w0 hr) (rg_rs _ _ _)  (by rw [rs_rs, ex3]) dX5_waitByDraw_17 ?_
  refine G_aload_n X 2 dX5_waitByDraw_20 rfl rfl ?_
  refine G_iconst X (v := (2 : Int32)) dX5_waitByDraw_21 (by decide) ?_
  obtain ⟨x4, ex4, h⟩ := nm_some h
  refine p_X5_70 X (T' := rs T r x4) (kd_o0 hr ho1) (rg_rs _ _ _)  (by rw [rs_rs, ex4]) dX5_waitByDraw_22 ?_
  refine G_aload_n X 2 dX5_waitByDraw_25 rfl rfl ?_
  refine G_iload_n X 0 dX5_waitByDraw_26 rfl rfl ?_
  refine G_iconst X (v := (1 : Int32)) dX5_waitByDraw_27 (by decide) ?_
  refine G_icmp_ge X (tgt := 35) dX5_waitByDraw_28 (by decide) (fun c5 => ?_) (fun c5 => ?_)
  · have h := it_t c5 h
    refine G_iconst X (v := (1 : Int32)) dX5_waitByDraw_35 (by decide) ?_
    refine G_aload_n X 1 dX5_waitByDraw_36 rfl rfl ?_
    refine f_X5_29 X (kd_w0 hr) (rg_rs _ _ _) dX5_waitByDraw_37 ?_
    refine G_bipush X (v := (16 : Int32)) dX5_waitByDraw_40 (by decide) ?_
    refine G_iushr X dX5_waitByDraw_42 ?_
    refine G_iload_n X 0 dX5_waitByDraw_43 rfl rfl ?_
    obtain ⟨g6, h⟩ := gd_some h
    refine G_irem X dX5_waitByDraw_44 (nz_ne g6) ?_
    refine G_iadd X dX5_waitByDraw_45 ?_
    obtain ⟨v7, ev7, h⟩ := nm_some h
    refine G_nmi ev7 ?_
    obtain ⟨x8, ex8, h⟩ := nm_some h
    refine p_X5_110 X (T' := rs T r x8) (kd_o0 hr ho1) (rg_rs _ _ _)  (by rw [rs_rs, ex8]) dX5_waitByDraw_46 ?_
    obtain rfl := Option.some.inj h
    exact hf _ _ dX5_waitByDraw_49
  · have h := it_f c5 h
    refine G_iconst X (v := (1 : Int32)) dX5_waitByDraw_31 (by decide) ?_
    refine G_goto X (tgt := 46) dX5_waitByDraw_32 (by decide) ?_
    obtain ⟨x9, ex9, h⟩ := nm_some h
    refine p_X5_110 X (T' := rs T r x9) (kd_o0 hr ho1) (rg_rs _ _ _)  (by rw [rs_rs, ex9]) dX5_waitByDraw_46 ?_
    obtain rfl := Option.some.inj h
    exact hf _ _ dX5_waitByDraw_49
set_option maxRecDepth 20000 in
theorem ct_X5_waitByDraw {l : Launch} {κ : KX} {T : TT} {r : Nat} {o1 : Nat} {x : St}  {res : St} (hr : isW r) (ho1 : isO o1) (h : sX5_waitByDraw o1 x = some res) : Ct l κ yX5_waitByDraw cX5_waitByDraw 3 none 2 41 [.ref (xE κ r 0 0), .ref (xE κ r o1 0)] (rs T r x) (rs T r res) none := by
  refine Ct_v RX5 rfl (by decide +kernel) (Nat.le_of_ble_eq_true rfl) (fun g hl hκ X hf => ?_)
  subst hl; subst hκ
  exact gX5_waitByDraw X hr ho1 hf h
set_option maxRecDepth 20000 in
theorem gX5_waitOn {g : GX} {T : TT} {r : Nat} {o1 : Nat} {x : St}  {res : St} (X : CX g RX5 cX5_waitOn 2 1 21) (hr : isW r) (ho1 : isO o1) (hf : FinV g cX5_waitOn (rs T r res)) (h : sX5_waitOn o1 x = some res) : G g 0 0 (rs T r x) 0 [(0, .ref (xE (gκ g) r 0 0)), (1, .ref (xE (gκ g) r o1 0))] [] := by
  unfold sX5_waitOn at h
  refine G_aload_n X 1 dX5_waitOn_0 rfl rfl ?_
  refine G_dup X dX5_waitOn_1 rfl ?_
  refine f_X5_110 X (kd_o0 hr ho1) (rg_rs _ _ _) dX5_waitOn_2 ?_
  refine G_iconst X (v := (1 : Int32)) dX5_waitOn_5 (by decide) ?_
  refine G_isub X dX5_waitOn_6 ?_
  obtain ⟨x1, ex1, h⟩ := nm_some h
  refine p_X5_110 X (T' := rs T r x1) (kd_o0 hr ho1) (rg_rs _ _ _)  (by rw [rs_rs, ex1]) dX5_waitOn_7 ?_
  refine G_aload_n X 1 dX5_waitOn_10 rfl rfl ?_
  refine f_X5_110 X (kd_o0 hr ho1) (rg_rs _ _ _) dX5_waitOn_11 ?_
  refine G_if_ne X (tgt := 21) dX5_waitOn_14 (by decide) (fun c2 => ?_) (fun c2 => ?_)
  · have h := it_t c2 h
    obtain rfl := Option.some.inj h
    exact hf _ _ dX5_waitOn_21
  · have h := it_f (fun k => k c2) h
    refine G_aload_n X 1 dX5_waitOn_17 rfl rfl ?_
    obtain ⟨q3, hq3, h⟩ := bd_some h
    refine G_callVN X (As := []) (rest := []) (T' := rs T r q3) (st2 := []) (ct_X0_startSending (l := g.2.1) (κ := gκ g) (T := T) (r := r) (x := x1) hr ho1 hq3) cal_X0_startSending nM_X5_126 wI_X0_startSending wS_X0_startSending (kd_o0 hr ho1) rfl (by decide) rfl rfl (Nat.le_of_ble_eq_true rfl) ⟨Nat.zero_le _, Nat.zero_le _⟩ dX5_waitOn_18 rfl ?_
    obtain rfl := Option.some.inj h
    exact hf _ _ dX5_waitOn_21
set_option maxRecDepth 20000 in
theorem ct_X5_waitOn {l : Launch} {κ : KX} {T : TT} {r : Nat} {o1 : Nat} {x : St}  {res : St} (hr : isW r) (ho1 : isO o1) (h : sX5_waitOn o1 x = some res) : Ct l κ yX5_waitOn cX5_waitOn 2 none 1 21 [.ref (xE κ r 0 0), .ref (xE κ r o1 0)] (rs T r x) (rs T r res) none := by
  refine Ct_v RX5 rfl (by decide +kernel) (Nat.le_of_ble_eq_true rfl) (fun g hl hκ X hf => ?_)
  subst hl; subst hκ
  exact gX5_waitOn X hr ho1 hf h
set_option maxRecDepth 20000 in
theorem gX5_changeStates_b2 {g : GX} {T : TT} {r : Nat}   {res : St}  (X : CX g RX5 cX5_changeStates 3 3 63) (hr : isW r) (hf : FinV g cX5_changeStates (rs T r res))  : ∀ (n : Nat) (x : St) (a1 : Int32) (h : sX5_changeStates_b2 n  x a1 = some res), G g 0 0 (rs T r x) 2 [(0, .ref (xE (gκ g) r 0 0)), (1, .int a1)] [] := by
  intro n
  induction n with
  | zero => intro x a1 h; unfold sX5_changeStates_b2 at h; cases h
  | succ n ih =>
    intro x a1 h
    unfold sX5_changeStates_b2 at h
    refine G_iload_n X 1 dX5_changeStates_2 rfl rfl ?_
    refine G_aload_n X 0 dX5_changeStates_3 rfl rfl ?_
    refine f_X5_25 X (kd_w0 hr) (rg_rs _ _ _) dX5_changeStates_4 ?_
    refine G_icmp_ge X (tgt := 118) dX5_changeStates_7 (by decide) (fun c1 => ?_) (fun c1 => ?_)
    · have h := it_t c1 h
      obtain rfl := Option.some.inj h
      exact hf _ _ dX5_changeStates_118
    · have h := it_f c1 h
      refine G_aload_n X 0 dX5_changeStates_10 rfl rfl ?_
      refine f_X5_17 X (kd_w0 hr) rfl dX5_changeStates_11 ?_
      refine G_iload_n X 1 dX5_changeStates_14 rfl rfl ?_
      obtain ⟨g2, h⟩ := gd_some h
      refine G_aaldB X (kd_w2 hr) g2 dX5_changeStates_15 ?_
      refine G_astore_n X (lv' := [(2, .ref (xE (gκ g) r (ix a1 + 1) 0)), (0, .ref (xE (gκ g) r 0 0)), (1, .int a1)]) dX5_changeStates_16 rfl (by decide) rfl ?_
      refine G_aload_n X 0 dX5_changeStates_17 rfl rfl ?_
      refine f_X5_70 X (kd_o0 hr (inb_isO (by decide) g2)) (rg_rs _ _ _) dX5_changeStates_18 ?_
      obtain ⟨v3, ev3, h⟩ := nm_some h
      refine G_nmi ev3 ?_
      by_cases c4 : v3 = (0 : Int32)
      · have h := it_t c4 h
        rw [c4]
        refine G_tabIn X (off := 27) (tgt := 48) dX5_changeStates_21 (by decide) (by decide) (by decide) (by decide) ?_
        refine G_aload_n X 0 dX5_changeStates_48 rfl rfl ?_
        refine G_aload_n X 1 dX5_changeStates_49 rfl rfl ?_
        refine f_X5_38 X (kd_w0 hr) (rg_rs _ _ _) dX5_changeStates_50 ?_
        obtain ⟨q5, hq5, h⟩ := bd_some h
        refine G_callVN X (As := [.int (gI x 0 0 5)]) (rest := []) (T' := rs T r x) (st2 := [.int q5]) (ct_X0_isDueAt (l := g.2.1) (κ := gκ g) (T := T) (r := r) (x := x) hr (inb_isO (by decide) g2) hq5) cal_X0_isDueAt nM_X5_103 wI_X0_isDueAt wS_X0_isDueAt (kd_o0 hr (inb_isO (by decide) g2)) rfl (by decide) rfl rfl (Nat.le_of_ble_eq_true rfl) ⟨Nat.zero_le _, Nat.zero_le _⟩ dX5_changeStates_53 rfl ?_
        refine G_if_eq X (tgt := 112) dX5_changeStates_56 (by decide) (fun c6 => ?_) (fun c6 => ?_)
        · have h := it_t c6 h
          obtain ⟨v7, ev7, h⟩ := nm_some h
          refine G_iinc X (v := v7) (lv' := [(1, .int v7), (2, .ref (xE (gκ g) r (ix a1 + 1) 0)), (0, .ref (xE (gκ g) r 0 0))]) 2 dX5_changeStates_112 rfl (by rw [ev7]; rfl) (by decide) rfl ?_
          refine G_goto X (tgt := 2) dX5_changeStates_115 (by decide) ?_
          refine G_sub [2, 0] rfl ?_
          exact ih _ _ h
        · have h := it_f c6 h
          refine G_aload_n X 1 dX5_changeStates_59 rfl rfl ?_
          refine G_aload_n X 0 dX5_changeStates_60 rfl rfl ?_
          obtain ⟨q8, hq8, h⟩ := bd_some h
          refine G_callV X (As := [.ref (xE (gκ g) r (ix a1 + 1) 0)]) (rest := []) (T' := rs T r q8) (st2 := []) (ct_X5_wakeOrSkip (l := g.2.1) (κ := gκ g) (T := T) (r := r) (x := x) hr (inb_isO (by decide) g2) hq8) cal_X5_wakeOrSkip wM_X5_107 wI_X5_wakeOrSkip wS_X5_wakeOrSkip (kd_w0 hr) rfl (by decide) rfl rfl (Nat.le_of_ble_eq_true rfl) ⟨Nat.zero_le _, Nat.zero_le _⟩ dX5_changeStates_61 rfl ?_
          refine G_goto X (tgt := 112) dX5_changeStates_64 (by decide) ?_
          obtain ⟨v9, ev9, h⟩ := nm_some h
          refine G_iinc X (v := v9) (lv' := [(1, .int v9), (2, .ref (xE (gκ g) r (ix a1 + 1) 0)), (0, .ref (xE (gκ g) r 0 0))]) 2 dX5_changeStates_112 rfl (by rw [ev9]; rfl) (by decide) rfl ?_
          refine G_goto X (tgt := 2) dX5_changeStates_115 (by decide) ?_
          refine G_sub [2, 0] rfl ?_
          exact ih _ _ h
      have h := it_f c4 h
      by_cases c10 : v3 = (1 : Int32)
      · have h := it_t c10 h
        rw [c10]
        refine G_tabIn X (off := 46) (tgt := 67) dX5_changeStates_21 (by decide) (by decide) (by decide) (by decide) ?_
        refine G_aload_n X 0 dX5_changeStates_67 rfl rfl ?_
        refine G_dup X dX5_changeStates_68 rfl ?_
        refine f_X5_110 X (kd_o0 hr (inb_isO (by decide) g2)) (rg_rs _ _ _) dX5_changeStates_69 ?_
        refine G_iconst X (v := (1 : Int32)) dX5_changeStates_72 (by decide) ?_
        refine G_isub X dX5_changeStates_73 ?_
        obtain ⟨v11, ev11, h⟩ := nm_some h
        refine G_nmi ev11 ?_
        obtain ⟨x12, ex12, h⟩ := nm_some h
        refine p_X5_110 X (T' := rs T r x12) (kd_o0 hr (inb_isO (by decide) g2)) (rg_rs _ _ _)  (by rw [rs_rs, ex12]) dX5_changeStates_74 ?_
        refine G_aload_n X 0 dX5_changeStates_77 rfl rfl ?_
        refine f_X5_110 X (kd_o0 hr (inb_isO (by decide) g2)) (rg_rs _ _ _) dX5_changeStates_78 ?_
        refine G_if_ne X (tgt := 112) dX5_changeStates_81 (by decide) (fun c13 => ?_) (fun c13 => ?_)
        · have h := it_t c13 h
          obtain ⟨v14, ev14, h⟩ := nm_some h
          refine G_iinc X (v := v14) (lv' := [(1, .int v14), (2, .ref (xE (gκ g) r (ix a1 + 1) 0)), (0, .ref (xE (gκ g) r 0 0))]) 2 dX5_changeStates_112 rfl (by rw [ev14]; rfl) (by decide) rfl ?_
          refine G_goto X (tgt := 2) dX5_changeStates_115 (by decide) ?_
          refine G_sub [2, 0] rfl ?_
          exact ih _ _ h
        · have h := it_f (fun k => k c13) h
          refine G_aload_n X 1 dX5_changeStates_84 rfl rfl ?_
          refine G_aload_n X 0 dX5_changeStates_85 rfl rfl ?_
          obtain ⟨q15, hq15, h⟩ := bd_some h
          refine G_callV X (As := [.ref (xE (gκ g) r (ix a1 + 1) 0)]) (rest := []) (T' := rs T r q15) (st2 := []) (ct_X5_waitByDraw (l := g.2.1) (κ := gκ g) (T := T) (r := r) (x := x12) hr (inb_isO (by decide) g2) hq15) cal_X5_waitByDraw wM_X5_113 wI_X5_waitByDraw wS_X5_waitByDraw (kd_w0 hr) rfl (by decide) rfl rfl (Nat.le_of_ble_eq_true rfl) ⟨Nat.zero_le _, Nat.zero_le _⟩ dX5_changeStates_86 rfl ?_
          refine G_goto X (tgt := 112) dX5_changeStates_89 (by decide) ?_
          obtain ⟨v16, ev16, h⟩ := nm_some h
          refine G_iinc X (v := v16) (lv' := [(1, .int v16), (2, .ref (xE (gκ g) r (ix a1 + 1) 0)), (0, .ref (xE (gκ g) r 0 0))]) 2 dX5_changeStates_112 rfl (by rw [ev16]; rfl) (by decide) rfl ?_
          refine G_goto X (tgt := 2) dX5_changeStates_115 (by decide) ?_
          refine G_sub [2, 0] rfl ?_
          exact ih _ _ h
      have h := it_f c10 h
      by_cases c17 : v3 = (2 : Int32)
      · have h := it_t c17 h
        rw [c17]
        refine G_tabIn X (off := 71) (tgt := 92) dX5_changeStates_21 (by decide) (by decide) (by decide) (by decide) ?_
        refine G_aload_n X 0 dX5_changeStates_92 rfl rfl ?_
        refine f_X5_61 X (kd_o0 hr (inb_isO (by decide) g2)) (rg_rs _ _ _) dX5_changeStates_93 ?_
        refine G_aload_n X 1 dX5_changeStates_96 rfl rfl ?_
        refine f_X5_50 X (kd_w0 hr) (rg_rs _ _ _) dX5_changeStates_97 ?_
        refine G_iand X dX5_changeStates_100 ?_
        refine G_if_ne X (tgt := 112) dX5_changeStates_101 (by decide) (fun c18 => ?_) (fun c18 => ?_)
        · have h := it_t c18 h
          obtain ⟨v19, ev19, h⟩ := nm_some h
          refine G_iinc X (v := v19) (lv' := [(1, .int v19), (2, .ref (xE (gκ g) r (ix a1 + 1) 0)), (0, .ref (xE (gκ g) r 0 0))]) 2 dX5_changeStates_112 rfl (by rw [ev19]; rfl) (by decide) rfl ?_
          refine G_goto X (tgt := 2) dX5_changeStates_115 (by decide) ?_
          refine G_sub [2, 0] rfl ?_
          exact ih _ _ h
        · have h := it_f (fun k => k c18) h
          refine G_aload_n X 1 dX5_changeStates_104 rfl rfl ?_
          refine G_aload_n X 0 dX5_changeStates_105 rfl rfl ?_
          obtain ⟨q20, hq20, h⟩ := bd_some h
          refine G_callV X (As := [.ref (xE (gκ g) r (ix a1 + 1) 0)]) (rest := []) (T' := rs T r q20) (st2 := []) (ct_X5_waitOn (l := g.2.1) (κ := gκ g) (T := T) (r := r) (x := x) hr (inb_isO (by decide) g2) hq20) cal_X5_waitOn wM_X5_116 wI_X5_waitOn wS_X5_waitOn (kd_w0 hr) rfl (by decide) rfl rfl (Nat.le_of_ble_eq_true rfl) ⟨Nat.zero_le _, Nat.zero_le _⟩ dX5_changeStates_106 rfl ?_
          refine G_goto X (tgt := 112) dX5_changeStates_109 (by decide) ?_
          obtain ⟨v21, ev21, h⟩ := nm_some h
          refine G_iinc X (v := v21) (lv' := [(1, .int v21), (2, .ref (xE (gκ g) r (ix a1 + 1) 0)), (0, .ref (xE (gκ g) r 0 0))]) 2 dX5_changeStates_112 rfl (by rw [ev21]; rfl) (by decide) rfl ?_
          refine G_goto X (tgt := 2) dX5_changeStates_115 (by decide) ?_
          refine G_sub [2, 0] rfl ?_
          exact ih _ _ h
      have h := it_f c17 h
      refine G_tabOut X (tgt := 112) dX5_changeStates_21 (sw_out 0 2 [(0 : Int32), (1 : Int32), (2 : Int32)] (by decide) (by simp [c4, c10, c17])) (by decide) ?_
      obtain ⟨v22, ev22, h⟩ := nm_some h
      refine G_iinc X (v := v22) (lv' := [(1, .int v22), (2, .ref (xE (gκ g) r (ix a1 + 1) 0)), (0, .ref (xE (gκ g) r 0 0))]) 2 dX5_changeStates_112 rfl (by rw [ev22]; rfl) (by decide) rfl ?_
      refine G_goto X (tgt := 2) dX5_changeStates_115 (by decide) ?_
      refine G_sub [2, 0] rfl ?_
      exact ih _ _ h
set_option maxRecDepth 20000 in
theorem gX5_changeStates {g : GX} {T : TT} {r : Nat}  {x : St}  {res : St} (X : CX g RX5 cX5_changeStates 3 3 63) (hr : isW r) (hf : FinV g cX5_changeStates (rs T r res)) (h : sX5_changeStates x = some res) : G g 0 0 (rs T r x) 0 [(0, .ref (xE (gκ g) r 0 0))] [] := by
  unfold sX5_changeStates at h
  refine G_iconst X (v := (0 : Int32)) dX5_changeStates_0 (by decide) ?_
  refine G_istore_n X (lv' := [(1, .int ((0 : Int32))), (0, .ref (xE (gκ g) r 0 0))]) dX5_changeStates_1 rfl (by decide) rfl ?_
  refine G_sub [1, 0] rfl ?_
  exact gX5_changeStates_b2 X hr hf FU _ _ h
set_option maxRecDepth 20000 in
theorem ct_X5_changeStates {l : Launch} {κ : KX} {T : TT} {r : Nat}  {x : St}  {res : St} (hr : isW r) (h : sX5_changeStates x = some res) : Ct l κ yX5_changeStates cX5_changeStates 3 none 3 63 [.ref (xE κ r 0 0)] (rs T r x) (rs T r res) none := by
  refine Ct_v RX5 rfl (by decide +kernel) (Nat.le_of_ble_eq_true rfl) (fun g hl hκ X hf => ?_)
  subst hl; subst hκ
  exact gX5_changeStates X hr hf h
set_option maxRecDepth 20000 in
theorem gX5_payForStates_b2 {g : GX} {T : TT} {r : Nat}   {res : St}  (X : CX g RX5 cX5_payForStates 3 2 43) (hr : isW r) (hf : FinV g cX5_payForStates (rs T r res))  : ∀ (n : Nat) (x : St) (a1 : Int32) (h : sX5_payForStates_b2 n  x a1 = some res), G g 0 0 (rs T r x) 2 [(0, .ref (xE (gκ g) r 0 0)), (1, .int a1)] [] := by
  intro n
  induction n with
  | zero => intro x a1 h; unfold sX5_payForStates_b2 at h; cases h
  | succ n ih =>
    intro x a1 h
    unfold sX5_payForStates_b2 at h
    refine G_iload_n X 1 dX5_payForStates_2 rfl rfl ?_
    refine G_aload_n X 0 dX5_payForStates_3 rfl rfl ?_
    refine f_X5_25 X (kd_w0 hr) (rg_rs _ _ _) dX5_payForStates_4 ?_
    refine G_icmp_ge X (tgt := 57) dX5_payForStates_7 (by decide) (fun c1 => ?_) (fun c1 => ?_)
    · have h := it_t c1 h
      obtain rfl := Option.some.inj h
      exact hf _ _ dX5_payForStates_57
    · have h := it_f c1 h
      refine G_aload_n X 0 dX5_payForStates_10 rfl rfl ?_
      refine f_X5_17 X (kd_w0 hr) rfl dX5_payForStates_11 ?_
      refine G_iload_n X 1 dX5_payForStates_14 rfl rfl ?_
      obtain ⟨g2, h⟩ := gd_some h
      refine G_aaldB X (kd_w2 hr) g2 dX5_payForStates_15 ?_
      refine G_astore_n X (lv' := [(2, .ref (xE (gκ g) r (ix a1 + 1) 0)), (0, .ref (xE (gκ g) r 0 0)), (1, .int a1)]) dX5_payForStates_16 rfl (by decide) rfl ?_
      refine G_aload_n X 0 dX5_payForStates_17 rfl rfl ?_
      refine f_X5_70 X (kd_o0 hr (inb_isO (by decide) g2)) (rg_rs _ _ _) dX5_payForStates_18 ?_
      refine G_iconst X (v := (4 : Int32)) dX5_payForStates_21 (by decide) ?_
      refine G_icmp_eq X (tgt := 51) dX5_payForStates_22 (by decide) (fun c3 => ?_) (fun c3 => ?_)
      · have h := it_t c3 h
        obtain ⟨v4, ev4, h⟩ := nm_some h
        refine G_iinc X (v := v4) (lv' := [(1, .int v4), (2, .ref (xE (gκ g) r (ix a1 + 1) 0)), (0, .ref (xE (gκ g) r 0 0))]) 2 dX5_payForStates_51 rfl (by rw [ev4]; rfl) (by decide) rfl ?_
        refine G_goto X (tgt := 2) dX5_payForStates_54 (by decide) ?_
        refine G_sub [2, 0] rfl ?_
        exact ih _ _ h
      · have h := it_f c3 h
        refine G_aload_n X 0 dX5_payForStates_25 rfl rfl ?_
        refine f_X5_134 X (kd_o0 hr (inb_isO (by decide) g2)) rfl dX5_payForStates_26 ?_
        refine G_aload_n X 0 dX5_payForStates_29 rfl rfl ?_
        refine f_X5_70 X (kd_o0 hr (inb_isO (by decide) g2)) (rg_rs _ _ _) dX5_payForStates_30 ?_
        refine G_dup2 X dX5_payForStates_33 rfl rfl ?_
        obtain ⟨g5, h⟩ := gd_some h
        refine G_iald X (kd_o1 hr (inb_isO (by decide) g2)) (rg_rs _ _ _) g5 dX5_payForStates_34 ?_
        refine G_iconst X (v := (1 : Int32)) dX5_payForStates_35 (by decide) ?_
        refine G_iadd X dX5_payForStates_36 ?_
        obtain ⟨v6, ev6, h⟩ := nm_some h
        refine G_nmi ev6 ?_
        obtain ⟨g7, h⟩ := gd_some h
        obtain ⟨x8, ex8, h⟩ := nm_some h
        refine G_iast X (T' := rs T r x8) (kd_o1 hr (inb_isO (by decide) g2)) (rg_rs _ _ _) g7 (by rw [rs_rs, ex8]) dX5_payForStates_37 ?_
        refine G_aload_n X 0 dX5_payForStates_38 rfl rfl ?_
        refine G_aload_n X 1 dX5_payForStates_39 rfl rfl ?_
        refine f_X5_9 X (kd_w0 hr) rfl dX5_payForStates_40 ?_
        refine G_aload_n X 0 dX5_payForStates_43 rfl rfl ?_
        refine f_X5_70 X (kd_o0 hr (inb_isO (by decide) g2)) (rg_rs _ _ _) dX5_payForStates_44 ?_
        obtain ⟨g9, h⟩ := gd_some h
        refine G_iald X (kd_w1 hr) (rg_rs _ _ _) g9 dX5_payForStates_47 ?_
        obtain ⟨q10, hq10, h⟩ := bd_some h
        refine G_callVN X (As := [.int (gI x8 0 1 (ix (gI x8 (ix a1 + 1) 0 6)))]) (rest := []) (T' := rs T r q10) (st2 := []) (ct_X0_payForSlot (l := g.2.1) (κ := gκ g) (T := T) (r := r) (x := x8) hr (inb_isO (by decide) g2) hq10) cal_X0_payForSlot nM_X5_137 wI_X0_payForSlot wS_X0_payForSlot (kd_o0 hr (inb_isO (by decide) g2)) rfl (by decide) rfl rfl (Nat.le_of_ble_eq_true rfl) ⟨Nat.zero_le _, Nat.zero_le _⟩ dX5_payForStates_48 rfl ?_
        obtain ⟨v11, ev11, h⟩ := nm_some h
        refine G_iinc X (v := v11) (lv' := [(1, .int v11), (2, .ref (xE (gκ g) r (ix a1 + 1) 0)), (0, .ref (xE (gκ g) r 0 0))]) 2 dX5_payForStates_51 rfl (by rw [ev11]; rfl) (by decide) rfl ?_
        refine G_goto X (tgt := 2) dX5_payForStates_54 (by decide) ?_
        refine G_sub [2, 0] rfl ?_
        exact ih _ _ h
set_option maxRecDepth 20000 in
theorem gX5_payForStates {g : GX} {T : TT} {r : Nat}  {x : St}  {res : St} (X : CX g RX5 cX5_payForStates 3 2 43) (hr : isW r) (hf : FinV g cX5_payForStates (rs T r res)) (h : sX5_payForStates x = some res) : G g 0 0 (rs T r x) 0 [(0, .ref (xE (gκ g) r 0 0))] [] := by
  unfold sX5_payForStates at h
  refine G_iconst X (v := (0 : Int32)) dX5_payForStates_0 (by decide) ?_
  refine G_istore_n X (lv' := [(1, .int ((0 : Int32))), (0, .ref (xE (gκ g) r 0 0))]) dX5_payForStates_1 rfl (by decide) rfl ?_
  refine G_sub [1, 0] rfl ?_
  exact gX5_payForStates_b2 X hr hf FU _ _ h
set_option maxRecDepth 20000 in
theorem ct_X5_payForStates {l : Launch} {κ : KX} {T : TT} {r : Nat}  {x : St}  {res : St} (hr : isW r) (h : sX5_payForStates x = some res) : Ct l κ yX5_payForStates cX5_payForStates 3 none 2 43 [.ref (xE κ r 0 0)] (rs T r x) (rs T r res) none := by
  refine Ct_v RX5 rfl (by decide +kernel) (Nat.le_of_ble_eq_true rfl) (fun g hl hκ X hf => ?_)
  subst hl; subst hκ
  exact gX5_payForStates X hr hf h
set_option maxRecDepth 20000 in
theorem gX5_reasonAgainst {g : GX} {T : TT} {r : Nat} {o1 : Nat} {x : St} {a2 : Int32} {a3 : Int32} {res : Int32} (X : CX g RX5 cX5_reasonAgainst 4 1 21) (hr : isW r) (ho1 : isO o1) (hf : FinI g cX5_reasonAgainst .int (rs T r x) (res)) (h : sX5_reasonAgainst o1 x a2 a3 = some res) : G g 0 0 (rs T r x) 0 [(0, .ref (xE (gκ g) r 0 0)), (1, .ref (xE (gκ g) r o1 0)), (2, .int a2), (3, .int a3)] [] := by
  unfold sX5_reasonAgainst at h
  refine G_aload_n X 1 dX5_reasonAgainst_0 rfl rfl ?_
  refine f_X5_61 X (kd_o0 hr ho1) (rg_rs _ _ _) dX5_reasonAgainst_1 ?_
  refine G_iload_n X 2 dX5_reasonAgainst_4 rfl rfl ?_
  obtain ⟨q1, hq1, h⟩ := bd_some h
  refine G_callSN X (As := [.int (gI x o1 0 10), .int a2]) (rest := []) (T' := rs T r x) (st2 := [.int q1]) (ct_X6_isIn (l := g.2.1) (κ := gκ g)   hq1) cal_X6_isIn nM_X5_83 wT_X6_isIn (by decide) rfl rfl (Nat.le_of_ble_eq_true rfl) ⟨Nat.zero_le _, Nat.zero_le _⟩ dX5_reasonAgainst_5 rfl ?_
  refine G_if_ne X (tgt := 13) dX5_reasonAgainst_8 (by decide) (fun c2 => ?_) (fun c2 => ?_)
  · have h := it_t c2 h
    refine G_aload_n X 1 dX5_reasonAgainst_13 rfl rfl ?_
    refine f_X5_70 X (kd_o0 hr ho1) (rg_rs _ _ _) dX5_reasonAgainst_14 ?_
    refine G_iconst X (v := (3 : Int32)) dX5_reasonAgainst_17 (by decide) ?_
    refine G_icmp_ne X (tgt := 23) dX5_reasonAgainst_18 (by decide) (fun c3 => ?_) (fun c3 => ?_)
    · have h := it_t c3 h
      refine G_aload_n X 1 dX5_reasonAgainst_23 rfl rfl ?_
      obtain ⟨q4, hq4, h⟩ := bd_some h
      refine G_callVN X (As := []) (rest := []) (T' := rs T r x) (st2 := [.int q4]) (ct_X0_hasOpenEars (l := g.2.1) (κ := gκ g) (T := T) (r := r) (x := x) hr ho1 hq4) cal_X0_hasOpenEars nM_X5_141 wI_X0_hasOpenEars wS_X0_hasOpenEars (kd_o0 hr ho1) rfl (by decide) rfl rfl (Nat.le_of_ble_eq_true rfl) ⟨Nat.zero_le _, Nat.zero_le _⟩ dX5_reasonAgainst_24 rfl ?_
      refine G_if_ne X (tgt := 32) dX5_reasonAgainst_27 (by decide) (fun c5 => ?_) (fun c5 => ?_)
      · have h := it_t c5 h
        refine G_iload_n X 3 dX5_reasonAgainst_32 rfl rfl ?_
        refine G_if_eq X (tgt := 40) dX5_reasonAgainst_33 (by decide) (fun c6 => ?_) (fun c6 => ?_)
        · have h := it_t c6 h
          refine G_iconst X (v := (0 : Int32)) dX5_reasonAgainst_40 (by decide) ?_
          obtain rfl := Option.some.inj h
          exact hf _ _ dX5_reasonAgainst_41 rfl
        · have h := it_f c6 h
          refine G_iconst X (v := (4 : Int32)) dX5_reasonAgainst_36 (by decide) ?_
          refine G_goto X (tgt := 41) dX5_reasonAgainst_37 (by decide) ?_
          obtain rfl := Option.some.inj h
          exact hf _ _ dX5_reasonAgainst_41 rfl
      · have h := it_f (fun k => k c5) h
        refine G_iconst X (v := (2 : Int32)) dX5_reasonAgainst_30 (by decide) ?_
        obtain rfl := Option.some.inj h
        exact hf _ _ dX5_reasonAgainst_31 rfl
    · have h := it_f (fun k => k c3) h
      refine G_iconst X (v := (3 : Int32)) dX5_reasonAgainst_21 (by decide) ?_
      obtain rfl := Option.some.inj h
      exact hf _ _ dX5_reasonAgainst_22 rfl
  · have h := it_f (fun k => k c2) h
    refine G_iconst X (v := (1 : Int32)) dX5_reasonAgainst_11 (by decide) ?_
    obtain rfl := Option.some.inj h
    exact hf _ _ dX5_reasonAgainst_12 rfl
set_option maxRecDepth 20000 in
theorem ct_X5_reasonAgainst {l : Launch} {κ : KX} {T : TT} {r : Nat} {o1 : Nat} {x : St} {a2 : Int32} {a3 : Int32} {res : Int32} (hr : isW r) (ho1 : isO o1) (h : sX5_reasonAgainst o1 x a2 a3 = some res) : Ct l κ yX5_reasonAgainst cX5_reasonAgainst 4 (some .int) 1 21 [.ref (xE κ r 0 0), .ref (xE κ r o1 0), .int a2, .int a3] (rs T r x) (rs T r x) (some (.int (res))) := by
  refine Ct_i RX5 rfl (by decide +kernel) (Nat.le_of_ble_eq_true rfl) (fun g hl hκ X hf => ?_)
  subst hl; subst hκ
  exact gX5_reasonAgainst X hr ho1 hf h
set_option maxRecDepth 20000 in
theorem gX5_listenToSenders_b80 {g : GX} {T : TT} {r : Nat}   {res : St} {k19 : St → Int32 → Option (St)} (X : CX g RX5 cX5_listenToSenders 5 2 44) (hr : isW r) (hf : FinV g cX5_listenToSenders (rs T r res)) (hk19 : ∀ (x' : St) (a1' : Int32), k19 x' a1' = some res → G g 0 0 (rs T r x') 19 [(0, .ref (xE (gκ g) r 0 0)), (1, .int a1')] []) : ∀ (n : Nat) (x : St) (a1 : Int32) (o2 : Nat) (a3 : Int32) (a4 : Int32) (ho2 : isO o2) (h : sX5_listenToSenders_b80 n k19 x a1 o2 a3 a4 = some res), G g 0 0 (rs T r x) 80 [(0, .ref (xE (gκ g) r 0 0)), (1, .int a1), (2, .ref (xE (gκ g) r o2 0)), (3, .int a3), (4, .int a4)] [] := by
  intro n
  induction n with
  | zero => intro x a1 o2 a3 a4 ho2 h; unfold sX5_listenToSenders_b80 at h; cases h
  | succ n ih =>
    intro x a1 o2 a3 a4 ho2 h
    unfold sX5_listenToSenders_b80 at h
    refine G_iload X 4 dX5_listenToSenders_80 rfl ?_
    refine G_aload_n X 0 dX5_listenToSenders_82 rfl rfl ?_
    refine f_X5_25 X (kd_w0 hr) (rg_rs _ _ _) dX5_listenToSenders_83 ?_
    refine G_icmp_ge X (tgt := 142) dX5_listenToSenders_86 (by decide) (fun c12 => ?_) (fun c12 => ?_)
    · have h := it_t c12 h
      obtain ⟨v13, ev13, h⟩ := nm_some h
      refine G_iinc X (v := v13) (lv' := [(1, .int v13), (0, .ref (xE (gκ g) r 0 0)), (2, .ref (xE (gκ g) r o2 0)), (3, .int a3), (4, .int a4)]) 1 dX5_listenToSenders_142 rfl (by rw [ev13]; rfl) (by decide) rfl ?_
      refine G_goto X (tgt := 19) dX5_listenToSenders_145 (by decide) ?_
      refine G_sub [1, 0] rfl ?_
      exact hk19 _ _ h
    · have h := it_f c12 h
      refine G_aload_n X 0 dX5_listenToSenders_89 rfl rfl ?_
      refine f_X5_50 X (kd_w0 hr) (rg_rs _ _ _) dX5_listenToSenders_90 ?_
      refine G_iload X 4 dX5_listenToSenders_93 rfl ?_
      obtain ⟨q14, hq14, h⟩ := bd_some h
      refine G_callSN X (As := [.int (gI x 0 0 10), .int a4]) (rest := []) (T' := rs T r x) (st2 := [.int q14]) (ct_X6_isIn (l := g.2.1) (κ := gκ g)   hq14) cal_X6_isIn nM_X5_83 wT_X6_isIn (by decide) rfl rfl (Nat.le_of_ble_eq_true rfl) ⟨Nat.zero_le _, Nat.zero_le _⟩ dX5_listenToSenders_95 rfl ?_
      refine G_if_eq X (tgt := 136) dX5_listenToSenders_98 (by decide) (fun c15 => ?_) (fun c15 => ?_)
      · have h := it_t c15 h
        obtain ⟨v16, ev16, h⟩ := nm_some h
        refine G_iinc X (v := v16) (lv' := [(4, .int v16), (0, .ref (xE (gκ g) r 0 0)), (1, .int a1), (2, .ref (xE (gκ g) r o2 0)), (3, .int a3)]) 4 dX5_listenToSenders_136 rfl (by rw [ev16]; rfl) (by decide) rfl ?_
        refine G_goto X (tgt := 80) dX5_listenToSenders_139 (by decide) ?_
        refine G_sub [1, 2, 3, 4, 0] rfl ?_
        exact ih _ _ _ _ _ ho2 h
      · have h := it_f c15 h
        refine G_aload_n X 0 dX5_listenToSenders_101 rfl rfl ?_
        refine f_X5_17 X (kd_w0 hr) rfl dX5_listenToSenders_102 ?_
        refine G_iload X 4 dX5_listenToSenders_105 rfl ?_
        obtain ⟨g17, h⟩ := gd_some h
        refine G_aaldB X (kd_w2 hr) g17 dX5_listenToSenders_107 ?_
        refine f_X5_145 X (kd_o0 hr (inb_isO (by decide) g17)) rfl dX5_listenToSenders_108 ?_
        refine G_iload_n X 1 dX5_listenToSenders_111 rfl rfl ?_
        obtain ⟨g18, h⟩ := gd_some h
        refine G_iald X (kd_o3 hr (inb_isO (by decide) g17)) (rg_rs _ _ _) g18 dX5_listenToSenders_112 ?_
        refine G_if_ne X (tgt := 136) dX5_listenToSenders_113 (by decide) (fun c19 => ?_) (fun c19 => ?_)
        · have h := it_t c19 h
          obtain ⟨v20, ev20, h⟩ := nm_some h
          refine G_iinc X (v := v20) (lv' := [(4, .int v20), (0, .ref (xE (gκ g) r 0 0)), (1, .int a1), (2, .ref (xE (gκ g) r o2 0)), (3, .int a3)]) 4 dX5_listenToSenders_136 rfl (by rw [ev20]; rfl) (by decide) rfl ?_
          refine G_goto X (tgt := 80) dX5_listenToSenders_139 (by decide) ?_
          refine G_sub [1, 2, 3, 4, 0] rfl ?_
          exact ih _ _ _ _ _ ho2 h
        · have h := it_f (fun k => k c19) h
          refine G_aload_n X 0 dX5_listenToSenders_116 rfl rfl ?_
          refine f_X5_17 X (kd_w0 hr) rfl dX5_listenToSenders_117 ?_
          refine G_iload X 4 dX5_listenToSenders_120 rfl ?_
          obtain ⟨g21, h⟩ := gd_some h
          refine G_aaldB X (kd_w2 hr) g21 dX5_listenToSenders_122 ?_
          refine f_X5_145 X (kd_o0 hr (inb_isO (by decide) g21)) rfl dX5_listenToSenders_123 ?_
          refine G_iload_n X 1 dX5_listenToSenders_126 rfl rfl ?_
          refine G_aload_n X 0 dX5_listenToSenders_127 rfl rfl ?_
          refine G_aload_n X 2 dX5_listenToSenders_128 rfl rfl ?_
          refine G_iload X 4 dX5_listenToSenders_129 rfl ?_
          refine G_iload_n X 3 dX5_listenToSenders_131 rfl rfl ?_
          obtain ⟨q22, hq22, h⟩ := bd_some h
          refine G_callV X (As := [.ref (xE (gκ g) r o2 0), .int a4, .int a3]) (rest := [.int a1, .ref (xE (gκ g) r (ix a4 + 1) 3)]) (T' := rs T r x) (st2 := [.int q22, .int a1, .ref (xE (gκ g) r (ix a4 + 1) 3)]) (ct_X5_reasonAgainst (l := g.2.1) (κ := gκ g) (T := T) (r := r) (x := x) hr ho2 hq22) cal_X5_reasonAgainst wM_X5_148 wI_X5_reasonAgainst wS_X5_reasonAgainst (kd_w0 hr) rfl (by decide) rfl rfl (Nat.le_of_ble_eq_true rfl) ⟨Nat.zero_le _, Nat.zero_le _⟩ dX5_listenToSenders_132 rfl ?_
          obtain ⟨g23, h⟩ := gd_some h
          obtain ⟨x24, ex24, h⟩ := nm_some h
          refine G_iast X (T' := rs T r x24) (kd_o3 hr (inb_isO (by decide) g21)) (rg_rs _ _ _) g23 (by rw [rs_rs, ex24]) dX5_listenToSenders_135 ?_
          obtain ⟨v25, ev25, h⟩ := nm_some h
          refine G_iinc X (v := v25) (lv' := [(4, .int v25), (0, .ref (xE (gκ g) r 0 0)), (1, .int a1), (2, .ref (xE (gκ g) r o2 0)), (3, .int a3)]) 4 dX5_listenToSenders_136 rfl (by rw [ev25]; rfl) (by decide) rfl ?_
          refine G_goto X (tgt := 80) dX5_listenToSenders_139 (by decide) ?_
          refine G_sub [1, 2, 3, 4, 0] rfl ?_
          exact ih _ _ _ _ _ ho2 h
set_option maxRecDepth 20000 in
theorem gX5_listenToSenders_b55 {g : GX} {T : TT} {r : Nat}  {x : St} {a1 : Int32} {o2 : Nat} {s0 : Int32} {res : St} {k19 : St → Int32 → Option (St)} (X : CX g RX5 cX5_listenToSenders 5 2 44) (hr : isW r) (hf : FinV g cX5_listenToSenders (rs T r res)) (hk19 : ∀ (x' : St) (a1' : Int32), k19 x' a1' = some res → G g 0 0 (rs T r x') 19 [(0, .ref (xE (gκ g) r 0 0)), (1, .int a1')] []) (ho2 : isO o2) (h : sX5_listenToSenders_b55 k19 x a1 o2 s0 = some res) : G g 0 0 (rs T r x) 55 [(0, .ref (xE (gκ g) r 0 0)), (1, .int a1), (2, .ref (xE (gκ g) r o2 0))] [.int s0] := by
  unfold sX5_listenToSenders_b55 at h
  refine G_istore_n X (lv' := [(3, .int s0), (0, .ref (xE (gκ g) r 0 0)), (1, .int a1), (2, .ref (xE (gκ g) r o2 0))]) dX5_listenToSenders_55 rfl (by decide) rfl ?_
  refine G_iload_n X 0 dX5_listenToSenders_56 rfl rfl ?_
  refine G_if_eq X (tgt := 77) dX5_listenToSenders_57 (by decide) (fun c8 => ?_) (fun c8 => ?_)
  · have h := it_t c8 h
    refine G_iconst X (v := (0 : Int32)) dX5_listenToSenders_77 (by decide) ?_
    refine G_istore X (lv' := [(4, .int ((0 : Int32))), (3, .int s0), (0, .ref (xE (gκ g) r 0 0)), (1, .int a1), (2, .ref (xE (gκ g) r o2 0))]) dX5_listenToSenders_78 (by decide) rfl ?_
    refine G_sub [2, 3, 4, 1, 0] rfl ?_
    exact gX5_listenToSenders_b80 X hr hf hk19 FU _ _ _ _ _ ho2 h
  · have h := it_f c8 h
    refine G_aload_n X 3 dX5_listenToSenders_60 rfl rfl ?_
    obtain ⟨q9, hq9, h⟩ := bd_some h
    refine G_callVN X (As := []) (rest := []) (T' := rs T r x) (st2 := [.int q9]) (ct_X0_hasOpenEars (l := g.2.1) (κ := gκ g) (T := T) (r := r) (x := x) hr ho2 hq9) cal_X0_hasOpenEars nM_X5_141 wI_X0_hasOpenEars wS_X0_hasOpenEars (kd_o0 hr ho2) rfl (by decide) rfl rfl (Nat.le_of_ble_eq_true rfl) ⟨Nat.zero_le _, Nat.zero_le _⟩ dX5_listenToSenders_61 rfl ?_
    refine G_if_eq X (tgt := 77) dX5_listenToSenders_64 (by decide) (fun c10 => ?_) (fun c10 => ?_)
    · have h := it_t c10 h
      refine G_iconst X (v := (0 : Int32)) dX5_listenToSenders_77 (by decide) ?_
      refine G_istore X (lv' := [(4, .int ((0 : Int32))), (3, .int s0), (0, .ref (xE (gκ g) r 0 0)), (1, .int a1), (2, .ref (xE (gκ g) r o2 0))]) dX5_listenToSenders_78 (by decide) rfl ?_
      refine G_sub [2, 3, 4, 1, 0] rfl ?_
      exact gX5_listenToSenders_b80 X hr hf hk19 FU _ _ _ _ _ ho2 h
    · have h := it_f c10 h
      refine G_aload_n X 1 dX5_listenToSenders_67 rfl rfl ?_
      refine G_dup X dX5_listenToSenders_68 rfl ?_
      refine f_X5_47 X (kd_w0 hr) (rg_rs _ _ _) dX5_listenToSenders_69 ?_
      refine G_iconst X (v := (1 : Int32)) dX5_listenToSenders_72 (by decide) ?_
      refine G_iadd X dX5_listenToSenders_73 ?_
      obtain ⟨x11, ex11, h⟩ := nm_some h
      refine p_X5_47 X (T' := rs T r x11) (kd_w0 hr) (rg_rs _ _ _)  (by rw [rs_rs, ex11]) dX5_listenToSenders_74 ?_
      refine G_iconst X (v := (0 : Int32)) dX5_listenToSenders_77 (by decide) ?_
      refine G_istore X (lv' := [(4, .int ((0 : Int32))), (3, .int s0), (0, .ref (xE (gκ g) r 0 0)), (1, .int a1), (2, .ref (xE (gκ g) r o2 0))]) dX5_listenToSenders_78 (by decide) rfl ?_
      refine G_sub [2, 3, 4, 1, 0] rfl ?_
      exact gX5_listenToSenders_b80 X hr hf hk19 FU _ _ _ _ _ ho2 h
set_option maxRecDepth 20000 in
theorem gX5_listenToSenders_b19 {g : GX} {T : TT} {r : Nat}   {res : St}  (X : CX g RX5 cX5_listenToSenders 5 2 44) (hr : isW r) (hf : FinV g cX5_listenToSenders (rs T r res))  : ∀ (n : Nat) (x : St) (a1 : Int32) (h : sX5_listenToSenders_b19 n  x a1 = some res), G g 0 0 (rs T r x) 19 [(0, .ref (xE (gκ g) r 0 0)), (1, .int a1)] [] := by
  intro n
  induction n with
  | zero => intro x a1 h; unfold sX5_listenToSenders_b19 at h; cases h
  | succ n ih =>
    intro x a1 h
    unfold sX5_listenToSenders_b19 at h
    refine G_iload_n X 1 dX5_listenToSenders_19 rfl rfl ?_
    refine G_aload_n X 0 dX5_listenToSenders_20 rfl rfl ?_
    refine f_X5_25 X (kd_w0 hr) (rg_rs _ _ _) dX5_listenToSenders_21 ?_
    refine G_icmp_ge X (tgt := 148) dX5_listenToSenders_24 (by decide) (fun c4 => ?_) (fun c4 => ?_)
    · have h := it_t c4 h
      obtain rfl := Option.some.inj h
      exact hf _ _ dX5_listenToSenders_148
    · have h := it_f c4 h
      refine G_aload_n X 0 dX5_listenToSenders_27 rfl rfl ?_
      refine f_X5_17 X (kd_w0 hr) rfl dX5_listenToSenders_28 ?_
      refine G_iload_n X 1 dX5_listenToSenders_31 rfl rfl ?_
      obtain ⟨g5, h⟩ := gd_some h
      refine G_aaldB X (kd_w2 hr) g5 dX5_listenToSenders_32 ?_
      refine G_astore_n X (lv' := [(2, .ref (xE (gκ g) r (ix a1 + 1) 0)), (0, .ref (xE (gκ g) r 0 0)), (1, .int a1)]) dX5_listenToSenders_33 rfl (by decide) rfl ?_
      refine G_aload_n X 0 dX5_listenToSenders_34 rfl rfl ?_
      refine f_X5_61 X (kd_o0 hr (inb_isO (by decide) g5)) (rg_rs _ _ _) dX5_listenToSenders_35 ?_
      refine G_aload_n X 1 dX5_listenToSenders_38 rfl rfl ?_
      refine f_X5_50 X (kd_w0 hr) (rg_rs _ _ _) dX5_listenToSenders_39 ?_
      refine G_iand X dX5_listenToSenders_42 ?_
      obtain ⟨q6, hq6, h⟩ := bd_some h
      refine G_callS X (As := [.int ((gI x (ix a1 + 1) 0 10) &&& (gI x 0 0 10))]) (rest := []) (T' := rs T r x) (st2 := [.int q6]) (ct_J6_bitCount_0f7a4 (l := g.2.1) (κ := gκ g)   hq6) cal_J6_bitCount_0f7a4 wM_X5_64 wT_J6_bitCount_0f7a4 (by decide) rfl rfl (Nat.le_of_ble_eq_true rfl) ⟨Nat.zero_le _, Nat.zero_le _⟩ dX5_listenToSenders_43 rfl ?_
      refine G_iconst X (v := (1 : Int32)) dX5_listenToSenders_46 (by decide) ?_
      refine G_icmp_le X (tgt := 54) dX5_listenToSenders_47 (by decide) (fun c7 => ?_) (fun c7 => ?_)
      · have h := it_t c7 h
        refine G_iconst X (v := (0 : Int32)) dX5_listenToSenders_54 (by decide) ?_
        refine G_sub [1, 2, 0] rfl ?_
        exact gX5_listenToSenders_b55 X hr hf (fun _ _ h => ih _ _ h) (inb_isO (by decide) g5) h
      · have h := it_f c7 h
        refine G_iconst X (v := (1 : Int32)) dX5_listenToSenders_50 (by decide) ?_
        refine G_goto X (tgt := 55) dX5_listenToSenders_51 (by decide) ?_
        refine G_sub [1, 2, 0] rfl ?_
        exact gX5_listenToSenders_b55 X hr hf (fun _ _ h => ih _ _ h) (inb_isO (by decide) g5) h
set_option maxRecDepth 20000 in
theorem gX5_listenToSenders {g : GX} {T : TT} {r : Nat}  {x : St}  {res : St} (X : CX g RX5 cX5_listenToSenders 5 2 44) (hr : isW r) (hf : FinV g cX5_listenToSenders (rs T r res)) (h : sX5_listenToSenders x = some res) : G g 0 0 (rs T r x) 0 [(0, .ref (xE (gκ g) r 0 0))] [] := by
  unfold sX5_listenToSenders at h
  refine G_aload_n X 0 dX5_listenToSenders_0 rfl rfl ?_
  refine G_aload_n X 0 dX5_listenToSenders_1 rfl rfl ?_
  refine G_iconst X (v := (3 : Int32)) dX5_listenToSenders_2 (by decide) ?_
  obtain ⟨q1, hq1, h⟩ := bd_some h
  refine G_callV X (As := [.int ((3 : Int32))]) (rest := [.ref (xE (gκ g) r 0 0)]) (T' := rs T r x) (st2 := [.int q1, .ref (xE (gκ g) r 0 0)]) (ct_X5_inState (l := g.2.1) (κ := gκ g) (T := T) (r := r) (x := x) hr hq1) cal_X5_inState wM_X5_73 wI_X5_inState wS_X5_inState (kd_w0 hr) rfl (by decide) rfl rfl (Nat.le_of_ble_eq_true rfl) ⟨Nat.zero_le _, Nat.zero_le _⟩ dX5_listenToSenders_3 rfl ?_
  obtain ⟨x2, ex2, h⟩ := nm_some h
  refine p_X5_50 X (T' := rs T r x2) (kd_w0 hr) (rg_rs _ _ _)  (by rw [rs_rs, ex2]) dX5_listenToSenders_6 ?_
  refine G_aload_n X 0 dX5_listenToSenders_9 rfl rfl ?_
  refine f_X5_50 X (kd_w0 hr) (rg_rs _ _ _) dX5_listenToSenders_10 ?_
  refine G_if_ne X (tgt := 17) dX5_listenToSenders_13 (by decide) (fun c3 => ?_) (fun c3 => ?_)
  · have h := it_t c3 h
    refine G_iconst X (v := (0 : Int32)) dX5_listenToSenders_17 (by decide) ?_
    refine G_istore_n X (lv' := [(1, .int ((0 : Int32))), (0, .ref (xE (gκ g) r 0 0))]) dX5_listenToSenders_18 rfl (by decide) rfl ?_
    refine G_sub [1, 0] rfl ?_
    exact gX5_listenToSenders_b19 X hr hf FU _ _ h
  · have h := it_f (fun k => k c3) h
    obtain rfl := Option.some.inj h
    exact hf _ _ dX5_listenToSenders_16
set_option maxRecDepth 20000 in
theorem ct_X5_listenToSenders {l : Launch} {κ : KX} {T : TT} {r : Nat}  {x : St}  {res : St} (hr : isW r) (h : sX5_listenToSenders x = some res) : Ct l κ yX5_listenToSenders cX5_listenToSenders 5 none 2 44 [.ref (xE κ r 0 0)] (rs T r x) (rs T r res) none := by
  refine Ct_v RX5 rfl (by decide +kernel) (Nat.le_of_ble_eq_true rfl) (fun g hl hκ X hf => ?_)
  subst hl; subst hκ
  exact gX5_listenToSenders X hr hf h
set_option maxRecDepth 20000 in
theorem gX5_tellEars_b5 {g : GX} {T : TT} {r : Nat} {o1 : Nat}  {res : St × Int32}  (X : CX g RX5 cX5_tellEars 5 0 0) (hr : isW r) (ho1 : isO o1) (hf : FinI g cX5_tellEars .boolean (rs T r res.1) (res.2))  : ∀ (n : Nat) (x : St) (a2 : Int32) (a3 : Int32) (a4 : Int32) (h : sX5_tellEars_b5 n  o1 x a2 a3 a4 = some res), G g 0 0 (rs T r x) 5 [(0, .ref (xE (gκ g) r 0 0)), (1, .ref (xE (gκ g) r o1 0)), (2, .int a2), (3, .int a3), (4, .int a4)] [] := by
  intro n
  induction n with
  | zero => intro x a2 a3 a4 h; unfold sX5_tellEars_b5 at h; cases h
  | succ n ih =>
    intro x a2 a3 a4 h
    unfold sX5_tellEars_b5 at h
    refine G_iload X 4 dX5_tellEars_5 rfl ?_
    refine G_aload_n X 0 dX5_tellEars_7 rfl rfl ?_
    refine f_X5_25 X (kd_w0 hr) (rg_rs _ _ _) dX5_tellEars_8 ?_
    refine G_icmp_ge X (tgt := 62) dX5_tellEars_11 (by decide) (fun c1 => ?_) (fun c1 => ?_)
    · have h := it_t c1 h
      refine G_iload_n X 3 dX5_tellEars_62 rfl rfl ?_
      obtain ⟨g2, h⟩ := gd_some h
      obtain rfl := Option.some.inj h
      exact hf _ _ dX5_tellEars_63 (isb_n g2)
    · have h := it_f c1 h
      refine G_aload_n X 1 dX5_tellEars_14 rfl rfl ?_
      refine f_X5_167 X (kd_o0 hr ho1) rfl dX5_tellEars_15 ?_
      refine G_iload X 4 dX5_tellEars_18 rfl ?_
      refine G_aload_n X 1 dX5_tellEars_20 rfl rfl ?_
      refine f_X5_145 X (kd_o0 hr ho1) rfl dX5_tellEars_21 ?_
      refine G_iload X 4 dX5_tellEars_24 rfl ?_
      obtain ⟨g3, h⟩ := gd_some h
      refine G_iald X (kd_o3 hr ho1) (rg_rs _ _ _) g3 dX5_tellEars_26 ?_
      obtain ⟨g4, h⟩ := gd_some h
      obtain ⟨x5, ex5, h⟩ := nm_some h
      refine G_iast X (T' := rs T r x5) (kd_o4 hr ho1) (rg_rs _ _ _) g4 (by rw [rs_rs, ex5]) dX5_tellEars_27 ?_
      refine G_aload_n X 1 dX5_tellEars_28 rfl rfl ?_
      refine f_X5_145 X (kd_o0 hr ho1) rfl dX5_tellEars_29 ?_
      refine G_iload X 4 dX5_tellEars_32 rfl ?_
      obtain ⟨g6, h⟩ := gd_some h
      refine G_iald X (kd_o3 hr ho1) (rg_rs _ _ _) g6 dX5_tellEars_34 ?_
      refine G_if_ne X (tgt := 56) dX5_tellEars_35 (by decide) (fun c7 => ?_) (fun c7 => ?_)
      · have h := it_t c7 h
        obtain ⟨v8, ev8, h⟩ := nm_some h
        refine G_iinc X (v := v8) (lv' := [(4, .int v8), (0, .ref (xE (gκ g) r 0 0)), (1, .ref (xE (gκ g) r o1 0)), (2, .int a2), (3, .int a3)]) 4 dX5_tellEars_56 rfl (by rw [ev8]; rfl) (by decide) rfl ?_
        refine G_goto X (tgt := 5) dX5_tellEars_59 (by decide) ?_
        refine G_sub [1, 2, 3, 4, 0] rfl ?_
        exact ih _ _ _ _ h
      · have h := it_f (fun k => k c7) h
        refine G_aload_n X 0 dX5_tellEars_38 rfl rfl ?_
        refine f_X5_17 X (kd_w0 hr) rfl dX5_tellEars_39 ?_
        refine G_iload X 4 dX5_tellEars_42 rfl ?_
        obtain ⟨g9, h⟩ := gd_some h
        refine G_aaldB X (kd_w2 hr) g9 dX5_tellEars_44 ?_
        refine f_X5_76 X (kd_o0 hr (inb_isO (by decide) g9)) rfl dX5_tellEars_45 ?_
        refine G_iload_n X 2 dX5_tellEars_48 rfl rfl ?_
        refine G_aload_n X 0 dX5_tellEars_49 rfl rfl ?_
        refine f_X5_38 X (kd_w0 hr) (rg_rs _ _ _) dX5_tellEars_50 ?_
        obtain ⟨g10, h⟩ := gd_some h
        obtain ⟨x11, ex11, h⟩ := nm_some h
        refine G_iast X (T' := rs T r x11) (kd_o2 hr (inb_isO (by decide) g9)) (rg_rs _ _ _) g10 (by rw [rs_rs, ex11]) dX5_tellEars_53 ?_
        refine G_iconst X (v := (1 : Int32)) dX5_tellEars_54 (by decide) ?_
        refine G_istore_n X (lv' := [(3, .int ((1 : Int32))), (0, .ref (xE (gκ g) r 0 0)), (1, .ref (xE (gκ g) r o1 0)), (2, .int a2), (4, .int a4)]) dX5_tellEars_55 rfl (by decide) rfl ?_
        obtain ⟨v12, ev12, h⟩ := nm_some h
        refine G_iinc X (v := v12) (lv' := [(4, .int v12), (3, .int ((1 : Int32))), (0, .ref (xE (gκ g) r 0 0)), (1, .ref (xE (gκ g) r o1 0)), (2, .int a2)]) 4 dX5_tellEars_56 rfl (by rw [ev12]; rfl) (by decide) rfl ?_
        refine G_goto X (tgt := 5) dX5_tellEars_59 (by decide) ?_
        refine G_sub [2, 3, 4, 1, 0] rfl ?_
        exact ih _ _ _ _ h
set_option maxRecDepth 20000 in
theorem gX5_tellEars {g : GX} {T : TT} {r : Nat} {o1 : Nat} {x : St} {a2 : Int32} {res : St × Int32} (X : CX g RX5 cX5_tellEars 5 0 0) (hr : isW r) (ho1 : isO o1) (hf : FinI g cX5_tellEars .boolean (rs T r res.1) (res.2)) (h : sX5_tellEars o1 x a2 = some res) : G g 0 0 (rs T r x) 0 [(0, .ref (xE (gκ g) r 0 0)), (1, .ref (xE (gκ g) r o1 0)), (2, .int a2)] [] := by
  unfold sX5_tellEars at h
  refine G_iconst X (v := (0 : Int32)) dX5_tellEars_0 (by decide) ?_
  refine G_istore_n X (lv' := [(3, .int ((0 : Int32))), (0, .ref (xE (gκ g) r 0 0)), (1, .ref (xE (gκ g) r o1 0)), (2, .int a2)]) dX5_tellEars_1 rfl (by decide) rfl ?_
  refine G_iconst X (v := (0 : Int32)) dX5_tellEars_2 (by decide) ?_
  refine G_istore X (lv' := [(4, .int ((0 : Int32))), (3, .int ((0 : Int32))), (0, .ref (xE (gκ g) r 0 0)), (1, .ref (xE (gκ g) r o1 0)), (2, .int a2)]) dX5_tellEars_3 (by decide) rfl ?_
  refine G_sub [2, 3, 4, 1, 0] rfl ?_
  exact gX5_tellEars_b5 X hr ho1 hf FU _ _ _ _ h
set_option maxRecDepth 20000 in
theorem ct_X5_tellEars {l : Launch} {κ : KX} {T : TT} {r : Nat} {o1 : Nat} {x : St} {a2 : Int32} {res : St × Int32} (hr : isW r) (ho1 : isO o1) (h : sX5_tellEars o1 x a2 = some res) : Ct l κ yX5_tellEars cX5_tellEars 5 (some .boolean) 0 0 [.ref (xE κ r 0 0), .ref (xE κ r o1 0), .int a2] (rs T r x) (rs T r res.1) (some (.int (res.2))) := by
  refine Ct_i RX5 rfl (by decide +kernel) (Nat.le_of_ble_eq_true rfl) (fun g hl hκ X hf => ?_)
  subst hl; subst hκ
  exact gX5_tellEars X hr ho1 hf h
set_option maxRecDepth 20000 in
theorem gX5_endSending {g : GX} {T : TT} {r : Nat} {o1 : Nat} {x : St} {a2 : Int32} {res : St × Int32} (X : CX g RX5 cX5_endSending 3 1 24) (hr : isW r) (ho1 : isO o1) (hf : FinI g cX5_endSending .boolean (rs T r res.1) (res.2)) (h : sX5_endSending o1 x a2 = some res) : G g 0 0 (rs T r x) 0 [(0, .ref (xE (gκ g) r 0 0)), (1, .ref (xE (gκ g) r o1 0)), (2, .int a2)] [] := by
  unfold sX5_endSending at h
  refine G_aload_n X 0 dX5_endSending_0 rfl rfl ?_
  refine G_aload_n X 1 dX5_endSending_1 rfl rfl ?_
  refine G_iload_n X 2 dX5_endSending_2 rfl rfl ?_
  obtain ⟨q1, hq1, h⟩ := bd_some h
  refine G_callV X (As := [.ref (xE (gκ g) r o1 0), .int a2]) (rest := []) (T' := rs T r q1.1) (st2 := [.int q1.2]) (ct_X5_tellEars (l := g.2.1) (κ := gκ g) (T := T) (r := r) (x := x) hr ho1 hq1) cal_X5_tellEars wM_X5_156 wI_X5_tellEars wS_X5_tellEars (kd_w0 hr) rfl (by decide) rfl rfl (Nat.le_of_ble_eq_true rfl) ⟨Nat.zero_le _, Nat.zero_le _⟩ dX5_endSending_3 rfl ?_
  refine G_if_eq X (tgt := 35) dX5_endSending_6 (by decide) (fun c2 => ?_) (fun c2 => ?_)
  · have h := it_t c2 h
    refine G_aload_n X 1 dX5_endSending_35 rfl rfl ?_
    refine G_dup X dX5_endSending_36 rfl ?_
    refine f_X5_163 X (kd_o0 hr ho1) (rg_rs _ _ _) dX5_endSending_37 ?_
    refine G_iconst X (v := (1 : Int32)) dX5_endSending_40 (by decide) ?_
    refine G_iadd X dX5_endSending_41 ?_
    obtain ⟨x3, ex3, h⟩ := nm_some h
    refine p_X5_163 X (T' := rs T r x3) (kd_o0 hr ho1) (rg_rs _ _ _)  (by rw [rs_rs, ex3]) dX5_endSending_42 ?_
    refine G_aload_n X 1 dX5_endSending_45 rfl rfl ?_
    refine f_X5_163 X (kd_o0 hr ho1) (rg_rs _ _ _) dX5_endSending_46 ?_
    refine G_aload_n X 0 dX5_endSending_49 rfl rfl ?_
    refine f_X5_32 X (kd_w0 hr) (rg_rs _ _ _) dX5_endSending_50 ?_
    refine G_icmp_lt X (tgt := 82) dX5_endSending_53 (by decide) (fun c4 => ?_) (fun c4 => ?_)
    · have h := it_t c4 h
      refine G_iconst X (v := (0 : Int32)) dX5_endSending_82 (by decide) ?_
      obtain rfl := Option.some.inj h
      exact hf _ _ dX5_endSending_83 (isb_n (v := (0 : Int32)) rfl)
    · have h := it_f c4 h
      refine G_aload_n X 1 dX5_endSending_56 rfl rfl ?_
      refine G_dup X dX5_endSending_57 rfl ?_
      refine f_X5_166 X (kd_o0 hr ho1) (rg_rs _ _ _) dX5_endSending_58 ?_
      refine G_iconst X (v := (1 : Int32)) dX5_endSending_61 (by decide) ?_
      refine G_iadd X dX5_endSending_62 ?_
      obtain ⟨x5, ex5, h⟩ := nm_some h
      refine p_X5_166 X (T' := rs T r x5) (kd_o0 hr ho1) (rg_rs _ _ _)  (by rw [rs_rs, ex5]) dX5_endSending_63 ?_
      refine G_aload_n X 0 dX5_endSending_66 rfl rfl ?_
      refine G_dup X dX5_endSending_67 rfl ?_
      refine f_X5_44 X (kd_w0 hr) (rg_rs _ _ _) dX5_endSending_68 ?_
      refine G_iconst X (v := (1 : Int32)) dX5_endSending_71 (by decide) ?_
      refine G_iadd X dX5_endSending_72 ?_
      obtain ⟨x6, ex6, h⟩ := nm_some h
      refine p_X5_44 X (T' := rs T r x6) (kd_w0 hr) (rg_rs _ _ _)  (by rw [rs_rs, ex6]) dX5_endSending_73 ?_
      refine G_aload_n X 1 dX5_endSending_76 rfl rfl ?_
      obtain ⟨q7, hq7, h⟩ := bd_some h
      refine G_callVN X (As := []) (rest := []) (T' := rs T r q7) (st2 := []) (ct_X0_fallAsleep (l := g.2.1) (κ := gκ g) (T := T) (r := r) (x := x6) hr ho1 hq7) cal_X0_fallAsleep nM_X5_160 wI_X0_fallAsleep wS_X0_fallAsleep (kd_o0 hr ho1) rfl (by decide) rfl rfl (Nat.le_of_ble_eq_true rfl) ⟨Nat.zero_le _, Nat.zero_le _⟩ dX5_endSending_77 rfl ?_
      refine G_iconst X (v := (1 : Int32)) dX5_endSending_80 (by decide) ?_
      obtain rfl := Option.some.inj h
      exact hf _ _ dX5_endSending_81 (isb_n (v := (1 : Int32)) rfl)
  · have h := it_f c2 h
    refine G_aload_n X 1 dX5_endSending_9 rfl rfl ?_
    refine G_dup X dX5_endSending_10 rfl ?_
    refine f_X5_159 X (kd_o0 hr ho1) (rg_rs _ _ _) dX5_endSending_11 ?_
    refine G_iconst X (v := (1 : Int32)) dX5_endSending_14 (by decide) ?_
    refine G_iadd X dX5_endSending_15 ?_
    obtain ⟨x8, ex8, h⟩ := nm_some h
    refine p_X5_159 X (T' := rs T r x8) (kd_o0 hr ho1) (rg_rs _ _ _)  (by rw [rs_rs, ex8]) dX5_endSending_16 ?_
    refine G_aload_n X 0 dX5_endSending_19 rfl rfl ?_
    refine G_dup X dX5_endSending_20 rfl ?_
    refine f_X5_41 X (kd_w0 hr) (rg_rs _ _ _) dX5_endSending_21 ?_
    refine G_iconst X (v := (1 : Int32)) dX5_endSending_24 (by decide) ?_
    refine G_iadd X dX5_endSending_25 ?_
    obtain ⟨x9, ex9, h⟩ := nm_some h
    refine p_X5_41 X (T' := rs T r x9) (kd_w0 hr) (rg_rs _ _ _)  (by rw [rs_rs, ex9]) dX5_endSending_26 ?_
    refine G_aload_n X 1 dX5_endSending_29 rfl rfl ?_
    obtain ⟨q10, hq10, h⟩ := bd_some h
    refine G_callVN X (As := []) (rest := []) (T' := rs T r q10) (st2 := []) (ct_X0_fallAsleep (l := g.2.1) (κ := gκ g) (T := T) (r := r) (x := x9) hr ho1 hq10) cal_X0_fallAsleep nM_X5_160 wI_X0_fallAsleep wS_X0_fallAsleep (kd_o0 hr ho1) rfl (by decide) rfl rfl (Nat.le_of_ble_eq_true rfl) ⟨Nat.zero_le _, Nat.zero_le _⟩ dX5_endSending_30 rfl ?_
    refine G_iconst X (v := (1 : Int32)) dX5_endSending_33 (by decide) ?_
    obtain rfl := Option.some.inj h
    exact hf _ _ dX5_endSending_34 (isb_n (v := (1 : Int32)) rfl)
set_option maxRecDepth 20000 in
theorem ct_X5_endSending {l : Launch} {κ : KX} {T : TT} {r : Nat} {o1 : Nat} {x : St} {a2 : Int32} {res : St × Int32} (hr : isW r) (ho1 : isO o1) (h : sX5_endSending o1 x a2 = some res) : Ct l κ yX5_endSending cX5_endSending 3 (some .boolean) 1 24 [.ref (xE κ r 0 0), .ref (xE κ r o1 0), .int a2] (rs T r x) (rs T r res.1) (some (.int (res.2))) := by
  refine Ct_i RX5 rfl (by decide +kernel) (Nat.le_of_ble_eq_true rfl) (fun g hl hκ X hf => ?_)
  subst hl; subst hκ
  exact gX5_endSending X hr ho1 hf h
set_option maxRecDepth 20000 in
theorem gX5_endSendings_b2 {g : GX} {T : TT} {r : Nat}   {res : St}  (X : CX g RX5 cX5_endSendings 3 3 63) (hr : isW r) (hf : FinV g cX5_endSendings (rs T r res))  : ∀ (n : Nat) (x : St) (a1 : Int32) (h : sX5_endSendings_b2 n  x a1 = some res), G g 0 0 (rs T r x) 2 [(0, .ref (xE (gκ g) r 0 0)), (1, .int a1)] [] := by
  intro n
  induction n with
  | zero => intro x a1 h; unfold sX5_endSendings_b2 at h; cases h
  | succ n ih =>
    intro x a1 h
    unfold sX5_endSendings_b2 at h
    refine G_iload_n X 1 dX5_endSendings_2 rfl rfl ?_
    refine G_aload_n X 0 dX5_endSendings_3 rfl rfl ?_
    refine f_X5_25 X (kd_w0 hr) (rg_rs _ _ _) dX5_endSendings_4 ?_
    refine G_icmp_ge X (tgt := 62) dX5_endSendings_7 (by decide) (fun c1 => ?_) (fun c1 => ?_)
    · have h := it_t c1 h
      obtain rfl := Option.some.inj h
      exact hf _ _ dX5_endSendings_62
    · have h := it_f c1 h
      refine G_aload_n X 0 dX5_endSendings_10 rfl rfl ?_
      refine f_X5_17 X (kd_w0 hr) rfl dX5_endSendings_11 ?_
      refine G_iload_n X 1 dX5_endSendings_14 rfl rfl ?_
      obtain ⟨g2, h⟩ := gd_some h
      refine G_aaldB X (kd_w2 hr) g2 dX5_endSendings_15 ?_
      refine G_astore_n X (lv' := [(2, .ref (xE (gκ g) r (ix a1 + 1) 0)), (0, .ref (xE (gκ g) r 0 0)), (1, .int a1)]) dX5_endSendings_16 rfl (by decide) rfl ?_
      refine G_aload_n X 0 dX5_endSendings_17 rfl rfl ?_
      refine f_X5_70 X (kd_o0 hr (inb_isO (by decide) g2)) (rg_rs _ _ _) dX5_endSendings_18 ?_
      refine G_iconst X (v := (3 : Int32)) dX5_endSendings_21 (by decide) ?_
      refine G_icmp_ne X (tgt := 56) dX5_endSendings_22 (by decide) (fun c3 => ?_) (fun c3 => ?_)
      · have h := it_t c3 h
        obtain ⟨v4, ev4, h⟩ := nm_some h
        refine G_iinc X (v := v4) (lv' := [(1, .int v4), (2, .ref (xE (gκ g) r (ix a1 + 1) 0)), (0, .ref (xE (gκ g) r 0 0))]) 2 dX5_endSendings_56 rfl (by rw [ev4]; rfl) (by decide) rfl ?_
        refine G_goto X (tgt := 2) dX5_endSendings_59 (by decide) ?_
        refine G_sub [2, 0] rfl ?_
        exact ih _ _ h
      · have h := it_f (fun k => k c3) h
        refine G_aload_n X 0 dX5_endSendings_25 rfl rfl ?_
        refine G_dup X dX5_endSendings_26 rfl ?_
        refine f_X5_110 X (kd_o0 hr (inb_isO (by decide) g2)) (rg_rs _ _ _) dX5_endSendings_27 ?_
        refine G_iconst X (v := (1 : Int32)) dX5_endSendings_30 (by decide) ?_
        refine G_isub X dX5_endSendings_31 ?_
        obtain ⟨v5, ev5, h⟩ := nm_some h
        refine G_nmi ev5 ?_
        obtain ⟨x6, ex6, h⟩ := nm_some h
        refine p_X5_110 X (T' := rs T r x6) (kd_o0 hr (inb_isO (by decide) g2)) (rg_rs _ _ _)  (by rw [rs_rs, ex6]) dX5_endSendings_32 ?_
        refine G_aload_n X 0 dX5_endSendings_35 rfl rfl ?_
        refine f_X5_110 X (kd_o0 hr (inb_isO (by decide) g2)) (rg_rs _ _ _) dX5_endSendings_36 ?_
        refine G_if_ne X (tgt := 56) dX5_endSendings_39 (by decide) (fun c7 => ?_) (fun c7 => ?_)
        · have h := it_t c7 h
          obtain ⟨v8, ev8, h⟩ := nm_some h
          refine G_iinc X (v := v8) (lv' := [(1, .int v8), (2, .ref (xE (gκ g) r (ix a1 + 1) 0)), (0, .ref (xE (gκ g) r 0 0))]) 2 dX5_endSendings_56 rfl (by rw [ev8]; rfl) (by decide) rfl ?_
          refine G_goto X (tgt := 2) dX5_endSendings_59 (by decide) ?_
          refine G_sub [2, 0] rfl ?_
          exact ih _ _ h
        · have h := it_f (fun k => k c7) h
          refine G_aload_n X 1 dX5_endSendings_42 rfl rfl ?_
          refine G_aload_n X 0 dX5_endSendings_43 rfl rfl ?_
          refine G_iload_n X 2 dX5_endSendings_44 rfl rfl ?_
          obtain ⟨q9, hq9, h⟩ := bd_some h
          refine G_callV X (As := [.ref (xE (gκ g) r (ix a1 + 1) 0), .int a1]) (rest := []) (T' := rs T r q9.1) (st2 := [.int q9.2]) (ct_X5_endSending (l := g.2.1) (κ := gκ g) (T := T) (r := r) (x := x6) hr (inb_isO (by decide) g2) hq9) cal_X5_endSending wM_X5_152 wI_X5_endSending wS_X5_endSending (kd_w0 hr) rfl (by decide) rfl rfl (Nat.le_of_ble_eq_true rfl) ⟨Nat.zero_le _, Nat.zero_le _⟩ dX5_endSendings_45 rfl ?_
          refine G_if_ne X (tgt := 56) dX5_endSendings_48 (by decide) (fun c10 => ?_) (fun c10 => ?_)
          · have h := it_t c10 h
            obtain ⟨v11, ev11, h⟩ := nm_some h
            refine G_iinc X (v := v11) (lv' := [(1, .int v11), (2, .ref (xE (gκ g) r (ix a1 + 1) 0)), (0, .ref (xE (gκ g) r 0 0))]) 2 dX5_endSendings_56 rfl (by rw [ev11]; rfl) (by decide) rfl ?_
            refine G_goto X (tgt := 2) dX5_endSendings_59 (by decide) ?_
            refine G_sub [2, 0] rfl ?_
            exact ih _ _ h
          · have h := it_f (fun k => k c10) h
            refine G_aload_n X 1 dX5_endSendings_51 rfl rfl ?_
            refine G_aload_n X 0 dX5_endSendings_52 rfl rfl ?_
            obtain ⟨q12, hq12, h⟩ := bd_some h
            refine G_callV X (As := [.ref (xE (gκ g) r (ix a1 + 1) 0)]) (rest := []) (T' := rs T r q12) (st2 := []) (ct_X5_waitByDraw (l := g.2.1) (κ := gκ g) (T := T) (r := r) (x := q9.1) hr (inb_isO (by decide) g2) hq12) cal_X5_waitByDraw wM_X5_113 wI_X5_waitByDraw wS_X5_waitByDraw (kd_w0 hr) rfl (by decide) rfl rfl (Nat.le_of_ble_eq_true rfl) ⟨Nat.zero_le _, Nat.zero_le _⟩ dX5_endSendings_53 rfl ?_
            obtain ⟨v13, ev13, h⟩ := nm_some h
            refine G_iinc X (v := v13) (lv' := [(1, .int v13), (2, .ref (xE (gκ g) r (ix a1 + 1) 0)), (0, .ref (xE (gκ g) r 0 0))]) 2 dX5_endSendings_56 rfl (by rw [ev13]; rfl) (by decide) rfl ?_
            refine G_goto X (tgt := 2) dX5_endSendings_59 (by decide) ?_
            refine G_sub [2, 0] rfl ?_
            exact ih _ _ h
set_option maxRecDepth 20000 in
theorem gX5_endSendings {g : GX} {T : TT} {r : Nat}  {x : St}  {res : St} (X : CX g RX5 cX5_endSendings 3 3 63) (hr : isW r) (hf : FinV g cX5_endSendings (rs T r res)) (h : sX5_endSendings x = some res) : G g 0 0 (rs T r x) 0 [(0, .ref (xE (gκ g) r 0 0))] [] := by
  unfold sX5_endSendings at h
  refine G_iconst X (v := (0 : Int32)) dX5_endSendings_0 (by decide) ?_
  refine G_istore_n X (lv' := [(1, .int ((0 : Int32))), (0, .ref (xE (gκ g) r 0 0))]) dX5_endSendings_1 rfl (by decide) rfl ?_
  refine G_sub [1, 0] rfl ?_
  exact gX5_endSendings_b2 X hr hf FU _ _ h
set_option maxRecDepth 20000 in
theorem ct_X5_endSendings {l : Launch} {κ : KX} {T : TT} {r : Nat}  {x : St}  {res : St} (hr : isW r) (h : sX5_endSendings x = some res) : Ct l κ yX5_endSendings cX5_endSendings 3 none 3 63 [.ref (xE κ r 0 0)] (rs T r x) (rs T r res) none := by
  refine Ct_v RX5 rfl (by decide +kernel) (Nat.le_of_ble_eq_true rfl) (fun g hl hκ X hf => ?_)
  subst hl; subst hκ
  exact gX5_endSendings X hr hf h
set_option maxRecDepth 20000 in
theorem gX5_pass_b2 {g : GX} {T : TT} {r : Nat}   {res : St}  (X : CX g RX5 cX5_pass 3 4 85) (hr : isW r) (hf : FinV g cX5_pass (rs T r res))  : ∀ (n : Nat) (x : St) (a1 : Int32) (a2 : Int32) (h : sX5_pass_b2 n  x a1 a2 = some res), G g 0 0 (rs T r x) 2 [(0, .ref (xE (gκ g) r 0 0)), (1, .int a1), (2, .int a2)] [] := by
  intro n
  induction n with
  | zero => intro x a1 a2 h; unfold sX5_pass_b2 at h; cases h
  | succ n ih =>
    intro x a1 a2 h
    unfold sX5_pass_b2 at h
    refine G_iload_n X 2 dX5_pass_2 rfl rfl ?_
    refine G_iload_n X 1 dX5_pass_3 rfl rfl ?_
    refine G_icmp_ge X (tgt := 39) dX5_pass_4 (by decide) (fun c1 => ?_) (fun c1 => ?_)
    · have h := it_t c1 h
      obtain rfl := Option.some.inj h
      exact hf _ _ dX5_pass_39
    · have h := it_f c1 h
      refine G_aload_n X 0 dX5_pass_7 rfl rfl ?_
      refine G_dup X dX5_pass_8 rfl ?_
      refine f_X5_38 X (kd_w0 hr) (rg_rs _ _ _) dX5_pass_9 ?_
      refine G_iconst X (v := (1 : Int32)) dX5_pass_12 (by decide) ?_
      refine G_iadd X dX5_pass_13 ?_
      obtain ⟨x2, ex2, h⟩ := nm_some h
      refine p_X5_38 X (T' := rs T r x2) (kd_w0 hr) (rg_rs _ _ _)  (by rw [rs_rs, ex2]) dX5_pass_14 ?_
      refine G_aload_n X 0 dX5_pass_17 rfl rfl ?_
      obtain ⟨q3, hq3, h⟩ := bd_some h
      refine G_callV X (As := []) (rest := []) (T' := rs T r q3) (st2 := []) (ct_X5_changeStates (l := g.2.1) (κ := gκ g) (T := T) (r := r) (x := x2) hr hq3) cal_X5_changeStates wM_X5_91 wI_X5_changeStates wS_X5_changeStates (kd_w0 hr) rfl (by decide) rfl rfl (Nat.le_of_ble_eq_true rfl) ⟨Nat.zero_le _, Nat.zero_le _⟩ dX5_pass_18 rfl ?_
      refine G_aload_n X 0 dX5_pass_21 rfl rfl ?_
      obtain ⟨q4, hq4, h⟩ := bd_some h
      refine G_callV X (As := []) (rest := []) (T' := rs T r q4) (st2 := []) (ct_X5_payForStates (l := g.2.1) (κ := gκ g) (T := T) (r := r) (x := q3) hr hq4) cal_X5_payForStates wM_X5_94 wI_X5_payForStates wS_X5_payForStates (kd_w0 hr) rfl (by decide) rfl rfl (Nat.le_of_ble_eq_true rfl) ⟨Nat.zero_le _, Nat.zero_le _⟩ dX5_pass_22 rfl ?_
      refine G_aload_n X 0 dX5_pass_25 rfl rfl ?_
      obtain ⟨q5, hq5, h⟩ := bd_some h
      refine G_callV X (As := []) (rest := []) (T' := rs T r q5) (st2 := []) (ct_X5_listenToSenders (l := g.2.1) (κ := gκ g) (T := T) (r := r) (x := q4) hr hq5) cal_X5_listenToSenders wM_X5_97 wI_X5_listenToSenders wS_X5_listenToSenders (kd_w0 hr) rfl (by decide) rfl rfl (Nat.le_of_ble_eq_true rfl) ⟨Nat.zero_le _, Nat.zero_le _⟩ dX5_pass_26 rfl ?_
      refine G_aload_n X 0 dX5_pass_29 rfl rfl ?_
      obtain ⟨q6, hq6, h⟩ := bd_some h
      refine G_callV X (As := []) (rest := []) (T' := rs T r q6) (st2 := []) (ct_X5_endSendings (l := g.2.1) (κ := gκ g) (T := T) (r := r) (x := q5) hr hq6) cal_X5_endSendings wM_X5_100 wI_X5_endSendings wS_X5_endSendings (kd_w0 hr) rfl (by decide) rfl rfl (Nat.le_of_ble_eq_true rfl) ⟨Nat.zero_le _, Nat.zero_le _⟩ dX5_pass_30 rfl ?_
      obtain ⟨v7, ev7, h⟩ := nm_some h
      refine G_iinc X (v := v7) (lv' := [(2, .int v7), (0, .ref (xE (gκ g) r 0 0)), (1, .int a1)]) 2 dX5_pass_33 rfl (by rw [ev7]; rfl) (by decide) rfl ?_
      refine G_goto X (tgt := 2) dX5_pass_36 (by decide) ?_
      refine G_sub [1, 2, 0] rfl ?_
      exact ih _ _ _ h
set_option maxRecDepth 20000 in
theorem gX5_pass {g : GX} {T : TT} {r : Nat}  {x : St} {a1 : Int32} {res : St} (X : CX g RX5 cX5_pass 3 4 85) (hr : isW r) (hf : FinV g cX5_pass (rs T r res)) (h : sX5_pass x a1 = some res) : G g 0 0 (rs T r x) 0 [(0, .ref (xE (gκ g) r 0 0)), (1, .int a1)] [] := by
  unfold sX5_pass at h
  refine G_iconst X (v := (0 : Int32)) dX5_pass_0 (by decide) ?_
  refine G_istore_n X (lv' := [(2, .int ((0 : Int32))), (0, .ref (xE (gκ g) r 0 0)), (1, .int a1)]) dX5_pass_1 rfl (by decide) rfl ?_
  refine G_sub [1, 2, 0] rfl ?_
  exact gX5_pass_b2 X hr hf FU _ _ _ h
set_option maxRecDepth 20000 in
theorem ct_X5_pass {l : Launch} {κ : KX} {T : TT} {r : Nat}  {x : St} {a1 : Int32} {res : St} (hr : isW r) (h : sX5_pass x a1 = some res) : Ct l κ yX5_pass cX5_pass 3 none 4 85 [.ref (xE κ r 0 0), .int a1] (rs T r x) (rs T r res) none := by
  refine Ct_v RX5 rfl (by decide +kernel) (Nat.le_of_ble_eq_true rfl) (fun g hl hκ X hf => ?_)
  subst hl; subst hκ
  exact gX5_pass X hr hf h
set_option maxRecDepth 20000 in
theorem gX6_isCharge {g : GX} {T : TT}   {a0 : Int32} {res : Int32} (X : CX g RX6 cX6_isCharge 1 0 0)  (hf : FinI g cX6_isCharge .boolean (T) (res)) (h : sX6_isCharge a0 = some res) : G g 0 0 (T) 0 [(0, .int a0)] [] := by
  unfold sX6_isCharge at h
  refine G_iload_n X 0 dX6_isCharge_0 rfl rfl ?_
  refine G_iconst X (v := (1 : Int32)) dX6_isCharge_1 (by decide) ?_
  refine G_icmp_lt X (tgt := 16) dX6_isCharge_2 (by decide) (fun c1 => ?_) (fun c1 => ?_)
  · have h := it_t c1 h
    refine G_iconst X (v := (0 : Int32)) dX6_isCharge_16 (by decide) ?_
    obtain rfl := Option.some.inj h
    exact hf _ _ dX6_isCharge_17 (isb_n (v := (0 : Int32)) rfl)
  · have h := it_f c1 h
    refine G_iload_n X 0 dX6_isCharge_5 rfl rfl ?_
    refine G_sipush X (v := (999 : Int32)) dX6_isCharge_6 (by decide) ?_
    refine G_icmp_gt X (tgt := 16) dX6_isCharge_9 (by decide) (fun c2 => ?_) (fun c2 => ?_)
    · have h := it_t c2 h
      refine G_iconst X (v := (0 : Int32)) dX6_isCharge_16 (by decide) ?_
      obtain rfl := Option.some.inj h
      exact hf _ _ dX6_isCharge_17 (isb_n (v := (0 : Int32)) rfl)
    · have h := it_f c2 h
      refine G_iconst X (v := (1 : Int32)) dX6_isCharge_12 (by decide) ?_
      refine G_goto X (tgt := 17) dX6_isCharge_13 (by decide) ?_
      obtain rfl := Option.some.inj h
      exact hf _ _ dX6_isCharge_17 (isb_n (v := (1 : Int32)) rfl)
set_option maxRecDepth 20000 in
theorem ct_X6_isCharge {l : Launch} {κ : KX} {T : TT}   {a0 : Int32} {res : Int32}  (h : sX6_isCharge a0 = some res) : Ct l κ yX6_isCharge cX6_isCharge 1 (some .boolean) 0 0 [.int a0] (T) (T) (some (.int (res))) := by
  refine Ct_i RX6 rfl (by decide +kernel) (Nat.le_of_ble_eq_true rfl) (fun g hl hκ X hf => ?_)
  subst hl; subst hκ
  exact gX6_isCharge X  hf h
set_option maxRecDepth 20000 in
theorem gX7_thrown {g : GX} {T : TT}  {m : St}  {res : Int32} (X : CX g RX7 cX7_thrown 1 0 0)  (hf : FinI g cX7_thrown .int (rs T 9 m) (res)) (h : sX7_thrown m = some res) : G g 0 0 (rs T 9 m) 0 [(0, .ref (xE (gκ g) 9 0 0))] [] := by
  unfold sX7_thrown at h
  refine G_aload_n X 0 dX7_thrown_0 rfl rfl ?_
  refine f_X7_66 X rfl (rg_rs _ _ _) dX7_thrown_1 ?_
  obtain rfl := Option.some.inj h
  exact hf _ _ dX7_thrown_4 rfl
set_option maxRecDepth 20000 in
theorem ct_X7_thrown {l : Launch} {κ : KX} {T : TT}  {m : St}  {res : Int32}  (h : sX7_thrown m = some res) : Ct l κ yX7_thrown cX7_thrown 1 (some .int) 0 0 [.ref (xE κ 9 0 0)] (rs T 9 m) (rs T 9 m) (some (.int (res))) := by
  refine Ct_i RX7 rfl (by decide +kernel) (Nat.le_of_ble_eq_true rfl) (fun g hl hκ X hf => ?_)
  subst hl; subst hκ
  exact gX7_thrown X  hf h
set_option maxRecDepth 20000 in
theorem gX7_isIn {g : GX} {T : TT}   {a0 : Int64} {a2 : Int64} {a4 : Int64} {res : Int32} (X : CX g RX7 cX7_isIn 6 0 0)  (hf : FinI g cX7_isIn .boolean (T) (res)) (h : sX7_isIn a0 a2 a4 = some res) : G g 0 0 (T) 0 [(0, .long a0), (2, .long a2), (4, .long a4)] [] := by
  unfold sX7_isIn at h
  refine G_lload_n X 0 dX7_isIn_0 rfl rfl ?_
  refine G_lload_n X 1 dX7_isIn_1 rfl rfl ?_
  refine G_lcmp X dX7_isIn_2 ?_
  refine G_if_lt X (tgt := 17) dX7_isIn_3 (by decide) (fun c1 => ?_) (fun c1 => ?_)
  · have h := it_t c1 h
    refine G_iconst X (v := (0 : Int32)) dX7_isIn_17 (by decide) ?_
    obtain rfl := Option.some.inj h
    exact hf _ _ dX7_isIn_18 (isb_n (v := (0 : Int32)) rfl)
  · have h := it_f c1 h
    refine G_lload_n X 0 dX7_isIn_6 rfl rfl ?_
    refine G_lload X 2 dX7_isIn_7 rfl ?_
    refine G_lcmp X dX7_isIn_9 ?_
    refine G_if_gt X (tgt := 17) dX7_isIn_10 (by decide) (fun c2 => ?_) (fun c2 => ?_)
    · have h := it_t c2 h
      refine G_iconst X (v := (0 : Int32)) dX7_isIn_17 (by decide) ?_
      obtain rfl := Option.some.inj h
      exact hf _ _ dX7_isIn_18 (isb_n (v := (0 : Int32)) rfl)
    · have h := it_f c2 h
      refine G_iconst X (v := (1 : Int32)) dX7_isIn_13 (by decide) ?_
      refine G_goto X (tgt := 18) dX7_isIn_14 (by decide) ?_
      obtain rfl := Option.some.inj h
      exact hf _ _ dX7_isIn_18 (isb_n (v := (1 : Int32)) rfl)
set_option maxRecDepth 20000 in
theorem ct_X7_isIn {l : Launch} {κ : KX} {T : TT}   {a0 : Int64} {a2 : Int64} {a4 : Int64} {res : Int32}  (h : sX7_isIn a0 a2 a4 = some res) : Ct l κ yX7_isIn cX7_isIn 6 (some .boolean) 0 0 [.long a0, .long a2, .long a4] (T) (T) (some (.int (res))) := by
  refine Ct_i RX7 rfl (by decide +kernel) (Nat.le_of_ble_eq_true rfl) (fun g hl hκ X hf => ?_)
  subst hl; subst hκ
  exact gX7_isIn X  hf h
set_option maxRecDepth 20000 in
theorem gX7_truth {g : GX} {T : TT}   {a0 : Int32} {res : Int32} (X : CX g RX7 cX7_truth 1 0 0)  (hf : FinI g cX7_truth .int (T) (res)) (h : sX7_truth a0 = some res) : G g 0 0 (T) 0 [(0, .int a0)] [] := by
  unfold sX7_truth at h
  refine G_iload_n X 0 dX7_truth_0 rfl rfl ?_
  refine G_if_eq X (tgt := 8) dX7_truth_1 (by decide) (fun c1 => ?_) (fun c1 => ?_)
  · have h := it_t c1 h
    refine G_iconst X (v := (0 : Int32)) dX7_truth_8 (by decide) ?_
    obtain rfl := Option.some.inj h
    exact hf _ _ dX7_truth_9 rfl
  · have h := it_f c1 h
    refine G_iconst X (v := (1 : Int32)) dX7_truth_4 (by decide) ?_
    refine G_goto X (tgt := 9) dX7_truth_5 (by decide) ?_
    obtain rfl := Option.some.inj h
    exact hf _ _ dX7_truth_9 rfl
set_option maxRecDepth 20000 in
theorem ct_X7_truth {l : Launch} {κ : KX} {T : TT}   {a0 : Int32} {res : Int32}  (h : sX7_truth a0 = some res) : Ct l κ yX7_truth cX7_truth 1 (some .int) 0 0 [.int a0] (T) (T) (some (.int (res))) := by
  refine Ct_i RX7 rfl (by decide +kernel) (Nat.le_of_ble_eq_true rfl) (fun g hl hκ X hf => ?_)
  subst hl; subst hκ
  exact gX7_truth X  hf h
set_option maxRecDepth 20000 in
theorem gX7_has {g : GX} {T : TT}   {a0 : Int32} {a1 : Int32} {res : Int32} (X : CX g RX7 cX7_has 2 0 0)  (hf : FinI g cX7_has .boolean (T) (res)) (h : sX7_has a0 a1 = some res) : G g 0 0 (T) 0 [(0, .int a0), (1, .int a1)] [] := by
  unfold sX7_has at h
  refine G_iload_n X 0 dX7_has_0 rfl rfl ?_
  refine G_iload_n X 1 dX7_has_1 rfl rfl ?_
  refine G_ishr X dX7_has_2 ?_
  refine G_iconst X (v := (1 : Int32)) dX7_has_3 (by decide) ?_
  refine G_iand X dX7_has_4 ?_
  refine G_iconst X (v := (1 : Int32)) dX7_has_5 (by decide) ?_
  refine G_icmp_ne X (tgt := 13) dX7_has_6 (by decide) (fun c1 => ?_) (fun c1 => ?_)
  · have h := it_t c1 h
    refine G_iconst X (v := (0 : Int32)) dX7_has_13 (by decide) ?_
    obtain rfl := Option.some.inj h
    exact hf _ _ dX7_has_14 (isb_n (v := (0 : Int32)) rfl)
  · have h := it_f (fun k => k c1) h
    refine G_iconst X (v := (1 : Int32)) dX7_has_9 (by decide) ?_
    refine G_goto X (tgt := 14) dX7_has_10 (by decide) ?_
    obtain rfl := Option.some.inj h
    exact hf _ _ dX7_has_14 (isb_n (v := (1 : Int32)) rfl)
set_option maxRecDepth 20000 in
theorem ct_X7_has {l : Launch} {κ : KX} {T : TT}   {a0 : Int32} {a1 : Int32} {res : Int32}  (h : sX7_has a0 a1 = some res) : Ct l κ yX7_has cX7_has 2 (some .boolean) 0 0 [.int a0, .int a1] (T) (T) (some (.int (res))) := by
  refine Ct_i RX7 rfl (by decide +kernel) (Nat.le_of_ble_eq_true rfl) (fun g hl hκ X hf => ?_)
  subst hl; subst hκ
  exact gX7_has X  hf h
set_option maxRecDepth 20000 in
theorem gX7_goes_b10 {g : GX} {T : TT}  {m : St} {a1 : Int32} {s0 : Int32} {res : St × Int32}  (X : CX g RX7 cX7_goes 2 1 20)  (hf : FinI g cX7_goes .boolean (rs T 9 res.1) (res.2))   (h : sX7_goes_b10  m a1 s0 = some res) : G g 0 0 (rs T 9 m) 10 [(1, .int a1)] [.int s0, .ref (xE (gκ g) 9 0 0)] := by
  unfold sX7_goes_b10 at h
  obtain ⟨q2, hq2, h⟩ := bd_some h
  refine G_callS X (As := [.int s0]) (rest := [.ref (xE (gκ g) 9 0 0)]) (T' := rs T 9 m) (st2 := [.int q2, .ref (xE (gκ g) 9 0 0)]) (ct_X7_truth (l := g.2.1) (κ := gκ g)   hq2) cal_X7_truth wM_X7_69 wT_X7_truth (by decide) rfl rfl (Nat.le_of_ble_eq_true rfl) ⟨Nat.zero_le _, Nat.zero_le _⟩ dX7_goes_10 rfl ?_
  obtain ⟨x3, ex3, h⟩ := nm_some h
  refine p_X7_66 X (T' := rs T 9 x3) rfl (rg_rs _ _ _)  (by rw [rs_rs, ex3]) dX7_goes_13 ?_
  refine G_iload_n X 0 dX7_goes_16 rfl rfl ?_
  obtain ⟨g4, h⟩ := gd_some h
  obtain rfl := Option.some.inj h
  exact hf _ _ dX7_goes_17 (isb_n g4)
set_option maxRecDepth 20000 in
theorem gX7_goes {g : GX} {T : TT}  {m : St} {a1 : Int32} {res : St × Int32} (X : CX g RX7 cX7_goes 2 1 20)  (hf : FinI g cX7_goes .boolean (rs T 9 res.1) (res.2)) (h : sX7_goes m a1 = some res) : G g 0 0 (rs T 9 m) 0 [(0, .ref (xE (gκ g) 9 0 0)), (1, .int a1)] [] := by
  unfold sX7_goes at h
  refine G_aload_n X 0 dX7_goes_0 rfl rfl ?_
  refine G_iload_n X 1 dX7_goes_1 rfl rfl ?_
  refine G_if_ne X (tgt := 9) dX7_goes_2 (by decide) (fun c1 => ?_) (fun c1 => ?_)
  · have h := it_t c1 h
    refine G_iconst X (v := (0 : Int32)) dX7_goes_9 (by decide) ?_
    refine G_sub [1] rfl ?_
    exact gX7_goes_b10 X hf h
  · have h := it_f (fun k => k c1) h
    refine G_iconst X (v := (1 : Int32)) dX7_goes_5 (by decide) ?_
    refine G_goto X (tgt := 10) dX7_goes_6 (by decide) ?_
    refine G_sub [1] rfl ?_
    exact gX7_goes_b10 X hf h
set_option maxRecDepth 20000 in
theorem ct_X7_goes {l : Launch} {κ : KX} {T : TT}  {m : St} {a1 : Int32} {res : St × Int32}  (h : sX7_goes m a1 = some res) : Ct l κ yX7_goes cX7_goes 2 (some .boolean) 1 20 [.ref (xE κ 9 0 0), .int a1] (rs T 9 m) (rs T 9 res.1) (some (.int (res.2))) := by
  refine Ct_i RX7 rfl (by decide +kernel) (Nat.le_of_ble_eq_true rfl) (fun g hl hκ X hf => ?_)
  subst hl; subst hκ
  exact gX7_goes X  hf h
set_option maxRecDepth 20000 in
theorem gX7_goesBoth_b18 {g : GX} {T : TT}  {m : St} {s0 : Int32} {res : St × Int32}  (X : CX g RX7 cX7_goesBoth 3 0 0)  (hf : FinI g cX7_goesBoth .boolean (rs T 9 res.1) (res.2))   (h : sX7_goesBoth_b18  m s0 = some res) : G g 0 0 (rs T 9 m) 18 [(0, .ref (xE (gκ g) 9 0 0))] [.int s0, .ref (xE (gκ g) 9 0 0)] := by
  unfold sX7_goesBoth_b18 at h
  obtain ⟨x3, ex3, h⟩ := nm_some h
  refine p_X7_66 X (T' := rs T 9 x3) rfl (rg_rs _ _ _)  (by rw [rs_rs, ex3]) dX7_goesBoth_18 ?_
  refine G_aload_n X 0 dX7_goesBoth_21 rfl rfl ?_
  refine f_X7_66 X rfl (rg_rs _ _ _) dX7_goesBoth_22 ?_
  refine G_if_ne X (tgt := 32) dX7_goesBoth_25 (by decide) (fun c4 => ?_) (fun c4 => ?_)
  · have h := it_t c4 h
    refine G_iconst X (v := (0 : Int32)) dX7_goesBoth_32 (by decide) ?_
    obtain rfl := Option.some.inj h
    exact hf _ _ dX7_goesBoth_33 (isb_n (v := (0 : Int32)) rfl)
  · have h := it_f (fun k => k c4) h
    refine G_iconst X (v := (1 : Int32)) dX7_goesBoth_28 (by decide) ?_
    refine G_goto X (tgt := 33) dX7_goesBoth_29 (by decide) ?_
    obtain rfl := Option.some.inj h
    exact hf _ _ dX7_goesBoth_33 (isb_n (v := (1 : Int32)) rfl)
set_option maxRecDepth 20000 in
theorem gX7_goesBoth {g : GX} {T : TT}  {m : St} {a1 : Int32} {a2 : Int32} {res : St × Int32} (X : CX g RX7 cX7_goesBoth 3 0 0)  (hf : FinI g cX7_goesBoth .boolean (rs T 9 res.1) (res.2)) (h : sX7_goesBoth m a1 a2 = some res) : G g 0 0 (rs T 9 m) 0 [(0, .ref (xE (gκ g) 9 0 0)), (1, .int a1), (2, .int a2)] [] := by
  unfold sX7_goesBoth at h
  refine G_aload_n X 0 dX7_goesBoth_0 rfl rfl ?_
  refine G_iload_n X 1 dX7_goesBoth_1 rfl rfl ?_
  refine G_if_ne X (tgt := 9) dX7_goesBoth_2 (by decide) (fun c1 => ?_) (fun c1 => ?_)
  · have h := it_t c1 h
    refine G_iload_n X 2 dX7_goesBoth_9 rfl rfl ?_
    refine G_if_ne X (tgt := 17) dX7_goesBoth_10 (by decide) (fun c2 => ?_) (fun c2 => ?_)
    · have h := it_t c2 h
      refine G_iconst X (v := (0 : Int32)) dX7_goesBoth_17 (by decide) ?_
      refine G_sub [0] rfl ?_
      exact gX7_goesBoth_b18 X hf h
    · have h := it_f (fun k => k c2) h
      refine G_iconst X (v := (2 : Int32)) dX7_goesBoth_13 (by decide) ?_
      refine G_goto X (tgt := 18) dX7_goesBoth_14 (by decide) ?_
      refine G_sub [0] rfl ?_
      exact gX7_goesBoth_b18 X hf h
  · have h := it_f (fun k => k c1) h
    refine G_iconst X (v := (1 : Int32)) dX7_goesBoth_5 (by decide) ?_
    refine G_goto X (tgt := 18) dX7_goesBoth_6 (by decide) ?_
    refine G_sub [0] rfl ?_
    exact gX7_goesBoth_b18 X hf h
set_option maxRecDepth 20000 in
theorem ct_X7_goesBoth {l : Launch} {κ : KX} {T : TT}  {m : St} {a1 : Int32} {a2 : Int32} {res : St × Int32}  (h : sX7_goesBoth m a1 a2 = some res) : Ct l κ yX7_goesBoth cX7_goesBoth 3 (some .boolean) 0 0 [.ref (xE κ 9 0 0), .int a1, .int a2] (rs T 9 m) (rs T 9 res.1) (some (.int (res.2))) := by
  refine Ct_i RX7 rfl (by decide +kernel) (Nat.le_of_ble_eq_true rfl) (fun g hl hκ X hf => ?_)
  subst hl; subst hκ
  exact gX7_goesBoth X  hf h
set_option maxRecDepth 20000 in
theorem gX7_four_b3 {g : GX} {T : TT}   {res : St}  (X : CX g RX7 cX7_four 3 0 0)  (hf : FinV g cX7_four (rs T 9 res))  : ∀ (n : Nat) (m : St) (a1 : Int32) (a2 : Int32) (h : sX7_four_b3 n  m a1 a2 = some res), G g 0 0 (rs T 9 m) 3 [(0, .ref (xE (gκ g) 9 0 0)), (1, .int a1), (2, .int a2)] [] := by
  intro n
  induction n with
  | zero => intro m a1 a2 h; unfold sX7_four_b3 at h; cases h
  | succ n ih =>
    intro m a1 a2 h
    unfold sX7_four_b3 at h
    refine G_iload_n X 2 dX7_four_3 rfl rfl ?_
    refine G_if_lt X (tgt := 39) dX7_four_4 (by decide) (fun c1 => ?_) (fun c1 => ?_)
    · have h := it_t c1 h
      obtain rfl := Option.some.inj h
      exact hf _ _ dX7_four_39
    · have h := it_f c1 h
      refine G_aload_n X 0 dX7_four_7 rfl rfl ?_
      refine f_X7_7 X rfl rfl dX7_four_8 ?_
      refine G_aload_n X 0 dX7_four_11 rfl rfl ?_
      refine f_X7_73 X rfl (rg_rs _ _ _) dX7_four_12 ?_
      refine G_iload_n X 1 dX7_four_15 rfl rfl ?_
      refine G_iload_n X 2 dX7_four_16 rfl rfl ?_
      refine G_ishr X dX7_four_17 ?_
      refine G_sipush X (v := (255 : Int32)) dX7_four_18 (by decide) ?_
      refine G_iand X dX7_four_21 ?_
      obtain ⟨v2, ev2, h⟩ := nm_some h
      refine G_nmi ev2 ?_
      obtain ⟨g3, h⟩ := gd_some h
      obtain ⟨x4, ex4, h⟩ := nm_some h
      refine G_iast X (T' := rs T 9 x4) rfl (rg_rs _ _ _) g3 (by rw [rs_rs, ex4]) dX7_four_22 ?_
      refine G_aload_n X 0 dX7_four_23 rfl rfl ?_
      refine G_dup X dX7_four_24 rfl ?_
      refine f_X7_73 X rfl (rg_rs _ _ _) dX7_four_25 ?_
      refine G_iconst X (v := (1 : Int32)) dX7_four_28 (by decide) ?_
      refine G_iadd X dX7_four_29 ?_
      obtain ⟨x5, ex5, h⟩ := nm_some h
      refine p_X7_73 X (T' := rs T 9 x5) rfl (rg_rs _ _ _)  (by rw [rs_rs, ex5]) dX7_four_30 ?_
      obtain ⟨v6, ev6, h⟩ := nm_some h
      refine G_iinc X (v := v6) (lv' := [(2, .int v6), (0, .ref (xE (gκ g) 9 0 0)), (1, .int a1)]) 2 dX7_four_33 rfl (by rw [ev6]; rfl) (by decide) rfl ?_
      refine G_goto X (tgt := 3) dX7_four_36 (by decide) ?_
      refine G_sub [1, 2, 0] rfl ?_
      exact ih _ _ _ h
set_option maxRecDepth 20000 in
theorem gX7_four {g : GX} {T : TT}  {m : St} {a1 : Int32} {res : St} (X : CX g RX7 cX7_four 3 0 0)  (hf : FinV g cX7_four (rs T 9 res)) (h : sX7_four m a1 = some res) : G g 0 0 (rs T 9 m) 0 [(0, .ref (xE (gκ g) 9 0 0)), (1, .int a1)] [] := by
  unfold sX7_four at h
  refine G_bipush X (v := (24 : Int32)) dX7_four_0 (by decide) ?_
  refine G_istore_n X (lv' := [(2, .int ((24 : Int32))), (0, .ref (xE (gκ g) 9 0 0)), (1, .int a1)]) dX7_four_2 rfl (by decide) rfl ?_
  refine G_sub [1, 2, 0] rfl ?_
  exact gX7_four_b3 X hf FU _ _ _ h
set_option maxRecDepth 20000 in
theorem ct_X7_four {l : Launch} {κ : KX} {T : TT}  {m : St} {a1 : Int32} {res : St}  (h : sX7_four m a1 = some res) : Ct l κ yX7_four cX7_four 3 none 0 0 [.ref (xE κ 9 0 0), .int a1] (rs T 9 m) (rs T 9 res) none := by
  refine Ct_v RX7 rfl (by decide +kernel) (Nat.le_of_ble_eq_true rfl) (fun g hl hκ X hf => ?_)
  subst hl; subst hκ
  exact gX7_four X  hf h
set_option maxRecDepth 20000 in
theorem gX7_feed_b19 {g : GX} {T : TT}  {m : St} {a1 : Int32} {a2 : Int32} {a3 : Int32} {a4 : Int32} {a5 : Int32} {s0 : Int32} {res : St × Int32}  (X : CX g RX7 cX7_feed 6 2 41)  (hf : FinI g cX7_feed .int (rs T 9 res.1) (res.2))   (h : sX7_feed_b19  m a1 a2 a3 a4 a5 s0 = some res) : G g 0 0 (rs T 9 m) 19 [(0, .ref (xE (gκ g) 9 0 0)), (1, .int a1), (2, .int a2), (3, .int a3), (4, .int a4), (5, .int a5)] [.int s0, .ref (xE (gκ g) 9 0 0)] := by
  unfold sX7_feed_b19 at h
  obtain ⟨q2, hq2, h⟩ := bd_some h
  refine G_callV X (As := [.int s0]) (rest := []) (T' := rs T 9 q2.1) (st2 := [.int q2.2]) (ct_X7_goes (l := g.2.1) (κ := gκ g)   hq2) cal_X7_goes wM_X7_76 wI_X7_goes wS_X7_goes rfl rfl (by decide) rfl rfl (Nat.le_of_ble_eq_true rfl) ⟨Nat.zero_le _, Nat.zero_le _⟩ dX7_feed_19 rfl ?_
  refine G_if_ne X (tgt := 27) dX7_feed_22 (by decide) (fun c3 => ?_) (fun c3 => ?_)
  · have h := it_t c3 h
    refine G_aload_n X 0 dX7_feed_27 rfl rfl ?_
    refine G_iload_n X 1 dX7_feed_28 rfl rfl ?_
    obtain ⟨q4, hq4, h⟩ := bd_some h
    refine G_callV X (As := [.int a1]) (rest := []) (T' := rs T 9 q4) (st2 := []) (ct_X7_four (l := g.2.1) (κ := gκ g)   hq4) cal_X7_four wM_X7_80 wI_X7_four wS_X7_four rfl rfl (by decide) rfl rfl (Nat.le_of_ble_eq_true rfl) ⟨Nat.zero_le _, Nat.zero_le _⟩ dX7_feed_29 rfl ?_
    refine G_aload_n X 0 dX7_feed_32 rfl rfl ?_
    refine G_iload_n X 2 dX7_feed_33 rfl rfl ?_
    obtain ⟨q5, hq5, h⟩ := bd_some h
    refine G_callV X (As := [.int a2]) (rest := []) (T' := rs T 9 q5) (st2 := []) (ct_X7_four (l := g.2.1) (κ := gκ g)   hq5) cal_X7_four wM_X7_80 wI_X7_four wS_X7_four rfl rfl (by decide) rfl rfl (Nat.le_of_ble_eq_true rfl) ⟨Nat.zero_le _, Nat.zero_le _⟩ dX7_feed_34 rfl ?_
    refine G_aload_n X 0 dX7_feed_37 rfl rfl ?_
    refine G_iload_n X 3 dX7_feed_38 rfl rfl ?_
    obtain ⟨q6, hq6, h⟩ := bd_some h
    refine G_callV X (As := [.int a3]) (rest := []) (T' := rs T 9 q6) (st2 := []) (ct_X7_four (l := g.2.1) (κ := gκ g)   hq6) cal_X7_four wM_X7_80 wI_X7_four wS_X7_four rfl rfl (by decide) rfl rfl (Nat.le_of_ble_eq_true rfl) ⟨Nat.zero_le _, Nat.zero_le _⟩ dX7_feed_39 rfl ?_
    refine G_aload_n X 0 dX7_feed_42 rfl rfl ?_
    refine G_iload X 4 dX7_feed_43 rfl ?_
    obtain ⟨q7, hq7, h⟩ := bd_some h
    refine G_callV X (As := [.int a4]) (rest := []) (T' := rs T 9 q7) (st2 := []) (ct_X7_four (l := g.2.1) (κ := gκ g)   hq7) cal_X7_four wM_X7_80 wI_X7_four wS_X7_four rfl rfl (by decide) rfl rfl (Nat.le_of_ble_eq_true rfl) ⟨Nat.zero_le _, Nat.zero_le _⟩ dX7_feed_45 rfl ?_
    refine G_aload_n X 0 dX7_feed_48 rfl rfl ?_
    refine G_iload X 5 dX7_feed_49 rfl ?_
    obtain ⟨q8, hq8, h⟩ := bd_some h
    refine G_callV X (As := [.int a5]) (rest := []) (T' := rs T 9 q8) (st2 := []) (ct_X7_four (l := g.2.1) (κ := gκ g)   hq8) cal_X7_four wM_X7_80 wI_X7_four wS_X7_four rfl rfl (by decide) rfl rfl (Nat.le_of_ble_eq_true rfl) ⟨Nat.zero_le _, Nat.zero_le _⟩ dX7_feed_51 rfl ?_
    refine G_aload_n X 0 dX7_feed_54 rfl rfl ?_
    refine f_X7_73 X rfl (rg_rs _ _ _) dX7_feed_55 ?_
    obtain rfl := Option.some.inj h
    exact hf _ _ dX7_feed_58 rfl
  · have h := it_f (fun k => k c3) h
    refine G_iconst X (v := (0 : Int32)) dX7_feed_25 (by decide) ?_
    obtain rfl := Option.some.inj h
    exact hf _ _ dX7_feed_26 rfl
set_option maxRecDepth 20000 in
theorem gX7_feed {g : GX} {T : TT}  {m : St} {a1 : Int32} {a2 : Int32} {a3 : Int32} {a4 : Int32} {a5 : Int32} {res : St × Int32} (X : CX g RX7 cX7_feed 6 2 41)  (hf : FinI g cX7_feed .int (rs T 9 res.1) (res.2)) (h : sX7_feed m a1 a2 a3 a4 a5 = some res) : G g 0 0 (rs T 9 m) 0 [(0, .ref (xE (gκ g) 9 0 0)), (1, .int a1), (2, .int a2), (3, .int a3), (4, .int a4), (5, .int a5)] [] := by
  unfold sX7_feed at h
  refine G_aload_n X 0 dX7_feed_0 rfl rfl ?_
  refine G_aload_n X 0 dX7_feed_1 rfl rfl ?_
  refine f_X7_73 X rfl (rg_rs _ _ _) dX7_feed_2 ?_
  refine G_bipush X (v := (20 : Int32)) dX7_feed_5 (by decide) ?_
  refine G_iadd X dX7_feed_7 ?_
  refine G_sipush X (v := (700 : Int32)) dX7_feed_8 (by decide) ?_
  refine G_icmp_gt X (tgt := 18) dX7_feed_11 (by decide) (fun c1 => ?_) (fun c1 => ?_)
  · have h := it_t c1 h
    refine G_iconst X (v := (0 : Int32)) dX7_feed_18 (by decide) ?_
    exact gX7_feed_b19 X hf h
  · have h := it_f c1 h
    refine G_iconst X (v := (1 : Int32)) dX7_feed_14 (by decide) ?_
    refine G_goto X (tgt := 19) dX7_feed_15 (by decide) ?_
    exact gX7_feed_b19 X hf h
set_option maxRecDepth 20000 in
theorem ct_X7_feed {l : Launch} {κ : KX} {T : TT}  {m : St} {a1 : Int32} {a2 : Int32} {a3 : Int32} {a4 : Int32} {a5 : Int32} {res : St × Int32}  (h : sX7_feed m a1 a2 a3 a4 a5 = some res) : Ct l κ yX7_feed cX7_feed 6 (some .int) 2 41 [.ref (xE κ 9 0 0), .int a1, .int a2, .int a3, .int a4, .int a5] (rs T 9 m) (rs T 9 res.1) (some (.int (res.2))) := by
  refine Ct_i RX7 rfl (by decide +kernel) (Nat.le_of_ble_eq_true rfl) (fun g hl hκ X hf => ?_)
  subst hl; subst hκ
  exact gX7_feed X  hf h
set_option maxRecDepth 20000 in
theorem gX7_truncate {g : GX} {T : TT}  {m : St} {a1 : Int32} {res : St × Int32} (X : CX g RX7 cX7_truncate 2 2 41)  (hf : FinI g cX7_truncate .int (rs T 9 res.1) (res.2)) (h : sX7_truncate m a1 = some res) : G g 0 0 (rs T 9 m) 0 [(0, .ref (xE (gκ g) 9 0 0)), (1, .int a1)] [] := by
  unfold sX7_truncate at h
  refine G_aload_n X 0 dX7_truncate_0 rfl rfl ?_
  refine G_iload_n X 1 dX7_truncate_1 rfl rfl ?_
  refine G_i2l X dX7_truncate_2 ?_
  refine G_lconst X (v := (0 : Int64)) dX7_truncate_3 (by decide) ?_
  refine G_aload_n X 0 dX7_truncate_4 rfl rfl ?_
  refine f_X7_73 X rfl (rg_rs _ _ _) dX7_truncate_5 ?_
  refine G_i2l X dX7_truncate_8 ?_
  obtain ⟨q1, hq1, h⟩ := bd_some h
  refine G_callS X (As := [.long a1.toInt64, .long ((0 : Int64)), .long ((gI m 0 0 2).toInt64)]) (rest := [.ref (xE (gκ g) 9 0 0)]) (T' := rs T 9 m) (st2 := [.int q1, .ref (xE (gκ g) 9 0 0)]) (ct_X7_isIn (l := g.2.1) (κ := gκ g)   hq1) cal_X7_isIn wM_X7_84 wT_X7_isIn (by decide) rfl rfl (Nat.le_of_ble_eq_true rfl) ⟨Nat.zero_le _, Nat.zero_le _⟩ dX7_truncate_9 rfl ?_
  obtain ⟨q2, hq2, h⟩ := bd_some h
  refine G_callV X (As := [.int q1]) (rest := []) (T' := rs T 9 q2.1) (st2 := [.int q2.2]) (ct_X7_goes (l := g.2.1) (κ := gκ g)   hq2) cal_X7_goes wM_X7_76 wI_X7_goes wS_X7_goes rfl rfl (by decide) rfl rfl (Nat.le_of_ble_eq_true rfl) ⟨Nat.zero_le _, Nat.zero_le _⟩ dX7_truncate_12 rfl ?_
  refine G_if_ne X (tgt := 20) dX7_truncate_15 (by decide) (fun c3 => ?_) (fun c3 => ?_)
  · have h := it_t c3 h
    refine G_aload_n X 0 dX7_truncate_20 rfl rfl ?_
    refine G_iload_n X 1 dX7_truncate_21 rfl rfl ?_
    obtain ⟨x4, ex4, h⟩ := nm_some h
    refine p_X7_73 X (T' := rs T 9 x4) rfl (rg_rs _ _ _)  (by rw [rs_rs, ex4]) dX7_truncate_22 ?_
    refine G_iload_n X 1 dX7_truncate_25 rfl rfl ?_
    obtain rfl := Option.some.inj h
    exact hf _ _ dX7_truncate_26 rfl
  · have h := it_f (fun k => k c3) h
    refine G_iconst X (v := (0 : Int32)) dX7_truncate_18 (by decide) ?_
    obtain rfl := Option.some.inj h
    exact hf _ _ dX7_truncate_19 rfl
set_option maxRecDepth 20000 in
theorem ct_X7_truncate {l : Launch} {κ : KX} {T : TT}  {m : St} {a1 : Int32} {res : St × Int32}  (h : sX7_truncate m a1 = some res) : Ct l κ yX7_truncate cX7_truncate 2 (some .int) 2 41 [.ref (xE κ 9 0 0), .int a1] (rs T 9 m) (rs T 9 res.1) (some (.int (res.2))) := by
  refine Ct_i RX7 rfl (by decide +kernel) (Nat.le_of_ble_eq_true rfl) (fun g hl hκ X hf => ?_)
  subst hl; subst hκ
  exact gX7_truncate X  hf h
set_option maxRecDepth 20000 in
theorem gX7_here {g : GX} {T : TT}  {m : St} {a1 : Int32} {res : Int32} (X : CX g RX7 cX7_here 2 0 0)  (hf : FinI g cX7_here .int (rs T 9 m) (res)) (h : sX7_here m a1 = some res) : G g 0 0 (rs T 9 m) 0 [(0, .ref (xE (gκ g) 9 0 0)), (1, .int a1)] [] := by
  unfold sX7_here at h
  refine G_aload_n X 0 dX7_here_0 rfl rfl ?_
  refine f_X7_88 X rfl (rg_rs _ _ _) dX7_here_1 ?_
  refine G_iload_n X 1 dX7_here_4 rfl rfl ?_
  refine G_iadd X dX7_here_5 ?_
  refine G_aload_n X 0 dX7_here_6 rfl rfl ?_
  refine f_X7_91 X rfl (rg_rs _ _ _) dX7_here_7 ?_
  refine G_icmp_ge X (tgt := 27) dX7_here_10 (by decide) (fun c1 => ?_) (fun c1 => ?_)
  · have h := it_t c1 h
    refine G_iconst X (v := (-1 : Int32)) dX7_here_27 (by decide) ?_
    obtain rfl := Option.some.inj h
    exact hf _ _ dX7_here_28 rfl
  · have h := it_f c1 h
    refine G_aload_n X 0 dX7_here_13 rfl rfl ?_
    refine f_X7_7 X rfl rfl dX7_here_14 ?_
    refine G_aload_n X 0 dX7_here_17 rfl rfl ?_
    refine f_X7_88 X rfl (rg_rs _ _ _) dX7_here_18 ?_
    refine G_iload_n X 1 dX7_here_21 rfl rfl ?_
    refine G_iadd X dX7_here_22 ?_
    obtain ⟨g2, h⟩ := gd_some h
    refine G_iald X rfl (rg_rs _ _ _) g2 dX7_here_23 ?_
    refine G_goto X (tgt := 28) dX7_here_24 (by decide) ?_
    obtain rfl := Option.some.inj h
    exact hf _ _ dX7_here_28 rfl
set_option maxRecDepth 20000 in
theorem ct_X7_here {l : Launch} {κ : KX} {T : TT}  {m : St} {a1 : Int32} {res : Int32}  (h : sX7_here m a1 = some res) : Ct l κ yX7_here cX7_here 2 (some .int) 0 0 [.ref (xE κ 9 0 0), .int a1] (rs T 9 m) (rs T 9 m) (some (.int (res))) := by
  refine Ct_i RX7 rfl (by decide +kernel) (Nat.le_of_ble_eq_true rfl) (fun g hl hκ X hf => ?_)
  subst hl; subst hκ
  exact gX7_here X  hf h
set_option maxRecDepth 20000 in
theorem gX7_isLetter {g : GX} {T : TT}   {a0 : Int32} {res : Int32} (X : CX g RX7 cX7_isLetter 1 0 0)  (hf : FinI g cX7_isLetter .boolean (T) (res)) (h : sX7_isLetter a0 = some res) : G g 0 0 (T) 0 [(0, .int a0)] [] := by
  unfold sX7_isLetter at h
  refine G_iload_n X 0 dX7_isLetter_0 rfl rfl ?_
  refine G_bipush X (v := (97 : Int32)) dX7_isLetter_1 (by decide) ?_
  refine G_icmp_lt X (tgt := 16) dX7_isLetter_3 (by decide) (fun c1 => ?_) (fun c1 => ?_)
  · have h := it_t c1 h
    refine G_iconst X (v := (0 : Int32)) dX7_isLetter_16 (by decide) ?_
    obtain rfl := Option.some.inj h
    exact hf _ _ dX7_isLetter_17 (isb_n (v := (0 : Int32)) rfl)
  · have h := it_f c1 h
    refine G_iload_n X 0 dX7_isLetter_6 rfl rfl ?_
    refine G_bipush X (v := (122 : Int32)) dX7_isLetter_7 (by decide) ?_
    refine G_icmp_gt X (tgt := 16) dX7_isLetter_9 (by decide) (fun c2 => ?_) (fun c2 => ?_)
    · have h := it_t c2 h
      refine G_iconst X (v := (0 : Int32)) dX7_isLetter_16 (by decide) ?_
      obtain rfl := Option.some.inj h
      exact hf _ _ dX7_isLetter_17 (isb_n (v := (0 : Int32)) rfl)
    · have h := it_f c2 h
      refine G_iconst X (v := (1 : Int32)) dX7_isLetter_12 (by decide) ?_
      refine G_goto X (tgt := 17) dX7_isLetter_13 (by decide) ?_
      obtain rfl := Option.some.inj h
      exact hf _ _ dX7_isLetter_17 (isb_n (v := (1 : Int32)) rfl)
set_option maxRecDepth 20000 in
theorem ct_X7_isLetter {l : Launch} {κ : KX} {T : TT}   {a0 : Int32} {res : Int32}  (h : sX7_isLetter a0 = some res) : Ct l κ yX7_isLetter cX7_isLetter 1 (some .boolean) 0 0 [.int a0] (T) (T) (some (.int (res))) := by
  refine Ct_i RX7 rfl (by decide +kernel) (Nat.le_of_ble_eq_true rfl) (fun g hl hκ X hf => ?_)
  subst hl; subst hκ
  exact gX7_isLetter X  hf h
set_option maxRecDepth 20000 in
theorem gX7_isDigit {g : GX} {T : TT}   {a0 : Int32} {res : Int32} (X : CX g RX7 cX7_isDigit 1 0 0)  (hf : FinI g cX7_isDigit .boolean (T) (res)) (h : sX7_isDigit a0 = some res) : G g 0 0 (T) 0 [(0, .int a0)] [] := by
  unfold sX7_isDigit at h
  refine G_iload_n X 0 dX7_isDigit_0 rfl rfl ?_
  refine G_bipush X (v := (48 : Int32)) dX7_isDigit_1 (by decide) ?_
  refine G_icmp_lt X (tgt := 16) dX7_isDigit_3 (by decide) (fun c1 => ?_) (fun c1 => ?_)
  · have h := it_t c1 h
    refine G_iconst X (v := (0 : Int32)) dX7_isDigit_16 (by decide) ?_
    obtain rfl := Option.some.inj h
    exact hf _ _ dX7_isDigit_17 (isb_n (v := (0 : Int32)) rfl)
  · have h := it_f c1 h
    refine G_iload_n X 0 dX7_isDigit_6 rfl rfl ?_
    refine G_bipush X (v := (57 : Int32)) dX7_isDigit_7 (by decide) ?_
    refine G_icmp_gt X (tgt := 16) dX7_isDigit_9 (by decide) (fun c2 => ?_) (fun c2 => ?_)
    · have h := it_t c2 h
      refine G_iconst X (v := (0 : Int32)) dX7_isDigit_16 (by decide) ?_
      obtain rfl := Option.some.inj h
      exact hf _ _ dX7_isDigit_17 (isb_n (v := (0 : Int32)) rfl)
    · have h := it_f c2 h
      refine G_iconst X (v := (1 : Int32)) dX7_isDigit_12 (by decide) ?_
      refine G_goto X (tgt := 17) dX7_isDigit_13 (by decide) ?_
      obtain rfl := Option.some.inj h
      exact hf _ _ dX7_isDigit_17 (isb_n (v := (1 : Int32)) rfl)
set_option maxRecDepth 20000 in
theorem ct_X7_isDigit {l : Launch} {κ : KX} {T : TT}   {a0 : Int32} {res : Int32}  (h : sX7_isDigit a0 = some res) : Ct l κ yX7_isDigit cX7_isDigit 1 (some .boolean) 0 0 [.int a0] (T) (T) (some (.int (res))) := by
  refine Ct_i RX7 rfl (by decide +kernel) (Nat.le_of_ble_eq_true rfl) (fun g hl hκ X hf => ?_)
  subst hl; subst hκ
  exact gX7_isDigit X  hf h
set_option maxRecDepth 20000 in
theorem gX7_goOn_b229 {g : GX} {T : TT}  {m : St} {a1 : Int32} {s0 : Int32} {res : St}  (X : CX g RX7 cX7_goOn 3 1 21)  (hf : FinV g cX7_goOn (rs T 9 res))   (h : sX7_goOn_b229  m a1 s0 = some res) : G g 0 0 (rs T 9 m) 229 [(0, .ref (xE (gκ g) 9 0 0)), (1, .int a1)] [.int s0, .ref (xE (gκ g) 9 0 0)] := by
  unfold sX7_goOn_b229 at h
  obtain ⟨x20, ex20, h⟩ := nm_some h
  refine p_X7_108 X (T' := rs T 9 x20) rfl (rg_rs _ _ _)  (by rw [rs_rs, ex20]) dX7_goOn_229 ?_
  refine G_aload_n X 0 dX7_goOn_232 rfl rfl ?_
  refine G_iload_n X 1 dX7_goOn_233 rfl rfl ?_
  obtain ⟨x21, ex21, h⟩ := nm_some h
  refine p_X7_105 X (T' := rs T 9 x21) rfl (rg_rs _ _ _)  (by rw [rs_rs, ex21]) dX7_goOn_234 ?_
  refine G_iconst X (v := (1 : Int32)) dX7_goOn_237 (by decide) ?_
  refine G_istore_n X (lv' := [(2, .int ((1 : Int32))), (0, .ref (xE (gκ g) 9 0 0)), (1, .int a1)]) dX7_goOn_238 rfl (by decide) rfl ?_
  refine G_aload_n X 1 dX7_goOn_239 rfl rfl ?_
  refine G_dup X dX7_goOn_240 rfl ?_
  refine f_X7_88 X rfl (rg_rs _ _ _) dX7_goOn_241 ?_
  refine G_iload_n X 0 dX7_goOn_244 rfl rfl ?_
  refine G_iadd X dX7_goOn_245 ?_
  obtain ⟨x22, ex22, h⟩ := nm_some h
  refine p_X7_88 X (T' := rs T 9 x22) rfl (rg_rs _ _ _)  (by rw [rs_rs, ex22]) dX7_goOn_246 ?_
  obtain rfl := Option.some.inj h
  exact hf _ _ dX7_goOn_249
set_option maxRecDepth 20000 in
theorem gX7_goOn_b199 {g : GX} {T : TT}  {m : St} {a2 : Int32} {s0 : Int32} {res : St}  (X : CX g RX7 cX7_goOn 3 1 21)  (hf : FinV g cX7_goOn (rs T 9 res))   (h : sX7_goOn_b199  m a2 s0 = some res) : G g 0 0 (rs T 9 m) 199 [(0, .ref (xE (gκ g) 9 0 0)), (2, .int a2)] [.int s0, .ref (xE (gκ g) 9 0 0)] := by
  unfold sX7_goOn_b199 at h
  obtain ⟨x43, ex43, h⟩ := nm_some h
  refine p_X7_108 X (T' := rs T 9 x43) rfl (rg_rs _ _ _)  (by rw [rs_rs, ex43]) dX7_goOn_199 ?_
  refine G_goto X (tgt := 239) dX7_goOn_202 (by decide) ?_
  refine G_aload_n X 0 dX7_goOn_239 rfl rfl ?_
  refine G_dup X dX7_goOn_240 rfl ?_
  refine f_X7_88 X rfl (rg_rs _ _ _) dX7_goOn_241 ?_
  refine G_iload_n X 1 dX7_goOn_244 rfl rfl ?_
  refine G_iadd X dX7_goOn_245 ?_
  obtain ⟨x44, ex44, h⟩ := nm_some h
  refine p_X7_88 X (T' := rs T 9 x44) rfl (rg_rs _ _ _)  (by rw [rs_rs, ex44]) dX7_goOn_246 ?_
  obtain rfl := Option.some.inj h
  exact hf _ _ dX7_goOn_249
set_option maxRecDepth 20000 in
theorem gX7_goOn_b146 {g : GX} {T : TT}   {res : St}  (X : CX g RX7 cX7_goOn 3 1 21)  (hf : FinV g cX7_goOn (rs T 9 res))  : ∀ (n : Nat) (m : St) (a2 : Int32) (h : sX7_goOn_b146 n  m a2 = some res), G g 0 0 (rs T 9 m) 146 [(0, .ref (xE (gκ g) 9 0 0)), (2, .int a2)] [] := by
  intro n
  induction n with
  | zero => intro m a2 h; unfold sX7_goOn_b146 at h; cases h
  | succ n ih =>
    intro m a2 h
    unfold sX7_goOn_b146 at h
    refine G_aload_n X 0 dX7_goOn_146 rfl rfl ?_
    refine G_iload_n X 1 dX7_goOn_147 rfl rfl ?_
    obtain ⟨q23, hq23, h⟩ := bd_some h
    refine G_callV X (As := [.int a2]) (rest := []) (T' := rs T 9 m) (st2 := [.int q23]) (ct_X7_here (l := g.2.1) (κ := gκ g)   hq23) cal_X7_here wM_X7_94 wI_X7_here wS_X7_here rfl rfl (by decide) rfl rfl (Nat.le_of_ble_eq_true rfl) ⟨Nat.zero_le _, Nat.zero_le _⟩ dX7_goOn_148 rfl ?_
    obtain ⟨q24, hq24, h⟩ := bd_some h
    refine G_callS X (As := [.int q23]) (rest := []) (T' := rs T 9 m) (st2 := [.int q24]) (ct_X7_isDigit (l := g.2.1) (κ := gκ g)   hq24) cal_X7_isDigit wM_X7_115 wT_X7_isDigit (by decide) rfl rfl (Nat.le_of_ble_eq_true rfl) ⟨Nat.zero_le _, Nat.zero_le _⟩ dX7_goOn_151 rfl ?_
    refine G_if_eq X (tgt := 188) dX7_goOn_154 (by decide) (fun c25 => ?_) (fun c25 => ?_)
    · have h := it_t c25 h
      refine G_aload_n X 0 dX7_goOn_188 rfl rfl ?_
      refine G_iload_n X 1 dX7_goOn_189 rfl rfl ?_
      refine G_iconst X (v := (3 : Int32)) dX7_goOn_190 (by decide) ?_
      refine G_icmp_le X (tgt := 198) dX7_goOn_191 (by decide) (fun c26 => ?_) (fun c26 => ?_)
      · have h := it_t c26 h
        refine G_iconst X (v := (2 : Int32)) dX7_goOn_198 (by decide) ?_
        exact gX7_goOn_b199 X hf h
      · have h := it_f c26 h
        refine G_iconst X (v := (4 : Int32)) dX7_goOn_194 (by decide) ?_
        refine G_goto X (tgt := 199) dX7_goOn_195 (by decide) ?_
        exact gX7_goOn_b199 X hf h
    · have h := it_f c25 h
      refine G_iload_n X 1 dX7_goOn_157 rfl rfl ?_
      refine G_iconst X (v := (3 : Int32)) dX7_goOn_158 (by decide) ?_
      refine G_icmp_ge X (tgt := 182) dX7_goOn_159 (by decide) (fun c27 => ?_) (fun c27 => ?_)
      · have h := it_t c27 h
        obtain ⟨v28, ev28, h⟩ := nm_some h
        refine G_iinc X (v := v28) (lv' := [(2, .int v28), (0, .ref (xE (gκ g) 9 0 0))]) 1 dX7_goOn_182 rfl (by rw [ev28]; rfl) (by decide) rfl ?_
        refine G_goto X (tgt := 146) dX7_goOn_185 (by decide) ?_
        refine G_sub [1, 0] rfl ?_
        exact ih _ _ h
      · have h := it_f c27 h
        refine G_aload_n X 0 dX7_goOn_162 rfl rfl ?_
        refine G_bipush X (v := (10 : Int32)) dX7_goOn_163 (by decide) ?_
        refine G_aload_n X 0 dX7_goOn_165 rfl rfl ?_
        refine f_X7_105 X rfl (rg_rs _ _ _) dX7_goOn_166 ?_
        refine G_imul X dX7_goOn_169 ?_
        refine G_aload_n X 0 dX7_goOn_170 rfl rfl ?_
        refine G_iload_n X 1 dX7_goOn_171 rfl rfl ?_
        obtain ⟨q29, hq29, h⟩ := bd_some h
        refine G_callV X (As := [.int a2]) (rest := [.int (((10 : Int32)) * (gI m 0 0 7)), .ref (xE (gκ g) 9 0 0)]) (T' := rs T 9 m) (st2 := [.int q29, .int (((10 : Int32)) * (gI m 0 0 7)), .ref (xE (gκ g) 9 0 0)]) (ct_X7_here (l := g.2.1) (κ := gκ g)   hq29) cal_X7_here wM_X7_94 wI_X7_here wS_X7_here rfl rfl (by decide) rfl rfl (Nat.le_of_ble_eq_true rfl) ⟨Nat.zero_le _, Nat.zero_le _⟩ dX7_goOn_172 rfl ?_
        refine G_iadd X dX7_goOn_175 ?_
        refine G_bipush X (v := (48 : Int32)) dX7_goOn_176 (by decide) ?_
        refine G_isub X dX7_goOn_178 ?_
        obtain ⟨v30, ev30, h⟩ := nm_some h
        refine G_nmi ev30 ?_
        obtain ⟨x31, ex31, h⟩ := nm_some h
        refine p_X7_105 X (T' := rs T 9 x31) rfl (rg_rs _ _ _)  (by rw [rs_rs, ex31]) dX7_goOn_179 ?_
        obtain ⟨v32, ev32, h⟩ := nm_some h
        refine G_iinc X (v := v32) (lv' := [(2, .int v32), (0, .ref (xE (gκ g) 9 0 0))]) 1 dX7_goOn_182 rfl (by rw [ev32]; rfl) (by decide) rfl ?_
        refine G_goto X (tgt := 146) dX7_goOn_185 (by decide) ?_
        refine G_sub [1, 0] rfl ?_
        exact ih _ _ h
set_option maxRecDepth 20000 in
theorem gX7_goOn_b133 {g : GX} {T : TT}  {m : St} {a2 : Int32} {s0 : Int32} {res : St}  (X : CX g RX7 cX7_goOn 3 1 21)  (hf : FinV g cX7_goOn (rs T 9 res))   (h : sX7_goOn_b133  m a2 s0 = some res) : G g 0 0 (rs T 9 m) 133 [(0, .ref (xE (gκ g) 9 0 0)), (2, .int a2)] [.int s0, .ref (xE (gκ g) 9 0 0)] := by
  unfold sX7_goOn_b133 at h
  obtain ⟨x45, ex45, h⟩ := nm_some h
  refine p_X7_108 X (T' := rs T 9 x45) rfl (rg_rs _ _ _)  (by rw [rs_rs, ex45]) dX7_goOn_133 ?_
  refine G_goto X (tgt := 239) dX7_goOn_136 (by decide) ?_
  refine G_aload_n X 0 dX7_goOn_239 rfl rfl ?_
  refine G_dup X dX7_goOn_240 rfl ?_
  refine f_X7_88 X rfl (rg_rs _ _ _) dX7_goOn_241 ?_
  refine G_iload_n X 1 dX7_goOn_244 rfl rfl ?_
  refine G_iadd X dX7_goOn_245 ?_
  obtain ⟨x46, ex46, h⟩ := nm_some h
  refine p_X7_88 X (T' := rs T 9 x46) rfl (rg_rs _ _ _)  (by rw [rs_rs, ex46]) dX7_goOn_246 ?_
  obtain rfl := Option.some.inj h
  exact hf _ _ dX7_goOn_249
set_option maxRecDepth 20000 in
theorem gX7_goOn_b76 {g : GX} {T : TT}   {res : St}  (X : CX g RX7 cX7_goOn 3 1 21)  (hf : FinV g cX7_goOn (rs T 9 res))  : ∀ (n : Nat) (m : St) (a2 : Int32) (h : sX7_goOn_b76 n  m a2 = some res), G g 0 0 (rs T 9 m) 76 [(0, .ref (xE (gκ g) 9 0 0)), (2, .int a2)] [] := by
  intro n
  induction n with
  | zero => intro m a2 h; unfold sX7_goOn_b76 at h; cases h
  | succ n ih =>
    intro m a2 h
    unfold sX7_goOn_b76 at h
    refine G_aload_n X 0 dX7_goOn_76 rfl rfl ?_
    refine G_iload_n X 1 dX7_goOn_77 rfl rfl ?_
    obtain ⟨q33, hq33, h⟩ := bd_some h
    refine G_callV X (As := [.int a2]) (rest := []) (T' := rs T 9 m) (st2 := [.int q33]) (ct_X7_here (l := g.2.1) (κ := gκ g)   hq33) cal_X7_here wM_X7_94 wI_X7_here wS_X7_here rfl rfl (by decide) rfl rfl (Nat.le_of_ble_eq_true rfl) ⟨Nat.zero_le _, Nat.zero_le _⟩ dX7_goOn_78 rfl ?_
    obtain ⟨q34, hq34, h⟩ := bd_some h
    refine G_callS X (As := [.int q33]) (rest := []) (T' := rs T 9 m) (st2 := [.int q34]) (ct_X7_isLetter (l := g.2.1) (κ := gκ g)   hq34) cal_X7_isLetter wM_X7_111 wT_X7_isLetter (by decide) rfl rfl (Nat.le_of_ble_eq_true rfl) ⟨Nat.zero_le _, Nat.zero_le _⟩ dX7_goOn_81 rfl ?_
    refine G_if_eq X (tgt := 121) dX7_goOn_84 (by decide) (fun c35 => ?_) (fun c35 => ?_)
    · have h := it_t c35 h
      refine G_aload_n X 0 dX7_goOn_121 rfl rfl ?_
      refine G_iload_n X 1 dX7_goOn_122 rfl rfl ?_
      refine G_bipush X (v := (8 : Int32)) dX7_goOn_123 (by decide) ?_
      refine G_icmp_le X (tgt := 132) dX7_goOn_125 (by decide) (fun c36 => ?_) (fun c36 => ?_)
      · have h := it_t c36 h
        refine G_iconst X (v := (1 : Int32)) dX7_goOn_132 (by decide) ?_
        exact gX7_goOn_b133 X hf h
      · have h := it_f c36 h
        refine G_iconst X (v := (4 : Int32)) dX7_goOn_128 (by decide) ?_
        refine G_goto X (tgt := 133) dX7_goOn_129 (by decide) ?_
        exact gX7_goOn_b133 X hf h
    · have h := it_f c35 h
      refine G_iload_n X 1 dX7_goOn_87 rfl rfl ?_
      refine G_bipush X (v := (8 : Int32)) dX7_goOn_88 (by decide) ?_
      refine G_icmp_ge X (tgt := 115) dX7_goOn_90 (by decide) (fun c37 => ?_) (fun c37 => ?_)
      · have h := it_t c37 h
        obtain ⟨v38, ev38, h⟩ := nm_some h
        refine G_iinc X (v := v38) (lv' := [(2, .int v38), (0, .ref (xE (gκ g) 9 0 0))]) 1 dX7_goOn_115 rfl (by rw [ev38]; rfl) (by decide) rfl ?_
        refine G_goto X (tgt := 76) dX7_goOn_118 (by decide) ?_
        refine G_sub [1, 0] rfl ?_
        exact ih _ _ h
      · have h := it_f c37 h
        refine G_aload_n X 0 dX7_goOn_93 rfl rfl ?_
        refine G_aload_n X 0 dX7_goOn_94 rfl rfl ?_
        refine f_X7_101 X rfl (rg_rs _ _ _) dX7_goOn_95 ?_
        refine G_iconst X (v := (5 : Int32)) dX7_goOn_98 (by decide) ?_
        refine G_lshl X dX7_goOn_99 ?_
        refine G_aload_n X 0 dX7_goOn_100 rfl rfl ?_
        refine G_iload_n X 1 dX7_goOn_101 rfl rfl ?_
        obtain ⟨q39, hq39, h⟩ := bd_some h
        refine G_callV X (As := [.int a2]) (rest := [.long ((gL m 0 0 12) <<< (((5 : Int32)).toInt64 &&& (63 : Int64))), .ref (xE (gκ g) 9 0 0)]) (T' := rs T 9 m) (st2 := [.int q39, .long ((gL m 0 0 12) <<< (((5 : Int32)).toInt64 &&& (63 : Int64))), .ref (xE (gκ g) 9 0 0)]) (ct_X7_here (l := g.2.1) (κ := gκ g)   hq39) cal_X7_here wM_X7_94 wI_X7_here wS_X7_here rfl rfl (by decide) rfl rfl (Nat.le_of_ble_eq_true rfl) ⟨Nat.zero_le _, Nat.zero_le _⟩ dX7_goOn_102 rfl ?_
        refine G_bipush X (v := (97 : Int32)) dX7_goOn_105 (by decide) ?_
        refine G_isub X dX7_goOn_107 ?_
        refine G_iconst X (v := (1 : Int32)) dX7_goOn_108 (by decide) ?_
        refine G_iadd X dX7_goOn_109 ?_
        refine G_i2l X dX7_goOn_110 ?_
        refine G_lor X dX7_goOn_111 ?_
        obtain ⟨v40, ev40, h⟩ := nm_some h
        refine G_nml ev40 ?_
        obtain ⟨x41, ex41, h⟩ := nm_some h
        refine p_X7_101 X (T' := rs T 9 x41) rfl (rg_rs _ _ _)  (by rw [rs_rs, ex41]) dX7_goOn_112 ?_
        obtain ⟨v42, ev42, h⟩ := nm_some h
        refine G_iinc X (v := v42) (lv' := [(2, .int v42), (0, .ref (xE (gκ g) 9 0 0))]) 1 dX7_goOn_115 rfl (by rw [ev42]; rfl) (by decide) rfl ?_
        refine G_goto X (tgt := 76) dX7_goOn_118 (by decide) ?_
        refine G_sub [1, 0] rfl ?_
        exact ih _ _ h
set_option maxRecDepth 20000 in
theorem gX7_goOn_b0 {g : GX} {T : TT}   {res : St}  (X : CX g RX7 cX7_goOn 3 1 21)  (hf : FinV g cX7_goOn (rs T 9 res))  : ∀ (n : Nat) (m : St) (h : sX7_goOn_b0 n  m = some res), G g 0 0 (rs T 9 m) 0 [(0, .ref (xE (gκ g) 9 0 0))] [] := by
  intro n
  induction n with
  | zero => intro m h; unfold sX7_goOn_b0 at h; cases h
  | succ n ih =>
    intro m h
    unfold sX7_goOn_b0 at h
    refine G_aload_n X 0 dX7_goOn_0 rfl rfl ?_
    refine G_iconst X (v := (0 : Int32)) dX7_goOn_1 (by decide) ?_
    obtain ⟨q1, hq1, h⟩ := bd_some h
    refine G_callV X (As := [.int ((0 : Int32))]) (rest := []) (T' := rs T 9 m) (st2 := [.int q1]) (ct_X7_here (l := g.2.1) (κ := gκ g)   hq1) cal_X7_here wM_X7_94 wI_X7_here wS_X7_here rfl rfl (by decide) rfl rfl (Nat.le_of_ble_eq_true rfl) ⟨Nat.zero_le _, Nat.zero_le _⟩ dX7_goOn_2 rfl ?_
    refine G_bipush X (v := (32 : Int32)) dX7_goOn_5 (by decide) ?_
    refine G_icmp_eq X (tgt := 20) dX7_goOn_7 (by decide) (fun c2 => ?_) (fun c2 => ?_)
    · have h := it_t c2 h
      refine G_aload_n X 0 dX7_goOn_20 rfl rfl ?_
      refine G_dup X dX7_goOn_21 rfl ?_
      refine f_X7_88 X rfl (rg_rs _ _ _) dX7_goOn_22 ?_
      refine G_iconst X (v := (1 : Int32)) dX7_goOn_25 (by decide) ?_
      refine G_iadd X dX7_goOn_26 ?_
      obtain ⟨x3, ex3, h⟩ := nm_some h
      refine p_X7_88 X (T' := rs T 9 x3) rfl (rg_rs _ _ _)  (by rw [rs_rs, ex3]) dX7_goOn_27 ?_
      refine G_goto X (tgt := 0) dX7_goOn_30 (by decide) ?_
      exact ih _ h
    · have h := it_f c2 h
      refine G_aload_n X 0 dX7_goOn_10 rfl rfl ?_
      refine G_iconst X (v := (0 : Int32)) dX7_goOn_11 (by decide) ?_
      obtain ⟨q4, hq4, h⟩ := bd_some h
      refine G_callV X (As := [.int ((0 : Int32))]) (rest := []) (T' := rs T 9 m) (st2 := [.int q4]) (ct_X7_here (l := g.2.1) (κ := gκ g)   hq4) cal_X7_here wM_X7_94 wI_X7_here wS_X7_here rfl rfl (by decide) rfl rfl (Nat.le_of_ble_eq_true rfl) ⟨Nat.zero_le _, Nat.zero_le _⟩ dX7_goOn_12 rfl ?_
      refine G_bipush X (v := (10 : Int32)) dX7_goOn_15 (by decide) ?_
      refine G_icmp_ne X (tgt := 33) dX7_goOn_17 (by decide) (fun c5 => ?_) (fun c5 => ?_)
      · have h := it_t c5 h
        refine G_aload_n X 0 dX7_goOn_33 rfl rfl ?_
        refine G_aload_n X 0 dX7_goOn_34 rfl rfl ?_
        refine f_X7_88 X rfl (rg_rs _ _ _) dX7_goOn_35 ?_
        obtain ⟨x6, ex6, h⟩ := nm_some h
        refine p_X7_98 X (T' := rs T 9 x6) rfl (rg_rs _ _ _)  (by rw [rs_rs, ex6]) dX7_goOn_38 ?_
        refine G_aload_n X 0 dX7_goOn_41 rfl rfl ?_
        refine G_lconst X (v := (0 : Int64)) dX7_goOn_42 (by decide) ?_
        obtain ⟨x7, ex7, h⟩ := nm_some h
        refine p_X7_101 X (T' := rs T 9 x7) rfl (rg_rs _ _ _)  (by rw [rs_rs, ex7]) dX7_goOn_43 ?_
        refine G_aload_n X 0 dX7_goOn_46 rfl rfl ?_
        refine G_iconst X (v := (0 : Int32)) dX7_goOn_47 (by decide) ?_
        obtain ⟨x8, ex8, h⟩ := nm_some h
        refine p_X7_105 X (T' := rs T 9 x8) rfl (rg_rs _ _ _)  (by rw [rs_rs, ex8]) dX7_goOn_48 ?_
        refine G_aload_n X 0 dX7_goOn_51 rfl rfl ?_
        refine G_iconst X (v := (0 : Int32)) dX7_goOn_52 (by decide) ?_
        obtain ⟨q9, hq9, h⟩ := bd_some h
        refine G_callV X (As := [.int ((0 : Int32))]) (rest := []) (T' := rs T 9 x8) (st2 := [.int q9]) (ct_X7_here (l := g.2.1) (κ := gκ g)   hq9) cal_X7_here wM_X7_94 wI_X7_here wS_X7_here rfl rfl (by decide) rfl rfl (Nat.le_of_ble_eq_true rfl) ⟨Nat.zero_le _, Nat.zero_le _⟩ dX7_goOn_53 rfl ?_
        refine G_istore_n X (lv' := [(1, .int q9), (0, .ref (xE (gκ g) 9 0 0))]) dX7_goOn_56 rfl (by decide) rfl ?_
        refine G_iconst X (v := (0 : Int32)) dX7_goOn_57 (by decide) ?_
        refine G_istore_n X (lv' := [(2, .int ((0 : Int32))), (1, .int q9), (0, .ref (xE (gκ g) 9 0 0))]) dX7_goOn_58 rfl (by decide) rfl ?_
        refine G_iload_n X 1 dX7_goOn_59 rfl rfl ?_
        refine G_if_ge X (tgt := 69) dX7_goOn_60 (by decide) (fun c10 => ?_) (fun c10 => ?_)
        · have h := it_t c10 h
          refine G_iload_n X 1 dX7_goOn_69 rfl rfl ?_
          obtain ⟨q11, hq11, h⟩ := bd_some h
          refine G_callS X (As := [.int q9]) (rest := []) (T' := rs T 9 x8) (st2 := [.int q11]) (ct_X7_isLetter (l := g.2.1) (κ := gκ g)   hq11) cal_X7_isLetter wM_X7_111 wT_X7_isLetter (by decide) rfl rfl (Nat.le_of_ble_eq_true rfl) ⟨Nat.zero_le _, Nat.zero_le _⟩ dX7_goOn_70 rfl ?_
          refine G_if_eq X (tgt := 139) dX7_goOn_73 (by decide) (fun c12 => ?_) (fun c12 => ?_)
          · have h := it_t c12 h
            refine G_iload_n X 1 dX7_goOn_139 rfl rfl ?_
            obtain ⟨q13, hq13, h⟩ := bd_some h
            refine G_callS X (As := [.int q9]) (rest := []) (T' := rs T 9 x8) (st2 := [.int q13]) (ct_X7_isDigit (l := g.2.1) (κ := gκ g)   hq13) cal_X7_isDigit wM_X7_115 wT_X7_isDigit (by decide) rfl rfl (Nat.le_of_ble_eq_true rfl) ⟨Nat.zero_le _, Nat.zero_le _⟩ dX7_goOn_140 rfl ?_
            refine G_if_eq X (tgt := 205) dX7_goOn_143 (by decide) (fun c14 => ?_) (fun c14 => ?_)
            · have h := it_t c14 h
              refine G_aload_n X 2 dX7_goOn_205 rfl rfl ?_
              refine G_iload_n X 1 dX7_goOn_206 rfl rfl ?_
              refine G_bipush X (v := (59 : Int32)) dX7_goOn_207 (by decide) ?_
              refine G_icmp_eq X (tgt := 224) dX7_goOn_209 (by decide) (fun c15 => ?_) (fun c15 => ?_)
              · have h := it_t c15 h
                refine G_iconst X (v := (3 : Int32)) dX7_goOn_224 (by decide) ?_
                refine G_goto X (tgt := 229) dX7_goOn_225 (by decide) ?_
                refine G_sub [2, 1] rfl ?_
                exact gX7_goOn_b229 X hf h
              · have h := it_f c15 h
                refine G_iload_n X 1 dX7_goOn_212 rfl rfl ?_
                refine G_bipush X (v := (40 : Int32)) dX7_goOn_213 (by decide) ?_
                refine G_icmp_eq X (tgt := 224) dX7_goOn_215 (by decide) (fun c16 => ?_) (fun c16 => ?_)
                · have h := it_t c16 h
                  refine G_iconst X (v := (3 : Int32)) dX7_goOn_224 (by decide) ?_
                  refine G_goto X (tgt := 229) dX7_goOn_225 (by decide) ?_
                  refine G_sub [2, 1] rfl ?_
                  exact gX7_goOn_b229 X hf h
                · have h := it_f c16 h
                  refine G_iload_n X 1 dX7_goOn_218 rfl rfl ?_
                  refine G_bipush X (v := (41 : Int32)) dX7_goOn_219 (by decide) ?_
                  refine G_icmp_ne X (tgt := 228) dX7_goOn_221 (by decide) (fun c17 => ?_) (fun c17 => ?_)
                  · have h := it_t c17 h
                    refine G_iconst X (v := (4 : Int32)) dX7_goOn_228 (by decide) ?_
                    refine G_sub [2, 1] rfl ?_
                    exact gX7_goOn_b229 X hf h
                  · have h := it_f (fun k => k c17) h
                    refine G_iconst X (v := (3 : Int32)) dX7_goOn_224 (by decide) ?_
                    refine G_goto X (tgt := 229) dX7_goOn_225 (by decide) ?_
                    refine G_sub [2, 1] rfl ?_
                    exact gX7_goOn_b229 X hf h
            · have h := it_f c14 h
              refine G_sub [2, 0] rfl ?_
              exact gX7_goOn_b146 X hf FU _ _ h
          · have h := it_f c12 h
            refine G_sub [2, 0] rfl ?_
            exact gX7_goOn_b76 X hf FU _ _ h
        · have h := it_f c10 h
          refine G_aload_n X 2 dX7_goOn_63 rfl rfl ?_
          refine G_iconst X (v := (0 : Int32)) dX7_goOn_64 (by decide) ?_
          obtain ⟨x18, ex18, h⟩ := nm_some h
          refine p_X7_108 X (T' := rs T 9 x18) rfl (rg_rs _ _ _)  (by rw [rs_rs, ex18]) dX7_goOn_65 ?_
          obtain rfl := Option.some.inj h
          exact hf _ _ dX7_goOn_68
      · have h := it_f (fun k => k c5) h
        refine G_aload_n X 0 dX7_goOn_20 rfl rfl ?_
        refine G_dup X dX7_goOn_21 rfl ?_
        refine f_X7_88 X rfl (rg_rs _ _ _) dX7_goOn_22 ?_
        refine G_iconst X (v := (1 : Int32)) dX7_goOn_25 (by decide) ?_
        refine G_iadd X dX7_goOn_26 ?_
        obtain ⟨x19, ex19, h⟩ := nm_some h
        refine p_X7_88 X (T' := rs T 9 x19) rfl (rg_rs _ _ _)  (by rw [rs_rs, ex19]) dX7_goOn_27 ?_
        refine G_goto X (tgt := 0) dX7_goOn_30 (by decide) ?_
        exact ih _ h
set_option maxRecDepth 20000 in
theorem gX7_goOn {g : GX} {T : TT}  {m : St}  {res : St} (X : CX g RX7 cX7_goOn 3 1 21)  (hf : FinV g cX7_goOn (rs T 9 res)) (h : sX7_goOn m = some res) : G g 0 0 (rs T 9 m) 0 [(0, .ref (xE (gκ g) 9 0 0))] [] := by
  unfold sX7_goOn at h
  exact gX7_goOn_b0 X hf FU _ h
set_option maxRecDepth 20000 in
theorem ct_X7_goOn {l : Launch} {κ : KX} {T : TT}  {m : St}  {res : St}  (h : sX7_goOn m = some res) : Ct l κ yX7_goOn cX7_goOn 3 none 1 21 [.ref (xE κ 9 0 0)] (rs T 9 m) (rs T 9 res) none := by
  refine Ct_v RX7 rfl (by decide +kernel) (Nat.le_of_ble_eq_true rfl) (fun g hl hκ X hf => ?_)
  subst hl; subst hκ
  exact gX7_goOn X  hf h
set_option maxRecDepth 20000 in
theorem gX7_wrong {g : GX} {T : TT}  {m : St} {a1 : Int32} {res : St} (X : CX g RX7 cX7_wrong 2 0 0)  (hf : FinV g cX7_wrong (rs T 9 res)) (h : sX7_wrong m a1 = some res) : G g 0 0 (rs T 9 m) 0 [(0, .ref (xE (gκ g) 9 0 0)), (1, .int a1)] [] := by
  unfold sX7_wrong at h
  refine G_aload_n X 0 dX7_wrong_0 rfl rfl ?_
  refine f_X7_118 X rfl (rg_rs _ _ _) dX7_wrong_1 ?_
  refine G_if_le X (tgt := 8) dX7_wrong_4 (by decide) (fun c1 => ?_) (fun c1 => ?_)
  · have h := it_t c1 h
    refine G_aload_n X 0 dX7_wrong_8 rfl rfl ?_
    refine G_aload_n X 0 dX7_wrong_9 rfl rfl ?_
    refine f_X7_108 X rfl (rg_rs _ _ _) dX7_wrong_10 ?_
    refine G_iconst X (v := (4 : Int32)) dX7_wrong_13 (by decide) ?_
    refine G_icmp_ne X (tgt := 21) dX7_wrong_14 (by decide) (fun c2 => ?_) (fun c2 => ?_)
    · have h := it_t c2 h
      refine G_iload_n X 1 dX7_wrong_21 rfl rfl ?_
      obtain ⟨x3, ex3, h⟩ := nm_some h
      refine p_X7_118 X (T' := rs T 9 x3) rfl (rg_rs _ _ _)  (by rw [rs_rs, ex3]) dX7_wrong_22 ?_
      refine G_aload_n X 0 dX7_wrong_25 rfl rfl ?_
      refine G_aload_n X 0 dX7_wrong_26 rfl rfl ?_
      refine f_X7_98 X rfl (rg_rs _ _ _) dX7_wrong_27 ?_
      obtain ⟨x4, ex4, h⟩ := nm_some h
      refine p_X7_13 X (T' := rs T 9 x4) rfl (rg_rs _ _ _)  (by rw [rs_rs, ex4]) dX7_wrong_30 ?_
      obtain rfl := Option.some.inj h
      exact hf _ _ dX7_wrong_33
    · have h := it_f (fun k => k c2) h
      refine G_iconst X (v := (1 : Int32)) dX7_wrong_17 (by decide) ?_
      refine G_goto X (tgt := 22) dX7_wrong_18 (by decide) ?_
      obtain ⟨x5, ex5, h⟩ := nm_some h
      refine p_X7_118 X (T' := rs T 9 x5) rfl (rg_rs _ _ _)  (by rw [rs_rs, ex5]) dX7_wrong_22 ?_
      refine G_aload_n X 0 dX7_wrong_25 rfl rfl ?_
      refine G_aload_n X 0 dX7_wrong_26 rfl rfl ?_
      refine f_X7_98 X rfl (rg_rs _ _ _) dX7_wrong_27 ?_
      obtain ⟨x6, ex6, h⟩ := nm_some h
      refine p_X7_13 X (T' := rs T 9 x6) rfl (rg_rs _ _ _)  (by rw [rs_rs, ex6]) dX7_wrong_30 ?_
      obtain rfl := Option.some.inj h
      exact hf _ _ dX7_wrong_33
  · have h := it_f c1 h
    obtain rfl := Option.some.inj h
    exact hf _ _ dX7_wrong_7
set_option maxRecDepth 20000 in
theorem ct_X7_wrong {l : Launch} {κ : KX} {T : TT}  {m : St} {a1 : Int32} {res : St}  (h : sX7_wrong m a1 = some res) : Ct l κ yX7_wrong cX7_wrong 2 none 0 0 [.ref (xE κ 9 0 0), .int a1] (rs T 9 m) (rs T 9 res) none := by
  refine Ct_v RX7 rfl (by decide +kernel) (Nat.le_of_ble_eq_true rfl) (fun g hl hκ X hf => ?_)
  subst hl; subst hκ
  exact gX7_wrong X  hf h
set_option maxRecDepth 20000 in
theorem gX7_isGood {g : GX} {T : TT}  {m : St}  {res : Int32} (X : CX g RX7 cX7_isGood 1 0 0)  (hf : FinI g cX7_isGood .boolean (rs T 9 m) (res)) (h : sX7_isGood m = some res) : G g 0 0 (rs T 9 m) 0 [(0, .ref (xE (gκ g) 9 0 0))] [] := by
  unfold sX7_isGood at h
  refine G_aload_n X 0 dX7_isGood_0 rfl rfl ?_
  refine f_X7_118 X rfl (rg_rs _ _ _) dX7_isGood_1 ?_
  refine G_if_ne X (tgt := 11) dX7_isGood_4 (by decide) (fun c1 => ?_) (fun c1 => ?_)
  · have h := it_t c1 h
    refine G_iconst X (v := (0 : Int32)) dX7_isGood_11 (by decide) ?_
    obtain rfl := Option.some.inj h
    exact hf _ _ dX7_isGood_12 (isb_n (v := (0 : Int32)) rfl)
  · have h := it_f (fun k => k c1) h
    refine G_iconst X (v := (1 : Int32)) dX7_isGood_7 (by decide) ?_
    refine G_goto X (tgt := 12) dX7_isGood_8 (by decide) ?_
    obtain rfl := Option.some.inj h
    exact hf _ _ dX7_isGood_12 (isb_n (v := (1 : Int32)) rfl)
set_option maxRecDepth 20000 in
theorem ct_X7_isGood {l : Launch} {κ : KX} {T : TT}  {m : St}  {res : Int32}  (h : sX7_isGood m = some res) : Ct l κ yX7_isGood cX7_isGood 1 (some .boolean) 0 0 [.ref (xE κ 9 0 0)] (rs T 9 m) (rs T 9 m) (some (.int (res))) := by
  refine Ct_i RX7 rfl (by decide +kernel) (Nat.le_of_ble_eq_true rfl) (fun g hl hκ X hf => ?_)
  subst hl; subst hκ
  exact gX7_isGood X  hf h
set_option maxRecDepth 20000 in
theorem gX7_isWord {g : GX} {T : TT}  {m : St} {a1 : Int64} {res : Int32} (X : CX g RX7 cX7_isWord 3 0 0)  (hf : FinI g cX7_isWord .boolean (rs T 9 m) (res)) (h : sX7_isWord m a1 = some res) : G g 0 0 (rs T 9 m) 0 [(0, .ref (xE (gκ g) 9 0 0)), (1, .long a1)] [] := by
  unfold sX7_isWord at h
  refine G_aload_n X 0 dX7_isWord_0 rfl rfl ?_
  refine f_X7_118 X rfl (rg_rs _ _ _) dX7_isWord_1 ?_
  refine G_if_ne X (tgt := 28) dX7_isWord_4 (by decide) (fun c1 => ?_) (fun c1 => ?_)
  · have h := it_t c1 h
    refine G_iconst X (v := (0 : Int32)) dX7_isWord_28 (by decide) ?_
    obtain rfl := Option.some.inj h
    exact hf _ _ dX7_isWord_29 (isb_n (v := (0 : Int32)) rfl)
  · have h := it_f (fun k => k c1) h
    refine G_aload_n X 0 dX7_isWord_7 rfl rfl ?_
    refine f_X7_108 X rfl (rg_rs _ _ _) dX7_isWord_8 ?_
    refine G_iconst X (v := (1 : Int32)) dX7_isWord_11 (by decide) ?_
    refine G_icmp_ne X (tgt := 28) dX7_isWord_12 (by decide) (fun c2 => ?_) (fun c2 => ?_)
    · have h := it_t c2 h
      refine G_iconst X (v := (0 : Int32)) dX7_isWord_28 (by decide) ?_
      obtain rfl := Option.some.inj h
      exact hf _ _ dX7_isWord_29 (isb_n (v := (0 : Int32)) rfl)
    · have h := it_f (fun k => k c2) h
      refine G_aload_n X 0 dX7_isWord_15 rfl rfl ?_
      refine f_X7_101 X rfl (rg_rs _ _ _) dX7_isWord_16 ?_
      refine G_lload_n X 1 dX7_isWord_19 rfl rfl ?_
      refine G_lcmp X dX7_isWord_20 ?_
      refine G_if_ne X (tgt := 28) dX7_isWord_21 (by decide) (fun c3 => ?_) (fun c3 => ?_)
      · have h := it_t c3 h
        refine G_iconst X (v := (0 : Int32)) dX7_isWord_28 (by decide) ?_
        obtain rfl := Option.some.inj h
        exact hf _ _ dX7_isWord_29 (isb_n (v := (0 : Int32)) rfl)
      · have h := it_f (fun k => k c3) h
        refine G_iconst X (v := (1 : Int32)) dX7_isWord_24 (by decide) ?_
        refine G_goto X (tgt := 29) dX7_isWord_25 (by decide) ?_
        obtain rfl := Option.some.inj h
        exact hf _ _ dX7_isWord_29 (isb_n (v := (1 : Int32)) rfl)
set_option maxRecDepth 20000 in
theorem ct_X7_isWord {l : Launch} {κ : KX} {T : TT}  {m : St} {a1 : Int64} {res : Int32}  (h : sX7_isWord m a1 = some res) : Ct l κ yX7_isWord cX7_isWord 3 (some .boolean) 0 0 [.ref (xE κ 9 0 0), .long a1] (rs T 9 m) (rs T 9 m) (some (.int (res))) := by
  refine Ct_i RX7 rfl (by decide +kernel) (Nat.le_of_ble_eq_true rfl) (fun g hl hκ X hf => ?_)
  subst hl; subst hκ
  exact gX7_isWord X  hf h
set_option maxRecDepth 20000 in
theorem gX7_isSign {g : GX} {T : TT}  {m : St} {a1 : Int32} {res : Int32} (X : CX g RX7 cX7_isSign 2 0 0)  (hf : FinI g cX7_isSign .boolean (rs T 9 m) (res)) (h : sX7_isSign m a1 = some res) : G g 0 0 (rs T 9 m) 0 [(0, .ref (xE (gκ g) 9 0 0)), (1, .int a1)] [] := by
  unfold sX7_isSign at h
  refine G_aload_n X 0 dX7_isSign_0 rfl rfl ?_
  refine f_X7_118 X rfl (rg_rs _ _ _) dX7_isSign_1 ?_
  refine G_if_ne X (tgt := 27) dX7_isSign_4 (by decide) (fun c1 => ?_) (fun c1 => ?_)
  · have h := it_t c1 h
    refine G_iconst X (v := (0 : Int32)) dX7_isSign_27 (by decide) ?_
    obtain rfl := Option.some.inj h
    exact hf _ _ dX7_isSign_28 (isb_n (v := (0 : Int32)) rfl)
  · have h := it_f (fun k => k c1) h
    refine G_aload_n X 0 dX7_isSign_7 rfl rfl ?_
    refine f_X7_108 X rfl (rg_rs _ _ _) dX7_isSign_8 ?_
    refine G_iconst X (v := (3 : Int32)) dX7_isSign_11 (by decide) ?_
    refine G_icmp_ne X (tgt := 27) dX7_isSign_12 (by decide) (fun c2 => ?_) (fun c2 => ?_)
    · have h := it_t c2 h
      refine G_iconst X (v := (0 : Int32)) dX7_isSign_27 (by decide) ?_
      obtain rfl := Option.some.inj h
      exact hf _ _ dX7_isSign_28 (isb_n (v := (0 : Int32)) rfl)
    · have h := it_f (fun k => k c2) h
      refine G_aload_n X 0 dX7_isSign_15 rfl rfl ?_
      refine f_X7_105 X rfl (rg_rs _ _ _) dX7_isSign_16 ?_
      refine G_iload_n X 1 dX7_isSign_19 rfl rfl ?_
      refine G_icmp_ne X (tgt := 27) dX7_isSign_20 (by decide) (fun c3 => ?_) (fun c3 => ?_)
      · have h := it_t c3 h
        refine G_iconst X (v := (0 : Int32)) dX7_isSign_27 (by decide) ?_
        obtain rfl := Option.some.inj h
        exact hf _ _ dX7_isSign_28 (isb_n (v := (0 : Int32)) rfl)
      · have h := it_f (fun k => k c3) h
        refine G_iconst X (v := (1 : Int32)) dX7_isSign_23 (by decide) ?_
        refine G_goto X (tgt := 28) dX7_isSign_24 (by decide) ?_
        obtain rfl := Option.some.inj h
        exact hf _ _ dX7_isSign_28 (isb_n (v := (1 : Int32)) rfl)
set_option maxRecDepth 20000 in
theorem ct_X7_isSign {l : Launch} {κ : KX} {T : TT}  {m : St} {a1 : Int32} {res : Int32}  (h : sX7_isSign m a1 = some res) : Ct l κ yX7_isSign cX7_isSign 2 (some .boolean) 0 0 [.ref (xE κ 9 0 0), .int a1] (rs T 9 m) (rs T 9 m) (some (.int (res))) := by
  refine Ct_i RX7 rfl (by decide +kernel) (Nat.le_of_ble_eq_true rfl) (fun g hl hκ X hf => ?_)
  subst hl; subst hκ
  exact gX7_isSign X  hf h
set_option maxRecDepth 20000 in
theorem gX7_mustSign_b20 {g : GX} {T : TT}  {m : St}  {res : St}  (X : CX g RX7 cX7_mustSign 2 2 43)  (hf : FinV g cX7_mustSign (rs T 9 res))   (h : sX7_mustSign_b20  m = some res) : G g 0 0 (rs T 9 m) 20 [(0, .ref (xE (gκ g) 9 0 0))] [] := by
  unfold sX7_mustSign_b20 at h
  refine G_aload_n X 0 dX7_mustSign_20 rfl rfl ?_
  obtain ⟨q6, hq6, h⟩ := bd_some h
  refine G_callV X (As := []) (rest := []) (T' := rs T 9 m) (st2 := [.int q6]) (ct_X7_isGood (l := g.2.1) (κ := gκ g)   hq6) cal_X7_isGood wM_X7_121 wI_X7_isGood wS_X7_isGood rfl rfl (by decide) rfl rfl (Nat.le_of_ble_eq_true rfl) ⟨Nat.zero_le _, Nat.zero_le _⟩ dX7_mustSign_21 rfl ?_
  refine G_if_eq X (tgt := 31) dX7_mustSign_24 (by decide) (fun c7 => ?_) (fun c7 => ?_)
  · have h := it_t c7 h
    obtain rfl := Option.some.inj h
    exact hf _ _ dX7_mustSign_31
  · have h := it_f c7 h
    refine G_aload_n X 0 dX7_mustSign_27 rfl rfl ?_
    obtain ⟨q8, hq8, h⟩ := bd_some h
    refine G_callV X (As := []) (rest := []) (T' := rs T 9 q8) (st2 := []) (ct_X7_goOn (l := g.2.1) (κ := gκ g)   hq8) cal_X7_goOn wM_X7_131 wI_X7_goOn wS_X7_goOn rfl rfl (by decide) rfl rfl (Nat.le_of_ble_eq_true rfl) ⟨Nat.zero_le _, Nat.zero_le _⟩ dX7_mustSign_28 rfl ?_
    obtain rfl := Option.some.inj h
    exact hf _ _ dX7_mustSign_31
set_option maxRecDepth 20000 in
theorem gX7_mustSign {g : GX} {T : TT}  {m : St} {a1 : Int32} {res : St} (X : CX g RX7 cX7_mustSign 2 2 43)  (hf : FinV g cX7_mustSign (rs T 9 res)) (h : sX7_mustSign m a1 = some res) : G g 0 0 (rs T 9 m) 0 [(0, .ref (xE (gκ g) 9 0 0)), (1, .int a1)] [] := by
  unfold sX7_mustSign at h
  refine G_aload_n X 0 dX7_mustSign_0 rfl rfl ?_
  obtain ⟨q1, hq1, h⟩ := bd_some h
  refine G_callV X (As := []) (rest := []) (T' := rs T 9 m) (st2 := [.int q1]) (ct_X7_isGood (l := g.2.1) (κ := gκ g)   hq1) cal_X7_isGood wM_X7_121 wI_X7_isGood wS_X7_isGood rfl rfl (by decide) rfl rfl (Nat.le_of_ble_eq_true rfl) ⟨Nat.zero_le _, Nat.zero_le _⟩ dX7_mustSign_1 rfl ?_
  refine G_if_eq X (tgt := 20) dX7_mustSign_4 (by decide) (fun c2 => ?_) (fun c2 => ?_)
  · have h := it_t c2 h
    refine G_sub [0] rfl ?_
    exact gX7_mustSign_b20 X hf h
  · have h := it_f c2 h
    refine G_aload_n X 0 dX7_mustSign_7 rfl rfl ?_
    refine G_iload_n X 1 dX7_mustSign_8 rfl rfl ?_
    obtain ⟨q3, hq3, h⟩ := bd_some h
    refine G_callV X (As := [.int a1]) (rest := []) (T' := rs T 9 m) (st2 := [.int q3]) (ct_X7_isSign (l := g.2.1) (κ := gκ g)   hq3) cal_X7_isSign wM_X7_125 wI_X7_isSign wS_X7_isSign rfl rfl (by decide) rfl rfl (Nat.le_of_ble_eq_true rfl) ⟨Nat.zero_le _, Nat.zero_le _⟩ dX7_mustSign_9 rfl ?_
    refine G_if_ne X (tgt := 20) dX7_mustSign_12 (by decide) (fun c4 => ?_) (fun c4 => ?_)
    · have h := it_t c4 h
      refine G_sub [0] rfl ?_
      exact gX7_mustSign_b20 X hf h
    · have h := it_f (fun k => k c4) h
      refine G_aload_n X 0 dX7_mustSign_15 rfl rfl ?_
      refine G_iconst X (v := (1 : Int32)) dX7_mustSign_16 (by decide) ?_
      obtain ⟨q5, hq5, h⟩ := bd_some h
      refine G_callV X (As := [.int ((1 : Int32))]) (rest := []) (T' := rs T 9 q5) (st2 := []) (ct_X7_wrong (l := g.2.1) (κ := gκ g)   hq5) cal_X7_wrong wM_X7_128 wI_X7_wrong wS_X7_wrong rfl rfl (by decide) rfl rfl (Nat.le_of_ble_eq_true rfl) ⟨Nat.zero_le _, Nat.zero_le _⟩ dX7_mustSign_17 rfl ?_
      refine G_sub [0] rfl ?_
      exact gX7_mustSign_b20 X hf h
set_option maxRecDepth 20000 in
theorem ct_X7_mustSign {l : Launch} {κ : KX} {T : TT}  {m : St} {a1 : Int32} {res : St}  (h : sX7_mustSign m a1 = some res) : Ct l κ yX7_mustSign cX7_mustSign 2 none 2 43 [.ref (xE κ 9 0 0), .int a1] (rs T 9 m) (rs T 9 res) none := by
  refine Ct_v RX7 rfl (by decide +kernel) (Nat.le_of_ble_eq_true rfl) (fun g hl hκ X hf => ?_)
  subst hl; subst hκ
  exact gX7_mustSign X  hf h
set_option maxRecDepth 20000 in
theorem gX7_mustWord_b20 {g : GX} {T : TT}  {m : St}  {res : St}  (X : CX g RX7 cX7_mustWord 3 2 43)  (hf : FinV g cX7_mustWord (rs T 9 res))   (h : sX7_mustWord_b20  m = some res) : G g 0 0 (rs T 9 m) 20 [(0, .ref (xE (gκ g) 9 0 0))] [] := by
  unfold sX7_mustWord_b20 at h
  refine G_aload_n X 0 dX7_mustWord_20 rfl rfl ?_
  obtain ⟨q6, hq6, h⟩ := bd_some h
  refine G_callV X (As := []) (rest := []) (T' := rs T 9 m) (st2 := [.int q6]) (ct_X7_isGood (l := g.2.1) (κ := gκ g)   hq6) cal_X7_isGood wM_X7_121 wI_X7_isGood wS_X7_isGood rfl rfl (by decide) rfl rfl (Nat.le_of_ble_eq_true rfl) ⟨Nat.zero_le _, Nat.zero_le _⟩ dX7_mustWord_21 rfl ?_
  refine G_if_eq X (tgt := 31) dX7_mustWord_24 (by decide) (fun c7 => ?_) (fun c7 => ?_)
  · have h := it_t c7 h
    obtain rfl := Option.some.inj h
    exact hf _ _ dX7_mustWord_31
  · have h := it_f c7 h
    refine G_aload_n X 0 dX7_mustWord_27 rfl rfl ?_
    obtain ⟨q8, hq8, h⟩ := bd_some h
    refine G_callV X (As := []) (rest := []) (T' := rs T 9 q8) (st2 := []) (ct_X7_goOn (l := g.2.1) (κ := gκ g)   hq8) cal_X7_goOn wM_X7_131 wI_X7_goOn wS_X7_goOn rfl rfl (by decide) rfl rfl (Nat.le_of_ble_eq_true rfl) ⟨Nat.zero_le _, Nat.zero_le _⟩ dX7_mustWord_28 rfl ?_
    obtain rfl := Option.some.inj h
    exact hf _ _ dX7_mustWord_31
set_option maxRecDepth 20000 in
theorem gX7_mustWord {g : GX} {T : TT}  {m : St} {a1 : Int64} {res : St} (X : CX g RX7 cX7_mustWord 3 2 43)  (hf : FinV g cX7_mustWord (rs T 9 res)) (h : sX7_mustWord m a1 = some res) : G g 0 0 (rs T 9 m) 0 [(0, .ref (xE (gκ g) 9 0 0)), (1, .long a1)] [] := by
  unfold sX7_mustWord at h
  refine G_aload_n X 0 dX7_mustWord_0 rfl rfl ?_
  obtain ⟨q1, hq1, h⟩ := bd_some h
  refine G_callV X (As := []) (rest := []) (T' := rs T 9 m) (st2 := [.int q1]) (ct_X7_isGood (l := g.2.1) (κ := gκ g)   hq1) cal_X7_isGood wM_X7_121 wI_X7_isGood wS_X7_isGood rfl rfl (by decide) rfl rfl (Nat.le_of_ble_eq_true rfl) ⟨Nat.zero_le _, Nat.zero_le _⟩ dX7_mustWord_1 rfl ?_
  refine G_if_eq X (tgt := 20) dX7_mustWord_4 (by decide) (fun c2 => ?_) (fun c2 => ?_)
  · have h := it_t c2 h
    refine G_sub [0] rfl ?_
    exact gX7_mustWord_b20 X hf h
  · have h := it_f c2 h
    refine G_aload_n X 0 dX7_mustWord_7 rfl rfl ?_
    refine G_lload_n X 1 dX7_mustWord_8 rfl rfl ?_
    obtain ⟨q3, hq3, h⟩ := bd_some h
    refine G_callV X (As := [.long a1]) (rest := []) (T' := rs T 9 m) (st2 := [.int q3]) (ct_X7_isWord (l := g.2.1) (κ := gκ g)   hq3) cal_X7_isWord wM_X7_134 wI_X7_isWord wS_X7_isWord rfl rfl (by decide) rfl rfl (Nat.le_of_ble_eq_true rfl) ⟨Nat.zero_le _, Nat.zero_le _⟩ dX7_mustWord_9 rfl ?_
    refine G_if_ne X (tgt := 20) dX7_mustWord_12 (by decide) (fun c4 => ?_) (fun c4 => ?_)
    · have h := it_t c4 h
      refine G_sub [0] rfl ?_
      exact gX7_mustWord_b20 X hf h
    · have h := it_f (fun k => k c4) h
      refine G_aload_n X 0 dX7_mustWord_15 rfl rfl ?_
      refine G_iconst X (v := (1 : Int32)) dX7_mustWord_16 (by decide) ?_
      obtain ⟨q5, hq5, h⟩ := bd_some h
      refine G_callV X (As := [.int ((1 : Int32))]) (rest := []) (T' := rs T 9 q5) (st2 := []) (ct_X7_wrong (l := g.2.1) (κ := gκ g)   hq5) cal_X7_wrong wM_X7_128 wI_X7_wrong wS_X7_wrong rfl rfl (by decide) rfl rfl (Nat.le_of_ble_eq_true rfl) ⟨Nat.zero_le _, Nat.zero_le _⟩ dX7_mustWord_17 rfl ?_
      refine G_sub [0] rfl ?_
      exact gX7_mustWord_b20 X hf h
set_option maxRecDepth 20000 in
theorem ct_X7_mustWord {l : Launch} {κ : KX} {T : TT}  {m : St} {a1 : Int64} {res : St}  (h : sX7_mustWord m a1 = some res) : Ct l κ yX7_mustWord cX7_mustWord 3 none 2 43 [.ref (xE κ 9 0 0), .long a1] (rs T 9 m) (rs T 9 res) none := by
  refine Ct_v RX7 rfl (by decide +kernel) (Nat.le_of_ble_eq_true rfl) (fun g hl hκ X hf => ?_)
  subst hl; subst hκ
  exact gX7_mustWord X  hf h
set_option maxRecDepth 20000 in
theorem gX7_looks_b20 {g : GX} {T : TT}  {m : St} {a1 : Int32} {a2 : Int32} {res : St × Int32}  (X : CX g RX7 cX7_looks 3 1 25)  (hf : FinI g cX7_looks .int (rs T 9 res.1) (res.2))   (h : sX7_looks_b20  m a1 a2 = some res) : G g 0 0 (rs T 9 m) 20 [(0, .ref (xE (gκ g) 9 0 0)), (1, .int a1), (2, .int a2)] [] := by
  unfold sX7_looks_b20 at h
  refine G_aload_n X 0 dX7_looks_20 rfl rfl ?_
  obtain ⟨q5, hq5, h⟩ := bd_some h
  refine G_callV X (As := []) (rest := []) (T' := rs T 9 m) (st2 := [.int q5]) (ct_X7_isGood (l := g.2.1) (κ := gκ g)   hq5) cal_X7_isGood wM_X7_121 wI_X7_isGood wS_X7_isGood rfl rfl (by decide) rfl rfl (Nat.le_of_ble_eq_true rfl) ⟨Nat.zero_le _, Nat.zero_le _⟩ dX7_looks_21 rfl ?_
  refine G_if_eq X (tgt := 47) dX7_looks_24 (by decide) (fun c6 => ?_) (fun c6 => ?_)
  · have h := it_t c6 h
    refine G_aload_n X 0 dX7_looks_47 rfl rfl ?_
    refine f_X7_105 X rfl (rg_rs _ _ _) dX7_looks_48 ?_
    obtain rfl := Option.some.inj h
    exact hf _ _ dX7_looks_51 rfl
  · have h := it_f c6 h
    refine G_aload_n X 0 dX7_looks_27 rfl rfl ?_
    refine f_X7_105 X rfl (rg_rs _ _ _) dX7_looks_28 ?_
    refine G_i2l X dX7_looks_31 ?_
    refine G_iload_n X 1 dX7_looks_32 rfl rfl ?_
    refine G_i2l X dX7_looks_33 ?_
    refine G_iload_n X 2 dX7_looks_34 rfl rfl ?_
    refine G_i2l X dX7_looks_35 ?_
    obtain ⟨q7, hq7, h⟩ := bd_some h
    refine G_callS X (As := [.long ((gI m 0 0 7).toInt64), .long a1.toInt64, .long a2.toInt64]) (rest := []) (T' := rs T 9 m) (st2 := [.int q7]) (ct_X7_isIn (l := g.2.1) (κ := gκ g)   hq7) cal_X7_isIn wM_X7_84 wT_X7_isIn (by decide) rfl rfl (Nat.le_of_ble_eq_true rfl) ⟨Nat.zero_le _, Nat.zero_le _⟩ dX7_looks_36 rfl ?_
    refine G_if_ne X (tgt := 47) dX7_looks_39 (by decide) (fun c8 => ?_) (fun c8 => ?_)
    · have h := it_t c8 h
      refine G_aload_n X 0 dX7_looks_47 rfl rfl ?_
      refine f_X7_105 X rfl (rg_rs _ _ _) dX7_looks_48 ?_
      obtain rfl := Option.some.inj h
      exact hf _ _ dX7_looks_51 rfl
    · have h := it_f (fun k => k c8) h
      refine G_aload_n X 0 dX7_looks_42 rfl rfl ?_
      refine G_iconst X (v := (2 : Int32)) dX7_looks_43 (by decide) ?_
      obtain ⟨q9, hq9, h⟩ := bd_some h
      refine G_callV X (As := [.int ((2 : Int32))]) (rest := []) (T' := rs T 9 q9) (st2 := []) (ct_X7_wrong (l := g.2.1) (κ := gκ g)   hq9) cal_X7_wrong wM_X7_128 wI_X7_wrong wS_X7_wrong rfl rfl (by decide) rfl rfl (Nat.le_of_ble_eq_true rfl) ⟨Nat.zero_le _, Nat.zero_le _⟩ dX7_looks_44 rfl ?_
      refine G_aload_n X 0 dX7_looks_47 rfl rfl ?_
      refine f_X7_105 X rfl (rg_rs _ _ _) dX7_looks_48 ?_
      obtain rfl := Option.some.inj h
      exact hf _ _ dX7_looks_51 rfl
set_option maxRecDepth 20000 in
theorem gX7_looks {g : GX} {T : TT}  {m : St} {a1 : Int32} {a2 : Int32} {res : St × Int32} (X : CX g RX7 cX7_looks 3 1 25)  (hf : FinI g cX7_looks .int (rs T 9 res.1) (res.2)) (h : sX7_looks m a1 a2 = some res) : G g 0 0 (rs T 9 m) 0 [(0, .ref (xE (gκ g) 9 0 0)), (1, .int a1), (2, .int a2)] [] := by
  unfold sX7_looks at h
  refine G_aload_n X 0 dX7_looks_0 rfl rfl ?_
  obtain ⟨q1, hq1, h⟩ := bd_some h
  refine G_callV X (As := []) (rest := []) (T' := rs T 9 m) (st2 := [.int q1]) (ct_X7_isGood (l := g.2.1) (κ := gκ g)   hq1) cal_X7_isGood wM_X7_121 wI_X7_isGood wS_X7_isGood rfl rfl (by decide) rfl rfl (Nat.le_of_ble_eq_true rfl) ⟨Nat.zero_le _, Nat.zero_le _⟩ dX7_looks_1 rfl ?_
  refine G_if_eq X (tgt := 20) dX7_looks_4 (by decide) (fun c2 => ?_) (fun c2 => ?_)
  · have h := it_t c2 h
    exact gX7_looks_b20 X hf h
  · have h := it_f c2 h
    refine G_aload_n X 0 dX7_looks_7 rfl rfl ?_
    refine f_X7_108 X rfl (rg_rs _ _ _) dX7_looks_8 ?_
    refine G_iconst X (v := (2 : Int32)) dX7_looks_11 (by decide) ?_
    refine G_icmp_eq X (tgt := 20) dX7_looks_12 (by decide) (fun c3 => ?_) (fun c3 => ?_)
    · have h := it_t c3 h
      exact gX7_looks_b20 X hf h
    · have h := it_f c3 h
      refine G_aload_n X 0 dX7_looks_15 rfl rfl ?_
      refine G_iconst X (v := (1 : Int32)) dX7_looks_16 (by decide) ?_
      obtain ⟨q4, hq4, h⟩ := bd_some h
      refine G_callV X (As := [.int ((1 : Int32))]) (rest := []) (T' := rs T 9 q4) (st2 := []) (ct_X7_wrong (l := g.2.1) (κ := gκ g)   hq4) cal_X7_wrong wM_X7_128 wI_X7_wrong wS_X7_wrong rfl rfl (by decide) rfl rfl (Nat.le_of_ble_eq_true rfl) ⟨Nat.zero_le _, Nat.zero_le _⟩ dX7_looks_17 rfl ?_
      exact gX7_looks_b20 X hf h
set_option maxRecDepth 20000 in
theorem ct_X7_looks {l : Launch} {κ : KX} {T : TT}  {m : St} {a1 : Int32} {a2 : Int32} {res : St × Int32}  (h : sX7_looks m a1 a2 = some res) : Ct l κ yX7_looks cX7_looks 3 (some .int) 1 25 [.ref (xE κ 9 0 0), .int a1, .int a2] (rs T 9 m) (rs T 9 res.1) (some (.int (res.2))) := by
  refine Ct_i RX7 rfl (by decide +kernel) (Nat.le_of_ble_eq_true rfl) (fun g hl hκ X hf => ?_)
  subst hl; subst hκ
  exact gX7_looks X  hf h
set_option maxRecDepth 20000 in
theorem gX7_number {g : GX} {T : TT}  {m : St} {a1 : Int32} {a2 : Int32} {res : St × Int32} (X : CX g RX7 cX7_number 4 2 47)  (hf : FinI g cX7_number .int (rs T 9 res.1) (res.2)) (h : sX7_number m a1 a2 = some res) : G g 0 0 (rs T 9 m) 0 [(0, .ref (xE (gκ g) 9 0 0)), (1, .int a1), (2, .int a2)] [] := by
  unfold sX7_number at h
  refine G_aload_n X 0 dX7_number_0 rfl rfl ?_
  refine G_iload_n X 1 dX7_number_1 rfl rfl ?_
  refine G_iload_n X 2 dX7_number_2 rfl rfl ?_
  obtain ⟨q1, hq1, h⟩ := bd_some h
  refine G_callV X (As := [.int a1, .int a2]) (rest := []) (T' := rs T 9 q1.1) (st2 := [.int q1.2]) (ct_X7_looks (l := g.2.1) (κ := gκ g)   hq1) cal_X7_looks wM_X7_138 wI_X7_looks wS_X7_looks rfl rfl (by decide) rfl rfl (Nat.le_of_ble_eq_true rfl) ⟨Nat.zero_le _, Nat.zero_le _⟩ dX7_number_3 rfl ?_
  refine G_istore_n X (lv' := [(3, .int q1.2), (0, .ref (xE (gκ g) 9 0 0)), (1, .int a1), (2, .int a2)]) dX7_number_6 rfl (by decide) rfl ?_
  refine G_aload_n X 1 dX7_number_7 rfl rfl ?_
  obtain ⟨q2, hq2, h⟩ := bd_some h
  refine G_callV X (As := []) (rest := []) (T' := rs T 9 q1.1) (st2 := [.int q2]) (ct_X7_isGood (l := g.2.1) (κ := gκ g)   hq2) cal_X7_isGood wM_X7_121 wI_X7_isGood wS_X7_isGood rfl rfl (by decide) rfl rfl (Nat.le_of_ble_eq_true rfl) ⟨Nat.zero_le _, Nat.zero_le _⟩ dX7_number_8 rfl ?_
  refine G_if_eq X (tgt := 18) dX7_number_11 (by decide) (fun c3 => ?_) (fun c3 => ?_)
  · have h := it_t c3 h
    refine G_iload_n X 0 dX7_number_18 rfl rfl ?_
    obtain rfl := Option.some.inj h
    exact hf _ _ dX7_number_19 rfl
  · have h := it_f c3 h
    refine G_aload_n X 1 dX7_number_14 rfl rfl ?_
    obtain ⟨q4, hq4, h⟩ := bd_some h
    refine G_callV X (As := []) (rest := []) (T' := rs T 9 q4) (st2 := []) (ct_X7_goOn (l := g.2.1) (κ := gκ g)   hq4) cal_X7_goOn wM_X7_131 wI_X7_goOn wS_X7_goOn rfl rfl (by decide) rfl rfl (Nat.le_of_ble_eq_true rfl) ⟨Nat.zero_le _, Nat.zero_le _⟩ dX7_number_15 rfl ?_
    refine G_iload_n X 0 dX7_number_18 rfl rfl ?_
    obtain rfl := Option.some.inj h
    exact hf _ _ dX7_number_19 rfl
set_option maxRecDepth 20000 in
theorem ct_X7_number {l : Launch} {κ : KX} {T : TT}  {m : St} {a1 : Int32} {a2 : Int32} {res : St × Int32}  (h : sX7_number m a1 a2 = some res) : Ct l κ yX7_number cX7_number 4 (some .int) 2 47 [.ref (xE κ 9 0 0), .int a1, .int a2] (rs T 9 m) (rs T 9 res.1) (some (.int (res.2))) := by
  refine Ct_i RX7 rfl (by decide +kernel) (Nat.le_of_ble_eq_true rfl) (fun g hl hκ X hf => ?_)
  subst hl; subst hκ
  exact gX7_number X  hf h
set_option maxRecDepth 20000 in
theorem gX7_beginsText {g : GX} {T : TT}  {m : St}  {res : St} (X : CX g RX7 cX7_beginsText 1 2 43)  (hf : FinV g cX7_beginsText (rs T 9 res)) (h : sX7_beginsText m = some res) : G g 0 0 (rs T 9 m) 0 [(0, .ref (xE (gκ g) 9 0 0))] [] := by
  unfold sX7_beginsText at h
  refine G_aload_n X 0 dX7_beginsText_0 rfl rfl ?_
  refine G_aload_n X 0 dX7_beginsText_1 rfl rfl ?_
  refine f_X7_73 X rfl (rg_rs _ _ _) dX7_beginsText_2 ?_
  obtain ⟨x1, ex1, h⟩ := nm_some h
  refine p_X7_91 X (T' := rs T 9 x1) rfl (rg_rs _ _ _)  (by rw [rs_rs, ex1]) dX7_beginsText_5 ?_
  refine G_aload_n X 0 dX7_beginsText_8 rfl rfl ?_
  refine G_iconst X (v := (0 : Int32)) dX7_beginsText_9 (by decide) ?_
  obtain ⟨x2, ex2, h⟩ := nm_some h
  refine p_X7_73 X (T' := rs T 9 x2) rfl (rg_rs _ _ _)  (by rw [rs_rs, ex2]) dX7_beginsText_10 ?_
  refine G_aload_n X 0 dX7_beginsText_13 rfl rfl ?_
  refine G_iconst X (v := (0 : Int32)) dX7_beginsText_14 (by decide) ?_
  obtain ⟨x3, ex3, h⟩ := nm_some h
  refine p_X7_88 X (T' := rs T 9 x3) rfl (rg_rs _ _ _)  (by rw [rs_rs, ex3]) dX7_beginsText_15 ?_
  refine G_aload_n X 0 dX7_beginsText_18 rfl rfl ?_
  refine G_iconst X (v := (0 : Int32)) dX7_beginsText_19 (by decide) ?_
  obtain ⟨x4, ex4, h⟩ := nm_some h
  refine p_X7_118 X (T' := rs T 9 x4) rfl (rg_rs _ _ _)  (by rw [rs_rs, ex4]) dX7_beginsText_20 ?_
  refine G_aload_n X 0 dX7_beginsText_23 rfl rfl ?_
  refine G_iconst X (v := (-1 : Int32)) dX7_beginsText_24 (by decide) ?_
  obtain ⟨x5, ex5, h⟩ := nm_some h
  refine p_X7_13 X (T' := rs T 9 x5) rfl (rg_rs _ _ _)  (by rw [rs_rs, ex5]) dX7_beginsText_25 ?_
  refine G_aload_n X 0 dX7_beginsText_28 rfl rfl ?_
  obtain ⟨q6, hq6, h⟩ := bd_some h
  refine G_callV X (As := []) (rest := []) (T' := rs T 9 q6) (st2 := []) (ct_X7_goOn (l := g.2.1) (κ := gκ g)   hq6) cal_X7_goOn wM_X7_131 wI_X7_goOn wS_X7_goOn rfl rfl (by decide) rfl rfl (Nat.le_of_ble_eq_true rfl) ⟨Nat.zero_le _, Nat.zero_le _⟩ dX7_beginsText_29 rfl ?_
  obtain rfl := Option.some.inj h
  exact hf _ _ dX7_beginsText_32
set_option maxRecDepth 20000 in
theorem ct_X7_beginsText {l : Launch} {κ : KX} {T : TT}  {m : St}  {res : St}  (h : sX7_beginsText m = some res) : Ct l κ yX7_beginsText cX7_beginsText 1 none 2 43 [.ref (xE κ 9 0 0)] (rs T 9 m) (rs T 9 res) none := by
  refine Ct_v RX7 rfl (by decide +kernel) (Nat.le_of_ble_eq_true rfl) (fun g hl hκ X hf => ?_)
  subst hl; subst hκ
  exact gX7_beginsText X  hf h
set_option maxRecDepth 20000 in
theorem gX7_endsText_b29 {g : GX} {T : TT}  {m : St} {s0 : Int32} {res : St × Int32}  (X : CX g RX7 cX7_endsText 1 2 41)  (hf : FinI g cX7_endsText .boolean (rs T 9 res.1) (res.2))   (h : sX7_endsText_b29  m s0 = some res) : G g 0 0 (rs T 9 m) 29 [] [.int s0, .ref (xE (gκ g) 9 0 0)] := by
  unfold sX7_endsText_b29 at h
  obtain ⟨q4, hq4, h⟩ := bd_some h
  refine G_callV X (As := [.int s0]) (rest := []) (T' := rs T 9 q4.1) (st2 := [.int q4.2]) (ct_X7_goes (l := g.2.1) (κ := gκ g)   hq4) cal_X7_goes wM_X7_76 wI_X7_goes wS_X7_goes rfl rfl (by decide) rfl rfl (Nat.le_of_ble_eq_true rfl) ⟨Nat.zero_le _, Nat.zero_le _⟩ dX7_endsText_29 rfl ?_
  obtain ⟨g5, h⟩ := gd_some h
  obtain rfl := Option.some.inj h
  exact hf _ _ dX7_endsText_32 (isb_n g5)
set_option maxRecDepth 20000 in
theorem gX7_endsText {g : GX} {T : TT}  {m : St}  {res : St × Int32} (X : CX g RX7 cX7_endsText 1 2 41)  (hf : FinI g cX7_endsText .boolean (rs T 9 res.1) (res.2)) (h : sX7_endsText m = some res) : G g 0 0 (rs T 9 m) 0 [(0, .ref (xE (gκ g) 9 0 0))] [] := by
  unfold sX7_endsText at h
  refine G_aload_n X 0 dX7_endsText_0 rfl rfl ?_
  refine G_aload_n X 0 dX7_endsText_1 rfl rfl ?_
  refine f_X7_118 X rfl (rg_rs _ _ _) dX7_endsText_2 ?_
  obtain ⟨x1, ex1, h⟩ := nm_some h
  refine p_X7_142 X (T' := rs T 9 x1) rfl (rg_rs _ _ _)  (by rw [rs_rs, ex1]) dX7_endsText_5 ?_
  refine G_aload_n X 0 dX7_endsText_8 rfl rfl ?_
  refine G_aload_n X 0 dX7_endsText_9 rfl rfl ?_
  refine f_X7_13 X rfl (rg_rs _ _ _) dX7_endsText_10 ?_
  obtain ⟨x2, ex2, h⟩ := nm_some h
  refine p_X7_17 X (T' := rs T 9 x2) rfl (rg_rs _ _ _)  (by rw [rs_rs, ex2]) dX7_endsText_13 ?_
  refine G_aload_n X 0 dX7_endsText_16 rfl rfl ?_
  refine G_aload_n X 0 dX7_endsText_17 rfl rfl ?_
  refine f_X7_118 X rfl (rg_rs _ _ _) dX7_endsText_18 ?_
  refine G_if_ne X (tgt := 28) dX7_endsText_21 (by decide) (fun c3 => ?_) (fun c3 => ?_)
  · have h := it_t c3 h
    refine G_iconst X (v := (0 : Int32)) dX7_endsText_28 (by decide) ?_
    refine G_sub [] rfl ?_
    exact gX7_endsText_b29 X hf h
  · have h := it_f (fun k => k c3) h
    refine G_iconst X (v := (1 : Int32)) dX7_endsText_24 (by decide) ?_
    refine G_goto X (tgt := 29) dX7_endsText_25 (by decide) ?_
    refine G_sub [] rfl ?_
    exact gX7_endsText_b29 X hf h
set_option maxRecDepth 20000 in
theorem ct_X7_endsText {l : Launch} {κ : KX} {T : TT}  {m : St}  {res : St × Int32}  (h : sX7_endsText m = some res) : Ct l κ yX7_endsText cX7_endsText 1 (some .boolean) 2 41 [.ref (xE κ 9 0 0)] (rs T 9 m) (rs T 9 res.1) (some (.int (res.2))) := by
  refine Ct_i RX7 rfl (by decide +kernel) (Nat.le_of_ble_eq_true rfl) (fun g hl hκ X hf => ?_)
  subst hl; subst hκ
  exact gX7_endsText X  hf h
set_option maxRecDepth 20000 in
theorem gX7_errorCode {g : GX} {T : TT}  {m : St}  {res : St × Int32} (X : CX g RX7 cX7_errorCode 1 0 0)  (hf : FinI g cX7_errorCode .int (rs T 9 res.1) (res.2)) (h : sX7_errorCode m = some res) : G g 0 0 (rs T 9 m) 0 [(0, .ref (xE (gκ g) 9 0 0))] [] := by
  unfold sX7_errorCode at h
  refine G_aload_n X 0 dX7_errorCode_0 rfl rfl ?_
  refine G_iconst X (v := (0 : Int32)) dX7_errorCode_1 (by decide) ?_
  obtain ⟨x1, ex1, h⟩ := nm_some h
  refine p_X7_66 X (T' := rs T 9 x1) rfl (rg_rs _ _ _)  (by rw [rs_rs, ex1]) dX7_errorCode_2 ?_
  refine G_aload_n X 0 dX7_errorCode_5 rfl rfl ?_
  refine f_X7_142 X rfl (rg_rs _ _ _) dX7_errorCode_6 ?_
  obtain rfl := Option.some.inj h
  exact hf _ _ dX7_errorCode_9 rfl
set_option maxRecDepth 20000 in
theorem ct_X7_errorCode {l : Launch} {κ : KX} {T : TT}  {m : St}  {res : St × Int32}  (h : sX7_errorCode m = some res) : Ct l κ yX7_errorCode cX7_errorCode 1 (some .int) 0 0 [.ref (xE κ 9 0 0)] (rs T 9 m) (rs T 9 res.1) (some (.int (res.2))) := by
  refine Ct_i RX7 rfl (by decide +kernel) (Nat.le_of_ble_eq_true rfl) (fun g hl hκ X hf => ?_)
  subst hl; subst hκ
  exact gX7_errorCode X  hf h
set_option maxRecDepth 20000 in
theorem gX7_errorPosition {g : GX} {T : TT}  {m : St}  {res : St × Int32} (X : CX g RX7 cX7_errorPosition 1 0 0)  (hf : FinI g cX7_errorPosition .int (rs T 9 res.1) (res.2)) (h : sX7_errorPosition m = some res) : G g 0 0 (rs T 9 m) 0 [(0, .ref (xE (gκ g) 9 0 0))] [] := by
  unfold sX7_errorPosition at h
  refine G_aload_n X 0 dX7_errorPosition_0 rfl rfl ?_
  refine G_iconst X (v := (0 : Int32)) dX7_errorPosition_1 (by decide) ?_
  obtain ⟨x1, ex1, h⟩ := nm_some h
  refine p_X7_66 X (T' := rs T 9 x1) rfl (rg_rs _ _ _)  (by rw [rs_rs, ex1]) dX7_errorPosition_2 ?_
  refine G_aload_n X 0 dX7_errorPosition_5 rfl rfl ?_
  refine f_X7_17 X rfl (rg_rs _ _ _) dX7_errorPosition_6 ?_
  obtain rfl := Option.some.inj h
  exact hf _ _ dX7_errorPosition_9 rfl
set_option maxRecDepth 20000 in
theorem ct_X7_errorPosition {l : Launch} {κ : KX} {T : TT}  {m : St}  {res : St × Int32}  (h : sX7_errorPosition m = some res) : Ct l κ yX7_errorPosition cX7_errorPosition 1 (some .int) 0 0 [.ref (xE κ 9 0 0)] (rs T 9 m) (rs T 9 res.1) (some (.int (res.2))) := by
  refine Ct_i RX7 rfl (by decide +kernel) (Nat.le_of_ble_eq_true rfl) (fun g hl hκ X hf => ?_)
  subst hl; subst hκ
  exact gX7_errorPosition X  hf h
set_option maxRecDepth 20000 in
theorem gX7_copiesRow_b3 {g : GX} {T : TT} {j0 : Nat} {j2 : Nat}  {res : St}  (X : CX g RX7 cX7_copiesRow 5 0 0) (hj0 : kd 9 0 j0 = some (1, lenM j0)) (hj2 : kd 9 0 j2 = some (1, lenM j2)) (hf : FinV g cX7_copiesRow (rs T 9 res))  : ∀ (n : Nat) (m : St) (a1 : Int32) (a3 : Int32) (a4 : Int32) (h : sX7_copiesRow_b3 n  j0 j2 m a1 a3 a4 = some res), G g 0 0 (rs T 9 m) 3 [(0, .ref (xE (gκ g) 9 0 j0)), (1, .int a1), (2, .ref (xE (gκ g) 9 0 j2)), (3, .int a3), (4, .int a4)] [] := by
  intro n
  induction n with
  | zero => intro m a1 a3 a4 h; unfold sX7_copiesRow_b3 at h; cases h
  | succ n ih =>
    intro m a1 a3 a4 h
    unfold sX7_copiesRow_b3 at h
    refine G_iload X 4 dX7_copiesRow_3 rfl ?_
    refine G_sipush X (v := (365 : Int32)) dX7_copiesRow_5 (by decide) ?_
    refine G_icmp_ge X (tgt := 29) dX7_copiesRow_8 (by decide) (fun c1 => ?_) (fun c1 => ?_)
    · have h := it_t c1 h
      obtain rfl := Option.some.inj h
      exact hf _ _ dX7_copiesRow_29
    · have h := it_f c1 h
      refine G_aload_n X 2 dX7_copiesRow_11 rfl rfl ?_
      refine G_iload_n X 3 dX7_copiesRow_12 rfl rfl ?_
      refine G_iload X 4 dX7_copiesRow_13 rfl ?_
      refine G_iadd X dX7_copiesRow_15 ?_
      refine G_aload_n X 0 dX7_copiesRow_16 rfl rfl ?_
      refine G_iload_n X 1 dX7_copiesRow_17 rfl rfl ?_
      refine G_iload X 4 dX7_copiesRow_18 rfl ?_
      refine G_iadd X dX7_copiesRow_20 ?_
      obtain ⟨g2, h⟩ := gd_some h
      refine G_iald X hj0 (rg_rs _ _ _) g2 dX7_copiesRow_21 ?_
      obtain ⟨g3, h⟩ := gd_some h
      obtain ⟨x4, ex4, h⟩ := nm_some h
      refine G_iast X (T' := rs T 9 x4) hj2 (rg_rs _ _ _) g3 (by rw [rs_rs, ex4]) dX7_copiesRow_22 ?_
      obtain ⟨v5, ev5, h⟩ := nm_some h
      refine G_iinc X (v := v5) (lv' := [(4, .int v5), (0, .ref (xE (gκ g) 9 0 j0)), (1, .int a1), (2, .ref (xE (gκ g) 9 0 j2)), (3, .int a3)]) 4 dX7_copiesRow_23 rfl (by rw [ev5]; rfl) (by decide) rfl ?_
      refine G_goto X (tgt := 3) dX7_copiesRow_26 (by decide) ?_
      refine G_sub [1, 2, 3, 4, 0] rfl ?_
      exact ih _ _ _ _ h
set_option maxRecDepth 20000 in
theorem gX7_copiesRow {g : GX} {T : TT} {j0 : Nat} {j2 : Nat} {m : St} {a1 : Int32} {a3 : Int32} {res : St} (X : CX g RX7 cX7_copiesRow 5 0 0) (hj0 : kd 9 0 j0 = some (1, lenM j0)) (hj2 : kd 9 0 j2 = some (1, lenM j2)) (hf : FinV g cX7_copiesRow (rs T 9 res)) (h : sX7_copiesRow j0 j2 m a1 a3 = some res) : G g 0 0 (rs T 9 m) 0 [(0, .ref (xE (gκ g) 9 0 j0)), (1, .int a1), (2, .ref (xE (gκ g) 9 0 j2)), (3, .int a3)] [] := by
  unfold sX7_copiesRow at h
  refine G_iconst X (v := (0 : Int32)) dX7_copiesRow_0 (by decide) ?_
  refine G_istore X (lv' := [(4, .int ((0 : Int32))), (0, .ref (xE (gκ g) 9 0 j0)), (1, .int a1), (2, .ref (xE (gκ g) 9 0 j2)), (3, .int a3)]) dX7_copiesRow_1 (by decide) rfl ?_
  refine G_sub [1, 2, 3, 4, 0] rfl ?_
  exact gX7_copiesRow_b3 X hj0 hj2 hf FU _ _ _ _ h
set_option maxRecDepth 20000 in
theorem ct_X7_copiesRow {l : Launch} {κ : KX} {T : TT} {j0 : Nat} {j2 : Nat} {m : St} {a1 : Int32} {a3 : Int32} {res : St} (hj0 : kd 9 0 j0 = some (1, lenM j0)) (hj2 : kd 9 0 j2 = some (1, lenM j2)) (h : sX7_copiesRow j0 j2 m a1 a3 = some res) : Ct l κ yX7_copiesRow cX7_copiesRow 5 none 0 0 [.ref (xE κ 9 0 j0), .int a1, .ref (xE κ 9 0 j2), .int a3] (rs T 9 m) (rs T 9 res) none := by
  refine Ct_v RX7 rfl (by decide +kernel) (Nat.le_of_ble_eq_true rfl) (fun g hl hκ X hf => ?_)
  subst hl; subst hκ
  exact gX7_copiesRow X hj0 hj2 hf h
set_option maxRecDepth 20000 in
theorem gX7_copiesNames_b2 {g : GX} {T : TT} {j0 : Nat} {j1 : Nat}  {res : St}  (X : CX g RX7 cX7_copiesNames 3 0 0) (hj0 : kd 9 0 j0 = some (3, lenM j0)) (hj1 : kd 9 0 j1 = some (3, lenM j1)) (hf : FinV g cX7_copiesNames (rs T 9 res))  : ∀ (n : Nat) (m : St) (a2 : Int32) (h : sX7_copiesNames_b2 n  j0 j1 m a2 = some res), G g 0 0 (rs T 9 m) 2 [(0, .ref (xE (gκ g) 9 0 j0)), (1, .ref (xE (gκ g) 9 0 j1)), (2, .int a2)] [] := by
  intro n
  induction n with
  | zero => intro m a2 h; unfold sX7_copiesNames_b2 at h; cases h
  | succ n ih =>
    intro m a2 h
    unfold sX7_copiesNames_b2 at h
    refine G_iload_n X 2 dX7_copiesNames_2 rfl rfl ?_
    refine G_bipush X (v := (8 : Int32)) dX7_copiesNames_3 (by decide) ?_
    refine G_icmp_ge X (tgt := 20) dX7_copiesNames_5 (by decide) (fun c1 => ?_) (fun c1 => ?_)
    · have h := it_t c1 h
      obtain rfl := Option.some.inj h
      exact hf _ _ dX7_copiesNames_20
    · have h := it_f c1 h
      refine G_aload_n X 1 dX7_copiesNames_8 rfl rfl ?_
      refine G_iload_n X 2 dX7_copiesNames_9 rfl rfl ?_
      refine G_aload_n X 0 dX7_copiesNames_10 rfl rfl ?_
      refine G_iload_n X 2 dX7_copiesNames_11 rfl rfl ?_
      obtain ⟨g2, h⟩ := gd_some h
      refine G_lald X hj0 (rg_rs _ _ _) g2 dX7_copiesNames_12 ?_
      obtain ⟨g3, h⟩ := gd_some h
      obtain ⟨x4, ex4, h⟩ := nm_some h
      refine G_last X (T' := rs T 9 x4) hj1 (rg_rs _ _ _) g3 (by rw [rs_rs, ex4]) dX7_copiesNames_13 ?_
      obtain ⟨v5, ev5, h⟩ := nm_some h
      refine G_iinc X (v := v5) (lv' := [(2, .int v5), (0, .ref (xE (gκ g) 9 0 j0)), (1, .ref (xE (gκ g) 9 0 j1))]) 2 dX7_copiesNames_14 rfl (by rw [ev5]; rfl) (by decide) rfl ?_
      refine G_goto X (tgt := 2) dX7_copiesNames_17 (by decide) ?_
      refine G_sub [1, 2, 0] rfl ?_
      exact ih _ _ h
set_option maxRecDepth 20000 in
theorem gX7_copiesNames {g : GX} {T : TT} {j0 : Nat} {j1 : Nat} {m : St}  {res : St} (X : CX g RX7 cX7_copiesNames 3 0 0) (hj0 : kd 9 0 j0 = some (3, lenM j0)) (hj1 : kd 9 0 j1 = some (3, lenM j1)) (hf : FinV g cX7_copiesNames (rs T 9 res)) (h : sX7_copiesNames j0 j1 m = some res) : G g 0 0 (rs T 9 m) 0 [(0, .ref (xE (gκ g) 9 0 j0)), (1, .ref (xE (gκ g) 9 0 j1))] [] := by
  unfold sX7_copiesNames at h
  refine G_iconst X (v := (0 : Int32)) dX7_copiesNames_0 (by decide) ?_
  refine G_istore_n X (lv' := [(2, .int ((0 : Int32))), (0, .ref (xE (gκ g) 9 0 j0)), (1, .ref (xE (gκ g) 9 0 j1))]) dX7_copiesNames_1 rfl (by decide) rfl ?_
  refine G_sub [1, 2, 0] rfl ?_
  exact gX7_copiesNames_b2 X hj0 hj1 hf FU _ _ h
set_option maxRecDepth 20000 in
theorem ct_X7_copiesNames {l : Launch} {κ : KX} {T : TT} {j0 : Nat} {j1 : Nat} {m : St}  {res : St} (hj0 : kd 9 0 j0 = some (3, lenM j0)) (hj1 : kd 9 0 j1 = some (3, lenM j1)) (h : sX7_copiesNames j0 j1 m = some res) : Ct l κ yX7_copiesNames cX7_copiesNames 3 none 0 0 [.ref (xE κ 9 0 j0), .ref (xE κ 9 0 j1)] (rs T 9 m) (rs T 9 res) none := by
  refine Ct_v RX7 rfl (by decide +kernel) (Nat.le_of_ble_eq_true rfl) (fun g hl hκ X hf => ?_)
  subst hl; subst hκ
  exact gX7_copiesNames X hj0 hj1 hf h
set_option maxRecDepth 20000 in
theorem gX7_cellOf {g : GX} {T : TT}   {a0 : Int32} {a1 : Int32} {res : Int32} (X : CX g RX7 cX7_cellOf 2 0 0)  (hf : FinI g cX7_cellOf .int (T) (res)) (h : sX7_cellOf a0 a1 = some res) : G g 0 0 (T) 0 [(0, .int a0), (1, .int a1)] [] := by
  unfold sX7_cellOf at h
  refine G_bipush X (v := (21 : Int32)) dX7_cellOf_0 (by decide) ?_
  refine G_bipush X (v := (43 : Int32)) dX7_cellOf_2 (by decide) ?_
  refine G_iload_n X 0 dX7_cellOf_4 rfl rfl ?_
  refine G_imul X dX7_cellOf_5 ?_
  refine G_iadd X dX7_cellOf_6 ?_
  refine G_iload_n X 1 dX7_cellOf_7 rfl rfl ?_
  refine G_iadd X dX7_cellOf_8 ?_
  obtain rfl := Option.some.inj h
  exact hf _ _ dX7_cellOf_9 rfl
set_option maxRecDepth 20000 in
theorem ct_X7_cellOf {l : Launch} {κ : KX} {T : TT}   {a0 : Int32} {a1 : Int32} {res : Int32}  (h : sX7_cellOf a0 a1 = some res) : Ct l κ yX7_cellOf cX7_cellOf 2 (some .int) 0 0 [.int a0, .int a1] (T) (T) (some (.int (res))) := by
  refine Ct_i RX7 rfl (by decide +kernel) (Nat.le_of_ble_eq_true rfl) (fun g hl hκ X hf => ?_)
  subst hl; subst hκ
  exact gX7_cellOf X  hf h
set_option maxRecDepth 20000 in
theorem gX7_of {g : GX} {T : TT}  {m : St} {a1 : Int32} {a2 : Int32} {res : Int32} (X : CX g RX7 cX7_of 3 1 21)  (hf : FinI g cX7_of .int (rs T 9 m) (res)) (h : sX7_of m a1 a2 = some res) : G g 0 0 (rs T 9 m) 0 [(0, .ref (xE (gκ g) 9 0 0)), (1, .int a1), (2, .int a2)] [] := by
  unfold sX7_of at h
  refine G_aload_n X 0 dX7_of_0 rfl rfl ?_
  refine f_X7_20 X rfl rfl dX7_of_1 ?_
  refine G_iload_n X 1 dX7_of_4 rfl rfl ?_
  refine G_iload_n X 2 dX7_of_5 rfl rfl ?_
  obtain ⟨q1, hq1, h⟩ := bd_some h
  refine G_callS X (As := [.int a1, .int a2]) (rest := [.ref (xE (gκ g) 9 0 2)]) (T' := rs T 9 m) (st2 := [.int q1, .ref (xE (gκ g) 9 0 2)]) (ct_X7_cellOf (l := g.2.1) (κ := gκ g)   hq1) cal_X7_cellOf wM_X7_145 wT_X7_cellOf (by decide) rfl rfl (Nat.le_of_ble_eq_true rfl) ⟨Nat.zero_le _, Nat.zero_le _⟩ dX7_of_6 rfl ?_
  obtain ⟨g2, h⟩ := gd_some h
  refine G_iald X rfl (rg_rs _ _ _) g2 dX7_of_9 ?_
  obtain rfl := Option.some.inj h
  exact hf _ _ dX7_of_10 rfl
set_option maxRecDepth 20000 in
theorem ct_X7_of {l : Launch} {κ : KX} {T : TT}  {m : St} {a1 : Int32} {a2 : Int32} {res : Int32}  (h : sX7_of m a1 a2 = some res) : Ct l κ yX7_of cX7_of 3 (some .int) 1 21 [.ref (xE κ 9 0 0), .int a1, .int a2] (rs T 9 m) (rs T 9 m) (some (.int (res))) := by
  refine Ct_i RX7 rfl (by decide +kernel) (Nat.le_of_ble_eq_true rfl) (fun g hl hκ X hf => ?_)
  subst hl; subst hκ
  exact gX7_of X  hf h
set_option maxRecDepth 20000 in
theorem gX7_sets {g : GX} {T : TT}  {m : St} {a1 : Int32} {a2 : Int32} {a3 : Int32} {res : St} (X : CX g RX7 cX7_sets 4 1 21)  (hf : FinV g cX7_sets (rs T 9 res)) (h : sX7_sets m a1 a2 a3 = some res) : G g 0 0 (rs T 9 m) 0 [(0, .ref (xE (gκ g) 9 0 0)), (1, .int a1), (2, .int a2), (3, .int a3)] [] := by
  unfold sX7_sets at h
  refine G_aload_n X 0 dX7_sets_0 rfl rfl ?_
  refine f_X7_20 X rfl rfl dX7_sets_1 ?_
  refine G_iload_n X 1 dX7_sets_4 rfl rfl ?_
  refine G_iload_n X 2 dX7_sets_5 rfl rfl ?_
  obtain ⟨q1, hq1, h⟩ := bd_some h
  refine G_callS X (As := [.int a1, .int a2]) (rest := [.ref (xE (gκ g) 9 0 2)]) (T' := rs T 9 m) (st2 := [.int q1, .ref (xE (gκ g) 9 0 2)]) (ct_X7_cellOf (l := g.2.1) (κ := gκ g)   hq1) cal_X7_cellOf wM_X7_145 wT_X7_cellOf (by decide) rfl rfl (Nat.le_of_ble_eq_true rfl) ⟨Nat.zero_le _, Nat.zero_le _⟩ dX7_sets_6 rfl ?_
  refine G_iload_n X 3 dX7_sets_9 rfl rfl ?_
  obtain ⟨g2, h⟩ := gd_some h
  obtain ⟨x3, ex3, h⟩ := nm_some h
  refine G_iast X (T' := rs T 9 x3) rfl (rg_rs _ _ _) g2 (by rw [rs_rs, ex3]) dX7_sets_10 ?_
  obtain rfl := Option.some.inj h
  exact hf _ _ dX7_sets_11
set_option maxRecDepth 20000 in
theorem ct_X7_sets {l : Launch} {κ : KX} {T : TT}  {m : St} {a1 : Int32} {a2 : Int32} {a3 : Int32} {res : St}  (h : sX7_sets m a1 a2 a3 = some res) : Ct l κ yX7_sets cX7_sets 4 none 1 21 [.ref (xE κ 9 0 0), .int a1, .int a2, .int a3] (rs T 9 m) (rs T 9 res) none := by
  refine Ct_v RX7 rfl (by decide +kernel) (Nat.le_of_ble_eq_true rfl) (fun g hl hκ X hf => ?_)
  subst hl; subst hκ
  exact gX7_sets X  hf h
set_option maxRecDepth 20000 in
theorem gX7_adds {g : GX} {T : TT}  {m : St} {a1 : Int32} {a2 : Int32} {a3 : Int32} {res : St} (X : CX g RX7 cX7_adds 4 1 21)  (hf : FinV g cX7_adds (rs T 9 res)) (h : sX7_adds m a1 a2 a3 = some res) : G g 0 0 (rs T 9 m) 0 [(0, .ref (xE (gκ g) 9 0 0)), (1, .int a1), (2, .int a2), (3, .int a3)] [] := by
  unfold sX7_adds at h
  refine G_aload_n X 0 dX7_adds_0 rfl rfl ?_
  refine f_X7_20 X rfl rfl dX7_adds_1 ?_
  refine G_iload_n X 1 dX7_adds_4 rfl rfl ?_
  refine G_iload_n X 2 dX7_adds_5 rfl rfl ?_
  obtain ⟨q1, hq1, h⟩ := bd_some h
  refine G_callS X (As := [.int a1, .int a2]) (rest := [.ref (xE (gκ g) 9 0 2)]) (T' := rs T 9 m) (st2 := [.int q1, .ref (xE (gκ g) 9 0 2)]) (ct_X7_cellOf (l := g.2.1) (κ := gκ g)   hq1) cal_X7_cellOf wM_X7_145 wT_X7_cellOf (by decide) rfl rfl (Nat.le_of_ble_eq_true rfl) ⟨Nat.zero_le _, Nat.zero_le _⟩ dX7_adds_6 rfl ?_
  refine G_dup2 X dX7_adds_9 rfl rfl ?_
  obtain ⟨g2, h⟩ := gd_some h
  refine G_iald X rfl (rg_rs _ _ _) g2 dX7_adds_10 ?_
  refine G_iload_n X 3 dX7_adds_11 rfl rfl ?_
  refine G_iadd X dX7_adds_12 ?_
  obtain ⟨g3, h⟩ := gd_some h
  obtain ⟨x4, ex4, h⟩ := nm_some h
  refine G_iast X (T' := rs T 9 x4) rfl (rg_rs _ _ _) g3 (by rw [rs_rs, ex4]) dX7_adds_13 ?_
  obtain rfl := Option.some.inj h
  exact hf _ _ dX7_adds_14
set_option maxRecDepth 20000 in
theorem ct_X7_adds {l : Launch} {κ : KX} {T : TT}  {m : St} {a1 : Int32} {a2 : Int32} {a3 : Int32} {res : St}  (h : sX7_adds m a1 a2 a3 = some res) : Ct l κ yX7_adds cX7_adds 4 none 1 21 [.ref (xE κ 9 0 0), .int a1, .int a2, .int a3] (rs T 9 m) (rs T 9 res) none := by
  refine Ct_v RX7 rfl (by decide +kernel) (Nat.le_of_ble_eq_true rfl) (fun g hl hκ X hf => ?_)
  subst hl; subst hκ
  exact gX7_adds X  hf h
set_option maxRecDepth 20000 in
theorem gX7_clears_b39 {g : GX} {T : TT}   {res : St} {k24 : St → Int32 → Option (St)} (X : CX g RX7 cX7_clears 3 2 44)  (hf : FinV g cX7_clears (rs T 9 res)) (hk24 : ∀ (m' : St) (a1' : Int32), k24 m' a1' = some res → G g 0 0 (rs T 9 m') 24 [(0, .ref (xE (gκ g) 9 0 0)), (1, .int a1')] []) : ∀ (n : Nat) (m : St) (a1 : Int32) (a2 : Int32) (h : sX7_clears_b39 n k24 m a1 a2 = some res), G g 0 0 (rs T 9 m) 39 [(0, .ref (xE (gκ g) 9 0 0)), (1, .int a1), (2, .int a2)] [] := by
  intro n
  induction n with
  | zero => intro m a1 a2 h; unfold sX7_clears_b39 at h; cases h
  | succ n ih =>
    intro m a1 a2 h
    unfold sX7_clears_b39 at h
    refine G_iload_n X 2 dX7_clears_39 rfl rfl ?_
    refine G_bipush X (v := (8 : Int32)) dX7_clears_40 (by decide) ?_
    refine G_icmp_ge X (tgt := 71) dX7_clears_42 (by decide) (fun c22 => ?_) (fun c22 => ?_)
    · have h := it_t c22 h
      obtain ⟨v23, ev23, h⟩ := nm_some h
      refine G_iinc X (v := v23) (lv' := [(1, .int v23), (0, .ref (xE (gκ g) 9 0 0)), (2, .int a2)]) 1 dX7_clears_71 rfl (by rw [ev23]; rfl) (by decide) rfl ?_
      refine G_goto X (tgt := 24) dX7_clears_74 (by decide) ?_
      refine G_sub [1, 0] rfl ?_
      exact hk24 _ _ h
    · have h := it_f c22 h
      refine G_aload_n X 0 dX7_clears_45 rfl rfl ?_
      refine G_iload_n X 1 dX7_clears_46 rfl rfl ?_
      refine G_bipush X (v := (19 : Int32)) dX7_clears_47 (by decide) ?_
      refine G_iload_n X 2 dX7_clears_49 rfl rfl ?_
      refine G_iadd X dX7_clears_50 ?_
      refine G_iconst X (v := (-1 : Int32)) dX7_clears_51 (by decide) ?_
      obtain ⟨q24, hq24, h⟩ := bd_some h
      refine G_callV X (As := [.int a1, .int (((19 : Int32)) + a2), .int ((-1 : Int32))]) (rest := []) (T' := rs T 9 q24) (st2 := []) (ct_X7_sets (l := g.2.1) (κ := gκ g)   hq24) cal_X7_sets wM_X7_148 wI_X7_sets wS_X7_sets rfl rfl (by decide) rfl rfl (Nat.le_of_ble_eq_true rfl) ⟨Nat.zero_le _, Nat.zero_le _⟩ dX7_clears_52 rfl ?_
      refine G_aload_n X 0 dX7_clears_55 rfl rfl ?_
      refine G_iload_n X 1 dX7_clears_56 rfl rfl ?_
      refine G_bipush X (v := (35 : Int32)) dX7_clears_57 (by decide) ?_
      refine G_iload_n X 2 dX7_clears_59 rfl rfl ?_
      refine G_iadd X dX7_clears_60 ?_
      refine G_iconst X (v := (5 : Int32)) dX7_clears_61 (by decide) ?_
      obtain ⟨q25, hq25, h⟩ := bd_some h
      refine G_callV X (As := [.int a1, .int (((35 : Int32)) + a2), .int ((5 : Int32))]) (rest := []) (T' := rs T 9 q25) (st2 := []) (ct_X7_sets (l := g.2.1) (κ := gκ g)   hq25) cal_X7_sets wM_X7_148 wI_X7_sets wS_X7_sets rfl rfl (by decide) rfl rfl (Nat.le_of_ble_eq_true rfl) ⟨Nat.zero_le _, Nat.zero_le _⟩ dX7_clears_62 rfl ?_
      obtain ⟨v26, ev26, h⟩ := nm_some h
      refine G_iinc X (v := v26) (lv' := [(2, .int v26), (0, .ref (xE (gκ g) 9 0 0)), (1, .int a1)]) 2 dX7_clears_65 rfl (by rw [ev26]; rfl) (by decide) rfl ?_
      refine G_goto X (tgt := 39) dX7_clears_68 (by decide) ?_
      refine G_sub [1, 2, 0] rfl ?_
      exact ih _ _ _ h
set_option maxRecDepth 20000 in
theorem gX7_clears_b24 {g : GX} {T : TT}   {res : St}  (X : CX g RX7 cX7_clears 3 2 44)  (hf : FinV g cX7_clears (rs T 9 res))  : ∀ (n : Nat) (m : St) (a1 : Int32) (h : sX7_clears_b24 n  m a1 = some res), G g 0 0 (rs T 9 m) 24 [(0, .ref (xE (gκ g) 9 0 0)), (1, .int a1)] [] := by
  intro n
  induction n with
  | zero => intro m a1 h; unfold sX7_clears_b24 at h; cases h
  | succ n ih =>
    intro m a1 h
    unfold sX7_clears_b24 at h
    refine G_iload_n X 1 dX7_clears_24 rfl rfl ?_
    refine G_bipush X (v := (8 : Int32)) dX7_clears_25 (by decide) ?_
    refine G_icmp_ge X (tgt := 77) dX7_clears_27 (by decide) (fun c5 => ?_) (fun c5 => ?_)
    · have h := it_t c5 h
      refine G_aload_n X 0 dX7_clears_77 rfl rfl ?_
      refine f_X7_20 X rfl rfl dX7_clears_78 ?_
      refine G_bipush X (v := (7 : Int32)) dX7_clears_81 (by decide) ?_
      refine G_iconst X (v := (1 : Int32)) dX7_clears_83 (by decide) ?_
      obtain ⟨g6, h⟩ := gd_some h
      obtain ⟨x7, ex7, h⟩ := nm_some h
      refine G_iast X (T' := rs T 9 x7) rfl (rg_rs _ _ _) g6 (by rw [rs_rs, ex7]) dX7_clears_84 ?_
      refine G_aload_n X 0 dX7_clears_85 rfl rfl ?_
      refine f_X7_20 X rfl rfl dX7_clears_86 ?_
      refine G_iconst X (v := (2 : Int32)) dX7_clears_89 (by decide) ?_
      refine G_iconst X (v := (3 : Int32)) dX7_clears_90 (by decide) ?_
      obtain ⟨g8, h⟩ := gd_some h
      obtain ⟨x9, ex9, h⟩ := nm_some h
      refine G_iast X (T' := rs T 9 x9) rfl (rg_rs _ _ _) g8 (by rw [rs_rs, ex9]) dX7_clears_91 ?_
      refine G_aload_n X 0 dX7_clears_92 rfl rfl ?_
      refine f_X7_20 X rfl rfl dX7_clears_93 ?_
      refine G_iconst X (v := (3 : Int32)) dX7_clears_96 (by decide) ?_
      refine G_bipush X (v := (99 : Int32)) dX7_clears_97 (by decide) ?_
      obtain ⟨g10, h⟩ := gd_some h
      obtain ⟨x11, ex11, h⟩ := nm_some h
      refine G_iast X (T' := rs T 9 x11) rfl (rg_rs _ _ _) g10 (by rw [rs_rs, ex11]) dX7_clears_99 ?_
      refine G_aload_n X 0 dX7_clears_100 rfl rfl ?_
      refine f_X7_20 X rfl rfl dX7_clears_101 ?_
      refine G_bipush X (v := (8 : Int32)) dX7_clears_104 (by decide) ?_
      refine G_iconst X (v := (1 : Int32)) dX7_clears_106 (by decide) ?_
      obtain ⟨g12, h⟩ := gd_some h
      obtain ⟨x13, ex13, h⟩ := nm_some h
      refine G_iast X (T' := rs T 9 x13) rfl (rg_rs _ _ _) g12 (by rw [rs_rs, ex13]) dX7_clears_107 ?_
      refine G_aload_n X 0 dX7_clears_108 rfl rfl ?_
      refine f_X7_20 X rfl rfl dX7_clears_109 ?_
      refine G_bipush X (v := (9 : Int32)) dX7_clears_112 (by decide) ?_
      refine G_iconst X (v := (5 : Int32)) dX7_clears_114 (by decide) ?_
      obtain ⟨g14, h⟩ := gd_some h
      obtain ⟨x15, ex15, h⟩ := nm_some h
      refine G_iast X (T' := rs T 9 x15) rfl (rg_rs _ _ _) g14 (by rw [rs_rs, ex15]) dX7_clears_115 ?_
      refine G_aload_n X 0 dX7_clears_116 rfl rfl ?_
      refine f_X7_20 X rfl rfl dX7_clears_117 ?_
      refine G_bipush X (v := (10 : Int32)) dX7_clears_120 (by decide) ?_
      refine G_iconst X (v := (3 : Int32)) dX7_clears_122 (by decide) ?_
      obtain ⟨g16, h⟩ := gd_some h
      obtain ⟨x17, ex17, h⟩ := nm_some h
      refine G_iast X (T' := rs T 9 x17) rfl (rg_rs _ _ _) g16 (by rw [rs_rs, ex17]) dX7_clears_123 ?_
      refine G_aload_n X 0 dX7_clears_124 rfl rfl ?_
      refine f_X7_20 X rfl rfl dX7_clears_125 ?_
      refine G_bipush X (v := (11 : Int32)) dX7_clears_128 (by decide) ?_
      refine G_bipush X (v := (9 : Int32)) dX7_clears_130 (by decide) ?_
      obtain ⟨g18, h⟩ := gd_some h
      obtain ⟨x19, ex19, h⟩ := nm_some h
      refine G_iast X (T' := rs T 9 x19) rfl (rg_rs _ _ _) g18 (by rw [rs_rs, ex19]) dX7_clears_132 ?_
      obtain rfl := Option.some.inj h
      exact hf _ _ dX7_clears_133
    · have h := it_f c5 h
      refine G_aload_n X 0 dX7_clears_30 rfl rfl ?_
      refine f_X7_35 X rfl rfl dX7_clears_31 ?_
      refine G_iload_n X 1 dX7_clears_34 rfl rfl ?_
      refine G_lconst X (v := (0 : Int64)) dX7_clears_35 (by decide) ?_
      obtain ⟨g20, h⟩ := gd_some h
      obtain ⟨x21, ex21, h⟩ := nm_some h
      refine G_last X (T' := rs T 9 x21) rfl (rg_rs _ _ _) g20 (by rw [rs_rs, ex21]) dX7_clears_36 ?_
      refine G_iconst X (v := (0 : Int32)) dX7_clears_37 (by decide) ?_
      refine G_istore_n X (lv' := [(2, .int ((0 : Int32))), (0, .ref (xE (gκ g) 9 0 0)), (1, .int a1)]) dX7_clears_38 rfl (by decide) rfl ?_
      refine G_sub [1, 2, 0] rfl ?_
      exact gX7_clears_b39 X hf (fun _ _ h => ih _ _ h) FU _ _ _ h
set_option maxRecDepth 20000 in
theorem gX7_clears_b2 {g : GX} {T : TT}   {res : St}  (X : CX g RX7 cX7_clears 3 2 44)  (hf : FinV g cX7_clears (rs T 9 res))  : ∀ (n : Nat) (m : St) (a1 : Int32) (h : sX7_clears_b2 n  m a1 = some res), G g 0 0 (rs T 9 m) 2 [(0, .ref (xE (gκ g) 9 0 0)), (1, .int a1)] [] := by
  intro n
  induction n with
  | zero => intro m a1 h; unfold sX7_clears_b2 at h; cases h
  | succ n ih =>
    intro m a1 h
    unfold sX7_clears_b2 at h
    refine G_iload_n X 1 dX7_clears_2 rfl rfl ?_
    refine G_sipush X (v := (365 : Int32)) dX7_clears_3 (by decide) ?_
    refine G_icmp_ge X (tgt := 22) dX7_clears_6 (by decide) (fun c1 => ?_) (fun c1 => ?_)
    · have h := it_t c1 h
      refine G_iconst X (v := (0 : Int32)) dX7_clears_22 (by decide) ?_
      refine G_istore_n X (lv' := [(1, .int ((0 : Int32))), (0, .ref (xE (gκ g) 9 0 0))]) dX7_clears_23 rfl (by decide) rfl ?_
      refine G_sub [1, 0] rfl ?_
      exact gX7_clears_b24 X hf FU _ _ h
    · have h := it_f c1 h
      refine G_aload_n X 0 dX7_clears_9 rfl rfl ?_
      refine f_X7_20 X rfl rfl dX7_clears_10 ?_
      refine G_iload_n X 1 dX7_clears_13 rfl rfl ?_
      refine G_iconst X (v := (0 : Int32)) dX7_clears_14 (by decide) ?_
      obtain ⟨g2, h⟩ := gd_some h
      obtain ⟨x3, ex3, h⟩ := nm_some h
      refine G_iast X (T' := rs T 9 x3) rfl (rg_rs _ _ _) g2 (by rw [rs_rs, ex3]) dX7_clears_15 ?_
      obtain ⟨v4, ev4, h⟩ := nm_some h
      refine G_iinc X (v := v4) (lv' := [(1, .int v4), (0, .ref (xE (gκ g) 9 0 0))]) 1 dX7_clears_16 rfl (by rw [ev4]; rfl) (by decide) rfl ?_
      refine G_goto X (tgt := 2) dX7_clears_19 (by decide) ?_
      refine G_sub [1, 0] rfl ?_
      exact ih _ _ h
set_option maxRecDepth 20000 in
theorem gX7_clears {g : GX} {T : TT}  {m : St}  {res : St} (X : CX g RX7 cX7_clears 3 2 44)  (hf : FinV g cX7_clears (rs T 9 res)) (h : sX7_clears m = some res) : G g 0 0 (rs T 9 m) 0 [(0, .ref (xE (gκ g) 9 0 0))] [] := by
  unfold sX7_clears at h
  refine G_iconst X (v := (0 : Int32)) dX7_clears_0 (by decide) ?_
  refine G_istore_n X (lv' := [(1, .int ((0 : Int32))), (0, .ref (xE (gκ g) 9 0 0))]) dX7_clears_1 rfl (by decide) rfl ?_
  refine G_sub [1, 0] rfl ?_
  exact gX7_clears_b2 X hf FU _ _ h
set_option maxRecDepth 20000 in
theorem ct_X7_clears {l : Launch} {κ : KX} {T : TT}  {m : St}  {res : St}  (h : sX7_clears m = some res) : Ct l κ yX7_clears cX7_clears 3 none 2 44 [.ref (xE κ 9 0 0)] (rs T 9 m) (rs T 9 res) none := by
  refine Ct_v RX7 rfl (by decide +kernel) (Nat.le_of_ble_eq_true rfl) (fun g hl hκ X hf => ?_)
  subst hl; subst hκ
  exact gX7_clears X  hf h
set_option maxRecDepth 20000 in
theorem gX7_laysAside {g : GX} {T : TT}  {m : St}  {res : St} (X : CX g RX7 cX7_laysAside 1 1 24)  (hf : FinV g cX7_laysAside (rs T 9 res)) (h : sX7_laysAside m = some res) : G g 0 0 (rs T 9 m) 0 [(0, .ref (xE (gκ g) 9 0 0))] [] := by
  unfold sX7_laysAside at h
  refine G_aload_n X 0 dX7_laysAside_0 rfl rfl ?_
  refine f_X7_20 X rfl rfl dX7_laysAside_1 ?_
  refine G_iconst X (v := (0 : Int32)) dX7_laysAside_4 (by decide) ?_
  refine G_aload_n X 0 dX7_laysAside_5 rfl rfl ?_
  refine f_X7_26 X rfl rfl dX7_laysAside_6 ?_
  refine G_iconst X (v := (0 : Int32)) dX7_laysAside_9 (by decide) ?_
  obtain ⟨q1, hq1, h⟩ := bd_some h
  refine G_callS X (As := [.ref (xE (gκ g) 9 0 2), .int ((0 : Int32)), .ref (xE (gκ g) 9 0 4), .int ((0 : Int32))]) (rest := []) (T' := rs T 9 q1) (st2 := []) (ct_X7_copiesRow (l := g.2.1) (κ := gκ g)  rfl rfl hq1) cal_X7_copiesRow wM_X7_152 wT_X7_copiesRow (by decide) rfl rfl (Nat.le_of_ble_eq_true rfl) ⟨Nat.zero_le _, Nat.zero_le _⟩ dX7_laysAside_10 rfl ?_
  obtain rfl := Option.some.inj h
  exact hf _ _ dX7_laysAside_13
set_option maxRecDepth 20000 in
theorem ct_X7_laysAside {l : Launch} {κ : KX} {T : TT}  {m : St}  {res : St}  (h : sX7_laysAside m = some res) : Ct l κ yX7_laysAside cX7_laysAside 1 none 1 24 [.ref (xE κ 9 0 0)] (rs T 9 m) (rs T 9 res) none := by
  refine Ct_v RX7 rfl (by decide +kernel) (Nat.le_of_ble_eq_true rfl) (fun g hl hκ X hf => ?_)
  subst hl; subst hκ
  exact gX7_laysAside X  hf h
set_option maxRecDepth 20000 in
theorem gX7_keeps_b55 {g : GX} {T : TT}  {m : St}  {res : St}  (X : CX g RX7 cX7_keeps 2 1 24)  (hf : FinV g cX7_keeps (rs T 9 res))   (h : sX7_keeps_b55  m = some res) : G g 0 0 (rs T 9 m) 55 [(0, .ref (xE (gκ g) 9 0 0))] [] := by
  unfold sX7_keeps_b55 at h
  refine G_aload_n X 0 dX7_keeps_55 rfl rfl ?_
  refine f_X7_26 X rfl rfl dX7_keeps_56 ?_
  refine G_iconst X (v := (0 : Int32)) dX7_keeps_59 (by decide) ?_
  refine G_aload_n X 0 dX7_keeps_60 rfl rfl ?_
  refine f_X7_32 X rfl rfl dX7_keeps_61 ?_
  refine G_sipush X (v := (365 : Int32)) dX7_keeps_64 (by decide) ?_
  refine G_aload_n X 0 dX7_keeps_67 rfl rfl ?_
  refine f_X7_156 X rfl (rg_rs _ _ _) dX7_keeps_68 ?_
  refine G_imul X dX7_keeps_71 ?_
  obtain ⟨q3, hq3, h⟩ := bd_some h
  refine G_callS X (As := [.ref (xE (gκ g) 9 0 4), .int ((0 : Int32)), .ref (xE (gκ g) 9 0 6), .int (((365 : Int32)) * (gI m 0 0 21))]) (rest := []) (T' := rs T 9 q3) (st2 := []) (ct_X7_copiesRow (l := g.2.1) (κ := gκ g)  rfl rfl hq3) cal_X7_copiesRow wM_X7_152 wT_X7_copiesRow (by decide) rfl rfl (Nat.le_of_ble_eq_true rfl) ⟨Nat.zero_le _, Nat.zero_le _⟩ dX7_keeps_72 rfl ?_
  refine G_aload_n X 0 dX7_keeps_75 rfl rfl ?_
  refine G_dup X dX7_keeps_76 rfl ?_
  refine f_X7_156 X rfl (rg_rs _ _ _) dX7_keeps_77 ?_
  refine G_iconst X (v := (1 : Int32)) dX7_keeps_80 (by decide) ?_
  refine G_iadd X dX7_keeps_81 ?_
  obtain ⟨x4, ex4, h⟩ := nm_some h
  refine p_X7_156 X (T' := rs T 9 x4) rfl (rg_rs _ _ _)  (by rw [rs_rs, ex4]) dX7_keeps_82 ?_
  obtain rfl := Option.some.inj h
  exact hf _ _ dX7_keeps_85
set_option maxRecDepth 20000 in
theorem gX7_keeps_b21 {g : GX} {T : TT}   {res : St}  (X : CX g RX7 cX7_keeps 2 1 24)  (hf : FinV g cX7_keeps (rs T 9 res))  : ∀ (n : Nat) (m : St) (a1 : Int32) (h : sX7_keeps_b21 n  m a1 = some res), G g 0 0 (rs T 9 m) 21 [(0, .ref (xE (gκ g) 9 0 0)), (1, .int a1)] [] := by
  intro n
  induction n with
  | zero => intro m a1 h; unfold sX7_keeps_b21 at h; cases h
  | succ n ih =>
    intro m a1 h
    unfold sX7_keeps_b21 at h
    refine G_iload_n X 1 dX7_keeps_21 rfl rfl ?_
    refine G_sipush X (v := (365 : Int32)) dX7_keeps_22 (by decide) ?_
    refine G_aload_n X 0 dX7_keeps_25 rfl rfl ?_
    refine f_X7_156 X rfl (rg_rs _ _ _) dX7_keeps_26 ?_
    refine G_imul X dX7_keeps_29 ?_
    refine G_icmp_ge X (tgt := 55) dX7_keeps_30 (by decide) (fun c5 => ?_) (fun c5 => ?_)
    · have h := it_t c5 h
      refine G_sub [0] rfl ?_
      exact gX7_keeps_b55 X hf h
    · have h := it_f c5 h
      refine G_aload_n X 0 dX7_keeps_33 rfl rfl ?_
      refine f_X7_32 X rfl rfl dX7_keeps_34 ?_
      refine G_iload_n X 1 dX7_keeps_37 rfl rfl ?_
      refine G_aload_n X 0 dX7_keeps_38 rfl rfl ?_
      refine f_X7_32 X rfl rfl dX7_keeps_39 ?_
      refine G_iload_n X 1 dX7_keeps_42 rfl rfl ?_
      refine G_sipush X (v := (365 : Int32)) dX7_keeps_43 (by decide) ?_
      refine G_iadd X dX7_keeps_46 ?_
      obtain ⟨g6, h⟩ := gd_some h
      refine G_iald X rfl (rg_rs _ _ _) g6 dX7_keeps_47 ?_
      obtain ⟨v7, ev7, h⟩ := nm_some h
      refine G_nmi ev7 ?_
      obtain ⟨g8, h⟩ := gd_some h
      obtain ⟨x9, ex9, h⟩ := nm_some h
      refine G_iast X (T' := rs T 9 x9) rfl (rg_rs _ _ _) g8 (by rw [rs_rs, ex9]) dX7_keeps_48 ?_
      obtain ⟨v10, ev10, h⟩ := nm_some h
      refine G_iinc X (v := v10) (lv' := [(1, .int v10), (0, .ref (xE (gκ g) 9 0 0))]) 1 dX7_keeps_49 rfl (by rw [ev10]; rfl) (by decide) rfl ?_
      refine G_goto X (tgt := 21) dX7_keeps_52 (by decide) ?_
      refine G_sub [1, 0] rfl ?_
      exact ih _ _ h
set_option maxRecDepth 20000 in
theorem gX7_keeps {g : GX} {T : TT}  {m : St}  {res : St} (X : CX g RX7 cX7_keeps 2 1 24)  (hf : FinV g cX7_keeps (rs T 9 res)) (h : sX7_keeps m = some res) : G g 0 0 (rs T 9 m) 0 [(0, .ref (xE (gκ g) 9 0 0))] [] := by
  unfold sX7_keeps at h
  refine G_aload_n X 0 dX7_keeps_0 rfl rfl ?_
  refine f_X7_156 X rfl (rg_rs _ _ _) dX7_keeps_1 ?_
  refine G_bipush X (v := (6 : Int32)) dX7_keeps_4 (by decide) ?_
  refine G_icmp_ne X (tgt := 55) dX7_keeps_6 (by decide) (fun c1 => ?_) (fun c1 => ?_)
  · have h := it_t c1 h
    exact gX7_keeps_b55 X hf h
  · have h := it_f (fun k => k c1) h
    refine G_aload_n X 0 dX7_keeps_9 rfl rfl ?_
    refine G_dup X dX7_keeps_10 rfl ?_
    refine f_X7_156 X rfl (rg_rs _ _ _) dX7_keeps_11 ?_
    refine G_iconst X (v := (1 : Int32)) dX7_keeps_14 (by decide) ?_
    refine G_isub X dX7_keeps_15 ?_
    obtain ⟨x2, ex2, h⟩ := nm_some h
    refine p_X7_156 X (T' := rs T 9 x2) rfl (rg_rs _ _ _)  (by rw [rs_rs, ex2]) dX7_keeps_16 ?_
    refine G_iconst X (v := (0 : Int32)) dX7_keeps_19 (by decide) ?_
    refine G_istore_n X (lv' := [(1, .int ((0 : Int32))), (0, .ref (xE (gκ g) 9 0 0))]) dX7_keeps_20 rfl (by decide) rfl ?_
    refine G_sub [1, 0] rfl ?_
    exact gX7_keeps_b21 X hf FU _ _ h
set_option maxRecDepth 20000 in
theorem ct_X7_keeps {l : Launch} {κ : KX} {T : TT}  {m : St}  {res : St}  (h : sX7_keeps m = some res) : Ct l κ yX7_keeps cX7_keeps 2 none 1 24 [.ref (xE κ 9 0 0)] (rs T 9 m) (rs T 9 res) none := by
  refine Ct_v RX7 rfl (by decide +kernel) (Nat.le_of_ble_eq_true rfl) (fun g hl hκ X hf => ?_)
  subst hl; subst hκ
  exact gX7_keeps X  hf h
set_option maxRecDepth 20000 in
theorem gX7_kept {g : GX} {T : TT}  {m : St} {a1 : Int32} {res : St × Int32} (X : CX g RX7 cX7_kept 2 2 45)  (hf : FinI g cX7_kept .int (rs T 9 res.1) (res.2)) (h : sX7_kept m a1 = some res) : G g 0 0 (rs T 9 m) 0 [(0, .ref (xE (gκ g) 9 0 0)), (1, .int a1)] [] := by
  unfold sX7_kept at h
  refine G_aload_n X 0 dX7_kept_0 rfl rfl ?_
  obtain ⟨q1, hq1, h⟩ := bd_some h
  refine G_callV X (As := []) (rest := []) (T' := rs T 9 q1) (st2 := []) (ct_X7_keeps (l := g.2.1) (κ := gκ g)   hq1) cal_X7_keeps wM_X7_159 wI_X7_keeps wS_X7_keeps rfl rfl (by decide) rfl rfl (Nat.le_of_ble_eq_true rfl) ⟨Nat.zero_le _, Nat.zero_le _⟩ dX7_kept_1 rfl ?_
  refine G_iload_n X 1 dX7_kept_4 rfl rfl ?_
  obtain rfl := Option.some.inj h
  exact hf _ _ dX7_kept_5 rfl
set_option maxRecDepth 20000 in
theorem ct_X7_kept {l : Launch} {κ : KX} {T : TT}  {m : St} {a1 : Int32} {res : St × Int32}  (h : sX7_kept m a1 = some res) : Ct l κ yX7_kept cX7_kept 2 (some .int) 2 45 [.ref (xE κ 9 0 0), .int a1] (rs T 9 m) (rs T 9 res.1) (some (.int (res.2))) := by
  refine Ct_i RX7 rfl (by decide +kernel) (Nat.le_of_ble_eq_true rfl) (fun g hl hκ X hf => ?_)
  subst hl; subst hκ
  exact gX7_kept X  hf h
set_option maxRecDepth 20000 in
theorem gX7_undo {g : GX} {T : TT}  {m : St}  {res : St × Int32} (X : CX g RX7 cX7_undo 1 1 24)  (hf : FinI g cX7_undo .int (rs T 9 res.1) (res.2)) (h : sX7_undo m = some res) : G g 0 0 (rs T 9 m) 0 [(0, .ref (xE (gκ g) 9 0 0))] [] := by
  unfold sX7_undo at h
  refine G_aload_n X 0 dX7_undo_0 rfl rfl ?_
  refine G_iconst X (v := (0 : Int32)) dX7_undo_1 (by decide) ?_
  obtain ⟨x1, ex1, h⟩ := nm_some h
  refine p_X7_66 X (T' := rs T 9 x1) rfl (rg_rs _ _ _)  (by rw [rs_rs, ex1]) dX7_undo_2 ?_
  refine G_aload_n X 0 dX7_undo_5 rfl rfl ?_
  refine f_X7_156 X rfl (rg_rs _ _ _) dX7_undo_6 ?_
  refine G_if_ne X (tgt := 14) dX7_undo_9 (by decide) (fun c2 => ?_) (fun c2 => ?_)
  · have h := it_t c2 h
    refine G_aload_n X 0 dX7_undo_14 rfl rfl ?_
    refine G_dup X dX7_undo_15 rfl ?_
    refine f_X7_156 X rfl (rg_rs _ _ _) dX7_undo_16 ?_
    refine G_iconst X (v := (1 : Int32)) dX7_undo_19 (by decide) ?_
    refine G_isub X dX7_undo_20 ?_
    obtain ⟨x3, ex3, h⟩ := nm_some h
    refine p_X7_156 X (T' := rs T 9 x3) rfl (rg_rs _ _ _)  (by rw [rs_rs, ex3]) dX7_undo_21 ?_
    refine G_aload_n X 0 dX7_undo_24 rfl rfl ?_
    refine f_X7_32 X rfl rfl dX7_undo_25 ?_
    refine G_sipush X (v := (365 : Int32)) dX7_undo_28 (by decide) ?_
    refine G_aload_n X 0 dX7_undo_31 rfl rfl ?_
    refine f_X7_156 X rfl (rg_rs _ _ _) dX7_undo_32 ?_
    refine G_imul X dX7_undo_35 ?_
    refine G_aload_n X 0 dX7_undo_36 rfl rfl ?_
    refine f_X7_20 X rfl rfl dX7_undo_37 ?_
    refine G_iconst X (v := (0 : Int32)) dX7_undo_40 (by decide) ?_
    obtain ⟨q4, hq4, h⟩ := bd_some h
    refine G_callS X (As := [.ref (xE (gκ g) 9 0 6), .int (((365 : Int32)) * (gI x3 0 0 21)), .ref (xE (gκ g) 9 0 2), .int ((0 : Int32))]) (rest := []) (T' := rs T 9 q4) (st2 := []) (ct_X7_copiesRow (l := g.2.1) (κ := gκ g)  rfl rfl hq4) cal_X7_copiesRow wM_X7_152 wT_X7_copiesRow (by decide) rfl rfl (Nat.le_of_ble_eq_true rfl) ⟨Nat.zero_le _, Nat.zero_le _⟩ dX7_undo_41 rfl ?_
    refine G_aload_n X 0 dX7_undo_44 rfl rfl ?_
    refine f_X7_156 X rfl (rg_rs _ _ _) dX7_undo_45 ?_
    obtain rfl := Option.some.inj h
    exact hf _ _ dX7_undo_48 rfl
  · have h := it_f (fun k => k c2) h
    refine G_iconst X (v := (-1 : Int32)) dX7_undo_12 (by decide) ?_
    obtain rfl := Option.some.inj h
    exact hf _ _ dX7_undo_13 rfl
set_option maxRecDepth 20000 in
theorem ct_X7_undo {l : Launch} {κ : KX} {T : TT}  {m : St}  {res : St × Int32}  (h : sX7_undo m = some res) : Ct l κ yX7_undo cX7_undo 1 (some .int) 1 24 [.ref (xE κ 9 0 0)] (rs T 9 m) (rs T 9 res.1) (some (.int (res.2))) := by
  refine Ct_i RX7 rfl (by decide +kernel) (Nat.le_of_ble_eq_true rfl) (fun g hl hκ X hf => ?_)
  subst hl; subst hκ
  exact gX7_undo X  hf h
set_option maxRecDepth 20000 in
theorem gX7_save {g : GX} {T : TT}  {m : St}  {res : St × Int32} (X : CX g RX7 cX7_save 1 1 24)  (hf : FinI g cX7_save .int (rs T 9 res.1) (res.2)) (h : sX7_save m = some res) : G g 0 0 (rs T 9 m) 0 [(0, .ref (xE (gκ g) 9 0 0))] [] := by
  unfold sX7_save at h
  refine G_aload_n X 0 dX7_save_0 rfl rfl ?_
  refine G_iconst X (v := (0 : Int32)) dX7_save_1 (by decide) ?_
  obtain ⟨x1, ex1, h⟩ := nm_some h
  refine p_X7_66 X (T' := rs T 9 x1) rfl (rg_rs _ _ _)  (by rw [rs_rs, ex1]) dX7_save_2 ?_
  refine G_aload_n X 0 dX7_save_5 rfl rfl ?_
  refine f_X7_20 X rfl rfl dX7_save_6 ?_
  refine G_iconst X (v := (0 : Int32)) dX7_save_9 (by decide) ?_
  refine G_aload_n X 0 dX7_save_10 rfl rfl ?_
  refine f_X7_23 X rfl rfl dX7_save_11 ?_
  refine G_iconst X (v := (0 : Int32)) dX7_save_14 (by decide) ?_
  obtain ⟨q2, hq2, h⟩ := bd_some h
  refine G_callS X (As := [.ref (xE (gκ g) 9 0 2), .int ((0 : Int32)), .ref (xE (gκ g) 9 0 3), .int ((0 : Int32))]) (rest := []) (T' := rs T 9 q2) (st2 := []) (ct_X7_copiesRow (l := g.2.1) (κ := gκ g)  rfl rfl hq2) cal_X7_copiesRow wM_X7_152 wT_X7_copiesRow (by decide) rfl rfl (Nat.le_of_ble_eq_true rfl) ⟨Nat.zero_le _, Nat.zero_le _⟩ dX7_save_15 rfl ?_
  refine G_aload_n X 0 dX7_save_18 rfl rfl ?_
  refine f_X7_35 X rfl rfl dX7_save_19 ?_
  refine G_aload_n X 0 dX7_save_22 rfl rfl ?_
  refine f_X7_39 X rfl rfl dX7_save_23 ?_
  obtain ⟨q3, hq3, h⟩ := bd_some h
  refine G_callS X (As := [.ref (xE (gκ g) 9 0 7), .ref (xE (gκ g) 9 0 8)]) (rest := []) (T' := rs T 9 q3) (st2 := []) (ct_X7_copiesNames (l := g.2.1) (κ := gκ g)  rfl rfl hq3) cal_X7_copiesNames wM_X7_162 wT_X7_copiesNames (by decide) rfl rfl (Nat.le_of_ble_eq_true rfl) ⟨Nat.zero_le _, Nat.zero_le _⟩ dX7_save_26 rfl ?_
  refine G_aload_n X 0 dX7_save_29 rfl rfl ?_
  refine G_iconst X (v := (1 : Int32)) dX7_save_30 (by decide) ?_
  obtain ⟨x4, ex4, h⟩ := nm_some h
  refine p_X7_166 X (T' := rs T 9 x4) rfl (rg_rs _ _ _) (by decide)  (by rw [rs_rs, ex4]) dX7_save_31 ?_
  refine G_aload_n X 0 dX7_save_34 rfl rfl ?_
  refine f_X7_20 X rfl rfl dX7_save_35 ?_
  refine G_iconst X (v := (1 : Int32)) dX7_save_38 (by decide) ?_
  obtain ⟨g5, h⟩ := gd_some h
  refine G_iald X rfl (rg_rs _ _ _) g5 dX7_save_39 ?_
  obtain rfl := Option.some.inj h
  exact hf _ _ dX7_save_40 rfl
set_option maxRecDepth 20000 in
theorem ct_X7_save {l : Launch} {κ : KX} {T : TT}  {m : St}  {res : St × Int32}  (h : sX7_save m = some res) : Ct l κ yX7_save cX7_save 1 (some .int) 1 24 [.ref (xE κ 9 0 0)] (rs T 9 m) (rs T 9 res.1) (some (.int (res.2))) := by
  refine Ct_i RX7 rfl (by decide +kernel) (Nat.le_of_ble_eq_true rfl) (fun g hl hκ X hf => ?_)
  subst hl; subst hκ
  exact gX7_save X  hf h
set_option maxRecDepth 20000 in
theorem gX7_restore {g : GX} {T : TT}  {m : St}  {res : St × Int32} (X : CX g RX7 cX7_restore 1 2 41)  (hf : FinI g cX7_restore .int (rs T 9 res.1) (res.2)) (h : sX7_restore m = some res) : G g 0 0 (rs T 9 m) 0 [(0, .ref (xE (gκ g) 9 0 0))] [] := by
  unfold sX7_restore at h
  refine G_aload_n X 0 dX7_restore_0 rfl rfl ?_
  refine G_aload_n X 0 dX7_restore_1 rfl rfl ?_
  refine f_X7_166 X rfl (rg_rs _ _ _) dX7_restore_2 ?_
  obtain ⟨q1, hq1, h⟩ := bd_some h
  refine G_callV X (As := [.int (gI m 0 0 22)]) (rest := []) (T' := rs T 9 q1.1) (st2 := [.int q1.2]) (ct_X7_goes (l := g.2.1) (κ := gκ g)   hq1) cal_X7_goes wM_X7_76 wI_X7_goes wS_X7_goes rfl rfl (by decide) rfl rfl (Nat.le_of_ble_eq_true rfl) ⟨Nat.zero_le _, Nat.zero_le _⟩ dX7_restore_5 rfl ?_
  refine G_if_ne X (tgt := 13) dX7_restore_8 (by decide) (fun c2 => ?_) (fun c2 => ?_)
  · have h := it_t c2 h
    refine G_aload_n X 0 dX7_restore_13 rfl rfl ?_
    refine f_X7_23 X rfl rfl dX7_restore_14 ?_
    refine G_iconst X (v := (0 : Int32)) dX7_restore_17 (by decide) ?_
    refine G_aload_n X 0 dX7_restore_18 rfl rfl ?_
    refine f_X7_20 X rfl rfl dX7_restore_19 ?_
    refine G_iconst X (v := (0 : Int32)) dX7_restore_22 (by decide) ?_
    obtain ⟨q3, hq3, h⟩ := bd_some h
    refine G_callS X (As := [.ref (xE (gκ g) 9 0 3), .int ((0 : Int32)), .ref (xE (gκ g) 9 0 2), .int ((0 : Int32))]) (rest := []) (T' := rs T 9 q3) (st2 := []) (ct_X7_copiesRow (l := g.2.1) (κ := gκ g)  rfl rfl hq3) cal_X7_copiesRow wM_X7_152 wT_X7_copiesRow (by decide) rfl rfl (Nat.le_of_ble_eq_true rfl) ⟨Nat.zero_le _, Nat.zero_le _⟩ dX7_restore_23 rfl ?_
    refine G_aload_n X 0 dX7_restore_26 rfl rfl ?_
    refine f_X7_39 X rfl rfl dX7_restore_27 ?_
    refine G_aload_n X 0 dX7_restore_30 rfl rfl ?_
    refine f_X7_35 X rfl rfl dX7_restore_31 ?_
    obtain ⟨q4, hq4, h⟩ := bd_some h
    refine G_callS X (As := [.ref (xE (gκ g) 9 0 8), .ref (xE (gκ g) 9 0 7)]) (rest := []) (T' := rs T 9 q4) (st2 := []) (ct_X7_copiesNames (l := g.2.1) (κ := gκ g)  rfl rfl hq4) cal_X7_copiesNames wM_X7_162 wT_X7_copiesNames (by decide) rfl rfl (Nat.le_of_ble_eq_true rfl) ⟨Nat.zero_le _, Nat.zero_le _⟩ dX7_restore_34 rfl ?_
    refine G_aload_n X 0 dX7_restore_37 rfl rfl ?_
    refine G_iconst X (v := (0 : Int32)) dX7_restore_38 (by decide) ?_
    obtain ⟨x5, ex5, h⟩ := nm_some h
    refine p_X7_156 X (T' := rs T 9 x5) rfl (rg_rs _ _ _)  (by rw [rs_rs, ex5]) dX7_restore_39 ?_
    refine G_aload_n X 0 dX7_restore_42 rfl rfl ?_
    refine f_X7_20 X rfl rfl dX7_restore_43 ?_
    refine G_iconst X (v := (1 : Int32)) dX7_restore_46 (by decide) ?_
    obtain ⟨g6, h⟩ := gd_some h
    refine G_iald X rfl (rg_rs _ _ _) g6 dX7_restore_47 ?_
    obtain rfl := Option.some.inj h
    exact hf _ _ dX7_restore_48 rfl
  · have h := it_f (fun k => k c2) h
    refine G_iconst X (v := (0 : Int32)) dX7_restore_11 (by decide) ?_
    obtain rfl := Option.some.inj h
    exact hf _ _ dX7_restore_12 rfl
set_option maxRecDepth 20000 in
theorem ct_X7_restore {l : Launch} {κ : KX} {T : TT}  {m : St}  {res : St × Int32}  (h : sX7_restore m = some res) : Ct l κ yX7_restore cX7_restore 1 (some .int) 2 41 [.ref (xE κ 9 0 0)] (rs T 9 m) (rs T 9 res.1) (some (.int (res.2))) := by
  refine Ct_i RX7 rfl (by decide +kernel) (Nat.le_of_ble_eq_true rfl) (fun g hl hκ X hf => ?_)
  subst hl; subst hκ
  exact gX7_restore X  hf h
set_option maxRecDepth 20000 in
theorem gX7_mustBeWord {g : GX} {T : TT}  {m : St}  {res : St} (X : CX g RX7 cX7_mustBeWord 1 1 21)  (hf : FinV g cX7_mustBeWord (rs T 9 res)) (h : sX7_mustBeWord m = some res) : G g 0 0 (rs T 9 m) 0 [(0, .ref (xE (gκ g) 9 0 0))] [] := by
  unfold sX7_mustBeWord at h
  refine G_aload_n X 0 dX7_mustBeWord_0 rfl rfl ?_
  obtain ⟨q1, hq1, h⟩ := bd_some h
  refine G_callV X (As := []) (rest := []) (T' := rs T 9 m) (st2 := [.int q1]) (ct_X7_isGood (l := g.2.1) (κ := gκ g)   hq1) cal_X7_isGood wM_X7_121 wI_X7_isGood wS_X7_isGood rfl rfl (by decide) rfl rfl (Nat.le_of_ble_eq_true rfl) ⟨Nat.zero_le _, Nat.zero_le _⟩ dX7_mustBeWord_1 rfl ?_
  refine G_if_eq X (tgt := 20) dX7_mustBeWord_4 (by decide) (fun c2 => ?_) (fun c2 => ?_)
  · have h := it_t c2 h
    obtain rfl := Option.some.inj h
    exact hf _ _ dX7_mustBeWord_20
  · have h := it_f c2 h
    refine G_aload_n X 0 dX7_mustBeWord_7 rfl rfl ?_
    refine f_X7_108 X rfl (rg_rs _ _ _) dX7_mustBeWord_8 ?_
    refine G_iconst X (v := (1 : Int32)) dX7_mustBeWord_11 (by decide) ?_
    refine G_icmp_eq X (tgt := 20) dX7_mustBeWord_12 (by decide) (fun c3 => ?_) (fun c3 => ?_)
    · have h := it_t c3 h
      obtain rfl := Option.some.inj h
      exact hf _ _ dX7_mustBeWord_20
    · have h := it_f c3 h
      refine G_aload_n X 0 dX7_mustBeWord_15 rfl rfl ?_
      refine G_iconst X (v := (1 : Int32)) dX7_mustBeWord_16 (by decide) ?_
      obtain ⟨q4, hq4, h⟩ := bd_some h
      refine G_callV X (As := [.int ((1 : Int32))]) (rest := []) (T' := rs T 9 q4) (st2 := []) (ct_X7_wrong (l := g.2.1) (κ := gκ g)   hq4) cal_X7_wrong wM_X7_128 wI_X7_wrong wS_X7_wrong rfl rfl (by decide) rfl rfl (Nat.le_of_ble_eq_true rfl) ⟨Nat.zero_le _, Nat.zero_le _⟩ dX7_mustBeWord_17 rfl ?_
      obtain rfl := Option.some.inj h
      exact hf _ _ dX7_mustBeWord_20
set_option maxRecDepth 20000 in
theorem ct_X7_mustBeWord {l : Launch} {κ : KX} {T : TT}  {m : St}  {res : St}  (h : sX7_mustBeWord m = some res) : Ct l κ yX7_mustBeWord cX7_mustBeWord 1 none 1 21 [.ref (xE κ 9 0 0)] (rs T 9 m) (rs T 9 res) none := by
  refine Ct_v RX7 rfl (by decide +kernel) (Nat.le_of_ble_eq_true rfl) (fun g hl hκ X hf => ?_)
  subst hl; subst hκ
  exact gX7_mustBeWord X  hf h
set_option maxRecDepth 20000 in
theorem gX7_named_b4 {g : GX} {T : TT}  {m : St} {res : Int32}  (X : CX g RX7 cX7_named 3 0 0)  (hf : FinI g cX7_named .int (rs T 9 m) (res))  : ∀ (n : Nat) (a1 : Int32) (a2 : Int32) (h : sX7_named_b4 n  m a1 a2 = some res), G g 0 0 (rs T 9 m) 4 [(0, .ref (xE (gκ g) 9 0 0)), (1, .int a1), (2, .int a2)] [] := by
  intro n
  induction n with
  | zero => intro a1 a2 h; unfold sX7_named_b4 at h; cases h
  | succ n ih =>
    intro a1 a2 h
    unfold sX7_named_b4 at h
    refine G_iload_n X 2 dX7_named_4 rfl rfl ?_
    refine G_aload_n X 0 dX7_named_5 rfl rfl ?_
    refine f_X7_20 X rfl rfl dX7_named_6 ?_
    refine G_iconst X (v := (0 : Int32)) dX7_named_9 (by decide) ?_
    obtain ⟨g1, h⟩ := gd_some h
    refine G_iald X rfl (rg_rs _ _ _) g1 dX7_named_10 ?_
    refine G_icmp_ge X (tgt := 40) dX7_named_11 (by decide) (fun c2 => ?_) (fun c2 => ?_)
    · have h := it_t c2 h
      refine G_iload_n X 1 dX7_named_40 rfl rfl ?_
      obtain rfl := Option.some.inj h
      exact hf _ _ dX7_named_41 rfl
    · have h := it_f c2 h
      refine G_aload_n X 0 dX7_named_14 rfl rfl ?_
      refine f_X7_35 X rfl rfl dX7_named_15 ?_
      refine G_iload_n X 2 dX7_named_18 rfl rfl ?_
      obtain ⟨g3, h⟩ := gd_some h
      refine G_lald X rfl (rg_rs _ _ _) g3 dX7_named_19 ?_
      refine G_aload_n X 0 dX7_named_20 rfl rfl ?_
      refine f_X7_101 X rfl (rg_rs _ _ _) dX7_named_21 ?_
      refine G_lcmp X dX7_named_24 ?_
      refine G_if_ne X (tgt := 32) dX7_named_25 (by decide) (fun c4 => ?_) (fun c4 => ?_)
      · have h := it_t c4 h
        refine G_iload_n X 1 dX7_named_32 rfl rfl ?_
        refine G_istore_n X (lv' := [(1, .int a1), (0, .ref (xE (gκ g) 9 0 0)), (2, .int a2)]) dX7_named_33 rfl (by decide) rfl ?_
        obtain ⟨v5, ev5, h⟩ := nm_some h
        refine G_iinc X (v := v5) (lv' := [(2, .int v5), (1, .int a1), (0, .ref (xE (gκ g) 9 0 0))]) 2 dX7_named_34 rfl (by rw [ev5]; rfl) (by decide) rfl ?_
        refine G_goto X (tgt := 4) dX7_named_37 (by decide) ?_
        refine G_sub [2, 1, 0] rfl ?_
        exact ih _ _ h
      · have h := it_f (fun k => k c4) h
        refine G_iload_n X 2 dX7_named_28 rfl rfl ?_
        refine G_goto X (tgt := 33) dX7_named_29 (by decide) ?_
        refine G_istore_n X (lv' := [(1, .int a2), (0, .ref (xE (gκ g) 9 0 0)), (2, .int a2)]) dX7_named_33 rfl (by decide) rfl ?_
        obtain ⟨v6, ev6, h⟩ := nm_some h
        refine G_iinc X (v := v6) (lv' := [(2, .int v6), (1, .int a2), (0, .ref (xE (gκ g) 9 0 0))]) 2 dX7_named_34 rfl (by rw [ev6]; rfl) (by decide) rfl ?_
        refine G_goto X (tgt := 4) dX7_named_37 (by decide) ?_
        refine G_sub [2, 1, 0] rfl ?_
        exact ih _ _ h
set_option maxRecDepth 20000 in
theorem gX7_named {g : GX} {T : TT}  {m : St}  {res : Int32} (X : CX g RX7 cX7_named 3 0 0)  (hf : FinI g cX7_named .int (rs T 9 m) (res)) (h : sX7_named m = some res) : G g 0 0 (rs T 9 m) 0 [(0, .ref (xE (gκ g) 9 0 0))] [] := by
  unfold sX7_named at h
  refine G_iconst X (v := (-1 : Int32)) dX7_named_0 (by decide) ?_
  refine G_istore_n X (lv' := [(1, .int ((-1 : Int32))), (0, .ref (xE (gκ g) 9 0 0))]) dX7_named_1 rfl (by decide) rfl ?_
  refine G_iconst X (v := (0 : Int32)) dX7_named_2 (by decide) ?_
  refine G_istore_n X (lv' := [(2, .int ((0 : Int32))), (1, .int ((-1 : Int32))), (0, .ref (xE (gκ g) 9 0 0))]) dX7_named_3 rfl (by decide) rfl ?_
  refine G_sub [2, 1, 0] rfl ?_
  exact gX7_named_b4 X hf FU _ _ h
set_option maxRecDepth 20000 in
theorem ct_X7_named {l : Launch} {κ : KX} {T : TT}  {m : St}  {res : Int32}  (h : sX7_named m = some res) : Ct l κ yX7_named cX7_named 3 (some .int) 0 0 [.ref (xE κ 9 0 0)] (rs T 9 m) (rs T 9 m) (some (.int (res))) := by
  refine Ct_i RX7 rfl (by decide +kernel) (Nat.le_of_ble_eq_true rfl) (fun g hl hκ X hf => ?_)
  subst hl; subst hκ
  exact gX7_named X  hf h
set_option maxRecDepth 20000 in
theorem gX7_told_b37 {g : GX} {T : TT}  {m : St} {a1 : Int32} {res : St × Int32}  (X : CX g RX7 cX7_told 2 2 43)  (hf : FinI g cX7_told .int (rs T 9 res.1) (res.2))   (h : sX7_told_b37  m a1 = some res) : G g 0 0 (rs T 9 m) 37 [(0, .ref (xE (gκ g) 9 0 0)), (1, .int a1)] [] := by
  unfold sX7_told_b37 at h
  refine G_aload_n X 0 dX7_told_37 rfl rfl ?_
  obtain ⟨q9, hq9, h⟩ := bd_some h
  refine G_callV X (As := []) (rest := []) (T' := rs T 9 m) (st2 := [.int q9]) (ct_X7_isGood (l := g.2.1) (κ := gκ g)   hq9) cal_X7_isGood wM_X7_121 wI_X7_isGood wS_X7_isGood rfl rfl (by decide) rfl rfl (Nat.le_of_ble_eq_true rfl) ⟨Nat.zero_le _, Nat.zero_le _⟩ dX7_told_38 rfl ?_
  refine G_if_eq X (tgt := 48) dX7_told_41 (by decide) (fun c10 => ?_) (fun c10 => ?_)
  · have h := it_t c10 h
    refine G_iload_n X 1 dX7_told_48 rfl rfl ?_
    obtain rfl := Option.some.inj h
    exact hf _ _ dX7_told_49 rfl
  · have h := it_f c10 h
    refine G_aload_n X 0 dX7_told_44 rfl rfl ?_
    obtain ⟨q11, hq11, h⟩ := bd_some h
    refine G_callV X (As := []) (rest := []) (T' := rs T 9 q11) (st2 := []) (ct_X7_goOn (l := g.2.1) (κ := gκ g)   hq11) cal_X7_goOn wM_X7_131 wI_X7_goOn wS_X7_goOn rfl rfl (by decide) rfl rfl (Nat.le_of_ble_eq_true rfl) ⟨Nat.zero_le _, Nat.zero_le _⟩ dX7_told_45 rfl ?_
    refine G_iload_n X 1 dX7_told_48 rfl rfl ?_
    obtain rfl := Option.some.inj h
    exact hf _ _ dX7_told_49 rfl
set_option maxRecDepth 20000 in
theorem gX7_told_b19 {g : GX} {T : TT}  {m : St} {s0 : Int32} {res : St × Int32}  (X : CX g RX7 cX7_told 2 2 43)  (hf : FinI g cX7_told .int (rs T 9 res.1) (res.2))   (h : sX7_told_b19  m s0 = some res) : G g 0 0 (rs T 9 m) 19 [(0, .ref (xE (gκ g) 9 0 0))] [.int s0] := by
  unfold sX7_told_b19 at h
  refine G_istore_n X (lv' := [(1, .int s0), (0, .ref (xE (gκ g) 9 0 0))]) dX7_told_19 rfl (by decide) rfl ?_
  refine G_aload_n X 1 dX7_told_20 rfl rfl ?_
  obtain ⟨q5, hq5, h⟩ := bd_some h
  refine G_callV X (As := []) (rest := []) (T' := rs T 9 m) (st2 := [.int q5]) (ct_X7_isGood (l := g.2.1) (κ := gκ g)   hq5) cal_X7_isGood wM_X7_121 wI_X7_isGood wS_X7_isGood rfl rfl (by decide) rfl rfl (Nat.le_of_ble_eq_true rfl) ⟨Nat.zero_le _, Nat.zero_le _⟩ dX7_told_21 rfl ?_
  refine G_if_eq X (tgt := 37) dX7_told_24 (by decide) (fun c6 => ?_) (fun c6 => ?_)
  · have h := it_t c6 h
    refine G_sub [1, 0] rfl ?_
    exact gX7_told_b37 X hf h
  · have h := it_f c6 h
    refine G_iload_n X 0 dX7_told_27 rfl rfl ?_
    refine G_iconst X (v := (-1 : Int32)) dX7_told_28 (by decide) ?_
    refine G_icmp_ne X (tgt := 37) dX7_told_29 (by decide) (fun c7 => ?_) (fun c7 => ?_)
    · have h := it_t c7 h
      refine G_sub [1, 0] rfl ?_
      exact gX7_told_b37 X hf h
    · have h := it_f (fun k => k c7) h
      refine G_aload_n X 1 dX7_told_32 rfl rfl ?_
      refine G_iconst X (v := (4 : Int32)) dX7_told_33 (by decide) ?_
      obtain ⟨q8, hq8, h⟩ := bd_some h
      refine G_callV X (As := [.int ((4 : Int32))]) (rest := []) (T' := rs T 9 q8) (st2 := []) (ct_X7_wrong (l := g.2.1) (κ := gκ g)   hq8) cal_X7_wrong wM_X7_128 wI_X7_wrong wS_X7_wrong rfl rfl (by decide) rfl rfl (Nat.le_of_ble_eq_true rfl) ⟨Nat.zero_le _, Nat.zero_le _⟩ dX7_told_34 rfl ?_
      refine G_sub [1, 0] rfl ?_
      exact gX7_told_b37 X hf h
set_option maxRecDepth 20000 in
theorem gX7_told {g : GX} {T : TT}  {m : St}  {res : St × Int32} (X : CX g RX7 cX7_told 2 2 43)  (hf : FinI g cX7_told .int (rs T 9 res.1) (res.2)) (h : sX7_told m = some res) : G g 0 0 (rs T 9 m) 0 [(0, .ref (xE (gκ g) 9 0 0))] [] := by
  unfold sX7_told at h
  refine G_aload_n X 0 dX7_told_0 rfl rfl ?_
  obtain ⟨q1, hq1, h⟩ := bd_some h
  refine G_callV X (As := []) (rest := []) (T' := rs T 9 q1) (st2 := []) (ct_X7_mustBeWord (l := g.2.1) (κ := gκ g)   hq1) cal_X7_mustBeWord wM_X7_170 wI_X7_mustBeWord wS_X7_mustBeWord rfl rfl (by decide) rfl rfl (Nat.le_of_ble_eq_true rfl) ⟨Nat.zero_le _, Nat.zero_le _⟩ dX7_told_1 rfl ?_
  refine G_aload_n X 0 dX7_told_4 rfl rfl ?_
  obtain ⟨q2, hq2, h⟩ := bd_some h
  refine G_callV X (As := []) (rest := []) (T' := rs T 9 q1) (st2 := [.int q2]) (ct_X7_isGood (l := g.2.1) (κ := gκ g)   hq2) cal_X7_isGood wM_X7_121 wI_X7_isGood wS_X7_isGood rfl rfl (by decide) rfl rfl (Nat.le_of_ble_eq_true rfl) ⟨Nat.zero_le _, Nat.zero_le _⟩ dX7_told_5 rfl ?_
  refine G_if_eq X (tgt := 18) dX7_told_8 (by decide) (fun c3 => ?_) (fun c3 => ?_)
  · have h := it_t c3 h
    refine G_iconst X (v := (-1 : Int32)) dX7_told_18 (by decide) ?_
    exact gX7_told_b19 X hf h
  · have h := it_f c3 h
    refine G_aload_n X 0 dX7_told_11 rfl rfl ?_
    obtain ⟨q4, hq4, h⟩ := bd_some h
    refine G_callV X (As := []) (rest := []) (T' := rs T 9 q1) (st2 := [.int q4]) (ct_X7_named (l := g.2.1) (κ := gκ g)   hq4) cal_X7_named wM_X7_173 wI_X7_named wS_X7_named rfl rfl (by decide) rfl rfl (Nat.le_of_ble_eq_true rfl) ⟨Nat.zero_le _, Nat.zero_le _⟩ dX7_told_12 rfl ?_
    refine G_goto X (tgt := 19) dX7_told_15 (by decide) ?_
    exact gX7_told_b19 X hf h
set_option maxRecDepth 20000 in
theorem ct_X7_told {l : Launch} {κ : KX} {T : TT}  {m : St}  {res : St × Int32}  (h : sX7_told m = some res) : Ct l κ yX7_told cX7_told 2 (some .int) 2 43 [.ref (xE κ 9 0 0)] (rs T 9 m) (rs T 9 res.1) (some (.int (res.2))) := by
  refine Ct_i RX7 rfl (by decide +kernel) (Nat.le_of_ble_eq_true rfl) (fun g hl hκ X hf => ?_)
  subst hl; subst hκ
  exact gX7_told X  hf h
set_option maxRecDepth 20000 in
theorem gX7_once_b16 {g : GX} {T : TT}  {m : St} {a1 : Int32} {res : St}  (X : CX g RX7 cX7_once 2 2 43)  (hf : FinV g cX7_once (rs T 9 res))   (h : sX7_once_b16  m a1 = some res) : G g 0 0 (rs T 9 m) 16 [(0, .ref (xE (gκ g) 9 0 0)), (1, .int a1)] [] := by
  unfold sX7_once_b16 at h
  refine G_aload_n X 0 dX7_once_16 rfl rfl ?_
  refine G_dup X dX7_once_17 rfl ?_
  refine f_X7_177 X rfl (rg_rs _ _ _) dX7_once_18 ?_
  refine G_iconst X (v := (1 : Int32)) dX7_once_21 (by decide) ?_
  refine G_iload_n X 1 dX7_once_22 rfl rfl ?_
  refine G_ishl X dX7_once_23 ?_
  refine G_ior X dX7_once_24 ?_
  obtain ⟨v4, ev4, h⟩ := nm_some h
  refine G_nmi ev4 ?_
  obtain ⟨x5, ex5, h⟩ := nm_some h
  refine p_X7_177 X (T' := rs T 9 x5) rfl (rg_rs _ _ _)  (by rw [rs_rs, ex5]) dX7_once_25 ?_
  refine G_aload_n X 0 dX7_once_28 rfl rfl ?_
  obtain ⟨q6, hq6, h⟩ := bd_some h
  refine G_callV X (As := []) (rest := []) (T' := rs T 9 x5) (st2 := [.int q6]) (ct_X7_isGood (l := g.2.1) (κ := gκ g)   hq6) cal_X7_isGood wM_X7_121 wI_X7_isGood wS_X7_isGood rfl rfl (by decide) rfl rfl (Nat.le_of_ble_eq_true rfl) ⟨Nat.zero_le _, Nat.zero_le _⟩ dX7_once_29 rfl ?_
  refine G_if_eq X (tgt := 39) dX7_once_32 (by decide) (fun c7 => ?_) (fun c7 => ?_)
  · have h := it_t c7 h
    obtain rfl := Option.some.inj h
    exact hf _ _ dX7_once_39
  · have h := it_f c7 h
    refine G_aload_n X 0 dX7_once_35 rfl rfl ?_
    obtain ⟨q8, hq8, h⟩ := bd_some h
    refine G_callV X (As := []) (rest := []) (T' := rs T 9 q8) (st2 := []) (ct_X7_goOn (l := g.2.1) (κ := gκ g)   hq8) cal_X7_goOn wM_X7_131 wI_X7_goOn wS_X7_goOn rfl rfl (by decide) rfl rfl (Nat.le_of_ble_eq_true rfl) ⟨Nat.zero_le _, Nat.zero_le _⟩ dX7_once_36 rfl ?_
    obtain rfl := Option.some.inj h
    exact hf _ _ dX7_once_39
set_option maxRecDepth 20000 in
theorem gX7_once {g : GX} {T : TT}  {m : St} {a1 : Int32} {res : St} (X : CX g RX7 cX7_once 2 2 43)  (hf : FinV g cX7_once (rs T 9 res)) (h : sX7_once m a1 = some res) : G g 0 0 (rs T 9 m) 0 [(0, .ref (xE (gκ g) 9 0 0)), (1, .int a1)] [] := by
  unfold sX7_once at h
  refine G_aload_n X 0 dX7_once_0 rfl rfl ?_
  refine f_X7_177 X rfl (rg_rs _ _ _) dX7_once_1 ?_
  refine G_iload_n X 1 dX7_once_4 rfl rfl ?_
  obtain ⟨q1, hq1, h⟩ := bd_some h
  refine G_callS X (As := [.int (gI m 0 0 23), .int a1]) (rest := []) (T' := rs T 9 m) (st2 := [.int q1]) (ct_X7_has (l := g.2.1) (κ := gκ g)   hq1) cal_X7_has wM_X7_180 wT_X7_has (by decide) rfl rfl (Nat.le_of_ble_eq_true rfl) ⟨Nat.zero_le _, Nat.zero_le _⟩ dX7_once_5 rfl ?_
  refine G_if_eq X (tgt := 16) dX7_once_8 (by decide) (fun c2 => ?_) (fun c2 => ?_)
  · have h := it_t c2 h
    exact gX7_once_b16 X hf h
  · have h := it_f c2 h
    refine G_aload_n X 0 dX7_once_11 rfl rfl ?_
    refine G_iconst X (v := (3 : Int32)) dX7_once_12 (by decide) ?_
    obtain ⟨q3, hq3, h⟩ := bd_some h
    refine G_callV X (As := [.int ((3 : Int32))]) (rest := []) (T' := rs T 9 q3) (st2 := []) (ct_X7_wrong (l := g.2.1) (κ := gκ g)   hq3) cal_X7_wrong wM_X7_128 wI_X7_wrong wS_X7_wrong rfl rfl (by decide) rfl rfl (Nat.le_of_ble_eq_true rfl) ⟨Nat.zero_le _, Nat.zero_le _⟩ dX7_once_13 rfl ?_
    exact gX7_once_b16 X hf h
set_option maxRecDepth 20000 in
theorem ct_X7_once {l : Launch} {κ : KX} {T : TT}  {m : St} {a1 : Int32} {res : St}  (h : sX7_once m a1 = some res) : Ct l κ yX7_once cX7_once 2 none 2 43 [.ref (xE κ 9 0 0), .int a1] (rs T 9 m) (rs T 9 res) none := by
  refine Ct_v RX7 rfl (by decide +kernel) (Nat.le_of_ble_eq_true rfl) (fun g hl hκ X hf => ?_)
  subst hl; subst hκ
  exact gX7_once X  hf h
set_option maxRecDepth 20000 in
theorem gX7_perhaps {g : GX} {T : TT}  {m : St} {a1 : Int64} {a3 : Int32} {a4 : Int32} {a5 : Int32} {res : St × Int32} (X : CX g RX7 cX7_perhaps 6 3 70)  (hf : FinI g cX7_perhaps .int (rs T 9 res.1) (res.2)) (h : sX7_perhaps m a1 a3 a4 a5 = some res) : G g 0 0 (rs T 9 m) 0 [(0, .ref (xE (gκ g) 9 0 0)), (1, .long a1), (3, .int a3), (4, .int a4), (5, .int a5)] [] := by
  unfold sX7_perhaps at h
  refine G_aload_n X 0 dX7_perhaps_0 rfl rfl ?_
  refine G_lload_n X 1 dX7_perhaps_1 rfl rfl ?_
  obtain ⟨q1, hq1, h⟩ := bd_some h
  refine G_callV X (As := [.long a1]) (rest := []) (T' := rs T 9 m) (st2 := [.int q1]) (ct_X7_isWord (l := g.2.1) (κ := gκ g)   hq1) cal_X7_isWord wM_X7_134 wI_X7_isWord wS_X7_isWord rfl rfl (by decide) rfl rfl (Nat.le_of_ble_eq_true rfl) ⟨Nat.zero_le _, Nat.zero_le _⟩ dX7_perhaps_2 rfl ?_
  refine G_if_ne X (tgt := 11) dX7_perhaps_5 (by decide) (fun c2 => ?_) (fun c2 => ?_)
  · have h := it_t c2 h
    refine G_aload_n X 0 dX7_perhaps_11 rfl rfl ?_
    obtain ⟨q3, hq3, h⟩ := bd_some h
    refine G_callV X (As := []) (rest := []) (T' := rs T 9 q3) (st2 := []) (ct_X7_goOn (l := g.2.1) (κ := gκ g)   hq3) cal_X7_goOn wM_X7_131 wI_X7_goOn wS_X7_goOn rfl rfl (by decide) rfl rfl (Nat.le_of_ble_eq_true rfl) ⟨Nat.zero_le _, Nat.zero_le _⟩ dX7_perhaps_12 rfl ?_
    refine G_aload_n X 0 dX7_perhaps_15 rfl rfl ?_
    refine G_iload_n X 2 dX7_perhaps_16 rfl rfl ?_
    refine G_iload X 3 dX7_perhaps_17 rfl ?_
    obtain ⟨q4, hq4, h⟩ := bd_some h
    refine G_callV X (As := [.int a3, .int a4]) (rest := []) (T' := rs T 9 q4.1) (st2 := [.int q4.2]) (ct_X7_number (l := g.2.1) (κ := gκ g)   hq4) cal_X7_number wM_X7_184 wI_X7_number wS_X7_number rfl rfl (by decide) rfl rfl (Nat.le_of_ble_eq_true rfl) ⟨Nat.zero_le _, Nat.zero_le _⟩ dX7_perhaps_19 rfl ?_
    obtain rfl := Option.some.inj h
    exact hf _ _ dX7_perhaps_22 rfl
  · have h := it_f (fun k => k c2) h
    refine G_iload X 4 dX7_perhaps_8 rfl ?_
    obtain rfl := Option.some.inj h
    exact hf _ _ dX7_perhaps_10 rfl
set_option maxRecDepth 20000 in
theorem ct_X7_perhaps {l : Launch} {κ : KX} {T : TT}  {m : St} {a1 : Int64} {a3 : Int32} {a4 : Int32} {a5 : Int32} {res : St × Int32}  (h : sX7_perhaps m a1 a3 a4 a5 = some res) : Ct l κ yX7_perhaps cX7_perhaps 6 (some .int) 3 70 [.ref (xE κ 9 0 0), .long a1, .int a3, .int a4, .int a5] (rs T 9 m) (rs T 9 res.1) (some (.int (res.2))) := by
  refine Ct_i RX7 rfl (by decide +kernel) (Nat.le_of_ble_eq_true rfl) (fun g hl hκ X hf => ?_)
  subst hl; subst hκ
  exact gX7_perhaps X  hf h
set_option maxRecDepth 20000 in
theorem gX7_readsBeacon_b53 {g : GX} {T : TT}  {m : St} {a1 : Int32} {res : St}  (X : CX g RX7 cX7_readsBeacon 3 4 95)  (hf : FinV g cX7_readsBeacon (rs T 9 res))   (h : sX7_readsBeacon_b53  m a1 = some res) : G g 0 0 (rs T 9 m) 53 [(0, .ref (xE (gκ g) 9 0 0)), (1, .int a1)] [] := by
  unfold sX7_readsBeacon_b53 at h
  refine G_aload_n X 0 dX7_readsBeacon_53 rfl rfl ?_
  obtain ⟨q13, hq13, h⟩ := bd_some h
  refine G_callV X (As := []) (rest := []) (T' := rs T 9 m) (st2 := [.int q13]) (ct_X7_isGood (l := g.2.1) (κ := gκ g)   hq13) cal_X7_isGood wM_X7_121 wI_X7_isGood wS_X7_isGood rfl rfl (by decide) rfl rfl (Nat.le_of_ble_eq_true rfl) ⟨Nat.zero_le _, Nat.zero_le _⟩ dX7_readsBeacon_54 rfl ?_
  refine G_if_ne X (tgt := 61) dX7_readsBeacon_57 (by decide) (fun c14 => ?_) (fun c14 => ?_)
  · have h := it_t c14 h
    refine G_aload_n X 0 dX7_readsBeacon_61 rfl rfl ?_
    refine f_X7_35 X rfl rfl dX7_readsBeacon_62 ?_
    refine G_iload_n X 1 dX7_readsBeacon_65 rfl rfl ?_
    refine G_aload_n X 0 dX7_readsBeacon_66 rfl rfl ?_
    refine f_X7_101 X rfl (rg_rs _ _ _) dX7_readsBeacon_67 ?_
    obtain ⟨g15, h⟩ := gd_some h
    obtain ⟨x16, ex16, h⟩ := nm_some h
    refine G_last X (T' := rs T 9 x16) rfl (rg_rs _ _ _) g15 (by rw [rs_rs, ex16]) dX7_readsBeacon_70 ?_
    refine G_aload_n X 0 dX7_readsBeacon_71 rfl rfl ?_
    obtain ⟨q17, hq17, h⟩ := bd_some h
    refine G_callV X (As := []) (rest := []) (T' := rs T 9 q17) (st2 := []) (ct_X7_goOn (l := g.2.1) (κ := gκ g)   hq17) cal_X7_goOn wM_X7_131 wI_X7_goOn wS_X7_goOn rfl rfl (by decide) rfl rfl (Nat.le_of_ble_eq_true rfl) ⟨Nat.zero_le _, Nat.zero_le _⟩ dX7_readsBeacon_72 rfl ?_
    refine G_aload_n X 0 dX7_readsBeacon_75 rfl rfl ?_
    refine G_ldc2_w X (v := (5969497 : Int64)) dX7_readsBeacon_76 wK_X7_187 ?_
    obtain ⟨q18, hq18, h⟩ := bd_some h
    refine G_callV X (As := [.long ((5969497 : Int64))]) (rest := []) (T' := rs T 9 q18) (st2 := []) (ct_X7_mustWord (l := g.2.1) (κ := gκ g)   hq18) cal_X7_mustWord wM_X7_189 wI_X7_mustWord wS_X7_mustWord rfl rfl (by decide) rfl rfl (Nat.le_of_ble_eq_true rfl) ⟨Nat.zero_le _, Nat.zero_le _⟩ dX7_readsBeacon_79 rfl ?_
    refine G_aload_n X 0 dX7_readsBeacon_82 rfl rfl ?_
    refine G_iconst X (v := (2 : Int32)) dX7_readsBeacon_83 (by decide) ?_
    refine G_bipush X (v := (99 : Int32)) dX7_readsBeacon_84 (by decide) ?_
    obtain ⟨q19, hq19, h⟩ := bd_some h
    refine G_callV X (As := [.int ((2 : Int32)), .int ((99 : Int32))]) (rest := []) (T' := rs T 9 q19.1) (st2 := [.int q19.2]) (ct_X7_number (l := g.2.1) (κ := gκ g)   hq19) cal_X7_number wM_X7_184 wI_X7_number wS_X7_number rfl rfl (by decide) rfl rfl (Nat.le_of_ble_eq_true rfl) ⟨Nat.zero_le _, Nat.zero_le _⟩ dX7_readsBeacon_86 rfl ?_
    refine G_istore_n X (lv' := [(2, .int q19.2), (0, .ref (xE (gκ g) 9 0 0)), (1, .int a1)]) dX7_readsBeacon_89 rfl (by decide) rfl ?_
    refine G_aload_n X 1 dX7_readsBeacon_90 rfl rfl ?_
    refine G_iload_n X 2 dX7_readsBeacon_91 rfl rfl ?_
    refine G_iconst X (v := (0 : Int32)) dX7_readsBeacon_92 (by decide) ?_
    refine G_iload_n X 0 dX7_readsBeacon_93 rfl rfl ?_
    obtain ⟨q20, hq20, h⟩ := bd_some h
    refine G_callV X (As := [.int a1, .int ((0 : Int32)), .int q19.2]) (rest := []) (T' := rs T 9 q20) (st2 := []) (ct_X7_sets (l := g.2.1) (κ := gκ g)   hq20) cal_X7_sets wM_X7_148 wI_X7_sets wS_X7_sets rfl rfl (by decide) rfl rfl (Nat.le_of_ble_eq_true rfl) ⟨Nat.zero_le _, Nat.zero_le _⟩ dX7_readsBeacon_94 rfl ?_
    refine G_aload_n X 1 dX7_readsBeacon_97 rfl rfl ?_
    refine G_iload_n X 2 dX7_readsBeacon_98 rfl rfl ?_
    refine G_iconst X (v := (1 : Int32)) dX7_readsBeacon_99 (by decide) ?_
    refine G_aload_n X 1 dX7_readsBeacon_100 rfl rfl ?_
    refine G_ldc2_w X (v := (52 : Int64)) dX7_readsBeacon_101 wK_X7_193 ?_
    refine G_iconst X (v := (0 : Int32)) dX7_readsBeacon_104 (by decide) ?_
    refine G_iload_n X 0 dX7_readsBeacon_105 rfl rfl ?_
    refine G_iconst X (v := (1 : Int32)) dX7_readsBeacon_106 (by decide) ?_
    refine G_isub X dX7_readsBeacon_107 ?_
    refine G_iconst X (v := (0 : Int32)) dX7_readsBeacon_108 (by decide) ?_
    obtain ⟨q21, hq21, h⟩ := bd_some h
    refine G_callV X (As := [.long ((52 : Int64)), .int ((0 : Int32)), .int (q19.2 - ((1 : Int32))), .int ((0 : Int32))]) (rest := [.int ((1 : Int32)), .int a1, .ref (xE (gκ g) 9 0 0)]) (T' := rs T 9 q21.1) (st2 := [.int q21.2, .int ((1 : Int32)), .int a1, .ref (xE (gκ g) 9 0 0)]) (ct_X7_perhaps (l := g.2.1) (κ := gκ g)   hq21) cal_X7_perhaps wM_X7_195 wI_X7_perhaps wS_X7_perhaps rfl rfl (by decide) rfl rfl (Nat.le_of_ble_eq_true rfl) ⟨Nat.zero_le _, Nat.zero_le _⟩ dX7_readsBeacon_109 rfl ?_
    obtain ⟨q22, hq22, h⟩ := bd_some h
    refine G_callV X (As := [.int a1, .int ((1 : Int32)), .int q21.2]) (rest := []) (T' := rs T 9 q22) (st2 := []) (ct_X7_sets (l := g.2.1) (κ := gκ g)   hq22) cal_X7_sets wM_X7_148 wI_X7_sets wS_X7_sets rfl rfl (by decide) rfl rfl (Nat.le_of_ble_eq_true rfl) ⟨Nat.zero_le _, Nat.zero_le _⟩ dX7_readsBeacon_112 rfl ?_
    refine G_aload_n X 1 dX7_readsBeacon_115 rfl rfl ?_
    refine G_iload_n X 2 dX7_readsBeacon_116 rfl rfl ?_
    refine G_iconst X (v := (2 : Int32)) dX7_readsBeacon_117 (by decide) ?_
    refine G_aload_n X 1 dX7_readsBeacon_118 rfl rfl ?_
    refine G_ldc2_w X (v := (13207475667 : Int64)) dX7_readsBeacon_119 wK_X7_199 ?_
    refine G_iconst X (v := (1 : Int32)) dX7_readsBeacon_122 (by decide) ?_
    refine G_bipush X (v := (9 : Int32)) dX7_readsBeacon_123 (by decide) ?_
    refine G_iconst X (v := (2 : Int32)) dX7_readsBeacon_125 (by decide) ?_
    obtain ⟨q23, hq23, h⟩ := bd_some h
    refine G_callV X (As := [.long ((13207475667 : Int64)), .int ((1 : Int32)), .int ((9 : Int32)), .int ((2 : Int32))]) (rest := [.int ((2 : Int32)), .int a1, .ref (xE (gκ g) 9 0 0)]) (T' := rs T 9 q23.1) (st2 := [.int q23.2, .int ((2 : Int32)), .int a1, .ref (xE (gκ g) 9 0 0)]) (ct_X7_perhaps (l := g.2.1) (κ := gκ g)   hq23) cal_X7_perhaps wM_X7_195 wI_X7_perhaps wS_X7_perhaps rfl rfl (by decide) rfl rfl (Nat.le_of_ble_eq_true rfl) ⟨Nat.zero_le _, Nat.zero_le _⟩ dX7_readsBeacon_126 rfl ?_
    obtain ⟨q24, hq24, h⟩ := bd_some h
    refine G_callV X (As := [.int a1, .int ((2 : Int32)), .int q23.2]) (rest := []) (T' := rs T 9 q24) (st2 := []) (ct_X7_sets (l := g.2.1) (κ := gκ g)   hq24) cal_X7_sets wM_X7_148 wI_X7_sets wS_X7_sets rfl rfl (by decide) rfl rfl (Nat.le_of_ble_eq_true rfl) ⟨Nat.zero_le _, Nat.zero_le _⟩ dX7_readsBeacon_129 rfl ?_
    refine G_aload_n X 1 dX7_readsBeacon_132 rfl rfl ?_
    refine G_iload_n X 2 dX7_readsBeacon_133 rfl rfl ?_
    refine G_iconst X (v := (3 : Int32)) dX7_readsBeacon_134 (by decide) ?_
    refine G_aload_n X 1 dX7_readsBeacon_135 rfl rfl ?_
    refine G_ldc2_w X (v := (20101267 : Int64)) dX7_readsBeacon_136 wK_X7_201 ?_
    refine G_iconst X (v := (1 : Int32)) dX7_readsBeacon_139 (by decide) ?_
    refine G_bipush X (v := (9 : Int32)) dX7_readsBeacon_140 (by decide) ?_
    refine G_iconst X (v := (2 : Int32)) dX7_readsBeacon_142 (by decide) ?_
    obtain ⟨q25, hq25, h⟩ := bd_some h
    refine G_callV X (As := [.long ((20101267 : Int64)), .int ((1 : Int32)), .int ((9 : Int32)), .int ((2 : Int32))]) (rest := [.int ((3 : Int32)), .int a1, .ref (xE (gκ g) 9 0 0)]) (T' := rs T 9 q25.1) (st2 := [.int q25.2, .int ((3 : Int32)), .int a1, .ref (xE (gκ g) 9 0 0)]) (ct_X7_perhaps (l := g.2.1) (κ := gκ g)   hq25) cal_X7_perhaps wM_X7_195 wI_X7_perhaps wS_X7_perhaps rfl rfl (by decide) rfl rfl (Nat.le_of_ble_eq_true rfl) ⟨Nat.zero_le _, Nat.zero_le _⟩ dX7_readsBeacon_143 rfl ?_
    obtain ⟨q26, hq26, h⟩ := bd_some h
    refine G_callV X (As := [.int a1, .int ((3 : Int32)), .int q25.2]) (rest := []) (T' := rs T 9 q26) (st2 := []) (ct_X7_sets (l := g.2.1) (κ := gκ g)   hq26) cal_X7_sets wM_X7_148 wI_X7_sets wS_X7_sets rfl rfl (by decide) rfl rfl (Nat.le_of_ble_eq_true rfl) ⟨Nat.zero_le _, Nat.zero_le _⟩ dX7_readsBeacon_146 rfl ?_
    refine G_aload_n X 1 dX7_readsBeacon_149 rfl rfl ?_
    refine G_iload_n X 2 dX7_readsBeacon_150 rfl rfl ?_
    refine G_iconst X (v := (4 : Int32)) dX7_readsBeacon_151 (by decide) ?_
    refine G_aload_n X 1 dX7_readsBeacon_152 rfl rfl ?_
    refine G_ldc2_w X (v := (182634745 : Int64)) dX7_readsBeacon_153 wK_X7_203 ?_
    refine G_iconst X (v := (1 : Int32)) dX7_readsBeacon_156 (by decide) ?_
    refine G_sipush X (v := (999 : Int32)) dX7_readsBeacon_157 (by decide) ?_
    refine G_sipush X (v := (999 : Int32)) dX7_readsBeacon_160 (by decide) ?_
    obtain ⟨q27, hq27, h⟩ := bd_some h
    refine G_callV X (As := [.long ((182634745 : Int64)), .int ((1 : Int32)), .int ((999 : Int32)), .int ((999 : Int32))]) (rest := [.int ((4 : Int32)), .int a1, .ref (xE (gκ g) 9 0 0)]) (T' := rs T 9 q27.1) (st2 := [.int q27.2, .int ((4 : Int32)), .int a1, .ref (xE (gκ g) 9 0 0)]) (ct_X7_perhaps (l := g.2.1) (κ := gκ g)   hq27) cal_X7_perhaps wM_X7_195 wI_X7_perhaps wS_X7_perhaps rfl rfl (by decide) rfl rfl (Nat.le_of_ble_eq_true rfl) ⟨Nat.zero_le _, Nat.zero_le _⟩ dX7_readsBeacon_163 rfl ?_
    obtain ⟨q28, hq28, h⟩ := bd_some h
    refine G_callV X (As := [.int a1, .int ((4 : Int32)), .int q27.2]) (rest := []) (T' := rs T 9 q28) (st2 := []) (ct_X7_sets (l := g.2.1) (κ := gκ g)   hq28) cal_X7_sets wM_X7_148 wI_X7_sets wS_X7_sets rfl rfl (by decide) rfl rfl (Nat.le_of_ble_eq_true rfl) ⟨Nat.zero_le _, Nat.zero_le _⟩ dX7_readsBeacon_166 rfl ?_
    refine G_aload_n X 1 dX7_readsBeacon_169 rfl rfl ?_
    obtain ⟨q29, hq29, h⟩ := bd_some h
    refine G_callV X (As := []) (rest := []) (T' := rs T 9 q28) (st2 := [.int q29]) (ct_X7_isGood (l := g.2.1) (κ := gκ g)   hq29) cal_X7_isGood wM_X7_121 wI_X7_isGood wS_X7_isGood rfl rfl (by decide) rfl rfl (Nat.le_of_ble_eq_true rfl) ⟨Nat.zero_le _, Nat.zero_le _⟩ dX7_readsBeacon_170 rfl ?_
    refine G_if_eq X (tgt := 186) dX7_readsBeacon_173 (by decide) (fun c30 => ?_) (fun c30 => ?_)
    · have h := it_t c30 h
      obtain rfl := Option.some.inj h
      exact hf _ _ dX7_readsBeacon_186
    · have h := it_f c30 h
      refine G_aload_n X 1 dX7_readsBeacon_176 rfl rfl ?_
      refine f_X7_20 X rfl rfl dX7_readsBeacon_177 ?_
      refine G_iconst X (v := (0 : Int32)) dX7_readsBeacon_180 (by decide) ?_
      refine G_dup2 X dX7_readsBeacon_181 rfl rfl ?_
      obtain ⟨g31, h⟩ := gd_some h
      refine G_iald X rfl (rg_rs _ _ _) g31 dX7_readsBeacon_182 ?_
      refine G_iconst X (v := (1 : Int32)) dX7_readsBeacon_183 (by decide) ?_
      refine G_iadd X dX7_readsBeacon_184 ?_
      obtain ⟨v32, ev32, h⟩ := nm_some h
      refine G_nmi ev32 ?_
      obtain ⟨g33, h⟩ := gd_some h
      obtain ⟨x34, ex34, h⟩ := nm_some h
      refine G_iast X (T' := rs T 9 x34) rfl (rg_rs _ _ _) g33 (by rw [rs_rs, ex34]) dX7_readsBeacon_185 ?_
      obtain rfl := Option.some.inj h
      exact hf _ _ dX7_readsBeacon_186
  · have h := it_f (fun k => k c14) h
    obtain rfl := Option.some.inj h
    exact hf _ _ dX7_readsBeacon_60
set_option maxRecDepth 20000 in
theorem gX7_readsBeacon_b29 {g : GX} {T : TT}  {m : St} {a1 : Int32} {res : St}  (X : CX g RX7 cX7_readsBeacon 3 4 95)  (hf : FinV g cX7_readsBeacon (rs T 9 res))   (h : sX7_readsBeacon_b29  m a1 = some res) : G g 0 0 (rs T 9 m) 29 [(0, .ref (xE (gκ g) 9 0 0)), (1, .int a1)] [] := by
  unfold sX7_readsBeacon_b29 at h
  refine G_aload_n X 0 dX7_readsBeacon_29 rfl rfl ?_
  obtain ⟨q7, hq7, h⟩ := bd_some h
  refine G_callV X (As := []) (rest := []) (T' := rs T 9 q7) (st2 := []) (ct_X7_mustBeWord (l := g.2.1) (κ := gκ g)   hq7) cal_X7_mustBeWord wM_X7_170 wI_X7_mustBeWord wS_X7_mustBeWord rfl rfl (by decide) rfl rfl (Nat.le_of_ble_eq_true rfl) ⟨Nat.zero_le _, Nat.zero_le _⟩ dX7_readsBeacon_30 rfl ?_
  refine G_aload_n X 0 dX7_readsBeacon_33 rfl rfl ?_
  obtain ⟨q8, hq8, h⟩ := bd_some h
  refine G_callV X (As := []) (rest := []) (T' := rs T 9 q7) (st2 := [.int q8]) (ct_X7_isGood (l := g.2.1) (κ := gκ g)   hq8) cal_X7_isGood wM_X7_121 wI_X7_isGood wS_X7_isGood rfl rfl (by decide) rfl rfl (Nat.le_of_ble_eq_true rfl) ⟨Nat.zero_le _, Nat.zero_le _⟩ dX7_readsBeacon_34 rfl ?_
  refine G_if_eq X (tgt := 53) dX7_readsBeacon_37 (by decide) (fun c9 => ?_) (fun c9 => ?_)
  · have h := it_t c9 h
    exact gX7_readsBeacon_b53 X hf h
  · have h := it_f c9 h
    refine G_aload_n X 0 dX7_readsBeacon_40 rfl rfl ?_
    obtain ⟨q10, hq10, h⟩ := bd_some h
    refine G_callV X (As := []) (rest := []) (T' := rs T 9 q7) (st2 := [.int q10]) (ct_X7_named (l := g.2.1) (κ := gκ g)   hq10) cal_X7_named wM_X7_173 wI_X7_named wS_X7_named rfl rfl (by decide) rfl rfl (Nat.le_of_ble_eq_true rfl) ⟨Nat.zero_le _, Nat.zero_le _⟩ dX7_readsBeacon_41 rfl ?_
    refine G_iconst X (v := (-1 : Int32)) dX7_readsBeacon_44 (by decide) ?_
    refine G_icmp_eq X (tgt := 53) dX7_readsBeacon_45 (by decide) (fun c11 => ?_) (fun c11 => ?_)
    · have h := it_t c11 h
      exact gX7_readsBeacon_b53 X hf h
    · have h := it_f c11 h
      refine G_aload_n X 0 dX7_readsBeacon_48 rfl rfl ?_
      refine G_iconst X (v := (3 : Int32)) dX7_readsBeacon_49 (by decide) ?_
      obtain ⟨q12, hq12, h⟩ := bd_some h
      refine G_callV X (As := [.int ((3 : Int32))]) (rest := []) (T' := rs T 9 q12) (st2 := []) (ct_X7_wrong (l := g.2.1) (κ := gκ g)   hq12) cal_X7_wrong wM_X7_128 wI_X7_wrong wS_X7_wrong rfl rfl (by decide) rfl rfl (Nat.le_of_ble_eq_true rfl) ⟨Nat.zero_le _, Nat.zero_le _⟩ dX7_readsBeacon_50 rfl ?_
      exact gX7_readsBeacon_b53 X hf h
set_option maxRecDepth 20000 in
theorem gX7_readsBeacon_b18 {g : GX} {T : TT}  {m : St} {a1 : Int32} {res : St}  (X : CX g RX7 cX7_readsBeacon 3 4 95)  (hf : FinV g cX7_readsBeacon (rs T 9 res))   (h : sX7_readsBeacon_b18  m a1 = some res) : G g 0 0 (rs T 9 m) 18 [(0, .ref (xE (gκ g) 9 0 0)), (1, .int a1)] [] := by
  unfold sX7_readsBeacon_b18 at h
  refine G_aload_n X 0 dX7_readsBeacon_18 rfl rfl ?_
  obtain ⟨q4, hq4, h⟩ := bd_some h
  refine G_callV X (As := []) (rest := []) (T' := rs T 9 m) (st2 := [.int q4]) (ct_X7_isGood (l := g.2.1) (κ := gκ g)   hq4) cal_X7_isGood wM_X7_121 wI_X7_isGood wS_X7_isGood rfl rfl (by decide) rfl rfl (Nat.le_of_ble_eq_true rfl) ⟨Nat.zero_le _, Nat.zero_le _⟩ dX7_readsBeacon_19 rfl ?_
  refine G_if_eq X (tgt := 29) dX7_readsBeacon_22 (by decide) (fun c5 => ?_) (fun c5 => ?_)
  · have h := it_t c5 h
    exact gX7_readsBeacon_b29 X hf h
  · have h := it_f c5 h
    refine G_aload_n X 0 dX7_readsBeacon_25 rfl rfl ?_
    obtain ⟨q6, hq6, h⟩ := bd_some h
    refine G_callV X (As := []) (rest := []) (T' := rs T 9 q6) (st2 := []) (ct_X7_goOn (l := g.2.1) (κ := gκ g)   hq6) cal_X7_goOn wM_X7_131 wI_X7_goOn wS_X7_goOn rfl rfl (by decide) rfl rfl (Nat.le_of_ble_eq_true rfl) ⟨Nat.zero_le _, Nat.zero_le _⟩ dX7_readsBeacon_26 rfl ?_
    exact gX7_readsBeacon_b29 X hf h
set_option maxRecDepth 20000 in
theorem gX7_readsBeacon {g : GX} {T : TT}  {m : St}  {res : St} (X : CX g RX7 cX7_readsBeacon 3 4 95)  (hf : FinV g cX7_readsBeacon (rs T 9 res)) (h : sX7_readsBeacon m = some res) : G g 0 0 (rs T 9 m) 0 [(0, .ref (xE (gκ g) 9 0 0))] [] := by
  unfold sX7_readsBeacon at h
  refine G_aload_n X 0 dX7_readsBeacon_0 rfl rfl ?_
  refine f_X7_20 X rfl rfl dX7_readsBeacon_1 ?_
  refine G_iconst X (v := (0 : Int32)) dX7_readsBeacon_4 (by decide) ?_
  obtain ⟨g1, h⟩ := gd_some h
  refine G_iald X rfl (rg_rs _ _ _) g1 dX7_readsBeacon_5 ?_
  refine G_istore_n X (lv' := [(1, .int (gI m 0 2 (ix ((0 : Int32))))), (0, .ref (xE (gκ g) 9 0 0))]) dX7_readsBeacon_6 rfl (by decide) rfl ?_
  refine G_iload_n X 0 dX7_readsBeacon_7 rfl rfl ?_
  refine G_bipush X (v := (8 : Int32)) dX7_readsBeacon_8 (by decide) ?_
  refine G_icmp_ne X (tgt := 18) dX7_readsBeacon_10 (by decide) (fun c2 => ?_) (fun c2 => ?_)
  · have h := it_t c2 h
    refine G_sub [1, 0] rfl ?_
    exact gX7_readsBeacon_b18 X hf h
  · have h := it_f (fun k => k c2) h
    refine G_aload_n X 1 dX7_readsBeacon_13 rfl rfl ?_
    refine G_iconst X (v := (5 : Int32)) dX7_readsBeacon_14 (by decide) ?_
    obtain ⟨q3, hq3, h⟩ := bd_some h
    refine G_callV X (As := [.int ((5 : Int32))]) (rest := []) (T' := rs T 9 q3) (st2 := []) (ct_X7_wrong (l := g.2.1) (κ := gκ g)   hq3) cal_X7_wrong wM_X7_128 wI_X7_wrong wS_X7_wrong rfl rfl (by decide) rfl rfl (Nat.le_of_ble_eq_true rfl) ⟨Nat.zero_le _, Nat.zero_le _⟩ dX7_readsBeacon_15 rfl ?_
    refine G_sub [1, 0] rfl ?_
    exact gX7_readsBeacon_b18 X hf h
set_option maxRecDepth 20000 in
theorem ct_X7_readsBeacon {l : Launch} {κ : KX} {T : TT}  {m : St}  {res : St}  (h : sX7_readsBeacon m = some res) : Ct l κ yX7_readsBeacon cX7_readsBeacon 3 none 4 95 [.ref (xE κ 9 0 0)] (rs T 9 m) (rs T 9 res) none := by
  refine Ct_v RX7 rfl (by decide +kernel) (Nat.le_of_ble_eq_true rfl) (fun g hl hκ X hf => ?_)
  subst hl; subst hκ
  exact gX7_readsBeacon X  hf h
set_option maxRecDepth 20000 in
theorem gX7_areNear {g : GX} {T : TT}  {m : St} {a1 : Int32} {a2 : Int32} {res : Int32} (X : CX g RX7 cX7_areNear 3 1 21)  (hf : FinI g cX7_areNear .boolean (rs T 9 m) (res)) (h : sX7_areNear m a1 a2 = some res) : G g 0 0 (rs T 9 m) 0 [(0, .ref (xE (gκ g) 9 0 0)), (1, .int a1), (2, .int a2)] [] := by
  unfold sX7_areNear at h
  refine G_aload_n X 0 dX7_areNear_0 rfl rfl ?_
  refine f_X7_20 X rfl rfl dX7_areNear_1 ?_
  refine G_bipush X (v := (13 : Int32)) dX7_areNear_4 (by decide) ?_
  refine G_iload_n X 1 dX7_areNear_6 rfl rfl ?_
  refine G_iadd X dX7_areNear_7 ?_
  obtain ⟨g1, h⟩ := gd_some h
  refine G_iald X rfl (rg_rs _ _ _) g1 dX7_areNear_8 ?_
  refine G_iload_n X 2 dX7_areNear_9 rfl rfl ?_
  obtain ⟨q2, hq2, h⟩ := bd_some h
  refine G_callS X (As := [.int (gI m 0 2 (ix (((13 : Int32)) + a1))), .int a2]) (rest := []) (T' := rs T 9 m) (st2 := [.int q2]) (ct_X7_has (l := g.2.1) (κ := gκ g)   hq2) cal_X7_has wM_X7_180 wT_X7_has (by decide) rfl rfl (Nat.le_of_ble_eq_true rfl) ⟨Nat.zero_le _, Nat.zero_le _⟩ dX7_areNear_10 rfl ?_
  obtain ⟨g3, h⟩ := gd_some h
  obtain rfl := Option.some.inj h
  exact hf _ _ dX7_areNear_13 (isb_n g3)
set_option maxRecDepth 20000 in
theorem ct_X7_areNear {l : Launch} {κ : KX} {T : TT}  {m : St} {a1 : Int32} {a2 : Int32} {res : Int32}  (h : sX7_areNear m a1 a2 = some res) : Ct l κ yX7_areNear cX7_areNear 3 (some .boolean) 1 21 [.ref (xE κ 9 0 0), .int a1, .int a2] (rs T 9 m) (rs T 9 m) (some (.int (res))) := by
  refine Ct_i RX7 rfl (by decide +kernel) (Nat.le_of_ble_eq_true rfl) (fun g hl hκ X hf => ?_)
  subst hl; subst hκ
  exact gX7_areNear X  hf h
set_option maxRecDepth 20000 in
theorem gX7_nears_b51 {g : GX} {T : TT}  {m : St} {a2 : Int32} {a3 : Int32} {a5 : Int32} {s0 : Int32} {s1 : Int32} {res : St}  (X : CX g RX7 cX7_nears 6 0 0)  (hf : FinV g cX7_nears (rs T 9 res))   (h : sX7_nears_b51  m a2 a3 a5 s0 s1 = some res) : G g 0 0 (rs T 9 m) 51 [(0, .ref (xE (gκ g) 9 0 0)), (2, .int a2), (3, .int a3), (5, .int a5)] [.int s0, .int s1, .ref (xE (gκ g) 9 0 2)] := by
  unfold sX7_nears_b51 at h
  obtain ⟨g6, h⟩ := gd_some h
  obtain ⟨x7, ex7, h⟩ := nm_some h
  refine G_iast X (T' := rs T 9 x7) rfl (rg_rs _ _ _) g6 (by rw [rs_rs, ex7]) dX7_nears_51 ?_
  refine G_aload_n X 0 dX7_nears_52 rfl rfl ?_
  refine f_X7_20 X rfl rfl dX7_nears_53 ?_
  refine G_bipush X (v := (13 : Int32)) dX7_nears_56 (by decide) ?_
  refine G_iload_n X 1 dX7_nears_58 rfl rfl ?_
  refine G_iadd X dX7_nears_59 ?_
  refine G_iload_n X 2 dX7_nears_60 rfl rfl ?_
  refine G_if_eq X (tgt := 79) dX7_nears_61 (by decide) (fun c8 => ?_) (fun c8 => ?_)
  · have h := it_t c8 h
    refine G_aload_n X 0 dX7_nears_79 rfl rfl ?_
    refine f_X7_20 X rfl rfl dX7_nears_80 ?_
    refine G_bipush X (v := (13 : Int32)) dX7_nears_83 (by decide) ?_
    refine G_iload_n X 1 dX7_nears_85 rfl rfl ?_
    refine G_iadd X dX7_nears_86 ?_
    obtain ⟨g9, h⟩ := gd_some h
    refine G_iald X rfl (rg_rs _ _ _) g9 dX7_nears_87 ?_
    refine G_iload X 3 dX7_nears_88 rfl ?_
    refine G_iconst X (v := (-1 : Int32)) dX7_nears_90 (by decide) ?_
    refine G_ixor X dX7_nears_91 ?_
    refine G_iand X dX7_nears_92 ?_
    obtain ⟨v10, ev10, h⟩ := nm_some h
    refine G_nmi ev10 ?_
    obtain ⟨g11, h⟩ := gd_some h
    obtain ⟨x12, ex12, h⟩ := nm_some h
    refine G_iast X (T' := rs T 9 x12) rfl (rg_rs _ _ _) g11 (by rw [rs_rs, ex12]) dX7_nears_93 ?_
    obtain rfl := Option.some.inj h
    exact hf _ _ dX7_nears_94
  · have h := it_f c8 h
    refine G_aload_n X 0 dX7_nears_64 rfl rfl ?_
    refine f_X7_20 X rfl rfl dX7_nears_65 ?_
    refine G_bipush X (v := (13 : Int32)) dX7_nears_68 (by decide) ?_
    refine G_iload_n X 1 dX7_nears_70 rfl rfl ?_
    refine G_iadd X dX7_nears_71 ?_
    obtain ⟨g13, h⟩ := gd_some h
    refine G_iald X rfl (rg_rs _ _ _) g13 dX7_nears_72 ?_
    refine G_iload X 3 dX7_nears_73 rfl ?_
    refine G_ior X dX7_nears_75 ?_
    refine G_goto X (tgt := 93) dX7_nears_76 (by decide) ?_
    obtain ⟨v14, ev14, h⟩ := nm_some h
    refine G_nmi ev14 ?_
    obtain ⟨g15, h⟩ := gd_some h
    obtain ⟨x16, ex16, h⟩ := nm_some h
    refine G_iast X (T' := rs T 9 x16) rfl (rg_rs _ _ _) g15 (by rw [rs_rs, ex16]) dX7_nears_93 ?_
    obtain rfl := Option.some.inj h
    exact hf _ _ dX7_nears_94
set_option maxRecDepth 20000 in
theorem gX7_nears {g : GX} {T : TT}  {m : St} {a1 : Int32} {a2 : Int32} {a3 : Int32} {res : St} (X : CX g RX7 cX7_nears 6 0 0)  (hf : FinV g cX7_nears (rs T 9 res)) (h : sX7_nears m a1 a2 a3 = some res) : G g 0 0 (rs T 9 m) 0 [(0, .ref (xE (gκ g) 9 0 0)), (1, .int a1), (2, .int a2), (3, .int a3)] [] := by
  unfold sX7_nears at h
  refine G_iconst X (v := (1 : Int32)) dX7_nears_0 (by decide) ?_
  refine G_iload_n X 2 dX7_nears_1 rfl rfl ?_
  refine G_ishl X dX7_nears_2 ?_
  obtain ⟨v1, ev1, h⟩ := nm_some h
  refine G_nmi ev1 ?_
  refine G_istore X (lv' := [(4, .int v1), (0, .ref (xE (gκ g) 9 0 0)), (1, .int a1), (2, .int a2), (3, .int a3)]) dX7_nears_3 (by decide) rfl ?_
  refine G_iconst X (v := (1 : Int32)) dX7_nears_5 (by decide) ?_
  refine G_iload_n X 2 dX7_nears_6 rfl rfl ?_
  refine G_ishl X dX7_nears_7 ?_
  obtain ⟨v2, ev2, h⟩ := nm_some h
  refine G_nmi ev2 ?_
  refine G_istore X (lv' := [(5, .int v2), (4, .int v1), (0, .ref (xE (gκ g) 9 0 0)), (1, .int a1), (2, .int a2), (3, .int a3)]) dX7_nears_8 (by decide) rfl ?_
  refine G_aload_n X 2 dX7_nears_10 rfl rfl ?_
  refine f_X7_20 X rfl rfl dX7_nears_11 ?_
  refine G_bipush X (v := (13 : Int32)) dX7_nears_14 (by decide) ?_
  refine G_iload_n X 3 dX7_nears_16 rfl rfl ?_
  refine G_iadd X dX7_nears_17 ?_
  refine G_iload_n X 5 dX7_nears_18 rfl rfl ?_
  refine G_if_eq X (tgt := 37) dX7_nears_19 (by decide) (fun c3 => ?_) (fun c3 => ?_)
  · have h := it_t c3 h
    refine G_aload_n X 2 dX7_nears_37 rfl rfl ?_
    refine f_X7_20 X rfl rfl dX7_nears_38 ?_
    refine G_bipush X (v := (13 : Int32)) dX7_nears_41 (by decide) ?_
    refine G_iload_n X 3 dX7_nears_43 rfl rfl ?_
    refine G_iadd X dX7_nears_44 ?_
    obtain ⟨g4, h⟩ := gd_some h
    refine G_iald X rfl (rg_rs _ _ _) g4 dX7_nears_45 ?_
    refine G_iload X 1 dX7_nears_46 rfl ?_
    refine G_iconst X (v := (-1 : Int32)) dX7_nears_48 (by decide) ?_
    refine G_ixor X dX7_nears_49 ?_
    refine G_iand X dX7_nears_50 ?_
    refine G_sub [2, 4, 5, 0] rfl ?_
    exact gX7_nears_b51 X hf h
  · have h := it_f c3 h
    refine G_aload_n X 2 dX7_nears_22 rfl rfl ?_
    refine f_X7_20 X rfl rfl dX7_nears_23 ?_
    refine G_bipush X (v := (13 : Int32)) dX7_nears_26 (by decide) ?_
    refine G_iload_n X 3 dX7_nears_28 rfl rfl ?_
    refine G_iadd X dX7_nears_29 ?_
    obtain ⟨g5, h⟩ := gd_some h
    refine G_iald X rfl (rg_rs _ _ _) g5 dX7_nears_30 ?_
    refine G_iload X 1 dX7_nears_31 rfl ?_
    refine G_ior X dX7_nears_33 ?_
    refine G_goto X (tgt := 51) dX7_nears_34 (by decide) ?_
    refine G_sub [2, 4, 5, 0] rfl ?_
    exact gX7_nears_b51 X hf h
set_option maxRecDepth 20000 in
theorem ct_X7_nears {l : Launch} {κ : KX} {T : TT}  {m : St} {a1 : Int32} {a2 : Int32} {a3 : Int32} {res : St}  (h : sX7_nears m a1 a2 a3 = some res) : Ct l κ yX7_nears cX7_nears 6 none 0 0 [.ref (xE κ 9 0 0), .int a1, .int a2, .int a3] (rs T 9 m) (rs T 9 res) none := by
  refine Ct_v RX7 rfl (by decide +kernel) (Nat.le_of_ble_eq_true rfl) (fun g hl hκ X hf => ?_)
  subst hl; subst hκ
  exact gX7_nears X  hf h
set_option maxRecDepth 20000 in
theorem gX7_readsNear_b77 {g : GX} {T : TT}  {m : St} {a1 : Int32} {a2 : Int32} {res : St}  (X : CX g RX7 cX7_readsNear 3 3 64)  (hf : FinV g cX7_readsNear (rs T 9 res))   (h : sX7_readsNear_b77  m a1 a2 = some res) : G g 0 0 (rs T 9 m) 77 [(0, .ref (xE (gκ g) 9 0 0)), (1, .int a1), (2, .int a2)] [] := by
  unfold sX7_readsNear_b77 at h
  refine G_aload_n X 0 dX7_readsNear_77 rfl rfl ?_
  obtain ⟨q18, hq18, h⟩ := bd_some h
  refine G_callV X (As := []) (rest := []) (T' := rs T 9 m) (st2 := [.int q18]) (ct_X7_isGood (l := g.2.1) (κ := gκ g)   hq18) cal_X7_isGood wM_X7_121 wI_X7_isGood wS_X7_isGood rfl rfl (by decide) rfl rfl (Nat.le_of_ble_eq_true rfl) ⟨Nat.zero_le _, Nat.zero_le _⟩ dX7_readsNear_78 rfl ?_
  refine G_if_ne X (tgt := 85) dX7_readsNear_81 (by decide) (fun c19 => ?_) (fun c19 => ?_)
  · have h := it_t c19 h
    refine G_aload_n X 0 dX7_readsNear_85 rfl rfl ?_
    obtain ⟨q20, hq20, h⟩ := bd_some h
    refine G_callV X (As := []) (rest := []) (T' := rs T 9 q20) (st2 := []) (ct_X7_goOn (l := g.2.1) (κ := gκ g)   hq20) cal_X7_goOn wM_X7_131 wI_X7_goOn wS_X7_goOn rfl rfl (by decide) rfl rfl (Nat.le_of_ble_eq_true rfl) ⟨Nat.zero_le _, Nat.zero_le _⟩ dX7_readsNear_86 rfl ?_
    refine G_aload_n X 0 dX7_readsNear_89 rfl rfl ?_
    refine G_iload_n X 1 dX7_readsNear_90 rfl rfl ?_
    refine G_iload_n X 2 dX7_readsNear_91 rfl rfl ?_
    refine G_iconst X (v := (1 : Int32)) dX7_readsNear_92 (by decide) ?_
    obtain ⟨q21, hq21, h⟩ := bd_some h
    refine G_callV X (As := [.int a1, .int a2, .int ((1 : Int32))]) (rest := []) (T' := rs T 9 q21) (st2 := []) (ct_X7_nears (l := g.2.1) (κ := gκ g)   hq21) cal_X7_nears wM_X7_211 wI_X7_nears wS_X7_nears rfl rfl (by decide) rfl rfl (Nat.le_of_ble_eq_true rfl) ⟨Nat.zero_le _, Nat.zero_le _⟩ dX7_readsNear_93 rfl ?_
    obtain rfl := Option.some.inj h
    exact hf _ _ dX7_readsNear_96
  · have h := it_f (fun k => k c19) h
    obtain rfl := Option.some.inj h
    exact hf _ _ dX7_readsNear_84
set_option maxRecDepth 20000 in
theorem gX7_readsNear_b60 {g : GX} {T : TT}  {m : St} {a1 : Int32} {a2 : Int32} {res : St}  (X : CX g RX7 cX7_readsNear 3 3 64)  (hf : FinV g cX7_readsNear (rs T 9 res))   (h : sX7_readsNear_b60  m a1 a2 = some res) : G g 0 0 (rs T 9 m) 60 [(0, .ref (xE (gκ g) 9 0 0)), (1, .int a1), (2, .int a2)] [] := by
  unfold sX7_readsNear_b60 at h
  refine G_aload_n X 0 dX7_readsNear_60 rfl rfl ?_
  obtain ⟨q13, hq13, h⟩ := bd_some h
  refine G_callV X (As := []) (rest := []) (T' := rs T 9 m) (st2 := [.int q13]) (ct_X7_isGood (l := g.2.1) (κ := gκ g)   hq13) cal_X7_isGood wM_X7_121 wI_X7_isGood wS_X7_isGood rfl rfl (by decide) rfl rfl (Nat.le_of_ble_eq_true rfl) ⟨Nat.zero_le _, Nat.zero_le _⟩ dX7_readsNear_61 rfl ?_
  refine G_if_eq X (tgt := 77) dX7_readsNear_64 (by decide) (fun c14 => ?_) (fun c14 => ?_)
  · have h := it_t c14 h
    exact gX7_readsNear_b77 X hf h
  · have h := it_f c14 h
    refine G_iload_n X 2 dX7_readsNear_67 rfl rfl ?_
    refine G_iconst X (v := (-1 : Int32)) dX7_readsNear_68 (by decide) ?_
    refine G_icmp_ne X (tgt := 77) dX7_readsNear_69 (by decide) (fun c15 => ?_) (fun c15 => ?_)
    · have h := it_t c15 h
      exact gX7_readsNear_b77 X hf h
    · have h := it_f (fun k => k c15) h
      refine G_aload_n X 0 dX7_readsNear_72 rfl rfl ?_
      refine G_iconst X (v := (4 : Int32)) dX7_readsNear_73 (by decide) ?_
      obtain ⟨q16, hq16, h⟩ := bd_some h
      refine G_callV X (As := [.int ((4 : Int32))]) (rest := []) (T' := rs T 9 q16) (st2 := []) (ct_X7_wrong (l := g.2.1) (κ := gκ g)   hq16) cal_X7_wrong wM_X7_128 wI_X7_wrong wS_X7_wrong rfl rfl (by decide) rfl rfl (Nat.le_of_ble_eq_true rfl) ⟨Nat.zero_le _, Nat.zero_le _⟩ dX7_readsNear_74 rfl ?_
      exact gX7_readsNear_b77 X hf h
set_option maxRecDepth 20000 in
theorem gX7_readsNear_b55 {g : GX} {T : TT}  {m : St} {a1 : Int32} {a2 : Int32} {res : St}  (X : CX g RX7 cX7_readsNear 3 3 64)  (hf : FinV g cX7_readsNear (rs T 9 res))   (h : sX7_readsNear_b55  m a1 a2 = some res) : G g 0 0 (rs T 9 m) 55 [(0, .ref (xE (gκ g) 9 0 0)), (1, .int a1), (2, .int a2)] [] := by
  unfold sX7_readsNear_b55 at h
  refine G_aload_n X 0 dX7_readsNear_55 rfl rfl ?_
  refine G_iconst X (v := (3 : Int32)) dX7_readsNear_56 (by decide) ?_
  obtain ⟨q17, hq17, h⟩ := bd_some h
  refine G_callV X (As := [.int ((3 : Int32))]) (rest := []) (T' := rs T 9 q17) (st2 := []) (ct_X7_wrong (l := g.2.1) (κ := gκ g)   hq17) cal_X7_wrong wM_X7_128 wI_X7_wrong wS_X7_wrong rfl rfl (by decide) rfl rfl (Nat.le_of_ble_eq_true rfl) ⟨Nat.zero_le _, Nat.zero_le _⟩ dX7_readsNear_57 rfl ?_
  exact gX7_readsNear_b60 X hf h
set_option maxRecDepth 20000 in
theorem gX7_readsNear_b28 {g : GX} {T : TT}  {m : St} {a1 : Int32} {s0 : Int32} {res : St}  (X : CX g RX7 cX7_readsNear 3 3 64)  (hf : FinV g cX7_readsNear (rs T 9 res))   (h : sX7_readsNear_b28  m a1 s0 = some res) : G g 0 0 (rs T 9 m) 28 [(0, .ref (xE (gκ g) 9 0 0)), (1, .int a1)] [.int s0] := by
  unfold sX7_readsNear_b28 at h
  refine G_istore_n X (lv' := [(2, .int s0), (0, .ref (xE (gκ g) 9 0 0)), (1, .int a1)]) dX7_readsNear_28 rfl (by decide) rfl ?_
  refine G_aload_n X 1 dX7_readsNear_29 rfl rfl ?_
  obtain ⟨q7, hq7, h⟩ := bd_some h
  refine G_callV X (As := []) (rest := []) (T' := rs T 9 m) (st2 := [.int q7]) (ct_X7_isGood (l := g.2.1) (κ := gκ g)   hq7) cal_X7_isGood wM_X7_121 wI_X7_isGood wS_X7_isGood rfl rfl (by decide) rfl rfl (Nat.le_of_ble_eq_true rfl) ⟨Nat.zero_le _, Nat.zero_le _⟩ dX7_readsNear_30 rfl ?_
  refine G_if_eq X (tgt := 60) dX7_readsNear_33 (by decide) (fun c8 => ?_) (fun c8 => ?_)
  · have h := it_t c8 h
    refine G_sub [1, 2, 0] rfl ?_
    exact gX7_readsNear_b60 X hf h
  · have h := it_f c8 h
    refine G_iload_n X 0 dX7_readsNear_36 rfl rfl ?_
    refine G_iconst X (v := (-1 : Int32)) dX7_readsNear_37 (by decide) ?_
    refine G_icmp_eq X (tgt := 60) dX7_readsNear_38 (by decide) (fun c9 => ?_) (fun c9 => ?_)
    · have h := it_t c9 h
      refine G_sub [1, 2, 0] rfl ?_
      exact gX7_readsNear_b60 X hf h
    · have h := it_f c9 h
      refine G_iload_n X 0 dX7_readsNear_41 rfl rfl ?_
      refine G_iload_n X 2 dX7_readsNear_42 rfl rfl ?_
      refine G_icmp_eq X (tgt := 55) dX7_readsNear_43 (by decide) (fun c10 => ?_) (fun c10 => ?_)
      · have h := it_t c10 h
        refine G_sub [1, 2, 0] rfl ?_
        exact gX7_readsNear_b55 X hf h
      · have h := it_f c10 h
        refine G_aload_n X 1 dX7_readsNear_46 rfl rfl ?_
        refine G_iload_n X 2 dX7_readsNear_47 rfl rfl ?_
        refine G_iload_n X 0 dX7_readsNear_48 rfl rfl ?_
        obtain ⟨q11, hq11, h⟩ := bd_some h
        refine G_callV X (As := [.int a1, .int s0]) (rest := []) (T' := rs T 9 m) (st2 := [.int q11]) (ct_X7_areNear (l := g.2.1) (κ := gκ g)   hq11) cal_X7_areNear wM_X7_208 wI_X7_areNear wS_X7_areNear rfl rfl (by decide) rfl rfl (Nat.le_of_ble_eq_true rfl) ⟨Nat.zero_le _, Nat.zero_le _⟩ dX7_readsNear_49 rfl ?_
        refine G_if_eq X (tgt := 60) dX7_readsNear_52 (by decide) (fun c12 => ?_) (fun c12 => ?_)
        · have h := it_t c12 h
          refine G_sub [1, 2, 0] rfl ?_
          exact gX7_readsNear_b60 X hf h
        · have h := it_f c12 h
          refine G_sub [1, 2, 0] rfl ?_
          exact gX7_readsNear_b55 X hf h
set_option maxRecDepth 20000 in
theorem gX7_readsNear {g : GX} {T : TT}  {m : St}  {res : St} (X : CX g RX7 cX7_readsNear 3 3 64)  (hf : FinV g cX7_readsNear (rs T 9 res)) (h : sX7_readsNear m = some res) : G g 0 0 (rs T 9 m) 0 [(0, .ref (xE (gκ g) 9 0 0))] [] := by
  unfold sX7_readsNear at h
  refine G_aload_n X 0 dX7_readsNear_0 rfl rfl ?_
  obtain ⟨q1, hq1, h⟩ := bd_some h
  refine G_callV X (As := []) (rest := []) (T' := rs T 9 q1) (st2 := []) (ct_X7_goOn (l := g.2.1) (κ := gκ g)   hq1) cal_X7_goOn wM_X7_131 wI_X7_goOn wS_X7_goOn rfl rfl (by decide) rfl rfl (Nat.le_of_ble_eq_true rfl) ⟨Nat.zero_le _, Nat.zero_le _⟩ dX7_readsNear_1 rfl ?_
  refine G_aload_n X 0 dX7_readsNear_4 rfl rfl ?_
  obtain ⟨q2, hq2, h⟩ := bd_some h
  refine G_callV X (As := []) (rest := []) (T' := rs T 9 q2.1) (st2 := [.int q2.2]) (ct_X7_told (l := g.2.1) (κ := gκ g)   hq2) cal_X7_told wM_X7_205 wI_X7_told wS_X7_told rfl rfl (by decide) rfl rfl (Nat.le_of_ble_eq_true rfl) ⟨Nat.zero_le _, Nat.zero_le _⟩ dX7_readsNear_5 rfl ?_
  refine G_istore_n X (lv' := [(1, .int q2.2), (0, .ref (xE (gκ g) 9 0 0))]) dX7_readsNear_8 rfl (by decide) rfl ?_
  refine G_aload_n X 1 dX7_readsNear_9 rfl rfl ?_
  obtain ⟨q3, hq3, h⟩ := bd_some h
  refine G_callV X (As := []) (rest := []) (T' := rs T 9 q3) (st2 := []) (ct_X7_mustBeWord (l := g.2.1) (κ := gκ g)   hq3) cal_X7_mustBeWord wM_X7_170 wI_X7_mustBeWord wS_X7_mustBeWord rfl rfl (by decide) rfl rfl (Nat.le_of_ble_eq_true rfl) ⟨Nat.zero_le _, Nat.zero_le _⟩ dX7_readsNear_10 rfl ?_
  refine G_aload_n X 1 dX7_readsNear_13 rfl rfl ?_
  obtain ⟨q4, hq4, h⟩ := bd_some h
  refine G_callV X (As := []) (rest := []) (T' := rs T 9 q3) (st2 := [.int q4]) (ct_X7_isGood (l := g.2.1) (κ := gκ g)   hq4) cal_X7_isGood wM_X7_121 wI_X7_isGood wS_X7_isGood rfl rfl (by decide) rfl rfl (Nat.le_of_ble_eq_true rfl) ⟨Nat.zero_le _, Nat.zero_le _⟩ dX7_readsNear_14 rfl ?_
  refine G_if_eq X (tgt := 27) dX7_readsNear_17 (by decide) (fun c5 => ?_) (fun c5 => ?_)
  · have h := it_t c5 h
    refine G_iconst X (v := (-1 : Int32)) dX7_readsNear_27 (by decide) ?_
    refine G_sub [1, 0] rfl ?_
    exact gX7_readsNear_b28 X hf h
  · have h := it_f c5 h
    refine G_aload_n X 1 dX7_readsNear_20 rfl rfl ?_
    obtain ⟨q6, hq6, h⟩ := bd_some h
    refine G_callV X (As := []) (rest := []) (T' := rs T 9 q3) (st2 := [.int q6]) (ct_X7_named (l := g.2.1) (κ := gκ g)   hq6) cal_X7_named wM_X7_173 wI_X7_named wS_X7_named rfl rfl (by decide) rfl rfl (Nat.le_of_ble_eq_true rfl) ⟨Nat.zero_le _, Nat.zero_le _⟩ dX7_readsNear_21 rfl ?_
    refine G_goto X (tgt := 28) dX7_readsNear_24 (by decide) ?_
    refine G_sub [1, 0] rfl ?_
    exact gX7_readsNear_b28 X hf h
set_option maxRecDepth 20000 in
theorem ct_X7_readsNear {l : Launch} {κ : KX} {T : TT}  {m : St}  {res : St}  (h : sX7_readsNear m = some res) : Ct l κ yX7_readsNear cX7_readsNear 3 none 3 64 [.ref (xE κ 9 0 0)] (rs T 9 m) (rs T 9 res) none := by
  refine Ct_v RX7 rfl (by decide +kernel) (Nat.le_of_ble_eq_true rfl) (fun g hl hκ X hf => ?_)
  subst hl; subst hκ
  exact gX7_readsNear X  hf h
set_option maxRecDepth 20000 in
theorem gX7_statement_b182 {g : GX} {T : TT}  {m : St}  {res : St}  (X : CX g RX7 cX7_statement 2 5 117)  (hf : FinV g cX7_statement (rs T 9 res))   (h : sX7_statement_b182  m = some res) : G g 0 0 (rs T 9 m) 182 [(0, .ref (xE (gκ g) 9 0 0))] [] := by
  unfold sX7_statement_b182 at h
  refine G_aload_n X 0 dX7_statement_182 rfl rfl ?_
  refine G_bipush X (v := (59 : Int32)) dX7_statement_183 (by decide) ?_
  obtain ⟨q29, hq29, h⟩ := bd_some h
  refine G_callV X (As := [.int ((59 : Int32))]) (rest := []) (T' := rs T 9 q29) (st2 := []) (ct_X7_mustSign (l := g.2.1) (κ := gκ g)   hq29) cal_X7_mustSign wM_X7_236 wI_X7_mustSign wS_X7_mustSign rfl rfl (by decide) rfl rfl (Nat.le_of_ble_eq_true rfl) ⟨Nat.zero_le _, Nat.zero_le _⟩ dX7_statement_185 rfl ?_
  obtain rfl := Option.some.inj h
  exact hf _ _ dX7_statement_188
set_option maxRecDepth 20000 in
theorem gX7_statement_b17 {g : GX} {T : TT}   {res : St}  (X : CX g RX7 cX7_statement 2 5 117)  (hf : FinV g cX7_statement (rs T 9 res))  : ∀ (n : Nat) (m : St) (a1 : Int32) (h : sX7_statement_b17 n  m a1 = some res), G g 0 0 (rs T 9 m) 17 [(0, .ref (xE (gκ g) 9 0 0)), (1, .int a1)] [] := by
  intro n
  induction n with
  | zero => intro m a1 h; unfold sX7_statement_b17 at h; cases h
  | succ n ih =>
    intro m a1 h
    unfold sX7_statement_b17 at h
    refine G_iload_n X 1 dX7_statement_17 rfl rfl ?_
    refine G_iconst X (v := (4 : Int32)) dX7_statement_18 (by decide) ?_
    refine G_icmp_ge X (tgt := 44) dX7_statement_19 (by decide) (fun c30 => ?_) (fun c30 => ?_)
    · have h := it_t c30 h
      refine G_goto X (tgt := 182) dX7_statement_44 (by decide) ?_
      refine G_sub [0] rfl ?_
      exact gX7_statement_b182 X hf h
    · have h := it_f c30 h
      refine G_aload_n X 0 dX7_statement_22 rfl rfl ?_
      refine f_X7_20 X rfl rfl dX7_statement_23 ?_
      refine G_bipush X (v := (8 : Int32)) dX7_statement_26 (by decide) ?_
      refine G_iload_n X 1 dX7_statement_28 rfl rfl ?_
      refine G_iadd X dX7_statement_29 ?_
      refine G_aload_n X 0 dX7_statement_30 rfl rfl ?_
      refine G_iconst X (v := (0 : Int32)) dX7_statement_31 (by decide) ?_
      refine G_bipush X (v := (99 : Int32)) dX7_statement_32 (by decide) ?_
      obtain ⟨q31, hq31, h⟩ := bd_some h
      refine G_callV X (As := [.int ((0 : Int32)), .int ((99 : Int32))]) (rest := [.int (((8 : Int32)) + a1), .ref (xE (gκ g) 9 0 2)]) (T' := rs T 9 q31.1) (st2 := [.int q31.2, .int (((8 : Int32)) + a1), .ref (xE (gκ g) 9 0 2)]) (ct_X7_number (l := g.2.1) (κ := gκ g)   hq31) cal_X7_number wM_X7_184 wI_X7_number wS_X7_number rfl rfl (by decide) rfl rfl (Nat.le_of_ble_eq_true rfl) ⟨Nat.zero_le _, Nat.zero_le _⟩ dX7_statement_34 rfl ?_
      obtain ⟨g32, h⟩ := gd_some h
      obtain ⟨x33, ex33, h⟩ := nm_some h
      refine G_iast X (T' := rs T 9 x33) rfl (rg_rs _ _ _) g32 (by rw [rs_rs, ex33]) dX7_statement_37 ?_
      obtain ⟨v34, ev34, h⟩ := nm_some h
      refine G_iinc X (v := v34) (lv' := [(1, .int v34), (0, .ref (xE (gκ g) 9 0 0))]) 1 dX7_statement_38 rfl (by rw [ev34]; rfl) (by decide) rfl ?_
      refine G_goto X (tgt := 17) dX7_statement_41 (by decide) ?_
      refine G_sub [1, 0] rfl ?_
      exact ih _ _ h
set_option maxRecDepth 20000 in
theorem gX7_statement {g : GX} {T : TT}  {m : St}  {res : St} (X : CX g RX7 cX7_statement 2 5 117)  (hf : FinV g cX7_statement (rs T 9 res)) (h : sX7_statement m = some res) : G g 0 0 (rs T 9 m) 0 [(0, .ref (xE (gκ g) 9 0 0))] [] := by
  unfold sX7_statement at h
  refine G_aload_n X 0 dX7_statement_0 rfl rfl ?_
  refine G_ldc2_w X (v := (3657363 : Int64)) dX7_statement_1 wK_X7_215 ?_
  obtain ⟨q1, hq1, h⟩ := bd_some h
  refine G_callV X (As := [.long ((3657363 : Int64))]) (rest := []) (T' := rs T 9 m) (st2 := [.int q1]) (ct_X7_isWord (l := g.2.1) (κ := gκ g)   hq1) cal_X7_isWord wM_X7_134 wI_X7_isWord wS_X7_isWord rfl rfl (by decide) rfl rfl (Nat.le_of_ble_eq_true rfl) ⟨Nat.zero_le _, Nat.zero_le _⟩ dX7_statement_4 rfl ?_
  refine G_if_eq X (tgt := 47) dX7_statement_7 (by decide) (fun c2 => ?_) (fun c2 => ?_)
  · have h := it_t c2 h
    refine G_aload_n X 0 dX7_statement_47 rfl rfl ?_
    refine G_ldc2_w X (v := (627876 : Int64)) dX7_statement_48 wK_X7_220 ?_
    obtain ⟨q3, hq3, h⟩ := bd_some h
    refine G_callV X (As := [.long ((627876 : Int64))]) (rest := []) (T' := rs T 9 m) (st2 := [.int q3]) (ct_X7_isWord (l := g.2.1) (κ := gκ g)   hq3) cal_X7_isWord wM_X7_134 wI_X7_isWord wS_X7_isWord rfl rfl (by decide) rfl rfl (Nat.le_of_ble_eq_true rfl) ⟨Nat.zero_le _, Nat.zero_le _⟩ dX7_statement_51 rfl ?_
    refine G_if_eq X (tgt := 80) dX7_statement_54 (by decide) (fun c4 => ?_) (fun c4 => ?_)
    · have h := it_t c4 h
      refine G_aload_n X 0 dX7_statement_80 rfl rfl ?_
      refine G_ldc2_w X (v := (21570739 : Int64)) dX7_statement_81 wK_X7_222 ?_
      obtain ⟨q5, hq5, h⟩ := bd_some h
      refine G_callV X (As := [.long ((21570739 : Int64))]) (rest := []) (T' := rs T 9 m) (st2 := [.int q5]) (ct_X7_isWord (l := g.2.1) (κ := gκ g)   hq5) cal_X7_isWord wM_X7_134 wI_X7_isWord wS_X7_isWord rfl rfl (by decide) rfl rfl (Nat.le_of_ble_eq_true rfl) ⟨Nat.zero_le _, Nat.zero_le _⟩ dX7_statement_84 rfl ?_
      refine G_if_eq X (tgt := 111) dX7_statement_87 (by decide) (fun c6 => ?_) (fun c6 => ?_)
      · have h := it_t c6 h
        refine G_aload_n X 0 dX7_statement_111 rfl rfl ?_
        refine G_ldc2_w X (v := (441892441 : Int64)) dX7_statement_112 wK_X7_224 ?_
        obtain ⟨q7, hq7, h⟩ := bd_some h
        refine G_callV X (As := [.long ((441892441 : Int64))]) (rest := []) (T' := rs T 9 m) (st2 := [.int q7]) (ct_X7_isWord (l := g.2.1) (κ := gκ g)   hq7) cal_X7_isWord wM_X7_134 wI_X7_isWord wS_X7_isWord rfl rfl (by decide) rfl rfl (Nat.le_of_ble_eq_true rfl) ⟨Nat.zero_le _, Nat.zero_le _⟩ dX7_statement_115 rfl ?_
        refine G_if_eq X (tgt := 143) dX7_statement_118 (by decide) (fun c8 => ?_) (fun c8 => ?_)
        · have h := it_t c8 h
          refine G_aload_n X 0 dX7_statement_143 rfl rfl ?_
          refine G_ldc2_w X (v := (72388078 : Int64)) dX7_statement_144 wK_X7_226 ?_
          obtain ⟨q9, hq9, h⟩ := bd_some h
          refine G_callV X (As := [.long ((72388078 : Int64))]) (rest := []) (T' := rs T 9 m) (st2 := [.int q9]) (ct_X7_isWord (l := g.2.1) (κ := gκ g)   hq9) cal_X7_isWord wM_X7_134 wI_X7_isWord wS_X7_isWord rfl rfl (by decide) rfl rfl (Nat.le_of_ble_eq_true rfl) ⟨Nat.zero_le _, Nat.zero_le _⟩ dX7_statement_147 rfl ?_
          refine G_if_eq X (tgt := 160) dX7_statement_150 (by decide) (fun c10 => ?_) (fun c10 => ?_)
          · have h := it_t c10 h
            refine G_aload_n X 0 dX7_statement_160 rfl rfl ?_
            refine G_ldc2_w X (v := (463922 : Int64)) dX7_statement_161 wK_X7_231 ?_
            obtain ⟨q11, hq11, h⟩ := bd_some h
            refine G_callV X (As := [.long ((463922 : Int64))]) (rest := []) (T' := rs T 9 m) (st2 := [.int q11]) (ct_X7_isWord (l := g.2.1) (κ := gκ g)   hq11) cal_X7_isWord wM_X7_134 wI_X7_isWord wS_X7_isWord rfl rfl (by decide) rfl rfl (Nat.le_of_ble_eq_true rfl) ⟨Nat.zero_le _, Nat.zero_le _⟩ dX7_statement_164 rfl ?_
            refine G_if_eq X (tgt := 177) dX7_statement_167 (by decide) (fun c12 => ?_) (fun c12 => ?_)
            · have h := it_t c12 h
              refine G_aload_n X 0 dX7_statement_177 rfl rfl ?_
              refine G_iconst X (v := (1 : Int32)) dX7_statement_178 (by decide) ?_
              obtain ⟨q13, hq13, h⟩ := bd_some h
              refine G_callV X (As := [.int ((1 : Int32))]) (rest := []) (T' := rs T 9 q13) (st2 := []) (ct_X7_wrong (l := g.2.1) (κ := gκ g)   hq13) cal_X7_wrong wM_X7_128 wI_X7_wrong wS_X7_wrong rfl rfl (by decide) rfl rfl (Nat.le_of_ble_eq_true rfl) ⟨Nat.zero_le _, Nat.zero_le _⟩ dX7_statement_179 rfl ?_
              exact gX7_statement_b182 X hf h
            · have h := it_f c12 h
              refine G_aload_n X 0 dX7_statement_170 rfl rfl ?_
              obtain ⟨q14, hq14, h⟩ := bd_some h
              refine G_callV X (As := []) (rest := []) (T' := rs T 9 q14) (st2 := []) (ct_X7_readsNear (l := g.2.1) (κ := gκ g)   hq14) cal_X7_readsNear wM_X7_233 wI_X7_readsNear wS_X7_readsNear rfl rfl (by decide) rfl rfl (Nat.le_of_ble_eq_true rfl) ⟨Nat.zero_le _, Nat.zero_le _⟩ dX7_statement_171 rfl ?_
              refine G_goto X (tgt := 182) dX7_statement_174 (by decide) ?_
              exact gX7_statement_b182 X hf h
          · have h := it_f c10 h
            refine G_aload_n X 0 dX7_statement_153 rfl rfl ?_
            obtain ⟨q15, hq15, h⟩ := bd_some h
            refine G_callV X (As := []) (rest := []) (T' := rs T 9 q15) (st2 := []) (ct_X7_readsBeacon (l := g.2.1) (κ := gκ g)   hq15) cal_X7_readsBeacon wM_X7_228 wI_X7_readsBeacon wS_X7_readsBeacon rfl rfl (by decide) rfl rfl (Nat.le_of_ble_eq_true rfl) ⟨Nat.zero_le _, Nat.zero_le _⟩ dX7_statement_154 rfl ?_
            refine G_goto X (tgt := 182) dX7_statement_157 (by decide) ?_
            exact gX7_statement_b182 X hf h
        · have h := it_f c8 h
          refine G_aload_n X 0 dX7_statement_121 rfl rfl ?_
          refine G_iconst X (v := (3 : Int32)) dX7_statement_122 (by decide) ?_
          obtain ⟨q16, hq16, h⟩ := bd_some h
          refine G_callV X (As := [.int ((3 : Int32))]) (rest := []) (T' := rs T 9 q16) (st2 := []) (ct_X7_once (l := g.2.1) (κ := gκ g)   hq16) cal_X7_once wM_X7_217 wI_X7_once wS_X7_once rfl rfl (by decide) rfl rfl (Nat.le_of_ble_eq_true rfl) ⟨Nat.zero_le _, Nat.zero_le _⟩ dX7_statement_123 rfl ?_
          refine G_aload_n X 0 dX7_statement_126 rfl rfl ?_
          refine f_X7_20 X rfl rfl dX7_statement_127 ?_
          refine G_iconst X (v := (3 : Int32)) dX7_statement_130 (by decide) ?_
          refine G_aload_n X 0 dX7_statement_131 rfl rfl ?_
          refine G_iconst X (v := (1 : Int32)) dX7_statement_132 (by decide) ?_
          refine G_sipush X (v := (999 : Int32)) dX7_statement_133 (by decide) ?_
          obtain ⟨q17, hq17, h⟩ := bd_some h
          refine G_callV X (As := [.int ((1 : Int32)), .int ((999 : Int32))]) (rest := [.int ((3 : Int32)), .ref (xE (gκ g) 9 0 2)]) (T' := rs T 9 q17.1) (st2 := [.int q17.2, .int ((3 : Int32)), .ref (xE (gκ g) 9 0 2)]) (ct_X7_number (l := g.2.1) (κ := gκ g)   hq17) cal_X7_number wM_X7_184 wI_X7_number wS_X7_number rfl rfl (by decide) rfl rfl (Nat.le_of_ble_eq_true rfl) ⟨Nat.zero_le _, Nat.zero_le _⟩ dX7_statement_136 rfl ?_
          obtain ⟨g18, h⟩ := gd_some h
          obtain ⟨x19, ex19, h⟩ := nm_some h
          refine G_iast X (T' := rs T 9 x19) rfl (rg_rs _ _ _) g18 (by rw [rs_rs, ex19]) dX7_statement_139 ?_
          refine G_goto X (tgt := 182) dX7_statement_140 (by decide) ?_
          exact gX7_statement_b182 X hf h
      · have h := it_f c6 h
        refine G_aload_n X 0 dX7_statement_90 rfl rfl ?_
        refine G_iconst X (v := (2 : Int32)) dX7_statement_91 (by decide) ?_
        obtain ⟨q20, hq20, h⟩ := bd_some h
        refine G_callV X (As := [.int ((2 : Int32))]) (rest := []) (T' := rs T 9 q20) (st2 := []) (ct_X7_once (l := g.2.1) (κ := gκ g)   hq20) cal_X7_once wM_X7_217 wI_X7_once wS_X7_once rfl rfl (by decide) rfl rfl (Nat.le_of_ble_eq_true rfl) ⟨Nat.zero_le _, Nat.zero_le _⟩ dX7_statement_92 rfl ?_
        refine G_aload_n X 0 dX7_statement_95 rfl rfl ?_
        refine f_X7_20 X rfl rfl dX7_statement_96 ?_
        refine G_iconst X (v := (2 : Int32)) dX7_statement_99 (by decide) ?_
        refine G_aload_n X 0 dX7_statement_100 rfl rfl ?_
        refine G_iconst X (v := (1 : Int32)) dX7_statement_101 (by decide) ?_
        refine G_bipush X (v := (9 : Int32)) dX7_statement_102 (by decide) ?_
        obtain ⟨q21, hq21, h⟩ := bd_some h
        refine G_callV X (As := [.int ((1 : Int32)), .int ((9 : Int32))]) (rest := [.int ((2 : Int32)), .ref (xE (gκ g) 9 0 2)]) (T' := rs T 9 q21.1) (st2 := [.int q21.2, .int ((2 : Int32)), .ref (xE (gκ g) 9 0 2)]) (ct_X7_number (l := g.2.1) (κ := gκ g)   hq21) cal_X7_number wM_X7_184 wI_X7_number wS_X7_number rfl rfl (by decide) rfl rfl (Nat.le_of_ble_eq_true rfl) ⟨Nat.zero_le _, Nat.zero_le _⟩ dX7_statement_104 rfl ?_
        obtain ⟨g22, h⟩ := gd_some h
        obtain ⟨x23, ex23, h⟩ := nm_some h
        refine G_iast X (T' := rs T 9 x23) rfl (rg_rs _ _ _) g22 (by rw [rs_rs, ex23]) dX7_statement_107 ?_
        refine G_goto X (tgt := 182) dX7_statement_108 (by decide) ?_
        exact gX7_statement_b182 X hf h
    · have h := it_f c4 h
      refine G_aload_n X 0 dX7_statement_57 rfl rfl ?_
      refine G_iconst X (v := (1 : Int32)) dX7_statement_58 (by decide) ?_
      obtain ⟨q24, hq24, h⟩ := bd_some h
      refine G_callV X (As := [.int ((1 : Int32))]) (rest := []) (T' := rs T 9 q24) (st2 := []) (ct_X7_once (l := g.2.1) (κ := gκ g)   hq24) cal_X7_once wM_X7_217 wI_X7_once wS_X7_once rfl rfl (by decide) rfl rfl (Nat.le_of_ble_eq_true rfl) ⟨Nat.zero_le _, Nat.zero_le _⟩ dX7_statement_59 rfl ?_
      refine G_aload_n X 0 dX7_statement_62 rfl rfl ?_
      refine f_X7_20 X rfl rfl dX7_statement_63 ?_
      refine G_bipush X (v := (7 : Int32)) dX7_statement_66 (by decide) ?_
      refine G_aload_n X 0 dX7_statement_68 rfl rfl ?_
      refine G_iconst X (v := (0 : Int32)) dX7_statement_69 (by decide) ?_
      refine G_sipush X (v := (999 : Int32)) dX7_statement_70 (by decide) ?_
      obtain ⟨q25, hq25, h⟩ := bd_some h
      refine G_callV X (As := [.int ((0 : Int32)), .int ((999 : Int32))]) (rest := [.int ((7 : Int32)), .ref (xE (gκ g) 9 0 2)]) (T' := rs T 9 q25.1) (st2 := [.int q25.2, .int ((7 : Int32)), .ref (xE (gκ g) 9 0 2)]) (ct_X7_number (l := g.2.1) (κ := gκ g)   hq25) cal_X7_number wM_X7_184 wI_X7_number wS_X7_number rfl rfl (by decide) rfl rfl (Nat.le_of_ble_eq_true rfl) ⟨Nat.zero_le _, Nat.zero_le _⟩ dX7_statement_73 rfl ?_
      obtain ⟨g26, h⟩ := gd_some h
      obtain ⟨x27, ex27, h⟩ := nm_some h
      refine G_iast X (T' := rs T 9 x27) rfl (rg_rs _ _ _) g26 (by rw [rs_rs, ex27]) dX7_statement_76 ?_
      refine G_goto X (tgt := 182) dX7_statement_77 (by decide) ?_
      exact gX7_statement_b182 X hf h
  · have h := it_f c2 h
    refine G_aload_n X 0 dX7_statement_10 rfl rfl ?_
    refine G_iconst X (v := (0 : Int32)) dX7_statement_11 (by decide) ?_
    obtain ⟨q28, hq28, h⟩ := bd_some h
    refine G_callV X (As := [.int ((0 : Int32))]) (rest := []) (T' := rs T 9 q28) (st2 := []) (ct_X7_once (l := g.2.1) (κ := gκ g)   hq28) cal_X7_once wM_X7_217 wI_X7_once wS_X7_once rfl rfl (by decide) rfl rfl (Nat.le_of_ble_eq_true rfl) ⟨Nat.zero_le _, Nat.zero_le _⟩ dX7_statement_12 rfl ?_
    refine G_iconst X (v := (0 : Int32)) dX7_statement_15 (by decide) ?_
    refine G_istore_n X (lv' := [(1, .int ((0 : Int32))), (0, .ref (xE (gκ g) 9 0 0))]) dX7_statement_16 rfl (by decide) rfl ?_
    refine G_sub [1, 0] rfl ?_
    exact gX7_statement_b17 X hf FU _ _ h
set_option maxRecDepth 20000 in
theorem ct_X7_statement {l : Launch} {κ : KX} {T : TT}  {m : St}  {res : St}  (h : sX7_statement m = some res) : Ct l κ yX7_statement cX7_statement 2 none 5 117 [.ref (xE κ 9 0 0)] (rs T 9 m) (rs T 9 res) none := by
  refine Ct_v RX7 rfl (by decide +kernel) (Nat.le_of_ble_eq_true rfl) (fun g hl hκ X hf => ?_)
  subst hl; subst hκ
  exact gX7_statement X  hf h
set_option maxRecDepth 20000 in
theorem gX7_readText_b49 {g : GX} {T : TT}  {m : St}  {res : St × Int32}  (X : CX g RX7 cX7_readText 1 6 138)  (hf : FinI g cX7_readText .int (rs T 9 res.1) (res.2))   (h : sX7_readText_b49  m = some res) : G g 0 0 (rs T 9 m) 49 [(0, .ref (xE (gκ g) 9 0 0))] [] := by
  unfold sX7_readText_b49 at h
  refine G_aload_n X 0 dX7_readText_49 rfl rfl ?_
  obtain ⟨q10, hq10, h⟩ := bd_some h
  refine G_callV X (As := []) (rest := []) (T' := rs T 9 q10.1) (st2 := [.int q10.2]) (ct_X7_endsText (l := g.2.1) (κ := gκ g)   hq10) cal_X7_endsText wM_X7_248 wI_X7_endsText wS_X7_endsText rfl rfl (by decide) rfl rfl (Nat.le_of_ble_eq_true rfl) ⟨Nat.zero_le _, Nat.zero_le _⟩ dX7_readText_50 rfl ?_
  refine G_if_ne X (tgt := 82) dX7_readText_53 (by decide) (fun c11 => ?_) (fun c11 => ?_)
  · have h := it_t c11 h
    refine G_aload_n X 0 dX7_readText_82 rfl rfl ?_
    refine G_iconst X (v := (0 : Int32)) dX7_readText_83 (by decide) ?_
    obtain ⟨x12, ex12, h⟩ := nm_some h
    refine p_X7_156 X (T' := rs T 9 x12) rfl (rg_rs _ _ _)  (by rw [rs_rs, ex12]) dX7_readText_84 ?_
    refine G_aload_n X 0 dX7_readText_87 rfl rfl ?_
    refine f_X7_20 X rfl rfl dX7_readText_88 ?_
    refine G_iconst X (v := (0 : Int32)) dX7_readText_91 (by decide) ?_
    obtain ⟨g13, h⟩ := gd_some h
    refine G_iald X rfl (rg_rs _ _ _) g13 dX7_readText_92 ?_
    obtain rfl := Option.some.inj h
    exact hf _ _ dX7_readText_93 rfl
  · have h := it_f (fun k => k c11) h
    refine G_aload_n X 0 dX7_readText_56 rfl rfl ?_
    refine f_X7_26 X rfl rfl dX7_readText_57 ?_
    refine G_iconst X (v := (0 : Int32)) dX7_readText_60 (by decide) ?_
    refine G_aload_n X 0 dX7_readText_61 rfl rfl ?_
    refine f_X7_20 X rfl rfl dX7_readText_62 ?_
    refine G_iconst X (v := (0 : Int32)) dX7_readText_65 (by decide) ?_
    obtain ⟨q14, hq14, h⟩ := bd_some h
    refine G_callS X (As := [.ref (xE (gκ g) 9 0 4), .int ((0 : Int32)), .ref (xE (gκ g) 9 0 2), .int ((0 : Int32))]) (rest := []) (T' := rs T 9 q14) (st2 := []) (ct_X7_copiesRow (l := g.2.1) (κ := gκ g)  rfl rfl hq14) cal_X7_copiesRow wM_X7_152 wT_X7_copiesRow (by decide) rfl rfl (Nat.le_of_ble_eq_true rfl) ⟨Nat.zero_le _, Nat.zero_le _⟩ dX7_readText_66 rfl ?_
    refine G_aload_n X 0 dX7_readText_69 rfl rfl ?_
    refine f_X7_42 X rfl rfl dX7_readText_70 ?_
    refine G_aload_n X 0 dX7_readText_73 rfl rfl ?_
    refine f_X7_35 X rfl rfl dX7_readText_74 ?_
    obtain ⟨q15, hq15, h⟩ := bd_some h
    refine G_callS X (As := [.ref (xE (gκ g) 9 0 9), .ref (xE (gκ g) 9 0 7)]) (rest := []) (T' := rs T 9 q15) (st2 := []) (ct_X7_copiesNames (l := g.2.1) (κ := gκ g)  rfl rfl hq15) cal_X7_copiesNames wM_X7_162 wT_X7_copiesNames (by decide) rfl rfl (Nat.le_of_ble_eq_true rfl) ⟨Nat.zero_le _, Nat.zero_le _⟩ dX7_readText_77 rfl ?_
    refine G_iconst X (v := (0 : Int32)) dX7_readText_80 (by decide) ?_
    obtain rfl := Option.some.inj h
    exact hf _ _ dX7_readText_81 rfl
set_option maxRecDepth 20000 in
theorem gX7_readText_b28 {g : GX} {T : TT}   {res : St × Int32}  (X : CX g RX7 cX7_readText 1 6 138)  (hf : FinI g cX7_readText .int (rs T 9 res.1) (res.2))  : ∀ (n : Nat) (m : St) (h : sX7_readText_b28 n  m = some res), G g 0 0 (rs T 9 m) 28 [(0, .ref (xE (gκ g) 9 0 0))] [] := by
  intro n
  induction n with
  | zero => intro m h; unfold sX7_readText_b28 at h; cases h
  | succ n ih =>
    intro m h
    unfold sX7_readText_b28 at h
    refine G_aload_n X 0 dX7_readText_28 rfl rfl ?_
    obtain ⟨q6, hq6, h⟩ := bd_some h
    refine G_callV X (As := []) (rest := []) (T' := rs T 9 m) (st2 := [.int q6]) (ct_X7_isGood (l := g.2.1) (κ := gκ g)   hq6) cal_X7_isGood wM_X7_121 wI_X7_isGood wS_X7_isGood rfl rfl (by decide) rfl rfl (Nat.le_of_ble_eq_true rfl) ⟨Nat.zero_le _, Nat.zero_le _⟩ dX7_readText_29 rfl ?_
    refine G_if_eq X (tgt := 49) dX7_readText_32 (by decide) (fun c7 => ?_) (fun c7 => ?_)
    · have h := it_t c7 h
      exact gX7_readText_b49 X hf h
    · have h := it_f c7 h
      refine G_aload_n X 0 dX7_readText_35 rfl rfl ?_
      refine f_X7_108 X rfl (rg_rs _ _ _) dX7_readText_36 ?_
      refine G_if_eq X (tgt := 49) dX7_readText_39 (by decide) (fun c8 => ?_) (fun c8 => ?_)
      · have h := it_t c8 h
        exact gX7_readText_b49 X hf h
      · have h := it_f c8 h
        refine G_aload_n X 0 dX7_readText_42 rfl rfl ?_
        obtain ⟨q9, hq9, h⟩ := bd_some h
        refine G_callV X (As := []) (rest := []) (T' := rs T 9 q9) (st2 := []) (ct_X7_statement (l := g.2.1) (κ := gκ g)   hq9) cal_X7_statement wM_X7_245 wI_X7_statement wS_X7_statement rfl rfl (by decide) rfl rfl (Nat.le_of_ble_eq_true rfl) ⟨Nat.zero_le _, Nat.zero_le _⟩ dX7_readText_43 rfl ?_
        refine G_goto X (tgt := 28) dX7_readText_46 (by decide) ?_
        exact ih _ h
set_option maxRecDepth 20000 in
theorem gX7_readText {g : GX} {T : TT}  {m : St}  {res : St × Int32} (X : CX g RX7 cX7_readText 1 6 138)  (hf : FinI g cX7_readText .int (rs T 9 res.1) (res.2)) (h : sX7_readText m = some res) : G g 0 0 (rs T 9 m) 0 [(0, .ref (xE (gκ g) 9 0 0))] [] := by
  unfold sX7_readText at h
  refine G_aload_n X 0 dX7_readText_0 rfl rfl ?_
  obtain ⟨q1, hq1, h⟩ := bd_some h
  refine G_callV X (As := []) (rest := []) (T' := rs T 9 q1) (st2 := []) (ct_X7_beginsText (l := g.2.1) (κ := gκ g)   hq1) cal_X7_beginsText wM_X7_239 wI_X7_beginsText wS_X7_beginsText rfl rfl (by decide) rfl rfl (Nat.le_of_ble_eq_true rfl) ⟨Nat.zero_le _, Nat.zero_le _⟩ dX7_readText_1 rfl ?_
  refine G_aload_n X 0 dX7_readText_4 rfl rfl ?_
  obtain ⟨q2, hq2, h⟩ := bd_some h
  refine G_callV X (As := []) (rest := []) (T' := rs T 9 q2) (st2 := []) (ct_X7_laysAside (l := g.2.1) (κ := gκ g)   hq2) cal_X7_laysAside wM_X7_242 wI_X7_laysAside wS_X7_laysAside rfl rfl (by decide) rfl rfl (Nat.le_of_ble_eq_true rfl) ⟨Nat.zero_le _, Nat.zero_le _⟩ dX7_readText_5 rfl ?_
  refine G_aload_n X 0 dX7_readText_8 rfl rfl ?_
  refine f_X7_35 X rfl rfl dX7_readText_9 ?_
  refine G_aload_n X 0 dX7_readText_12 rfl rfl ?_
  refine f_X7_42 X rfl rfl dX7_readText_13 ?_
  obtain ⟨q3, hq3, h⟩ := bd_some h
  refine G_callS X (As := [.ref (xE (gκ g) 9 0 7), .ref (xE (gκ g) 9 0 9)]) (rest := []) (T' := rs T 9 q3) (st2 := []) (ct_X7_copiesNames (l := g.2.1) (κ := gκ g)  rfl rfl hq3) cal_X7_copiesNames wM_X7_162 wT_X7_copiesNames (by decide) rfl rfl (Nat.le_of_ble_eq_true rfl) ⟨Nat.zero_le _, Nat.zero_le _⟩ dX7_readText_16 rfl ?_
  refine G_aload_n X 0 dX7_readText_19 rfl rfl ?_
  obtain ⟨q4, hq4, h⟩ := bd_some h
  refine G_callV X (As := []) (rest := []) (T' := rs T 9 q4) (st2 := []) (ct_X7_clears (l := g.2.1) (κ := gκ g)   hq4) cal_X7_clears wM_X7_63 wI_X7_clears wS_X7_clears rfl rfl (by decide) rfl rfl (Nat.le_of_ble_eq_true rfl) ⟨Nat.zero_le _, Nat.zero_le _⟩ dX7_readText_20 rfl ?_
  refine G_aload_n X 0 dX7_readText_23 rfl rfl ?_
  refine G_iconst X (v := (0 : Int32)) dX7_readText_24 (by decide) ?_
  obtain ⟨x5, ex5, h⟩ := nm_some h
  refine p_X7_177 X (T' := rs T 9 x5) rfl (rg_rs _ _ _)  (by rw [rs_rs, ex5]) dX7_readText_25 ?_
  exact gX7_readText_b28 X hf FU _ h
set_option maxRecDepth 20000 in
theorem ct_X7_readText {l : Launch} {κ : KX} {T : TT}  {m : St}  {res : St × Int32}  (h : sX7_readText m = some res) : Ct l κ yX7_readText cX7_readText 1 (some .int) 6 138 [.ref (xE κ 9 0 0)] (rs T 9 m) (rs T 9 res.1) (some (.int (res.2))) := by
  refine Ct_i RX7 rfl (by decide +kernel) (Nat.le_of_ble_eq_true rfl) (fun g hl hκ X hf => ?_)
  subst hl; subst hκ
  exact gX7_readText X  hf h
set_option maxRecDepth 20000 in
theorem gX7_lesser {g : GX} {T : TT}   {a0 : Int32} {a1 : Int32} {res : Int32} (X : CX g RX7 cX7_lesser 2 0 0)  (hf : FinI g cX7_lesser .int (T) (res)) (h : sX7_lesser a0 a1 = some res) : G g 0 0 (T) 0 [(0, .int a0), (1, .int a1)] [] := by
  unfold sX7_lesser at h
  refine G_iload_n X 0 dX7_lesser_0 rfl rfl ?_
  refine G_iload_n X 1 dX7_lesser_1 rfl rfl ?_
  refine G_icmp_ge X (tgt := 9) dX7_lesser_2 (by decide) (fun c1 => ?_) (fun c1 => ?_)
  · have h := it_t c1 h
    refine G_iload_n X 1 dX7_lesser_9 rfl rfl ?_
    obtain rfl := Option.some.inj h
    exact hf _ _ dX7_lesser_10 rfl
  · have h := it_f c1 h
    refine G_iload_n X 0 dX7_lesser_5 rfl rfl ?_
    refine G_goto X (tgt := 10) dX7_lesser_6 (by decide) ?_
    obtain rfl := Option.some.inj h
    exact hf _ _ dX7_lesser_10 rfl
set_option maxRecDepth 20000 in
theorem ct_X7_lesser {l : Launch} {κ : KX} {T : TT}   {a0 : Int32} {a1 : Int32} {res : Int32}  (h : sX7_lesser a0 a1 = some res) : Ct l κ yX7_lesser cX7_lesser 2 (some .int) 0 0 [.int a0, .int a1] (T) (T) (some (.int (res))) := by
  refine Ct_i RX7 rfl (by decide +kernel) (Nat.le_of_ble_eq_true rfl) (fun g hl hκ X hf => ?_)
  subst hl; subst hκ
  exact gX7_lesser X  hf h
set_option maxRecDepth 20000 in
theorem gX7_greater {g : GX} {T : TT}   {a0 : Int32} {a1 : Int32} {res : Int32} (X : CX g RX7 cX7_greater 2 0 0)  (hf : FinI g cX7_greater .int (T) (res)) (h : sX7_greater a0 a1 = some res) : G g 0 0 (T) 0 [(0, .int a0), (1, .int a1)] [] := by
  unfold sX7_greater at h
  refine G_iload_n X 0 dX7_greater_0 rfl rfl ?_
  refine G_iload_n X 1 dX7_greater_1 rfl rfl ?_
  refine G_icmp_le X (tgt := 9) dX7_greater_2 (by decide) (fun c1 => ?_) (fun c1 => ?_)
  · have h := it_t c1 h
    refine G_iload_n X 1 dX7_greater_9 rfl rfl ?_
    obtain rfl := Option.some.inj h
    exact hf _ _ dX7_greater_10 rfl
  · have h := it_f c1 h
    refine G_iload_n X 0 dX7_greater_5 rfl rfl ?_
    refine G_goto X (tgt := 10) dX7_greater_6 (by decide) ?_
    obtain rfl := Option.some.inj h
    exact hf _ _ dX7_greater_10 rfl
set_option maxRecDepth 20000 in
theorem ct_X7_greater {l : Launch} {κ : KX} {T : TT}   {a0 : Int32} {a1 : Int32} {res : Int32}  (h : sX7_greater a0 a1 = some res) : Ct l κ yX7_greater cX7_greater 2 (some .int) 0 0 [.int a0, .int a1] (T) (T) (some (.int (res))) := by
  refine Ct_i RX7 rfl (by decide +kernel) (Nat.le_of_ble_eq_true rfl) (fun g hl hκ X hf => ?_)
  subst hl; subst hκ
  exact gX7_greater X  hf h
set_option maxRecDepth 20000 in
theorem gX7_bits_b4 {g : GX} {T : TT}   {res : Int32}  (X : CX g RX7 cX7_bits 3 0 0)  (hf : FinI g cX7_bits .int (T) (res))  : ∀ (n : Nat) (a0 : Int32) (a1 : Int32) (a2 : Int32) (h : sX7_bits_b4 n  a0 a1 a2 = some res), G g 0 0 (T) 4 [(0, .int a0), (1, .int a1), (2, .int a2)] [] := by
  intro n
  induction n with
  | zero => intro a0 a1 a2 h; unfold sX7_bits_b4 at h; cases h
  | succ n ih =>
    intro a0 a1 a2 h
    unfold sX7_bits_b4 at h
    refine G_iload_n X 2 dX7_bits_4 rfl rfl ?_
    refine G_bipush X (v := (8 : Int32)) dX7_bits_5 (by decide) ?_
    refine G_icmp_ge X (tgt := 24) dX7_bits_7 (by decide) (fun c1 => ?_) (fun c1 => ?_)
    · have h := it_t c1 h
      refine G_iload_n X 1 dX7_bits_24 rfl rfl ?_
      obtain rfl := Option.some.inj h
      exact hf _ _ dX7_bits_25 rfl
    · have h := it_f c1 h
      refine G_iload_n X 1 dX7_bits_10 rfl rfl ?_
      refine G_iload_n X 0 dX7_bits_11 rfl rfl ?_
      refine G_iload_n X 2 dX7_bits_12 rfl rfl ?_
      refine G_ishr X dX7_bits_13 ?_
      refine G_iconst X (v := (1 : Int32)) dX7_bits_14 (by decide) ?_
      refine G_iand X dX7_bits_15 ?_
      refine G_iadd X dX7_bits_16 ?_
      obtain ⟨v2, ev2, h⟩ := nm_some h
      refine G_nmi ev2 ?_
      refine G_istore_n X (lv' := [(1, .int v2), (0, .int a0), (2, .int a2)]) dX7_bits_17 rfl (by decide) rfl ?_
      obtain ⟨v3, ev3, h⟩ := nm_some h
      refine G_iinc X (v := v3) (lv' := [(2, .int v3), (1, .int v2), (0, .int a0)]) 2 dX7_bits_18 rfl (by rw [ev3]; rfl) (by decide) rfl ?_
      refine G_goto X (tgt := 4) dX7_bits_21 (by decide) ?_
      refine G_sub [2, 1, 0] rfl ?_
      exact ih _ _ _ h
set_option maxRecDepth 20000 in
theorem gX7_bits {g : GX} {T : TT}   {a0 : Int32} {res : Int32} (X : CX g RX7 cX7_bits 3 0 0)  (hf : FinI g cX7_bits .int (T) (res)) (h : sX7_bits a0 = some res) : G g 0 0 (T) 0 [(0, .int a0)] [] := by
  unfold sX7_bits at h
  refine G_iconst X (v := (0 : Int32)) dX7_bits_0 (by decide) ?_
  refine G_istore_n X (lv' := [(1, .int ((0 : Int32))), (0, .int a0)]) dX7_bits_1 rfl (by decide) rfl ?_
  refine G_iconst X (v := (0 : Int32)) dX7_bits_2 (by decide) ?_
  refine G_istore_n X (lv' := [(2, .int ((0 : Int32))), (1, .int ((0 : Int32))), (0, .int a0)]) dX7_bits_3 rfl (by decide) rfl ?_
  refine G_sub [2, 1, 0] rfl ?_
  exact gX7_bits_b4 X hf FU _ _ _ h
set_option maxRecDepth 20000 in
theorem ct_X7_bits {l : Launch} {κ : KX} {T : TT}   {a0 : Int32} {res : Int32}  (h : sX7_bits a0 = some res) : Ct l κ yX7_bits cX7_bits 3 (some .int) 0 0 [.int a0] (T) (T) (some (.int (res))) := by
  refine Ct_i RX7 rfl (by decide +kernel) (Nat.le_of_ble_eq_true rfl) (fun g hl hκ X hf => ?_)
  subst hl; subst hκ
  exact gX7_bits X  hf h
set_option maxRecDepth 20000 in
theorem gX7_isAt {g : GX} {T : TT}  {m : St} {a1 : Int32} {a2 : Int32} {res : Int32} (X : CX g RX7 cX7_isAt 3 2 43)  (hf : FinI g cX7_isAt .boolean (rs T 9 m) (res)) (h : sX7_isAt m a1 a2 = some res) : G g 0 0 (rs T 9 m) 0 [(0, .ref (xE (gκ g) 9 0 0)), (1, .int a1), (2, .int a2)] [] := by
  unfold sX7_isAt at h
  refine G_aload_n X 0 dX7_isAt_0 rfl rfl ?_
  refine G_iload_n X 1 dX7_isAt_1 rfl rfl ?_
  refine G_iconst X (v := (5 : Int32)) dX7_isAt_2 (by decide) ?_
  obtain ⟨q1, hq1, h⟩ := bd_some h
  refine G_callV X (As := [.int a1, .int ((5 : Int32))]) (rest := []) (T' := rs T 9 m) (st2 := [.int q1]) (ct_X7_of (l := g.2.1) (κ := gκ g)   hq1) cal_X7_of wM_X7_251 wI_X7_of wS_X7_of rfl rfl (by decide) rfl rfl (Nat.le_of_ble_eq_true rfl) ⟨Nat.zero_le _, Nat.zero_le _⟩ dX7_isAt_3 rfl ?_
  refine G_iload_n X 2 dX7_isAt_6 rfl rfl ?_
  refine G_icmp_ne X (tgt := 14) dX7_isAt_7 (by decide) (fun c2 => ?_) (fun c2 => ?_)
  · have h := it_t c2 h
    refine G_iconst X (v := (0 : Int32)) dX7_isAt_14 (by decide) ?_
    obtain rfl := Option.some.inj h
    exact hf _ _ dX7_isAt_15 (isb_n (v := (0 : Int32)) rfl)
  · have h := it_f (fun k => k c2) h
    refine G_iconst X (v := (1 : Int32)) dX7_isAt_10 (by decide) ?_
    refine G_goto X (tgt := 15) dX7_isAt_11 (by decide) ?_
    obtain rfl := Option.some.inj h
    exact hf _ _ dX7_isAt_15 (isb_n (v := (1 : Int32)) rfl)
set_option maxRecDepth 20000 in
theorem ct_X7_isAt {l : Launch} {κ : KX} {T : TT}  {m : St} {a1 : Int32} {a2 : Int32} {res : Int32}  (h : sX7_isAt m a1 a2 = some res) : Ct l κ yX7_isAt cX7_isAt 3 (some .boolean) 2 43 [.ref (xE κ 9 0 0), .int a1, .int a2] (rs T 9 m) (rs T 9 m) (some (.int (res))) := by
  refine Ct_i RX7 rfl (by decide +kernel) (Nat.le_of_ble_eq_true rfl) (fun g hl hκ X hf => ?_)
  subst hl; subst hκ
  exact gX7_isAt X  hf h
set_option maxRecDepth 20000 in
theorem gX7_isKnown {g : GX} {T : TT}  {m : St} {a1 : Int32} {a2 : Int32} {res : Int32} (X : CX g RX7 cX7_isKnown 4 2 43)  (hf : FinI g cX7_isKnown .boolean (rs T 9 m) (res)) (h : sX7_isKnown m a1 a2 = some res) : G g 0 0 (rs T 9 m) 0 [(0, .ref (xE (gκ g) 9 0 0)), (1, .int a1), (2, .int a2)] [] := by
  unfold sX7_isKnown at h
  refine G_aload_n X 0 dX7_isKnown_0 rfl rfl ?_
  refine G_iload_n X 1 dX7_isKnown_1 rfl rfl ?_
  refine G_bipush X (v := (19 : Int32)) dX7_isKnown_2 (by decide) ?_
  refine G_iload_n X 2 dX7_isKnown_4 rfl rfl ?_
  refine G_iadd X dX7_isKnown_5 ?_
  obtain ⟨q1, hq1, h⟩ := bd_some h
  refine G_callV X (As := [.int a1, .int (((19 : Int32)) + a2)]) (rest := []) (T' := rs T 9 m) (st2 := [.int q1]) (ct_X7_of (l := g.2.1) (κ := gκ g)   hq1) cal_X7_of wM_X7_251 wI_X7_of wS_X7_of rfl rfl (by decide) rfl rfl (Nat.le_of_ble_eq_true rfl) ⟨Nat.zero_le _, Nat.zero_le _⟩ dX7_isKnown_6 rfl ?_
  refine G_istore_n X (lv' := [(3, .int q1), (0, .ref (xE (gκ g) 9 0 0)), (1, .int a1), (2, .int a2)]) dX7_isKnown_9 rfl (by decide) rfl ?_
  refine G_iload_n X 0 dX7_isKnown_10 rfl rfl ?_
  refine G_iconst X (v := (-1 : Int32)) dX7_isKnown_11 (by decide) ?_
  refine G_icmp_eq X (tgt := 36) dX7_isKnown_12 (by decide) (fun c2 => ?_) (fun c2 => ?_)
  · have h := it_t c2 h
    refine G_iconst X (v := (0 : Int32)) dX7_isKnown_36 (by decide) ?_
    obtain rfl := Option.some.inj h
    exact hf _ _ dX7_isKnown_37 (isb_n (v := (0 : Int32)) rfl)
  · have h := it_f c2 h
    refine G_aload_n X 1 dX7_isKnown_15 rfl rfl ?_
    refine f_X7_20 X rfl rfl dX7_isKnown_16 ?_
    refine G_iconst X (v := (1 : Int32)) dX7_isKnown_19 (by decide) ?_
    obtain ⟨g3, h⟩ := gd_some h
    refine G_iald X rfl (rg_rs _ _ _) g3 dX7_isKnown_20 ?_
    refine G_iload_n X 0 dX7_isKnown_21 rfl rfl ?_
    refine G_isub X dX7_isKnown_22 ?_
    refine G_aload_n X 1 dX7_isKnown_23 rfl rfl ?_
    refine f_X7_20 X rfl rfl dX7_isKnown_24 ?_
    refine G_iconst X (v := (3 : Int32)) dX7_isKnown_27 (by decide) ?_
    obtain ⟨g4, h⟩ := gd_some h
    refine G_iald X rfl (rg_rs _ _ _) g4 dX7_isKnown_28 ?_
    refine G_icmp_gt X (tgt := 36) dX7_isKnown_29 (by decide) (fun c5 => ?_) (fun c5 => ?_)
    · have h := it_t c5 h
      refine G_iconst X (v := (0 : Int32)) dX7_isKnown_36 (by decide) ?_
      obtain rfl := Option.some.inj h
      exact hf _ _ dX7_isKnown_37 (isb_n (v := (0 : Int32)) rfl)
    · have h := it_f c5 h
      refine G_iconst X (v := (1 : Int32)) dX7_isKnown_32 (by decide) ?_
      refine G_goto X (tgt := 37) dX7_isKnown_33 (by decide) ?_
      obtain rfl := Option.some.inj h
      exact hf _ _ dX7_isKnown_37 (isb_n (v := (1 : Int32)) rfl)
set_option maxRecDepth 20000 in
theorem ct_X7_isKnown {l : Launch} {κ : KX} {T : TT}  {m : St} {a1 : Int32} {a2 : Int32} {res : Int32}  (h : sX7_isKnown m a1 a2 = some res) : Ct l κ yX7_isKnown cX7_isKnown 4 (some .boolean) 2 43 [.ref (xE κ 9 0 0), .int a1, .int a2] (rs T 9 m) (rs T 9 m) (some (.int (res))) := by
  refine Ct_i RX7 rfl (by decide +kernel) (Nat.le_of_ble_eq_true rfl) (fun g hl hκ X hf => ?_)
  subst hl; subst hκ
  exact gX7_isKnown X  hf h
set_option maxRecDepth 20000 in
theorem gX7_knownSet_b4 {g : GX} {T : TT}  {m : St} {res : Int32}  (X : CX g RX7 cX7_knownSet 4 3 66)  (hf : FinI g cX7_knownSet .int (rs T 9 m) (res))  : ∀ (n : Nat) (a1 : Int32) (a2 : Int32) (a3 : Int32) (h : sX7_knownSet_b4 n  m a1 a2 a3 = some res), G g 0 0 (rs T 9 m) 4 [(0, .ref (xE (gκ g) 9 0 0)), (1, .int a1), (2, .int a2), (3, .int a3)] [] := by
  intro n
  induction n with
  | zero => intro a1 a2 a3 h; unfold sX7_knownSet_b4 at h; cases h
  | succ n ih =>
    intro a1 a2 a3 h
    unfold sX7_knownSet_b4 at h
    refine G_iload_n X 3 dX7_knownSet_4 rfl rfl ?_
    refine G_aload_n X 0 dX7_knownSet_5 rfl rfl ?_
    refine f_X7_20 X rfl rfl dX7_knownSet_6 ?_
    refine G_iconst X (v := (0 : Int32)) dX7_knownSet_9 (by decide) ?_
    obtain ⟨g1, h⟩ := gd_some h
    refine G_iald X rfl (rg_rs _ _ _) g1 dX7_knownSet_10 ?_
    refine G_icmp_ge X (tgt := 39) dX7_knownSet_11 (by decide) (fun c2 => ?_) (fun c2 => ?_)
    · have h := it_t c2 h
      refine G_iload_n X 2 dX7_knownSet_39 rfl rfl ?_
      obtain rfl := Option.some.inj h
      exact hf _ _ dX7_knownSet_40 rfl
    · have h := it_f c2 h
      refine G_iload_n X 2 dX7_knownSet_14 rfl rfl ?_
      refine G_aload_n X 0 dX7_knownSet_15 rfl rfl ?_
      refine G_iload_n X 1 dX7_knownSet_16 rfl rfl ?_
      refine G_iload_n X 3 dX7_knownSet_17 rfl rfl ?_
      obtain ⟨q3, hq3, h⟩ := bd_some h
      refine G_callV X (As := [.int a1, .int a3]) (rest := [.int a2]) (T' := rs T 9 m) (st2 := [.int q3, .int a2]) (ct_X7_isKnown (l := g.2.1) (κ := gκ g)   hq3) cal_X7_isKnown wM_X7_254 wI_X7_isKnown wS_X7_isKnown rfl rfl (by decide) rfl rfl (Nat.le_of_ble_eq_true rfl) ⟨Nat.zero_le _, Nat.zero_le _⟩ dX7_knownSet_18 rfl ?_
      refine G_if_eq X (tgt := 30) dX7_knownSet_21 (by decide) (fun c4 => ?_) (fun c4 => ?_)
      · have h := it_t c4 h
        refine G_iconst X (v := (0 : Int32)) dX7_knownSet_30 (by decide) ?_
        refine G_ior X dX7_knownSet_31 ?_
        refine G_istore_n X (lv' := [(2, .int (a2 ||| ((0 : Int32)))), (0, .ref (xE (gκ g) 9 0 0)), (1, .int a1), (3, .int a3)]) dX7_knownSet_32 rfl (by decide) rfl ?_
        obtain ⟨v5, ev5, h⟩ := nm_some h
        refine G_iinc X (v := v5) (lv' := [(3, .int v5), (2, .int (a2 ||| ((0 : Int32)))), (0, .ref (xE (gκ g) 9 0 0)), (1, .int a1)]) 3 dX7_knownSet_33 rfl (by rw [ev5]; rfl) (by decide) rfl ?_
        refine G_goto X (tgt := 4) dX7_knownSet_36 (by decide) ?_
        refine G_sub [2, 3, 1, 0] rfl ?_
        exact ih _ _ _ h
      · have h := it_f c4 h
        refine G_iconst X (v := (1 : Int32)) dX7_knownSet_24 (by decide) ?_
        refine G_iload_n X 3 dX7_knownSet_25 rfl rfl ?_
        refine G_ishl X dX7_knownSet_26 ?_
        refine G_goto X (tgt := 31) dX7_knownSet_27 (by decide) ?_
        refine G_ior X dX7_knownSet_31 ?_
        obtain ⟨v6, ev6, h⟩ := nm_some h
        refine G_nmi ev6 ?_
        refine G_istore_n X (lv' := [(2, .int v6), (0, .ref (xE (gκ g) 9 0 0)), (1, .int a1), (3, .int a3)]) dX7_knownSet_32 rfl (by decide) rfl ?_
        obtain ⟨v7, ev7, h⟩ := nm_some h
        refine G_iinc X (v := v7) (lv' := [(3, .int v7), (2, .int v6), (0, .ref (xE (gκ g) 9 0 0)), (1, .int a1)]) 3 dX7_knownSet_33 rfl (by rw [ev7]; rfl) (by decide) rfl ?_
        refine G_goto X (tgt := 4) dX7_knownSet_36 (by decide) ?_
        refine G_sub [2, 3, 1, 0] rfl ?_
        exact ih _ _ _ h
set_option maxRecDepth 20000 in
theorem gX7_knownSet {g : GX} {T : TT}  {m : St} {a1 : Int32} {res : Int32} (X : CX g RX7 cX7_knownSet 4 3 66)  (hf : FinI g cX7_knownSet .int (rs T 9 m) (res)) (h : sX7_knownSet m a1 = some res) : G g 0 0 (rs T 9 m) 0 [(0, .ref (xE (gκ g) 9 0 0)), (1, .int a1)] [] := by
  unfold sX7_knownSet at h
  refine G_iconst X (v := (0 : Int32)) dX7_knownSet_0 (by decide) ?_
  refine G_istore_n X (lv' := [(2, .int ((0 : Int32))), (0, .ref (xE (gκ g) 9 0 0)), (1, .int a1)]) dX7_knownSet_1 rfl (by decide) rfl ?_
  refine G_iconst X (v := (0 : Int32)) dX7_knownSet_2 (by decide) ?_
  refine G_istore_n X (lv' := [(3, .int ((0 : Int32))), (2, .int ((0 : Int32))), (0, .ref (xE (gκ g) 9 0 0)), (1, .int a1)]) dX7_knownSet_3 rfl (by decide) rfl ?_
  refine G_sub [2, 3, 1, 0] rfl ?_
  exact gX7_knownSet_b4 X hf FU _ _ _ h
set_option maxRecDepth 20000 in
theorem ct_X7_knownSet {l : Launch} {κ : KX} {T : TT}  {m : St} {a1 : Int32} {res : Int32}  (h : sX7_knownSet m a1 = some res) : Ct l κ yX7_knownSet cX7_knownSet 4 (some .int) 3 66 [.ref (xE κ 9 0 0), .int a1] (rs T 9 m) (rs T 9 m) (some (.int (res))) := by
  refine Ct_i RX7 rfl (by decide +kernel) (Nat.le_of_ble_eq_true rfl) (fun g hl hκ X hf => ?_)
  subst hl; subst hκ
  exact gX7_knownSet X  hf h
set_option maxRecDepth 20000 in
theorem gX7_knowsAll {g : GX} {T : TT}  {m : St} {a1 : Int32} {res : Int32} (X : CX g RX7 cX7_knowsAll 2 4 89)  (hf : FinI g cX7_knowsAll .boolean (rs T 9 m) (res)) (h : sX7_knowsAll m a1 = some res) : G g 0 0 (rs T 9 m) 0 [(0, .ref (xE (gκ g) 9 0 0)), (1, .int a1)] [] := by
  unfold sX7_knowsAll at h
  refine G_aload_n X 0 dX7_knowsAll_0 rfl rfl ?_
  refine f_X7_20 X rfl rfl dX7_knowsAll_1 ?_
  refine G_bipush X (v := (13 : Int32)) dX7_knowsAll_4 (by decide) ?_
  refine G_iload_n X 1 dX7_knowsAll_6 rfl rfl ?_
  refine G_iadd X dX7_knowsAll_7 ?_
  obtain ⟨g1, h⟩ := gd_some h
  refine G_iald X rfl (rg_rs _ _ _) g1 dX7_knowsAll_8 ?_
  refine G_aload_n X 0 dX7_knowsAll_9 rfl rfl ?_
  refine G_iload_n X 1 dX7_knowsAll_10 rfl rfl ?_
  obtain ⟨q2, hq2, h⟩ := bd_some h
  refine G_callV X (As := [.int a1]) (rest := [.int (gI m 0 2 (ix (((13 : Int32)) + a1)))]) (T' := rs T 9 m) (st2 := [.int q2, .int (gI m 0 2 (ix (((13 : Int32)) + a1)))]) (ct_X7_knownSet (l := g.2.1) (κ := gκ g)   hq2) cal_X7_knownSet wM_X7_257 wI_X7_knownSet wS_X7_knownSet rfl rfl (by decide) rfl rfl (Nat.le_of_ble_eq_true rfl) ⟨Nat.zero_le _, Nat.zero_le _⟩ dX7_knowsAll_11 rfl ?_
  refine G_iconst X (v := (-1 : Int32)) dX7_knowsAll_14 (by decide) ?_
  refine G_ixor X dX7_knowsAll_15 ?_
  refine G_iand X dX7_knowsAll_16 ?_
  refine G_if_ne X (tgt := 24) dX7_knowsAll_17 (by decide) (fun c3 => ?_) (fun c3 => ?_)
  · have h := it_t c3 h
    refine G_iconst X (v := (0 : Int32)) dX7_knowsAll_24 (by decide) ?_
    obtain rfl := Option.some.inj h
    exact hf _ _ dX7_knowsAll_25 (isb_n (v := (0 : Int32)) rfl)
  · have h := it_f (fun k => k c3) h
    refine G_iconst X (v := (1 : Int32)) dX7_knowsAll_20 (by decide) ?_
    refine G_goto X (tgt := 25) dX7_knowsAll_21 (by decide) ?_
    obtain rfl := Option.some.inj h
    exact hf _ _ dX7_knowsAll_25 (isb_n (v := (1 : Int32)) rfl)
set_option maxRecDepth 20000 in
theorem ct_X7_knowsAll {l : Launch} {κ : KX} {T : TT}  {m : St} {a1 : Int32} {res : Int32}  (h : sX7_knowsAll m a1 = some res) : Ct l κ yX7_knowsAll cX7_knowsAll 2 (some .boolean) 4 89 [.ref (xE κ 9 0 0), .int a1] (rs T 9 m) (rs T 9 m) (some (.int (res))) := by
  refine Ct_i RX7 rfl (by decide +kernel) (Nat.le_of_ble_eq_true rfl) (fun g hl hκ X hf => ?_)
  subst hl; subst hκ
  exact gX7_knowsAll X  hf h
set_option maxRecDepth 20000 in
theorem gX7_windowOf {g : GX} {T : TT}  {m : St} {a1 : Int32} {res : Int32} (X : CX g RX7 cX7_windowOf 2 2 43)  (hf : FinI g cX7_windowOf .int (rs T 9 m) (res)) (h : sX7_windowOf m a1 = some res) : G g 0 0 (rs T 9 m) 0 [(0, .ref (xE (gκ g) 9 0 0)), (1, .int a1)] [] := by
  unfold sX7_windowOf at h
  refine G_bipush X (v := (32 : Int32)) dX7_windowOf_0 (by decide) ?_
  refine G_iconst X (v := (2 : Int32)) dX7_windowOf_2 (by decide) ?_
  refine G_iconst X (v := (4 : Int32)) dX7_windowOf_3 (by decide) ?_
  refine G_aload_n X 0 dX7_windowOf_4 rfl rfl ?_
  refine G_iload_n X 1 dX7_windowOf_5 rfl rfl ?_
  refine G_bipush X (v := (7 : Int32)) dX7_windowOf_6 (by decide) ?_
  obtain ⟨q1, hq1, h⟩ := bd_some h
  refine G_callV X (As := [.int a1, .int ((7 : Int32))]) (rest := [.int ((4 : Int32)), .int ((2 : Int32)), .int ((32 : Int32))]) (T' := rs T 9 m) (st2 := [.int q1, .int ((4 : Int32)), .int ((2 : Int32)), .int ((32 : Int32))]) (ct_X7_of (l := g.2.1) (κ := gκ g)   hq1) cal_X7_of wM_X7_251 wI_X7_of wS_X7_of rfl rfl (by decide) rfl rfl (Nat.le_of_ble_eq_true rfl) ⟨Nat.zero_le _, Nat.zero_le _⟩ dX7_windowOf_8 rfl ?_
  obtain ⟨q2, hq2, h⟩ := bd_some h
  refine G_callS X (As := [.int ((4 : Int32)), .int q1]) (rest := [.int ((2 : Int32)), .int ((32 : Int32))]) (T' := rs T 9 m) (st2 := [.int q2, .int ((2 : Int32)), .int ((32 : Int32))]) (ct_X7_lesser (l := g.2.1) (κ := gκ g)   hq2) cal_X7_lesser wM_X7_260 wT_X7_lesser (by decide) rfl rfl (Nat.le_of_ble_eq_true rfl) ⟨Nat.zero_le _, Nat.zero_le _⟩ dX7_windowOf_11 rfl ?_
  refine G_ishl X dX7_windowOf_14 ?_
  obtain ⟨q3, hq3, h⟩ := bd_some h
  refine G_callS X (As := [.int ((32 : Int32)), .int (((2 : Int32)) <<< (q2 &&& (31 : Int32)))]) (rest := []) (T' := rs T 9 m) (st2 := [.int q3]) (ct_X7_lesser (l := g.2.1) (κ := gκ g)   hq3) cal_X7_lesser wM_X7_260 wT_X7_lesser (by decide) rfl rfl (Nat.le_of_ble_eq_true rfl) ⟨Nat.zero_le _, Nat.zero_le _⟩ dX7_windowOf_15 rfl ?_
  obtain rfl := Option.some.inj h
  exact hf _ _ dX7_windowOf_18 rfl
set_option maxRecDepth 20000 in
theorem ct_X7_windowOf {l : Launch} {κ : KX} {T : TT}  {m : St} {a1 : Int32} {res : Int32}  (h : sX7_windowOf m a1 = some res) : Ct l κ yX7_windowOf cX7_windowOf 2 (some .int) 2 43 [.ref (xE κ 9 0 0), .int a1] (rs T 9 m) (rs T 9 m) (some (.int (res))) := by
  refine Ct_i RX7 rfl (by decide +kernel) (Nat.le_of_ble_eq_true rfl) (fun g hl hκ X hf => ?_)
  subst hl; subst hκ
  exact gX7_windowOf X  hf h
set_option maxRecDepth 20000 in
theorem gX7_draws {g : GX} {T : TT}  {m : St} {a1 : Int32} {res : St × Int32} (X : CX g RX7 cX7_draws 2 0 0)  (hf : FinI g cX7_draws .int (rs T 9 res.1) (res.2)) (h : sX7_draws m a1 = some res) : G g 0 0 (rs T 9 m) 0 [(0, .ref (xE (gκ g) 9 0 0)), (1, .int a1)] [] := by
  unfold sX7_draws at h
  refine G_aload_n X 0 dX7_draws_0 rfl rfl ?_
  refine f_X7_20 X rfl rfl dX7_draws_1 ?_
  refine G_bipush X (v := (7 : Int32)) dX7_draws_4 (by decide) ?_
  refine G_aload_n X 0 dX7_draws_6 rfl rfl ?_
  refine f_X7_20 X rfl rfl dX7_draws_7 ?_
  refine G_bipush X (v := (7 : Int32)) dX7_draws_10 (by decide) ?_
  obtain ⟨g1, h⟩ := gd_some h
  refine G_iald X rfl (rg_rs _ _ _) g1 dX7_draws_12 ?_
  refine G_ldc_w X (v := (1103515245 : Int32)) dX7_draws_13 wK_X7_263 ?_
  refine G_imul X dX7_draws_16 ?_
  refine G_sipush X (v := (12345 : Int32)) dX7_draws_17 (by decide) ?_
  refine G_iadd X dX7_draws_20 ?_
  obtain ⟨v2, ev2, h⟩ := nm_some h
  refine G_nmi ev2 ?_
  obtain ⟨g3, h⟩ := gd_some h
  obtain ⟨x4, ex4, h⟩ := nm_some h
  refine G_iast X (T' := rs T 9 x4) rfl (rg_rs _ _ _) g3 (by rw [rs_rs, ex4]) dX7_draws_21 ?_
  refine G_aload_n X 0 dX7_draws_22 rfl rfl ?_
  refine f_X7_20 X rfl rfl dX7_draws_23 ?_
  refine G_bipush X (v := (7 : Int32)) dX7_draws_26 (by decide) ?_
  obtain ⟨g5, h⟩ := gd_some h
  refine G_iald X rfl (rg_rs _ _ _) g5 dX7_draws_28 ?_
  refine G_bipush X (v := (16 : Int32)) dX7_draws_29 (by decide) ?_
  refine G_iushr X dX7_draws_31 ?_
  refine G_iload_n X 1 dX7_draws_32 rfl rfl ?_
  obtain ⟨g6, h⟩ := gd_some h
  refine G_irem X dX7_draws_33 (nz_ne g6) ?_
  obtain rfl := Option.some.inj h
  exact hf _ _ dX7_draws_34 rfl
set_option maxRecDepth 20000 in
theorem ct_X7_draws {l : Launch} {κ : KX} {T : TT}  {m : St} {a1 : Int32} {res : St × Int32}  (h : sX7_draws m a1 = some res) : Ct l κ yX7_draws cX7_draws 2 (some .int) 0 0 [.ref (xE κ 9 0 0), .int a1] (rs T 9 m) (rs T 9 res.1) (some (.int (res.2))) := by
  refine Ct_i RX7 rfl (by decide +kernel) (Nat.le_of_ble_eq_true rfl) (fun g hl hκ X hf => ?_)
  subst hl; subst hκ
  exact gX7_draws X  hf h
set_option maxRecDepth 20000 in
theorem gX7_isDueAt {g : GX} {T : TT}  {m : St} {a1 : Int32} {a2 : Int32} {res : Int32} (X : CX g RX7 cX7_isDueAt 4 2 43)  (hf : FinI g cX7_isDueAt .boolean (rs T 9 m) (res)) (h : sX7_isDueAt m a1 a2 = some res) : G g 0 0 (rs T 9 m) 0 [(0, .ref (xE (gκ g) 9 0 0)), (1, .int a1), (2, .int a2)] [] := by
  unfold sX7_isDueAt at h
  refine G_iload_n X 2 dX7_isDueAt_0 rfl rfl ?_
  refine G_aload_n X 0 dX7_isDueAt_1 rfl rfl ?_
  refine G_iload_n X 1 dX7_isDueAt_2 rfl rfl ?_
  refine G_iconst X (v := (1 : Int32)) dX7_isDueAt_3 (by decide) ?_
  obtain ⟨q1, hq1, h⟩ := bd_some h
  refine G_callV X (As := [.int a1, .int ((1 : Int32))]) (rest := [.int a2]) (T' := rs T 9 m) (st2 := [.int q1, .int a2]) (ct_X7_of (l := g.2.1) (κ := gκ g)   hq1) cal_X7_of wM_X7_251 wI_X7_of wS_X7_of rfl rfl (by decide) rfl rfl (Nat.le_of_ble_eq_true rfl) ⟨Nat.zero_le _, Nat.zero_le _⟩ dX7_isDueAt_4 rfl ?_
  refine G_isub X dX7_isDueAt_7 ?_
  refine G_istore_n X (lv' := [(3, .int (a2 - q1)), (0, .ref (xE (gκ g) 9 0 0)), (1, .int a1), (2, .int a2)]) dX7_isDueAt_8 rfl (by decide) rfl ?_
  refine G_iload_n X 0 dX7_isDueAt_9 rfl rfl ?_
  refine G_if_lt X (tgt := 28) dX7_isDueAt_10 (by decide) (fun c2 => ?_) (fun c2 => ?_)
  · have h := it_t c2 h
    refine G_iconst X (v := (0 : Int32)) dX7_isDueAt_28 (by decide) ?_
    obtain rfl := Option.some.inj h
    exact hf _ _ dX7_isDueAt_29 (isb_n (v := (0 : Int32)) rfl)
  · have h := it_f c2 h
    refine G_iload_n X 0 dX7_isDueAt_13 rfl rfl ?_
    refine G_aload_n X 1 dX7_isDueAt_14 rfl rfl ?_
    refine G_iload_n X 2 dX7_isDueAt_15 rfl rfl ?_
    refine G_iconst X (v := (0 : Int32)) dX7_isDueAt_16 (by decide) ?_
    obtain ⟨q3, hq3, h⟩ := bd_some h
    refine G_callV X (As := [.int a1, .int ((0 : Int32))]) (rest := [.int (a2 - q1)]) (T' := rs T 9 m) (st2 := [.int q3, .int (a2 - q1)]) (ct_X7_of (l := g.2.1) (κ := gκ g)   hq3) cal_X7_of wM_X7_251 wI_X7_of wS_X7_of rfl rfl (by decide) rfl rfl (Nat.le_of_ble_eq_true rfl) ⟨Nat.zero_le _, Nat.zero_le _⟩ dX7_isDueAt_17 rfl ?_
    obtain ⟨g4, h⟩ := gd_some h
    refine G_irem X dX7_isDueAt_20 (nz_ne g4) ?_
    refine G_if_ne X (tgt := 28) dX7_isDueAt_21 (by decide) (fun c5 => ?_) (fun c5 => ?_)
    · have h := it_t c5 h
      refine G_iconst X (v := (0 : Int32)) dX7_isDueAt_28 (by decide) ?_
      obtain rfl := Option.some.inj h
      exact hf _ _ dX7_isDueAt_29 (isb_n (v := (0 : Int32)) rfl)
    · have h := it_f (fun k => k c5) h
      refine G_iconst X (v := (1 : Int32)) dX7_isDueAt_24 (by decide) ?_
      refine G_goto X (tgt := 29) dX7_isDueAt_25 (by decide) ?_
      obtain rfl := Option.some.inj h
      exact hf _ _ dX7_isDueAt_29 (isb_n (v := (1 : Int32)) rfl)
set_option maxRecDepth 20000 in
theorem ct_X7_isDueAt {l : Launch} {κ : KX} {T : TT}  {m : St} {a1 : Int32} {a2 : Int32} {res : Int32}  (h : sX7_isDueAt m a1 a2 = some res) : Ct l κ yX7_isDueAt cX7_isDueAt 4 (some .boolean) 2 43 [.ref (xE κ 9 0 0), .int a1, .int a2] (rs T 9 m) (rs T 9 m) (some (.int (res))) := by
  refine Ct_i RX7 rfl (by decide +kernel) (Nat.le_of_ble_eq_true rfl) (fun g hl hκ X hf => ?_)
  subst hl; subst hκ
  exact gX7_isDueAt X  hf h
set_option maxRecDepth 20000 in
theorem gX7_enters {g : GX} {T : TT}  {m : St} {a1 : Int32} {a2 : Int32} {a3 : Int32} {res : St} (X : CX g RX7 cX7_enters 4 2 44)  (hf : FinV g cX7_enters (rs T 9 res)) (h : sX7_enters m a1 a2 a3 = some res) : G g 0 0 (rs T 9 m) 0 [(0, .ref (xE (gκ g) 9 0 0)), (1, .int a1), (2, .int a2), (3, .int a3)] [] := by
  unfold sX7_enters at h
  refine G_aload_n X 0 dX7_enters_0 rfl rfl ?_
  refine G_iload_n X 1 dX7_enters_1 rfl rfl ?_
  refine G_iconst X (v := (5 : Int32)) dX7_enters_2 (by decide) ?_
  refine G_iload_n X 2 dX7_enters_3 rfl rfl ?_
  obtain ⟨q1, hq1, h⟩ := bd_some h
  refine G_callV X (As := [.int a1, .int ((5 : Int32)), .int a2]) (rest := []) (T' := rs T 9 q1) (st2 := []) (ct_X7_sets (l := g.2.1) (κ := gκ g)   hq1) cal_X7_sets wM_X7_148 wI_X7_sets wS_X7_sets rfl rfl (by decide) rfl rfl (Nat.le_of_ble_eq_true rfl) ⟨Nat.zero_le _, Nat.zero_le _⟩ dX7_enters_4 rfl ?_
  refine G_aload_n X 0 dX7_enters_7 rfl rfl ?_
  refine G_iload_n X 1 dX7_enters_8 rfl rfl ?_
  refine G_bipush X (v := (6 : Int32)) dX7_enters_9 (by decide) ?_
  refine G_iload_n X 3 dX7_enters_11 rfl rfl ?_
  obtain ⟨q2, hq2, h⟩ := bd_some h
  refine G_callV X (As := [.int a1, .int ((6 : Int32)), .int a3]) (rest := []) (T' := rs T 9 q2) (st2 := []) (ct_X7_sets (l := g.2.1) (κ := gκ g)   hq2) cal_X7_sets wM_X7_148 wI_X7_sets wS_X7_sets rfl rfl (by decide) rfl rfl (Nat.le_of_ble_eq_true rfl) ⟨Nat.zero_le _, Nat.zero_le _⟩ dX7_enters_12 rfl ?_
  obtain rfl := Option.some.inj h
  exact hf _ _ dX7_enters_15
set_option maxRecDepth 20000 in
theorem ct_X7_enters {l : Launch} {κ : KX} {T : TT}  {m : St} {a1 : Int32} {a2 : Int32} {a3 : Int32} {res : St}  (h : sX7_enters m a1 a2 a3 = some res) : Ct l κ yX7_enters cX7_enters 4 none 2 44 [.ref (xE κ 9 0 0), .int a1, .int a2, .int a3] (rs T 9 m) (rs T 9 res) none := by
  refine Ct_v RX7 rfl (by decide +kernel) (Nat.le_of_ble_eq_true rfl) (fun g hl hκ X hf => ?_)
  subst hl; subst hκ
  exact gX7_enters X  hf h
set_option maxRecDepth 20000 in
theorem gX7_listens {g : GX} {T : TT}  {m : St} {a1 : Int32} {res : St} (X : CX g RX7 cX7_listens 2 3 67)  (hf : FinV g cX7_listens (rs T 9 res)) (h : sX7_listens m a1 = some res) : G g 0 0 (rs T 9 m) 0 [(0, .ref (xE (gκ g) 9 0 0)), (1, .int a1)] [] := by
  unfold sX7_listens at h
  refine G_aload_n X 0 dX7_listens_0 rfl rfl ?_
  refine G_iload_n X 1 dX7_listens_1 rfl rfl ?_
  refine G_bipush X (v := (8 : Int32)) dX7_listens_2 (by decide) ?_
  refine G_iconst X (v := (0 : Int32)) dX7_listens_4 (by decide) ?_
  obtain ⟨q1, hq1, h⟩ := bd_some h
  refine G_callV X (As := [.int a1, .int ((8 : Int32)), .int ((0 : Int32))]) (rest := []) (T' := rs T 9 q1) (st2 := []) (ct_X7_sets (l := g.2.1) (κ := gκ g)   hq1) cal_X7_sets wM_X7_148 wI_X7_sets wS_X7_sets rfl rfl (by decide) rfl rfl (Nat.le_of_ble_eq_true rfl) ⟨Nat.zero_le _, Nat.zero_le _⟩ dX7_listens_5 rfl ?_
  refine G_aload_n X 0 dX7_listens_8 rfl rfl ?_
  refine G_iload_n X 1 dX7_listens_9 rfl rfl ?_
  refine G_iconst X (v := (1 : Int32)) dX7_listens_10 (by decide) ?_
  refine G_aload_n X 0 dX7_listens_11 rfl rfl ?_
  refine G_iload_n X 1 dX7_listens_12 rfl rfl ?_
  refine G_iconst X (v := (2 : Int32)) dX7_listens_13 (by decide) ?_
  obtain ⟨q2, hq2, h⟩ := bd_some h
  refine G_callV X (As := [.int a1, .int ((2 : Int32))]) (rest := [.int ((1 : Int32)), .int a1, .ref (xE (gκ g) 9 0 0)]) (T' := rs T 9 q1) (st2 := [.int q2, .int ((1 : Int32)), .int a1, .ref (xE (gκ g) 9 0 0)]) (ct_X7_of (l := g.2.1) (κ := gκ g)   hq2) cal_X7_of wM_X7_251 wI_X7_of wS_X7_of rfl rfl (by decide) rfl rfl (Nat.le_of_ble_eq_true rfl) ⟨Nat.zero_le _, Nat.zero_le _⟩ dX7_listens_14 rfl ?_
  obtain ⟨q3, hq3, h⟩ := bd_some h
  refine G_callV X (As := [.int a1, .int ((1 : Int32)), .int q2]) (rest := []) (T' := rs T 9 q3) (st2 := []) (ct_X7_enters (l := g.2.1) (κ := gκ g)   hq3) cal_X7_enters wM_X7_264 wI_X7_enters wS_X7_enters rfl rfl (by decide) rfl rfl (Nat.le_of_ble_eq_true rfl) ⟨Nat.zero_le _, Nat.zero_le _⟩ dX7_listens_17 rfl ?_
  obtain rfl := Option.some.inj h
  exact hf _ _ dX7_listens_20
set_option maxRecDepth 20000 in
theorem ct_X7_listens {l : Launch} {κ : KX} {T : TT}  {m : St} {a1 : Int32} {res : St}  (h : sX7_listens m a1 = some res) : Ct l κ yX7_listens cX7_listens 2 none 3 67 [.ref (xE κ 9 0 0), .int a1] (rs T 9 m) (rs T 9 res) none := by
  refine Ct_v RX7 rfl (by decide +kernel) (Nat.le_of_ble_eq_true rfl) (fun g hl hκ X hf => ?_)
  subst hl; subst hκ
  exact gX7_listens X  hf h
set_option maxRecDepth 20000 in
theorem gX7_waits {g : GX} {T : TT}  {m : St} {a1 : Int32} {res : St} (X : CX g RX7 cX7_waits 3 3 67)  (hf : FinV g cX7_waits (rs T 9 res)) (h : sX7_waits m a1 = some res) : G g 0 0 (rs T 9 m) 0 [(0, .ref (xE (gκ g) 9 0 0)), (1, .int a1)] [] := by
  unfold sX7_waits at h
  refine G_aload_n X 0 dX7_waits_0 rfl rfl ?_
  refine G_aload_n X 0 dX7_waits_1 rfl rfl ?_
  refine G_iload_n X 1 dX7_waits_2 rfl rfl ?_
  obtain ⟨q1, hq1, h⟩ := bd_some h
  refine G_callV X (As := [.int a1]) (rest := [.ref (xE (gκ g) 9 0 0)]) (T' := rs T 9 m) (st2 := [.int q1, .ref (xE (gκ g) 9 0 0)]) (ct_X7_windowOf (l := g.2.1) (κ := gκ g)   hq1) cal_X7_windowOf wM_X7_267 wI_X7_windowOf wS_X7_windowOf rfl rfl (by decide) rfl rfl (Nat.le_of_ble_eq_true rfl) ⟨Nat.zero_le _, Nat.zero_le _⟩ dX7_waits_3 rfl ?_
  obtain ⟨q2, hq2, h⟩ := bd_some h
  refine G_callV X (As := [.int q1]) (rest := []) (T' := rs T 9 q2.1) (st2 := [.int q2.2]) (ct_X7_draws (l := g.2.1) (κ := gκ g)   hq2) cal_X7_draws wM_X7_270 wI_X7_draws wS_X7_draws rfl rfl (by decide) rfl rfl (Nat.le_of_ble_eq_true rfl) ⟨Nat.zero_le _, Nat.zero_le _⟩ dX7_waits_6 rfl ?_
  refine G_istore_n X (lv' := [(2, .int q2.2), (0, .ref (xE (gκ g) 9 0 0)), (1, .int a1)]) dX7_waits_9 rfl (by decide) rfl ?_
  refine G_aload_n X 1 dX7_waits_10 rfl rfl ?_
  refine G_iload_n X 2 dX7_waits_11 rfl rfl ?_
  refine G_iconst X (v := (2 : Int32)) dX7_waits_12 (by decide) ?_
  refine G_iload_n X 0 dX7_waits_13 rfl rfl ?_
  refine G_iconst X (v := (1 : Int32)) dX7_waits_14 (by decide) ?_
  refine G_iadd X dX7_waits_15 ?_
  obtain ⟨q3, hq3, h⟩ := bd_some h
  refine G_callV X (As := [.int a1, .int ((2 : Int32)), .int (q2.2 + ((1 : Int32)))]) (rest := []) (T' := rs T 9 q3) (st2 := []) (ct_X7_enters (l := g.2.1) (κ := gκ g)   hq3) cal_X7_enters wM_X7_264 wI_X7_enters wS_X7_enters rfl rfl (by decide) rfl rfl (Nat.le_of_ble_eq_true rfl) ⟨Nat.zero_le _, Nat.zero_le _⟩ dX7_waits_16 rfl ?_
  obtain rfl := Option.some.inj h
  exact hf _ _ dX7_waits_19
set_option maxRecDepth 20000 in
theorem ct_X7_waits {l : Launch} {κ : KX} {T : TT}  {m : St} {a1 : Int32} {res : St}  (h : sX7_waits m a1 = some res) : Ct l κ yX7_waits cX7_waits 3 none 3 67 [.ref (xE κ 9 0 0), .int a1] (rs T 9 m) (rs T 9 res) none := by
  refine Ct_v RX7 rfl (by decide +kernel) (Nat.le_of_ble_eq_true rfl) (fun g hl hκ X hf => ?_)
  subst hl; subst hκ
  exact gX7_waits X  hf h
set_option maxRecDepth 20000 in
theorem gX7_begins_b30 {g : GX} {T : TT}   {res : St}  (X : CX g RX7 cX7_begins 3 3 67)  (hf : FinV g cX7_begins (rs T 9 res))  : ∀ (n : Nat) (m : St) (a1 : Int32) (a2 : Int32) (h : sX7_begins_b30 n  m a1 a2 = some res), G g 0 0 (rs T 9 m) 30 [(0, .ref (xE (gκ g) 9 0 0)), (1, .int a1), (2, .int a2)] [] := by
  intro n
  induction n with
  | zero => intro m a1 a2 h; unfold sX7_begins_b30 at h; cases h
  | succ n ih =>
    intro m a1 a2 h
    unfold sX7_begins_b30 at h
    refine G_iload_n X 2 dX7_begins_30 rfl rfl ?_
    refine G_bipush X (v := (8 : Int32)) dX7_begins_31 (by decide) ?_
    refine G_icmp_ge X (tgt := 52) dX7_begins_33 (by decide) (fun c4 => ?_) (fun c4 => ?_)
    · have h := it_t c4 h
      obtain rfl := Option.some.inj h
      exact hf _ _ dX7_begins_52
    · have h := it_f c4 h
      refine G_aload_n X 0 dX7_begins_36 rfl rfl ?_
      refine G_iload_n X 1 dX7_begins_37 rfl rfl ?_
      refine G_bipush X (v := (27 : Int32)) dX7_begins_38 (by decide) ?_
      refine G_iload_n X 2 dX7_begins_40 rfl rfl ?_
      refine G_iadd X dX7_begins_41 ?_
      refine G_iconst X (v := (0 : Int32)) dX7_begins_42 (by decide) ?_
      obtain ⟨q5, hq5, h⟩ := bd_some h
      refine G_callV X (As := [.int a1, .int (((27 : Int32)) + a2), .int ((0 : Int32))]) (rest := []) (T' := rs T 9 q5) (st2 := []) (ct_X7_sets (l := g.2.1) (κ := gκ g)   hq5) cal_X7_sets wM_X7_148 wI_X7_sets wS_X7_sets rfl rfl (by decide) rfl rfl (Nat.le_of_ble_eq_true rfl) ⟨Nat.zero_le _, Nat.zero_le _⟩ dX7_begins_43 rfl ?_
      obtain ⟨v6, ev6, h⟩ := nm_some h
      refine G_iinc X (v := v6) (lv' := [(2, .int v6), (0, .ref (xE (gκ g) 9 0 0)), (1, .int a1)]) 2 dX7_begins_46 rfl (by rw [ev6]; rfl) (by decide) rfl ?_
      refine G_goto X (tgt := 30) dX7_begins_49 (by decide) ?_
      refine G_sub [1, 2, 0] rfl ?_
      exact ih _ _ _ h
set_option maxRecDepth 20000 in
theorem gX7_begins {g : GX} {T : TT}  {m : St} {a1 : Int32} {res : St} (X : CX g RX7 cX7_begins 3 3 67)  (hf : FinV g cX7_begins (rs T 9 res)) (h : sX7_begins m a1 = some res) : G g 0 0 (rs T 9 m) 0 [(0, .ref (xE (gκ g) 9 0 0)), (1, .int a1)] [] := by
  unfold sX7_begins at h
  refine G_aload_n X 0 dX7_begins_0 rfl rfl ?_
  refine G_iload_n X 1 dX7_begins_1 rfl rfl ?_
  refine G_iconst X (v := (3 : Int32)) dX7_begins_2 (by decide) ?_
  refine G_aload_n X 0 dX7_begins_3 rfl rfl ?_
  refine G_iload_n X 1 dX7_begins_4 rfl rfl ?_
  refine G_iconst X (v := (3 : Int32)) dX7_begins_5 (by decide) ?_
  obtain ⟨q1, hq1, h⟩ := bd_some h
  refine G_callV X (As := [.int a1, .int ((3 : Int32))]) (rest := [.int ((3 : Int32)), .int a1, .ref (xE (gκ g) 9 0 0)]) (T' := rs T 9 m) (st2 := [.int q1, .int ((3 : Int32)), .int a1, .ref (xE (gκ g) 9 0 0)]) (ct_X7_of (l := g.2.1) (κ := gκ g)   hq1) cal_X7_of wM_X7_251 wI_X7_of wS_X7_of rfl rfl (by decide) rfl rfl (Nat.le_of_ble_eq_true rfl) ⟨Nat.zero_le _, Nat.zero_le _⟩ dX7_begins_6 rfl ?_
  obtain ⟨q2, hq2, h⟩ := bd_some h
  refine G_callV X (As := [.int a1, .int ((3 : Int32)), .int q1]) (rest := []) (T' := rs T 9 q2) (st2 := []) (ct_X7_enters (l := g.2.1) (κ := gκ g)   hq2) cal_X7_enters wM_X7_264 wI_X7_enters wS_X7_enters rfl rfl (by decide) rfl rfl (Nat.le_of_ble_eq_true rfl) ⟨Nat.zero_le _, Nat.zero_le _⟩ dX7_begins_9 rfl ?_
  refine G_aload_n X 0 dX7_begins_12 rfl rfl ?_
  refine G_iload_n X 1 dX7_begins_13 rfl rfl ?_
  refine G_bipush X (v := (9 : Int32)) dX7_begins_14 (by decide) ?_
  refine G_sipush X (v := (255 : Int32)) dX7_begins_16 (by decide) ?_
  refine G_iconst X (v := (1 : Int32)) dX7_begins_19 (by decide) ?_
  refine G_iload_n X 1 dX7_begins_20 rfl rfl ?_
  refine G_ishl X dX7_begins_21 ?_
  refine G_iconst X (v := (-1 : Int32)) dX7_begins_22 (by decide) ?_
  refine G_ixor X dX7_begins_23 ?_
  refine G_iand X dX7_begins_24 ?_
  obtain ⟨q3, hq3, h⟩ := bd_some h
  refine G_callV X (As := [.int a1, .int ((9 : Int32)), .int (((255 : Int32)) &&& ((((1 : Int32)) <<< (a1 &&& (31 : Int32))) ^^^ ((-1 : Int32))))]) (rest := []) (T' := rs T 9 q3) (st2 := []) (ct_X7_sets (l := g.2.1) (κ := gκ g)   hq3) cal_X7_sets wM_X7_148 wI_X7_sets wS_X7_sets rfl rfl (by decide) rfl rfl (Nat.le_of_ble_eq_true rfl) ⟨Nat.zero_le _, Nat.zero_le _⟩ dX7_begins_25 rfl ?_
  refine G_iconst X (v := (0 : Int32)) dX7_begins_28 (by decide) ?_
  refine G_istore_n X (lv' := [(2, .int ((0 : Int32))), (0, .ref (xE (gκ g) 9 0 0)), (1, .int a1)]) dX7_begins_29 rfl (by decide) rfl ?_
  refine G_sub [1, 2, 0] rfl ?_
  exact gX7_begins_b30 X hf FU _ _ _ h
set_option maxRecDepth 20000 in
theorem ct_X7_begins {l : Launch} {κ : KX} {T : TT}  {m : St} {a1 : Int32} {res : St}  (h : sX7_begins m a1 = some res) : Ct l κ yX7_begins cX7_begins 3 none 3 67 [.ref (xE κ 9 0 0), .int a1] (rs T 9 m) (rs T 9 res) none := by
  refine Ct_v RX7 rfl (by decide +kernel) (Nat.le_of_ble_eq_true rfl) (fun g hl hκ X hf => ?_)
  subst hl; subst hκ
  exact gX7_begins X  hf h
set_option maxRecDepth 20000 in
theorem gX7_isThrough {g : GX} {T : TT}  {m : St} {a1 : Int32} {res : St × Int32} (X : CX g RX7 cX7_isThrough 2 2 44)  (hf : FinI g cX7_isThrough .boolean (rs T 9 res.1) (res.2)) (h : sX7_isThrough m a1 = some res) : G g 0 0 (rs T 9 m) 0 [(0, .ref (xE (gκ g) 9 0 0)), (1, .int a1)] [] := by
  unfold sX7_isThrough at h
  refine G_aload_n X 0 dX7_isThrough_0 rfl rfl ?_
  refine G_iload_n X 1 dX7_isThrough_1 rfl rfl ?_
  refine G_bipush X (v := (6 : Int32)) dX7_isThrough_2 (by decide) ?_
  refine G_iconst X (v := (-1 : Int32)) dX7_isThrough_4 (by decide) ?_
  obtain ⟨q1, hq1, h⟩ := bd_some h
  refine G_callV X (As := [.int a1, .int ((6 : Int32)), .int ((-1 : Int32))]) (rest := []) (T' := rs T 9 q1) (st2 := []) (ct_X7_adds (l := g.2.1) (κ := gκ g)   hq1) cal_X7_adds wM_X7_273 wI_X7_adds wS_X7_adds rfl rfl (by decide) rfl rfl (Nat.le_of_ble_eq_true rfl) ⟨Nat.zero_le _, Nat.zero_le _⟩ dX7_isThrough_5 rfl ?_
  refine G_aload_n X 0 dX7_isThrough_8 rfl rfl ?_
  refine G_iload_n X 1 dX7_isThrough_9 rfl rfl ?_
  refine G_bipush X (v := (6 : Int32)) dX7_isThrough_10 (by decide) ?_
  obtain ⟨q2, hq2, h⟩ := bd_some h
  refine G_callV X (As := [.int a1, .int ((6 : Int32))]) (rest := []) (T' := rs T 9 q1) (st2 := [.int q2]) (ct_X7_of (l := g.2.1) (κ := gκ g)   hq2) cal_X7_of wM_X7_251 wI_X7_of wS_X7_of rfl rfl (by decide) rfl rfl (Nat.le_of_ble_eq_true rfl) ⟨Nat.zero_le _, Nat.zero_le _⟩ dX7_isThrough_12 rfl ?_
  refine G_if_ne X (tgt := 22) dX7_isThrough_15 (by decide) (fun c3 => ?_) (fun c3 => ?_)
  · have h := it_t c3 h
    refine G_iconst X (v := (0 : Int32)) dX7_isThrough_22 (by decide) ?_
    obtain rfl := Option.some.inj h
    exact hf _ _ dX7_isThrough_23 (isb_n (v := (0 : Int32)) rfl)
  · have h := it_f (fun k => k c3) h
    refine G_iconst X (v := (1 : Int32)) dX7_isThrough_18 (by decide) ?_
    refine G_goto X (tgt := 23) dX7_isThrough_19 (by decide) ?_
    obtain rfl := Option.some.inj h
    exact hf _ _ dX7_isThrough_23 (isb_n (v := (1 : Int32)) rfl)
set_option maxRecDepth 20000 in
theorem ct_X7_isThrough {l : Launch} {κ : KX} {T : TT}  {m : St} {a1 : Int32} {res : St × Int32}  (h : sX7_isThrough m a1 = some res) : Ct l κ yX7_isThrough cX7_isThrough 2 (some .boolean) 2 44 [.ref (xE κ 9 0 0), .int a1] (rs T 9 m) (rs T 9 res.1) (some (.int (res.2))) := by
  refine Ct_i RX7 rfl (by decide +kernel) (Nat.le_of_ble_eq_true rfl) (fun g hl hκ X hf => ?_)
  subst hl; subst hκ
  exact gX7_isThrough X  hf h
set_option maxRecDepth 20000 in
theorem gX7_wakes_b50 {g : GX} {T : TT}  {m : St} {a1 : Int32} {s0 : Int32} {res : St}  (X : CX g RX7 cX7_wakes 3 5 110)  (hf : FinV g cX7_wakes (rs T 9 res))   (h : sX7_wakes_b50  m a1 s0 = some res) : G g 0 0 (rs T 9 m) 50 [(0, .ref (xE (gκ g) 9 0 0)), (1, .int a1)] [.int s0] := by
  unfold sX7_wakes_b50 at h
  refine G_istore_n X (lv' := [(2, .int s0), (0, .ref (xE (gκ g) 9 0 0)), (1, .int a1)]) dX7_wakes_50 rfl (by decide) rfl ?_
  refine G_iload_n X 0 dX7_wakes_51 rfl rfl ?_
  refine G_if_eq X (tgt := 66) dX7_wakes_52 (by decide) (fun c10 => ?_) (fun c10 => ?_)
  · have h := it_t c10 h
    refine G_aload_n X 1 dX7_wakes_66 rfl rfl ?_
    refine G_iload_n X 2 dX7_wakes_67 rfl rfl ?_
    obtain ⟨q11, hq11, h⟩ := bd_some h
    refine G_callV X (As := [.int a1]) (rest := []) (T' := rs T 9 q11) (st2 := []) (ct_X7_listens (l := g.2.1) (κ := gκ g)   hq11) cal_X7_listens wM_X7_282 wI_X7_listens wS_X7_listens rfl rfl (by decide) rfl rfl (Nat.le_of_ble_eq_true rfl) ⟨Nat.zero_le _, Nat.zero_le _⟩ dX7_wakes_68 rfl ?_
    obtain rfl := Option.some.inj h
    exact hf _ _ dX7_wakes_71
  · have h := it_f c10 h
    refine G_aload_n X 1 dX7_wakes_55 rfl rfl ?_
    refine G_iload_n X 2 dX7_wakes_56 rfl rfl ?_
    refine G_bipush X (v := (8 : Int32)) dX7_wakes_57 (by decide) ?_
    refine G_iconst X (v := (1 : Int32)) dX7_wakes_59 (by decide) ?_
    obtain ⟨q12, hq12, h⟩ := bd_some h
    refine G_callV X (As := [.int a1, .int ((8 : Int32)), .int ((1 : Int32))]) (rest := []) (T' := rs T 9 q12) (st2 := []) (ct_X7_sets (l := g.2.1) (κ := gκ g)   hq12) cal_X7_sets wM_X7_148 wI_X7_sets wS_X7_sets rfl rfl (by decide) rfl rfl (Nat.le_of_ble_eq_true rfl) ⟨Nat.zero_le _, Nat.zero_le _⟩ dX7_wakes_60 rfl ?_
    refine G_goto X (tgt := 71) dX7_wakes_63 (by decide) ?_
    obtain rfl := Option.some.inj h
    exact hf _ _ dX7_wakes_71
set_option maxRecDepth 20000 in
theorem gX7_wakes {g : GX} {T : TT}  {m : St} {a1 : Int32} {res : St} (X : CX g RX7 cX7_wakes 3 5 110)  (hf : FinV g cX7_wakes (rs T 9 res)) (h : sX7_wakes m a1 = some res) : G g 0 0 (rs T 9 m) 0 [(0, .ref (xE (gκ g) 9 0 0)), (1, .int a1)] [] := by
  unfold sX7_wakes at h
  refine G_aload_n X 0 dX7_wakes_0 rfl rfl ?_
  refine G_iload_n X 1 dX7_wakes_1 rfl rfl ?_
  refine G_aload_n X 0 dX7_wakes_2 rfl rfl ?_
  refine f_X7_20 X rfl rfl dX7_wakes_3 ?_
  refine G_iconst X (v := (1 : Int32)) dX7_wakes_6 (by decide) ?_
  obtain ⟨g1, h⟩ := gd_some h
  refine G_iald X rfl (rg_rs _ _ _) g1 dX7_wakes_7 ?_
  obtain ⟨q2, hq2, h⟩ := bd_some h
  refine G_callV X (As := [.int a1, .int (gI m 0 2 (ix ((1 : Int32))))]) (rest := []) (T' := rs T 9 m) (st2 := [.int q2]) (ct_X7_isDueAt (l := g.2.1) (κ := gκ g)   hq2) cal_X7_isDueAt wM_X7_276 wI_X7_isDueAt wS_X7_isDueAt rfl rfl (by decide) rfl rfl (Nat.le_of_ble_eq_true rfl) ⟨Nat.zero_le _, Nat.zero_le _⟩ dX7_wakes_8 rfl ?_
  refine G_if_ne X (tgt := 15) dX7_wakes_11 (by decide) (fun c3 => ?_) (fun c3 => ?_)
  · have h := it_t c3 h
    refine G_aload_n X 0 dX7_wakes_15 rfl rfl ?_
    refine f_X7_20 X rfl rfl dX7_wakes_16 ?_
    refine G_bipush X (v := (13 : Int32)) dX7_wakes_19 (by decide) ?_
    refine G_iload_n X 1 dX7_wakes_21 rfl rfl ?_
    refine G_iadd X dX7_wakes_22 ?_
    obtain ⟨g4, h⟩ := gd_some h
    refine G_iald X rfl (rg_rs _ _ _) g4 dX7_wakes_23 ?_
    refine G_if_eq X (tgt := 49) dX7_wakes_24 (by decide) (fun c5 => ?_) (fun c5 => ?_)
    · have h := it_t c5 h
      refine G_iconst X (v := (0 : Int32)) dX7_wakes_49 (by decide) ?_
      exact gX7_wakes_b50 X hf h
    · have h := it_f c5 h
      refine G_aload_n X 0 dX7_wakes_27 rfl rfl ?_
      refine G_iload_n X 1 dX7_wakes_28 rfl rfl ?_
      refine G_bipush X (v := (8 : Int32)) dX7_wakes_29 (by decide) ?_
      obtain ⟨q6, hq6, h⟩ := bd_some h
      refine G_callV X (As := [.int a1, .int ((8 : Int32))]) (rest := []) (T' := rs T 9 m) (st2 := [.int q6]) (ct_X7_of (l := g.2.1) (κ := gκ g)   hq6) cal_X7_of wM_X7_251 wI_X7_of wS_X7_of rfl rfl (by decide) rfl rfl (Nat.le_of_ble_eq_true rfl) ⟨Nat.zero_le _, Nat.zero_le _⟩ dX7_wakes_31 rfl ?_
      refine G_if_ne X (tgt := 49) dX7_wakes_34 (by decide) (fun c7 => ?_) (fun c7 => ?_)
      · have h := it_t c7 h
        refine G_iconst X (v := (0 : Int32)) dX7_wakes_49 (by decide) ?_
        exact gX7_wakes_b50 X hf h
      · have h := it_f (fun k => k c7) h
        refine G_aload_n X 0 dX7_wakes_37 rfl rfl ?_
        refine G_iload_n X 1 dX7_wakes_38 rfl rfl ?_
        obtain ⟨q8, hq8, h⟩ := bd_some h
        refine G_callV X (As := [.int a1]) (rest := []) (T' := rs T 9 m) (st2 := [.int q8]) (ct_X7_knowsAll (l := g.2.1) (κ := gκ g)   hq8) cal_X7_knowsAll wM_X7_279 wI_X7_knowsAll wS_X7_knowsAll rfl rfl (by decide) rfl rfl (Nat.le_of_ble_eq_true rfl) ⟨Nat.zero_le _, Nat.zero_le _⟩ dX7_wakes_39 rfl ?_
        refine G_if_eq X (tgt := 49) dX7_wakes_42 (by decide) (fun c9 => ?_) (fun c9 => ?_)
        · have h := it_t c9 h
          refine G_iconst X (v := (0 : Int32)) dX7_wakes_49 (by decide) ?_
          exact gX7_wakes_b50 X hf h
        · have h := it_f c9 h
          refine G_iconst X (v := (1 : Int32)) dX7_wakes_45 (by decide) ?_
          refine G_goto X (tgt := 50) dX7_wakes_46 (by decide) ?_
          exact gX7_wakes_b50 X hf h
  · have h := it_f (fun k => k c3) h
    obtain rfl := Option.some.inj h
    exact hf _ _ dX7_wakes_14
set_option maxRecDepth 20000 in
theorem ct_X7_wakes {l : Launch} {κ : KX} {T : TT}  {m : St} {a1 : Int32} {res : St}  (h : sX7_wakes m a1 = some res) : Ct l κ yX7_wakes cX7_wakes 3 none 5 110 [.ref (xE κ 9 0 0), .int a1] (rs T 9 m) (rs T 9 res) none := by
  refine Ct_v RX7 rfl (by decide +kernel) (Nat.le_of_ble_eq_true rfl) (fun g hl hκ X hf => ?_)
  subst hl; subst hκ
  exact gX7_wakes X  hf h
set_option maxRecDepth 20000 in
theorem gX7_changes {g : GX} {T : TT}  {m : St} {a1 : Int32} {res : St} (X : CX g RX7 cX7_changes 3 6 132)  (hf : FinV g cX7_changes (rs T 9 res)) (h : sX7_changes m a1 = some res) : G g 0 0 (rs T 9 m) 0 [(0, .ref (xE (gκ g) 9 0 0)), (1, .int a1)] [] := by
  unfold sX7_changes at h
  refine G_aload_n X 0 dX7_changes_0 rfl rfl ?_
  refine G_iload_n X 1 dX7_changes_1 rfl rfl ?_
  refine G_iconst X (v := (5 : Int32)) dX7_changes_2 (by decide) ?_
  obtain ⟨q1, hq1, h⟩ := bd_some h
  refine G_callV X (As := [.int a1, .int ((5 : Int32))]) (rest := []) (T' := rs T 9 m) (st2 := [.int q1]) (ct_X7_of (l := g.2.1) (κ := gκ g)   hq1) cal_X7_of wM_X7_251 wI_X7_of wS_X7_of rfl rfl (by decide) rfl rfl (Nat.le_of_ble_eq_true rfl) ⟨Nat.zero_le _, Nat.zero_le _⟩ dX7_changes_3 rfl ?_
  refine G_istore_n X (lv' := [(2, .int q1), (0, .ref (xE (gκ g) 9 0 0)), (1, .int a1)]) dX7_changes_6 rfl (by decide) rfl ?_
  refine G_iload_n X 0 dX7_changes_7 rfl rfl ?_
  refine G_if_ne X (tgt := 19) dX7_changes_8 (by decide) (fun c2 => ?_) (fun c2 => ?_)
  · have h := it_t c2 h
    refine G_iload_n X 0 dX7_changes_19 rfl rfl ?_
    refine G_iconst X (v := (1 : Int32)) dX7_changes_20 (by decide) ?_
    refine G_icmp_ne X (tgt := 40) dX7_changes_21 (by decide) (fun c3 => ?_) (fun c3 => ?_)
    · have h := it_t c3 h
      refine G_iload_n X 0 dX7_changes_40 rfl rfl ?_
      refine G_iconst X (v := (2 : Int32)) dX7_changes_41 (by decide) ?_
      refine G_icmp_ne X (tgt := 78) dX7_changes_42 (by decide) (fun c4 => ?_) (fun c4 => ?_)
      · have h := it_t c4 h
        obtain rfl := Option.some.inj h
        exact hf _ _ dX7_changes_78
      · have h := it_f (fun k => k c4) h
        refine G_aload_n X 1 dX7_changes_45 rfl rfl ?_
        refine f_X7_20 X rfl rfl dX7_changes_46 ?_
        refine G_bipush X (v := (13 : Int32)) dX7_changes_49 (by decide) ?_
        refine G_iload_n X 2 dX7_changes_51 rfl rfl ?_
        refine G_iadd X dX7_changes_52 ?_
        obtain ⟨g5, h⟩ := gd_some h
        refine G_iald X rfl (rg_rs _ _ _) g5 dX7_changes_53 ?_
        refine G_aload_n X 1 dX7_changes_54 rfl rfl ?_
        refine f_X7_20 X rfl rfl dX7_changes_55 ?_
        refine G_bipush X (v := (12 : Int32)) dX7_changes_58 (by decide) ?_
        obtain ⟨g6, h⟩ := gd_some h
        refine G_iald X rfl (rg_rs _ _ _) g6 dX7_changes_60 ?_
        refine G_iand X dX7_changes_61 ?_
        refine G_if_ne X (tgt := 78) dX7_changes_62 (by decide) (fun c7 => ?_) (fun c7 => ?_)
        · have h := it_t c7 h
          obtain rfl := Option.some.inj h
          exact hf _ _ dX7_changes_78
        · have h := it_f (fun k => k c7) h
          refine G_aload_n X 1 dX7_changes_65 rfl rfl ?_
          refine G_iload_n X 2 dX7_changes_66 rfl rfl ?_
          obtain ⟨q8, hq8, h⟩ := bd_some h
          refine G_callV X (As := [.int a1]) (rest := []) (T' := rs T 9 q8.1) (st2 := [.int q8.2]) (ct_X7_isThrough (l := g.2.1) (κ := gκ g)   hq8) cal_X7_isThrough wM_X7_288 wI_X7_isThrough wS_X7_isThrough rfl rfl (by decide) rfl rfl (Nat.le_of_ble_eq_true rfl) ⟨Nat.zero_le _, Nat.zero_le _⟩ dX7_changes_67 rfl ?_
          refine G_if_eq X (tgt := 78) dX7_changes_70 (by decide) (fun c9 => ?_) (fun c9 => ?_)
          · have h := it_t c9 h
            obtain rfl := Option.some.inj h
            exact hf _ _ dX7_changes_78
          · have h := it_f c9 h
            refine G_aload_n X 1 dX7_changes_73 rfl rfl ?_
            refine G_iload_n X 2 dX7_changes_74 rfl rfl ?_
            obtain ⟨q10, hq10, h⟩ := bd_some h
            refine G_callV X (As := [.int a1]) (rest := []) (T' := rs T 9 q10) (st2 := []) (ct_X7_begins (l := g.2.1) (κ := gκ g)   hq10) cal_X7_begins wM_X7_294 wI_X7_begins wS_X7_begins rfl rfl (by decide) rfl rfl (Nat.le_of_ble_eq_true rfl) ⟨Nat.zero_le _, Nat.zero_le _⟩ dX7_changes_75 rfl ?_
            obtain rfl := Option.some.inj h
            exact hf _ _ dX7_changes_78
    · have h := it_f (fun k => k c3) h
      refine G_aload_n X 1 dX7_changes_24 rfl rfl ?_
      refine G_iload_n X 2 dX7_changes_25 rfl rfl ?_
      obtain ⟨q11, hq11, h⟩ := bd_some h
      refine G_callV X (As := [.int a1]) (rest := []) (T' := rs T 9 q11.1) (st2 := [.int q11.2]) (ct_X7_isThrough (l := g.2.1) (κ := gκ g)   hq11) cal_X7_isThrough wM_X7_288 wI_X7_isThrough wS_X7_isThrough rfl rfl (by decide) rfl rfl (Nat.le_of_ble_eq_true rfl) ⟨Nat.zero_le _, Nat.zero_le _⟩ dX7_changes_26 rfl ?_
      refine G_if_eq X (tgt := 78) dX7_changes_29 (by decide) (fun c12 => ?_) (fun c12 => ?_)
      · have h := it_t c12 h
        obtain rfl := Option.some.inj h
        exact hf _ _ dX7_changes_78
      · have h := it_f c12 h
        refine G_aload_n X 1 dX7_changes_32 rfl rfl ?_
        refine G_iload_n X 2 dX7_changes_33 rfl rfl ?_
        obtain ⟨q13, hq13, h⟩ := bd_some h
        refine G_callV X (As := [.int a1]) (rest := []) (T' := rs T 9 q13) (st2 := []) (ct_X7_waits (l := g.2.1) (κ := gκ g)   hq13) cal_X7_waits wM_X7_291 wI_X7_waits wS_X7_waits rfl rfl (by decide) rfl rfl (Nat.le_of_ble_eq_true rfl) ⟨Nat.zero_le _, Nat.zero_le _⟩ dX7_changes_34 rfl ?_
        refine G_goto X (tgt := 78) dX7_changes_37 (by decide) ?_
        obtain rfl := Option.some.inj h
        exact hf _ _ dX7_changes_78
  · have h := it_f (fun k => k c2) h
    refine G_aload_n X 1 dX7_changes_11 rfl rfl ?_
    refine G_iload_n X 2 dX7_changes_12 rfl rfl ?_
    obtain ⟨q14, hq14, h⟩ := bd_some h
    refine G_callV X (As := [.int a1]) (rest := []) (T' := rs T 9 q14) (st2 := []) (ct_X7_wakes (l := g.2.1) (κ := gκ g)   hq14) cal_X7_wakes wM_X7_285 wI_X7_wakes wS_X7_wakes rfl rfl (by decide) rfl rfl (Nat.le_of_ble_eq_true rfl) ⟨Nat.zero_le _, Nat.zero_le _⟩ dX7_changes_13 rfl ?_
    refine G_goto X (tgt := 78) dX7_changes_16 (by decide) ?_
    obtain rfl := Option.some.inj h
    exact hf _ _ dX7_changes_78
set_option maxRecDepth 20000 in
theorem ct_X7_changes {l : Launch} {κ : KX} {T : TT}  {m : St} {a1 : Int32} {res : St}  (h : sX7_changes m a1 = some res) : Ct l κ yX7_changes cX7_changes 3 none 6 132 [.ref (xE κ 9 0 0), .int a1] (rs T 9 m) (rs T 9 res) none := by
  refine Ct_v RX7 rfl (by decide +kernel) (Nat.le_of_ble_eq_true rfl) (fun g hl hκ X hf => ?_)
  subst hl; subst hκ
  exact gX7_changes X  hf h
set_option maxRecDepth 20000 in
theorem gX7_pays {g : GX} {T : TT}  {m : St} {a1 : Int32} {res : St} (X : CX g RX7 cX7_pays 4 3 67)  (hf : FinV g cX7_pays (rs T 9 res)) (h : sX7_pays m a1 = some res) : G g 0 0 (rs T 9 m) 0 [(0, .ref (xE (gκ g) 9 0 0)), (1, .int a1)] [] := by
  unfold sX7_pays at h
  refine G_aload_n X 0 dX7_pays_0 rfl rfl ?_
  refine G_iload_n X 1 dX7_pays_1 rfl rfl ?_
  refine G_iconst X (v := (5 : Int32)) dX7_pays_2 (by decide) ?_
  obtain ⟨q1, hq1, h⟩ := bd_some h
  refine G_callV X (As := [.int a1, .int ((5 : Int32))]) (rest := []) (T' := rs T 9 m) (st2 := [.int q1]) (ct_X7_of (l := g.2.1) (κ := gκ g)   hq1) cal_X7_of wM_X7_251 wI_X7_of wS_X7_of rfl rfl (by decide) rfl rfl (Nat.le_of_ble_eq_true rfl) ⟨Nat.zero_le _, Nat.zero_le _⟩ dX7_pays_3 rfl ?_
  refine G_istore_n X (lv' := [(2, .int q1), (0, .ref (xE (gκ g) 9 0 0)), (1, .int a1)]) dX7_pays_6 rfl (by decide) rfl ?_
  refine G_aload_n X 1 dX7_pays_7 rfl rfl ?_
  refine G_iload_n X 2 dX7_pays_8 rfl rfl ?_
  refine G_iconst X (v := (4 : Int32)) dX7_pays_9 (by decide) ?_
  obtain ⟨q2, hq2, h⟩ := bd_some h
  refine G_callV X (As := [.int a1, .int ((4 : Int32))]) (rest := []) (T' := rs T 9 m) (st2 := [.int q2]) (ct_X7_of (l := g.2.1) (κ := gκ g)   hq2) cal_X7_of wM_X7_251 wI_X7_of wS_X7_of rfl rfl (by decide) rfl rfl (Nat.le_of_ble_eq_true rfl) ⟨Nat.zero_le _, Nat.zero_le _⟩ dX7_pays_10 rfl ?_
  refine G_aload_n X 1 dX7_pays_13 rfl rfl ?_
  refine f_X7_20 X rfl rfl dX7_pays_14 ?_
  refine G_bipush X (v := (8 : Int32)) dX7_pays_17 (by decide) ?_
  refine G_iload_n X 0 dX7_pays_19 rfl rfl ?_
  refine G_iadd X dX7_pays_20 ?_
  obtain ⟨g3, h⟩ := gd_some h
  refine G_iald X rfl (rg_rs _ _ _) g3 dX7_pays_21 ?_
  obtain ⟨q4, hq4, h⟩ := bd_some h
  refine G_callS X (As := [.int q2, .int (gI m 0 2 (ix (((8 : Int32)) + q1)))]) (rest := []) (T' := rs T 9 m) (st2 := [.int q4]) (ct_X7_lesser (l := g.2.1) (κ := gκ g)   hq4) cal_X7_lesser wM_X7_260 wT_X7_lesser (by decide) rfl rfl (Nat.le_of_ble_eq_true rfl) ⟨Nat.zero_le _, Nat.zero_le _⟩ dX7_pays_22 rfl ?_
  refine G_istore_n X (lv' := [(3, .int q4), (2, .int q1), (0, .ref (xE (gκ g) 9 0 0)), (1, .int a1)]) dX7_pays_25 rfl (by decide) rfl ?_
  refine G_aload_n X 2 dX7_pays_26 rfl rfl ?_
  refine G_iload_n X 3 dX7_pays_27 rfl rfl ?_
  refine G_iconst X (v := (4 : Int32)) dX7_pays_28 (by decide) ?_
  refine G_iload_n X 0 dX7_pays_29 rfl rfl ?_
  refine G_ineg X dX7_pays_30 ?_
  obtain ⟨q5, hq5, h⟩ := bd_some h
  refine G_callV X (As := [.int a1, .int ((4 : Int32)), .int (-q4)]) (rest := []) (T' := rs T 9 q5) (st2 := []) (ct_X7_adds (l := g.2.1) (κ := gκ g)   hq5) cal_X7_adds wM_X7_273 wI_X7_adds wS_X7_adds rfl rfl (by decide) rfl rfl (Nat.le_of_ble_eq_true rfl) ⟨Nat.zero_le _, Nat.zero_le _⟩ dX7_pays_31 rfl ?_
  refine G_aload_n X 2 dX7_pays_34 rfl rfl ?_
  refine G_iload_n X 3 dX7_pays_35 rfl rfl ?_
  refine G_bipush X (v := (13 : Int32)) dX7_pays_36 (by decide) ?_
  refine G_iload_n X 0 dX7_pays_38 rfl rfl ?_
  obtain ⟨q6, hq6, h⟩ := bd_some h
  refine G_callV X (As := [.int a1, .int ((13 : Int32)), .int q4]) (rest := []) (T' := rs T 9 q6) (st2 := []) (ct_X7_adds (l := g.2.1) (κ := gκ g)   hq6) cal_X7_adds wM_X7_273 wI_X7_adds wS_X7_adds rfl rfl (by decide) rfl rfl (Nat.le_of_ble_eq_true rfl) ⟨Nat.zero_le _, Nat.zero_le _⟩ dX7_pays_39 rfl ?_
  refine G_aload_n X 2 dX7_pays_42 rfl rfl ?_
  refine G_iload_n X 3 dX7_pays_43 rfl rfl ?_
  refine G_bipush X (v := (14 : Int32)) dX7_pays_44 (by decide) ?_
  refine G_iload_n X 1 dX7_pays_46 rfl rfl ?_
  refine G_iadd X dX7_pays_47 ?_
  refine G_iconst X (v := (1 : Int32)) dX7_pays_48 (by decide) ?_
  obtain ⟨q7, hq7, h⟩ := bd_some h
  refine G_callV X (As := [.int a1, .int (((14 : Int32)) + q1), .int ((1 : Int32))]) (rest := []) (T' := rs T 9 q7) (st2 := []) (ct_X7_adds (l := g.2.1) (κ := gκ g)   hq7) cal_X7_adds wM_X7_273 wI_X7_adds wS_X7_adds rfl rfl (by decide) rfl rfl (Nat.le_of_ble_eq_true rfl) ⟨Nat.zero_le _, Nat.zero_le _⟩ dX7_pays_49 rfl ?_
  refine G_aload_n X 2 dX7_pays_52 rfl rfl ?_
  refine G_iload_n X 3 dX7_pays_53 rfl rfl ?_
  refine G_iconst X (v := (4 : Int32)) dX7_pays_54 (by decide) ?_
  obtain ⟨q8, hq8, h⟩ := bd_some h
  refine G_callV X (As := [.int a1, .int ((4 : Int32))]) (rest := []) (T' := rs T 9 q7) (st2 := [.int q8]) (ct_X7_of (l := g.2.1) (κ := gκ g)   hq8) cal_X7_of wM_X7_251 wI_X7_of wS_X7_of rfl rfl (by decide) rfl rfl (Nat.le_of_ble_eq_true rfl) ⟨Nat.zero_le _, Nat.zero_le _⟩ dX7_pays_55 rfl ?_
  refine G_if_ne X (tgt := 68) dX7_pays_58 (by decide) (fun c9 => ?_) (fun c9 => ?_)
  · have h := it_t c9 h
    obtain rfl := Option.some.inj h
    exact hf _ _ dX7_pays_68
  · have h := it_f (fun k => k c9) h
    refine G_aload_n X 2 dX7_pays_61 rfl rfl ?_
    refine G_iload_n X 3 dX7_pays_62 rfl rfl ?_
    refine G_iconst X (v := (4 : Int32)) dX7_pays_63 (by decide) ?_
    refine G_iconst X (v := (0 : Int32)) dX7_pays_64 (by decide) ?_
    obtain ⟨q10, hq10, h⟩ := bd_some h
    refine G_callV X (As := [.int a1, .int ((4 : Int32)), .int ((0 : Int32))]) (rest := []) (T' := rs T 9 q10) (st2 := []) (ct_X7_enters (l := g.2.1) (κ := gκ g)   hq10) cal_X7_enters wM_X7_264 wI_X7_enters wS_X7_enters rfl rfl (by decide) rfl rfl (Nat.le_of_ble_eq_true rfl) ⟨Nat.zero_le _, Nat.zero_le _⟩ dX7_pays_65 rfl ?_
    obtain rfl := Option.some.inj h
    exact hf _ _ dX7_pays_68
set_option maxRecDepth 20000 in
theorem ct_X7_pays {l : Launch} {κ : KX} {T : TT}  {m : St} {a1 : Int32} {res : St}  (h : sX7_pays m a1 = some res) : Ct l κ yX7_pays cX7_pays 4 none 3 67 [.ref (xE κ 9 0 0), .int a1] (rs T 9 m) (rs T 9 res) none := by
  refine Ct_v RX7 rfl (by decide +kernel) (Nat.le_of_ble_eq_true rfl) (fun g hl hκ X hf => ?_)
  subst hl; subst hκ
  exact gX7_pays X  hf h
set_option maxRecDepth 20000 in
theorem gX7_senders_b4 {g : GX} {T : TT}  {m : St} {res : Int32}  (X : CX g RX7 cX7_senders 3 3 65)  (hf : FinI g cX7_senders .int (rs T 9 m) (res))  : ∀ (n : Nat) (a1 : Int32) (a2 : Int32) (h : sX7_senders_b4 n  m a1 a2 = some res), G g 0 0 (rs T 9 m) 4 [(0, .ref (xE (gκ g) 9 0 0)), (1, .int a1), (2, .int a2)] [] := by
  intro n
  induction n with
  | zero => intro a1 a2 h; unfold sX7_senders_b4 at h; cases h
  | succ n ih =>
    intro a1 a2 h
    unfold sX7_senders_b4 at h
    refine G_iload_n X 2 dX7_senders_4 rfl rfl ?_
    refine G_aload_n X 0 dX7_senders_5 rfl rfl ?_
    refine f_X7_20 X rfl rfl dX7_senders_6 ?_
    refine G_iconst X (v := (0 : Int32)) dX7_senders_9 (by decide) ?_
    obtain ⟨g1, h⟩ := gd_some h
    refine G_iald X rfl (rg_rs _ _ _) g1 dX7_senders_10 ?_
    refine G_icmp_ge X (tgt := 39) dX7_senders_11 (by decide) (fun c2 => ?_) (fun c2 => ?_)
    · have h := it_t c2 h
      refine G_iload_n X 1 dX7_senders_39 rfl rfl ?_
      obtain rfl := Option.some.inj h
      exact hf _ _ dX7_senders_40 rfl
    · have h := it_f c2 h
      refine G_iload_n X 1 dX7_senders_14 rfl rfl ?_
      refine G_aload_n X 0 dX7_senders_15 rfl rfl ?_
      refine G_iload_n X 2 dX7_senders_16 rfl rfl ?_
      refine G_iconst X (v := (3 : Int32)) dX7_senders_17 (by decide) ?_
      obtain ⟨q3, hq3, h⟩ := bd_some h
      refine G_callV X (As := [.int a2, .int ((3 : Int32))]) (rest := [.int a1]) (T' := rs T 9 m) (st2 := [.int q3, .int a1]) (ct_X7_isAt (l := g.2.1) (κ := gκ g)   hq3) cal_X7_isAt wM_X7_297 wI_X7_isAt wS_X7_isAt rfl rfl (by decide) rfl rfl (Nat.le_of_ble_eq_true rfl) ⟨Nat.zero_le _, Nat.zero_le _⟩ dX7_senders_18 rfl ?_
      refine G_if_eq X (tgt := 30) dX7_senders_21 (by decide) (fun c4 => ?_) (fun c4 => ?_)
      · have h := it_t c4 h
        refine G_iconst X (v := (0 : Int32)) dX7_senders_30 (by decide) ?_
        refine G_ior X dX7_senders_31 ?_
        refine G_istore_n X (lv' := [(1, .int (a1 ||| ((0 : Int32)))), (0, .ref (xE (gκ g) 9 0 0)), (2, .int a2)]) dX7_senders_32 rfl (by decide) rfl ?_
        obtain ⟨v5, ev5, h⟩ := nm_some h
        refine G_iinc X (v := v5) (lv' := [(2, .int v5), (1, .int (a1 ||| ((0 : Int32)))), (0, .ref (xE (gκ g) 9 0 0))]) 2 dX7_senders_33 rfl (by rw [ev5]; rfl) (by decide) rfl ?_
        refine G_goto X (tgt := 4) dX7_senders_36 (by decide) ?_
        refine G_sub [2, 1, 0] rfl ?_
        exact ih _ _ h
      · have h := it_f c4 h
        refine G_iconst X (v := (1 : Int32)) dX7_senders_24 (by decide) ?_
        refine G_iload_n X 2 dX7_senders_25 rfl rfl ?_
        refine G_ishl X dX7_senders_26 ?_
        refine G_goto X (tgt := 31) dX7_senders_27 (by decide) ?_
        refine G_ior X dX7_senders_31 ?_
        obtain ⟨v6, ev6, h⟩ := nm_some h
        refine G_nmi ev6 ?_
        refine G_istore_n X (lv' := [(1, .int v6), (0, .ref (xE (gκ g) 9 0 0)), (2, .int a2)]) dX7_senders_32 rfl (by decide) rfl ?_
        obtain ⟨v7, ev7, h⟩ := nm_some h
        refine G_iinc X (v := v7) (lv' := [(2, .int v7), (1, .int v6), (0, .ref (xE (gκ g) 9 0 0))]) 2 dX7_senders_33 rfl (by rw [ev7]; rfl) (by decide) rfl ?_
        refine G_goto X (tgt := 4) dX7_senders_36 (by decide) ?_
        refine G_sub [2, 1, 0] rfl ?_
        exact ih _ _ h
set_option maxRecDepth 20000 in
theorem gX7_senders {g : GX} {T : TT}  {m : St}  {res : Int32} (X : CX g RX7 cX7_senders 3 3 65)  (hf : FinI g cX7_senders .int (rs T 9 m) (res)) (h : sX7_senders m = some res) : G g 0 0 (rs T 9 m) 0 [(0, .ref (xE (gκ g) 9 0 0))] [] := by
  unfold sX7_senders at h
  refine G_iconst X (v := (0 : Int32)) dX7_senders_0 (by decide) ?_
  refine G_istore_n X (lv' := [(1, .int ((0 : Int32))), (0, .ref (xE (gκ g) 9 0 0))]) dX7_senders_1 rfl (by decide) rfl ?_
  refine G_iconst X (v := (0 : Int32)) dX7_senders_2 (by decide) ?_
  refine G_istore_n X (lv' := [(2, .int ((0 : Int32))), (1, .int ((0 : Int32))), (0, .ref (xE (gκ g) 9 0 0))]) dX7_senders_3 rfl (by decide) rfl ?_
  refine G_sub [2, 1, 0] rfl ?_
  exact gX7_senders_b4 X hf FU _ _ h
set_option maxRecDepth 20000 in
theorem ct_X7_senders {l : Launch} {κ : KX} {T : TT}  {m : St}  {res : Int32}  (h : sX7_senders m = some res) : Ct l κ yX7_senders cX7_senders 3 (some .int) 3 65 [.ref (xE κ 9 0 0)] (rs T 9 m) (rs T 9 m) (some (.int (res))) := by
  refine Ct_i RX7 rfl (by decide +kernel) (Nat.le_of_ble_eq_true rfl) (fun g hl hκ X hf => ?_)
  subst hl; subst hκ
  exact gX7_senders X  hf h
set_option maxRecDepth 20000 in
theorem gX7_hasEars {g : GX} {T : TT}  {m : St} {a1 : Int32} {res : Int32} (X : CX g RX7 cX7_hasEars 2 3 65)  (hf : FinI g cX7_hasEars .boolean (rs T 9 m) (res)) (h : sX7_hasEars m a1 = some res) : G g 0 0 (rs T 9 m) 0 [(0, .ref (xE (gκ g) 9 0 0)), (1, .int a1)] [] := by
  unfold sX7_hasEars at h
  refine G_aload_n X 0 dX7_hasEars_0 rfl rfl ?_
  refine G_iload_n X 1 dX7_hasEars_1 rfl rfl ?_
  refine G_iconst X (v := (1 : Int32)) dX7_hasEars_2 (by decide) ?_
  obtain ⟨q1, hq1, h⟩ := bd_some h
  refine G_callV X (As := [.int a1, .int ((1 : Int32))]) (rest := []) (T' := rs T 9 m) (st2 := [.int q1]) (ct_X7_isAt (l := g.2.1) (κ := gκ g)   hq1) cal_X7_isAt wM_X7_297 wI_X7_isAt wS_X7_isAt rfl rfl (by decide) rfl rfl (Nat.le_of_ble_eq_true rfl) ⟨Nat.zero_le _, Nat.zero_le _⟩ dX7_hasEars_3 rfl ?_
  refine G_if_ne X (tgt := 18) dX7_hasEars_6 (by decide) (fun c2 => ?_) (fun c2 => ?_)
  · have h := it_t c2 h
    refine G_iconst X (v := (1 : Int32)) dX7_hasEars_18 (by decide) ?_
    refine G_goto X (tgt := 23) dX7_hasEars_19 (by decide) ?_
    obtain rfl := Option.some.inj h
    exact hf _ _ dX7_hasEars_23 (isb_n (v := (1 : Int32)) rfl)
  · have h := it_f (fun k => k c2) h
    refine G_aload_n X 0 dX7_hasEars_9 rfl rfl ?_
    refine G_iload_n X 1 dX7_hasEars_10 rfl rfl ?_
    refine G_iconst X (v := (2 : Int32)) dX7_hasEars_11 (by decide) ?_
    obtain ⟨q3, hq3, h⟩ := bd_some h
    refine G_callV X (As := [.int a1, .int ((2 : Int32))]) (rest := []) (T' := rs T 9 m) (st2 := [.int q3]) (ct_X7_isAt (l := g.2.1) (κ := gκ g)   hq3) cal_X7_isAt wM_X7_297 wI_X7_isAt wS_X7_isAt rfl rfl (by decide) rfl rfl (Nat.le_of_ble_eq_true rfl) ⟨Nat.zero_le _, Nat.zero_le _⟩ dX7_hasEars_12 rfl ?_
    refine G_if_eq X (tgt := 22) dX7_hasEars_15 (by decide) (fun c4 => ?_) (fun c4 => ?_)
    · have h := it_t c4 h
      refine G_iconst X (v := (0 : Int32)) dX7_hasEars_22 (by decide) ?_
      obtain rfl := Option.some.inj h
      exact hf _ _ dX7_hasEars_23 (isb_n (v := (0 : Int32)) rfl)
    · have h := it_f c4 h
      refine G_iconst X (v := (1 : Int32)) dX7_hasEars_18 (by decide) ?_
      refine G_goto X (tgt := 23) dX7_hasEars_19 (by decide) ?_
      obtain rfl := Option.some.inj h
      exact hf _ _ dX7_hasEars_23 (isb_n (v := (1 : Int32)) rfl)
set_option maxRecDepth 20000 in
theorem ct_X7_hasEars {l : Launch} {κ : KX} {T : TT}  {m : St} {a1 : Int32} {res : Int32}  (h : sX7_hasEars m a1 = some res) : Ct l κ yX7_hasEars cX7_hasEars 2 (some .boolean) 3 65 [.ref (xE κ 9 0 0), .int a1] (rs T 9 m) (rs T 9 m) (some (.int (res))) := by
  refine Ct_i RX7 rfl (by decide +kernel) (Nat.le_of_ble_eq_true rfl) (fun g hl hκ X hf => ?_)
  subst hl; subst hκ
  exact gX7_hasEars X  hf h
set_option maxRecDepth 20000 in
theorem gX7_deafness {g : GX} {T : TT}  {m : St} {a1 : Int32} {a2 : Int32} {a3 : Int32} {res : Int32} (X : CX g RX7 cX7_deafness 4 3 65)  (hf : FinI g cX7_deafness .int (rs T 9 m) (res)) (h : sX7_deafness m a1 a2 a3 = some res) : G g 0 0 (rs T 9 m) 0 [(0, .ref (xE (gκ g) 9 0 0)), (1, .int a1), (2, .int a2), (3, .int a3)] [] := by
  unfold sX7_deafness at h
  refine G_aload_n X 0 dX7_deafness_0 rfl rfl ?_
  refine G_iload_n X 1 dX7_deafness_1 rfl rfl ?_
  refine G_iload_n X 2 dX7_deafness_2 rfl rfl ?_
  obtain ⟨q1, hq1, h⟩ := bd_some h
  refine G_callV X (As := [.int a1, .int a2]) (rest := []) (T' := rs T 9 m) (st2 := [.int q1]) (ct_X7_areNear (l := g.2.1) (κ := gκ g)   hq1) cal_X7_areNear wM_X7_208 wI_X7_areNear wS_X7_areNear rfl rfl (by decide) rfl rfl (Nat.le_of_ble_eq_true rfl) ⟨Nat.zero_le _, Nat.zero_le _⟩ dX7_deafness_3 rfl ?_
  refine G_if_ne X (tgt := 11) dX7_deafness_6 (by decide) (fun c2 => ?_) (fun c2 => ?_)
  · have h := it_t c2 h
    refine G_aload_n X 0 dX7_deafness_11 rfl rfl ?_
    refine G_iload_n X 1 dX7_deafness_12 rfl rfl ?_
    refine G_iconst X (v := (0 : Int32)) dX7_deafness_13 (by decide) ?_
    obtain ⟨q3, hq3, h⟩ := bd_some h
    refine G_callV X (As := [.int a1, .int ((0 : Int32))]) (rest := []) (T' := rs T 9 m) (st2 := [.int q3]) (ct_X7_isAt (l := g.2.1) (κ := gκ g)   hq3) cal_X7_isAt wM_X7_297 wI_X7_isAt wS_X7_isAt rfl rfl (by decide) rfl rfl (Nat.le_of_ble_eq_true rfl) ⟨Nat.zero_le _, Nat.zero_le _⟩ dX7_deafness_14 rfl ?_
    refine G_if_ne X (tgt := 29) dX7_deafness_17 (by decide) (fun c4 => ?_) (fun c4 => ?_)
    · have h := it_t c4 h
      refine G_iconst X (v := (2 : Int32)) dX7_deafness_29 (by decide) ?_
      obtain rfl := Option.some.inj h
      exact hf _ _ dX7_deafness_30 rfl
    · have h := it_f (fun k => k c4) h
      refine G_aload_n X 0 dX7_deafness_20 rfl rfl ?_
      refine G_iload_n X 1 dX7_deafness_21 rfl rfl ?_
      refine G_iconst X (v := (4 : Int32)) dX7_deafness_22 (by decide) ?_
      obtain ⟨q5, hq5, h⟩ := bd_some h
      refine G_callV X (As := [.int a1, .int ((4 : Int32))]) (rest := []) (T' := rs T 9 m) (st2 := [.int q5]) (ct_X7_isAt (l := g.2.1) (κ := gκ g)   hq5) cal_X7_isAt wM_X7_297 wI_X7_isAt wS_X7_isAt rfl rfl (by decide) rfl rfl (Nat.le_of_ble_eq_true rfl) ⟨Nat.zero_le _, Nat.zero_le _⟩ dX7_deafness_23 rfl ?_
      refine G_if_eq X (tgt := 31) dX7_deafness_26 (by decide) (fun c6 => ?_) (fun c6 => ?_)
      · have h := it_t c6 h
        refine G_aload_n X 0 dX7_deafness_31 rfl rfl ?_
        refine G_iload_n X 1 dX7_deafness_32 rfl rfl ?_
        refine G_iconst X (v := (3 : Int32)) dX7_deafness_33 (by decide) ?_
        obtain ⟨q7, hq7, h⟩ := bd_some h
        refine G_callV X (As := [.int a1, .int ((3 : Int32))]) (rest := []) (T' := rs T 9 m) (st2 := [.int q7]) (ct_X7_isAt (l := g.2.1) (κ := gκ g)   hq7) cal_X7_isAt wM_X7_297 wI_X7_isAt wS_X7_isAt rfl rfl (by decide) rfl rfl (Nat.le_of_ble_eq_true rfl) ⟨Nat.zero_le _, Nat.zero_le _⟩ dX7_deafness_34 rfl ?_
        refine G_if_eq X (tgt := 42) dX7_deafness_37 (by decide) (fun c8 => ?_) (fun c8 => ?_)
        · have h := it_t c8 h
          refine G_aload_n X 0 dX7_deafness_42 rfl rfl ?_
          refine f_X7_20 X rfl rfl dX7_deafness_43 ?_
          refine G_bipush X (v := (13 : Int32)) dX7_deafness_46 (by decide) ?_
          refine G_iload_n X 1 dX7_deafness_48 rfl rfl ?_
          refine G_iadd X dX7_deafness_49 ?_
          obtain ⟨g9, h⟩ := gd_some h
          refine G_iald X rfl (rg_rs _ _ _) g9 dX7_deafness_50 ?_
          refine G_iload_n X 3 dX7_deafness_51 rfl rfl ?_
          refine G_iand X dX7_deafness_52 ?_
          obtain ⟨q10, hq10, h⟩ := bd_some h
          refine G_callS X (As := [.int ((gI m 0 2 (ix (((13 : Int32)) + a1))) &&& a3)]) (rest := []) (T' := rs T 9 m) (st2 := [.int q10]) (ct_X7_bits (l := g.2.1) (κ := gκ g)   hq10) cal_X7_bits wM_X7_300 wT_X7_bits (by decide) rfl rfl (Nat.le_of_ble_eq_true rfl) ⟨Nat.zero_le _, Nat.zero_le _⟩ dX7_deafness_53 rfl ?_
          refine G_iconst X (v := (1 : Int32)) dX7_deafness_56 (by decide) ?_
          refine G_icmp_le X (tgt := 64) dX7_deafness_57 (by decide) (fun c11 => ?_) (fun c11 => ?_)
          · have h := it_t c11 h
            refine G_iconst X (v := (0 : Int32)) dX7_deafness_64 (by decide) ?_
            obtain rfl := Option.some.inj h
            exact hf _ _ dX7_deafness_65 rfl
          · have h := it_f c11 h
            refine G_iconst X (v := (4 : Int32)) dX7_deafness_60 (by decide) ?_
            refine G_goto X (tgt := 65) dX7_deafness_61 (by decide) ?_
            obtain rfl := Option.some.inj h
            exact hf _ _ dX7_deafness_65 rfl
        · have h := it_f c8 h
          refine G_iconst X (v := (3 : Int32)) dX7_deafness_40 (by decide) ?_
          obtain rfl := Option.some.inj h
          exact hf _ _ dX7_deafness_41 rfl
      · have h := it_f c6 h
        refine G_iconst X (v := (2 : Int32)) dX7_deafness_29 (by decide) ?_
        obtain rfl := Option.some.inj h
        exact hf _ _ dX7_deafness_30 rfl
  · have h := it_f (fun k => k c2) h
    refine G_iconst X (v := (1 : Int32)) dX7_deafness_9 (by decide) ?_
    obtain rfl := Option.some.inj h
    exact hf _ _ dX7_deafness_10 rfl
set_option maxRecDepth 20000 in
theorem ct_X7_deafness {l : Launch} {κ : KX} {T : TT}  {m : St} {a1 : Int32} {a2 : Int32} {a3 : Int32} {res : Int32}  (h : sX7_deafness m a1 a2 a3 = some res) : Ct l κ yX7_deafness cX7_deafness 4 (some .int) 3 65 [.ref (xE κ 9 0 0), .int a1, .int a2, .int a3] (rs T 9 m) (rs T 9 m) (some (.int (res))) := by
  refine Ct_i RX7 rfl (by decide +kernel) (Nat.le_of_ble_eq_true rfl) (fun g hl hκ X hf => ?_)
  subst hl; subst hκ
  exact gX7_deafness X  hf h
set_option maxRecDepth 20000 in
theorem gX7_hears_b28 {g : GX} {T : TT}  {m : St} {a1 : Int32} {a2 : Int32} {a3 : Int32} {s0 : Int32} {res : St} {k2 : St → Int32 → Int32 → Int32 → Option (St)} (X : CX g RX7 cX7_hears 5 4 88)  (hf : FinV g cX7_hears (rs T 9 res)) (hk2 : ∀ (m' : St) (a1' : Int32) (a2' : Int32) (a3' : Int32), k2 m' a1' a2' a3' = some res → G g 0 0 (rs T 9 m') 2 [(0, .ref (xE (gκ g) 9 0 0)), (1, .int a1'), (2, .int a2'), (3, .int a3')] [])  (h : sX7_hears_b28 k2 m a1 a2 a3 s0 = some res) : G g 0 0 (rs T 9 m) 28 [(0, .ref (xE (gκ g) 9 0 0)), (1, .int a1), (2, .int a2), (3, .int a3)] [.int s0] := by
  unfold sX7_hears_b28 at h
  refine G_istore X (lv' := [(4, .int s0), (0, .ref (xE (gκ g) 9 0 0)), (1, .int a1), (2, .int a2), (3, .int a3)]) dX7_hears_28 (by decide) rfl ?_
  refine G_iload X 0 dX7_hears_30 rfl ?_
  refine G_if_ne X (tgt := 38) dX7_hears_32 (by decide) (fun c5 => ?_) (fun c5 => ?_)
  · have h := it_t c5 h
    refine G_aload_n X 1 dX7_hears_38 rfl rfl ?_
    refine G_iload_n X 2 dX7_hears_39 rfl rfl ?_
    refine G_bipush X (v := (9 : Int32)) dX7_hears_40 (by decide) ?_
    refine G_aload_n X 1 dX7_hears_42 rfl rfl ?_
    refine G_iload_n X 2 dX7_hears_43 rfl rfl ?_
    refine G_bipush X (v := (9 : Int32)) dX7_hears_44 (by decide) ?_
    obtain ⟨q6, hq6, h⟩ := bd_some h
    refine G_callV X (As := [.int a1, .int ((9 : Int32))]) (rest := [.int ((9 : Int32)), .int a1, .ref (xE (gκ g) 9 0 0)]) (T' := rs T 9 m) (st2 := [.int q6, .int ((9 : Int32)), .int a1, .ref (xE (gκ g) 9 0 0)]) (ct_X7_of (l := g.2.1) (κ := gκ g)   hq6) cal_X7_of wM_X7_251 wI_X7_of wS_X7_of rfl rfl (by decide) rfl rfl (Nat.le_of_ble_eq_true rfl) ⟨Nat.zero_le _, Nat.zero_le _⟩ dX7_hears_46 rfl ?_
    refine G_iconst X (v := (1 : Int32)) dX7_hears_49 (by decide) ?_
    refine G_iload_n X 4 dX7_hears_50 rfl rfl ?_
    refine G_ishl X dX7_hears_51 ?_
    refine G_iconst X (v := (-1 : Int32)) dX7_hears_52 (by decide) ?_
    refine G_ixor X dX7_hears_53 ?_
    refine G_iand X dX7_hears_54 ?_
    obtain ⟨q7, hq7, h⟩ := bd_some h
    refine G_callV X (As := [.int a1, .int ((9 : Int32)), .int (q6 &&& ((((1 : Int32)) <<< (a3 &&& (31 : Int32))) ^^^ ((-1 : Int32))))]) (rest := []) (T' := rs T 9 q7) (st2 := []) (ct_X7_sets (l := g.2.1) (κ := gκ g)   hq7) cal_X7_sets wM_X7_148 wI_X7_sets wS_X7_sets rfl rfl (by decide) rfl rfl (Nat.le_of_ble_eq_true rfl) ⟨Nat.zero_le _, Nat.zero_le _⟩ dX7_hears_55 rfl ?_
    refine G_aload_n X 1 dX7_hears_58 rfl rfl ?_
    refine G_iload_n X 2 dX7_hears_59 rfl rfl ?_
    refine G_bipush X (v := (27 : Int32)) dX7_hears_60 (by decide) ?_
    refine G_iload_n X 4 dX7_hears_62 rfl rfl ?_
    refine G_iadd X dX7_hears_63 ?_
    obtain ⟨q8, hq8, h⟩ := bd_some h
    refine G_callV X (As := [.int a1, .int (((27 : Int32)) + a3)]) (rest := []) (T' := rs T 9 q7) (st2 := [.int q8]) (ct_X7_of (l := g.2.1) (κ := gκ g)   hq8) cal_X7_of wM_X7_251 wI_X7_of wS_X7_of rfl rfl (by decide) rfl rfl (Nat.le_of_ble_eq_true rfl) ⟨Nat.zero_le _, Nat.zero_le _⟩ dX7_hears_64 rfl ?_
    refine G_if_ne X (tgt := 81) dX7_hears_67 (by decide) (fun c9 => ?_) (fun c9 => ?_)
    · have h := it_t c9 h
      obtain ⟨v10, ev10, h⟩ := nm_some h
      refine G_iinc X (v := v10) (lv' := [(3, .int v10), (4, .int s0), (0, .ref (xE (gκ g) 9 0 0)), (1, .int a1), (2, .int a2)]) 4 dX7_hears_81 rfl (by rw [ev10]; rfl) (by decide) rfl ?_
      refine G_goto X (tgt := 2) dX7_hears_84 (by decide) ?_
      refine G_sub [2, 3, 4, 0] rfl ?_
      exact hk2 _ _ _ _ h
    · have h := it_f (fun k => k c9) h
      refine G_aload_n X 1 dX7_hears_70 rfl rfl ?_
      refine G_iload_n X 2 dX7_hears_71 rfl rfl ?_
      refine G_bipush X (v := (27 : Int32)) dX7_hears_72 (by decide) ?_
      refine G_iload_n X 4 dX7_hears_74 rfl rfl ?_
      refine G_iadd X dX7_hears_75 ?_
      refine G_iload X 0 dX7_hears_76 rfl ?_
      obtain ⟨q11, hq11, h⟩ := bd_some h
      refine G_callV X (As := [.int a1, .int (((27 : Int32)) + a3), .int s0]) (rest := []) (T' := rs T 9 q11) (st2 := []) (ct_X7_sets (l := g.2.1) (κ := gκ g)   hq11) cal_X7_sets wM_X7_148 wI_X7_sets wS_X7_sets rfl rfl (by decide) rfl rfl (Nat.le_of_ble_eq_true rfl) ⟨Nat.zero_le _, Nat.zero_le _⟩ dX7_hears_78 rfl ?_
      obtain ⟨v12, ev12, h⟩ := nm_some h
      refine G_iinc X (v := v12) (lv' := [(3, .int v12), (4, .int s0), (0, .ref (xE (gκ g) 9 0 0)), (1, .int a1), (2, .int a2)]) 4 dX7_hears_81 rfl (by rw [ev12]; rfl) (by decide) rfl ?_
      refine G_goto X (tgt := 2) dX7_hears_84 (by decide) ?_
      refine G_sub [2, 3, 4, 0] rfl ?_
      exact hk2 _ _ _ _ h
  · have h := it_f (fun k => k c5) h
    refine G_goto X (tgt := 81) dX7_hears_35 (by decide) ?_
    obtain ⟨v13, ev13, h⟩ := nm_some h
    refine G_iinc X (v := v13) (lv' := [(3, .int v13), (4, .int s0), (0, .ref (xE (gκ g) 9 0 0)), (1, .int a1), (2, .int a2)]) 4 dX7_hears_81 rfl (by rw [ev13]; rfl) (by decide) rfl ?_
    refine G_goto X (tgt := 2) dX7_hears_84 (by decide) ?_
    refine G_sub [2, 3, 4, 0] rfl ?_
    exact hk2 _ _ _ _ h
set_option maxRecDepth 20000 in
theorem gX7_hears_b2 {g : GX} {T : TT}   {res : St}  (X : CX g RX7 cX7_hears 5 4 88)  (hf : FinV g cX7_hears (rs T 9 res))  : ∀ (n : Nat) (m : St) (a1 : Int32) (a2 : Int32) (a3 : Int32) (h : sX7_hears_b2 n  m a1 a2 a3 = some res), G g 0 0 (rs T 9 m) 2 [(0, .ref (xE (gκ g) 9 0 0)), (1, .int a1), (2, .int a2), (3, .int a3)] [] := by
  intro n
  induction n with
  | zero => intro m a1 a2 a3 h; unfold sX7_hears_b2 at h; cases h
  | succ n ih =>
    intro m a1 a2 a3 h
    unfold sX7_hears_b2 at h
    refine G_iload_n X 3 dX7_hears_2 rfl rfl ?_
    refine G_aload_n X 0 dX7_hears_3 rfl rfl ?_
    refine f_X7_20 X rfl rfl dX7_hears_4 ?_
    refine G_iconst X (v := (0 : Int32)) dX7_hears_7 (by decide) ?_
    obtain ⟨g1, h⟩ := gd_some h
    refine G_iald X rfl (rg_rs _ _ _) g1 dX7_hears_8 ?_
    refine G_icmp_ge X (tgt := 87) dX7_hears_9 (by decide) (fun c2 => ?_) (fun c2 => ?_)
    · have h := it_t c2 h
      obtain rfl := Option.some.inj h
      exact hf _ _ dX7_hears_87
    · have h := it_f c2 h
      refine G_iload_n X 3 dX7_hears_12 rfl rfl ?_
      refine G_iload_n X 1 dX7_hears_13 rfl rfl ?_
      refine G_icmp_ne X (tgt := 21) dX7_hears_14 (by decide) (fun c3 => ?_) (fun c3 => ?_)
      · have h := it_t c3 h
        refine G_aload_n X 0 dX7_hears_21 rfl rfl ?_
        refine G_iload_n X 3 dX7_hears_22 rfl rfl ?_
        refine G_iload_n X 1 dX7_hears_23 rfl rfl ?_
        refine G_iload_n X 2 dX7_hears_24 rfl rfl ?_
        obtain ⟨q4, hq4, h⟩ := bd_some h
        refine G_callV X (As := [.int a3, .int a1, .int a2]) (rest := []) (T' := rs T 9 m) (st2 := [.int q4]) (ct_X7_deafness (l := g.2.1) (κ := gκ g)   hq4) cal_X7_deafness wM_X7_303 wI_X7_deafness wS_X7_deafness rfl rfl (by decide) rfl rfl (Nat.le_of_ble_eq_true rfl) ⟨Nat.zero_le _, Nat.zero_le _⟩ dX7_hears_25 rfl ?_
        exact gX7_hears_b28 X hf (fun _ _ _ _ h => ih _ _ _ _ h) h
      · have h := it_f (fun k => k c3) h
        refine G_iconst X (v := (0 : Int32)) dX7_hears_17 (by decide) ?_
        refine G_goto X (tgt := 28) dX7_hears_18 (by decide) ?_
        exact gX7_hears_b28 X hf (fun _ _ _ _ h => ih _ _ _ _ h) h
set_option maxRecDepth 20000 in
theorem gX7_hears {g : GX} {T : TT}  {m : St} {a1 : Int32} {a2 : Int32} {res : St} (X : CX g RX7 cX7_hears 5 4 88)  (hf : FinV g cX7_hears (rs T 9 res)) (h : sX7_hears m a1 a2 = some res) : G g 0 0 (rs T 9 m) 0 [(0, .ref (xE (gκ g) 9 0 0)), (1, .int a1), (2, .int a2)] [] := by
  unfold sX7_hears at h
  refine G_iconst X (v := (0 : Int32)) dX7_hears_0 (by decide) ?_
  refine G_istore_n X (lv' := [(3, .int ((0 : Int32))), (0, .ref (xE (gκ g) 9 0 0)), (1, .int a1), (2, .int a2)]) dX7_hears_1 rfl (by decide) rfl ?_
  refine G_sub [1, 2, 3, 0] rfl ?_
  exact gX7_hears_b2 X hf FU _ _ _ _ h
set_option maxRecDepth 20000 in
theorem ct_X7_hears {l : Launch} {κ : KX} {T : TT}  {m : St} {a1 : Int32} {a2 : Int32} {res : St}  (h : sX7_hears m a1 a2 = some res) : Ct l κ yX7_hears cX7_hears 5 none 4 88 [.ref (xE κ 9 0 0), .int a1, .int a2] (rs T 9 m) (rs T 9 res) none := by
  refine Ct_v RX7 rfl (by decide +kernel) (Nat.le_of_ble_eq_true rfl) (fun g hl hκ X hf => ?_)
  subst hl; subst hκ
  exact gX7_hears X  hf h
set_option maxRecDepth 20000 in
theorem gX7_collides_b51 {g : GX} {T : TT}  {m : St} {a1 : Int32} {a2 : Int32} {s0 : Int32} {s1 : Int32} {s2 : Int32} {res : St} {k2 : St → Int32 → Int32 → Option (St)} (X : CX g RX7 cX7_collides 3 4 86)  (hf : FinV g cX7_collides (rs T 9 res)) (hk2 : ∀ (m' : St) (a1' : Int32) (a2' : Int32), k2 m' a1' a2' = some res → G g 0 0 (rs T 9 m') 2 [(0, .ref (xE (gκ g) 9 0 0)), (1, .int a1'), (2, .int a2')] [])  (h : sX7_collides_b51 k2 m a1 a2 s0 s1 s2 = some res) : G g 0 0 (rs T 9 m) 51 [(0, .ref (xE (gκ g) 9 0 0)), (1, .int a1), (2, .int a2)] [.int s0, .int s1, .int s2, .ref (xE (gκ g) 9 0 2)] := by
  unfold sX7_collides_b51 at h
  obtain ⟨q9, hq9, h⟩ := bd_some h
  refine G_callS X (As := [.int s0]) (rest := [.int s1, .int s2, .ref (xE (gκ g) 9 0 2)]) (T' := rs T 9 m) (st2 := [.int q9, .int s1, .int s2, .ref (xE (gκ g) 9 0 2)]) (ct_X7_truth (l := g.2.1) (κ := gκ g)   hq9) cal_X7_truth wM_X7_69 wT_X7_truth (by decide) rfl rfl (Nat.le_of_ble_eq_true rfl) ⟨Nat.zero_le _, Nat.zero_le _⟩ dX7_collides_51 rfl ?_
  refine G_iadd X dX7_collides_54 ?_
  obtain ⟨g10, h⟩ := gd_some h
  obtain ⟨x11, ex11, h⟩ := nm_some h
  refine G_iast X (T' := rs T 9 x11) rfl (rg_rs _ _ _) g10 (by rw [rs_rs, ex11]) dX7_collides_55 ?_
  obtain ⟨v12, ev12, h⟩ := nm_some h
  refine G_iinc X (v := v12) (lv' := [(2, .int v12), (0, .ref (xE (gκ g) 9 0 0)), (1, .int a1)]) 2 dX7_collides_56 rfl (by rw [ev12]; rfl) (by decide) rfl ?_
  refine G_goto X (tgt := 2) dX7_collides_59 (by decide) ?_
  refine G_sub [1, 2, 0] rfl ?_
  exact hk2 _ _ _ h
set_option maxRecDepth 20000 in
theorem gX7_collides_b2 {g : GX} {T : TT}   {res : St}  (X : CX g RX7 cX7_collides 3 4 86)  (hf : FinV g cX7_collides (rs T 9 res))  : ∀ (n : Nat) (m : St) (a1 : Int32) (a2 : Int32) (h : sX7_collides_b2 n  m a1 a2 = some res), G g 0 0 (rs T 9 m) 2 [(0, .ref (xE (gκ g) 9 0 0)), (1, .int a1), (2, .int a2)] [] := by
  intro n
  induction n with
  | zero => intro m a1 a2 h; unfold sX7_collides_b2 at h; cases h
  | succ n ih =>
    intro m a1 a2 h
    unfold sX7_collides_b2 at h
    refine G_iload_n X 2 dX7_collides_2 rfl rfl ?_
    refine G_aload_n X 0 dX7_collides_3 rfl rfl ?_
    refine f_X7_20 X rfl rfl dX7_collides_4 ?_
    refine G_iconst X (v := (0 : Int32)) dX7_collides_7 (by decide) ?_
    obtain ⟨g1, h⟩ := gd_some h
    refine G_iald X rfl (rg_rs _ _ _) g1 dX7_collides_8 ?_
    refine G_icmp_ge X (tgt := 62) dX7_collides_9 (by decide) (fun c2 => ?_) (fun c2 => ?_)
    · have h := it_t c2 h
      obtain rfl := Option.some.inj h
      exact hf _ _ dX7_collides_62
    · have h := it_f c2 h
      refine G_aload_n X 0 dX7_collides_12 rfl rfl ?_
      refine f_X7_20 X rfl rfl dX7_collides_13 ?_
      refine G_bipush X (v := (6 : Int32)) dX7_collides_16 (by decide) ?_
      refine G_dup2 X dX7_collides_18 rfl rfl ?_
      obtain ⟨g3, h⟩ := gd_some h
      refine G_iald X rfl (rg_rs _ _ _) g3 dX7_collides_19 ?_
      refine G_aload_n X 0 dX7_collides_20 rfl rfl ?_
      refine G_iload_n X 2 dX7_collides_21 rfl rfl ?_
      obtain ⟨q4, hq4, h⟩ := bd_some h
      refine G_callV X (As := [.int a2]) (rest := [.int (gI m 0 2 (ix ((6 : Int32)))), .int ((6 : Int32)), .ref (xE (gκ g) 9 0 2)]) (T' := rs T 9 m) (st2 := [.int q4, .int (gI m 0 2 (ix ((6 : Int32)))), .int ((6 : Int32)), .ref (xE (gκ g) 9 0 2)]) (ct_X7_hasEars (l := g.2.1) (κ := gκ g)   hq4) cal_X7_hasEars wM_X7_307 wI_X7_hasEars wS_X7_hasEars rfl rfl (by decide) rfl rfl (Nat.le_of_ble_eq_true rfl) ⟨Nat.zero_le _, Nat.zero_le _⟩ dX7_collides_22 rfl ?_
      refine G_if_eq X (tgt := 50) dX7_collides_25 (by decide) (fun c5 => ?_) (fun c5 => ?_)
      · have h := it_t c5 h
        refine G_iconst X (v := (0 : Int32)) dX7_collides_50 (by decide) ?_
        exact gX7_collides_b51 X hf (fun _ _ _ h => ih _ _ _ h) h
      · have h := it_f c5 h
        refine G_aload_n X 0 dX7_collides_28 rfl rfl ?_
        refine f_X7_20 X rfl rfl dX7_collides_29 ?_
        refine G_bipush X (v := (13 : Int32)) dX7_collides_32 (by decide) ?_
        refine G_iload_n X 2 dX7_collides_34 rfl rfl ?_
        refine G_iadd X dX7_collides_35 ?_
        obtain ⟨g6, h⟩ := gd_some h
        refine G_iald X rfl (rg_rs _ _ _) g6 dX7_collides_36 ?_
        refine G_iload_n X 1 dX7_collides_37 rfl rfl ?_
        refine G_iand X dX7_collides_38 ?_
        obtain ⟨q7, hq7, h⟩ := bd_some h
        refine G_callS X (As := [.int ((gI m 0 2 (ix (((13 : Int32)) + a2))) &&& a1)]) (rest := [.int (gI m 0 2 (ix ((6 : Int32)))), .int ((6 : Int32)), .ref (xE (gκ g) 9 0 2)]) (T' := rs T 9 m) (st2 := [.int q7, .int (gI m 0 2 (ix ((6 : Int32)))), .int ((6 : Int32)), .ref (xE (gκ g) 9 0 2)]) (ct_X7_bits (l := g.2.1) (κ := gκ g)   hq7) cal_X7_bits wM_X7_300 wT_X7_bits (by decide) rfl rfl (Nat.le_of_ble_eq_true rfl) ⟨Nat.zero_le _, Nat.zero_le _⟩ dX7_collides_39 rfl ?_
        refine G_iconst X (v := (1 : Int32)) dX7_collides_42 (by decide) ?_
        refine G_icmp_le X (tgt := 50) dX7_collides_43 (by decide) (fun c8 => ?_) (fun c8 => ?_)
        · have h := it_t c8 h
          refine G_iconst X (v := (0 : Int32)) dX7_collides_50 (by decide) ?_
          exact gX7_collides_b51 X hf (fun _ _ _ h => ih _ _ _ h) h
        · have h := it_f c8 h
          refine G_iconst X (v := (1 : Int32)) dX7_collides_46 (by decide) ?_
          refine G_goto X (tgt := 51) dX7_collides_47 (by decide) ?_
          exact gX7_collides_b51 X hf (fun _ _ _ h => ih _ _ _ h) h
set_option maxRecDepth 20000 in
theorem gX7_collides {g : GX} {T : TT}  {m : St} {a1 : Int32} {res : St} (X : CX g RX7 cX7_collides 3 4 86)  (hf : FinV g cX7_collides (rs T 9 res)) (h : sX7_collides m a1 = some res) : G g 0 0 (rs T 9 m) 0 [(0, .ref (xE (gκ g) 9 0 0)), (1, .int a1)] [] := by
  unfold sX7_collides at h
  refine G_iconst X (v := (0 : Int32)) dX7_collides_0 (by decide) ?_
  refine G_istore_n X (lv' := [(2, .int ((0 : Int32))), (0, .ref (xE (gκ g) 9 0 0)), (1, .int a1)]) dX7_collides_1 rfl (by decide) rfl ?_
  refine G_sub [1, 2, 0] rfl ?_
  exact gX7_collides_b2 X hf FU _ _ _ h
set_option maxRecDepth 20000 in
theorem ct_X7_collides {l : Launch} {κ : KX} {T : TT}  {m : St} {a1 : Int32} {res : St}  (h : sX7_collides m a1 = some res) : Ct l κ yX7_collides cX7_collides 3 none 4 86 [.ref (xE κ 9 0 0), .int a1] (rs T 9 m) (rs T 9 res) none := by
  refine Ct_v RX7 rfl (by decide +kernel) (Nat.le_of_ble_eq_true rfl) (fun g hl hκ X hf => ?_)
  subst hl; subst hκ
  exact gX7_collides X  hf h
set_option maxRecDepth 20000 in
theorem gX7_earsOf {g : GX} {T : TT}  {m : St} {a1 : Int32} {res : Int32} (X : CX g RX7 cX7_earsOf 2 2 43)  (hf : FinI g cX7_earsOf .int (rs T 9 m) (res)) (h : sX7_earsOf m a1 = some res) : G g 0 0 (rs T 9 m) 0 [(0, .ref (xE (gκ g) 9 0 0)), (1, .int a1)] [] := by
  unfold sX7_earsOf at h
  refine G_aload_n X 0 dX7_earsOf_0 rfl rfl ?_
  refine G_iload_n X 1 dX7_earsOf_1 rfl rfl ?_
  refine G_bipush X (v := (9 : Int32)) dX7_earsOf_2 (by decide) ?_
  obtain ⟨q1, hq1, h⟩ := bd_some h
  refine G_callV X (As := [.int a1, .int ((9 : Int32))]) (rest := []) (T' := rs T 9 m) (st2 := [.int q1]) (ct_X7_of (l := g.2.1) (κ := gκ g)   hq1) cal_X7_of wM_X7_251 wI_X7_of wS_X7_of rfl rfl (by decide) rfl rfl (Nat.le_of_ble_eq_true rfl) ⟨Nat.zero_le _, Nat.zero_le _⟩ dX7_earsOf_4 rfl ?_
  refine G_iconst X (v := (1 : Int32)) dX7_earsOf_7 (by decide) ?_
  refine G_aload_n X 0 dX7_earsOf_8 rfl rfl ?_
  refine f_X7_20 X rfl rfl dX7_earsOf_9 ?_
  refine G_iconst X (v := (0 : Int32)) dX7_earsOf_12 (by decide) ?_
  obtain ⟨g2, h⟩ := gd_some h
  refine G_iald X rfl (rg_rs _ _ _) g2 dX7_earsOf_13 ?_
  refine G_ishl X dX7_earsOf_14 ?_
  refine G_iconst X (v := (1 : Int32)) dX7_earsOf_15 (by decide) ?_
  refine G_isub X dX7_earsOf_16 ?_
  refine G_iand X dX7_earsOf_17 ?_
  obtain rfl := Option.some.inj h
  exact hf _ _ dX7_earsOf_18 rfl
set_option maxRecDepth 20000 in
theorem ct_X7_earsOf {l : Launch} {κ : KX} {T : TT}  {m : St} {a1 : Int32} {res : Int32}  (h : sX7_earsOf m a1 = some res) : Ct l κ yX7_earsOf cX7_earsOf 2 (some .int) 2 43 [.ref (xE κ 9 0 0), .int a1] (rs T 9 m) (rs T 9 m) (some (.int (res))) := by
  refine Ct_i RX7 rfl (by decide +kernel) (Nat.le_of_ble_eq_true rfl) (fun g hl hκ X hf => ?_)
  subst hl; subst hκ
  exact gX7_earsOf X  hf h
set_option maxRecDepth 20000 in
theorem gX7_goesWell_b2 {g : GX} {T : TT}   {res : St}  (X : CX g RX7 cX7_goesWell 3 3 67)  (hf : FinV g cX7_goesWell (rs T 9 res))  : ∀ (n : Nat) (m : St) (a1 : Int32) (a2 : Int32) (h : sX7_goesWell_b2 n  m a1 a2 = some res), G g 0 0 (rs T 9 m) 2 [(0, .ref (xE (gκ g) 9 0 0)), (1, .int a1), (2, .int a2)] [] := by
  intro n
  induction n with
  | zero => intro m a1 a2 h; unfold sX7_goesWell_b2 at h; cases h
  | succ n ih =>
    intro m a1 a2 h
    unfold sX7_goesWell_b2 at h
    refine G_iload_n X 2 dX7_goesWell_2 rfl rfl ?_
    refine G_aload_n X 0 dX7_goesWell_3 rfl rfl ?_
    refine f_X7_20 X rfl rfl dX7_goesWell_4 ?_
    refine G_iconst X (v := (0 : Int32)) dX7_goesWell_7 (by decide) ?_
    obtain ⟨g1, h⟩ := gd_some h
    refine G_iald X rfl (rg_rs _ _ _) g1 dX7_goesWell_8 ?_
    refine G_icmp_ge X (tgt := 45) dX7_goesWell_9 (by decide) (fun c2 => ?_) (fun c2 => ?_)
    · have h := it_t c2 h
      refine G_aload_n X 0 dX7_goesWell_45 rfl rfl ?_
      refine G_iload_n X 1 dX7_goesWell_46 rfl rfl ?_
      refine G_bipush X (v := (7 : Int32)) dX7_goesWell_47 (by decide) ?_
      refine G_iconst X (v := (0 : Int32)) dX7_goesWell_49 (by decide) ?_
      obtain ⟨q3, hq3, h⟩ := bd_some h
      refine G_callV X (As := [.int a1, .int ((7 : Int32)), .int ((0 : Int32))]) (rest := []) (T' := rs T 9 q3) (st2 := []) (ct_X7_sets (l := g.2.1) (κ := gκ g)   hq3) cal_X7_sets wM_X7_148 wI_X7_sets wS_X7_sets rfl rfl (by decide) rfl rfl (Nat.le_of_ble_eq_true rfl) ⟨Nat.zero_le _, Nat.zero_le _⟩ dX7_goesWell_50 rfl ?_
      refine G_aload_n X 0 dX7_goesWell_53 rfl rfl ?_
      refine G_iload_n X 1 dX7_goesWell_54 rfl rfl ?_
      refine G_bipush X (v := (11 : Int32)) dX7_goesWell_55 (by decide) ?_
      refine G_iconst X (v := (1 : Int32)) dX7_goesWell_57 (by decide) ?_
      obtain ⟨q4, hq4, h⟩ := bd_some h
      refine G_callV X (As := [.int a1, .int ((11 : Int32)), .int ((1 : Int32))]) (rest := []) (T' := rs T 9 q4) (st2 := []) (ct_X7_adds (l := g.2.1) (κ := gκ g)   hq4) cal_X7_adds wM_X7_273 wI_X7_adds wS_X7_adds rfl rfl (by decide) rfl rfl (Nat.le_of_ble_eq_true rfl) ⟨Nat.zero_le _, Nat.zero_le _⟩ dX7_goesWell_58 rfl ?_
      refine G_aload_n X 0 dX7_goesWell_61 rfl rfl ?_
      refine f_X7_20 X rfl rfl dX7_goesWell_62 ?_
      refine G_iconst X (v := (4 : Int32)) dX7_goesWell_65 (by decide) ?_
      refine G_dup2 X dX7_goesWell_66 rfl rfl ?_
      obtain ⟨g5, h⟩ := gd_some h
      refine G_iald X rfl (rg_rs _ _ _) g5 dX7_goesWell_67 ?_
      refine G_iconst X (v := (1 : Int32)) dX7_goesWell_68 (by decide) ?_
      refine G_iadd X dX7_goesWell_69 ?_
      obtain ⟨v6, ev6, h⟩ := nm_some h
      refine G_nmi ev6 ?_
      obtain ⟨g7, h⟩ := gd_some h
      obtain ⟨x8, ex8, h⟩ := nm_some h
      refine G_iast X (T' := rs T 9 x8) rfl (rg_rs _ _ _) g7 (by rw [rs_rs, ex8]) dX7_goesWell_70 ?_
      refine G_aload_n X 0 dX7_goesWell_71 rfl rfl ?_
      refine G_iload_n X 1 dX7_goesWell_72 rfl rfl ?_
      refine G_iconst X (v := (0 : Int32)) dX7_goesWell_73 (by decide) ?_
      refine G_iconst X (v := (0 : Int32)) dX7_goesWell_74 (by decide) ?_
      obtain ⟨q9, hq9, h⟩ := bd_some h
      refine G_callV X (As := [.int a1, .int ((0 : Int32)), .int ((0 : Int32))]) (rest := []) (T' := rs T 9 q9) (st2 := []) (ct_X7_enters (l := g.2.1) (κ := gκ g)   hq9) cal_X7_enters wM_X7_264 wI_X7_enters wS_X7_enters rfl rfl (by decide) rfl rfl (Nat.le_of_ble_eq_true rfl) ⟨Nat.zero_le _, Nat.zero_le _⟩ dX7_goesWell_75 rfl ?_
      obtain rfl := Option.some.inj h
      exact hf _ _ dX7_goesWell_78
    · have h := it_f c2 h
      refine G_aload_n X 0 dX7_goesWell_12 rfl rfl ?_
      refine G_iload_n X 1 dX7_goesWell_13 rfl rfl ?_
      obtain ⟨q10, hq10, h⟩ := bd_some h
      refine G_callV X (As := [.int a1]) (rest := []) (T' := rs T 9 m) (st2 := [.int q10]) (ct_X7_earsOf (l := g.2.1) (κ := gκ g)   hq10) cal_X7_earsOf wM_X7_310 wI_X7_earsOf wS_X7_earsOf rfl rfl (by decide) rfl rfl (Nat.le_of_ble_eq_true rfl) ⟨Nat.zero_le _, Nat.zero_le _⟩ dX7_goesWell_14 rfl ?_
      refine G_iload_n X 2 dX7_goesWell_17 rfl rfl ?_
      obtain ⟨q11, hq11, h⟩ := bd_some h
      refine G_callS X (As := [.int q10, .int a2]) (rest := []) (T' := rs T 9 m) (st2 := [.int q11]) (ct_X7_has (l := g.2.1) (κ := gκ g)   hq11) cal_X7_has wM_X7_180 wT_X7_has (by decide) rfl rfl (Nat.le_of_ble_eq_true rfl) ⟨Nat.zero_le _, Nat.zero_le _⟩ dX7_goesWell_18 rfl ?_
      refine G_if_eq X (tgt := 39) dX7_goesWell_21 (by decide) (fun c12 => ?_) (fun c12 => ?_)
      · have h := it_t c12 h
        obtain ⟨v13, ev13, h⟩ := nm_some h
        refine G_iinc X (v := v13) (lv' := [(2, .int v13), (0, .ref (xE (gκ g) 9 0 0)), (1, .int a1)]) 2 dX7_goesWell_39 rfl (by rw [ev13]; rfl) (by decide) rfl ?_
        refine G_goto X (tgt := 2) dX7_goesWell_42 (by decide) ?_
        refine G_sub [1, 2, 0] rfl ?_
        exact ih _ _ _ h
      · have h := it_f c12 h
        refine G_aload_n X 0 dX7_goesWell_24 rfl rfl ?_
        refine G_iload_n X 2 dX7_goesWell_25 rfl rfl ?_
        refine G_bipush X (v := (19 : Int32)) dX7_goesWell_26 (by decide) ?_
        refine G_iload_n X 1 dX7_goesWell_28 rfl rfl ?_
        refine G_iadd X dX7_goesWell_29 ?_
        refine G_aload_n X 0 dX7_goesWell_30 rfl rfl ?_
        refine f_X7_20 X rfl rfl dX7_goesWell_31 ?_
        refine G_iconst X (v := (1 : Int32)) dX7_goesWell_34 (by decide) ?_
        obtain ⟨g14, h⟩ := gd_some h
        refine G_iald X rfl (rg_rs _ _ _) g14 dX7_goesWell_35 ?_
        obtain ⟨q15, hq15, h⟩ := bd_some h
        refine G_callV X (As := [.int a2, .int (((19 : Int32)) + a1), .int (gI m 0 2 (ix ((1 : Int32))))]) (rest := []) (T' := rs T 9 q15) (st2 := []) (ct_X7_sets (l := g.2.1) (κ := gκ g)   hq15) cal_X7_sets wM_X7_148 wI_X7_sets wS_X7_sets rfl rfl (by decide) rfl rfl (Nat.le_of_ble_eq_true rfl) ⟨Nat.zero_le _, Nat.zero_le _⟩ dX7_goesWell_36 rfl ?_
        obtain ⟨v16, ev16, h⟩ := nm_some h
        refine G_iinc X (v := v16) (lv' := [(2, .int v16), (0, .ref (xE (gκ g) 9 0 0)), (1, .int a1)]) 2 dX7_goesWell_39 rfl (by rw [ev16]; rfl) (by decide) rfl ?_
        refine G_goto X (tgt := 2) dX7_goesWell_42 (by decide) ?_
        refine G_sub [1, 2, 0] rfl ?_
        exact ih _ _ _ h
set_option maxRecDepth 20000 in
theorem gX7_goesWell {g : GX} {T : TT}  {m : St} {a1 : Int32} {res : St} (X : CX g RX7 cX7_goesWell 3 3 67)  (hf : FinV g cX7_goesWell (rs T 9 res)) (h : sX7_goesWell m a1 = some res) : G g 0 0 (rs T 9 m) 0 [(0, .ref (xE (gκ g) 9 0 0)), (1, .int a1)] [] := by
  unfold sX7_goesWell at h
  refine G_iconst X (v := (0 : Int32)) dX7_goesWell_0 (by decide) ?_
  refine G_istore_n X (lv' := [(2, .int ((0 : Int32))), (0, .ref (xE (gκ g) 9 0 0)), (1, .int a1)]) dX7_goesWell_1 rfl (by decide) rfl ?_
  refine G_sub [1, 2, 0] rfl ?_
  exact gX7_goesWell_b2 X hf FU _ _ _ h
set_option maxRecDepth 20000 in
theorem ct_X7_goesWell {l : Launch} {κ : KX} {T : TT}  {m : St} {a1 : Int32} {res : St}  (h : sX7_goesWell m a1 = some res) : Ct l κ yX7_goesWell cX7_goesWell 3 none 3 67 [.ref (xE κ 9 0 0), .int a1] (rs T 9 m) (rs T 9 res) none := by
  refine Ct_v RX7 rfl (by decide +kernel) (Nat.le_of_ble_eq_true rfl) (fun g hl hκ X hf => ?_)
  subst hl; subst hκ
  exact gX7_goesWell X  hf h
set_option maxRecDepth 20000 in
theorem gX7_givesUp {g : GX} {T : TT}  {m : St} {a1 : Int32} {res : St} (X : CX g RX7 cX7_givesUp 2 3 67)  (hf : FinV g cX7_givesUp (rs T 9 res)) (h : sX7_givesUp m a1 = some res) : G g 0 0 (rs T 9 m) 0 [(0, .ref (xE (gκ g) 9 0 0)), (1, .int a1)] [] := by
  unfold sX7_givesUp at h
  refine G_aload_n X 0 dX7_givesUp_0 rfl rfl ?_
  refine G_iload_n X 1 dX7_givesUp_1 rfl rfl ?_
  refine G_bipush X (v := (7 : Int32)) dX7_givesUp_2 (by decide) ?_
  refine G_iconst X (v := (0 : Int32)) dX7_givesUp_4 (by decide) ?_
  obtain ⟨q1, hq1, h⟩ := bd_some h
  refine G_callV X (As := [.int a1, .int ((7 : Int32)), .int ((0 : Int32))]) (rest := []) (T' := rs T 9 q1) (st2 := []) (ct_X7_sets (l := g.2.1) (κ := gκ g)   hq1) cal_X7_sets wM_X7_148 wI_X7_sets wS_X7_sets rfl rfl (by decide) rfl rfl (Nat.le_of_ble_eq_true rfl) ⟨Nat.zero_le _, Nat.zero_le _⟩ dX7_givesUp_5 rfl ?_
  refine G_aload_n X 0 dX7_givesUp_8 rfl rfl ?_
  refine G_iload_n X 1 dX7_givesUp_9 rfl rfl ?_
  refine G_bipush X (v := (12 : Int32)) dX7_givesUp_10 (by decide) ?_
  refine G_iconst X (v := (1 : Int32)) dX7_givesUp_12 (by decide) ?_
  obtain ⟨q2, hq2, h⟩ := bd_some h
  refine G_callV X (As := [.int a1, .int ((12 : Int32)), .int ((1 : Int32))]) (rest := []) (T' := rs T 9 q2) (st2 := []) (ct_X7_adds (l := g.2.1) (κ := gκ g)   hq2) cal_X7_adds wM_X7_273 wI_X7_adds wS_X7_adds rfl rfl (by decide) rfl rfl (Nat.le_of_ble_eq_true rfl) ⟨Nat.zero_le _, Nat.zero_le _⟩ dX7_givesUp_13 rfl ?_
  refine G_aload_n X 0 dX7_givesUp_16 rfl rfl ?_
  refine f_X7_20 X rfl rfl dX7_givesUp_17 ?_
  refine G_iconst X (v := (5 : Int32)) dX7_givesUp_20 (by decide) ?_
  refine G_dup2 X dX7_givesUp_21 rfl rfl ?_
  obtain ⟨g3, h⟩ := gd_some h
  refine G_iald X rfl (rg_rs _ _ _) g3 dX7_givesUp_22 ?_
  refine G_iconst X (v := (1 : Int32)) dX7_givesUp_23 (by decide) ?_
  refine G_iadd X dX7_givesUp_24 ?_
  obtain ⟨v4, ev4, h⟩ := nm_some h
  refine G_nmi ev4 ?_
  obtain ⟨g5, h⟩ := gd_some h
  obtain ⟨x6, ex6, h⟩ := nm_some h
  refine G_iast X (T' := rs T 9 x6) rfl (rg_rs _ _ _) g5 (by rw [rs_rs, ex6]) dX7_givesUp_25 ?_
  refine G_aload_n X 0 dX7_givesUp_26 rfl rfl ?_
  refine G_iload_n X 1 dX7_givesUp_27 rfl rfl ?_
  refine G_iconst X (v := (0 : Int32)) dX7_givesUp_28 (by decide) ?_
  refine G_iconst X (v := (0 : Int32)) dX7_givesUp_29 (by decide) ?_
  obtain ⟨q7, hq7, h⟩ := bd_some h
  refine G_callV X (As := [.int a1, .int ((0 : Int32)), .int ((0 : Int32))]) (rest := []) (T' := rs T 9 q7) (st2 := []) (ct_X7_enters (l := g.2.1) (κ := gκ g)   hq7) cal_X7_enters wM_X7_264 wI_X7_enters wS_X7_enters rfl rfl (by decide) rfl rfl (Nat.le_of_ble_eq_true rfl) ⟨Nat.zero_le _, Nat.zero_le _⟩ dX7_givesUp_30 rfl ?_
  obtain rfl := Option.some.inj h
  exact hf _ _ dX7_givesUp_33
set_option maxRecDepth 20000 in
theorem ct_X7_givesUp {l : Launch} {κ : KX} {T : TT}  {m : St} {a1 : Int32} {res : St}  (h : sX7_givesUp m a1 = some res) : Ct l κ yX7_givesUp cX7_givesUp 2 none 3 67 [.ref (xE κ 9 0 0), .int a1] (rs T 9 m) (rs T 9 res) none := by
  refine Ct_v RX7 rfl (by decide +kernel) (Nat.le_of_ble_eq_true rfl) (fun g hl hκ X hf => ?_)
  subst hl; subst hκ
  exact gX7_givesUp X  hf h
set_option maxRecDepth 20000 in
theorem gX7_ends_b36 {g : GX} {T : TT}  {m : St} {a1 : Int32} {a2 : Int32} {s0 : Int32} {s1 : Int32} {s2 : Int32} {res : St} {k2 : St → Int32 → Int32 → Option (St)} (X : CX g RX7 cX7_ends 3 4 89)  (hf : FinV g cX7_ends (rs T 9 res)) (hk2 : ∀ (m' : St) (a1' : Int32) (a2' : Int32), k2 m' a1' a2' = some res → G g 0 0 (rs T 9 m') 2 [(0, .ref (xE (gκ g) 9 0 0)), (1, .int a1'), (2, .int a2')] [])  (h : sX7_ends_b36 k2 m a1 a2 s0 s1 s2 = some res) : G g 0 0 (rs T 9 m) 36 [(0, .ref (xE (gκ g) 9 0 0)), (1, .int a1), (2, .int a2)] [.int s0, .int s1, .int s2, .ref (xE (gκ g) 9 0 0)] := by
  unfold sX7_ends_b36 at h
  obtain ⟨q14, hq14, h⟩ := bd_some h
  refine G_callV X (As := [.int s2, .int s1, .int s0]) (rest := []) (T' := rs T 9 q14) (st2 := []) (ct_X7_sets (l := g.2.1) (κ := gκ g)   hq14) cal_X7_sets wM_X7_148 wI_X7_sets wS_X7_sets rfl rfl (by decide) rfl rfl (Nat.le_of_ble_eq_true rfl) ⟨Nat.zero_le _, Nat.zero_le _⟩ dX7_ends_36 rfl ?_
  obtain ⟨v15, ev15, h⟩ := nm_some h
  refine G_iinc X (v := v15) (lv' := [(2, .int v15), (0, .ref (xE (gκ g) 9 0 0)), (1, .int a1)]) 2 dX7_ends_39 rfl (by rw [ev15]; rfl) (by decide) rfl ?_
  refine G_goto X (tgt := 2) dX7_ends_42 (by decide) ?_
  refine G_sub [1, 2, 0] rfl ?_
  exact hk2 _ _ _ h
set_option maxRecDepth 20000 in
theorem gX7_ends_b2 {g : GX} {T : TT}   {res : St}  (X : CX g RX7 cX7_ends 3 4 89)  (hf : FinV g cX7_ends (rs T 9 res))  : ∀ (n : Nat) (m : St) (a1 : Int32) (a2 : Int32) (h : sX7_ends_b2 n  m a1 a2 = some res), G g 0 0 (rs T 9 m) 2 [(0, .ref (xE (gκ g) 9 0 0)), (1, .int a1), (2, .int a2)] [] := by
  intro n
  induction n with
  | zero => intro m a1 a2 h; unfold sX7_ends_b2 at h; cases h
  | succ n ih =>
    intro m a1 a2 h
    unfold sX7_ends_b2 at h
    refine G_iload_n X 2 dX7_ends_2 rfl rfl ?_
    refine G_aload_n X 0 dX7_ends_3 rfl rfl ?_
    refine f_X7_20 X rfl rfl dX7_ends_4 ?_
    refine G_iconst X (v := (0 : Int32)) dX7_ends_7 (by decide) ?_
    obtain ⟨g1, h⟩ := gd_some h
    refine G_iald X rfl (rg_rs _ _ _) g1 dX7_ends_8 ?_
    refine G_icmp_ge X (tgt := 45) dX7_ends_9 (by decide) (fun c2 => ?_) (fun c2 => ?_)
    · have h := it_t c2 h
      refine G_aload_n X 0 dX7_ends_45 rfl rfl ?_
      refine G_iload_n X 1 dX7_ends_46 rfl rfl ?_
      obtain ⟨q3, hq3, h⟩ := bd_some h
      refine G_callV X (As := [.int a1]) (rest := []) (T' := rs T 9 m) (st2 := [.int q3]) (ct_X7_earsOf (l := g.2.1) (κ := gκ g)   hq3) cal_X7_earsOf wM_X7_310 wI_X7_earsOf wS_X7_earsOf rfl rfl (by decide) rfl rfl (Nat.le_of_ble_eq_true rfl) ⟨Nat.zero_le _, Nat.zero_le _⟩ dX7_ends_47 rfl ?_
      refine G_if_eq X (tgt := 59) dX7_ends_50 (by decide) (fun c4 => ?_) (fun c4 => ?_)
      · have h := it_t c4 h
        refine G_aload_n X 0 dX7_ends_59 rfl rfl ?_
        refine G_iload_n X 1 dX7_ends_60 rfl rfl ?_
        refine G_bipush X (v := (7 : Int32)) dX7_ends_61 (by decide) ?_
        refine G_iconst X (v := (1 : Int32)) dX7_ends_63 (by decide) ?_
        obtain ⟨q5, hq5, h⟩ := bd_some h
        refine G_callV X (As := [.int a1, .int ((7 : Int32)), .int ((1 : Int32))]) (rest := []) (T' := rs T 9 q5) (st2 := []) (ct_X7_adds (l := g.2.1) (κ := gκ g)   hq5) cal_X7_adds wM_X7_273 wI_X7_adds wS_X7_adds rfl rfl (by decide) rfl rfl (Nat.le_of_ble_eq_true rfl) ⟨Nat.zero_le _, Nat.zero_le _⟩ dX7_ends_64 rfl ?_
        refine G_aload_n X 0 dX7_ends_67 rfl rfl ?_
        refine G_iload_n X 1 dX7_ends_68 rfl rfl ?_
        refine G_bipush X (v := (7 : Int32)) dX7_ends_69 (by decide) ?_
        obtain ⟨q6, hq6, h⟩ := bd_some h
        refine G_callV X (As := [.int a1, .int ((7 : Int32))]) (rest := []) (T' := rs T 9 q5) (st2 := [.int q6]) (ct_X7_of (l := g.2.1) (κ := gκ g)   hq6) cal_X7_of wM_X7_251 wI_X7_of wS_X7_of rfl rfl (by decide) rfl rfl (Nat.le_of_ble_eq_true rfl) ⟨Nat.zero_le _, Nat.zero_le _⟩ dX7_ends_71 rfl ?_
        refine G_aload_n X 0 dX7_ends_74 rfl rfl ?_
        refine f_X7_20 X rfl rfl dX7_ends_75 ?_
        refine G_iconst X (v := (2 : Int32)) dX7_ends_78 (by decide) ?_
        obtain ⟨g7, h⟩ := gd_some h
        refine G_iald X rfl (rg_rs _ _ _) g7 dX7_ends_79 ?_
        refine G_icmp_lt X (tgt := 91) dX7_ends_80 (by decide) (fun c8 => ?_) (fun c8 => ?_)
        · have h := it_t c8 h
          refine G_aload_n X 0 dX7_ends_91 rfl rfl ?_
          refine G_iload_n X 1 dX7_ends_92 rfl rfl ?_
          obtain ⟨q9, hq9, h⟩ := bd_some h
          refine G_callV X (As := [.int a1]) (rest := []) (T' := rs T 9 q9) (st2 := []) (ct_X7_waits (l := g.2.1) (κ := gκ g)   hq9) cal_X7_waits wM_X7_291 wI_X7_waits wS_X7_waits rfl rfl (by decide) rfl rfl (Nat.le_of_ble_eq_true rfl) ⟨Nat.zero_le _, Nat.zero_le _⟩ dX7_ends_93 rfl ?_
          obtain rfl := Option.some.inj h
          exact hf _ _ dX7_ends_96
        · have h := it_f c8 h
          refine G_aload_n X 0 dX7_ends_83 rfl rfl ?_
          refine G_iload_n X 1 dX7_ends_84 rfl rfl ?_
          obtain ⟨q10, hq10, h⟩ := bd_some h
          refine G_callV X (As := [.int a1]) (rest := []) (T' := rs T 9 q10) (st2 := []) (ct_X7_givesUp (l := g.2.1) (κ := gκ g)   hq10) cal_X7_givesUp wM_X7_316 wI_X7_givesUp wS_X7_givesUp rfl rfl (by decide) rfl rfl (Nat.le_of_ble_eq_true rfl) ⟨Nat.zero_le _, Nat.zero_le _⟩ dX7_ends_85 rfl ?_
          refine G_goto X (tgt := 96) dX7_ends_88 (by decide) ?_
          obtain rfl := Option.some.inj h
          exact hf _ _ dX7_ends_96
      · have h := it_f c4 h
        refine G_aload_n X 0 dX7_ends_53 rfl rfl ?_
        refine G_iload_n X 1 dX7_ends_54 rfl rfl ?_
        obtain ⟨q11, hq11, h⟩ := bd_some h
        refine G_callV X (As := [.int a1]) (rest := []) (T' := rs T 9 q11) (st2 := []) (ct_X7_goesWell (l := g.2.1) (κ := gκ g)   hq11) cal_X7_goesWell wM_X7_313 wI_X7_goesWell wS_X7_goesWell rfl rfl (by decide) rfl rfl (Nat.le_of_ble_eq_true rfl) ⟨Nat.zero_le _, Nat.zero_le _⟩ dX7_ends_55 rfl ?_
        obtain rfl := Option.some.inj h
        exact hf _ _ dX7_ends_58
    · have h := it_f c2 h
      refine G_aload_n X 0 dX7_ends_12 rfl rfl ?_
      refine G_iload_n X 1 dX7_ends_13 rfl rfl ?_
      refine G_bipush X (v := (35 : Int32)) dX7_ends_14 (by decide) ?_
      refine G_iload_n X 2 dX7_ends_16 rfl rfl ?_
      refine G_iadd X dX7_ends_17 ?_
      refine G_iload_n X 2 dX7_ends_18 rfl rfl ?_
      refine G_iload_n X 1 dX7_ends_19 rfl rfl ?_
      refine G_icmp_ne X (tgt := 27) dX7_ends_20 (by decide) (fun c12 => ?_) (fun c12 => ?_)
      · have h := it_t c12 h
        refine G_aload_n X 0 dX7_ends_27 rfl rfl ?_
        refine G_iload_n X 1 dX7_ends_28 rfl rfl ?_
        refine G_bipush X (v := (27 : Int32)) dX7_ends_29 (by decide) ?_
        refine G_iload_n X 2 dX7_ends_31 rfl rfl ?_
        refine G_iadd X dX7_ends_32 ?_
        obtain ⟨q13, hq13, h⟩ := bd_some h
        refine G_callV X (As := [.int a1, .int (((27 : Int32)) + a2)]) (rest := [.int (((35 : Int32)) + a2), .int a1, .ref (xE (gκ g) 9 0 0)]) (T' := rs T 9 m) (st2 := [.int q13, .int (((35 : Int32)) + a2), .int a1, .ref (xE (gκ g) 9 0 0)]) (ct_X7_of (l := g.2.1) (κ := gκ g)   hq13) cal_X7_of wM_X7_251 wI_X7_of wS_X7_of rfl rfl (by decide) rfl rfl (Nat.le_of_ble_eq_true rfl) ⟨Nat.zero_le _, Nat.zero_le _⟩ dX7_ends_33 rfl ?_
        exact gX7_ends_b36 X hf (fun _ _ _ h => ih _ _ _ h) h
      · have h := it_f (fun k => k c12) h
        refine G_iconst X (v := (5 : Int32)) dX7_ends_23 (by decide) ?_
        refine G_goto X (tgt := 36) dX7_ends_24 (by decide) ?_
        exact gX7_ends_b36 X hf (fun _ _ _ h => ih _ _ _ h) h
set_option maxRecDepth 20000 in
theorem gX7_ends {g : GX} {T : TT}  {m : St} {a1 : Int32} {res : St} (X : CX g RX7 cX7_ends 3 4 89)  (hf : FinV g cX7_ends (rs T 9 res)) (h : sX7_ends m a1 = some res) : G g 0 0 (rs T 9 m) 0 [(0, .ref (xE (gκ g) 9 0 0)), (1, .int a1)] [] := by
  unfold sX7_ends at h
  refine G_iconst X (v := (0 : Int32)) dX7_ends_0 (by decide) ?_
  refine G_istore_n X (lv' := [(2, .int ((0 : Int32))), (0, .ref (xE (gκ g) 9 0 0)), (1, .int a1)]) dX7_ends_1 rfl (by decide) rfl ?_
  refine G_sub [1, 2, 0] rfl ?_
  exact gX7_ends_b2 X hf FU _ _ _ h
set_option maxRecDepth 20000 in
theorem ct_X7_ends {l : Launch} {κ : KX} {T : TT}  {m : St} {a1 : Int32} {res : St}  (h : sX7_ends m a1 = some res) : Ct l κ yX7_ends cX7_ends 3 none 4 89 [.ref (xE κ 9 0 0), .int a1] (rs T 9 m) (rs T 9 res) none := by
  refine Ct_v RX7 rfl (by decide +kernel) (Nat.le_of_ble_eq_true rfl) (fun g hl hκ X hf => ?_)
  subst hl; subst hκ
  exact gX7_ends X  hf h
set_option maxRecDepth 20000 in
theorem gX7_slot_b126 {g : GX} {T : TT}   {res : St}  (X : CX g RX7 cX7_slot 3 7 154)  (hf : FinV g cX7_slot (rs T 9 res))  : ∀ (n : Nat) (m : St) (a1 : Int32) (a2 : Int32) (h : sX7_slot_b126 n  m a1 a2 = some res), G g 0 0 (rs T 9 m) 126 [(0, .ref (xE (gκ g) 9 0 0)), (1, .int a1), (2, .int a2)] [] := by
  intro n
  induction n with
  | zero => intro m a1 a2 h; unfold sX7_slot_b126 at h; cases h
  | succ n ih =>
    intro m a1 a2 h
    unfold sX7_slot_b126 at h
    refine G_iload_n X 2 dX7_slot_126 rfl rfl ?_
    refine G_aload_n X 0 dX7_slot_127 rfl rfl ?_
    refine f_X7_20 X rfl rfl dX7_slot_128 ?_
    refine G_iconst X (v := (0 : Int32)) dX7_slot_131 (by decide) ?_
    obtain ⟨g30, h⟩ := gd_some h
    refine G_iald X rfl (rg_rs _ _ _) g30 dX7_slot_132 ?_
    refine G_icmp_ge X (tgt := 163) dX7_slot_133 (by decide) (fun c31 => ?_) (fun c31 => ?_)
    · have h := it_t c31 h
      obtain rfl := Option.some.inj h
      exact hf _ _ dX7_slot_163
    · have h := it_f c31 h
      refine G_iload_n X 1 dX7_slot_136 rfl rfl ?_
      refine G_iload_n X 2 dX7_slot_137 rfl rfl ?_
      obtain ⟨q32, hq32, h⟩ := bd_some h
      refine G_callS X (As := [.int a1, .int a2]) (rest := []) (T' := rs T 9 m) (st2 := [.int q32]) (ct_X7_has (l := g.2.1) (κ := gκ g)   hq32) cal_X7_has wM_X7_180 wT_X7_has (by decide) rfl rfl (Nat.le_of_ble_eq_true rfl) ⟨Nat.zero_le _, Nat.zero_le _⟩ dX7_slot_138 rfl ?_
      refine G_if_eq X (tgt := 157) dX7_slot_141 (by decide) (fun c33 => ?_) (fun c33 => ?_)
      · have h := it_t c33 h
        obtain ⟨v34, ev34, h⟩ := nm_some h
        refine G_iinc X (v := v34) (lv' := [(2, .int v34), (0, .ref (xE (gκ g) 9 0 0)), (1, .int a1)]) 2 dX7_slot_157 rfl (by rw [ev34]; rfl) (by decide) rfl ?_
        refine G_goto X (tgt := 126) dX7_slot_160 (by decide) ?_
        refine G_sub [1, 2, 0] rfl ?_
        exact ih _ _ _ h
      · have h := it_f c33 h
        refine G_aload_n X 0 dX7_slot_144 rfl rfl ?_
        refine G_iload_n X 2 dX7_slot_145 rfl rfl ?_
        obtain ⟨q35, hq35, h⟩ := bd_some h
        refine G_callV X (As := [.int a2]) (rest := []) (T' := rs T 9 q35.1) (st2 := [.int q35.2]) (ct_X7_isThrough (l := g.2.1) (κ := gκ g)   hq35) cal_X7_isThrough wM_X7_288 wI_X7_isThrough wS_X7_isThrough rfl rfl (by decide) rfl rfl (Nat.le_of_ble_eq_true rfl) ⟨Nat.zero_le _, Nat.zero_le _⟩ dX7_slot_146 rfl ?_
        refine G_if_eq X (tgt := 157) dX7_slot_149 (by decide) (fun c36 => ?_) (fun c36 => ?_)
        · have h := it_t c36 h
          obtain ⟨v37, ev37, h⟩ := nm_some h
          refine G_iinc X (v := v37) (lv' := [(2, .int v37), (0, .ref (xE (gκ g) 9 0 0)), (1, .int a1)]) 2 dX7_slot_157 rfl (by rw [ev37]; rfl) (by decide) rfl ?_
          refine G_goto X (tgt := 126) dX7_slot_160 (by decide) ?_
          refine G_sub [1, 2, 0] rfl ?_
          exact ih _ _ _ h
        · have h := it_f c36 h
          refine G_aload_n X 0 dX7_slot_152 rfl rfl ?_
          refine G_iload_n X 2 dX7_slot_153 rfl rfl ?_
          obtain ⟨q38, hq38, h⟩ := bd_some h
          refine G_callV X (As := [.int a2]) (rest := []) (T' := rs T 9 q38) (st2 := []) (ct_X7_ends (l := g.2.1) (κ := gκ g)   hq38) cal_X7_ends wM_X7_335 wI_X7_ends wS_X7_ends rfl rfl (by decide) rfl rfl (Nat.le_of_ble_eq_true rfl) ⟨Nat.zero_le _, Nat.zero_le _⟩ dX7_slot_154 rfl ?_
          obtain ⟨v39, ev39, h⟩ := nm_some h
          refine G_iinc X (v := v39) (lv' := [(2, .int v39), (0, .ref (xE (gκ g) 9 0 0)), (1, .int a1)]) 2 dX7_slot_157 rfl (by rw [ev39]; rfl) (by decide) rfl ?_
          refine G_goto X (tgt := 126) dX7_slot_160 (by decide) ?_
          refine G_sub [1, 2, 0] rfl ?_
          exact ih _ _ _ h
set_option maxRecDepth 20000 in
theorem gX7_slot_b86 {g : GX} {T : TT}   {res : St}  (X : CX g RX7 cX7_slot 3 7 154)  (hf : FinV g cX7_slot (rs T 9 res))  : ∀ (n : Nat) (m : St) (a1 : Int32) (a2 : Int32) (h : sX7_slot_b86 n  m a1 a2 = some res), G g 0 0 (rs T 9 m) 86 [(0, .ref (xE (gκ g) 9 0 0)), (1, .int a1), (2, .int a2)] [] := by
  intro n
  induction n with
  | zero => intro m a1 a2 h; unfold sX7_slot_b86 at h; cases h
  | succ n ih =>
    intro m a1 a2 h
    unfold sX7_slot_b86 at h
    refine G_iload_n X 2 dX7_slot_86 rfl rfl ?_
    refine G_aload_n X 0 dX7_slot_87 rfl rfl ?_
    refine f_X7_20 X rfl rfl dX7_slot_88 ?_
    refine G_iconst X (v := (0 : Int32)) dX7_slot_91 (by decide) ?_
    obtain ⟨g21, h⟩ := gd_some h
    refine G_iald X rfl (rg_rs _ _ _) g21 dX7_slot_92 ?_
    refine G_icmp_ge X (tgt := 116) dX7_slot_93 (by decide) (fun c22 => ?_) (fun c22 => ?_)
    · have h := it_t c22 h
      refine G_aload_n X 0 dX7_slot_116 rfl rfl ?_
      refine f_X7_20 X rfl rfl dX7_slot_117 ?_
      refine G_bipush X (v := (12 : Int32)) dX7_slot_120 (by decide) ?_
      refine G_iload_n X 1 dX7_slot_122 rfl rfl ?_
      obtain ⟨g23, h⟩ := gd_some h
      obtain ⟨x24, ex24, h⟩ := nm_some h
      refine G_iast X (T' := rs T 9 x24) rfl (rg_rs _ _ _) g23 (by rw [rs_rs, ex24]) dX7_slot_123 ?_
      refine G_iconst X (v := (0 : Int32)) dX7_slot_124 (by decide) ?_
      refine G_istore_n X (lv' := [(2, .int ((0 : Int32))), (0, .ref (xE (gκ g) 9 0 0)), (1, .int a1)]) dX7_slot_125 rfl (by decide) rfl ?_
      refine G_sub [1, 2, 0] rfl ?_
      exact gX7_slot_b126 X hf FU _ _ _ h
    · have h := it_f c22 h
      refine G_iload_n X 1 dX7_slot_96 rfl rfl ?_
      refine G_iload_n X 2 dX7_slot_97 rfl rfl ?_
      obtain ⟨q25, hq25, h⟩ := bd_some h
      refine G_callS X (As := [.int a1, .int a2]) (rest := []) (T' := rs T 9 m) (st2 := [.int q25]) (ct_X7_has (l := g.2.1) (κ := gκ g)   hq25) cal_X7_has wM_X7_180 wT_X7_has (by decide) rfl rfl (Nat.le_of_ble_eq_true rfl) ⟨Nat.zero_le _, Nat.zero_le _⟩ dX7_slot_98 rfl ?_
      refine G_if_eq X (tgt := 110) dX7_slot_101 (by decide) (fun c26 => ?_) (fun c26 => ?_)
      · have h := it_t c26 h
        obtain ⟨v27, ev27, h⟩ := nm_some h
        refine G_iinc X (v := v27) (lv' := [(2, .int v27), (0, .ref (xE (gκ g) 9 0 0)), (1, .int a1)]) 2 dX7_slot_110 rfl (by rw [ev27]; rfl) (by decide) rfl ?_
        refine G_goto X (tgt := 86) dX7_slot_113 (by decide) ?_
        refine G_sub [1, 2, 0] rfl ?_
        exact ih _ _ _ h
      · have h := it_f c26 h
        refine G_aload_n X 0 dX7_slot_104 rfl rfl ?_
        refine G_iload_n X 2 dX7_slot_105 rfl rfl ?_
        refine G_iload_n X 1 dX7_slot_106 rfl rfl ?_
        obtain ⟨q28, hq28, h⟩ := bd_some h
        refine G_callV X (As := [.int a2, .int a1]) (rest := []) (T' := rs T 9 q28) (st2 := []) (ct_X7_hears (l := g.2.1) (κ := gκ g)   hq28) cal_X7_hears wM_X7_331 wI_X7_hears wS_X7_hears rfl rfl (by decide) rfl rfl (Nat.le_of_ble_eq_true rfl) ⟨Nat.zero_le _, Nat.zero_le _⟩ dX7_slot_107 rfl ?_
        obtain ⟨v29, ev29, h⟩ := nm_some h
        refine G_iinc X (v := v29) (lv' := [(2, .int v29), (0, .ref (xE (gκ g) 9 0 0)), (1, .int a1)]) 2 dX7_slot_110 rfl (by rw [ev29]; rfl) (by decide) rfl ?_
        refine G_goto X (tgt := 86) dX7_slot_113 (by decide) ?_
        refine G_sub [1, 2, 0] rfl ?_
        exact ih _ _ _ h
set_option maxRecDepth 20000 in
theorem gX7_slot_b44 {g : GX} {T : TT}   {res : St}  (X : CX g RX7 cX7_slot 3 7 154)  (hf : FinV g cX7_slot (rs T 9 res))  : ∀ (n : Nat) (m : St) (a1 : Int32) (h : sX7_slot_b44 n  m a1 = some res), G g 0 0 (rs T 9 m) 44 [(0, .ref (xE (gκ g) 9 0 0)), (1, .int a1)] [] := by
  intro n
  induction n with
  | zero => intro m a1 h; unfold sX7_slot_b44 at h; cases h
  | succ n ih =>
    intro m a1 h
    unfold sX7_slot_b44 at h
    refine G_iload_n X 1 dX7_slot_44 rfl rfl ?_
    refine G_aload_n X 0 dX7_slot_45 rfl rfl ?_
    refine f_X7_20 X rfl rfl dX7_slot_46 ?_
    refine G_iconst X (v := (0 : Int32)) dX7_slot_49 (by decide) ?_
    obtain ⟨g12, h⟩ := gd_some h
    refine G_iald X rfl (rg_rs _ _ _) g12 dX7_slot_50 ?_
    refine G_icmp_ge X (tgt := 74) dX7_slot_51 (by decide) (fun c13 => ?_) (fun c13 => ?_)
    · have h := it_t c13 h
      refine G_aload_n X 0 dX7_slot_74 rfl rfl ?_
      obtain ⟨q14, hq14, h⟩ := bd_some h
      refine G_callV X (As := []) (rest := []) (T' := rs T 9 m) (st2 := [.int q14]) (ct_X7_senders (l := g.2.1) (κ := gκ g)   hq14) cal_X7_senders wM_X7_325 wI_X7_senders wS_X7_senders rfl rfl (by decide) rfl rfl (Nat.le_of_ble_eq_true rfl) ⟨Nat.zero_le _, Nat.zero_le _⟩ dX7_slot_75 rfl ?_
      refine G_istore_n X (lv' := [(1, .int q14), (0, .ref (xE (gκ g) 9 0 0))]) dX7_slot_78 rfl (by decide) rfl ?_
      refine G_aload_n X 1 dX7_slot_79 rfl rfl ?_
      refine G_iload_n X 0 dX7_slot_80 rfl rfl ?_
      obtain ⟨q15, hq15, h⟩ := bd_some h
      refine G_callV X (As := [.int q14]) (rest := []) (T' := rs T 9 q15) (st2 := []) (ct_X7_collides (l := g.2.1) (κ := gκ g)   hq15) cal_X7_collides wM_X7_328 wI_X7_collides wS_X7_collides rfl rfl (by decide) rfl rfl (Nat.le_of_ble_eq_true rfl) ⟨Nat.zero_le _, Nat.zero_le _⟩ dX7_slot_81 rfl ?_
      refine G_iconst X (v := (0 : Int32)) dX7_slot_84 (by decide) ?_
      refine G_istore_n X (lv' := [(2, .int ((0 : Int32))), (1, .int q14), (0, .ref (xE (gκ g) 9 0 0))]) dX7_slot_85 rfl (by decide) rfl ?_
      refine G_sub [2, 1, 0] rfl ?_
      exact gX7_slot_b86 X hf FU _ _ _ h
    · have h := it_f c13 h
      refine G_aload_n X 0 dX7_slot_54 rfl rfl ?_
      refine G_iload_n X 1 dX7_slot_55 rfl rfl ?_
      refine G_iconst X (v := (4 : Int32)) dX7_slot_56 (by decide) ?_
      obtain ⟨q16, hq16, h⟩ := bd_some h
      refine G_callV X (As := [.int a1, .int ((4 : Int32))]) (rest := []) (T' := rs T 9 m) (st2 := [.int q16]) (ct_X7_isAt (l := g.2.1) (κ := gκ g)   hq16) cal_X7_isAt wM_X7_297 wI_X7_isAt wS_X7_isAt rfl rfl (by decide) rfl rfl (Nat.le_of_ble_eq_true rfl) ⟨Nat.zero_le _, Nat.zero_le _⟩ dX7_slot_57 rfl ?_
      refine G_if_ne X (tgt := 68) dX7_slot_60 (by decide) (fun c17 => ?_) (fun c17 => ?_)
      · have h := it_t c17 h
        obtain ⟨v18, ev18, h⟩ := nm_some h
        refine G_iinc X (v := v18) (lv' := [(1, .int v18), (0, .ref (xE (gκ g) 9 0 0))]) 1 dX7_slot_68 rfl (by rw [ev18]; rfl) (by decide) rfl ?_
        refine G_goto X (tgt := 44) dX7_slot_71 (by decide) ?_
        refine G_sub [1, 0] rfl ?_
        exact ih _ _ h
      · have h := it_f (fun k => k c17) h
        refine G_aload_n X 0 dX7_slot_63 rfl rfl ?_
        refine G_iload_n X 1 dX7_slot_64 rfl rfl ?_
        obtain ⟨q19, hq19, h⟩ := bd_some h
        refine G_callV X (As := [.int a1]) (rest := []) (T' := rs T 9 q19) (st2 := []) (ct_X7_pays (l := g.2.1) (κ := gκ g)   hq19) cal_X7_pays wM_X7_322 wI_X7_pays wS_X7_pays rfl rfl (by decide) rfl rfl (Nat.le_of_ble_eq_true rfl) ⟨Nat.zero_le _, Nat.zero_le _⟩ dX7_slot_65 rfl ?_
        obtain ⟨v20, ev20, h⟩ := nm_some h
        refine G_iinc X (v := v20) (lv' := [(1, .int v20), (0, .ref (xE (gκ g) 9 0 0))]) 1 dX7_slot_68 rfl (by rw [ev20]; rfl) (by decide) rfl ?_
        refine G_goto X (tgt := 44) dX7_slot_71 (by decide) ?_
        refine G_sub [1, 0] rfl ?_
        exact ih _ _ h
set_option maxRecDepth 20000 in
theorem gX7_slot_b12 {g : GX} {T : TT}   {res : St}  (X : CX g RX7 cX7_slot 3 7 154)  (hf : FinV g cX7_slot (rs T 9 res))  : ∀ (n : Nat) (m : St) (a1 : Int32) (h : sX7_slot_b12 n  m a1 = some res), G g 0 0 (rs T 9 m) 12 [(0, .ref (xE (gκ g) 9 0 0)), (1, .int a1)] [] := by
  intro n
  induction n with
  | zero => intro m a1 h; unfold sX7_slot_b12 at h; cases h
  | succ n ih =>
    intro m a1 h
    unfold sX7_slot_b12 at h
    refine G_iload_n X 1 dX7_slot_12 rfl rfl ?_
    refine G_aload_n X 0 dX7_slot_13 rfl rfl ?_
    refine f_X7_20 X rfl rfl dX7_slot_14 ?_
    refine G_iconst X (v := (0 : Int32)) dX7_slot_17 (by decide) ?_
    obtain ⟨g5, h⟩ := gd_some h
    refine G_iald X rfl (rg_rs _ _ _) g5 dX7_slot_18 ?_
    refine G_icmp_ge X (tgt := 42) dX7_slot_19 (by decide) (fun c6 => ?_) (fun c6 => ?_)
    · have h := it_t c6 h
      refine G_iconst X (v := (0 : Int32)) dX7_slot_42 (by decide) ?_
      refine G_istore_n X (lv' := [(1, .int ((0 : Int32))), (0, .ref (xE (gκ g) 9 0 0))]) dX7_slot_43 rfl (by decide) rfl ?_
      refine G_sub [1, 0] rfl ?_
      exact gX7_slot_b44 X hf FU _ _ h
    · have h := it_f c6 h
      refine G_aload_n X 0 dX7_slot_22 rfl rfl ?_
      refine G_iload_n X 1 dX7_slot_23 rfl rfl ?_
      refine G_iconst X (v := (4 : Int32)) dX7_slot_24 (by decide) ?_
      obtain ⟨q7, hq7, h⟩ := bd_some h
      refine G_callV X (As := [.int a1, .int ((4 : Int32))]) (rest := []) (T' := rs T 9 m) (st2 := [.int q7]) (ct_X7_isAt (l := g.2.1) (κ := gκ g)   hq7) cal_X7_isAt wM_X7_297 wI_X7_isAt wS_X7_isAt rfl rfl (by decide) rfl rfl (Nat.le_of_ble_eq_true rfl) ⟨Nat.zero_le _, Nat.zero_le _⟩ dX7_slot_25 rfl ?_
      refine G_if_ne X (tgt := 36) dX7_slot_28 (by decide) (fun c8 => ?_) (fun c8 => ?_)
      · have h := it_t c8 h
        obtain ⟨v9, ev9, h⟩ := nm_some h
        refine G_iinc X (v := v9) (lv' := [(1, .int v9), (0, .ref (xE (gκ g) 9 0 0))]) 1 dX7_slot_36 rfl (by rw [ev9]; rfl) (by decide) rfl ?_
        refine G_goto X (tgt := 12) dX7_slot_39 (by decide) ?_
        refine G_sub [1, 0] rfl ?_
        exact ih _ _ h
      · have h := it_f (fun k => k c8) h
        refine G_aload_n X 0 dX7_slot_31 rfl rfl ?_
        refine G_iload_n X 1 dX7_slot_32 rfl rfl ?_
        obtain ⟨q10, hq10, h⟩ := bd_some h
        refine G_callV X (As := [.int a1]) (rest := []) (T' := rs T 9 q10) (st2 := []) (ct_X7_changes (l := g.2.1) (κ := gκ g)   hq10) cal_X7_changes wM_X7_319 wI_X7_changes wS_X7_changes rfl rfl (by decide) rfl rfl (Nat.le_of_ble_eq_true rfl) ⟨Nat.zero_le _, Nat.zero_le _⟩ dX7_slot_33 rfl ?_
        obtain ⟨v11, ev11, h⟩ := nm_some h
        refine G_iinc X (v := v11) (lv' := [(1, .int v11), (0, .ref (xE (gκ g) 9 0 0))]) 1 dX7_slot_36 rfl (by rw [ev11]; rfl) (by decide) rfl ?_
        refine G_goto X (tgt := 12) dX7_slot_39 (by decide) ?_
        refine G_sub [1, 0] rfl ?_
        exact ih _ _ h
set_option maxRecDepth 20000 in
theorem gX7_slot {g : GX} {T : TT}  {m : St}  {res : St} (X : CX g RX7 cX7_slot 3 7 154)  (hf : FinV g cX7_slot (rs T 9 res)) (h : sX7_slot m = some res) : G g 0 0 (rs T 9 m) 0 [(0, .ref (xE (gκ g) 9 0 0))] [] := by
  unfold sX7_slot at h
  refine G_aload_n X 0 dX7_slot_0 rfl rfl ?_
  refine f_X7_20 X rfl rfl dX7_slot_1 ?_
  refine G_iconst X (v := (1 : Int32)) dX7_slot_4 (by decide) ?_
  refine G_dup2 X dX7_slot_5 rfl rfl ?_
  obtain ⟨g1, h⟩ := gd_some h
  refine G_iald X rfl (rg_rs _ _ _) g1 dX7_slot_6 ?_
  refine G_iconst X (v := (1 : Int32)) dX7_slot_7 (by decide) ?_
  refine G_iadd X dX7_slot_8 ?_
  obtain ⟨v2, ev2, h⟩ := nm_some h
  refine G_nmi ev2 ?_
  obtain ⟨g3, h⟩ := gd_some h
  obtain ⟨x4, ex4, h⟩ := nm_some h
  refine G_iast X (T' := rs T 9 x4) rfl (rg_rs _ _ _) g3 (by rw [rs_rs, ex4]) dX7_slot_9 ?_
  refine G_iconst X (v := (0 : Int32)) dX7_slot_10 (by decide) ?_
  refine G_istore_n X (lv' := [(1, .int ((0 : Int32))), (0, .ref (xE (gκ g) 9 0 0))]) dX7_slot_11 rfl (by decide) rfl ?_
  refine G_sub [1, 0] rfl ?_
  exact gX7_slot_b12 X hf FU _ _ h
set_option maxRecDepth 20000 in
theorem ct_X7_slot {l : Launch} {κ : KX} {T : TT}  {m : St}  {res : St}  (h : sX7_slot m = some res) : Ct l κ yX7_slot cX7_slot 3 none 7 154 [.ref (xE κ 9 0 0)] (rs T 9 m) (rs T 9 res) none := by
  refine Ct_v RX7 rfl (by decide +kernel) (Nat.le_of_ble_eq_true rfl) (fun g hl hκ X hf => ?_)
  subst hl; subst hκ
  exact gX7_slot X  hf h
set_option maxRecDepth 20000 in
theorem gX7_runs_b9 {g : GX} {T : TT}   {res : St × Int32}  (X : CX g RX7 cX7_runs 4 8 176)  (hf : FinI g cX7_runs .int (rs T 9 res.1) (res.2))  : ∀ (n : Nat) (m : St) (a1 : Int32) (a2 : Int32) (a3 : Int32) (h : sX7_runs_b9 n  m a1 a2 a3 = some res), G g 0 0 (rs T 9 m) 9 [(0, .ref (xE (gκ g) 9 0 0)), (1, .int a1), (2, .int a2), (3, .int a3)] [] := by
  intro n
  induction n with
  | zero => intro m a1 a2 a3 h; unfold sX7_runs_b9 at h; cases h
  | succ n ih =>
    intro m a1 a2 a3 h
    unfold sX7_runs_b9 at h
    refine G_iload_n X 3 dX7_runs_9 rfl rfl ?_
    refine G_iload_n X 1 dX7_runs_10 rfl rfl ?_
    refine G_icmp_ge X (tgt := 24) dX7_runs_11 (by decide) (fun c2 => ?_) (fun c2 => ?_)
    · have h := it_t c2 h
      refine G_aload_n X 0 dX7_runs_24 rfl rfl ?_
      refine f_X7_20 X rfl rfl dX7_runs_25 ?_
      refine G_iconst X (v := (4 : Int32)) dX7_runs_28 (by decide) ?_
      obtain ⟨g3, h⟩ := gd_some h
      refine G_iald X rfl (rg_rs _ _ _) g3 dX7_runs_29 ?_
      refine G_iload_n X 2 dX7_runs_30 rfl rfl ?_
      refine G_isub X dX7_runs_31 ?_
      obtain rfl := Option.some.inj h
      exact hf _ _ dX7_runs_32 rfl
    · have h := it_f c2 h
      refine G_aload_n X 0 dX7_runs_14 rfl rfl ?_
      obtain ⟨q4, hq4, h⟩ := bd_some h
      refine G_callV X (As := []) (rest := []) (T' := rs T 9 q4) (st2 := []) (ct_X7_slot (l := g.2.1) (κ := gκ g)   hq4) cal_X7_slot wM_X7_338 wI_X7_slot wS_X7_slot rfl rfl (by decide) rfl rfl (Nat.le_of_ble_eq_true rfl) ⟨Nat.zero_le _, Nat.zero_le _⟩ dX7_runs_15 rfl ?_
      obtain ⟨v5, ev5, h⟩ := nm_some h
      refine G_iinc X (v := v5) (lv' := [(3, .int v5), (0, .ref (xE (gκ g) 9 0 0)), (1, .int a1), (2, .int a2)]) 3 dX7_runs_18 rfl (by rw [ev5]; rfl) (by decide) rfl ?_
      refine G_goto X (tgt := 9) dX7_runs_21 (by decide) ?_
      refine G_sub [1, 2, 3, 0] rfl ?_
      exact ih _ _ _ _ h
set_option maxRecDepth 20000 in
theorem gX7_runs {g : GX} {T : TT}  {m : St} {a1 : Int32} {res : St × Int32} (X : CX g RX7 cX7_runs 4 8 176)  (hf : FinI g cX7_runs .int (rs T 9 res.1) (res.2)) (h : sX7_runs m a1 = some res) : G g 0 0 (rs T 9 m) 0 [(0, .ref (xE (gκ g) 9 0 0)), (1, .int a1)] [] := by
  unfold sX7_runs at h
  refine G_aload_n X 0 dX7_runs_0 rfl rfl ?_
  refine f_X7_20 X rfl rfl dX7_runs_1 ?_
  refine G_iconst X (v := (4 : Int32)) dX7_runs_4 (by decide) ?_
  obtain ⟨g1, h⟩ := gd_some h
  refine G_iald X rfl (rg_rs _ _ _) g1 dX7_runs_5 ?_
  refine G_istore_n X (lv' := [(2, .int (gI m 0 2 (ix ((4 : Int32))))), (0, .ref (xE (gκ g) 9 0 0)), (1, .int a1)]) dX7_runs_6 rfl (by decide) rfl ?_
  refine G_iconst X (v := (0 : Int32)) dX7_runs_7 (by decide) ?_
  refine G_istore_n X (lv' := [(3, .int ((0 : Int32))), (2, .int (gI m 0 2 (ix ((4 : Int32))))), (0, .ref (xE (gκ g) 9 0 0)), (1, .int a1)]) dX7_runs_8 rfl (by decide) rfl ?_
  refine G_sub [2, 3, 1, 0] rfl ?_
  exact gX7_runs_b9 X hf FU _ _ _ _ h
set_option maxRecDepth 20000 in
theorem ct_X7_runs {l : Launch} {κ : KX} {T : TT}  {m : St} {a1 : Int32} {res : St × Int32}  (h : sX7_runs m a1 = some res) : Ct l κ yX7_runs cX7_runs 4 (some .int) 8 176 [.ref (xE κ 9 0 0), .int a1] (rs T 9 m) (rs T 9 res.1) (some (.int (res.2))) := by
  refine Ct_i RX7 rfl (by decide +kernel) (Nat.le_of_ble_eq_true rfl) (fun g hl hκ X hf => ?_)
  subst hl; subst hκ
  exact gX7_runs X  hf h
set_option maxRecDepth 20000 in
theorem gX7_isBeacon {g : GX} {T : TT}  {m : St} {a1 : Int32} {res : Int32} (X : CX g RX7 cX7_isBeacon 2 1 25)  (hf : FinI g cX7_isBeacon .boolean (rs T 9 m) (res)) (h : sX7_isBeacon m a1 = some res) : G g 0 0 (rs T 9 m) 0 [(0, .ref (xE (gκ g) 9 0 0)), (1, .int a1)] [] := by
  unfold sX7_isBeacon at h
  refine G_iload_n X 1 dX7_isBeacon_0 rfl rfl ?_
  refine G_i2l X dX7_isBeacon_1 ?_
  refine G_lconst X (v := (0 : Int64)) dX7_isBeacon_2 (by decide) ?_
  refine G_aload_n X 0 dX7_isBeacon_3 rfl rfl ?_
  refine f_X7_20 X rfl rfl dX7_isBeacon_4 ?_
  refine G_iconst X (v := (0 : Int32)) dX7_isBeacon_7 (by decide) ?_
  obtain ⟨g1, h⟩ := gd_some h
  refine G_iald X rfl (rg_rs _ _ _) g1 dX7_isBeacon_8 ?_
  refine G_iconst X (v := (1 : Int32)) dX7_isBeacon_9 (by decide) ?_
  refine G_isub X dX7_isBeacon_10 ?_
  refine G_i2l X dX7_isBeacon_11 ?_
  obtain ⟨q2, hq2, h⟩ := bd_some h
  refine G_callS X (As := [.long a1.toInt64, .long ((0 : Int64)), .long (((gI m 0 2 (ix ((0 : Int32)))) - ((1 : Int32))).toInt64)]) (rest := []) (T' := rs T 9 m) (st2 := [.int q2]) (ct_X7_isIn (l := g.2.1) (κ := gκ g)   hq2) cal_X7_isIn wM_X7_84 wT_X7_isIn (by decide) rfl rfl (Nat.le_of_ble_eq_true rfl) ⟨Nat.zero_le _, Nat.zero_le _⟩ dX7_isBeacon_12 rfl ?_
  obtain ⟨g3, h⟩ := gd_some h
  obtain rfl := Option.some.inj h
  exact hf _ _ dX7_isBeacon_15 (isb_n g3)
set_option maxRecDepth 20000 in
theorem ct_X7_isBeacon {l : Launch} {κ : KX} {T : TT}  {m : St} {a1 : Int32} {res : Int32}  (h : sX7_isBeacon m a1 = some res) : Ct l κ yX7_isBeacon cX7_isBeacon 2 (some .boolean) 1 25 [.ref (xE κ 9 0 0), .int a1] (rs T 9 m) (rs T 9 m) (some (.int (res))) := by
  refine Ct_i RX7 rfl (by decide +kernel) (Nat.le_of_ble_eq_true rfl) (fun g hl hκ X hf => ?_)
  subst hl; subst hκ
  exact gX7_isBeacon X  hf h
set_option maxRecDepth 20000 in
theorem gX7_areBeacons {g : GX} {T : TT}  {m : St} {a1 : Int32} {a2 : Int32} {res : Int32} (X : CX g RX7 cX7_areBeacons 3 2 46)  (hf : FinI g cX7_areBeacons .boolean (rs T 9 m) (res)) (h : sX7_areBeacons m a1 a2 = some res) : G g 0 0 (rs T 9 m) 0 [(0, .ref (xE (gκ g) 9 0 0)), (1, .int a1), (2, .int a2)] [] := by
  unfold sX7_areBeacons at h
  refine G_aload_n X 0 dX7_areBeacons_0 rfl rfl ?_
  refine G_iload_n X 1 dX7_areBeacons_1 rfl rfl ?_
  obtain ⟨q1, hq1, h⟩ := bd_some h
  refine G_callV X (As := [.int a1]) (rest := []) (T' := rs T 9 m) (st2 := [.int q1]) (ct_X7_isBeacon (l := g.2.1) (κ := gκ g)   hq1) cal_X7_isBeacon wM_X7_341 wI_X7_isBeacon wS_X7_isBeacon rfl rfl (by decide) rfl rfl (Nat.le_of_ble_eq_true rfl) ⟨Nat.zero_le _, Nat.zero_le _⟩ dX7_areBeacons_2 rfl ?_
  refine G_if_eq X (tgt := 20) dX7_areBeacons_5 (by decide) (fun c2 => ?_) (fun c2 => ?_)
  · have h := it_t c2 h
    refine G_iconst X (v := (0 : Int32)) dX7_areBeacons_20 (by decide) ?_
    obtain rfl := Option.some.inj h
    exact hf _ _ dX7_areBeacons_21 (isb_n (v := (0 : Int32)) rfl)
  · have h := it_f c2 h
    refine G_aload_n X 0 dX7_areBeacons_8 rfl rfl ?_
    refine G_iload_n X 2 dX7_areBeacons_9 rfl rfl ?_
    obtain ⟨q3, hq3, h⟩ := bd_some h
    refine G_callV X (As := [.int a2]) (rest := []) (T' := rs T 9 m) (st2 := [.int q3]) (ct_X7_isBeacon (l := g.2.1) (κ := gκ g)   hq3) cal_X7_isBeacon wM_X7_341 wI_X7_isBeacon wS_X7_isBeacon rfl rfl (by decide) rfl rfl (Nat.le_of_ble_eq_true rfl) ⟨Nat.zero_le _, Nat.zero_le _⟩ dX7_areBeacons_10 rfl ?_
    refine G_if_eq X (tgt := 20) dX7_areBeacons_13 (by decide) (fun c4 => ?_) (fun c4 => ?_)
    · have h := it_t c4 h
      refine G_iconst X (v := (0 : Int32)) dX7_areBeacons_20 (by decide) ?_
      obtain rfl := Option.some.inj h
      exact hf _ _ dX7_areBeacons_21 (isb_n (v := (0 : Int32)) rfl)
    · have h := it_f c4 h
      refine G_iconst X (v := (1 : Int32)) dX7_areBeacons_16 (by decide) ?_
      refine G_goto X (tgt := 21) dX7_areBeacons_17 (by decide) ?_
      obtain rfl := Option.some.inj h
      exact hf _ _ dX7_areBeacons_21 (isb_n (v := (1 : Int32)) rfl)
set_option maxRecDepth 20000 in
theorem ct_X7_areBeacons {l : Launch} {κ : KX} {T : TT}  {m : St} {a1 : Int32} {a2 : Int32} {res : Int32}  (h : sX7_areBeacons m a1 a2 = some res) : Ct l κ yX7_areBeacons cX7_areBeacons 3 (some .boolean) 2 46 [.ref (xE κ 9 0 0), .int a1, .int a2] (rs T 9 m) (rs T 9 m) (some (.int (res))) := by
  refine Ct_i RX7 rfl (by decide +kernel) (Nat.le_of_ble_eq_true rfl) (fun g hl hκ X hf => ?_)
  subst hl; subst hκ
  exact gX7_areBeacons X  hf h
set_option maxRecDepth 20000 in
theorem gX7_pairs_b4 {g : GX} {T : TT}  {m : St} {res : Int32}  (X : CX g RX7 cX7_pairs 3 1 22)  (hf : FinI g cX7_pairs .int (rs T 9 m) (res))  : ∀ (n : Nat) (a1 : Int32) (a2 : Int32) (h : sX7_pairs_b4 n  m a1 a2 = some res), G g 0 0 (rs T 9 m) 4 [(0, .ref (xE (gκ g) 9 0 0)), (1, .int a1), (2, .int a2)] [] := by
  intro n
  induction n with
  | zero => intro a1 a2 h; unfold sX7_pairs_b4 at h; cases h
  | succ n ih =>
    intro a1 a2 h
    unfold sX7_pairs_b4 at h
    refine G_iload_n X 2 dX7_pairs_4 rfl rfl ?_
    refine G_aload_n X 0 dX7_pairs_5 rfl rfl ?_
    refine f_X7_20 X rfl rfl dX7_pairs_6 ?_
    refine G_iconst X (v := (0 : Int32)) dX7_pairs_9 (by decide) ?_
    obtain ⟨g1, h⟩ := gd_some h
    refine G_iald X rfl (rg_rs _ _ _) g1 dX7_pairs_10 ?_
    refine G_icmp_ge X (tgt := 35) dX7_pairs_11 (by decide) (fun c2 => ?_) (fun c2 => ?_)
    · have h := it_t c2 h
      refine G_iload_n X 1 dX7_pairs_35 rfl rfl ?_
      obtain rfl := Option.some.inj h
      exact hf _ _ dX7_pairs_36 rfl
    · have h := it_f c2 h
      refine G_iload_n X 1 dX7_pairs_14 rfl rfl ?_
      refine G_aload_n X 0 dX7_pairs_15 rfl rfl ?_
      refine f_X7_20 X rfl rfl dX7_pairs_16 ?_
      refine G_bipush X (v := (13 : Int32)) dX7_pairs_19 (by decide) ?_
      refine G_iload_n X 2 dX7_pairs_21 rfl rfl ?_
      refine G_iadd X dX7_pairs_22 ?_
      obtain ⟨g3, h⟩ := gd_some h
      refine G_iald X rfl (rg_rs _ _ _) g3 dX7_pairs_23 ?_
      obtain ⟨q4, hq4, h⟩ := bd_some h
      refine G_callS X (As := [.int (gI m 0 2 (ix (((13 : Int32)) + a2)))]) (rest := [.int a1]) (T' := rs T 9 m) (st2 := [.int q4, .int a1]) (ct_X7_bits (l := g.2.1) (κ := gκ g)   hq4) cal_X7_bits wM_X7_300 wT_X7_bits (by decide) rfl rfl (Nat.le_of_ble_eq_true rfl) ⟨Nat.zero_le _, Nat.zero_le _⟩ dX7_pairs_24 rfl ?_
      refine G_iadd X dX7_pairs_27 ?_
      refine G_istore_n X (lv' := [(1, .int (a1 + q4)), (0, .ref (xE (gκ g) 9 0 0)), (2, .int a2)]) dX7_pairs_28 rfl (by decide) rfl ?_
      obtain ⟨v5, ev5, h⟩ := nm_some h
      refine G_iinc X (v := v5) (lv' := [(2, .int v5), (1, .int (a1 + q4)), (0, .ref (xE (gκ g) 9 0 0))]) 2 dX7_pairs_29 rfl (by rw [ev5]; rfl) (by decide) rfl ?_
      refine G_goto X (tgt := 4) dX7_pairs_32 (by decide) ?_
      refine G_sub [2, 1, 0] rfl ?_
      exact ih _ _ h
set_option maxRecDepth 20000 in
theorem gX7_pairs {g : GX} {T : TT}  {m : St}  {res : Int32} (X : CX g RX7 cX7_pairs 3 1 22)  (hf : FinI g cX7_pairs .int (rs T 9 m) (res)) (h : sX7_pairs m = some res) : G g 0 0 (rs T 9 m) 0 [(0, .ref (xE (gκ g) 9 0 0))] [] := by
  unfold sX7_pairs at h
  refine G_iconst X (v := (0 : Int32)) dX7_pairs_0 (by decide) ?_
  refine G_istore_n X (lv' := [(1, .int ((0 : Int32))), (0, .ref (xE (gκ g) 9 0 0))]) dX7_pairs_1 rfl (by decide) rfl ?_
  refine G_iconst X (v := (0 : Int32)) dX7_pairs_2 (by decide) ?_
  refine G_istore_n X (lv' := [(2, .int ((0 : Int32))), (1, .int ((0 : Int32))), (0, .ref (xE (gκ g) 9 0 0))]) dX7_pairs_3 rfl (by decide) rfl ?_
  refine G_sub [2, 1, 0] rfl ?_
  exact gX7_pairs_b4 X hf FU _ _ h
set_option maxRecDepth 20000 in
theorem ct_X7_pairs {l : Launch} {κ : KX} {T : TT}  {m : St}  {res : Int32}  (h : sX7_pairs m = some res) : Ct l κ yX7_pairs cX7_pairs 3 (some .int) 1 22 [.ref (xE κ 9 0 0)] (rs T 9 m) (rs T 9 m) (some (.int (res))) := by
  refine Ct_i RX7 rfl (by decide +kernel) (Nat.le_of_ble_eq_true rfl) (fun g hl hκ X hf => ?_)
  subst hl; subst hκ
  exact gX7_pairs X  hf h
set_option maxRecDepth 20000 in
theorem gX7_outMany_b4 {g : GX} {T : TT}  {m : St} {res : Int32}  (X : CX g RX7 cX7_outMany 3 3 65)  (hf : FinI g cX7_outMany .int (rs T 9 m) (res))  : ∀ (n : Nat) (a1 : Int32) (a2 : Int32) (h : sX7_outMany_b4 n  m a1 a2 = some res), G g 0 0 (rs T 9 m) 4 [(0, .ref (xE (gκ g) 9 0 0)), (1, .int a1), (2, .int a2)] [] := by
  intro n
  induction n with
  | zero => intro a1 a2 h; unfold sX7_outMany_b4 at h; cases h
  | succ n ih =>
    intro a1 a2 h
    unfold sX7_outMany_b4 at h
    refine G_iload_n X 2 dX7_outMany_4 rfl rfl ?_
    refine G_aload_n X 0 dX7_outMany_5 rfl rfl ?_
    refine f_X7_20 X rfl rfl dX7_outMany_6 ?_
    refine G_iconst X (v := (0 : Int32)) dX7_outMany_9 (by decide) ?_
    obtain ⟨g1, h⟩ := gd_some h
    refine G_iald X rfl (rg_rs _ _ _) g1 dX7_outMany_10 ?_
    refine G_icmp_ge X (tgt := 32) dX7_outMany_11 (by decide) (fun c2 => ?_) (fun c2 => ?_)
    · have h := it_t c2 h
      refine G_iload_n X 1 dX7_outMany_32 rfl rfl ?_
      obtain rfl := Option.some.inj h
      exact hf _ _ dX7_outMany_33 rfl
    · have h := it_f c2 h
      refine G_iload_n X 1 dX7_outMany_14 rfl rfl ?_
      refine G_aload_n X 0 dX7_outMany_15 rfl rfl ?_
      refine G_iload_n X 2 dX7_outMany_16 rfl rfl ?_
      refine G_iconst X (v := (4 : Int32)) dX7_outMany_17 (by decide) ?_
      obtain ⟨q3, hq3, h⟩ := bd_some h
      refine G_callV X (As := [.int a2, .int ((4 : Int32))]) (rest := [.int a1]) (T' := rs T 9 m) (st2 := [.int q3, .int a1]) (ct_X7_isAt (l := g.2.1) (κ := gκ g)   hq3) cal_X7_isAt wM_X7_297 wI_X7_isAt wS_X7_isAt rfl rfl (by decide) rfl rfl (Nat.le_of_ble_eq_true rfl) ⟨Nat.zero_le _, Nat.zero_le _⟩ dX7_outMany_18 rfl ?_
      obtain ⟨q4, hq4, h⟩ := bd_some h
      refine G_callS X (As := [.int q3]) (rest := [.int a1]) (T' := rs T 9 m) (st2 := [.int q4, .int a1]) (ct_X7_truth (l := g.2.1) (κ := gκ g)   hq4) cal_X7_truth wM_X7_69 wT_X7_truth (by decide) rfl rfl (Nat.le_of_ble_eq_true rfl) ⟨Nat.zero_le _, Nat.zero_le _⟩ dX7_outMany_21 rfl ?_
      refine G_iadd X dX7_outMany_24 ?_
      refine G_istore_n X (lv' := [(1, .int (a1 + q4)), (0, .ref (xE (gκ g) 9 0 0)), (2, .int a2)]) dX7_outMany_25 rfl (by decide) rfl ?_
      obtain ⟨v5, ev5, h⟩ := nm_some h
      refine G_iinc X (v := v5) (lv' := [(2, .int v5), (1, .int (a1 + q4)), (0, .ref (xE (gκ g) 9 0 0))]) 2 dX7_outMany_26 rfl (by rw [ev5]; rfl) (by decide) rfl ?_
      refine G_goto X (tgt := 4) dX7_outMany_29 (by decide) ?_
      refine G_sub [2, 1, 0] rfl ?_
      exact ih _ _ h
set_option maxRecDepth 20000 in
theorem gX7_outMany {g : GX} {T : TT}  {m : St}  {res : Int32} (X : CX g RX7 cX7_outMany 3 3 65)  (hf : FinI g cX7_outMany .int (rs T 9 m) (res)) (h : sX7_outMany m = some res) : G g 0 0 (rs T 9 m) 0 [(0, .ref (xE (gκ g) 9 0 0))] [] := by
  unfold sX7_outMany at h
  refine G_iconst X (v := (0 : Int32)) dX7_outMany_0 (by decide) ?_
  refine G_istore_n X (lv' := [(1, .int ((0 : Int32))), (0, .ref (xE (gκ g) 9 0 0))]) dX7_outMany_1 rfl (by decide) rfl ?_
  refine G_iconst X (v := (0 : Int32)) dX7_outMany_2 (by decide) ?_
  refine G_istore_n X (lv' := [(2, .int ((0 : Int32))), (1, .int ((0 : Int32))), (0, .ref (xE (gκ g) 9 0 0))]) dX7_outMany_3 rfl (by decide) rfl ?_
  refine G_sub [2, 1, 0] rfl ?_
  exact gX7_outMany_b4 X hf FU _ _ h
set_option maxRecDepth 20000 in
theorem ct_X7_outMany {l : Launch} {κ : KX} {T : TT}  {m : St}  {res : Int32}  (h : sX7_outMany m = some res) : Ct l κ yX7_outMany cX7_outMany 3 (some .int) 3 65 [.ref (xE κ 9 0 0)] (rs T 9 m) (rs T 9 m) (some (.int (res))) := by
  refine Ct_i RX7 rfl (by decide +kernel) (Nat.le_of_ble_eq_true rfl) (fun g hl hκ X hf => ?_)
  subst hl; subst hκ
  exact gX7_outMany X  hf h
set_option maxRecDepth 20000 in
theorem gX7_setting {g : GX} {T : TT}  {m : St} {a1 : Int32} {res : St × Int32} (X : CX g RX7 cX7_setting 2 4 87)  (hf : FinI g cX7_setting .int (rs T 9 res.1) (res.2)) (h : sX7_setting m a1 = some res) : G g 0 0 (rs T 9 m) 0 [(0, .ref (xE (gκ g) 9 0 0)), (1, .int a1)] [] := by
  unfold sX7_setting at h
  refine G_aload_n X 0 dX7_setting_0 rfl rfl ?_
  refine G_iload_n X 1 dX7_setting_1 rfl rfl ?_
  refine G_i2l X dX7_setting_2 ?_
  refine G_lconst X (v := (0 : Int64)) dX7_setting_3 (by decide) ?_
  refine G_ldc2_w X (v := (10 : Int64)) dX7_setting_4 wK_X7_344 ?_
  obtain ⟨q1, hq1, h⟩ := bd_some h
  refine G_callS X (As := [.long a1.toInt64, .long ((0 : Int64)), .long ((10 : Int64))]) (rest := [.ref (xE (gκ g) 9 0 0)]) (T' := rs T 9 m) (st2 := [.int q1, .ref (xE (gκ g) 9 0 0)]) (ct_X7_isIn (l := g.2.1) (κ := gκ g)   hq1) cal_X7_isIn wM_X7_84 wT_X7_isIn (by decide) rfl rfl (Nat.le_of_ble_eq_true rfl) ⟨Nat.zero_le _, Nat.zero_le _⟩ dX7_setting_7 rfl ?_
  obtain ⟨q2, hq2, h⟩ := bd_some h
  refine G_callV X (As := [.int q1]) (rest := []) (T' := rs T 9 q2.1) (st2 := [.int q2.2]) (ct_X7_goes (l := g.2.1) (κ := gκ g)   hq2) cal_X7_goes wM_X7_76 wI_X7_goes wS_X7_goes rfl rfl (by decide) rfl rfl (Nat.le_of_ble_eq_true rfl) ⟨Nat.zero_le _, Nat.zero_le _⟩ dX7_setting_10 rfl ?_
  refine G_if_ne X (tgt := 18) dX7_setting_13 (by decide) (fun c3 => ?_) (fun c3 => ?_)
  · have h := it_t c3 h
    refine G_iload_n X 1 dX7_setting_18 rfl rfl ?_
    by_cases c4 : a1 = (0 : Int32)
    · have h := it_t c4 h
      rw [c4]
      refine G_tabIn X (off := 53) (tgt := 72) dX7_setting_19 (by decide) (by decide) (by decide) (by decide) ?_
      refine G_aload_n X 0 dX7_setting_72 rfl rfl ?_
      refine f_X7_20 X rfl rfl dX7_setting_73 ?_
      refine G_iconst X (v := (0 : Int32)) dX7_setting_76 (by decide) ?_
      obtain ⟨g5, h⟩ := gd_some h
      refine G_iald X rfl (rg_rs _ _ _) g5 dX7_setting_77 ?_
      obtain rfl := Option.some.inj h
      exact hf _ _ dX7_setting_78 rfl
    have h := it_f c4 h
    by_cases c6 : a1 = (1 : Int32)
    · have h := it_t c6 h
      rw [c6]
      refine G_tabIn X (off := 60) (tgt := 79) dX7_setting_19 (by decide) (by decide) (by decide) (by decide) ?_
      refine G_aload_n X 0 dX7_setting_79 rfl rfl ?_
      obtain ⟨q7, hq7, h⟩ := bd_some h
      refine G_callV X (As := []) (rest := []) (T' := rs T 9 q2.1) (st2 := [.int q7]) (ct_X7_pairs (l := g.2.1) (κ := gκ g)   hq7) cal_X7_pairs wM_X7_346 wI_X7_pairs wS_X7_pairs rfl rfl (by decide) rfl rfl (Nat.le_of_ble_eq_true rfl) ⟨Nat.zero_le _, Nat.zero_le _⟩ dX7_setting_80 rfl ?_
      refine G_iconst X (v := (2 : Int32)) dX7_setting_83 (by decide) ?_
      refine G_idiv X dX7_setting_84 (by decide) ?_
      obtain rfl := Option.some.inj h
      exact hf _ _ dX7_setting_85 rfl
    have h := it_f c6 h
    by_cases c8 : a1 = (2 : Int32)
    · have h := it_t c8 h
      rw [c8]
      refine G_tabIn X (off := 67) (tgt := 86) dX7_setting_19 (by decide) (by decide) (by decide) (by decide) ?_
      refine G_aload_n X 0 dX7_setting_86 rfl rfl ?_
      refine f_X7_20 X rfl rfl dX7_setting_87 ?_
      refine G_iconst X (v := (1 : Int32)) dX7_setting_90 (by decide) ?_
      obtain ⟨g9, h⟩ := gd_some h
      refine G_iald X rfl (rg_rs _ _ _) g9 dX7_setting_91 ?_
      obtain rfl := Option.some.inj h
      exact hf _ _ dX7_setting_92 rfl
    have h := it_f c8 h
    by_cases c10 : a1 = (3 : Int32)
    · have h := it_t c10 h
      rw [c10]
      refine G_tabIn X (off := 74) (tgt := 93) dX7_setting_19 (by decide) (by decide) (by decide) (by decide) ?_
      refine G_aload_n X 0 dX7_setting_93 rfl rfl ?_
      refine f_X7_20 X rfl rfl dX7_setting_94 ?_
      refine G_iconst X (v := (2 : Int32)) dX7_setting_97 (by decide) ?_
      obtain ⟨g11, h⟩ := gd_some h
      refine G_iald X rfl (rg_rs _ _ _) g11 dX7_setting_98 ?_
      obtain rfl := Option.some.inj h
      exact hf _ _ dX7_setting_99 rfl
    have h := it_f c10 h
    by_cases c12 : a1 = (4 : Int32)
    · have h := it_t c12 h
      rw [c12]
      refine G_tabIn X (off := 81) (tgt := 100) dX7_setting_19 (by decide) (by decide) (by decide) (by decide) ?_
      refine G_aload_n X 0 dX7_setting_100 rfl rfl ?_
      refine f_X7_20 X rfl rfl dX7_setting_101 ?_
      refine G_iconst X (v := (3 : Int32)) dX7_setting_104 (by decide) ?_
      obtain ⟨g13, h⟩ := gd_some h
      refine G_iald X rfl (rg_rs _ _ _) g13 dX7_setting_105 ?_
      obtain rfl := Option.some.inj h
      exact hf _ _ dX7_setting_106 rfl
    have h := it_f c12 h
    by_cases c14 : a1 = (5 : Int32)
    · have h := it_t c14 h
      rw [c14]
      refine G_tabIn X (off := 88) (tgt := 107) dX7_setting_19 (by decide) (by decide) (by decide) (by decide) ?_
      refine G_aload_n X 0 dX7_setting_107 rfl rfl ?_
      refine f_X7_20 X rfl rfl dX7_setting_108 ?_
      refine G_iconst X (v := (4 : Int32)) dX7_setting_111 (by decide) ?_
      obtain ⟨g15, h⟩ := gd_some h
      refine G_iald X rfl (rg_rs _ _ _) g15 dX7_setting_112 ?_
      obtain rfl := Option.some.inj h
      exact hf _ _ dX7_setting_113 rfl
    have h := it_f c14 h
    by_cases c16 : a1 = (6 : Int32)
    · have h := it_t c16 h
      rw [c16]
      refine G_tabIn X (off := 95) (tgt := 114) dX7_setting_19 (by decide) (by decide) (by decide) (by decide) ?_
      refine G_aload_n X 0 dX7_setting_114 rfl rfl ?_
      refine f_X7_20 X rfl rfl dX7_setting_115 ?_
      refine G_iconst X (v := (5 : Int32)) dX7_setting_118 (by decide) ?_
      obtain ⟨g17, h⟩ := gd_some h
      refine G_iald X rfl (rg_rs _ _ _) g17 dX7_setting_119 ?_
      obtain rfl := Option.some.inj h
      exact hf _ _ dX7_setting_120 rfl
    have h := it_f c16 h
    by_cases c18 : a1 = (7 : Int32)
    · have h := it_t c18 h
      rw [c18]
      refine G_tabIn X (off := 102) (tgt := 121) dX7_setting_19 (by decide) (by decide) (by decide) (by decide) ?_
      refine G_aload_n X 0 dX7_setting_121 rfl rfl ?_
      refine f_X7_20 X rfl rfl dX7_setting_122 ?_
      refine G_bipush X (v := (6 : Int32)) dX7_setting_125 (by decide) ?_
      obtain ⟨g19, h⟩ := gd_some h
      refine G_iald X rfl (rg_rs _ _ _) g19 dX7_setting_127 ?_
      obtain rfl := Option.some.inj h
      exact hf _ _ dX7_setting_128 rfl
    have h := it_f c18 h
    by_cases c20 : a1 = (8 : Int32)
    · have h := it_t c20 h
      rw [c20]
      refine G_tabIn X (off := 110) (tgt := 129) dX7_setting_19 (by decide) (by decide) (by decide) (by decide) ?_
      refine G_aload_n X 0 dX7_setting_129 rfl rfl ?_
      obtain ⟨q21, hq21, h⟩ := bd_some h
      refine G_callV X (As := []) (rest := []) (T' := rs T 9 q2.1) (st2 := [.int q21]) (ct_X7_outMany (l := g.2.1) (κ := gκ g)   hq21) cal_X7_outMany wM_X7_349 wI_X7_outMany wS_X7_outMany rfl rfl (by decide) rfl rfl (Nat.le_of_ble_eq_true rfl) ⟨Nat.zero_le _, Nat.zero_le _⟩ dX7_setting_130 rfl ?_
      obtain rfl := Option.some.inj h
      exact hf _ _ dX7_setting_133 rfl
    have h := it_f c20 h
    by_cases c22 : a1 = (9 : Int32)
    · have h := it_t c22 h
      rw [c22]
      refine G_tabIn X (off := 115) (tgt := 134) dX7_setting_19 (by decide) (by decide) (by decide) (by decide) ?_
      refine G_aload_n X 0 dX7_setting_134 rfl rfl ?_
      refine f_X7_20 X rfl rfl dX7_setting_135 ?_
      refine G_bipush X (v := (7 : Int32)) dX7_setting_138 (by decide) ?_
      obtain ⟨g23, h⟩ := gd_some h
      refine G_iald X rfl (rg_rs _ _ _) g23 dX7_setting_140 ?_
      obtain rfl := Option.some.inj h
      exact hf _ _ dX7_setting_141 rfl
    have h := it_f c22 h
    refine G_tabOut X (tgt := 142) dX7_setting_19 (sw_out 0 9 [(0 : Int32), (1 : Int32), (2 : Int32), (3 : Int32), (4 : Int32), (5 : Int32), (6 : Int32), (7 : Int32), (8 : Int32), (9 : Int32)] (by decide) (by simp [c4, c6, c8, c10, c12, c14, c16, c18, c20, c22])) (by decide) ?_
    refine G_aload_n X 0 dX7_setting_142 rfl rfl ?_
    refine f_X7_156 X rfl (rg_rs _ _ _) dX7_setting_143 ?_
    obtain rfl := Option.some.inj h
    exact hf _ _ dX7_setting_146 rfl
  · have h := it_f (fun k => k c3) h
    refine G_iconst X (v := (0 : Int32)) dX7_setting_16 (by decide) ?_
    obtain rfl := Option.some.inj h
    exact hf _ _ dX7_setting_17 rfl
set_option maxRecDepth 20000 in
theorem ct_X7_setting {l : Launch} {κ : KX} {T : TT}  {m : St} {a1 : Int32} {res : St × Int32}  (h : sX7_setting m a1 = some res) : Ct l κ yX7_setting cX7_setting 2 (some .int) 4 87 [.ref (xE κ 9 0 0), .int a1] (rs T 9 m) (rs T 9 res.1) (some (.int (res.2))) := by
  refine Ct_i RX7 rfl (by decide +kernel) (Nat.le_of_ble_eq_true rfl) (fun g hl hκ X hf => ?_)
  subst hl; subst hκ
  exact gX7_setting X  hf h
set_option maxRecDepth 20000 in
theorem gX7_beacon {g : GX} {T : TT}  {m : St} {a1 : Int32} {a2 : Int32} {res : St × Int32} (X : CX g RX7 cX7_beacon 3 4 89)  (hf : FinI g cX7_beacon .int (rs T 9 res.1) (res.2)) (h : sX7_beacon m a1 a2 = some res) : G g 0 0 (rs T 9 m) 0 [(0, .ref (xE (gκ g) 9 0 0)), (1, .int a1), (2, .int a2)] [] := by
  unfold sX7_beacon at h
  refine G_aload_n X 0 dX7_beacon_0 rfl rfl ?_
  refine G_aload_n X 0 dX7_beacon_1 rfl rfl ?_
  refine G_iload_n X 1 dX7_beacon_2 rfl rfl ?_
  obtain ⟨q1, hq1, h⟩ := bd_some h
  refine G_callV X (As := [.int a1]) (rest := [.ref (xE (gκ g) 9 0 0)]) (T' := rs T 9 m) (st2 := [.int q1, .ref (xE (gκ g) 9 0 0)]) (ct_X7_isBeacon (l := g.2.1) (κ := gκ g)   hq1) cal_X7_isBeacon wM_X7_341 wI_X7_isBeacon wS_X7_isBeacon rfl rfl (by decide) rfl rfl (Nat.le_of_ble_eq_true rfl) ⟨Nat.zero_le _, Nat.zero_le _⟩ dX7_beacon_3 rfl ?_
  refine G_iload_n X 2 dX7_beacon_6 rfl rfl ?_
  refine G_i2l X dX7_beacon_7 ?_
  refine G_lconst X (v := (0 : Int64)) dX7_beacon_8 (by decide) ?_
  refine G_ldc2_w X (v := (13 : Int64)) dX7_beacon_9 wK_X7_352 ?_
  obtain ⟨q2, hq2, h⟩ := bd_some h
  refine G_callS X (As := [.long a2.toInt64, .long ((0 : Int64)), .long ((13 : Int64))]) (rest := [.int q1, .ref (xE (gκ g) 9 0 0)]) (T' := rs T 9 m) (st2 := [.int q2, .int q1, .ref (xE (gκ g) 9 0 0)]) (ct_X7_isIn (l := g.2.1) (κ := gκ g)   hq2) cal_X7_isIn wM_X7_84 wT_X7_isIn (by decide) rfl rfl (Nat.le_of_ble_eq_true rfl) ⟨Nat.zero_le _, Nat.zero_le _⟩ dX7_beacon_12 rfl ?_
  obtain ⟨q3, hq3, h⟩ := bd_some h
  refine G_callV X (As := [.int q1, .int q2]) (rest := []) (T' := rs T 9 q3.1) (st2 := [.int q3.2]) (ct_X7_goesBoth (l := g.2.1) (κ := gκ g)   hq3) cal_X7_goesBoth wM_X7_354 wI_X7_goesBoth wS_X7_goesBoth rfl rfl (by decide) rfl rfl (Nat.le_of_ble_eq_true rfl) ⟨Nat.zero_le _, Nat.zero_le _⟩ dX7_beacon_15 rfl ?_
  refine G_if_ne X (tgt := 23) dX7_beacon_18 (by decide) (fun c4 => ?_) (fun c4 => ?_)
  · have h := it_t c4 h
    refine G_iload_n X 2 dX7_beacon_23 rfl rfl ?_
    by_cases c5 : a2 = (9 : Int32)
    · have h := it_t c5 h
      rw [c5]
      refine G_look X (off := 28) (tgt := 52) dX7_beacon_24 (by decide) (by decide) (by decide) ?_
      refine G_aload_n X 0 dX7_beacon_52 rfl rfl ?_
      refine f_X7_20 X rfl rfl dX7_beacon_53 ?_
      refine G_bipush X (v := (13 : Int32)) dX7_beacon_56 (by decide) ?_
      refine G_iload_n X 1 dX7_beacon_58 rfl rfl ?_
      refine G_iadd X dX7_beacon_59 ?_
      obtain ⟨g6, h⟩ := gd_some h
      refine G_iald X rfl (rg_rs _ _ _) g6 dX7_beacon_60 ?_
      obtain rfl := Option.some.inj h
      exact hf _ _ dX7_beacon_61 rfl
    have h := it_f c5 h
    by_cases c7 : a2 = (10 : Int32)
    · have h := it_t c7 h
      rw [c7]
      refine G_look X (off := 38) (tgt := 62) dX7_beacon_24 (by decide) (by decide) (by decide) ?_
      refine G_aload_n X 0 dX7_beacon_62 rfl rfl ?_
      refine G_iload_n X 1 dX7_beacon_63 rfl rfl ?_
      obtain ⟨q8, hq8, h⟩ := bd_some h
      refine G_callV X (As := [.int a1]) (rest := []) (T' := rs T 9 q3.1) (st2 := [.int q8]) (ct_X7_knownSet (l := g.2.1) (κ := gκ g)   hq8) cal_X7_knownSet wM_X7_257 wI_X7_knownSet wS_X7_knownSet rfl rfl (by decide) rfl rfl (Nat.le_of_ble_eq_true rfl) ⟨Nat.zero_le _, Nat.zero_le _⟩ dX7_beacon_64 rfl ?_
      obtain rfl := Option.some.inj h
      exact hf _ _ dX7_beacon_67 rfl
    have h := it_f c7 h
    refine G_look X (off := 44) (tgt := 68) dX7_beacon_24 (by decide) (lk_out [(9 : Int32), (10 : Int32)] (by decide) (by simp [c5, c7])) (by decide) ?_
    refine G_aload_n X 0 dX7_beacon_68 rfl rfl ?_
    refine G_iload_n X 1 dX7_beacon_69 rfl rfl ?_
    refine G_iload_n X 2 dX7_beacon_70 rfl rfl ?_
    obtain ⟨q9, hq9, h⟩ := bd_some h
    refine G_callV X (As := [.int a1, .int a2]) (rest := []) (T' := rs T 9 q3.1) (st2 := [.int q9]) (ct_X7_of (l := g.2.1) (κ := gκ g)   hq9) cal_X7_of wM_X7_251 wI_X7_of wS_X7_of rfl rfl (by decide) rfl rfl (Nat.le_of_ble_eq_true rfl) ⟨Nat.zero_le _, Nat.zero_le _⟩ dX7_beacon_71 rfl ?_
    obtain rfl := Option.some.inj h
    exact hf _ _ dX7_beacon_74 rfl
  · have h := it_f (fun k => k c4) h
    refine G_iconst X (v := (0 : Int32)) dX7_beacon_21 (by decide) ?_
    obtain rfl := Option.some.inj h
    exact hf _ _ dX7_beacon_22 rfl
set_option maxRecDepth 20000 in
theorem ct_X7_beacon {l : Launch} {κ : KX} {T : TT}  {m : St} {a1 : Int32} {a2 : Int32} {res : St × Int32}  (h : sX7_beacon m a1 a2 = some res) : Ct l κ yX7_beacon cX7_beacon 3 (some .int) 4 89 [.ref (xE κ 9 0 0), .int a1, .int a2] (rs T 9 m) (rs T 9 res.1) (some (.int (res.2))) := by
  refine Ct_i RX7 rfl (by decide +kernel) (Nat.le_of_ble_eq_true rfl) (fun g hl hκ X hf => ?_)
  subst hl; subst hκ
  exact gX7_beacon X  hf h
set_option maxRecDepth 20000 in
theorem gX7_slots {g : GX} {T : TT}  {m : St} {a1 : Int32} {a2 : Int32} {res : St × Int32} (X : CX g RX7 cX7_slots 3 2 46)  (hf : FinI g cX7_slots .int (rs T 9 res.1) (res.2)) (h : sX7_slots m a1 a2 = some res) : G g 0 0 (rs T 9 m) 0 [(0, .ref (xE (gκ g) 9 0 0)), (1, .int a1), (2, .int a2)] [] := by
  unfold sX7_slots at h
  refine G_aload_n X 0 dX7_slots_0 rfl rfl ?_
  refine G_aload_n X 0 dX7_slots_1 rfl rfl ?_
  refine G_iload_n X 1 dX7_slots_2 rfl rfl ?_
  obtain ⟨q1, hq1, h⟩ := bd_some h
  refine G_callV X (As := [.int a1]) (rest := [.ref (xE (gκ g) 9 0 0)]) (T' := rs T 9 m) (st2 := [.int q1, .ref (xE (gκ g) 9 0 0)]) (ct_X7_isBeacon (l := g.2.1) (κ := gκ g)   hq1) cal_X7_isBeacon wM_X7_341 wI_X7_isBeacon wS_X7_isBeacon rfl rfl (by decide) rfl rfl (Nat.le_of_ble_eq_true rfl) ⟨Nat.zero_le _, Nat.zero_le _⟩ dX7_slots_3 rfl ?_
  refine G_iload_n X 2 dX7_slots_6 rfl rfl ?_
  refine G_i2l X dX7_slots_7 ?_
  refine G_lconst X (v := (0 : Int64)) dX7_slots_8 (by decide) ?_
  refine G_ldc2_w X (v := (3 : Int64)) dX7_slots_9 wK_X7_358 ?_
  obtain ⟨q2, hq2, h⟩ := bd_some h
  refine G_callS X (As := [.long a2.toInt64, .long ((0 : Int64)), .long ((3 : Int64))]) (rest := [.int q1, .ref (xE (gκ g) 9 0 0)]) (T' := rs T 9 m) (st2 := [.int q2, .int q1, .ref (xE (gκ g) 9 0 0)]) (ct_X7_isIn (l := g.2.1) (κ := gκ g)   hq2) cal_X7_isIn wM_X7_84 wT_X7_isIn (by decide) rfl rfl (Nat.le_of_ble_eq_true rfl) ⟨Nat.zero_le _, Nat.zero_le _⟩ dX7_slots_12 rfl ?_
  obtain ⟨q3, hq3, h⟩ := bd_some h
  refine G_callV X (As := [.int q1, .int q2]) (rest := []) (T' := rs T 9 q3.1) (st2 := [.int q3.2]) (ct_X7_goesBoth (l := g.2.1) (κ := gκ g)   hq3) cal_X7_goesBoth wM_X7_354 wI_X7_goesBoth wS_X7_goesBoth rfl rfl (by decide) rfl rfl (Nat.le_of_ble_eq_true rfl) ⟨Nat.zero_le _, Nat.zero_le _⟩ dX7_slots_15 rfl ?_
  refine G_if_eq X (tgt := 33) dX7_slots_18 (by decide) (fun c4 => ?_) (fun c4 => ?_)
  · have h := it_t c4 h
    refine G_iconst X (v := (0 : Int32)) dX7_slots_33 (by decide) ?_
    obtain rfl := Option.some.inj h
    exact hf _ _ dX7_slots_34 rfl
  · have h := it_f c4 h
    refine G_aload_n X 0 dX7_slots_21 rfl rfl ?_
    refine G_iload_n X 1 dX7_slots_22 rfl rfl ?_
    refine G_bipush X (v := (14 : Int32)) dX7_slots_23 (by decide) ?_
    refine G_iload_n X 2 dX7_slots_25 rfl rfl ?_
    refine G_iadd X dX7_slots_26 ?_
    obtain ⟨q5, hq5, h⟩ := bd_some h
    refine G_callV X (As := [.int a1, .int (((14 : Int32)) + a2)]) (rest := []) (T' := rs T 9 q3.1) (st2 := [.int q5]) (ct_X7_of (l := g.2.1) (κ := gκ g)   hq5) cal_X7_of wM_X7_251 wI_X7_of wS_X7_of rfl rfl (by decide) rfl rfl (Nat.le_of_ble_eq_true rfl) ⟨Nat.zero_le _, Nat.zero_le _⟩ dX7_slots_27 rfl ?_
    refine G_goto X (tgt := 34) dX7_slots_30 (by decide) ?_
    obtain rfl := Option.some.inj h
    exact hf _ _ dX7_slots_34 rfl
set_option maxRecDepth 20000 in
theorem ct_X7_slots {l : Launch} {κ : KX} {T : TT}  {m : St} {a1 : Int32} {a2 : Int32} {res : St × Int32}  (h : sX7_slots m a1 a2 = some res) : Ct l κ yX7_slots cX7_slots 3 (some .int) 2 46 [.ref (xE κ 9 0 0), .int a1, .int a2] (rs T 9 m) (rs T 9 res.1) (some (.int (res.2))) := by
  refine Ct_i RX7 rfl (by decide +kernel) (Nat.le_of_ble_eq_true rfl) (fun g hl hκ X hf => ?_)
  subst hl; subst hκ
  exact gX7_slots X  hf h
set_option maxRecDepth 20000 in
theorem gX7_reckoned_b18 {g : GX} {T : TT}   {res : St × Int32}  (X : CX g RX7 cX7_reckoned 4 2 46)  (hf : FinI g cX7_reckoned .int (rs T 9 res.1) (res.2))  : ∀ (n : Nat) (m : St) (a1 : Int32) (a2 : Int32) (a3 : Int32) (h : sX7_reckoned_b18 n  m a1 a2 a3 = some res), G g 0 0 (rs T 9 m) 18 [(0, .ref (xE (gκ g) 9 0 0)), (1, .int a1), (2, .int a2), (3, .int a3)] [] := by
  intro n
  induction n with
  | zero => intro m a1 a2 a3 h; unfold sX7_reckoned_b18 at h; cases h
  | succ n ih =>
    intro m a1 a2 a3 h
    unfold sX7_reckoned_b18 at h
    refine G_iload_n X 3 dX7_reckoned_18 rfl rfl ?_
    refine G_iconst X (v := (4 : Int32)) dX7_reckoned_19 (by decide) ?_
    refine G_icmp_ge X (tgt := 51) dX7_reckoned_20 (by decide) (fun c4 => ?_) (fun c4 => ?_)
    · have h := it_t c4 h
      refine G_iload_n X 2 dX7_reckoned_51 rfl rfl ?_
      obtain rfl := Option.some.inj h
      exact hf _ _ dX7_reckoned_52 rfl
    · have h := it_f c4 h
      refine G_iload_n X 2 dX7_reckoned_23 rfl rfl ?_
      refine G_aload_n X 0 dX7_reckoned_24 rfl rfl ?_
      refine G_iload_n X 1 dX7_reckoned_25 rfl rfl ?_
      refine G_bipush X (v := (14 : Int32)) dX7_reckoned_26 (by decide) ?_
      refine G_iload_n X 3 dX7_reckoned_28 rfl rfl ?_
      refine G_iadd X dX7_reckoned_29 ?_
      obtain ⟨q5, hq5, h⟩ := bd_some h
      refine G_callV X (As := [.int a1, .int (((14 : Int32)) + a3)]) (rest := [.int a2]) (T' := rs T 9 m) (st2 := [.int q5, .int a2]) (ct_X7_of (l := g.2.1) (κ := gκ g)   hq5) cal_X7_of wM_X7_251 wI_X7_of wS_X7_of rfl rfl (by decide) rfl rfl (Nat.le_of_ble_eq_true rfl) ⟨Nat.zero_le _, Nat.zero_le _⟩ dX7_reckoned_30 rfl ?_
      refine G_aload_n X 0 dX7_reckoned_33 rfl rfl ?_
      refine f_X7_20 X rfl rfl dX7_reckoned_34 ?_
      refine G_bipush X (v := (8 : Int32)) dX7_reckoned_37 (by decide) ?_
      refine G_iload_n X 3 dX7_reckoned_39 rfl rfl ?_
      refine G_iadd X dX7_reckoned_40 ?_
      obtain ⟨g6, h⟩ := gd_some h
      refine G_iald X rfl (rg_rs _ _ _) g6 dX7_reckoned_41 ?_
      refine G_imul X dX7_reckoned_42 ?_
      refine G_iadd X dX7_reckoned_43 ?_
      obtain ⟨v7, ev7, h⟩ := nm_some h
      refine G_nmi ev7 ?_
      refine G_istore_n X (lv' := [(2, .int v7), (0, .ref (xE (gκ g) 9 0 0)), (1, .int a1), (3, .int a3)]) dX7_reckoned_44 rfl (by decide) rfl ?_
      obtain ⟨v8, ev8, h⟩ := nm_some h
      refine G_iinc X (v := v8) (lv' := [(3, .int v8), (2, .int v7), (0, .ref (xE (gκ g) 9 0 0)), (1, .int a1)]) 3 dX7_reckoned_45 rfl (by rw [ev8]; rfl) (by decide) rfl ?_
      refine G_goto X (tgt := 18) dX7_reckoned_48 (by decide) ?_
      refine G_sub [2, 3, 1, 0] rfl ?_
      exact ih _ _ _ _ h
set_option maxRecDepth 20000 in
theorem gX7_reckoned {g : GX} {T : TT}  {m : St} {a1 : Int32} {res : St × Int32} (X : CX g RX7 cX7_reckoned 4 2 46)  (hf : FinI g cX7_reckoned .int (rs T 9 res.1) (res.2)) (h : sX7_reckoned m a1 = some res) : G g 0 0 (rs T 9 m) 0 [(0, .ref (xE (gκ g) 9 0 0)), (1, .int a1)] [] := by
  unfold sX7_reckoned at h
  refine G_aload_n X 0 dX7_reckoned_0 rfl rfl ?_
  refine G_aload_n X 0 dX7_reckoned_1 rfl rfl ?_
  refine G_iload_n X 1 dX7_reckoned_2 rfl rfl ?_
  obtain ⟨q1, hq1, h⟩ := bd_some h
  refine G_callV X (As := [.int a1]) (rest := [.ref (xE (gκ g) 9 0 0)]) (T' := rs T 9 m) (st2 := [.int q1, .ref (xE (gκ g) 9 0 0)]) (ct_X7_isBeacon (l := g.2.1) (κ := gκ g)   hq1) cal_X7_isBeacon wM_X7_341 wI_X7_isBeacon wS_X7_isBeacon rfl rfl (by decide) rfl rfl (Nat.le_of_ble_eq_true rfl) ⟨Nat.zero_le _, Nat.zero_le _⟩ dX7_reckoned_3 rfl ?_
  obtain ⟨q2, hq2, h⟩ := bd_some h
  refine G_callV X (As := [.int q1]) (rest := []) (T' := rs T 9 q2.1) (st2 := [.int q2.2]) (ct_X7_goes (l := g.2.1) (κ := gκ g)   hq2) cal_X7_goes wM_X7_76 wI_X7_goes wS_X7_goes rfl rfl (by decide) rfl rfl (Nat.le_of_ble_eq_true rfl) ⟨Nat.zero_le _, Nat.zero_le _⟩ dX7_reckoned_6 rfl ?_
  refine G_if_ne X (tgt := 14) dX7_reckoned_9 (by decide) (fun c3 => ?_) (fun c3 => ?_)
  · have h := it_t c3 h
    refine G_iconst X (v := (0 : Int32)) dX7_reckoned_14 (by decide) ?_
    refine G_istore_n X (lv' := [(2, .int ((0 : Int32))), (0, .ref (xE (gκ g) 9 0 0)), (1, .int a1)]) dX7_reckoned_15 rfl (by decide) rfl ?_
    refine G_iconst X (v := (0 : Int32)) dX7_reckoned_16 (by decide) ?_
    refine G_istore_n X (lv' := [(3, .int ((0 : Int32))), (2, .int ((0 : Int32))), (0, .ref (xE (gκ g) 9 0 0)), (1, .int a1)]) dX7_reckoned_17 rfl (by decide) rfl ?_
    refine G_sub [2, 3, 1, 0] rfl ?_
    exact gX7_reckoned_b18 X hf FU _ _ _ _ h
  · have h := it_f (fun k => k c3) h
    refine G_iconst X (v := (0 : Int32)) dX7_reckoned_12 (by decide) ?_
    obtain rfl := Option.some.inj h
    exact hf _ _ dX7_reckoned_13 rfl
set_option maxRecDepth 20000 in
theorem ct_X7_reckoned {l : Launch} {κ : KX} {T : TT}  {m : St} {a1 : Int32} {res : St × Int32}  (h : sX7_reckoned m a1 = some res) : Ct l κ yX7_reckoned cX7_reckoned 4 (some .int) 2 46 [.ref (xE κ 9 0 0), .int a1] (rs T 9 m) (rs T 9 res.1) (some (.int (res.2))) := by
  refine Ct_i RX7 rfl (by decide +kernel) (Nat.le_of_ble_eq_true rfl) (fun g hl hκ X hf => ?_)
  subst hl; subst hκ
  exact gX7_reckoned X  hf h
set_option maxRecDepth 20000 in
theorem gX7_lettersOf_b4 {g : GX} {T : TT}   {res : Int32}  (X : CX g RX7 cX7_lettersOf 5 0 0)  (hf : FinI g cX7_lettersOf .int (T) (res))  : ∀ (n : Nat) (a2 : Int32) (a3 : Int64) (h : sX7_lettersOf_b4 n  a2 a3 = some res), G g 0 0 (T) 4 [(2, .int a2), (3, .long a3)] [] := by
  intro n
  induction n with
  | zero => intro a2 a3 h; unfold sX7_lettersOf_b4 at h; cases h
  | succ n ih =>
    intro a2 a3 h
    unfold sX7_lettersOf_b4 at h
    refine G_lload_n X 1 dX7_lettersOf_4 rfl rfl ?_
    refine G_lconst X (v := (0 : Int64)) dX7_lettersOf_5 (by decide) ?_
    refine G_lcmp X dX7_lettersOf_6 ?_
    refine G_if_le X (tgt := 20) dX7_lettersOf_7 (by decide) (fun c1 => ?_) (fun c1 => ?_)
    · have h := it_t c1 h
      refine G_iload_n X 0 dX7_lettersOf_20 rfl rfl ?_
      obtain rfl := Option.some.inj h
      exact hf _ _ dX7_lettersOf_21 rfl
    · have h := it_f c1 h
      obtain ⟨v2, ev2, h⟩ := nm_some h
      refine G_iinc X (v := v2) (lv' := [(2, .int v2), (3, .long a3)]) 0 dX7_lettersOf_10 rfl (by rw [ev2]; rfl) (by decide) rfl ?_
      refine G_lload_n X 1 dX7_lettersOf_13 rfl rfl ?_
      refine G_iconst X (v := (5 : Int32)) dX7_lettersOf_14 (by decide) ?_
      refine G_lshr X dX7_lettersOf_15 ?_
      obtain ⟨v3, ev3, h⟩ := nm_some h
      refine G_nml ev3 ?_
      refine G_lstore_n X (lv' := [(3, .long v3), (2, .int v2)]) dX7_lettersOf_16 rfl (by decide) rfl ?_
      refine G_goto X (tgt := 4) dX7_lettersOf_17 (by decide) ?_
      refine G_sub [1, 0] rfl ?_
      exact ih _ _ h
set_option maxRecDepth 20000 in
theorem gX7_lettersOf {g : GX} {T : TT}   {a0 : Int64} {res : Int32} (X : CX g RX7 cX7_lettersOf 5 0 0)  (hf : FinI g cX7_lettersOf .int (T) (res)) (h : sX7_lettersOf a0 = some res) : G g 0 0 (T) 0 [(0, .long a0)] [] := by
  unfold sX7_lettersOf at h
  refine G_iconst X (v := (0 : Int32)) dX7_lettersOf_0 (by decide) ?_
  refine G_istore_n X (lv' := [(2, .int ((0 : Int32))), (0, .long a0)]) dX7_lettersOf_1 rfl (by decide) rfl ?_
  refine G_lload_n X 1 dX7_lettersOf_2 rfl rfl ?_
  refine G_lstore_n X (lv' := [(3, .long a0), (2, .int ((0 : Int32))), (0, .long a0)]) dX7_lettersOf_3 rfl (by decide) rfl ?_
  refine G_sub [1, 0] rfl ?_
  exact gX7_lettersOf_b4 X hf FU _ _ h
set_option maxRecDepth 20000 in
theorem ct_X7_lettersOf {l : Launch} {κ : KX} {T : TT}   {a0 : Int64} {res : Int32}  (h : sX7_lettersOf a0 = some res) : Ct l κ yX7_lettersOf cX7_lettersOf 5 (some .int) 0 0 [.long a0] (T) (T) (some (.int (res))) := by
  refine Ct_i RX7 rfl (by decide +kernel) (Nat.le_of_ble_eq_true rfl) (fun g hl hκ X hf => ?_)
  subst hl; subst hκ
  exact gX7_lettersOf X  hf h
set_option maxRecDepth 20000 in
theorem gX7_letterOf {g : GX} {T : TT}   {a0 : Int64} {a2 : Int32} {res : Int32} (X : CX g RX7 cX7_letterOf 4 1 25)  (hf : FinI g cX7_letterOf .int (T) (res)) (h : sX7_letterOf a0 a2 = some res) : G g 0 0 (T) 0 [(0, .long a0), (2, .int a2)] [] := by
  unfold sX7_letterOf at h
  refine G_lload_n X 0 dX7_letterOf_0 rfl rfl ?_
  obtain ⟨q1, hq1, h⟩ := bd_some h
  refine G_callS X (As := [.long a0]) (rest := []) (T' := T) (st2 := [.int q1]) (ct_X7_lettersOf (l := g.2.1) (κ := gκ g)   hq1) cal_X7_lettersOf wM_X7_360 wT_X7_lettersOf (by decide) rfl rfl (Nat.le_of_ble_eq_true rfl) ⟨Nat.zero_le _, Nat.zero_le _⟩ dX7_letterOf_1 rfl ?_
  refine G_istore_n X (lv' := [(3, .int q1), (0, .long a0), (2, .int a2)]) dX7_letterOf_4 rfl (by decide) rfl ?_
  refine G_iload_n X 2 dX7_letterOf_5 rfl rfl ?_
  refine G_i2l X dX7_letterOf_6 ?_
  refine G_lconst X (v := (0 : Int64)) dX7_letterOf_7 (by decide) ?_
  refine G_iload_n X 0 dX7_letterOf_8 rfl rfl ?_
  refine G_iconst X (v := (1 : Int32)) dX7_letterOf_9 (by decide) ?_
  refine G_isub X dX7_letterOf_10 ?_
  refine G_i2l X dX7_letterOf_11 ?_
  obtain ⟨q2, hq2, h⟩ := bd_some h
  refine G_callS X (As := [.long a2.toInt64, .long ((0 : Int64)), .long ((q1 - ((1 : Int32))).toInt64)]) (rest := []) (T' := T) (st2 := [.int q2]) (ct_X7_isIn (l := g.2.1) (κ := gκ g)   hq2) cal_X7_isIn wM_X7_84 wT_X7_isIn (by decide) rfl rfl (Nat.le_of_ble_eq_true rfl) ⟨Nat.zero_le _, Nat.zero_le _⟩ dX7_letterOf_12 rfl ?_
  refine G_if_eq X (tgt := 38) dX7_letterOf_15 (by decide) (fun c3 => ?_) (fun c3 => ?_)
  · have h := it_t c3 h
    refine G_iconst X (v := (0 : Int32)) dX7_letterOf_38 (by decide) ?_
    obtain rfl := Option.some.inj h
    exact hf _ _ dX7_letterOf_39 rfl
  · have h := it_f c3 h
    refine G_lload_n X 1 dX7_letterOf_18 rfl rfl ?_
    refine G_iconst X (v := (5 : Int32)) dX7_letterOf_19 (by decide) ?_
    refine G_iload_n X 0 dX7_letterOf_20 rfl rfl ?_
    refine G_iconst X (v := (1 : Int32)) dX7_letterOf_21 (by decide) ?_
    refine G_isub X dX7_letterOf_22 ?_
    refine G_iload_n X 2 dX7_letterOf_23 rfl rfl ?_
    refine G_isub X dX7_letterOf_24 ?_
    refine G_imul X dX7_letterOf_25 ?_
    refine G_lshr X dX7_letterOf_26 ?_
    refine G_ldc2_w X (v := (31 : Int64)) dX7_letterOf_27 wK_X7_364 ?_
    refine G_land X dX7_letterOf_30 ?_
    refine G_l2i X dX7_letterOf_31 ?_
    refine G_bipush X (v := (96 : Int32)) dX7_letterOf_32 (by decide) ?_
    refine G_iadd X dX7_letterOf_34 ?_
    refine G_goto X (tgt := 39) dX7_letterOf_35 (by decide) ?_
    obtain rfl := Option.some.inj h
    exact hf _ _ dX7_letterOf_39 rfl
set_option maxRecDepth 20000 in
theorem ct_X7_letterOf {l : Launch} {κ : KX} {T : TT}   {a0 : Int64} {a2 : Int32} {res : Int32}  (h : sX7_letterOf a0 a2 = some res) : Ct l κ yX7_letterOf cX7_letterOf 4 (some .int) 1 25 [.long a0, .int a2] (T) (T) (some (.int (res))) := by
  refine Ct_i RX7 rfl (by decide +kernel) (Nat.le_of_ble_eq_true rfl) (fun g hl hκ X hf => ?_)
  subst hl; subst hκ
  exact gX7_letterOf X  hf h
set_option maxRecDepth 20000 in
theorem gX7_letter {g : GX} {T : TT}  {m : St} {a1 : Int32} {a2 : Int32} {res : St × Int32} (X : CX g RX7 cX7_letter 3 2 48)  (hf : FinI g cX7_letter .int (rs T 9 res.1) (res.2)) (h : sX7_letter m a1 a2 = some res) : G g 0 0 (rs T 9 m) 0 [(0, .ref (xE (gκ g) 9 0 0)), (1, .int a1), (2, .int a2)] [] := by
  unfold sX7_letter at h
  refine G_aload_n X 0 dX7_letter_0 rfl rfl ?_
  refine G_aload_n X 0 dX7_letter_1 rfl rfl ?_
  refine G_iload_n X 1 dX7_letter_2 rfl rfl ?_
  obtain ⟨q1, hq1, h⟩ := bd_some h
  refine G_callV X (As := [.int a1]) (rest := [.ref (xE (gκ g) 9 0 0)]) (T' := rs T 9 m) (st2 := [.int q1, .ref (xE (gκ g) 9 0 0)]) (ct_X7_isBeacon (l := g.2.1) (κ := gκ g)   hq1) cal_X7_isBeacon wM_X7_341 wI_X7_isBeacon wS_X7_isBeacon rfl rfl (by decide) rfl rfl (Nat.le_of_ble_eq_true rfl) ⟨Nat.zero_le _, Nat.zero_le _⟩ dX7_letter_3 rfl ?_
  obtain ⟨q2, hq2, h⟩ := bd_some h
  refine G_callV X (As := [.int q1]) (rest := []) (T' := rs T 9 q2.1) (st2 := [.int q2.2]) (ct_X7_goes (l := g.2.1) (κ := gκ g)   hq2) cal_X7_goes wM_X7_76 wI_X7_goes wS_X7_goes rfl rfl (by decide) rfl rfl (Nat.le_of_ble_eq_true rfl) ⟨Nat.zero_le _, Nat.zero_le _⟩ dX7_letter_6 rfl ?_
  refine G_if_eq X (tgt := 25) dX7_letter_9 (by decide) (fun c3 => ?_) (fun c3 => ?_)
  · have h := it_t c3 h
    refine G_iconst X (v := (0 : Int32)) dX7_letter_25 (by decide) ?_
    obtain rfl := Option.some.inj h
    exact hf _ _ dX7_letter_26 rfl
  · have h := it_f c3 h
    refine G_aload_n X 0 dX7_letter_12 rfl rfl ?_
    refine f_X7_35 X rfl rfl dX7_letter_13 ?_
    refine G_iload_n X 1 dX7_letter_16 rfl rfl ?_
    obtain ⟨g4, h⟩ := gd_some h
    refine G_lald X rfl (rg_rs _ _ _) g4 dX7_letter_17 ?_
    refine G_iload_n X 2 dX7_letter_18 rfl rfl ?_
    obtain ⟨q5, hq5, h⟩ := bd_some h
    refine G_callS X (As := [.long (gL q2.1 0 7 (ix a1)), .int a2]) (rest := []) (T' := rs T 9 q2.1) (st2 := [.int q5]) (ct_X7_letterOf (l := g.2.1) (κ := gκ g)   hq5) cal_X7_letterOf wM_X7_366 wT_X7_letterOf (by decide) rfl rfl (Nat.le_of_ble_eq_true rfl) ⟨Nat.zero_le _, Nat.zero_le _⟩ dX7_letter_19 rfl ?_
    refine G_goto X (tgt := 26) dX7_letter_22 (by decide) ?_
    obtain rfl := Option.some.inj h
    exact hf _ _ dX7_letter_26 rfl
set_option maxRecDepth 20000 in
theorem ct_X7_letter {l : Launch} {κ : KX} {T : TT}  {m : St} {a1 : Int32} {a2 : Int32} {res : St × Int32}  (h : sX7_letter m a1 a2 = some res) : Ct l κ yX7_letter cX7_letter 3 (some .int) 2 48 [.ref (xE κ 9 0 0), .int a1, .int a2] (rs T 9 m) (rs T 9 res.1) (some (.int (res.2))) := by
  refine Ct_i RX7 rfl (by decide +kernel) (Nat.le_of_ble_eq_true rfl) (fun g hl hκ X hf => ?_)
  subst hl; subst hκ
  exact gX7_letter X  hf h
set_option maxRecDepth 20000 in
theorem gX7_heard {g : GX} {T : TT}  {m : St} {a1 : Int32} {a2 : Int32} {res : St × Int32} (X : CX g RX7 cX7_heard 3 3 68)  (hf : FinI g cX7_heard .int (rs T 9 res.1) (res.2)) (h : sX7_heard m a1 a2 = some res) : G g 0 0 (rs T 9 m) 0 [(0, .ref (xE (gκ g) 9 0 0)), (1, .int a1), (2, .int a2)] [] := by
  unfold sX7_heard at h
  refine G_aload_n X 0 dX7_heard_0 rfl rfl ?_
  refine G_aload_n X 0 dX7_heard_1 rfl rfl ?_
  refine G_iload_n X 1 dX7_heard_2 rfl rfl ?_
  refine G_iload_n X 2 dX7_heard_3 rfl rfl ?_
  obtain ⟨q1, hq1, h⟩ := bd_some h
  refine G_callV X (As := [.int a1, .int a2]) (rest := [.ref (xE (gκ g) 9 0 0)]) (T' := rs T 9 m) (st2 := [.int q1, .ref (xE (gκ g) 9 0 0)]) (ct_X7_areBeacons (l := g.2.1) (κ := gκ g)   hq1) cal_X7_areBeacons wM_X7_370 wI_X7_areBeacons wS_X7_areBeacons rfl rfl (by decide) rfl rfl (Nat.le_of_ble_eq_true rfl) ⟨Nat.zero_le _, Nat.zero_le _⟩ dX7_heard_4 rfl ?_
  obtain ⟨q2, hq2, h⟩ := bd_some h
  refine G_callV X (As := [.int q1]) (rest := []) (T' := rs T 9 q2.1) (st2 := [.int q2.2]) (ct_X7_goes (l := g.2.1) (κ := gκ g)   hq2) cal_X7_goes wM_X7_76 wI_X7_goes wS_X7_goes rfl rfl (by decide) rfl rfl (Nat.le_of_ble_eq_true rfl) ⟨Nat.zero_le _, Nat.zero_le _⟩ dX7_heard_7 rfl ?_
  refine G_if_eq X (tgt := 25) dX7_heard_10 (by decide) (fun c3 => ?_) (fun c3 => ?_)
  · have h := it_t c3 h
    refine G_iconst X (v := (0 : Int32)) dX7_heard_25 (by decide) ?_
    obtain rfl := Option.some.inj h
    exact hf _ _ dX7_heard_26 rfl
  · have h := it_f c3 h
    refine G_aload_n X 0 dX7_heard_13 rfl rfl ?_
    refine G_iload_n X 1 dX7_heard_14 rfl rfl ?_
    refine G_bipush X (v := (19 : Int32)) dX7_heard_15 (by decide) ?_
    refine G_iload_n X 2 dX7_heard_17 rfl rfl ?_
    refine G_iadd X dX7_heard_18 ?_
    obtain ⟨q4, hq4, h⟩ := bd_some h
    refine G_callV X (As := [.int a1, .int (((19 : Int32)) + a2)]) (rest := []) (T' := rs T 9 q2.1) (st2 := [.int q4]) (ct_X7_of (l := g.2.1) (κ := gκ g)   hq4) cal_X7_of wM_X7_251 wI_X7_of wS_X7_of rfl rfl (by decide) rfl rfl (Nat.le_of_ble_eq_true rfl) ⟨Nat.zero_le _, Nat.zero_le _⟩ dX7_heard_19 rfl ?_
    refine G_goto X (tgt := 26) dX7_heard_22 (by decide) ?_
    obtain rfl := Option.some.inj h
    exact hf _ _ dX7_heard_26 rfl
set_option maxRecDepth 20000 in
theorem ct_X7_heard {l : Launch} {κ : KX} {T : TT}  {m : St} {a1 : Int32} {a2 : Int32} {res : St × Int32}  (h : sX7_heard m a1 a2 = some res) : Ct l κ yX7_heard cX7_heard 3 (some .int) 3 68 [.ref (xE κ 9 0 0), .int a1, .int a2] (rs T 9 m) (rs T 9 res.1) (some (.int (res.2))) := by
  refine Ct_i RX7 rfl (by decide +kernel) (Nat.le_of_ble_eq_true rfl) (fun g hl hκ X hf => ?_)
  subst hl; subst hκ
  exact gX7_heard X  hf h
set_option maxRecDepth 20000 in
theorem gX7_knows {g : GX} {T : TT}  {m : St} {a1 : Int32} {a2 : Int32} {res : St × Int32} (X : CX g RX7 cX7_knows 3 3 68)  (hf : FinI g cX7_knows .boolean (rs T 9 res.1) (res.2)) (h : sX7_knows m a1 a2 = some res) : G g 0 0 (rs T 9 m) 0 [(0, .ref (xE (gκ g) 9 0 0)), (1, .int a1), (2, .int a2)] [] := by
  unfold sX7_knows at h
  refine G_aload_n X 0 dX7_knows_0 rfl rfl ?_
  refine G_aload_n X 0 dX7_knows_1 rfl rfl ?_
  refine G_iload_n X 1 dX7_knows_2 rfl rfl ?_
  refine G_iload_n X 2 dX7_knows_3 rfl rfl ?_
  obtain ⟨q1, hq1, h⟩ := bd_some h
  refine G_callV X (As := [.int a1, .int a2]) (rest := [.ref (xE (gκ g) 9 0 0)]) (T' := rs T 9 m) (st2 := [.int q1, .ref (xE (gκ g) 9 0 0)]) (ct_X7_areBeacons (l := g.2.1) (κ := gκ g)   hq1) cal_X7_areBeacons wM_X7_370 wI_X7_areBeacons wS_X7_areBeacons rfl rfl (by decide) rfl rfl (Nat.le_of_ble_eq_true rfl) ⟨Nat.zero_le _, Nat.zero_le _⟩ dX7_knows_4 rfl ?_
  obtain ⟨q2, hq2, h⟩ := bd_some h
  refine G_callV X (As := [.int q1]) (rest := []) (T' := rs T 9 q2.1) (st2 := [.int q2.2]) (ct_X7_goes (l := g.2.1) (κ := gκ g)   hq2) cal_X7_goes wM_X7_76 wI_X7_goes wS_X7_goes rfl rfl (by decide) rfl rfl (Nat.le_of_ble_eq_true rfl) ⟨Nat.zero_le _, Nat.zero_le _⟩ dX7_knows_7 rfl ?_
  refine G_if_eq X (tgt := 26) dX7_knows_10 (by decide) (fun c3 => ?_) (fun c3 => ?_)
  · have h := it_t c3 h
    refine G_iconst X (v := (0 : Int32)) dX7_knows_26 (by decide) ?_
    obtain rfl := Option.some.inj h
    exact hf _ _ dX7_knows_27 (isb_n (v := (0 : Int32)) rfl)
  · have h := it_f c3 h
    refine G_aload_n X 0 dX7_knows_13 rfl rfl ?_
    refine G_iload_n X 1 dX7_knows_14 rfl rfl ?_
    refine G_iload_n X 2 dX7_knows_15 rfl rfl ?_
    obtain ⟨q4, hq4, h⟩ := bd_some h
    refine G_callV X (As := [.int a1, .int a2]) (rest := []) (T' := rs T 9 q2.1) (st2 := [.int q4]) (ct_X7_isKnown (l := g.2.1) (κ := gκ g)   hq4) cal_X7_isKnown wM_X7_254 wI_X7_isKnown wS_X7_isKnown rfl rfl (by decide) rfl rfl (Nat.le_of_ble_eq_true rfl) ⟨Nat.zero_le _, Nat.zero_le _⟩ dX7_knows_16 rfl ?_
    refine G_if_eq X (tgt := 26) dX7_knows_19 (by decide) (fun c5 => ?_) (fun c5 => ?_)
    · have h := it_t c5 h
      refine G_iconst X (v := (0 : Int32)) dX7_knows_26 (by decide) ?_
      obtain rfl := Option.some.inj h
      exact hf _ _ dX7_knows_27 (isb_n (v := (0 : Int32)) rfl)
    · have h := it_f c5 h
      refine G_iconst X (v := (1 : Int32)) dX7_knows_22 (by decide) ?_
      refine G_goto X (tgt := 27) dX7_knows_23 (by decide) ?_
      obtain rfl := Option.some.inj h
      exact hf _ _ dX7_knows_27 (isb_n (v := (1 : Int32)) rfl)
set_option maxRecDepth 20000 in
theorem ct_X7_knows {l : Launch} {κ : KX} {T : TT}  {m : St} {a1 : Int32} {a2 : Int32} {res : St × Int32}  (h : sX7_knows m a1 a2 = some res) : Ct l κ yX7_knows cX7_knows 3 (some .boolean) 3 68 [.ref (xE κ 9 0 0), .int a1, .int a2] (rs T 9 m) (rs T 9 res.1) (some (.int (res.2))) := by
  refine Ct_i RX7 rfl (by decide +kernel) (Nat.le_of_ble_eq_true rfl) (fun g hl hκ X hf => ?_)
  subst hl; subst hκ
  exact gX7_knows X  hf h
set_option maxRecDepth 20000 in
theorem gX7_why_b64 {g : GX} {T : TT}  {m : St} {a1 : Int32} {res : St × Int32}  (X : CX g RX7 cX7_why 2 4 87)  (hf : FinI g cX7_why .int (rs T 9 res.1) (res.2))   (h : sX7_why_b64  m a1 = some res) : G g 0 0 (rs T 9 m) 64 [(0, .ref (xE (gκ g) 9 0 0)), (1, .int a1)] [] := by
  unfold sX7_why_b64 at h
  refine G_aload_n X 0 dX7_why_64 rfl rfl ?_
  refine f_X7_20 X rfl rfl dX7_why_65 ?_
  refine G_bipush X (v := (13 : Int32)) dX7_why_68 (by decide) ?_
  refine G_iload_n X 1 dX7_why_70 rfl rfl ?_
  refine G_iadd X dX7_why_71 ?_
  obtain ⟨g10, h⟩ := gd_some h
  refine G_iald X rfl (rg_rs _ _ _) g10 dX7_why_72 ?_
  refine G_aload_n X 0 dX7_why_73 rfl rfl ?_
  obtain ⟨q11, hq11, h⟩ := bd_some h
  refine G_callV X (As := []) (rest := [.int (gI m 0 2 (ix (((13 : Int32)) + a1)))]) (T' := rs T 9 m) (st2 := [.int q11, .int (gI m 0 2 (ix (((13 : Int32)) + a1)))]) (ct_X7_senders (l := g.2.1) (κ := gκ g)   hq11) cal_X7_senders wM_X7_325 wI_X7_senders wS_X7_senders rfl rfl (by decide) rfl rfl (Nat.le_of_ble_eq_true rfl) ⟨Nat.zero_le _, Nat.zero_le _⟩ dX7_why_74 rfl ?_
  refine G_iand X dX7_why_77 ?_
  refine G_if_eq X (tgt := 85) dX7_why_78 (by decide) (fun c12 => ?_) (fun c12 => ?_)
  · have h := it_t c12 h
    refine G_iconst X (v := (5 : Int32)) dX7_why_85 (by decide) ?_
    obtain rfl := Option.some.inj h
    exact hf _ _ dX7_why_86 rfl
  · have h := it_f c12 h
    refine G_iconst X (v := (4 : Int32)) dX7_why_81 (by decide) ?_
    refine G_goto X (tgt := 86) dX7_why_82 (by decide) ?_
    obtain rfl := Option.some.inj h
    exact hf _ _ dX7_why_86 rfl
set_option maxRecDepth 20000 in
theorem gX7_why {g : GX} {T : TT}  {m : St} {a1 : Int32} {res : St × Int32} (X : CX g RX7 cX7_why 2 4 87)  (hf : FinI g cX7_why .int (rs T 9 res.1) (res.2)) (h : sX7_why m a1 = some res) : G g 0 0 (rs T 9 m) 0 [(0, .ref (xE (gκ g) 9 0 0)), (1, .int a1)] [] := by
  unfold sX7_why at h
  refine G_aload_n X 0 dX7_why_0 rfl rfl ?_
  refine G_aload_n X 0 dX7_why_1 rfl rfl ?_
  refine G_iload_n X 1 dX7_why_2 rfl rfl ?_
  obtain ⟨q1, hq1, h⟩ := bd_some h
  refine G_callV X (As := [.int a1]) (rest := [.ref (xE (gκ g) 9 0 0)]) (T' := rs T 9 m) (st2 := [.int q1, .ref (xE (gκ g) 9 0 0)]) (ct_X7_isBeacon (l := g.2.1) (κ := gκ g)   hq1) cal_X7_isBeacon wM_X7_341 wI_X7_isBeacon wS_X7_isBeacon rfl rfl (by decide) rfl rfl (Nat.le_of_ble_eq_true rfl) ⟨Nat.zero_le _, Nat.zero_le _⟩ dX7_why_3 rfl ?_
  obtain ⟨q2, hq2, h⟩ := bd_some h
  refine G_callV X (As := [.int q1]) (rest := []) (T' := rs T 9 q2.1) (st2 := [.int q2.2]) (ct_X7_goes (l := g.2.1) (κ := gκ g)   hq2) cal_X7_goes wM_X7_76 wI_X7_goes wS_X7_goes rfl rfl (by decide) rfl rfl (Nat.le_of_ble_eq_true rfl) ⟨Nat.zero_le _, Nat.zero_le _⟩ dX7_why_6 rfl ?_
  refine G_if_ne X (tgt := 14) dX7_why_9 (by decide) (fun c3 => ?_) (fun c3 => ?_)
  · have h := it_t c3 h
    refine G_aload_n X 0 dX7_why_14 rfl rfl ?_
    refine G_iload_n X 1 dX7_why_15 rfl rfl ?_
    refine G_iconst X (v := (5 : Int32)) dX7_why_16 (by decide) ?_
    obtain ⟨q4, hq4, h⟩ := bd_some h
    refine G_callV X (As := [.int a1, .int ((5 : Int32))]) (rest := []) (T' := rs T 9 q2.1) (st2 := [.int q4]) (ct_X7_of (l := g.2.1) (κ := gκ g)   hq4) cal_X7_of wM_X7_251 wI_X7_of wS_X7_of rfl rfl (by decide) rfl rfl (Nat.le_of_ble_eq_true rfl) ⟨Nat.zero_le _, Nat.zero_le _⟩ dX7_why_17 rfl ?_
    by_cases c5 : q4 = (0 : Int32)
    · have h := it_t c5 h
      rw [c5]
      refine G_tabIn X (off := 40) (tgt := 60) dX7_why_20 (by decide) (by decide) (by decide) (by decide) ?_
      refine G_iconst X (v := (2 : Int32)) dX7_why_60 (by decide) ?_
      obtain rfl := Option.some.inj h
      exact hf _ _ dX7_why_61 rfl
    have h := it_f c5 h
    by_cases c6 : q4 = (1 : Int32)
    · have h := it_t c6 h
      rw [c6]
      refine G_tabIn X (off := 42) (tgt := 62) dX7_why_20 (by decide) (by decide) (by decide) (by decide) ?_
      refine G_iconst X (v := (3 : Int32)) dX7_why_62 (by decide) ?_
      obtain rfl := Option.some.inj h
      exact hf _ _ dX7_why_63 rfl
    have h := it_f c6 h
    by_cases c7 : q4 = (2 : Int32)
    · have h := it_t c7 h
      rw [c7]
      refine G_tabIn X (off := 44) (tgt := 64) dX7_why_20 (by decide) (by decide) (by decide) (by decide) ?_
      exact gX7_why_b64 X hf h
    have h := it_f c7 h
    by_cases c8 : q4 = (3 : Int32)
    · have h := it_t c8 h
      rw [c8]
      refine G_tabIn X (off := 36) (tgt := 56) dX7_why_20 (by decide) (by decide) (by decide) (by decide) ?_
      refine G_iconst X (v := (0 : Int32)) dX7_why_56 (by decide) ?_
      obtain rfl := Option.some.inj h
      exact hf _ _ dX7_why_57 rfl
    have h := it_f c8 h
    by_cases c9 : q4 = (4 : Int32)
    · have h := it_t c9 h
      rw [c9]
      refine G_tabIn X (off := 38) (tgt := 58) dX7_why_20 (by decide) (by decide) (by decide) (by decide) ?_
      refine G_iconst X (v := (1 : Int32)) dX7_why_58 (by decide) ?_
      obtain rfl := Option.some.inj h
      exact hf _ _ dX7_why_59 rfl
    have h := it_f c9 h
    refine G_tabOut X (tgt := 64) dX7_why_20 (sw_out 0 4 [(0 : Int32), (1 : Int32), (2 : Int32), (3 : Int32), (4 : Int32)] (by decide) (by simp [c5, c6, c7, c8, c9])) (by decide) ?_
    exact gX7_why_b64 X hf h
  · have h := it_f (fun k => k c3) h
    refine G_iconst X (v := (0 : Int32)) dX7_why_12 (by decide) ?_
    obtain rfl := Option.some.inj h
    exact hf _ _ dX7_why_13 rfl
set_option maxRecDepth 20000 in
theorem ct_X7_why {l : Launch} {κ : KX} {T : TT}  {m : St} {a1 : Int32} {res : St × Int32}  (h : sX7_why m a1 = some res) : Ct l κ yX7_why cX7_why 2 (some .int) 4 87 [.ref (xE κ 9 0 0), .int a1] (rs T 9 m) (rs T 9 res.1) (some (.int (res.2))) := by
  refine Ct_i RX7 rfl (by decide +kernel) (Nat.le_of_ble_eq_true rfl) (fun g hl hκ X hf => ?_)
  subst hl; subst hκ
  exact gX7_why X  hf h
set_option maxRecDepth 20000 in
theorem gX7_whyNot {g : GX} {T : TT}  {m : St} {a1 : Int32} {a2 : Int32} {res : St × Int32} (X : CX g RX7 cX7_whyNot 3 3 68)  (hf : FinI g cX7_whyNot .int (rs T 9 res.1) (res.2)) (h : sX7_whyNot m a1 a2 = some res) : G g 0 0 (rs T 9 m) 0 [(0, .ref (xE (gκ g) 9 0 0)), (1, .int a1), (2, .int a2)] [] := by
  unfold sX7_whyNot at h
  refine G_aload_n X 0 dX7_whyNot_0 rfl rfl ?_
  refine G_aload_n X 0 dX7_whyNot_1 rfl rfl ?_
  refine G_iload_n X 1 dX7_whyNot_2 rfl rfl ?_
  refine G_iload_n X 2 dX7_whyNot_3 rfl rfl ?_
  obtain ⟨q1, hq1, h⟩ := bd_some h
  refine G_callV X (As := [.int a1, .int a2]) (rest := [.ref (xE (gκ g) 9 0 0)]) (T' := rs T 9 m) (st2 := [.int q1, .ref (xE (gκ g) 9 0 0)]) (ct_X7_areBeacons (l := g.2.1) (κ := gκ g)   hq1) cal_X7_areBeacons wM_X7_370 wI_X7_areBeacons wS_X7_areBeacons rfl rfl (by decide) rfl rfl (Nat.le_of_ble_eq_true rfl) ⟨Nat.zero_le _, Nat.zero_le _⟩ dX7_whyNot_4 rfl ?_
  obtain ⟨q2, hq2, h⟩ := bd_some h
  refine G_callV X (As := [.int q1]) (rest := []) (T' := rs T 9 q2.1) (st2 := [.int q2.2]) (ct_X7_goes (l := g.2.1) (κ := gκ g)   hq2) cal_X7_goes wM_X7_76 wI_X7_goes wS_X7_goes rfl rfl (by decide) rfl rfl (Nat.le_of_ble_eq_true rfl) ⟨Nat.zero_le _, Nat.zero_le _⟩ dX7_whyNot_7 rfl ?_
  refine G_if_eq X (tgt := 25) dX7_whyNot_10 (by decide) (fun c3 => ?_) (fun c3 => ?_)
  · have h := it_t c3 h
    refine G_iconst X (v := (0 : Int32)) dX7_whyNot_25 (by decide) ?_
    obtain rfl := Option.some.inj h
    exact hf _ _ dX7_whyNot_26 rfl
  · have h := it_f c3 h
    refine G_aload_n X 0 dX7_whyNot_13 rfl rfl ?_
    refine G_iload_n X 1 dX7_whyNot_14 rfl rfl ?_
    refine G_bipush X (v := (35 : Int32)) dX7_whyNot_15 (by decide) ?_
    refine G_iload_n X 2 dX7_whyNot_17 rfl rfl ?_
    refine G_iadd X dX7_whyNot_18 ?_
    obtain ⟨q4, hq4, h⟩ := bd_some h
    refine G_callV X (As := [.int a1, .int (((35 : Int32)) + a2)]) (rest := []) (T' := rs T 9 q2.1) (st2 := [.int q4]) (ct_X7_of (l := g.2.1) (κ := gκ g)   hq4) cal_X7_of wM_X7_251 wI_X7_of wS_X7_of rfl rfl (by decide) rfl rfl (Nat.le_of_ble_eq_true rfl) ⟨Nat.zero_le _, Nat.zero_le _⟩ dX7_whyNot_19 rfl ?_
    refine G_goto X (tgt := 26) dX7_whyNot_22 (by decide) ?_
    obtain rfl := Option.some.inj h
    exact hf _ _ dX7_whyNot_26 rfl
set_option maxRecDepth 20000 in
theorem ct_X7_whyNot {l : Launch} {κ : KX} {T : TT}  {m : St} {a1 : Int32} {a2 : Int32} {res : St × Int32}  (h : sX7_whyNot m a1 a2 = some res) : Ct l κ yX7_whyNot cX7_whyNot 3 (some .int) 3 68 [.ref (xE κ 9 0 0), .int a1, .int a2] (rs T 9 m) (rs T 9 res.1) (some (.int (res.2))) := by
  refine Ct_i RX7 rfl (by decide +kernel) (Nat.le_of_ble_eq_true rfl) (fun g hl hκ X hf => ?_)
  subst hl; subst hκ
  exact gX7_whyNot X  hf h
set_option maxRecDepth 20000 in
theorem gX7_dueFor_b2 {g : GX} {T : TT}  {m : St} {res : Int32}  (X : CX g RX7 cX7_dueFor 3 3 66)  (hf : FinI g cX7_dueFor .int (rs T 9 m) (res))  : ∀ (n : Nat) (a1 : Int32) (a2 : Int32) (h : sX7_dueFor_b2 n  m a1 a2 = some res), G g 0 0 (rs T 9 m) 2 [(0, .ref (xE (gκ g) 9 0 0)), (1, .int a1), (2, .int a2)] [] := by
  intro n
  induction n with
  | zero => intro a1 a2 h; unfold sX7_dueFor_b2 at h; cases h
  | succ n ih =>
    intro a1 a2 h
    unfold sX7_dueFor_b2 at h
    refine G_aload_n X 0 dX7_dueFor_2 rfl rfl ?_
    refine G_iload_n X 1 dX7_dueFor_3 rfl rfl ?_
    refine G_aload_n X 0 dX7_dueFor_4 rfl rfl ?_
    refine f_X7_20 X rfl rfl dX7_dueFor_5 ?_
    refine G_iconst X (v := (1 : Int32)) dX7_dueFor_8 (by decide) ?_
    obtain ⟨g1, h⟩ := gd_some h
    refine G_iald X rfl (rg_rs _ _ _) g1 dX7_dueFor_9 ?_
    refine G_iload_n X 2 dX7_dueFor_10 rfl rfl ?_
    refine G_iadd X dX7_dueFor_11 ?_
    obtain ⟨q2, hq2, h⟩ := bd_some h
    refine G_callV X (As := [.int a1, .int ((gI m 0 2 (ix ((1 : Int32)))) + a2)]) (rest := []) (T' := rs T 9 m) (st2 := [.int q2]) (ct_X7_isDueAt (l := g.2.1) (κ := gκ g)   hq2) cal_X7_isDueAt wM_X7_276 wI_X7_isDueAt wS_X7_isDueAt rfl rfl (by decide) rfl rfl (Nat.le_of_ble_eq_true rfl) ⟨Nat.zero_le _, Nat.zero_le _⟩ dX7_dueFor_12 rfl ?_
    refine G_if_ne X (tgt := 24) dX7_dueFor_15 (by decide) (fun c3 => ?_) (fun c3 => ?_)
    · have h := it_t c3 h
      refine G_iload_n X 2 dX7_dueFor_24 rfl rfl ?_
      obtain rfl := Option.some.inj h
      exact hf _ _ dX7_dueFor_25 rfl
    · have h := it_f (fun k => k c3) h
      obtain ⟨v4, ev4, h⟩ := nm_some h
      refine G_iinc X (v := v4) (lv' := [(2, .int v4), (0, .ref (xE (gκ g) 9 0 0)), (1, .int a1)]) 2 dX7_dueFor_18 rfl (by rw [ev4]; rfl) (by decide) rfl ?_
      refine G_goto X (tgt := 2) dX7_dueFor_21 (by decide) ?_
      refine G_sub [1, 2, 0] rfl ?_
      exact ih _ _ h
set_option maxRecDepth 20000 in
theorem gX7_dueFor {g : GX} {T : TT}  {m : St} {a1 : Int32} {res : Int32} (X : CX g RX7 cX7_dueFor 3 3 66)  (hf : FinI g cX7_dueFor .int (rs T 9 m) (res)) (h : sX7_dueFor m a1 = some res) : G g 0 0 (rs T 9 m) 0 [(0, .ref (xE (gκ g) 9 0 0)), (1, .int a1)] [] := by
  unfold sX7_dueFor at h
  refine G_iconst X (v := (1 : Int32)) dX7_dueFor_0 (by decide) ?_
  refine G_istore_n X (lv' := [(2, .int ((1 : Int32))), (0, .ref (xE (gκ g) 9 0 0)), (1, .int a1)]) dX7_dueFor_1 rfl (by decide) rfl ?_
  refine G_sub [1, 2, 0] rfl ?_
  exact gX7_dueFor_b2 X hf FU _ _ h
set_option maxRecDepth 20000 in
theorem ct_X7_dueFor {l : Launch} {κ : KX} {T : TT}  {m : St} {a1 : Int32} {res : Int32}  (h : sX7_dueFor m a1 = some res) : Ct l κ yX7_dueFor cX7_dueFor 3 (some .int) 3 66 [.ref (xE κ 9 0 0), .int a1] (rs T 9 m) (rs T 9 m) (some (.int (res))) := by
  refine Ct_i RX7 rfl (by decide +kernel) (Nat.le_of_ble_eq_true rfl) (fun g hl hκ X hf => ?_)
  subst hl; subst hκ
  exact gX7_dueFor X  hf h
set_option maxRecDepth 20000 in
theorem gX7_dueIn {g : GX} {T : TT}  {m : St} {a1 : Int32} {res : St × Int32} (X : CX g RX7 cX7_dueIn 2 4 88)  (hf : FinI g cX7_dueIn .int (rs T 9 res.1) (res.2)) (h : sX7_dueIn m a1 = some res) : G g 0 0 (rs T 9 m) 0 [(0, .ref (xE (gκ g) 9 0 0)), (1, .int a1)] [] := by
  unfold sX7_dueIn at h
  refine G_aload_n X 0 dX7_dueIn_0 rfl rfl ?_
  refine G_aload_n X 0 dX7_dueIn_1 rfl rfl ?_
  refine G_iload_n X 1 dX7_dueIn_2 rfl rfl ?_
  obtain ⟨q1, hq1, h⟩ := bd_some h
  refine G_callV X (As := [.int a1]) (rest := [.ref (xE (gκ g) 9 0 0)]) (T' := rs T 9 m) (st2 := [.int q1, .ref (xE (gκ g) 9 0 0)]) (ct_X7_isBeacon (l := g.2.1) (κ := gκ g)   hq1) cal_X7_isBeacon wM_X7_341 wI_X7_isBeacon wS_X7_isBeacon rfl rfl (by decide) rfl rfl (Nat.le_of_ble_eq_true rfl) ⟨Nat.zero_le _, Nat.zero_le _⟩ dX7_dueIn_3 rfl ?_
  obtain ⟨q2, hq2, h⟩ := bd_some h
  refine G_callV X (As := [.int q1]) (rest := []) (T' := rs T 9 q2.1) (st2 := [.int q2.2]) (ct_X7_goes (l := g.2.1) (κ := gκ g)   hq2) cal_X7_goes wM_X7_76 wI_X7_goes wS_X7_goes rfl rfl (by decide) rfl rfl (Nat.le_of_ble_eq_true rfl) ⟨Nat.zero_le _, Nat.zero_le _⟩ dX7_dueIn_6 rfl ?_
  refine G_if_eq X (tgt := 20) dX7_dueIn_9 (by decide) (fun c3 => ?_) (fun c3 => ?_)
  · have h := it_t c3 h
    refine G_iconst X (v := (0 : Int32)) dX7_dueIn_20 (by decide) ?_
    obtain rfl := Option.some.inj h
    exact hf _ _ dX7_dueIn_21 rfl
  · have h := it_f c3 h
    refine G_aload_n X 0 dX7_dueIn_12 rfl rfl ?_
    refine G_iload_n X 1 dX7_dueIn_13 rfl rfl ?_
    obtain ⟨q4, hq4, h⟩ := bd_some h
    refine G_callV X (As := [.int a1]) (rest := []) (T' := rs T 9 q2.1) (st2 := [.int q4]) (ct_X7_dueFor (l := g.2.1) (κ := gκ g)   hq4) cal_X7_dueFor wM_X7_373 wI_X7_dueFor wS_X7_dueFor rfl rfl (by decide) rfl rfl (Nat.le_of_ble_eq_true rfl) ⟨Nat.zero_le _, Nat.zero_le _⟩ dX7_dueIn_14 rfl ?_
    refine G_goto X (tgt := 21) dX7_dueIn_17 (by decide) ?_
    obtain rfl := Option.some.inj h
    exact hf _ _ dX7_dueIn_21 rfl
set_option maxRecDepth 20000 in
theorem ct_X7_dueIn {l : Launch} {κ : KX} {T : TT}  {m : St} {a1 : Int32} {res : St × Int32}  (h : sX7_dueIn m a1 = some res) : Ct l κ yX7_dueIn cX7_dueIn 2 (some .int) 4 88 [.ref (xE κ 9 0 0), .int a1] (rs T 9 m) (rs T 9 res.1) (some (.int (res.2))) := by
  refine Ct_i RX7 rfl (by decide +kernel) (Nat.le_of_ble_eq_true rfl) (fun g hl hκ X hf => ?_)
  subst hl; subst hκ
  exact gX7_dueIn X  hf h
set_option maxRecDepth 20000 in
theorem gX7_hidden_b72 {g : GX} {T : TT}  {m : St} {a1 : Int32} {a3 : Int32} {a4 : Int32} {s0 : Int32} {s1 : Int32} {res : St × Int32} {k18 : St → Int32 → Int32 → Int32 → Option (St × Int32)} {k31 : St → Int32 → Int32 → Int32 → Int32 → Option (St × Int32)} (X : CX g RX7 cX7_hidden 5 2 46)  (hf : FinI g cX7_hidden .int (rs T 9 res.1) (res.2)) (hk18 : ∀ (m' : St) (a1' : Int32) (a2' : Int32) (a3' : Int32), k18 m' a1' a2' a3' = some res → G g 0 0 (rs T 9 m') 18 [(0, .ref (xE (gκ g) 9 0 0)), (1, .int a1'), (2, .int a2'), (3, .int a3')] []) (hk31 : ∀ (m' : St) (a1' : Int32) (a2' : Int32) (a3' : Int32) (a4' : Int32), k31 m' a1' a2' a3' a4' = some res → G g 0 0 (rs T 9 m') 31 [(0, .ref (xE (gκ g) 9 0 0)), (1, .int a1'), (2, .int a2'), (3, .int a3'), (4, .int a4')] [])  (h : sX7_hidden_b72 k18 k31 m a1 a3 a4 s0 s1 = some res) : G g 0 0 (rs T 9 m) 72 [(0, .ref (xE (gκ g) 9 0 0)), (1, .int a1), (3, .int a3), (4, .int a4)] [.int s0, .int s1] := by
  unfold sX7_hidden_b72 at h
  obtain ⟨q14, hq14, h⟩ := bd_some h
  refine G_callS X (As := [.int s0]) (rest := [.int s1]) (T' := rs T 9 m) (st2 := [.int q14, .int s1]) (ct_X7_truth (l := g.2.1) (κ := gκ g)   hq14) cal_X7_truth wM_X7_69 wT_X7_truth (by decide) rfl rfl (Nat.le_of_ble_eq_true rfl) ⟨Nat.zero_le _, Nat.zero_le _⟩ dX7_hidden_72 rfl ?_
  refine G_iadd X dX7_hidden_75 ?_
  refine G_istore_n X (lv' := [(2, .int (s1 + q14)), (0, .ref (xE (gκ g) 9 0 0)), (1, .int a1), (3, .int a3), (4, .int a4)]) dX7_hidden_76 rfl (by decide) rfl ?_
  obtain ⟨v15, ev15, h⟩ := nm_some h
  refine G_iinc X (v := v15) (lv' := [(4, .int v15), (2, .int (s1 + q14)), (0, .ref (xE (gκ g) 9 0 0)), (1, .int a1), (3, .int a3)]) 4 dX7_hidden_77 rfl (by rw [ev15]; rfl) (by decide) rfl ?_
  refine G_goto X (tgt := 31) dX7_hidden_80 (by decide) ?_
  refine G_sub [2, 3, 1, 4, 0] rfl ?_
  exact hk31 _ _ _ _ _ h
set_option maxRecDepth 20000 in
theorem gX7_hidden_b31 {g : GX} {T : TT}   {res : St × Int32} {k18 : St → Int32 → Int32 → Int32 → Option (St × Int32)} (X : CX g RX7 cX7_hidden 5 2 46)  (hf : FinI g cX7_hidden .int (rs T 9 res.1) (res.2)) (hk18 : ∀ (m' : St) (a1' : Int32) (a2' : Int32) (a3' : Int32), k18 m' a1' a2' a3' = some res → G g 0 0 (rs T 9 m') 18 [(0, .ref (xE (gκ g) 9 0 0)), (1, .int a1'), (2, .int a2'), (3, .int a3')] []) : ∀ (n : Nat) (m : St) (a1 : Int32) (a2 : Int32) (a3 : Int32) (a4 : Int32) (h : sX7_hidden_b31 n k18 m a1 a2 a3 a4 = some res), G g 0 0 (rs T 9 m) 31 [(0, .ref (xE (gκ g) 9 0 0)), (1, .int a1), (2, .int a2), (3, .int a3), (4, .int a4)] [] := by
  intro n
  induction n with
  | zero => intro m a1 a2 a3 a4 h; unfold sX7_hidden_b31 at h; cases h
  | succ n ih =>
    intro m a1 a2 a3 a4 h
    unfold sX7_hidden_b31 at h
    refine G_iload X 4 dX7_hidden_31 rfl ?_
    refine G_iload_n X 3 dX7_hidden_33 rfl rfl ?_
    refine G_icmp_ge X (tgt := 83) dX7_hidden_34 (by decide) (fun c6 => ?_) (fun c6 => ?_)
    · have h := it_t c6 h
      obtain ⟨v7, ev7, h⟩ := nm_some h
      refine G_iinc X (v := v7) (lv' := [(3, .int v7), (0, .ref (xE (gκ g) 9 0 0)), (1, .int a1), (2, .int a2), (4, .int a4)]) 3 dX7_hidden_83 rfl (by rw [ev7]; rfl) (by decide) rfl ?_
      refine G_goto X (tgt := 18) dX7_hidden_86 (by decide) ?_
      refine G_sub [1, 2, 3, 0] rfl ?_
      exact hk18 _ _ _ _ h
    · have h := it_f c6 h
      refine G_iload_n X 2 dX7_hidden_37 rfl rfl ?_
      refine G_aload_n X 0 dX7_hidden_38 rfl rfl ?_
      refine G_iload_n X 1 dX7_hidden_39 rfl rfl ?_
      refine G_iload X 4 dX7_hidden_40 rfl ?_
      obtain ⟨q8, hq8, h⟩ := bd_some h
      refine G_callV X (As := [.int a1, .int a4]) (rest := [.int a2]) (T' := rs T 9 m) (st2 := [.int q8, .int a2]) (ct_X7_areNear (l := g.2.1) (κ := gκ g)   hq8) cal_X7_areNear wM_X7_208 wI_X7_areNear wS_X7_areNear rfl rfl (by decide) rfl rfl (Nat.le_of_ble_eq_true rfl) ⟨Nat.zero_le _, Nat.zero_le _⟩ dX7_hidden_42 rfl ?_
      refine G_if_eq X (tgt := 71) dX7_hidden_45 (by decide) (fun c9 => ?_) (fun c9 => ?_)
      · have h := it_t c9 h
        refine G_iconst X (v := (0 : Int32)) dX7_hidden_71 (by decide) ?_
        refine G_sub [0, 1, 3, 4] rfl ?_
        exact gX7_hidden_b72 X hf hk18 (fun _ _ _ _ _ h => ih _ _ _ _ _ h) h
      · have h := it_f c9 h
        refine G_aload_n X 0 dX7_hidden_48 rfl rfl ?_
        refine G_iload_n X 1 dX7_hidden_49 rfl rfl ?_
        refine G_iload_n X 3 dX7_hidden_50 rfl rfl ?_
        obtain ⟨q10, hq10, h⟩ := bd_some h
        refine G_callV X (As := [.int a1, .int a3]) (rest := [.int a2]) (T' := rs T 9 m) (st2 := [.int q10, .int a2]) (ct_X7_areNear (l := g.2.1) (κ := gκ g)   hq10) cal_X7_areNear wM_X7_208 wI_X7_areNear wS_X7_areNear rfl rfl (by decide) rfl rfl (Nat.le_of_ble_eq_true rfl) ⟨Nat.zero_le _, Nat.zero_le _⟩ dX7_hidden_51 rfl ?_
        refine G_if_eq X (tgt := 71) dX7_hidden_54 (by decide) (fun c11 => ?_) (fun c11 => ?_)
        · have h := it_t c11 h
          refine G_iconst X (v := (0 : Int32)) dX7_hidden_71 (by decide) ?_
          refine G_sub [0, 1, 3, 4] rfl ?_
          exact gX7_hidden_b72 X hf hk18 (fun _ _ _ _ _ h => ih _ _ _ _ _ h) h
        · have h := it_f c11 h
          refine G_aload_n X 0 dX7_hidden_57 rfl rfl ?_
          refine G_iload X 4 dX7_hidden_58 rfl ?_
          refine G_iload_n X 3 dX7_hidden_60 rfl rfl ?_
          obtain ⟨q12, hq12, h⟩ := bd_some h
          refine G_callV X (As := [.int a4, .int a3]) (rest := [.int a2]) (T' := rs T 9 m) (st2 := [.int q12, .int a2]) (ct_X7_areNear (l := g.2.1) (κ := gκ g)   hq12) cal_X7_areNear wM_X7_208 wI_X7_areNear wS_X7_areNear rfl rfl (by decide) rfl rfl (Nat.le_of_ble_eq_true rfl) ⟨Nat.zero_le _, Nat.zero_le _⟩ dX7_hidden_61 rfl ?_
          refine G_if_ne X (tgt := 71) dX7_hidden_64 (by decide) (fun c13 => ?_) (fun c13 => ?_)
          · have h := it_t c13 h
            refine G_iconst X (v := (0 : Int32)) dX7_hidden_71 (by decide) ?_
            refine G_sub [0, 1, 3, 4] rfl ?_
            exact gX7_hidden_b72 X hf hk18 (fun _ _ _ _ _ h => ih _ _ _ _ _ h) h
          · have h := it_f (fun k => k c13) h
            refine G_iconst X (v := (1 : Int32)) dX7_hidden_67 (by decide) ?_
            refine G_goto X (tgt := 72) dX7_hidden_68 (by decide) ?_
            refine G_sub [0, 1, 3, 4] rfl ?_
            exact gX7_hidden_b72 X hf hk18 (fun _ _ _ _ _ h => ih _ _ _ _ _ h) h
set_option maxRecDepth 20000 in
theorem gX7_hidden_b18 {g : GX} {T : TT}   {res : St × Int32}  (X : CX g RX7 cX7_hidden 5 2 46)  (hf : FinI g cX7_hidden .int (rs T 9 res.1) (res.2))  : ∀ (n : Nat) (m : St) (a1 : Int32) (a2 : Int32) (a3 : Int32) (h : sX7_hidden_b18 n  m a1 a2 a3 = some res), G g 0 0 (rs T 9 m) 18 [(0, .ref (xE (gκ g) 9 0 0)), (1, .int a1), (2, .int a2), (3, .int a3)] [] := by
  intro n
  induction n with
  | zero => intro m a1 a2 a3 h; unfold sX7_hidden_b18 at h; cases h
  | succ n ih =>
    intro m a1 a2 a3 h
    unfold sX7_hidden_b18 at h
    refine G_iload_n X 3 dX7_hidden_18 rfl rfl ?_
    refine G_aload_n X 0 dX7_hidden_19 rfl rfl ?_
    refine f_X7_20 X rfl rfl dX7_hidden_20 ?_
    refine G_iconst X (v := (0 : Int32)) dX7_hidden_23 (by decide) ?_
    obtain ⟨g4, h⟩ := gd_some h
    refine G_iald X rfl (rg_rs _ _ _) g4 dX7_hidden_24 ?_
    refine G_icmp_ge X (tgt := 89) dX7_hidden_25 (by decide) (fun c5 => ?_) (fun c5 => ?_)
    · have h := it_t c5 h
      refine G_iload_n X 2 dX7_hidden_89 rfl rfl ?_
      obtain rfl := Option.some.inj h
      exact hf _ _ dX7_hidden_90 rfl
    · have h := it_f c5 h
      refine G_iconst X (v := (0 : Int32)) dX7_hidden_28 (by decide) ?_
      refine G_istore X (lv' := [(4, .int ((0 : Int32))), (0, .ref (xE (gκ g) 9 0 0)), (1, .int a1), (2, .int a2), (3, .int a3)]) dX7_hidden_29 (by decide) rfl ?_
      refine G_sub [1, 2, 3, 4, 0] rfl ?_
      exact gX7_hidden_b31 X hf (fun _ _ _ _ h => ih _ _ _ _ h) FU _ _ _ _ _ h
set_option maxRecDepth 20000 in
theorem gX7_hidden {g : GX} {T : TT}  {m : St} {a1 : Int32} {res : St × Int32} (X : CX g RX7 cX7_hidden 5 2 46)  (hf : FinI g cX7_hidden .int (rs T 9 res.1) (res.2)) (h : sX7_hidden m a1 = some res) : G g 0 0 (rs T 9 m) 0 [(0, .ref (xE (gκ g) 9 0 0)), (1, .int a1)] [] := by
  unfold sX7_hidden at h
  refine G_aload_n X 0 dX7_hidden_0 rfl rfl ?_
  refine G_aload_n X 0 dX7_hidden_1 rfl rfl ?_
  refine G_iload_n X 1 dX7_hidden_2 rfl rfl ?_
  obtain ⟨q1, hq1, h⟩ := bd_some h
  refine G_callV X (As := [.int a1]) (rest := [.ref (xE (gκ g) 9 0 0)]) (T' := rs T 9 m) (st2 := [.int q1, .ref (xE (gκ g) 9 0 0)]) (ct_X7_isBeacon (l := g.2.1) (κ := gκ g)   hq1) cal_X7_isBeacon wM_X7_341 wI_X7_isBeacon wS_X7_isBeacon rfl rfl (by decide) rfl rfl (Nat.le_of_ble_eq_true rfl) ⟨Nat.zero_le _, Nat.zero_le _⟩ dX7_hidden_3 rfl ?_
  obtain ⟨q2, hq2, h⟩ := bd_some h
  refine G_callV X (As := [.int q1]) (rest := []) (T' := rs T 9 q2.1) (st2 := [.int q2.2]) (ct_X7_goes (l := g.2.1) (κ := gκ g)   hq2) cal_X7_goes wM_X7_76 wI_X7_goes wS_X7_goes rfl rfl (by decide) rfl rfl (Nat.le_of_ble_eq_true rfl) ⟨Nat.zero_le _, Nat.zero_le _⟩ dX7_hidden_6 rfl ?_
  refine G_if_ne X (tgt := 14) dX7_hidden_9 (by decide) (fun c3 => ?_) (fun c3 => ?_)
  · have h := it_t c3 h
    refine G_iconst X (v := (0 : Int32)) dX7_hidden_14 (by decide) ?_
    refine G_istore_n X (lv' := [(2, .int ((0 : Int32))), (0, .ref (xE (gκ g) 9 0 0)), (1, .int a1)]) dX7_hidden_15 rfl (by decide) rfl ?_
    refine G_iconst X (v := (0 : Int32)) dX7_hidden_16 (by decide) ?_
    refine G_istore_n X (lv' := [(3, .int ((0 : Int32))), (2, .int ((0 : Int32))), (0, .ref (xE (gκ g) 9 0 0)), (1, .int a1)]) dX7_hidden_17 rfl (by decide) rfl ?_
    refine G_sub [2, 3, 1, 0] rfl ?_
    exact gX7_hidden_b18 X hf FU _ _ _ _ h
  · have h := it_f (fun k => k c3) h
    refine G_iconst X (v := (0 : Int32)) dX7_hidden_12 (by decide) ?_
    obtain rfl := Option.some.inj h
    exact hf _ _ dX7_hidden_13 rfl
set_option maxRecDepth 20000 in
theorem ct_X7_hidden {l : Launch} {κ : KX} {T : TT}  {m : St} {a1 : Int32} {res : St × Int32}  (h : sX7_hidden m a1 = some res) : Ct l κ yX7_hidden cX7_hidden 5 (some .int) 2 46 [.ref (xE κ 9 0 0), .int a1] (rs T 9 m) (rs T 9 res.1) (some (.int (res.2))) := by
  refine Ct_i RX7 rfl (by decide +kernel) (Nat.le_of_ble_eq_true rfl) (fun g hl hκ X hf => ?_)
  subst hl; subst hκ
  exact gX7_hidden X  hf h
set_option maxRecDepth 20000 in
theorem gX7_spread_b4 {g : GX} {T : TT}  {m : St} {res : Int32}  (X : CX g RX7 cX7_spread 4 1 21)  (hf : FinI g cX7_spread .int (rs T 9 m) (res))  : ∀ (n : Nat) (a1 : Int32) (a2 : Int32) (a3 : Int32) (h : sX7_spread_b4 n  m a1 a2 a3 = some res), G g 0 0 (rs T 9 m) 4 [(0, .ref (xE (gκ g) 9 0 0)), (1, .int a1), (2, .int a2), (3, .int a3)] [] := by
  intro n
  induction n with
  | zero => intro a1 a2 a3 h; unfold sX7_spread_b4 at h; cases h
  | succ n ih =>
    intro a1 a2 a3 h
    unfold sX7_spread_b4 at h
    refine G_iload_n X 3 dX7_spread_4 rfl rfl ?_
    refine G_aload_n X 0 dX7_spread_5 rfl rfl ?_
    refine f_X7_20 X rfl rfl dX7_spread_6 ?_
    refine G_iconst X (v := (0 : Int32)) dX7_spread_9 (by decide) ?_
    obtain ⟨g1, h⟩ := gd_some h
    refine G_iald X rfl (rg_rs _ _ _) g1 dX7_spread_10 ?_
    refine G_icmp_ge X (tgt := 40) dX7_spread_11 (by decide) (fun c2 => ?_) (fun c2 => ?_)
    · have h := it_t c2 h
      refine G_iload_n X 2 dX7_spread_40 rfl rfl ?_
      obtain rfl := Option.some.inj h
      exact hf _ _ dX7_spread_41 rfl
    · have h := it_f c2 h
      refine G_iload_n X 1 dX7_spread_14 rfl rfl ?_
      refine G_iload_n X 3 dX7_spread_15 rfl rfl ?_
      obtain ⟨q3, hq3, h⟩ := bd_some h
      refine G_callS X (As := [.int a1, .int a3]) (rest := []) (T' := rs T 9 m) (st2 := [.int q3]) (ct_X7_has (l := g.2.1) (κ := gκ g)   hq3) cal_X7_has wM_X7_180 wT_X7_has (by decide) rfl rfl (Nat.le_of_ble_eq_true rfl) ⟨Nat.zero_le _, Nat.zero_le _⟩ dX7_spread_16 rfl ?_
      refine G_if_eq X (tgt := 34) dX7_spread_19 (by decide) (fun c4 => ?_) (fun c4 => ?_)
      · have h := it_t c4 h
        obtain ⟨v5, ev5, h⟩ := nm_some h
        refine G_iinc X (v := v5) (lv' := [(3, .int v5), (0, .ref (xE (gκ g) 9 0 0)), (1, .int a1), (2, .int a2)]) 3 dX7_spread_34 rfl (by rw [ev5]; rfl) (by decide) rfl ?_
        refine G_goto X (tgt := 4) dX7_spread_37 (by decide) ?_
        refine G_sub [1, 2, 3, 0] rfl ?_
        exact ih _ _ _ h
      · have h := it_f c4 h
        refine G_iload_n X 2 dX7_spread_22 rfl rfl ?_
        refine G_aload_n X 0 dX7_spread_23 rfl rfl ?_
        refine f_X7_20 X rfl rfl dX7_spread_24 ?_
        refine G_bipush X (v := (13 : Int32)) dX7_spread_27 (by decide) ?_
        refine G_iload_n X 3 dX7_spread_29 rfl rfl ?_
        refine G_iadd X dX7_spread_30 ?_
        obtain ⟨g6, h⟩ := gd_some h
        refine G_iald X rfl (rg_rs _ _ _) g6 dX7_spread_31 ?_
        refine G_ior X dX7_spread_32 ?_
        obtain ⟨v7, ev7, h⟩ := nm_some h
        refine G_nmi ev7 ?_
        refine G_istore_n X (lv' := [(2, .int v7), (0, .ref (xE (gκ g) 9 0 0)), (1, .int a1), (3, .int a3)]) dX7_spread_33 rfl (by decide) rfl ?_
        obtain ⟨v8, ev8, h⟩ := nm_some h
        refine G_iinc X (v := v8) (lv' := [(3, .int v8), (2, .int v7), (0, .ref (xE (gκ g) 9 0 0)), (1, .int a1)]) 3 dX7_spread_34 rfl (by rw [ev8]; rfl) (by decide) rfl ?_
        refine G_goto X (tgt := 4) dX7_spread_37 (by decide) ?_
        refine G_sub [2, 3, 1, 0] rfl ?_
        exact ih _ _ _ h
set_option maxRecDepth 20000 in
theorem gX7_spread {g : GX} {T : TT}  {m : St} {a1 : Int32} {res : Int32} (X : CX g RX7 cX7_spread 4 1 21)  (hf : FinI g cX7_spread .int (rs T 9 m) (res)) (h : sX7_spread m a1 = some res) : G g 0 0 (rs T 9 m) 0 [(0, .ref (xE (gκ g) 9 0 0)), (1, .int a1)] [] := by
  unfold sX7_spread at h
  refine G_iload_n X 1 dX7_spread_0 rfl rfl ?_
  refine G_istore_n X (lv' := [(2, .int a1), (0, .ref (xE (gκ g) 9 0 0)), (1, .int a1)]) dX7_spread_1 rfl (by decide) rfl ?_
  refine G_iconst X (v := (0 : Int32)) dX7_spread_2 (by decide) ?_
  refine G_istore_n X (lv' := [(3, .int ((0 : Int32))), (2, .int a1), (0, .ref (xE (gκ g) 9 0 0)), (1, .int a1)]) dX7_spread_3 rfl (by decide) rfl ?_
  refine G_sub [2, 3, 1, 0] rfl ?_
  exact gX7_spread_b4 X hf FU _ _ _ h
set_option maxRecDepth 20000 in
theorem ct_X7_spread {l : Launch} {κ : KX} {T : TT}  {m : St} {a1 : Int32} {res : Int32}  (h : sX7_spread m a1 = some res) : Ct l κ yX7_spread cX7_spread 4 (some .int) 1 21 [.ref (xE κ 9 0 0), .int a1] (rs T 9 m) (rs T 9 m) (some (.int (res))) := by
  refine Ct_i RX7 rfl (by decide +kernel) (Nat.le_of_ble_eq_true rfl) (fun g hl hκ X hf => ?_)
  subst hl; subst hκ
  exact gX7_spread X  hf h
set_option maxRecDepth 20000 in
theorem gX7_hops_b22 {g : GX} {T : TT}   {res : St × Int32}  (X : CX g RX7 cX7_hops 5 3 68)  (hf : FinI g cX7_hops .int (rs T 9 res.1) (res.2))  : ∀ (n : Nat) (m : St) (a2 : Int32) (a3 : Int32) (a4 : Int32) (h : sX7_hops_b22 n  m a2 a3 a4 = some res), G g 0 0 (rs T 9 m) 22 [(0, .ref (xE (gκ g) 9 0 0)), (2, .int a2), (3, .int a3), (4, .int a4)] [] := by
  intro n
  induction n with
  | zero => intro m a2 a3 a4 h; unfold sX7_hops_b22 at h; cases h
  | succ n ih =>
    intro m a2 a3 a4 h
    unfold sX7_hops_b22 at h
    refine G_iload X 3 dX7_hops_22 rfl ?_
    refine G_bipush X (v := (8 : Int32)) dX7_hops_24 (by decide) ?_
    refine G_icmp_ge X (tgt := 52) dX7_hops_26 (by decide) (fun c5 => ?_) (fun c5 => ?_)
    · have h := it_t c5 h
      refine G_iconst X (v := (-1 : Int32)) dX7_hops_52 (by decide) ?_
      obtain rfl := Option.some.inj h
      exact hf _ _ dX7_hops_53 rfl
    · have h := it_f c5 h
      refine G_iload_n X 2 dX7_hops_29 rfl rfl ?_
      refine G_iload_n X 1 dX7_hops_30 rfl rfl ?_
      obtain ⟨q6, hq6, h⟩ := bd_some h
      refine G_callS X (As := [.int a3, .int a2]) (rest := []) (T' := rs T 9 m) (st2 := [.int q6]) (ct_X7_has (l := g.2.1) (κ := gκ g)   hq6) cal_X7_has wM_X7_180 wT_X7_has (by decide) rfl rfl (Nat.le_of_ble_eq_true rfl) ⟨Nat.zero_le _, Nat.zero_le _⟩ dX7_hops_31 rfl ?_
      refine G_if_eq X (tgt := 40) dX7_hops_34 (by decide) (fun c7 => ?_) (fun c7 => ?_)
      · have h := it_t c7 h
        refine G_aload_n X 0 dX7_hops_40 rfl rfl ?_
        refine G_iload_n X 2 dX7_hops_41 rfl rfl ?_
        obtain ⟨q8, hq8, h⟩ := bd_some h
        refine G_callV X (As := [.int a3]) (rest := []) (T' := rs T 9 m) (st2 := [.int q8]) (ct_X7_spread (l := g.2.1) (κ := gκ g)   hq8) cal_X7_spread wM_X7_376 wI_X7_spread wS_X7_spread rfl rfl (by decide) rfl rfl (Nat.le_of_ble_eq_true rfl) ⟨Nat.zero_le _, Nat.zero_le _⟩ dX7_hops_42 rfl ?_
        refine G_istore_n X (lv' := [(3, .int q8), (0, .ref (xE (gκ g) 9 0 0)), (2, .int a2), (4, .int a4)]) dX7_hops_45 rfl (by decide) rfl ?_
        obtain ⟨v9, ev9, h⟩ := nm_some h
        refine G_iinc X (v := v9) (lv' := [(4, .int v9), (3, .int q8), (0, .ref (xE (gκ g) 9 0 0)), (2, .int a2)]) 3 dX7_hops_46 rfl (by rw [ev9]; rfl) (by decide) rfl ?_
        refine G_goto X (tgt := 22) dX7_hops_49 (by decide) ?_
        refine G_sub [2, 3, 1, 0] rfl ?_
        exact ih _ _ _ _ h
      · have h := it_f c7 h
        refine G_iload X 3 dX7_hops_37 rfl ?_
        obtain rfl := Option.some.inj h
        exact hf _ _ dX7_hops_39 rfl
set_option maxRecDepth 20000 in
theorem gX7_hops {g : GX} {T : TT}  {m : St} {a1 : Int32} {a2 : Int32} {res : St × Int32} (X : CX g RX7 cX7_hops 5 3 68)  (hf : FinI g cX7_hops .int (rs T 9 res.1) (res.2)) (h : sX7_hops m a1 a2 = some res) : G g 0 0 (rs T 9 m) 0 [(0, .ref (xE (gκ g) 9 0 0)), (1, .int a1), (2, .int a2)] [] := by
  unfold sX7_hops at h
  refine G_aload_n X 0 dX7_hops_0 rfl rfl ?_
  refine G_aload_n X 0 dX7_hops_1 rfl rfl ?_
  refine G_iload_n X 1 dX7_hops_2 rfl rfl ?_
  refine G_iload_n X 2 dX7_hops_3 rfl rfl ?_
  obtain ⟨q1, hq1, h⟩ := bd_some h
  refine G_callV X (As := [.int a1, .int a2]) (rest := [.ref (xE (gκ g) 9 0 0)]) (T' := rs T 9 m) (st2 := [.int q1, .ref (xE (gκ g) 9 0 0)]) (ct_X7_areBeacons (l := g.2.1) (κ := gκ g)   hq1) cal_X7_areBeacons wM_X7_370 wI_X7_areBeacons wS_X7_areBeacons rfl rfl (by decide) rfl rfl (Nat.le_of_ble_eq_true rfl) ⟨Nat.zero_le _, Nat.zero_le _⟩ dX7_hops_4 rfl ?_
  obtain ⟨q2, hq2, h⟩ := bd_some h
  refine G_callV X (As := [.int q1]) (rest := []) (T' := rs T 9 q2.1) (st2 := [.int q2.2]) (ct_X7_goes (l := g.2.1) (κ := gκ g)   hq2) cal_X7_goes wM_X7_76 wI_X7_goes wS_X7_goes rfl rfl (by decide) rfl rfl (Nat.le_of_ble_eq_true rfl) ⟨Nat.zero_le _, Nat.zero_le _⟩ dX7_hops_7 rfl ?_
  refine G_if_ne X (tgt := 15) dX7_hops_10 (by decide) (fun c3 => ?_) (fun c3 => ?_)
  · have h := it_t c3 h
    refine G_iconst X (v := (1 : Int32)) dX7_hops_15 (by decide) ?_
    refine G_iload_n X 1 dX7_hops_16 rfl rfl ?_
    refine G_ishl X dX7_hops_17 ?_
    obtain ⟨v4, ev4, h⟩ := nm_some h
    refine G_nmi ev4 ?_
    refine G_istore_n X (lv' := [(3, .int v4), (0, .ref (xE (gκ g) 9 0 0)), (1, .int a1), (2, .int a2)]) dX7_hops_18 rfl (by decide) rfl ?_
    refine G_iconst X (v := (0 : Int32)) dX7_hops_19 (by decide) ?_
    refine G_istore X (lv' := [(4, .int ((0 : Int32))), (3, .int v4), (0, .ref (xE (gκ g) 9 0 0)), (1, .int a1), (2, .int a2)]) dX7_hops_20 (by decide) rfl ?_
    refine G_sub [2, 4, 1, 0] rfl ?_
    exact gX7_hops_b22 X hf FU _ _ _ _ h
  · have h := it_f (fun k => k c3) h
    refine G_iconst X (v := (0 : Int32)) dX7_hops_13 (by decide) ?_
    obtain rfl := Option.some.inj h
    exact hf _ _ dX7_hops_14 rfl
set_option maxRecDepth 20000 in
theorem ct_X7_hops {l : Launch} {κ : KX} {T : TT}  {m : St} {a1 : Int32} {a2 : Int32} {res : St × Int32}  (h : sX7_hops m a1 a2 = some res) : Ct l κ yX7_hops cX7_hops 5 (some .int) 3 68 [.ref (xE κ 9 0 0), .int a1, .int a2] (rs T 9 m) (rs T 9 res.1) (some (.int (res.2))) := by
  refine Ct_i RX7 rfl (by decide +kernel) (Nat.le_of_ble_eq_true rfl) (fun g hl hκ X hf => ?_)
  subst hl; subst hκ
  exact gX7_hops X  hf h
set_option maxRecDepth 20000 in
theorem gX7_groupOf_b6 {g : GX} {T : TT}  {m : St} {res : Int32}  (X : CX g RX7 cX7_groupOf 4 2 44)  (hf : FinI g cX7_groupOf .int (rs T 9 m) (res))  : ∀ (n : Nat) (a2 : Int32) (a3 : Int32) (h : sX7_groupOf_b6 n  m a2 a3 = some res), G g 0 0 (rs T 9 m) 6 [(0, .ref (xE (gκ g) 9 0 0)), (2, .int a2), (3, .int a3)] [] := by
  intro n
  induction n with
  | zero => intro a2 a3 h; unfold sX7_groupOf_b6 at h; cases h
  | succ n ih =>
    intro a2 a3 h
    unfold sX7_groupOf_b6 at h
    refine G_iload_n X 2 dX7_groupOf_6 rfl rfl ?_
    refine G_bipush X (v := (8 : Int32)) dX7_groupOf_7 (by decide) ?_
    refine G_icmp_ge X (tgt := 24) dX7_groupOf_9 (by decide) (fun c2 => ?_) (fun c2 => ?_)
    · have h := it_t c2 h
      refine G_iload_n X 1 dX7_groupOf_24 rfl rfl ?_
      obtain rfl := Option.some.inj h
      exact hf _ _ dX7_groupOf_25 rfl
    · have h := it_f c2 h
      refine G_aload_n X 0 dX7_groupOf_12 rfl rfl ?_
      refine G_iload_n X 1 dX7_groupOf_13 rfl rfl ?_
      obtain ⟨q3, hq3, h⟩ := bd_some h
      refine G_callV X (As := [.int a2]) (rest := []) (T' := rs T 9 m) (st2 := [.int q3]) (ct_X7_spread (l := g.2.1) (κ := gκ g)   hq3) cal_X7_spread wM_X7_376 wI_X7_spread wS_X7_spread rfl rfl (by decide) rfl rfl (Nat.le_of_ble_eq_true rfl) ⟨Nat.zero_le _, Nat.zero_le _⟩ dX7_groupOf_14 rfl ?_
      refine G_istore_n X (lv' := [(2, .int q3), (0, .ref (xE (gκ g) 9 0 0)), (3, .int a3)]) dX7_groupOf_17 rfl (by decide) rfl ?_
      obtain ⟨v4, ev4, h⟩ := nm_some h
      refine G_iinc X (v := v4) (lv' := [(3, .int v4), (2, .int q3), (0, .ref (xE (gκ g) 9 0 0))]) 2 dX7_groupOf_18 rfl (by rw [ev4]; rfl) (by decide) rfl ?_
      refine G_goto X (tgt := 6) dX7_groupOf_21 (by decide) ?_
      refine G_sub [2, 1, 0] rfl ?_
      exact ih _ _ h
set_option maxRecDepth 20000 in
theorem gX7_groupOf {g : GX} {T : TT}  {m : St} {a1 : Int32} {res : Int32} (X : CX g RX7 cX7_groupOf 4 2 44)  (hf : FinI g cX7_groupOf .int (rs T 9 m) (res)) (h : sX7_groupOf m a1 = some res) : G g 0 0 (rs T 9 m) 0 [(0, .ref (xE (gκ g) 9 0 0)), (1, .int a1)] [] := by
  unfold sX7_groupOf at h
  refine G_iconst X (v := (1 : Int32)) dX7_groupOf_0 (by decide) ?_
  refine G_iload_n X 1 dX7_groupOf_1 rfl rfl ?_
  refine G_ishl X dX7_groupOf_2 ?_
  obtain ⟨v1, ev1, h⟩ := nm_some h
  refine G_nmi ev1 ?_
  refine G_istore_n X (lv' := [(2, .int v1), (0, .ref (xE (gκ g) 9 0 0)), (1, .int a1)]) dX7_groupOf_3 rfl (by decide) rfl ?_
  refine G_iconst X (v := (0 : Int32)) dX7_groupOf_4 (by decide) ?_
  refine G_istore_n X (lv' := [(3, .int ((0 : Int32))), (2, .int v1), (0, .ref (xE (gκ g) 9 0 0)), (1, .int a1)]) dX7_groupOf_5 rfl (by decide) rfl ?_
  refine G_sub [2, 1, 0] rfl ?_
  exact gX7_groupOf_b6 X hf FU _ _ h
set_option maxRecDepth 20000 in
theorem ct_X7_groupOf {l : Launch} {κ : KX} {T : TT}  {m : St} {a1 : Int32} {res : Int32}  (h : sX7_groupOf m a1 = some res) : Ct l κ yX7_groupOf cX7_groupOf 4 (some .int) 2 44 [.ref (xE κ 9 0 0), .int a1] (rs T 9 m) (rs T 9 m) (some (.int (res))) := by
  refine Ct_i RX7 rfl (by decide +kernel) (Nat.le_of_ble_eq_true rfl) (fun g hl hκ X hf => ?_)
  subst hl; subst hκ
  exact gX7_groupOf X  hf h
set_option maxRecDepth 20000 in
theorem gX7_groups_b35 {g : GX} {T : TT}  {m : St} {a1 : Int32} {a3 : Int32} {s0 : Int32} {s1 : Int32} {res : St × Int32} {k11 : St → Int32 → Int32 → Int32 → Option (St × Int32)} (X : CX g RX7 cX7_groups 4 3 67)  (hf : FinI g cX7_groups .int (rs T 9 res.1) (res.2)) (hk11 : ∀ (m' : St) (a1' : Int32) (a2' : Int32) (a3' : Int32), k11 m' a1' a2' a3' = some res → G g 0 0 (rs T 9 m') 11 [(0, .ref (xE (gκ g) 9 0 0)), (1, .int a1'), (2, .int a2'), (3, .int a3')] [])  (h : sX7_groups_b35 k11 m a1 a3 s0 s1 = some res) : G g 0 0 (rs T 9 m) 35 [(0, .ref (xE (gκ g) 9 0 0)), (1, .int a1), (3, .int a3)] [.int s0, .int s1] := by
  unfold sX7_groups_b35 at h
  obtain ⟨q6, hq6, h⟩ := bd_some h
  refine G_callS X (As := [.int s0]) (rest := [.int s1]) (T' := rs T 9 m) (st2 := [.int q6, .int s1]) (ct_X7_truth (l := g.2.1) (κ := gκ g)   hq6) cal_X7_truth wM_X7_69 wT_X7_truth (by decide) rfl rfl (Nat.le_of_ble_eq_true rfl) ⟨Nat.zero_le _, Nat.zero_le _⟩ dX7_groups_35 rfl ?_
  refine G_iadd X dX7_groups_38 ?_
  refine G_istore_n X (lv' := [(2, .int (s1 + q6)), (0, .ref (xE (gκ g) 9 0 0)), (1, .int a1), (3, .int a3)]) dX7_groups_39 rfl (by decide) rfl ?_
  refine G_iload_n X 2 dX7_groups_40 rfl rfl ?_
  refine G_aload_n X 1 dX7_groups_41 rfl rfl ?_
  refine G_iload_n X 3 dX7_groups_42 rfl rfl ?_
  obtain ⟨q7, hq7, h⟩ := bd_some h
  refine G_callV X (As := [.int a3]) (rest := [.int a1]) (T' := rs T 9 m) (st2 := [.int q7, .int a1]) (ct_X7_groupOf (l := g.2.1) (κ := gκ g)   hq7) cal_X7_groupOf wM_X7_379 wI_X7_groupOf wS_X7_groupOf rfl rfl (by decide) rfl rfl (Nat.le_of_ble_eq_true rfl) ⟨Nat.zero_le _, Nat.zero_le _⟩ dX7_groups_43 rfl ?_
  refine G_ior X dX7_groups_46 ?_
  refine G_istore_n X (lv' := [(1, .int (a1 ||| q7)), (2, .int (s1 + q6)), (0, .ref (xE (gκ g) 9 0 0)), (3, .int a3)]) dX7_groups_47 rfl (by decide) rfl ?_
  obtain ⟨v8, ev8, h⟩ := nm_some h
  refine G_iinc X (v := v8) (lv' := [(3, .int v8), (1, .int (a1 ||| q7)), (2, .int (s1 + q6)), (0, .ref (xE (gκ g) 9 0 0))]) 3 dX7_groups_48 rfl (by rw [ev8]; rfl) (by decide) rfl ?_
  refine G_goto X (tgt := 11) dX7_groups_51 (by decide) ?_
  refine G_sub [3, 1, 2, 0] rfl ?_
  exact hk11 _ _ _ _ h
set_option maxRecDepth 20000 in
theorem gX7_groups_b11 {g : GX} {T : TT}   {res : St × Int32}  (X : CX g RX7 cX7_groups 4 3 67)  (hf : FinI g cX7_groups .int (rs T 9 res.1) (res.2))  : ∀ (n : Nat) (m : St) (a1 : Int32) (a2 : Int32) (a3 : Int32) (h : sX7_groups_b11 n  m a1 a2 a3 = some res), G g 0 0 (rs T 9 m) 11 [(0, .ref (xE (gκ g) 9 0 0)), (1, .int a1), (2, .int a2), (3, .int a3)] [] := by
  intro n
  induction n with
  | zero => intro m a1 a2 a3 h; unfold sX7_groups_b11 at h; cases h
  | succ n ih =>
    intro m a1 a2 a3 h
    unfold sX7_groups_b11 at h
    refine G_iload_n X 3 dX7_groups_11 rfl rfl ?_
    refine G_aload_n X 0 dX7_groups_12 rfl rfl ?_
    refine f_X7_20 X rfl rfl dX7_groups_13 ?_
    refine G_iconst X (v := (0 : Int32)) dX7_groups_16 (by decide) ?_
    obtain ⟨g2, h⟩ := gd_some h
    refine G_iald X rfl (rg_rs _ _ _) g2 dX7_groups_17 ?_
    refine G_icmp_ge X (tgt := 54) dX7_groups_18 (by decide) (fun c3 => ?_) (fun c3 => ?_)
    · have h := it_t c3 h
      refine G_iload_n X 2 dX7_groups_54 rfl rfl ?_
      obtain rfl := Option.some.inj h
      exact hf _ _ dX7_groups_55 rfl
    · have h := it_f c3 h
      refine G_iload_n X 2 dX7_groups_21 rfl rfl ?_
      refine G_iload_n X 1 dX7_groups_22 rfl rfl ?_
      refine G_iload_n X 3 dX7_groups_23 rfl rfl ?_
      obtain ⟨q4, hq4, h⟩ := bd_some h
      refine G_callS X (As := [.int a1, .int a3]) (rest := [.int a2]) (T' := rs T 9 m) (st2 := [.int q4, .int a2]) (ct_X7_has (l := g.2.1) (κ := gκ g)   hq4) cal_X7_has wM_X7_180 wT_X7_has (by decide) rfl rfl (Nat.le_of_ble_eq_true rfl) ⟨Nat.zero_le _, Nat.zero_le _⟩ dX7_groups_24 rfl ?_
      refine G_if_ne X (tgt := 34) dX7_groups_27 (by decide) (fun c5 => ?_) (fun c5 => ?_)
      · have h := it_t c5 h
        refine G_iconst X (v := (0 : Int32)) dX7_groups_34 (by decide) ?_
        refine G_sub [0, 1, 3] rfl ?_
        exact gX7_groups_b35 X hf (fun _ _ _ _ h => ih _ _ _ _ h) h
      · have h := it_f (fun k => k c5) h
        refine G_iconst X (v := (1 : Int32)) dX7_groups_30 (by decide) ?_
        refine G_goto X (tgt := 35) dX7_groups_31 (by decide) ?_
        refine G_sub [0, 1, 3] rfl ?_
        exact gX7_groups_b35 X hf (fun _ _ _ _ h => ih _ _ _ _ h) h
set_option maxRecDepth 20000 in
theorem gX7_groups {g : GX} {T : TT}  {m : St}  {res : St × Int32} (X : CX g RX7 cX7_groups 4 3 67)  (hf : FinI g cX7_groups .int (rs T 9 res.1) (res.2)) (h : sX7_groups m = some res) : G g 0 0 (rs T 9 m) 0 [(0, .ref (xE (gκ g) 9 0 0))] [] := by
  unfold sX7_groups at h
  refine G_aload_n X 0 dX7_groups_0 rfl rfl ?_
  refine G_iconst X (v := (0 : Int32)) dX7_groups_1 (by decide) ?_
  obtain ⟨x1, ex1, h⟩ := nm_some h
  refine p_X7_66 X (T' := rs T 9 x1) rfl (rg_rs _ _ _)  (by rw [rs_rs, ex1]) dX7_groups_2 ?_
  refine G_iconst X (v := (0 : Int32)) dX7_groups_5 (by decide) ?_
  refine G_istore_n X (lv' := [(1, .int ((0 : Int32))), (0, .ref (xE (gκ g) 9 0 0))]) dX7_groups_6 rfl (by decide) rfl ?_
  refine G_iconst X (v := (0 : Int32)) dX7_groups_7 (by decide) ?_
  refine G_istore_n X (lv' := [(2, .int ((0 : Int32))), (1, .int ((0 : Int32))), (0, .ref (xE (gκ g) 9 0 0))]) dX7_groups_8 rfl (by decide) rfl ?_
  refine G_iconst X (v := (0 : Int32)) dX7_groups_9 (by decide) ?_
  refine G_istore_n X (lv' := [(3, .int ((0 : Int32))), (2, .int ((0 : Int32))), (1, .int ((0 : Int32))), (0, .ref (xE (gκ g) 9 0 0))]) dX7_groups_10 rfl (by decide) rfl ?_
  refine G_sub [3, 2, 1, 0] rfl ?_
  exact gX7_groups_b11 X hf FU _ _ _ _ h
set_option maxRecDepth 20000 in
theorem ct_X7_groups {l : Launch} {κ : KX} {T : TT}  {m : St}  {res : St × Int32}  (h : sX7_groups m = some res) : Ct l κ yX7_groups cX7_groups 4 (some .int) 3 67 [.ref (xE κ 9 0 0)] (rs T 9 m) (rs T 9 res.1) (some (.int (res.2))) := by
  refine Ct_i RX7 rfl (by decide +kernel) (Nat.le_of_ble_eq_true rfl) (fun g hl hκ X hf => ?_)
  subst hl; subst hκ
  exact gX7_groups X  hf h
set_option maxRecDepth 20000 in
theorem gX7_ears_b71 {g : GX} {T : TT}  {m : St} {a1 : Int32} {a2 : Int32} {a3 : Int32} {a4 : Int32} {s0 : Int32} {res : St × Int32} {k30 : St → Int32 → Int32 → Int32 → Int32 → Option (St × Int32)} (X : CX g RX7 cX7_ears 6 4 87)  (hf : FinI g cX7_ears .int (rs T 9 res.1) (res.2)) (hk30 : ∀ (m' : St) (a1' : Int32) (a2' : Int32) (a3' : Int32) (a4' : Int32), k30 m' a1' a2' a3' a4' = some res → G g 0 0 (rs T 9 m') 30 [(0, .ref (xE (gκ g) 9 0 0)), (1, .int a1'), (2, .int a2'), (3, .int a3'), (4, .int a4')] [])  (h : sX7_ears_b71 k30 m a1 a2 a3 a4 s0 = some res) : G g 0 0 (rs T 9 m) 71 [(0, .ref (xE (gκ g) 9 0 0)), (1, .int a1), (2, .int a2), (3, .int a3), (4, .int a4)] [.int s0] := by
  unfold sX7_ears_b71 at h
  refine G_istore X (lv' := [(5, .int s0), (0, .ref (xE (gκ g) 9 0 0)), (1, .int a1), (2, .int a2), (3, .int a3), (4, .int a4)]) dX7_ears_71 (by decide) rfl ?_
  refine G_iload_n X 4 dX7_ears_73 rfl rfl ?_
  refine G_iload X 0 dX7_ears_74 rfl ?_
  refine G_if_eq X (tgt := 101) dX7_ears_76 (by decide) (fun c13 => ?_) (fun c13 => ?_)
  · have h := it_t c13 h
    refine G_iconst X (v := (0 : Int32)) dX7_ears_101 (by decide) ?_
    refine G_ior X dX7_ears_102 ?_
    refine G_istore_n X (lv' := [(3, .int (a3 ||| ((0 : Int32)))), (5, .int s0), (0, .ref (xE (gκ g) 9 0 0)), (1, .int a1), (2, .int a2), (4, .int a4)]) dX7_ears_103 rfl (by decide) rfl ?_
    obtain ⟨v14, ev14, h⟩ := nm_some h
    refine G_iinc X (v := v14) (lv' := [(4, .int v14), (3, .int (a3 ||| ((0 : Int32)))), (5, .int s0), (0, .ref (xE (gκ g) 9 0 0)), (1, .int a1), (2, .int a2)]) 5 dX7_ears_104 rfl (by rw [ev14]; rfl) (by decide) rfl ?_
    refine G_goto X (tgt := 30) dX7_ears_107 (by decide) ?_
    refine G_sub [3, 4, 5, 1, 0] rfl ?_
    exact hk30 _ _ _ _ _ h
  · have h := it_f c13 h
    refine G_aload_n X 1 dX7_ears_79 rfl rfl ?_
    refine f_X7_20 X rfl rfl dX7_ears_80 ?_
    refine G_bipush X (v := (13 : Int32)) dX7_ears_83 (by decide) ?_
    refine G_iload X 5 dX7_ears_85 rfl ?_
    refine G_iadd X dX7_ears_87 ?_
    obtain ⟨g15, h⟩ := gd_some h
    refine G_iald X rfl (rg_rs _ _ _) g15 dX7_ears_88 ?_
    refine G_iload_n X 3 dX7_ears_89 rfl rfl ?_
    refine G_iand X dX7_ears_90 ?_
    refine G_if_ne X (tgt := 101) dX7_ears_91 (by decide) (fun c16 => ?_) (fun c16 => ?_)
    · have h := it_t c16 h
      refine G_iconst X (v := (0 : Int32)) dX7_ears_101 (by decide) ?_
      refine G_ior X dX7_ears_102 ?_
      refine G_istore_n X (lv' := [(3, .int (a3 ||| ((0 : Int32)))), (5, .int s0), (0, .ref (xE (gκ g) 9 0 0)), (1, .int a1), (2, .int a2), (4, .int a4)]) dX7_ears_103 rfl (by decide) rfl ?_
      obtain ⟨v17, ev17, h⟩ := nm_some h
      refine G_iinc X (v := v17) (lv' := [(4, .int v17), (3, .int (a3 ||| ((0 : Int32)))), (5, .int s0), (0, .ref (xE (gκ g) 9 0 0)), (1, .int a1), (2, .int a2)]) 5 dX7_ears_104 rfl (by rw [ev17]; rfl) (by decide) rfl ?_
      refine G_goto X (tgt := 30) dX7_ears_107 (by decide) ?_
      refine G_sub [3, 4, 5, 1, 0] rfl ?_
      exact hk30 _ _ _ _ _ h
    · have h := it_f (fun k => k c16) h
      refine G_iconst X (v := (1 : Int32)) dX7_ears_94 (by decide) ?_
      refine G_iload X 5 dX7_ears_95 rfl ?_
      refine G_ishl X dX7_ears_97 ?_
      refine G_goto X (tgt := 102) dX7_ears_98 (by decide) ?_
      refine G_ior X dX7_ears_102 ?_
      obtain ⟨v18, ev18, h⟩ := nm_some h
      refine G_nmi ev18 ?_
      refine G_istore_n X (lv' := [(3, .int v18), (5, .int s0), (0, .ref (xE (gκ g) 9 0 0)), (1, .int a1), (2, .int a2), (4, .int a4)]) dX7_ears_103 rfl (by decide) rfl ?_
      obtain ⟨v19, ev19, h⟩ := nm_some h
      refine G_iinc X (v := v19) (lv' := [(4, .int v19), (3, .int v18), (5, .int s0), (0, .ref (xE (gκ g) 9 0 0)), (1, .int a1), (2, .int a2)]) 5 dX7_ears_104 rfl (by rw [ev19]; rfl) (by decide) rfl ?_
      refine G_goto X (tgt := 30) dX7_ears_107 (by decide) ?_
      refine G_sub [3, 4, 5, 1, 0] rfl ?_
      exact hk30 _ _ _ _ _ h
set_option maxRecDepth 20000 in
theorem gX7_ears_b30 {g : GX} {T : TT}   {res : St × Int32}  (X : CX g RX7 cX7_ears 6 4 87)  (hf : FinI g cX7_ears .int (rs T 9 res.1) (res.2))  : ∀ (n : Nat) (m : St) (a1 : Int32) (a2 : Int32) (a3 : Int32) (a4 : Int32) (h : sX7_ears_b30 n  m a1 a2 a3 a4 = some res), G g 0 0 (rs T 9 m) 30 [(0, .ref (xE (gκ g) 9 0 0)), (1, .int a1), (2, .int a2), (3, .int a3), (4, .int a4)] [] := by
  intro n
  induction n with
  | zero => intro m a1 a2 a3 a4 h; unfold sX7_ears_b30 at h; cases h
  | succ n ih =>
    intro m a1 a2 a3 a4 h
    unfold sX7_ears_b30 at h
    refine G_iload X 4 dX7_ears_30 rfl ?_
    refine G_aload_n X 0 dX7_ears_32 rfl rfl ?_
    refine f_X7_20 X rfl rfl dX7_ears_33 ?_
    refine G_iconst X (v := (0 : Int32)) dX7_ears_36 (by decide) ?_
    obtain ⟨g6, h⟩ := gd_some h
    refine G_iald X rfl (rg_rs _ _ _) g6 dX7_ears_37 ?_
    refine G_icmp_ge X (tgt := 110) dX7_ears_38 (by decide) (fun c7 => ?_) (fun c7 => ?_)
    · have h := it_t c7 h
      refine G_iload_n X 3 dX7_ears_110 rfl rfl ?_
      obtain rfl := Option.some.inj h
      exact hf _ _ dX7_ears_111 rfl
    · have h := it_f c7 h
      refine G_iload X 4 dX7_ears_41 rfl ?_
      refine G_iload_n X 1 dX7_ears_43 rfl rfl ?_
      refine G_icmp_eq X (tgt := 70) dX7_ears_44 (by decide) (fun c8 => ?_) (fun c8 => ?_)
      · have h := it_t c8 h
        refine G_iconst X (v := (0 : Int32)) dX7_ears_70 (by decide) ?_
        exact gX7_ears_b71 X hf (fun _ _ _ _ _ h => ih _ _ _ _ _ h) h
      · have h := it_f c8 h
        refine G_aload_n X 0 dX7_ears_47 rfl rfl ?_
        refine G_iload_n X 1 dX7_ears_48 rfl rfl ?_
        refine G_iload X 4 dX7_ears_49 rfl ?_
        obtain ⟨q9, hq9, h⟩ := bd_some h
        refine G_callV X (As := [.int a1, .int a4]) (rest := []) (T' := rs T 9 m) (st2 := [.int q9]) (ct_X7_areNear (l := g.2.1) (κ := gκ g)   hq9) cal_X7_areNear wM_X7_208 wI_X7_areNear wS_X7_areNear rfl rfl (by decide) rfl rfl (Nat.le_of_ble_eq_true rfl) ⟨Nat.zero_le _, Nat.zero_le _⟩ dX7_ears_51 rfl ?_
        refine G_if_eq X (tgt := 70) dX7_ears_54 (by decide) (fun c10 => ?_) (fun c10 => ?_)
        · have h := it_t c10 h
          refine G_iconst X (v := (0 : Int32)) dX7_ears_70 (by decide) ?_
          exact gX7_ears_b71 X hf (fun _ _ _ _ _ h => ih _ _ _ _ _ h) h
        · have h := it_f c10 h
          refine G_aload_n X 0 dX7_ears_57 rfl rfl ?_
          refine G_iload X 4 dX7_ears_58 rfl ?_
          obtain ⟨q11, hq11, h⟩ := bd_some h
          refine G_callV X (As := [.int a4]) (rest := []) (T' := rs T 9 m) (st2 := [.int q11]) (ct_X7_hasEars (l := g.2.1) (κ := gκ g)   hq11) cal_X7_hasEars wM_X7_307 wI_X7_hasEars wS_X7_hasEars rfl rfl (by decide) rfl rfl (Nat.le_of_ble_eq_true rfl) ⟨Nat.zero_le _, Nat.zero_le _⟩ dX7_ears_60 rfl ?_
          refine G_if_eq X (tgt := 70) dX7_ears_63 (by decide) (fun c12 => ?_) (fun c12 => ?_)
          · have h := it_t c12 h
            refine G_iconst X (v := (0 : Int32)) dX7_ears_70 (by decide) ?_
            exact gX7_ears_b71 X hf (fun _ _ _ _ _ h => ih _ _ _ _ _ h) h
          · have h := it_f c12 h
            refine G_iconst X (v := (1 : Int32)) dX7_ears_66 (by decide) ?_
            refine G_goto X (tgt := 71) dX7_ears_67 (by decide) ?_
            exact gX7_ears_b71 X hf (fun _ _ _ _ _ h => ih _ _ _ _ _ h) h
set_option maxRecDepth 20000 in
theorem gX7_ears {g : GX} {T : TT}  {m : St} {a1 : Int32} {res : St × Int32} (X : CX g RX7 cX7_ears 6 4 87)  (hf : FinI g cX7_ears .int (rs T 9 res.1) (res.2)) (h : sX7_ears m a1 = some res) : G g 0 0 (rs T 9 m) 0 [(0, .ref (xE (gκ g) 9 0 0)), (1, .int a1)] [] := by
  unfold sX7_ears at h
  refine G_aload_n X 0 dX7_ears_0 rfl rfl ?_
  refine G_aload_n X 0 dX7_ears_1 rfl rfl ?_
  refine G_iload_n X 1 dX7_ears_2 rfl rfl ?_
  obtain ⟨q1, hq1, h⟩ := bd_some h
  refine G_callV X (As := [.int a1]) (rest := [.ref (xE (gκ g) 9 0 0)]) (T' := rs T 9 m) (st2 := [.int q1, .ref (xE (gκ g) 9 0 0)]) (ct_X7_isBeacon (l := g.2.1) (κ := gκ g)   hq1) cal_X7_isBeacon wM_X7_341 wI_X7_isBeacon wS_X7_isBeacon rfl rfl (by decide) rfl rfl (Nat.le_of_ble_eq_true rfl) ⟨Nat.zero_le _, Nat.zero_le _⟩ dX7_ears_3 rfl ?_
  obtain ⟨q2, hq2, h⟩ := bd_some h
  refine G_callV X (As := [.int q1]) (rest := []) (T' := rs T 9 q2.1) (st2 := [.int q2.2]) (ct_X7_goes (l := g.2.1) (κ := gκ g)   hq2) cal_X7_goes wM_X7_76 wI_X7_goes wS_X7_goes rfl rfl (by decide) rfl rfl (Nat.le_of_ble_eq_true rfl) ⟨Nat.zero_le _, Nat.zero_le _⟩ dX7_ears_6 rfl ?_
  refine G_if_ne X (tgt := 14) dX7_ears_9 (by decide) (fun c3 => ?_) (fun c3 => ?_)
  · have h := it_t c3 h
    refine G_aload_n X 0 dX7_ears_14 rfl rfl ?_
    obtain ⟨q4, hq4, h⟩ := bd_some h
    refine G_callV X (As := []) (rest := []) (T' := rs T 9 q2.1) (st2 := [.int q4]) (ct_X7_senders (l := g.2.1) (κ := gκ g)   hq4) cal_X7_senders wM_X7_325 wI_X7_senders wS_X7_senders rfl rfl (by decide) rfl rfl (Nat.le_of_ble_eq_true rfl) ⟨Nat.zero_le _, Nat.zero_le _⟩ dX7_ears_15 rfl ?_
    refine G_iconst X (v := (1 : Int32)) dX7_ears_18 (by decide) ?_
    refine G_iload_n X 1 dX7_ears_19 rfl rfl ?_
    refine G_ishl X dX7_ears_20 ?_
    refine G_iconst X (v := (-1 : Int32)) dX7_ears_21 (by decide) ?_
    refine G_ixor X dX7_ears_22 ?_
    refine G_iand X dX7_ears_23 ?_
    obtain ⟨v5, ev5, h⟩ := nm_some h
    refine G_nmi ev5 ?_
    refine G_istore_n X (lv' := [(2, .int v5), (0, .ref (xE (gκ g) 9 0 0)), (1, .int a1)]) dX7_ears_24 rfl (by decide) rfl ?_
    refine G_iconst X (v := (0 : Int32)) dX7_ears_25 (by decide) ?_
    refine G_istore_n X (lv' := [(3, .int ((0 : Int32))), (2, .int v5), (0, .ref (xE (gκ g) 9 0 0)), (1, .int a1)]) dX7_ears_26 rfl (by decide) rfl ?_
    refine G_iconst X (v := (0 : Int32)) dX7_ears_27 (by decide) ?_
    refine G_istore X (lv' := [(4, .int ((0 : Int32))), (3, .int ((0 : Int32))), (2, .int v5), (0, .ref (xE (gκ g) 9 0 0)), (1, .int a1)]) dX7_ears_28 (by decide) rfl ?_
    refine G_sub [3, 4, 2, 1, 0] rfl ?_
    exact gX7_ears_b30 X hf FU _ _ _ _ _ h
  · have h := it_f (fun k => k c3) h
    refine G_iconst X (v := (0 : Int32)) dX7_ears_12 (by decide) ?_
    obtain rfl := Option.some.inj h
    exact hf _ _ dX7_ears_13 rfl
set_option maxRecDepth 20000 in
theorem ct_X7_ears {l : Launch} {κ : KX} {T : TT}  {m : St} {a1 : Int32} {res : St × Int32}  (h : sX7_ears m a1 = some res) : Ct l κ yX7_ears cX7_ears 6 (some .int) 4 87 [.ref (xE κ 9 0 0), .int a1] (rs T 9 m) (rs T 9 res.1) (some (.int (res.2))) := by
  refine Ct_i RX7 rfl (by decide +kernel) (Nat.le_of_ble_eq_true rfl) (fun g hl hκ X hf => ?_)
  subst hl; subst hκ
  exact gX7_ears X  hf h
set_option maxRecDepth 20000 in
theorem gX7_earliest_b9 {g : GX} {T : TT}   {res : St × Int32}  (X : CX g RX7 cX7_earliest 3 4 88)  (hf : FinI g cX7_earliest .int (rs T 9 res.1) (res.2))  : ∀ (n : Nat) (m : St) (a1 : Int32) (a2 : Int32) (h : sX7_earliest_b9 n  m a1 a2 = some res), G g 0 0 (rs T 9 m) 9 [(0, .ref (xE (gκ g) 9 0 0)), (1, .int a1), (2, .int a2)] [] := by
  intro n
  induction n with
  | zero => intro m a1 a2 h; unfold sX7_earliest_b9 at h; cases h
  | succ n ih =>
    intro m a1 a2 h
    unfold sX7_earliest_b9 at h
    refine G_iload_n X 2 dX7_earliest_9 rfl rfl ?_
    refine G_aload_n X 0 dX7_earliest_10 rfl rfl ?_
    refine f_X7_20 X rfl rfl dX7_earliest_11 ?_
    refine G_iconst X (v := (0 : Int32)) dX7_earliest_14 (by decide) ?_
    obtain ⟨g2, h⟩ := gd_some h
    refine G_iald X rfl (rg_rs _ _ _) g2 dX7_earliest_15 ?_
    refine G_icmp_ge X (tgt := 45) dX7_earliest_16 (by decide) (fun c3 => ?_) (fun c3 => ?_)
    · have h := it_t c3 h
      refine G_iload_n X 1 dX7_earliest_45 rfl rfl ?_
      obtain rfl := Option.some.inj h
      exact hf _ _ dX7_earliest_46 rfl
    · have h := it_f c3 h
      refine G_iload_n X 1 dX7_earliest_19 rfl rfl ?_
      refine G_iconst X (v := (-1 : Int32)) dX7_earliest_20 (by decide) ?_
      refine G_icmp_eq X (tgt := 37) dX7_earliest_21 (by decide) (fun c4 => ?_) (fun c4 => ?_)
      · have h := it_t c4 h
        refine G_iload_n X 2 dX7_earliest_37 rfl rfl ?_
        refine G_istore_n X (lv' := [(1, .int a2), (0, .ref (xE (gκ g) 9 0 0)), (2, .int a2)]) dX7_earliest_38 rfl (by decide) rfl ?_
        obtain ⟨v5, ev5, h⟩ := nm_some h
        refine G_iinc X (v := v5) (lv' := [(2, .int v5), (1, .int a2), (0, .ref (xE (gκ g) 9 0 0))]) 2 dX7_earliest_39 rfl (by rw [ev5]; rfl) (by decide) rfl ?_
        refine G_goto X (tgt := 9) dX7_earliest_42 (by decide) ?_
        refine G_sub [2, 1, 0] rfl ?_
        exact ih _ _ _ h
      · have h := it_f c4 h
        refine G_aload_n X 0 dX7_earliest_24 rfl rfl ?_
        refine G_iload_n X 2 dX7_earliest_25 rfl rfl ?_
        obtain ⟨q6, hq6, h⟩ := bd_some h
        refine G_callV X (As := [.int a2]) (rest := []) (T' := rs T 9 m) (st2 := [.int q6]) (ct_X7_dueFor (l := g.2.1) (κ := gκ g)   hq6) cal_X7_dueFor wM_X7_373 wI_X7_dueFor wS_X7_dueFor rfl rfl (by decide) rfl rfl (Nat.le_of_ble_eq_true rfl) ⟨Nat.zero_le _, Nat.zero_le _⟩ dX7_earliest_26 rfl ?_
        refine G_aload_n X 0 dX7_earliest_29 rfl rfl ?_
        refine G_iload_n X 1 dX7_earliest_30 rfl rfl ?_
        obtain ⟨q7, hq7, h⟩ := bd_some h
        refine G_callV X (As := [.int a1]) (rest := [.int q6]) (T' := rs T 9 m) (st2 := [.int q7, .int q6]) (ct_X7_dueFor (l := g.2.1) (κ := gκ g)   hq7) cal_X7_dueFor wM_X7_373 wI_X7_dueFor wS_X7_dueFor rfl rfl (by decide) rfl rfl (Nat.le_of_ble_eq_true rfl) ⟨Nat.zero_le _, Nat.zero_le _⟩ dX7_earliest_31 rfl ?_
        refine G_icmp_ge X (tgt := 39) dX7_earliest_34 (by decide) (fun c8 => ?_) (fun c8 => ?_)
        · have h := it_t c8 h
          obtain ⟨v9, ev9, h⟩ := nm_some h
          refine G_iinc X (v := v9) (lv' := [(2, .int v9), (0, .ref (xE (gκ g) 9 0 0)), (1, .int a1)]) 2 dX7_earliest_39 rfl (by rw [ev9]; rfl) (by decide) rfl ?_
          refine G_goto X (tgt := 9) dX7_earliest_42 (by decide) ?_
          refine G_sub [1, 2, 0] rfl ?_
          exact ih _ _ _ h
        · have h := it_f c8 h
          refine G_iload_n X 2 dX7_earliest_37 rfl rfl ?_
          refine G_istore_n X (lv' := [(1, .int a2), (0, .ref (xE (gκ g) 9 0 0)), (2, .int a2)]) dX7_earliest_38 rfl (by decide) rfl ?_
          obtain ⟨v10, ev10, h⟩ := nm_some h
          refine G_iinc X (v := v10) (lv' := [(2, .int v10), (1, .int a2), (0, .ref (xE (gκ g) 9 0 0))]) 2 dX7_earliest_39 rfl (by rw [ev10]; rfl) (by decide) rfl ?_
          refine G_goto X (tgt := 9) dX7_earliest_42 (by decide) ?_
          refine G_sub [2, 1, 0] rfl ?_
          exact ih _ _ _ h
set_option maxRecDepth 20000 in
theorem gX7_earliest {g : GX} {T : TT}  {m : St}  {res : St × Int32} (X : CX g RX7 cX7_earliest 3 4 88)  (hf : FinI g cX7_earliest .int (rs T 9 res.1) (res.2)) (h : sX7_earliest m = some res) : G g 0 0 (rs T 9 m) 0 [(0, .ref (xE (gκ g) 9 0 0))] [] := by
  unfold sX7_earliest at h
  refine G_aload_n X 0 dX7_earliest_0 rfl rfl ?_
  refine G_iconst X (v := (0 : Int32)) dX7_earliest_1 (by decide) ?_
  obtain ⟨x1, ex1, h⟩ := nm_some h
  refine p_X7_66 X (T' := rs T 9 x1) rfl (rg_rs _ _ _)  (by rw [rs_rs, ex1]) dX7_earliest_2 ?_
  refine G_iconst X (v := (-1 : Int32)) dX7_earliest_5 (by decide) ?_
  refine G_istore_n X (lv' := [(1, .int ((-1 : Int32))), (0, .ref (xE (gκ g) 9 0 0))]) dX7_earliest_6 rfl (by decide) rfl ?_
  refine G_iconst X (v := (0 : Int32)) dX7_earliest_7 (by decide) ?_
  refine G_istore_n X (lv' := [(2, .int ((0 : Int32))), (1, .int ((-1 : Int32))), (0, .ref (xE (gκ g) 9 0 0))]) dX7_earliest_8 rfl (by decide) rfl ?_
  refine G_sub [2, 1, 0] rfl ?_
  exact gX7_earliest_b9 X hf FU _ _ _ h
set_option maxRecDepth 20000 in
theorem ct_X7_earliest {l : Launch} {κ : KX} {T : TT}  {m : St}  {res : St × Int32}  (h : sX7_earliest m = some res) : Ct l κ yX7_earliest cX7_earliest 3 (some .int) 4 88 [.ref (xE κ 9 0 0)] (rs T 9 m) (rs T 9 res.1) (some (.int (res.2))) := by
  refine Ct_i RX7 rfl (by decide +kernel) (Nat.le_of_ble_eq_true rfl) (fun g hl hκ X hf => ?_)
  subst hl; subst hκ
  exact gX7_earliest X  hf h
set_option maxRecDepth 20000 in
theorem gX7_window {g : GX} {T : TT}  {m : St} {a1 : Int32} {res : St × Int32} (X : CX g RX7 cX7_window 2 3 64)  (hf : FinI g cX7_window .int (rs T 9 res.1) (res.2)) (h : sX7_window m a1 = some res) : G g 0 0 (rs T 9 m) 0 [(0, .ref (xE (gκ g) 9 0 0)), (1, .int a1)] [] := by
  unfold sX7_window at h
  refine G_aload_n X 0 dX7_window_0 rfl rfl ?_
  refine G_aload_n X 0 dX7_window_1 rfl rfl ?_
  refine G_iload_n X 1 dX7_window_2 rfl rfl ?_
  obtain ⟨q1, hq1, h⟩ := bd_some h
  refine G_callV X (As := [.int a1]) (rest := [.ref (xE (gκ g) 9 0 0)]) (T' := rs T 9 m) (st2 := [.int q1, .ref (xE (gκ g) 9 0 0)]) (ct_X7_isBeacon (l := g.2.1) (κ := gκ g)   hq1) cal_X7_isBeacon wM_X7_341 wI_X7_isBeacon wS_X7_isBeacon rfl rfl (by decide) rfl rfl (Nat.le_of_ble_eq_true rfl) ⟨Nat.zero_le _, Nat.zero_le _⟩ dX7_window_3 rfl ?_
  obtain ⟨q2, hq2, h⟩ := bd_some h
  refine G_callV X (As := [.int q1]) (rest := []) (T' := rs T 9 q2.1) (st2 := [.int q2.2]) (ct_X7_goes (l := g.2.1) (κ := gκ g)   hq2) cal_X7_goes wM_X7_76 wI_X7_goes wS_X7_goes rfl rfl (by decide) rfl rfl (Nat.le_of_ble_eq_true rfl) ⟨Nat.zero_le _, Nat.zero_le _⟩ dX7_window_6 rfl ?_
  refine G_if_eq X (tgt := 20) dX7_window_9 (by decide) (fun c3 => ?_) (fun c3 => ?_)
  · have h := it_t c3 h
    refine G_iconst X (v := (0 : Int32)) dX7_window_20 (by decide) ?_
    obtain rfl := Option.some.inj h
    exact hf _ _ dX7_window_21 rfl
  · have h := it_f c3 h
    refine G_aload_n X 0 dX7_window_12 rfl rfl ?_
    refine G_iload_n X 1 dX7_window_13 rfl rfl ?_
    obtain ⟨q4, hq4, h⟩ := bd_some h
    refine G_callV X (As := [.int a1]) (rest := []) (T' := rs T 9 q2.1) (st2 := [.int q4]) (ct_X7_windowOf (l := g.2.1) (κ := gκ g)   hq4) cal_X7_windowOf wM_X7_267 wI_X7_windowOf wS_X7_windowOf rfl rfl (by decide) rfl rfl (Nat.le_of_ble_eq_true rfl) ⟨Nat.zero_le _, Nat.zero_le _⟩ dX7_window_14 rfl ?_
    refine G_goto X (tgt := 21) dX7_window_17 (by decide) ?_
    obtain rfl := Option.some.inj h
    exact hf _ _ dX7_window_21 rfl
set_option maxRecDepth 20000 in
theorem ct_X7_window {l : Launch} {κ : KX} {T : TT}  {m : St} {a1 : Int32} {res : St × Int32}  (h : sX7_window m a1 = some res) : Ct l κ yX7_window cX7_window 2 (some .int) 3 64 [.ref (xE κ 9 0 0), .int a1] (rs T 9 m) (rs T 9 res.1) (some (.int (res.2))) := by
  refine Ct_i RX7 rfl (by decide +kernel) (Nat.le_of_ble_eq_true rfl) (fun g hl hκ X hf => ?_)
  subst hl; subst hκ
  exact gX7_window X  hf h
set_option maxRecDepth 20000 in
theorem gX7_leaves {g : GX} {T : TT}  {m : St}  {res : St} (X : CX g RX7 cX7_leaves 1 1 24)  (hf : FinV g cX7_leaves (rs T 9 res)) (h : sX7_leaves m = some res) : G g 0 0 (rs T 9 m) 0 [(0, .ref (xE (gκ g) 9 0 0))] [] := by
  unfold sX7_leaves at h
  refine G_aload_n X 0 dX7_leaves_0 rfl rfl ?_
  refine f_X7_20 X rfl rfl dX7_leaves_1 ?_
  refine G_iconst X (v := (0 : Int32)) dX7_leaves_4 (by decide) ?_
  refine G_aload_n X 0 dX7_leaves_5 rfl rfl ?_
  refine f_X7_29 X rfl rfl dX7_leaves_6 ?_
  refine G_iconst X (v := (0 : Int32)) dX7_leaves_9 (by decide) ?_
  obtain ⟨q1, hq1, h⟩ := bd_some h
  refine G_callS X (As := [.ref (xE (gκ g) 9 0 2), .int ((0 : Int32)), .ref (xE (gκ g) 9 0 5), .int ((0 : Int32))]) (rest := []) (T' := rs T 9 q1) (st2 := []) (ct_X7_copiesRow (l := g.2.1) (κ := gκ g)  rfl rfl hq1) cal_X7_copiesRow wM_X7_152 wT_X7_copiesRow (by decide) rfl rfl (Nat.le_of_ble_eq_true rfl) ⟨Nat.zero_le _, Nat.zero_le _⟩ dX7_leaves_10 rfl ?_
  obtain rfl := Option.some.inj h
  exact hf _ _ dX7_leaves_13
set_option maxRecDepth 20000 in
theorem ct_X7_leaves {l : Launch} {κ : KX} {T : TT}  {m : St}  {res : St}  (h : sX7_leaves m = some res) : Ct l κ yX7_leaves cX7_leaves 1 none 1 24 [.ref (xE κ 9 0 0)] (rs T 9 m) (rs T 9 res) none := by
  refine Ct_v RX7 rfl (by decide +kernel) (Nat.le_of_ble_eq_true rfl) (fun g hl hκ X hf => ?_)
  subst hl; subst hκ
  exact gX7_leaves X  hf h
set_option maxRecDepth 20000 in
theorem gX7_comesBack {g : GX} {T : TT}  {m : St} {a1 : Int32} {res : St × Int32} (X : CX g RX7 cX7_comesBack 2 1 24)  (hf : FinI g cX7_comesBack .int (rs T 9 res.1) (res.2)) (h : sX7_comesBack m a1 = some res) : G g 0 0 (rs T 9 m) 0 [(0, .ref (xE (gκ g) 9 0 0)), (1, .int a1)] [] := by
  unfold sX7_comesBack at h
  refine G_aload_n X 0 dX7_comesBack_0 rfl rfl ?_
  refine f_X7_29 X rfl rfl dX7_comesBack_1 ?_
  refine G_iconst X (v := (0 : Int32)) dX7_comesBack_4 (by decide) ?_
  refine G_aload_n X 0 dX7_comesBack_5 rfl rfl ?_
  refine f_X7_20 X rfl rfl dX7_comesBack_6 ?_
  refine G_iconst X (v := (0 : Int32)) dX7_comesBack_9 (by decide) ?_
  obtain ⟨q1, hq1, h⟩ := bd_some h
  refine G_callS X (As := [.ref (xE (gκ g) 9 0 5), .int ((0 : Int32)), .ref (xE (gκ g) 9 0 2), .int ((0 : Int32))]) (rest := []) (T' := rs T 9 q1) (st2 := []) (ct_X7_copiesRow (l := g.2.1) (κ := gκ g)  rfl rfl hq1) cal_X7_copiesRow wM_X7_152 wT_X7_copiesRow (by decide) rfl rfl (Nat.le_of_ble_eq_true rfl) ⟨Nat.zero_le _, Nat.zero_le _⟩ dX7_comesBack_10 rfl ?_
  refine G_iload_n X 1 dX7_comesBack_13 rfl rfl ?_
  obtain rfl := Option.some.inj h
  exact hf _ _ dX7_comesBack_14 rfl
set_option maxRecDepth 20000 in
theorem ct_X7_comesBack {l : Launch} {κ : KX} {T : TT}  {m : St} {a1 : Int32} {res : St × Int32}  (h : sX7_comesBack m a1 = some res) : Ct l κ yX7_comesBack cX7_comesBack 2 (some .int) 1 24 [.ref (xE κ 9 0 0), .int a1] (rs T 9 m) (rs T 9 res.1) (some (.int (res.2))) := by
  refine Ct_i RX7 rfl (by decide +kernel) (Nat.le_of_ble_eq_true rfl) (fun g hl hκ X hf => ?_)
  subst hl; subst hκ
  exact gX7_comesBack X  hf h
set_option maxRecDepth 20000 in
theorem gX7_areSlots {g : GX} {T : TT}   {a0 : Int32} {res : Int32} (X : CX g RX7 cX7_areSlots 1 1 25)  (hf : FinI g cX7_areSlots .boolean (T) (res)) (h : sX7_areSlots a0 = some res) : G g 0 0 (T) 0 [(0, .int a0)] [] := by
  unfold sX7_areSlots at h
  refine G_iload_n X 0 dX7_areSlots_0 rfl rfl ?_
  refine G_i2l X dX7_areSlots_1 ?_
  refine G_lconst X (v := (0 : Int64)) dX7_areSlots_2 (by decide) ?_
  refine G_ldc2_w X (v := (200 : Int64)) dX7_areSlots_3 wK_X7_382 ?_
  obtain ⟨q1, hq1, h⟩ := bd_some h
  refine G_callS X (As := [.long a0.toInt64, .long ((0 : Int64)), .long ((200 : Int64))]) (rest := []) (T' := T) (st2 := [.int q1]) (ct_X7_isIn (l := g.2.1) (κ := gκ g)   hq1) cal_X7_isIn wM_X7_84 wT_X7_isIn (by decide) rfl rfl (Nat.le_of_ble_eq_true rfl) ⟨Nat.zero_le _, Nat.zero_le _⟩ dX7_areSlots_6 rfl ?_
  obtain ⟨g2, h⟩ := gd_some h
  obtain rfl := Option.some.inj h
  exact hf _ _ dX7_areSlots_9 (isb_n g2)
set_option maxRecDepth 20000 in
theorem ct_X7_areSlots {l : Launch} {κ : KX} {T : TT}   {a0 : Int32} {res : Int32}  (h : sX7_areSlots a0 = some res) : Ct l κ yX7_areSlots cX7_areSlots 1 (some .boolean) 1 25 [.int a0] (T) (T) (some (.int (res))) := by
  refine Ct_i RX7 rfl (by decide +kernel) (Nat.le_of_ble_eq_true rfl) (fun g hl hκ X hf => ?_)
  subst hl; subst hκ
  exact gX7_areSlots X  hf h
set_option maxRecDepth 20000 in
theorem gX7_cellIn {g : GX} {T : TT}  {m : St} {a1 : Int32} {a2 : Int32} {a3 : Int32} {res : St × Int32} (X : CX g RX7 cX7_cellIn 5 9 199)  (hf : FinI g cX7_cellIn .int (rs T 9 res.1) (res.2)) (h : sX7_cellIn m a1 a2 a3 = some res) : G g 0 0 (rs T 9 m) 0 [(0, .ref (xE (gκ g) 9 0 0)), (1, .int a1), (2, .int a2), (3, .int a3)] [] := by
  unfold sX7_cellIn at h
  refine G_aload_n X 0 dX7_cellIn_0 rfl rfl ?_
  obtain ⟨q1, hq1, h⟩ := bd_some h
  refine G_callV X (As := []) (rest := []) (T' := rs T 9 q1) (st2 := []) (ct_X7_leaves (l := g.2.1) (κ := gκ g)   hq1) cal_X7_leaves wM_X7_384 wI_X7_leaves wS_X7_leaves rfl rfl (by decide) rfl rfl (Nat.le_of_ble_eq_true rfl) ⟨Nat.zero_le _, Nat.zero_le _⟩ dX7_cellIn_1 rfl ?_
  refine G_aload_n X 0 dX7_cellIn_4 rfl rfl ?_
  refine G_iload_n X 3 dX7_cellIn_5 rfl rfl ?_
  obtain ⟨q2, hq2, h⟩ := bd_some h
  refine G_callV X (As := [.int a3]) (rest := []) (T' := rs T 9 q2.1) (st2 := [.int q2.2]) (ct_X7_runs (l := g.2.1) (κ := gκ g)   hq2) cal_X7_runs wM_X7_387 wI_X7_runs wS_X7_runs rfl rfl (by decide) rfl rfl (Nat.le_of_ble_eq_true rfl) ⟨Nat.zero_le _, Nat.zero_le _⟩ dX7_cellIn_6 rfl ?_
  refine G_istore X (lv' := [(4, .int q2.2), (0, .ref (xE (gκ g) 9 0 0)), (1, .int a1), (2, .int a2), (3, .int a3)]) dX7_cellIn_9 (by decide) rfl ?_
  refine G_aload_n X 1 dX7_cellIn_11 rfl rfl ?_
  refine G_aload_n X 1 dX7_cellIn_12 rfl rfl ?_
  refine G_iload_n X 2 dX7_cellIn_13 rfl rfl ?_
  refine G_iload_n X 3 dX7_cellIn_14 rfl rfl ?_
  obtain ⟨q3, hq3, h⟩ := bd_some h
  refine G_callV X (As := [.int a1, .int a2]) (rest := [.ref (xE (gκ g) 9 0 0)]) (T' := rs T 9 q2.1) (st2 := [.int q3, .ref (xE (gκ g) 9 0 0)]) (ct_X7_of (l := g.2.1) (κ := gκ g)   hq3) cal_X7_of wM_X7_251 wI_X7_of wS_X7_of rfl rfl (by decide) rfl rfl (Nat.le_of_ble_eq_true rfl) ⟨Nat.zero_le _, Nat.zero_le _⟩ dX7_cellIn_15 rfl ?_
  obtain ⟨q4, hq4, h⟩ := bd_some h
  refine G_callV X (As := [.int q3]) (rest := []) (T' := rs T 9 q4.1) (st2 := [.int q4.2]) (ct_X7_comesBack (l := g.2.1) (κ := gκ g)   hq4) cal_X7_comesBack wM_X7_390 wI_X7_comesBack wS_X7_comesBack rfl rfl (by decide) rfl rfl (Nat.le_of_ble_eq_true rfl) ⟨Nat.zero_le _, Nat.zero_le _⟩ dX7_cellIn_18 rfl ?_
  obtain rfl := Option.some.inj h
  exact hf _ _ dX7_cellIn_21 rfl
set_option maxRecDepth 20000 in
theorem ct_X7_cellIn {l : Launch} {κ : KX} {T : TT}  {m : St} {a1 : Int32} {a2 : Int32} {a3 : Int32} {res : St × Int32}  (h : sX7_cellIn m a1 a2 a3 = some res) : Ct l κ yX7_cellIn cX7_cellIn 5 (some .int) 9 199 [.ref (xE κ 9 0 0), .int a1, .int a2, .int a3] (rs T 9 m) (rs T 9 res.1) (some (.int (res.2))) := by
  refine Ct_i RX7 rfl (by decide +kernel) (Nat.le_of_ble_eq_true rfl) (fun g hl hκ X hf => ?_)
  subst hl; subst hκ
  exact gX7_cellIn X  hf h
set_option maxRecDepth 20000 in
theorem gX7_stateIn {g : GX} {T : TT}  {m : St} {a1 : Int32} {a2 : Int32} {res : St × Int32} (X : CX g RX7 cX7_stateIn 3 10 223)  (hf : FinI g cX7_stateIn .int (rs T 9 res.1) (res.2)) (h : sX7_stateIn m a1 a2 = some res) : G g 0 0 (rs T 9 m) 0 [(0, .ref (xE (gκ g) 9 0 0)), (1, .int a1), (2, .int a2)] [] := by
  unfold sX7_stateIn at h
  refine G_aload_n X 0 dX7_stateIn_0 rfl rfl ?_
  refine G_aload_n X 0 dX7_stateIn_1 rfl rfl ?_
  refine G_iload_n X 1 dX7_stateIn_2 rfl rfl ?_
  obtain ⟨q1, hq1, h⟩ := bd_some h
  refine G_callV X (As := [.int a1]) (rest := [.ref (xE (gκ g) 9 0 0)]) (T' := rs T 9 m) (st2 := [.int q1, .ref (xE (gκ g) 9 0 0)]) (ct_X7_isBeacon (l := g.2.1) (κ := gκ g)   hq1) cal_X7_isBeacon wM_X7_341 wI_X7_isBeacon wS_X7_isBeacon rfl rfl (by decide) rfl rfl (Nat.le_of_ble_eq_true rfl) ⟨Nat.zero_le _, Nat.zero_le _⟩ dX7_stateIn_3 rfl ?_
  refine G_iload_n X 2 dX7_stateIn_6 rfl rfl ?_
  obtain ⟨q2, hq2, h⟩ := bd_some h
  refine G_callS X (As := [.int a2]) (rest := [.int q1, .ref (xE (gκ g) 9 0 0)]) (T' := rs T 9 m) (st2 := [.int q2, .int q1, .ref (xE (gκ g) 9 0 0)]) (ct_X7_areSlots (l := g.2.1) (κ := gκ g)   hq2) cal_X7_areSlots wM_X7_393 wT_X7_areSlots (by decide) rfl rfl (Nat.le_of_ble_eq_true rfl) ⟨Nat.zero_le _, Nat.zero_le _⟩ dX7_stateIn_7 rfl ?_
  obtain ⟨q3, hq3, h⟩ := bd_some h
  refine G_callV X (As := [.int q1, .int q2]) (rest := []) (T' := rs T 9 q3.1) (st2 := [.int q3.2]) (ct_X7_goesBoth (l := g.2.1) (κ := gκ g)   hq3) cal_X7_goesBoth wM_X7_354 wI_X7_goesBoth wS_X7_goesBoth rfl rfl (by decide) rfl rfl (Nat.le_of_ble_eq_true rfl) ⟨Nat.zero_le _, Nat.zero_le _⟩ dX7_stateIn_10 rfl ?_
  refine G_if_eq X (tgt := 26) dX7_stateIn_13 (by decide) (fun c4 => ?_) (fun c4 => ?_)
  · have h := it_t c4 h
    refine G_iconst X (v := (0 : Int32)) dX7_stateIn_26 (by decide) ?_
    obtain rfl := Option.some.inj h
    exact hf _ _ dX7_stateIn_27 rfl
  · have h := it_f c4 h
    refine G_aload_n X 0 dX7_stateIn_16 rfl rfl ?_
    refine G_iload_n X 1 dX7_stateIn_17 rfl rfl ?_
    refine G_iconst X (v := (5 : Int32)) dX7_stateIn_18 (by decide) ?_
    refine G_iload_n X 2 dX7_stateIn_19 rfl rfl ?_
    obtain ⟨q5, hq5, h⟩ := bd_some h
    refine G_callV X (As := [.int a1, .int ((5 : Int32)), .int a2]) (rest := []) (T' := rs T 9 q5.1) (st2 := [.int q5.2]) (ct_X7_cellIn (l := g.2.1) (κ := gκ g)   hq5) cal_X7_cellIn wM_X7_396 wI_X7_cellIn wS_X7_cellIn rfl rfl (by decide) rfl rfl (Nat.le_of_ble_eq_true rfl) ⟨Nat.zero_le _, Nat.zero_le _⟩ dX7_stateIn_20 rfl ?_
    refine G_goto X (tgt := 27) dX7_stateIn_23 (by decide) ?_
    obtain rfl := Option.some.inj h
    exact hf _ _ dX7_stateIn_27 rfl
set_option maxRecDepth 20000 in
theorem ct_X7_stateIn {l : Launch} {κ : KX} {T : TT}  {m : St} {a1 : Int32} {a2 : Int32} {res : St × Int32}  (h : sX7_stateIn m a1 a2 = some res) : Ct l κ yX7_stateIn cX7_stateIn 3 (some .int) 10 223 [.ref (xE κ 9 0 0), .int a1, .int a2] (rs T 9 m) (rs T 9 res.1) (some (.int (res.2))) := by
  refine Ct_i RX7 rfl (by decide +kernel) (Nat.le_of_ble_eq_true rfl) (fun g hl hκ X hf => ?_)
  subst hl; subst hκ
  exact gX7_stateIn X  hf h
set_option maxRecDepth 20000 in
theorem gX7_energyIn {g : GX} {T : TT}  {m : St} {a1 : Int32} {a2 : Int32} {res : St × Int32} (X : CX g RX7 cX7_energyIn 3 10 223)  (hf : FinI g cX7_energyIn .int (rs T 9 res.1) (res.2)) (h : sX7_energyIn m a1 a2 = some res) : G g 0 0 (rs T 9 m) 0 [(0, .ref (xE (gκ g) 9 0 0)), (1, .int a1), (2, .int a2)] [] := by
  unfold sX7_energyIn at h
  refine G_aload_n X 0 dX7_energyIn_0 rfl rfl ?_
  refine G_aload_n X 0 dX7_energyIn_1 rfl rfl ?_
  refine G_iload_n X 1 dX7_energyIn_2 rfl rfl ?_
  obtain ⟨q1, hq1, h⟩ := bd_some h
  refine G_callV X (As := [.int a1]) (rest := [.ref (xE (gκ g) 9 0 0)]) (T' := rs T 9 m) (st2 := [.int q1, .ref (xE (gκ g) 9 0 0)]) (ct_X7_isBeacon (l := g.2.1) (κ := gκ g)   hq1) cal_X7_isBeacon wM_X7_341 wI_X7_isBeacon wS_X7_isBeacon rfl rfl (by decide) rfl rfl (Nat.le_of_ble_eq_true rfl) ⟨Nat.zero_le _, Nat.zero_le _⟩ dX7_energyIn_3 rfl ?_
  refine G_iload_n X 2 dX7_energyIn_6 rfl rfl ?_
  obtain ⟨q2, hq2, h⟩ := bd_some h
  refine G_callS X (As := [.int a2]) (rest := [.int q1, .ref (xE (gκ g) 9 0 0)]) (T' := rs T 9 m) (st2 := [.int q2, .int q1, .ref (xE (gκ g) 9 0 0)]) (ct_X7_areSlots (l := g.2.1) (κ := gκ g)   hq2) cal_X7_areSlots wM_X7_393 wT_X7_areSlots (by decide) rfl rfl (Nat.le_of_ble_eq_true rfl) ⟨Nat.zero_le _, Nat.zero_le _⟩ dX7_energyIn_7 rfl ?_
  obtain ⟨q3, hq3, h⟩ := bd_some h
  refine G_callV X (As := [.int q1, .int q2]) (rest := []) (T' := rs T 9 q3.1) (st2 := [.int q3.2]) (ct_X7_goesBoth (l := g.2.1) (κ := gκ g)   hq3) cal_X7_goesBoth wM_X7_354 wI_X7_goesBoth wS_X7_goesBoth rfl rfl (by decide) rfl rfl (Nat.le_of_ble_eq_true rfl) ⟨Nat.zero_le _, Nat.zero_le _⟩ dX7_energyIn_10 rfl ?_
  refine G_if_eq X (tgt := 26) dX7_energyIn_13 (by decide) (fun c4 => ?_) (fun c4 => ?_)
  · have h := it_t c4 h
    refine G_iconst X (v := (0 : Int32)) dX7_energyIn_26 (by decide) ?_
    obtain rfl := Option.some.inj h
    exact hf _ _ dX7_energyIn_27 rfl
  · have h := it_f c4 h
    refine G_aload_n X 0 dX7_energyIn_16 rfl rfl ?_
    refine G_iload_n X 1 dX7_energyIn_17 rfl rfl ?_
    refine G_iconst X (v := (4 : Int32)) dX7_energyIn_18 (by decide) ?_
    refine G_iload_n X 2 dX7_energyIn_19 rfl rfl ?_
    obtain ⟨q5, hq5, h⟩ := bd_some h
    refine G_callV X (As := [.int a1, .int ((4 : Int32)), .int a2]) (rest := []) (T' := rs T 9 q5.1) (st2 := [.int q5.2]) (ct_X7_cellIn (l := g.2.1) (κ := gκ g)   hq5) cal_X7_cellIn wM_X7_396 wI_X7_cellIn wS_X7_cellIn rfl rfl (by decide) rfl rfl (Nat.le_of_ble_eq_true rfl) ⟨Nat.zero_le _, Nat.zero_le _⟩ dX7_energyIn_20 rfl ?_
    refine G_goto X (tgt := 27) dX7_energyIn_23 (by decide) ?_
    obtain rfl := Option.some.inj h
    exact hf _ _ dX7_energyIn_27 rfl
set_option maxRecDepth 20000 in
theorem ct_X7_energyIn {l : Launch} {κ : KX} {T : TT}  {m : St} {a1 : Int32} {a2 : Int32} {res : St × Int32}  (h : sX7_energyIn m a1 a2 = some res) : Ct l κ yX7_energyIn cX7_energyIn 3 (some .int) 10 223 [.ref (xE κ 9 0 0), .int a1, .int a2] (rs T 9 m) (rs T 9 res.1) (some (.int (res.2))) := by
  refine Ct_i RX7 rfl (by decide +kernel) (Nat.le_of_ble_eq_true rfl) (fun g hl hκ X hf => ?_)
  subst hl; subst hκ
  exact gX7_energyIn X  hf h
set_option maxRecDepth 20000 in
theorem gX7_collisionsBy {g : GX} {T : TT}  {m : St} {a1 : Int32} {res : St × Int32} (X : CX g RX7 cX7_collisionsBy 4 9 199)  (hf : FinI g cX7_collisionsBy .int (rs T 9 res.1) (res.2)) (h : sX7_collisionsBy m a1 = some res) : G g 0 0 (rs T 9 m) 0 [(0, .ref (xE (gκ g) 9 0 0)), (1, .int a1)] [] := by
  unfold sX7_collisionsBy at h
  refine G_aload_n X 0 dX7_collisionsBy_0 rfl rfl ?_
  refine f_X7_20 X rfl rfl dX7_collisionsBy_1 ?_
  refine G_bipush X (v := (6 : Int32)) dX7_collisionsBy_4 (by decide) ?_
  obtain ⟨g1, h⟩ := gd_some h
  refine G_iald X rfl (rg_rs _ _ _) g1 dX7_collisionsBy_6 ?_
  refine G_istore_n X (lv' := [(2, .int (gI m 0 2 (ix ((6 : Int32))))), (0, .ref (xE (gκ g) 9 0 0)), (1, .int a1)]) dX7_collisionsBy_7 rfl (by decide) rfl ?_
  refine G_aload_n X 1 dX7_collisionsBy_8 rfl rfl ?_
  refine G_iload_n X 2 dX7_collisionsBy_9 rfl rfl ?_
  obtain ⟨q2, hq2, h⟩ := bd_some h
  refine G_callV X (As := [.int a1]) (rest := []) (T' := rs T 9 q2.1) (st2 := [.int q2.2]) (ct_X7_runs (l := g.2.1) (κ := gκ g)   hq2) cal_X7_runs wM_X7_387 wI_X7_runs wS_X7_runs rfl rfl (by decide) rfl rfl (Nat.le_of_ble_eq_true rfl) ⟨Nat.zero_le _, Nat.zero_le _⟩ dX7_collisionsBy_10 rfl ?_
  refine G_istore_n X (lv' := [(3, .int q2.2), (2, .int (gI m 0 2 (ix ((6 : Int32))))), (0, .ref (xE (gκ g) 9 0 0)), (1, .int a1)]) dX7_collisionsBy_13 rfl (by decide) rfl ?_
  refine G_aload_n X 2 dX7_collisionsBy_14 rfl rfl ?_
  refine f_X7_20 X rfl rfl dX7_collisionsBy_15 ?_
  refine G_bipush X (v := (6 : Int32)) dX7_collisionsBy_18 (by decide) ?_
  obtain ⟨g3, h⟩ := gd_some h
  refine G_iald X rfl (rg_rs _ _ _) g3 dX7_collisionsBy_20 ?_
  refine G_iload_n X 1 dX7_collisionsBy_21 rfl rfl ?_
  refine G_isub X dX7_collisionsBy_22 ?_
  obtain rfl := Option.some.inj h
  exact hf _ _ dX7_collisionsBy_23 rfl
set_option maxRecDepth 20000 in
theorem ct_X7_collisionsBy {l : Launch} {κ : KX} {T : TT}  {m : St} {a1 : Int32} {res : St × Int32}  (h : sX7_collisionsBy m a1 = some res) : Ct l κ yX7_collisionsBy cX7_collisionsBy 4 (some .int) 9 199 [.ref (xE κ 9 0 0), .int a1] (rs T 9 m) (rs T 9 res.1) (some (.int (res.2))) := by
  refine Ct_i RX7 rfl (by decide +kernel) (Nat.le_of_ble_eq_true rfl) (fun g hl hκ X hf => ?_)
  subst hl; subst hκ
  exact gX7_collisionsBy X  hf h
set_option maxRecDepth 20000 in
theorem gX7_collisionsIn {g : GX} {T : TT}  {m : St} {a1 : Int32} {res : St × Int32} (X : CX g RX7 cX7_collisionsIn 2 10 222)  (hf : FinI g cX7_collisionsIn .int (rs T 9 res.1) (res.2)) (h : sX7_collisionsIn m a1 = some res) : G g 0 0 (rs T 9 m) 0 [(0, .ref (xE (gκ g) 9 0 0)), (1, .int a1)] [] := by
  unfold sX7_collisionsIn at h
  refine G_aload_n X 0 dX7_collisionsIn_0 rfl rfl ?_
  refine G_iload_n X 1 dX7_collisionsIn_1 rfl rfl ?_
  obtain ⟨q1, hq1, h⟩ := bd_some h
  refine G_callS X (As := [.int a1]) (rest := [.ref (xE (gκ g) 9 0 0)]) (T' := rs T 9 m) (st2 := [.int q1, .ref (xE (gκ g) 9 0 0)]) (ct_X7_areSlots (l := g.2.1) (κ := gκ g)   hq1) cal_X7_areSlots wM_X7_393 wT_X7_areSlots (by decide) rfl rfl (Nat.le_of_ble_eq_true rfl) ⟨Nat.zero_le _, Nat.zero_le _⟩ dX7_collisionsIn_2 rfl ?_
  obtain ⟨q2, hq2, h⟩ := bd_some h
  refine G_callV X (As := [.int q1]) (rest := []) (T' := rs T 9 q2.1) (st2 := [.int q2.2]) (ct_X7_goes (l := g.2.1) (κ := gκ g)   hq2) cal_X7_goes wM_X7_76 wI_X7_goes wS_X7_goes rfl rfl (by decide) rfl rfl (Nat.le_of_ble_eq_true rfl) ⟨Nat.zero_le _, Nat.zero_le _⟩ dX7_collisionsIn_5 rfl ?_
  refine G_if_ne X (tgt := 13) dX7_collisionsIn_8 (by decide) (fun c3 => ?_) (fun c3 => ?_)
  · have h := it_t c3 h
    refine G_aload_n X 0 dX7_collisionsIn_13 rfl rfl ?_
    obtain ⟨q4, hq4, h⟩ := bd_some h
    refine G_callV X (As := []) (rest := []) (T' := rs T 9 q4) (st2 := []) (ct_X7_leaves (l := g.2.1) (κ := gκ g)   hq4) cal_X7_leaves wM_X7_384 wI_X7_leaves wS_X7_leaves rfl rfl (by decide) rfl rfl (Nat.le_of_ble_eq_true rfl) ⟨Nat.zero_le _, Nat.zero_le _⟩ dX7_collisionsIn_14 rfl ?_
    refine G_aload_n X 0 dX7_collisionsIn_17 rfl rfl ?_
    refine G_aload_n X 0 dX7_collisionsIn_18 rfl rfl ?_
    refine G_iload_n X 1 dX7_collisionsIn_19 rfl rfl ?_
    obtain ⟨q5, hq5, h⟩ := bd_some h
    refine G_callV X (As := [.int a1]) (rest := [.ref (xE (gκ g) 9 0 0)]) (T' := rs T 9 q5.1) (st2 := [.int q5.2, .ref (xE (gκ g) 9 0 0)]) (ct_X7_collisionsBy (l := g.2.1) (κ := gκ g)   hq5) cal_X7_collisionsBy wM_X7_399 wI_X7_collisionsBy wS_X7_collisionsBy rfl rfl (by decide) rfl rfl (Nat.le_of_ble_eq_true rfl) ⟨Nat.zero_le _, Nat.zero_le _⟩ dX7_collisionsIn_20 rfl ?_
    obtain ⟨q6, hq6, h⟩ := bd_some h
    refine G_callV X (As := [.int q5.2]) (rest := []) (T' := rs T 9 q6.1) (st2 := [.int q6.2]) (ct_X7_comesBack (l := g.2.1) (κ := gκ g)   hq6) cal_X7_comesBack wM_X7_390 wI_X7_comesBack wS_X7_comesBack rfl rfl (by decide) rfl rfl (Nat.le_of_ble_eq_true rfl) ⟨Nat.zero_le _, Nat.zero_le _⟩ dX7_collisionsIn_23 rfl ?_
    obtain rfl := Option.some.inj h
    exact hf _ _ dX7_collisionsIn_26 rfl
  · have h := it_f (fun k => k c3) h
    refine G_iconst X (v := (0 : Int32)) dX7_collisionsIn_11 (by decide) ?_
    obtain rfl := Option.some.inj h
    exact hf _ _ dX7_collisionsIn_12 rfl
set_option maxRecDepth 20000 in
theorem ct_X7_collisionsIn {l : Launch} {κ : KX} {T : TT}  {m : St} {a1 : Int32} {res : St × Int32}  (h : sX7_collisionsIn m a1 = some res) : Ct l κ yX7_collisionsIn cX7_collisionsIn 2 (some .int) 10 222 [.ref (xE κ 9 0 0), .int a1] (rs T 9 m) (rs T 9 res.1) (some (.int (res.2))) := by
  refine Ct_i RX7 rfl (by decide +kernel) (Nat.le_of_ble_eq_true rfl) (fun g hl hκ X hf => ?_)
  subst hl; subst hκ
  exact gX7_collisionsIn X  hf h
set_option maxRecDepth 20000 in
theorem gX7_knowsIn_b62 {g : GX} {T : TT}  {m : St} {s0 : Int32} {res : St × Int32}  (X : CX g RX7 cX7_knowsIn 4 8 176)  (hf : FinI g cX7_knowsIn .int (rs T 9 res.1) (res.2))   (h : sX7_knowsIn_b62  m s0 = some res) : G g 0 0 (rs T 9 m) 62 [] [.int s0, .ref (xE (gκ g) 9 0 0)] := by
  unfold sX7_knowsIn_b62 at h
  obtain ⟨q12, hq12, h⟩ := bd_some h
  refine G_callV X (As := [.int s0]) (rest := []) (T' := rs T 9 q12.1) (st2 := [.int q12.2]) (ct_X7_comesBack (l := g.2.1) (κ := gκ g)   hq12) cal_X7_comesBack wM_X7_390 wI_X7_comesBack wS_X7_comesBack rfl rfl (by decide) rfl rfl (Nat.le_of_ble_eq_true rfl) ⟨Nat.zero_le _, Nat.zero_le _⟩ dX7_knowsIn_62 rfl ?_
  obtain rfl := Option.some.inj h
  exact hf _ _ dX7_knowsIn_65 rfl
set_option maxRecDepth 20000 in
theorem gX7_knowsIn_b47 {g : GX} {T : TT}  {m : St} {a1 : Int32} {a2 : Int32} {a3 : Int32} {res : St × Int32}  (X : CX g RX7 cX7_knowsIn 4 8 176)  (hf : FinI g cX7_knowsIn .int (rs T 9 res.1) (res.2))   (h : sX7_knowsIn_b47  m a1 a2 a3 = some res) : G g 0 0 (rs T 9 m) 47 [(0, .ref (xE (gκ g) 9 0 0)), (1, .int a1), (2, .int a2), (3, .int a3)] [] := by
  unfold sX7_knowsIn_b47 at h
  refine G_aload_n X 0 dX7_knowsIn_47 rfl rfl ?_
  refine G_aload_n X 0 dX7_knowsIn_48 rfl rfl ?_
  refine G_iload_n X 1 dX7_knowsIn_49 rfl rfl ?_
  refine G_iload_n X 2 dX7_knowsIn_50 rfl rfl ?_
  obtain ⟨q10, hq10, h⟩ := bd_some h
  refine G_callV X (As := [.int a1, .int a2]) (rest := [.ref (xE (gκ g) 9 0 0)]) (T' := rs T 9 m) (st2 := [.int q10, .ref (xE (gκ g) 9 0 0)]) (ct_X7_isKnown (l := g.2.1) (κ := gκ g)   hq10) cal_X7_isKnown wM_X7_254 wI_X7_isKnown wS_X7_isKnown rfl rfl (by decide) rfl rfl (Nat.le_of_ble_eq_true rfl) ⟨Nat.zero_le _, Nat.zero_le _⟩ dX7_knowsIn_51 rfl ?_
  refine G_if_eq X (tgt := 61) dX7_knowsIn_54 (by decide) (fun c11 => ?_) (fun c11 => ?_)
  · have h := it_t c11 h
    refine G_iconst X (v := (-1 : Int32)) dX7_knowsIn_61 (by decide) ?_
    refine G_sub [] rfl ?_
    exact gX7_knowsIn_b62 X hf h
  · have h := it_f c11 h
    refine G_iload_n X 3 dX7_knowsIn_57 rfl rfl ?_
    refine G_goto X (tgt := 62) dX7_knowsIn_58 (by decide) ?_
    refine G_sub [] rfl ?_
    exact gX7_knowsIn_b62 X hf h
set_option maxRecDepth 20000 in
theorem gX7_knowsIn_b21 {g : GX} {T : TT}   {res : St × Int32}  (X : CX g RX7 cX7_knowsIn 4 8 176)  (hf : FinI g cX7_knowsIn .int (rs T 9 res.1) (res.2))  : ∀ (n : Nat) (m : St) (a1 : Int32) (a2 : Int32) (a3 : Int32) (h : sX7_knowsIn_b21 n  m a1 a2 a3 = some res), G g 0 0 (rs T 9 m) 21 [(0, .ref (xE (gκ g) 9 0 0)), (1, .int a1), (2, .int a2), (3, .int a3)] [] := by
  intro n
  induction n with
  | zero => intro m a1 a2 a3 h; unfold sX7_knowsIn_b21 at h; cases h
  | succ n ih =>
    intro m a1 a2 a3 h
    unfold sX7_knowsIn_b21 at h
    refine G_iload_n X 3 dX7_knowsIn_21 rfl rfl ?_
    refine G_sipush X (v := (300 : Int32)) dX7_knowsIn_22 (by decide) ?_
    refine G_icmp_ge X (tgt := 47) dX7_knowsIn_25 (by decide) (fun c5 => ?_) (fun c5 => ?_)
    · have h := it_t c5 h
      exact gX7_knowsIn_b47 X hf h
    · have h := it_f c5 h
      refine G_aload_n X 0 dX7_knowsIn_28 rfl rfl ?_
      refine G_iload_n X 1 dX7_knowsIn_29 rfl rfl ?_
      refine G_iload_n X 2 dX7_knowsIn_30 rfl rfl ?_
      obtain ⟨q6, hq6, h⟩ := bd_some h
      refine G_callV X (As := [.int a1, .int a2]) (rest := []) (T' := rs T 9 m) (st2 := [.int q6]) (ct_X7_isKnown (l := g.2.1) (κ := gκ g)   hq6) cal_X7_isKnown wM_X7_254 wI_X7_isKnown wS_X7_isKnown rfl rfl (by decide) rfl rfl (Nat.le_of_ble_eq_true rfl) ⟨Nat.zero_le _, Nat.zero_le _⟩ dX7_knowsIn_31 rfl ?_
      refine G_if_ne X (tgt := 47) dX7_knowsIn_34 (by decide) (fun c7 => ?_) (fun c7 => ?_)
      · have h := it_t c7 h
        exact gX7_knowsIn_b47 X hf h
      · have h := it_f (fun k => k c7) h
        refine G_aload_n X 0 dX7_knowsIn_37 rfl rfl ?_
        obtain ⟨q8, hq8, h⟩ := bd_some h
        refine G_callV X (As := []) (rest := []) (T' := rs T 9 q8) (st2 := []) (ct_X7_slot (l := g.2.1) (κ := gκ g)   hq8) cal_X7_slot wM_X7_338 wI_X7_slot wS_X7_slot rfl rfl (by decide) rfl rfl (Nat.le_of_ble_eq_true rfl) ⟨Nat.zero_le _, Nat.zero_le _⟩ dX7_knowsIn_38 rfl ?_
        obtain ⟨v9, ev9, h⟩ := nm_some h
        refine G_iinc X (v := v9) (lv' := [(3, .int v9), (0, .ref (xE (gκ g) 9 0 0)), (1, .int a1), (2, .int a2)]) 3 dX7_knowsIn_41 rfl (by rw [ev9]; rfl) (by decide) rfl ?_
        refine G_goto X (tgt := 21) dX7_knowsIn_44 (by decide) ?_
        refine G_sub [1, 2, 3, 0] rfl ?_
        exact ih _ _ _ _ h
set_option maxRecDepth 20000 in
theorem gX7_knowsIn {g : GX} {T : TT}  {m : St} {a1 : Int32} {a2 : Int32} {res : St × Int32} (X : CX g RX7 cX7_knowsIn 4 8 176)  (hf : FinI g cX7_knowsIn .int (rs T 9 res.1) (res.2)) (h : sX7_knowsIn m a1 a2 = some res) : G g 0 0 (rs T 9 m) 0 [(0, .ref (xE (gκ g) 9 0 0)), (1, .int a1), (2, .int a2)] [] := by
  unfold sX7_knowsIn at h
  refine G_aload_n X 0 dX7_knowsIn_0 rfl rfl ?_
  refine G_aload_n X 0 dX7_knowsIn_1 rfl rfl ?_
  refine G_iload_n X 1 dX7_knowsIn_2 rfl rfl ?_
  refine G_iload_n X 2 dX7_knowsIn_3 rfl rfl ?_
  obtain ⟨q1, hq1, h⟩ := bd_some h
  refine G_callV X (As := [.int a1, .int a2]) (rest := [.ref (xE (gκ g) 9 0 0)]) (T' := rs T 9 m) (st2 := [.int q1, .ref (xE (gκ g) 9 0 0)]) (ct_X7_areBeacons (l := g.2.1) (κ := gκ g)   hq1) cal_X7_areBeacons wM_X7_370 wI_X7_areBeacons wS_X7_areBeacons rfl rfl (by decide) rfl rfl (Nat.le_of_ble_eq_true rfl) ⟨Nat.zero_le _, Nat.zero_le _⟩ dX7_knowsIn_4 rfl ?_
  obtain ⟨q2, hq2, h⟩ := bd_some h
  refine G_callV X (As := [.int q1]) (rest := []) (T' := rs T 9 q2.1) (st2 := [.int q2.2]) (ct_X7_goes (l := g.2.1) (κ := gκ g)   hq2) cal_X7_goes wM_X7_76 wI_X7_goes wS_X7_goes rfl rfl (by decide) rfl rfl (Nat.le_of_ble_eq_true rfl) ⟨Nat.zero_le _, Nat.zero_le _⟩ dX7_knowsIn_7 rfl ?_
  refine G_if_ne X (tgt := 15) dX7_knowsIn_10 (by decide) (fun c3 => ?_) (fun c3 => ?_)
  · have h := it_t c3 h
    refine G_aload_n X 0 dX7_knowsIn_15 rfl rfl ?_
    obtain ⟨q4, hq4, h⟩ := bd_some h
    refine G_callV X (As := []) (rest := []) (T' := rs T 9 q4) (st2 := []) (ct_X7_leaves (l := g.2.1) (κ := gκ g)   hq4) cal_X7_leaves wM_X7_384 wI_X7_leaves wS_X7_leaves rfl rfl (by decide) rfl rfl (Nat.le_of_ble_eq_true rfl) ⟨Nat.zero_le _, Nat.zero_le _⟩ dX7_knowsIn_16 rfl ?_
    refine G_iconst X (v := (0 : Int32)) dX7_knowsIn_19 (by decide) ?_
    refine G_istore_n X (lv' := [(3, .int ((0 : Int32))), (0, .ref (xE (gκ g) 9 0 0)), (1, .int a1), (2, .int a2)]) dX7_knowsIn_20 rfl (by decide) rfl ?_
    refine G_sub [1, 2, 3, 0] rfl ?_
    exact gX7_knowsIn_b21 X hf FU _ _ _ _ h
  · have h := it_f (fun k => k c3) h
    refine G_iconst X (v := (0 : Int32)) dX7_knowsIn_13 (by decide) ?_
    obtain rfl := Option.some.inj h
    exact hf _ _ dX7_knowsIn_14 rfl
set_option maxRecDepth 20000 in
theorem ct_X7_knowsIn {l : Launch} {κ : KX} {T : TT}  {m : St} {a1 : Int32} {a2 : Int32} {res : St × Int32}  (h : sX7_knowsIn m a1 a2 = some res) : Ct l κ yX7_knowsIn cX7_knowsIn 4 (some .int) 8 176 [.ref (xE κ 9 0 0), .int a1, .int a2] (rs T 9 m) (rs T 9 res.1) (some (.int (res.2))) := by
  refine Ct_i RX7 rfl (by decide +kernel) (Nat.le_of_ble_eq_true rfl) (fun g hl hκ X hf => ?_)
  subst hl; subst hκ
  exact gX7_knowsIn X  hf h
set_option maxRecDepth 20000 in
theorem gX7_allKnow_b4 {g : GX} {T : TT}  {m : St} {res : Int32}  (X : CX g RX7 cX7_allKnow 3 5 110)  (hf : FinI g cX7_allKnow .boolean (rs T 9 m) (res))  : ∀ (n : Nat) (a1 : Int32) (a2 : Int32) (h : sX7_allKnow_b4 n  m a1 a2 = some res), G g 0 0 (rs T 9 m) 4 [(0, .ref (xE (gκ g) 9 0 0)), (1, .int a1), (2, .int a2)] [] := by
  intro n
  induction n with
  | zero => intro a1 a2 h; unfold sX7_allKnow_b4 at h; cases h
  | succ n ih =>
    intro a1 a2 h
    unfold sX7_allKnow_b4 at h
    refine G_iload_n X 2 dX7_allKnow_4 rfl rfl ?_
    refine G_aload_n X 0 dX7_allKnow_5 rfl rfl ?_
    refine f_X7_20 X rfl rfl dX7_allKnow_6 ?_
    refine G_iconst X (v := (0 : Int32)) dX7_allKnow_9 (by decide) ?_
    obtain ⟨g1, h⟩ := gd_some h
    refine G_iald X rfl (rg_rs _ _ _) g1 dX7_allKnow_10 ?_
    refine G_icmp_ge X (tgt := 38) dX7_allKnow_11 (by decide) (fun c2 => ?_) (fun c2 => ?_)
    · have h := it_t c2 h
      refine G_iload_n X 1 dX7_allKnow_38 rfl rfl ?_
      obtain ⟨g3, h⟩ := gd_some h
      obtain rfl := Option.some.inj h
      exact hf _ _ dX7_allKnow_39 (isb_n g3)
    · have h := it_f c2 h
      refine G_iload_n X 1 dX7_allKnow_14 rfl rfl ?_
      refine G_if_eq X (tgt := 30) dX7_allKnow_15 (by decide) (fun c4 => ?_) (fun c4 => ?_)
      · have h := it_t c4 h
        refine G_iconst X (v := (0 : Int32)) dX7_allKnow_30 (by decide) ?_
        refine G_istore_n X (lv' := [(1, .int ((0 : Int32))), (0, .ref (xE (gκ g) 9 0 0)), (2, .int a2)]) dX7_allKnow_31 rfl (by decide) rfl ?_
        obtain ⟨v5, ev5, h⟩ := nm_some h
        refine G_iinc X (v := v5) (lv' := [(2, .int v5), (1, .int ((0 : Int32))), (0, .ref (xE (gκ g) 9 0 0))]) 2 dX7_allKnow_32 rfl (by rw [ev5]; rfl) (by decide) rfl ?_
        refine G_goto X (tgt := 4) dX7_allKnow_35 (by decide) ?_
        refine G_sub [2, 1, 0] rfl ?_
        exact ih _ _ h
      · have h := it_f c4 h
        refine G_aload_n X 0 dX7_allKnow_18 rfl rfl ?_
        refine G_iload_n X 2 dX7_allKnow_19 rfl rfl ?_
        obtain ⟨q6, hq6, h⟩ := bd_some h
        refine G_callV X (As := [.int a2]) (rest := []) (T' := rs T 9 m) (st2 := [.int q6]) (ct_X7_knowsAll (l := g.2.1) (κ := gκ g)   hq6) cal_X7_knowsAll wM_X7_279 wI_X7_knowsAll wS_X7_knowsAll rfl rfl (by decide) rfl rfl (Nat.le_of_ble_eq_true rfl) ⟨Nat.zero_le _, Nat.zero_le _⟩ dX7_allKnow_20 rfl ?_
        refine G_if_eq X (tgt := 30) dX7_allKnow_23 (by decide) (fun c7 => ?_) (fun c7 => ?_)
        · have h := it_t c7 h
          refine G_iconst X (v := (0 : Int32)) dX7_allKnow_30 (by decide) ?_
          refine G_istore_n X (lv' := [(1, .int ((0 : Int32))), (0, .ref (xE (gκ g) 9 0 0)), (2, .int a2)]) dX7_allKnow_31 rfl (by decide) rfl ?_
          obtain ⟨v8, ev8, h⟩ := nm_some h
          refine G_iinc X (v := v8) (lv' := [(2, .int v8), (1, .int ((0 : Int32))), (0, .ref (xE (gκ g) 9 0 0))]) 2 dX7_allKnow_32 rfl (by rw [ev8]; rfl) (by decide) rfl ?_
          refine G_goto X (tgt := 4) dX7_allKnow_35 (by decide) ?_
          refine G_sub [2, 1, 0] rfl ?_
          exact ih _ _ h
        · have h := it_f c7 h
          refine G_iconst X (v := (1 : Int32)) dX7_allKnow_26 (by decide) ?_
          refine G_goto X (tgt := 31) dX7_allKnow_27 (by decide) ?_
          refine G_istore_n X (lv' := [(1, .int ((1 : Int32))), (0, .ref (xE (gκ g) 9 0 0)), (2, .int a2)]) dX7_allKnow_31 rfl (by decide) rfl ?_
          obtain ⟨v9, ev9, h⟩ := nm_some h
          refine G_iinc X (v := v9) (lv' := [(2, .int v9), (1, .int ((1 : Int32))), (0, .ref (xE (gκ g) 9 0 0))]) 2 dX7_allKnow_32 rfl (by rw [ev9]; rfl) (by decide) rfl ?_
          refine G_goto X (tgt := 4) dX7_allKnow_35 (by decide) ?_
          refine G_sub [2, 1, 0] rfl ?_
          exact ih _ _ h
set_option maxRecDepth 20000 in
theorem gX7_allKnow {g : GX} {T : TT}  {m : St}  {res : Int32} (X : CX g RX7 cX7_allKnow 3 5 110)  (hf : FinI g cX7_allKnow .boolean (rs T 9 m) (res)) (h : sX7_allKnow m = some res) : G g 0 0 (rs T 9 m) 0 [(0, .ref (xE (gκ g) 9 0 0))] [] := by
  unfold sX7_allKnow at h
  refine G_iconst X (v := (1 : Int32)) dX7_allKnow_0 (by decide) ?_
  refine G_istore_n X (lv' := [(1, .int ((1 : Int32))), (0, .ref (xE (gκ g) 9 0 0))]) dX7_allKnow_1 rfl (by decide) rfl ?_
  refine G_iconst X (v := (0 : Int32)) dX7_allKnow_2 (by decide) ?_
  refine G_istore_n X (lv' := [(2, .int ((0 : Int32))), (1, .int ((1 : Int32))), (0, .ref (xE (gκ g) 9 0 0))]) dX7_allKnow_3 rfl (by decide) rfl ?_
  refine G_sub [2, 1, 0] rfl ?_
  exact gX7_allKnow_b4 X hf FU _ _ h
set_option maxRecDepth 20000 in
theorem ct_X7_allKnow {l : Launch} {κ : KX} {T : TT}  {m : St}  {res : Int32}  (h : sX7_allKnow m = some res) : Ct l κ yX7_allKnow cX7_allKnow 3 (some .boolean) 5 110 [.ref (xE κ 9 0 0)] (rs T 9 m) (rs T 9 m) (some (.int (res))) := by
  refine Ct_i RX7 rfl (by decide +kernel) (Nat.le_of_ble_eq_true rfl) (fun g hl hκ X hf => ?_)
  subst hl; subst hκ
  exact gX7_allKnow X  hf h
set_option maxRecDepth 20000 in
theorem gX7_allKnownIn_b48 {g : GX} {T : TT}  {m : St} {s0 : Int32} {res : St × Int32}  (X : CX g RX7 cX7_allKnownIn 2 8 176)  (hf : FinI g cX7_allKnownIn .int (rs T 9 res.1) (res.2))   (h : sX7_allKnownIn_b48  m s0 = some res) : G g 0 0 (rs T 9 m) 48 [] [.int s0, .ref (xE (gκ g) 9 0 0)] := by
  unfold sX7_allKnownIn_b48 at h
  obtain ⟨q10, hq10, h⟩ := bd_some h
  refine G_callV X (As := [.int s0]) (rest := []) (T' := rs T 9 q10.1) (st2 := [.int q10.2]) (ct_X7_comesBack (l := g.2.1) (κ := gκ g)   hq10) cal_X7_comesBack wM_X7_390 wI_X7_comesBack wS_X7_comesBack rfl rfl (by decide) rfl rfl (Nat.le_of_ble_eq_true rfl) ⟨Nat.zero_le _, Nat.zero_le _⟩ dX7_allKnownIn_48 rfl ?_
  obtain rfl := Option.some.inj h
  exact hf _ _ dX7_allKnownIn_51 rfl
set_option maxRecDepth 20000 in
theorem gX7_allKnownIn_b35 {g : GX} {T : TT}  {m : St} {a1 : Int32} {res : St × Int32}  (X : CX g RX7 cX7_allKnownIn 2 8 176)  (hf : FinI g cX7_allKnownIn .int (rs T 9 res.1) (res.2))   (h : sX7_allKnownIn_b35  m a1 = some res) : G g 0 0 (rs T 9 m) 35 [(0, .ref (xE (gκ g) 9 0 0)), (1, .int a1)] [] := by
  unfold sX7_allKnownIn_b35 at h
  refine G_aload_n X 0 dX7_allKnownIn_35 rfl rfl ?_
  refine G_aload_n X 0 dX7_allKnownIn_36 rfl rfl ?_
  obtain ⟨q8, hq8, h⟩ := bd_some h
  refine G_callV X (As := []) (rest := [.ref (xE (gκ g) 9 0 0)]) (T' := rs T 9 m) (st2 := [.int q8, .ref (xE (gκ g) 9 0 0)]) (ct_X7_allKnow (l := g.2.1) (κ := gκ g)   hq8) cal_X7_allKnow wM_X7_402 wI_X7_allKnow wS_X7_allKnow rfl rfl (by decide) rfl rfl (Nat.le_of_ble_eq_true rfl) ⟨Nat.zero_le _, Nat.zero_le _⟩ dX7_allKnownIn_37 rfl ?_
  refine G_if_eq X (tgt := 47) dX7_allKnownIn_40 (by decide) (fun c9 => ?_) (fun c9 => ?_)
  · have h := it_t c9 h
    refine G_iconst X (v := (-1 : Int32)) dX7_allKnownIn_47 (by decide) ?_
    refine G_sub [] rfl ?_
    exact gX7_allKnownIn_b48 X hf h
  · have h := it_f c9 h
    refine G_iload_n X 1 dX7_allKnownIn_43 rfl rfl ?_
    refine G_goto X (tgt := 48) dX7_allKnownIn_44 (by decide) ?_
    refine G_sub [] rfl ?_
    exact gX7_allKnownIn_b48 X hf h
set_option maxRecDepth 20000 in
theorem gX7_allKnownIn_b11 {g : GX} {T : TT}   {res : St × Int32}  (X : CX g RX7 cX7_allKnownIn 2 8 176)  (hf : FinI g cX7_allKnownIn .int (rs T 9 res.1) (res.2))  : ∀ (n : Nat) (m : St) (a1 : Int32) (h : sX7_allKnownIn_b11 n  m a1 = some res), G g 0 0 (rs T 9 m) 11 [(0, .ref (xE (gκ g) 9 0 0)), (1, .int a1)] [] := by
  intro n
  induction n with
  | zero => intro m a1 h; unfold sX7_allKnownIn_b11 at h; cases h
  | succ n ih =>
    intro m a1 h
    unfold sX7_allKnownIn_b11 at h
    refine G_iload_n X 1 dX7_allKnownIn_11 rfl rfl ?_
    refine G_sipush X (v := (300 : Int32)) dX7_allKnownIn_12 (by decide) ?_
    refine G_icmp_ge X (tgt := 35) dX7_allKnownIn_15 (by decide) (fun c3 => ?_) (fun c3 => ?_)
    · have h := it_t c3 h
      exact gX7_allKnownIn_b35 X hf h
    · have h := it_f c3 h
      refine G_aload_n X 0 dX7_allKnownIn_18 rfl rfl ?_
      obtain ⟨q4, hq4, h⟩ := bd_some h
      refine G_callV X (As := []) (rest := []) (T' := rs T 9 m) (st2 := [.int q4]) (ct_X7_allKnow (l := g.2.1) (κ := gκ g)   hq4) cal_X7_allKnow wM_X7_402 wI_X7_allKnow wS_X7_allKnow rfl rfl (by decide) rfl rfl (Nat.le_of_ble_eq_true rfl) ⟨Nat.zero_le _, Nat.zero_le _⟩ dX7_allKnownIn_19 rfl ?_
      refine G_if_ne X (tgt := 35) dX7_allKnownIn_22 (by decide) (fun c5 => ?_) (fun c5 => ?_)
      · have h := it_t c5 h
        exact gX7_allKnownIn_b35 X hf h
      · have h := it_f (fun k => k c5) h
        refine G_aload_n X 0 dX7_allKnownIn_25 rfl rfl ?_
        obtain ⟨q6, hq6, h⟩ := bd_some h
        refine G_callV X (As := []) (rest := []) (T' := rs T 9 q6) (st2 := []) (ct_X7_slot (l := g.2.1) (κ := gκ g)   hq6) cal_X7_slot wM_X7_338 wI_X7_slot wS_X7_slot rfl rfl (by decide) rfl rfl (Nat.le_of_ble_eq_true rfl) ⟨Nat.zero_le _, Nat.zero_le _⟩ dX7_allKnownIn_26 rfl ?_
        obtain ⟨v7, ev7, h⟩ := nm_some h
        refine G_iinc X (v := v7) (lv' := [(1, .int v7), (0, .ref (xE (gκ g) 9 0 0))]) 1 dX7_allKnownIn_29 rfl (by rw [ev7]; rfl) (by decide) rfl ?_
        refine G_goto X (tgt := 11) dX7_allKnownIn_32 (by decide) ?_
        refine G_sub [1, 0] rfl ?_
        exact ih _ _ h
set_option maxRecDepth 20000 in
theorem gX7_allKnownIn {g : GX} {T : TT}  {m : St}  {res : St × Int32} (X : CX g RX7 cX7_allKnownIn 2 8 176)  (hf : FinI g cX7_allKnownIn .int (rs T 9 res.1) (res.2)) (h : sX7_allKnownIn m = some res) : G g 0 0 (rs T 9 m) 0 [(0, .ref (xE (gκ g) 9 0 0))] [] := by
  unfold sX7_allKnownIn at h
  refine G_aload_n X 0 dX7_allKnownIn_0 rfl rfl ?_
  refine G_iconst X (v := (0 : Int32)) dX7_allKnownIn_1 (by decide) ?_
  obtain ⟨x1, ex1, h⟩ := nm_some h
  refine p_X7_66 X (T' := rs T 9 x1) rfl (rg_rs _ _ _)  (by rw [rs_rs, ex1]) dX7_allKnownIn_2 ?_
  refine G_aload_n X 0 dX7_allKnownIn_5 rfl rfl ?_
  obtain ⟨q2, hq2, h⟩ := bd_some h
  refine G_callV X (As := []) (rest := []) (T' := rs T 9 q2) (st2 := []) (ct_X7_leaves (l := g.2.1) (κ := gκ g)   hq2) cal_X7_leaves wM_X7_384 wI_X7_leaves wS_X7_leaves rfl rfl (by decide) rfl rfl (Nat.le_of_ble_eq_true rfl) ⟨Nat.zero_le _, Nat.zero_le _⟩ dX7_allKnownIn_6 rfl ?_
  refine G_iconst X (v := (0 : Int32)) dX7_allKnownIn_9 (by decide) ?_
  refine G_istore_n X (lv' := [(1, .int ((0 : Int32))), (0, .ref (xE (gκ g) 9 0 0))]) dX7_allKnownIn_10 rfl (by decide) rfl ?_
  refine G_sub [1, 0] rfl ?_
  exact gX7_allKnownIn_b11 X hf FU _ _ h
set_option maxRecDepth 20000 in
theorem ct_X7_allKnownIn {l : Launch} {κ : KX} {T : TT}  {m : St}  {res : St × Int32}  (h : sX7_allKnownIn m = some res) : Ct l κ yX7_allKnownIn cX7_allKnownIn 2 (some .int) 8 176 [.ref (xE κ 9 0 0)] (rs T 9 m) (rs T 9 res.1) (some (.int (res.2))) := by
  refine Ct_i RX7 rfl (by decide +kernel) (Nat.le_of_ble_eq_true rfl) (fun g hl hκ X hf => ?_)
  subst hl; subst hκ
  exact gX7_allKnownIn X  hf h
set_option maxRecDepth 20000 in
theorem gX7_stateWithin_b47 {g : GX} {T : TT}  {m : St} {s0 : Int32} {res : St × Int32}  (X : CX g RX7 cX7_stateWithin 4 8 176)  (hf : FinI g cX7_stateWithin .int (rs T 9 res.1) (res.2))   (h : sX7_stateWithin_b47  m s0 = some res) : G g 0 0 (rs T 9 m) 47 [] [.int s0, .ref (xE (gκ g) 9 0 0)] := by
  unfold sX7_stateWithin_b47 at h
  obtain ⟨q9, hq9, h⟩ := bd_some h
  refine G_callV X (As := [.int s0]) (rest := []) (T' := rs T 9 q9.1) (st2 := [.int q9.2]) (ct_X7_comesBack (l := g.2.1) (κ := gκ g)   hq9) cal_X7_comesBack wM_X7_390 wI_X7_comesBack wS_X7_comesBack rfl rfl (by decide) rfl rfl (Nat.le_of_ble_eq_true rfl) ⟨Nat.zero_le _, Nat.zero_le _⟩ dX7_stateWithin_47 rfl ?_
  obtain rfl := Option.some.inj h
  exact hf _ _ dX7_stateWithin_50 rfl
set_option maxRecDepth 20000 in
theorem gX7_stateWithin_b32 {g : GX} {T : TT}  {m : St} {a1 : Int32} {a2 : Int32} {a3 : Int32} {res : St × Int32}  (X : CX g RX7 cX7_stateWithin 4 8 176)  (hf : FinI g cX7_stateWithin .int (rs T 9 res.1) (res.2))   (h : sX7_stateWithin_b32  m a1 a2 a3 = some res) : G g 0 0 (rs T 9 m) 32 [(0, .ref (xE (gκ g) 9 0 0)), (1, .int a1), (2, .int a2), (3, .int a3)] [] := by
  unfold sX7_stateWithin_b32 at h
  refine G_aload_n X 0 dX7_stateWithin_32 rfl rfl ?_
  refine G_aload_n X 0 dX7_stateWithin_33 rfl rfl ?_
  refine G_iload_n X 1 dX7_stateWithin_34 rfl rfl ?_
  refine G_iload_n X 2 dX7_stateWithin_35 rfl rfl ?_
  obtain ⟨q7, hq7, h⟩ := bd_some h
  refine G_callV X (As := [.int a1, .int a2]) (rest := [.ref (xE (gκ g) 9 0 0)]) (T' := rs T 9 m) (st2 := [.int q7, .ref (xE (gκ g) 9 0 0)]) (ct_X7_isAt (l := g.2.1) (κ := gκ g)   hq7) cal_X7_isAt wM_X7_297 wI_X7_isAt wS_X7_isAt rfl rfl (by decide) rfl rfl (Nat.le_of_ble_eq_true rfl) ⟨Nat.zero_le _, Nat.zero_le _⟩ dX7_stateWithin_36 rfl ?_
  refine G_if_eq X (tgt := 46) dX7_stateWithin_39 (by decide) (fun c8 => ?_) (fun c8 => ?_)
  · have h := it_t c8 h
    refine G_iconst X (v := (-1 : Int32)) dX7_stateWithin_46 (by decide) ?_
    refine G_sub [] rfl ?_
    exact gX7_stateWithin_b47 X hf h
  · have h := it_f c8 h
    refine G_iload_n X 3 dX7_stateWithin_42 rfl rfl ?_
    refine G_goto X (tgt := 47) dX7_stateWithin_43 (by decide) ?_
    refine G_sub [] rfl ?_
    exact gX7_stateWithin_b47 X hf h
set_option maxRecDepth 20000 in
theorem gX7_stateWithin_b6 {g : GX} {T : TT}   {res : St × Int32}  (X : CX g RX7 cX7_stateWithin 4 8 176)  (hf : FinI g cX7_stateWithin .int (rs T 9 res.1) (res.2))  : ∀ (n : Nat) (m : St) (a1 : Int32) (a2 : Int32) (a3 : Int32) (h : sX7_stateWithin_b6 n  m a1 a2 a3 = some res), G g 0 0 (rs T 9 m) 6 [(0, .ref (xE (gκ g) 9 0 0)), (1, .int a1), (2, .int a2), (3, .int a3)] [] := by
  intro n
  induction n with
  | zero => intro m a1 a2 a3 h; unfold sX7_stateWithin_b6 at h; cases h
  | succ n ih =>
    intro m a1 a2 a3 h
    unfold sX7_stateWithin_b6 at h
    refine G_iload_n X 3 dX7_stateWithin_6 rfl rfl ?_
    refine G_sipush X (v := (300 : Int32)) dX7_stateWithin_7 (by decide) ?_
    refine G_icmp_ge X (tgt := 32) dX7_stateWithin_10 (by decide) (fun c2 => ?_) (fun c2 => ?_)
    · have h := it_t c2 h
      exact gX7_stateWithin_b32 X hf h
    · have h := it_f c2 h
      refine G_aload_n X 0 dX7_stateWithin_13 rfl rfl ?_
      refine G_iload_n X 1 dX7_stateWithin_14 rfl rfl ?_
      refine G_iload_n X 2 dX7_stateWithin_15 rfl rfl ?_
      obtain ⟨q3, hq3, h⟩ := bd_some h
      refine G_callV X (As := [.int a1, .int a2]) (rest := []) (T' := rs T 9 m) (st2 := [.int q3]) (ct_X7_isAt (l := g.2.1) (κ := gκ g)   hq3) cal_X7_isAt wM_X7_297 wI_X7_isAt wS_X7_isAt rfl rfl (by decide) rfl rfl (Nat.le_of_ble_eq_true rfl) ⟨Nat.zero_le _, Nat.zero_le _⟩ dX7_stateWithin_16 rfl ?_
      refine G_if_ne X (tgt := 32) dX7_stateWithin_19 (by decide) (fun c4 => ?_) (fun c4 => ?_)
      · have h := it_t c4 h
        exact gX7_stateWithin_b32 X hf h
      · have h := it_f (fun k => k c4) h
        refine G_aload_n X 0 dX7_stateWithin_22 rfl rfl ?_
        obtain ⟨q5, hq5, h⟩ := bd_some h
        refine G_callV X (As := []) (rest := []) (T' := rs T 9 q5) (st2 := []) (ct_X7_slot (l := g.2.1) (κ := gκ g)   hq5) cal_X7_slot wM_X7_338 wI_X7_slot wS_X7_slot rfl rfl (by decide) rfl rfl (Nat.le_of_ble_eq_true rfl) ⟨Nat.zero_le _, Nat.zero_le _⟩ dX7_stateWithin_23 rfl ?_
        obtain ⟨v6, ev6, h⟩ := nm_some h
        refine G_iinc X (v := v6) (lv' := [(3, .int v6), (0, .ref (xE (gκ g) 9 0 0)), (1, .int a1), (2, .int a2)]) 3 dX7_stateWithin_26 rfl (by rw [ev6]; rfl) (by decide) rfl ?_
        refine G_goto X (tgt := 6) dX7_stateWithin_29 (by decide) ?_
        refine G_sub [1, 2, 3, 0] rfl ?_
        exact ih _ _ _ _ h
set_option maxRecDepth 20000 in
theorem gX7_stateWithin {g : GX} {T : TT}  {m : St} {a1 : Int32} {a2 : Int32} {res : St × Int32} (X : CX g RX7 cX7_stateWithin 4 8 176)  (hf : FinI g cX7_stateWithin .int (rs T 9 res.1) (res.2)) (h : sX7_stateWithin m a1 a2 = some res) : G g 0 0 (rs T 9 m) 0 [(0, .ref (xE (gκ g) 9 0 0)), (1, .int a1), (2, .int a2)] [] := by
  unfold sX7_stateWithin at h
  refine G_aload_n X 0 dX7_stateWithin_0 rfl rfl ?_
  obtain ⟨q1, hq1, h⟩ := bd_some h
  refine G_callV X (As := []) (rest := []) (T' := rs T 9 q1) (st2 := []) (ct_X7_leaves (l := g.2.1) (κ := gκ g)   hq1) cal_X7_leaves wM_X7_384 wI_X7_leaves wS_X7_leaves rfl rfl (by decide) rfl rfl (Nat.le_of_ble_eq_true rfl) ⟨Nat.zero_le _, Nat.zero_le _⟩ dX7_stateWithin_1 rfl ?_
  refine G_iconst X (v := (0 : Int32)) dX7_stateWithin_4 (by decide) ?_
  refine G_istore_n X (lv' := [(3, .int ((0 : Int32))), (0, .ref (xE (gκ g) 9 0 0)), (1, .int a1), (2, .int a2)]) dX7_stateWithin_5 rfl (by decide) rfl ?_
  refine G_sub [1, 2, 3, 0] rfl ?_
  exact gX7_stateWithin_b6 X hf FU _ _ _ _ h
set_option maxRecDepth 20000 in
theorem ct_X7_stateWithin {l : Launch} {κ : KX} {T : TT}  {m : St} {a1 : Int32} {a2 : Int32} {res : St × Int32}  (h : sX7_stateWithin m a1 a2 = some res) : Ct l κ yX7_stateWithin cX7_stateWithin 4 (some .int) 8 176 [.ref (xE κ 9 0 0), .int a1, .int a2] (rs T 9 m) (rs T 9 res.1) (some (.int (res.2))) := by
  refine Ct_i RX7 rfl (by decide +kernel) (Nat.le_of_ble_eq_true rfl) (fun g hl hκ X hf => ?_)
  subst hl; subst hκ
  exact gX7_stateWithin X  hf h
set_option maxRecDepth 20000 in
theorem gX7_outIn {g : GX} {T : TT}  {m : St} {a1 : Int32} {res : St × Int32} (X : CX g RX7 cX7_outIn 2 9 199)  (hf : FinI g cX7_outIn .int (rs T 9 res.1) (res.2)) (h : sX7_outIn m a1 = some res) : G g 0 0 (rs T 9 m) 0 [(0, .ref (xE (gκ g) 9 0 0)), (1, .int a1)] [] := by
  unfold sX7_outIn at h
  refine G_aload_n X 0 dX7_outIn_0 rfl rfl ?_
  refine G_aload_n X 0 dX7_outIn_1 rfl rfl ?_
  refine G_iload_n X 1 dX7_outIn_2 rfl rfl ?_
  obtain ⟨q1, hq1, h⟩ := bd_some h
  refine G_callV X (As := [.int a1]) (rest := [.ref (xE (gκ g) 9 0 0)]) (T' := rs T 9 m) (st2 := [.int q1, .ref (xE (gκ g) 9 0 0)]) (ct_X7_isBeacon (l := g.2.1) (κ := gκ g)   hq1) cal_X7_isBeacon wM_X7_341 wI_X7_isBeacon wS_X7_isBeacon rfl rfl (by decide) rfl rfl (Nat.le_of_ble_eq_true rfl) ⟨Nat.zero_le _, Nat.zero_le _⟩ dX7_outIn_3 rfl ?_
  obtain ⟨q2, hq2, h⟩ := bd_some h
  refine G_callV X (As := [.int q1]) (rest := []) (T' := rs T 9 q2.1) (st2 := [.int q2.2]) (ct_X7_goes (l := g.2.1) (κ := gκ g)   hq2) cal_X7_goes wM_X7_76 wI_X7_goes wS_X7_goes rfl rfl (by decide) rfl rfl (Nat.le_of_ble_eq_true rfl) ⟨Nat.zero_le _, Nat.zero_le _⟩ dX7_outIn_6 rfl ?_
  refine G_if_eq X (tgt := 21) dX7_outIn_9 (by decide) (fun c3 => ?_) (fun c3 => ?_)
  · have h := it_t c3 h
    refine G_iconst X (v := (0 : Int32)) dX7_outIn_21 (by decide) ?_
    obtain rfl := Option.some.inj h
    exact hf _ _ dX7_outIn_22 rfl
  · have h := it_f c3 h
    refine G_aload_n X 0 dX7_outIn_12 rfl rfl ?_
    refine G_iload_n X 1 dX7_outIn_13 rfl rfl ?_
    refine G_iconst X (v := (4 : Int32)) dX7_outIn_14 (by decide) ?_
    obtain ⟨q4, hq4, h⟩ := bd_some h
    refine G_callV X (As := [.int a1, .int ((4 : Int32))]) (rest := []) (T' := rs T 9 q4.1) (st2 := [.int q4.2]) (ct_X7_stateWithin (l := g.2.1) (κ := gκ g)   hq4) cal_X7_stateWithin wM_X7_405 wI_X7_stateWithin wS_X7_stateWithin rfl rfl (by decide) rfl rfl (Nat.le_of_ble_eq_true rfl) ⟨Nat.zero_le _, Nat.zero_le _⟩ dX7_outIn_15 rfl ?_
    refine G_goto X (tgt := 22) dX7_outIn_18 (by decide) ?_
    obtain rfl := Option.some.inj h
    exact hf _ _ dX7_outIn_22 rfl
set_option maxRecDepth 20000 in
theorem ct_X7_outIn {l : Launch} {κ : KX} {T : TT}  {m : St} {a1 : Int32} {res : St × Int32}  (h : sX7_outIn m a1 = some res) : Ct l κ yX7_outIn cX7_outIn 2 (some .int) 9 199 [.ref (xE κ 9 0 0), .int a1] (rs T 9 m) (rs T 9 res.1) (some (.int (res.2))) := by
  refine Ct_i RX7 rfl (by decide +kernel) (Nat.le_of_ble_eq_true rfl) (fun g hl hκ X hf => ?_)
  subst hl; subst hκ
  exact gX7_outIn X  hf h
set_option maxRecDepth 20000 in
theorem gX7_sendsIn_b31 {g : GX} {T : TT}   {res : St × Int32}  (X : CX g RX7 cX7_sendsIn 3 8 176)  (hf : FinI g cX7_sendsIn .int (rs T 9 res.1) (res.2))  : ∀ (n : Nat) (m : St) (a1 : Int32) (a2 : Int32) (h : sX7_sendsIn_b31 n  m a1 a2 = some res), G g 0 0 (rs T 9 m) 31 [(0, .ref (xE (gκ g) 9 0 0)), (1, .int a1), (2, .int a2)] [] := by
  intro n
  induction n with
  | zero => intro m a1 a2 h; unfold sX7_sendsIn_b31 at h; cases h
  | succ n ih =>
    intro m a1 a2 h
    unfold sX7_sendsIn_b31 at h
    refine G_iload_n X 2 dX7_sendsIn_31 rfl rfl ?_
    refine G_sipush X (v := (300 : Int32)) dX7_sendsIn_32 (by decide) ?_
    refine G_icmp_gt X (tgt := 68) dX7_sendsIn_35 (by decide) (fun c7 => ?_) (fun c7 => ?_)
    · have h := it_t c7 h
      refine G_aload_n X 0 dX7_sendsIn_68 rfl rfl ?_
      refine G_iconst X (v := (-1 : Int32)) dX7_sendsIn_69 (by decide) ?_
      obtain ⟨q8, hq8, h⟩ := bd_some h
      refine G_callV X (As := [.int ((-1 : Int32))]) (rest := []) (T' := rs T 9 q8.1) (st2 := [.int q8.2]) (ct_X7_comesBack (l := g.2.1) (κ := gκ g)   hq8) cal_X7_comesBack wM_X7_390 wI_X7_comesBack wS_X7_comesBack rfl rfl (by decide) rfl rfl (Nat.le_of_ble_eq_true rfl) ⟨Nat.zero_le _, Nat.zero_le _⟩ dX7_sendsIn_70 rfl ?_
      obtain rfl := Option.some.inj h
      exact hf _ _ dX7_sendsIn_73 rfl
    · have h := it_f c7 h
      refine G_aload_n X 0 dX7_sendsIn_38 rfl rfl ?_
      obtain ⟨q9, hq9, h⟩ := bd_some h
      refine G_callV X (As := []) (rest := []) (T' := rs T 9 q9) (st2 := []) (ct_X7_slot (l := g.2.1) (κ := gκ g)   hq9) cal_X7_slot wM_X7_338 wI_X7_slot wS_X7_slot rfl rfl (by decide) rfl rfl (Nat.le_of_ble_eq_true rfl) ⟨Nat.zero_le _, Nat.zero_le _⟩ dX7_sendsIn_39 rfl ?_
      refine G_aload_n X 0 dX7_sendsIn_42 rfl rfl ?_
      refine f_X7_20 X rfl rfl dX7_sendsIn_43 ?_
      refine G_bipush X (v := (12 : Int32)) dX7_sendsIn_46 (by decide) ?_
      obtain ⟨g10, h⟩ := gd_some h
      refine G_iald X rfl (rg_rs _ _ _) g10 dX7_sendsIn_48 ?_
      refine G_iload_n X 1 dX7_sendsIn_49 rfl rfl ?_
      obtain ⟨q11, hq11, h⟩ := bd_some h
      refine G_callS X (As := [.int (gI q9 0 2 (ix ((12 : Int32)))), .int a1]) (rest := []) (T' := rs T 9 q9) (st2 := [.int q11]) (ct_X7_has (l := g.2.1) (κ := gκ g)   hq11) cal_X7_has wM_X7_180 wT_X7_has (by decide) rfl rfl (Nat.le_of_ble_eq_true rfl) ⟨Nat.zero_le _, Nat.zero_le _⟩ dX7_sendsIn_50 rfl ?_
      refine G_if_eq X (tgt := 62) dX7_sendsIn_53 (by decide) (fun c12 => ?_) (fun c12 => ?_)
      · have h := it_t c12 h
        obtain ⟨v13, ev13, h⟩ := nm_some h
        refine G_iinc X (v := v13) (lv' := [(2, .int v13), (0, .ref (xE (gκ g) 9 0 0)), (1, .int a1)]) 2 dX7_sendsIn_62 rfl (by rw [ev13]; rfl) (by decide) rfl ?_
        refine G_goto X (tgt := 31) dX7_sendsIn_65 (by decide) ?_
        refine G_sub [1, 2, 0] rfl ?_
        exact ih _ _ _ h
      · have h := it_f c12 h
        refine G_aload_n X 0 dX7_sendsIn_56 rfl rfl ?_
        refine G_iload_n X 2 dX7_sendsIn_57 rfl rfl ?_
        obtain ⟨q14, hq14, h⟩ := bd_some h
        refine G_callV X (As := [.int a2]) (rest := []) (T' := rs T 9 q14.1) (st2 := [.int q14.2]) (ct_X7_comesBack (l := g.2.1) (κ := gκ g)   hq14) cal_X7_comesBack wM_X7_390 wI_X7_comesBack wS_X7_comesBack rfl rfl (by decide) rfl rfl (Nat.le_of_ble_eq_true rfl) ⟨Nat.zero_le _, Nat.zero_le _⟩ dX7_sendsIn_58 rfl ?_
        obtain rfl := Option.some.inj h
        exact hf _ _ dX7_sendsIn_61 rfl
set_option maxRecDepth 20000 in
theorem gX7_sendsIn {g : GX} {T : TT}  {m : St} {a1 : Int32} {res : St × Int32} (X : CX g RX7 cX7_sendsIn 3 8 176)  (hf : FinI g cX7_sendsIn .int (rs T 9 res.1) (res.2)) (h : sX7_sendsIn m a1 = some res) : G g 0 0 (rs T 9 m) 0 [(0, .ref (xE (gκ g) 9 0 0)), (1, .int a1)] [] := by
  unfold sX7_sendsIn at h
  refine G_aload_n X 0 dX7_sendsIn_0 rfl rfl ?_
  refine G_aload_n X 0 dX7_sendsIn_1 rfl rfl ?_
  refine G_iload_n X 1 dX7_sendsIn_2 rfl rfl ?_
  obtain ⟨q1, hq1, h⟩ := bd_some h
  refine G_callV X (As := [.int a1]) (rest := [.ref (xE (gκ g) 9 0 0)]) (T' := rs T 9 m) (st2 := [.int q1, .ref (xE (gκ g) 9 0 0)]) (ct_X7_isBeacon (l := g.2.1) (κ := gκ g)   hq1) cal_X7_isBeacon wM_X7_341 wI_X7_isBeacon wS_X7_isBeacon rfl rfl (by decide) rfl rfl (Nat.le_of_ble_eq_true rfl) ⟨Nat.zero_le _, Nat.zero_le _⟩ dX7_sendsIn_3 rfl ?_
  obtain ⟨q2, hq2, h⟩ := bd_some h
  refine G_callV X (As := [.int q1]) (rest := []) (T' := rs T 9 q2.1) (st2 := [.int q2.2]) (ct_X7_goes (l := g.2.1) (κ := gκ g)   hq2) cal_X7_goes wM_X7_76 wI_X7_goes wS_X7_goes rfl rfl (by decide) rfl rfl (Nat.le_of_ble_eq_true rfl) ⟨Nat.zero_le _, Nat.zero_le _⟩ dX7_sendsIn_6 rfl ?_
  refine G_if_ne X (tgt := 14) dX7_sendsIn_9 (by decide) (fun c3 => ?_) (fun c3 => ?_)
  · have h := it_t c3 h
    refine G_aload_n X 0 dX7_sendsIn_14 rfl rfl ?_
    refine G_iload_n X 1 dX7_sendsIn_15 rfl rfl ?_
    refine G_iconst X (v := (3 : Int32)) dX7_sendsIn_16 (by decide) ?_
    obtain ⟨q4, hq4, h⟩ := bd_some h
    refine G_callV X (As := [.int a1, .int ((3 : Int32))]) (rest := []) (T' := rs T 9 q2.1) (st2 := [.int q4]) (ct_X7_isAt (l := g.2.1) (κ := gκ g)   hq4) cal_X7_isAt wM_X7_297 wI_X7_isAt wS_X7_isAt rfl rfl (by decide) rfl rfl (Nat.le_of_ble_eq_true rfl) ⟨Nat.zero_le _, Nat.zero_le _⟩ dX7_sendsIn_17 rfl ?_
    refine G_if_eq X (tgt := 25) dX7_sendsIn_20 (by decide) (fun c5 => ?_) (fun c5 => ?_)
    · have h := it_t c5 h
      refine G_aload_n X 0 dX7_sendsIn_25 rfl rfl ?_
      obtain ⟨q6, hq6, h⟩ := bd_some h
      refine G_callV X (As := []) (rest := []) (T' := rs T 9 q6) (st2 := []) (ct_X7_leaves (l := g.2.1) (κ := gκ g)   hq6) cal_X7_leaves wM_X7_384 wI_X7_leaves wS_X7_leaves rfl rfl (by decide) rfl rfl (Nat.le_of_ble_eq_true rfl) ⟨Nat.zero_le _, Nat.zero_le _⟩ dX7_sendsIn_26 rfl ?_
      refine G_iconst X (v := (1 : Int32)) dX7_sendsIn_29 (by decide) ?_
      refine G_istore_n X (lv' := [(2, .int ((1 : Int32))), (0, .ref (xE (gκ g) 9 0 0)), (1, .int a1)]) dX7_sendsIn_30 rfl (by decide) rfl ?_
      refine G_sub [1, 2, 0] rfl ?_
      exact gX7_sendsIn_b31 X hf FU _ _ _ h
    · have h := it_f c5 h
      refine G_iconst X (v := (0 : Int32)) dX7_sendsIn_23 (by decide) ?_
      obtain rfl := Option.some.inj h
      exact hf _ _ dX7_sendsIn_24 rfl
  · have h := it_f (fun k => k c3) h
    refine G_iconst X (v := (0 : Int32)) dX7_sendsIn_12 (by decide) ?_
    obtain rfl := Option.some.inj h
    exact hf _ _ dX7_sendsIn_13 rfl
set_option maxRecDepth 20000 in
theorem ct_X7_sendsIn {l : Launch} {κ : KX} {T : TT}  {m : St} {a1 : Int32} {res : St × Int32}  (h : sX7_sendsIn m a1 = some res) : Ct l κ yX7_sendsIn cX7_sendsIn 3 (some .int) 8 176 [.ref (xE κ 9 0 0), .int a1] (rs T 9 m) (rs T 9 res.1) (some (.int (res.2))) := by
  refine Ct_i RX7 rfl (by decide +kernel) (Nat.le_of_ble_eq_true rfl) (fun g hl hκ X hf => ?_)
  subst hl; subst hκ
  exact gX7_sendsIn X  hf h
set_option maxRecDepth 20000 in
theorem gX7_wellIn_b28 {g : GX} {T : TT}   {res : St × Int32}  (X : CX g RX7 cX7_wellIn 4 8 176)  (hf : FinI g cX7_wellIn .int (rs T 9 res.1) (res.2))  : ∀ (n : Nat) (m : St) (a1 : Int32) (a2 : Int32) (a3 : Int32) (h : sX7_wellIn_b28 n  m a1 a2 a3 = some res), G g 0 0 (rs T 9 m) 28 [(0, .ref (xE (gκ g) 9 0 0)), (1, .int a1), (2, .int a2), (3, .int a3)] [] := by
  intro n
  induction n with
  | zero => intro m a1 a2 a3 h; unfold sX7_wellIn_b28 at h; cases h
  | succ n ih =>
    intro m a1 a2 a3 h
    unfold sX7_wellIn_b28 at h
    refine G_iload_n X 3 dX7_wellIn_28 rfl rfl ?_
    refine G_sipush X (v := (300 : Int32)) dX7_wellIn_29 (by decide) ?_
    refine G_icmp_gt X (tgt := 62) dX7_wellIn_32 (by decide) (fun c6 => ?_) (fun c6 => ?_)
    · have h := it_t c6 h
      refine G_aload_n X 0 dX7_wellIn_62 rfl rfl ?_
      refine G_iconst X (v := (-1 : Int32)) dX7_wellIn_63 (by decide) ?_
      obtain ⟨q7, hq7, h⟩ := bd_some h
      refine G_callV X (As := [.int ((-1 : Int32))]) (rest := []) (T' := rs T 9 q7.1) (st2 := [.int q7.2]) (ct_X7_comesBack (l := g.2.1) (κ := gκ g)   hq7) cal_X7_comesBack wM_X7_390 wI_X7_comesBack wS_X7_comesBack rfl rfl (by decide) rfl rfl (Nat.le_of_ble_eq_true rfl) ⟨Nat.zero_le _, Nat.zero_le _⟩ dX7_wellIn_64 rfl ?_
      obtain rfl := Option.some.inj h
      exact hf _ _ dX7_wellIn_67 rfl
    · have h := it_f c6 h
      refine G_aload_n X 0 dX7_wellIn_35 rfl rfl ?_
      obtain ⟨q8, hq8, h⟩ := bd_some h
      refine G_callV X (As := []) (rest := []) (T' := rs T 9 q8) (st2 := []) (ct_X7_slot (l := g.2.1) (κ := gκ g)   hq8) cal_X7_slot wM_X7_338 wI_X7_slot wS_X7_slot rfl rfl (by decide) rfl rfl (Nat.le_of_ble_eq_true rfl) ⟨Nat.zero_le _, Nat.zero_le _⟩ dX7_wellIn_36 rfl ?_
      refine G_aload_n X 0 dX7_wellIn_39 rfl rfl ?_
      refine G_iload_n X 1 dX7_wellIn_40 rfl rfl ?_
      refine G_bipush X (v := (11 : Int32)) dX7_wellIn_41 (by decide) ?_
      obtain ⟨q9, hq9, h⟩ := bd_some h
      refine G_callV X (As := [.int a1, .int ((11 : Int32))]) (rest := []) (T' := rs T 9 q8) (st2 := [.int q9]) (ct_X7_of (l := g.2.1) (κ := gκ g)   hq9) cal_X7_of wM_X7_251 wI_X7_of wS_X7_of rfl rfl (by decide) rfl rfl (Nat.le_of_ble_eq_true rfl) ⟨Nat.zero_le _, Nat.zero_le _⟩ dX7_wellIn_43 rfl ?_
      refine G_iload_n X 2 dX7_wellIn_46 rfl rfl ?_
      refine G_icmp_le X (tgt := 56) dX7_wellIn_47 (by decide) (fun c10 => ?_) (fun c10 => ?_)
      · have h := it_t c10 h
        obtain ⟨v11, ev11, h⟩ := nm_some h
        refine G_iinc X (v := v11) (lv' := [(3, .int v11), (0, .ref (xE (gκ g) 9 0 0)), (1, .int a1), (2, .int a2)]) 3 dX7_wellIn_56 rfl (by rw [ev11]; rfl) (by decide) rfl ?_
        refine G_goto X (tgt := 28) dX7_wellIn_59 (by decide) ?_
        refine G_sub [1, 2, 3, 0] rfl ?_
        exact ih _ _ _ _ h
      · have h := it_f c10 h
        refine G_aload_n X 0 dX7_wellIn_50 rfl rfl ?_
        refine G_iload_n X 3 dX7_wellIn_51 rfl rfl ?_
        obtain ⟨q12, hq12, h⟩ := bd_some h
        refine G_callV X (As := [.int a3]) (rest := []) (T' := rs T 9 q12.1) (st2 := [.int q12.2]) (ct_X7_comesBack (l := g.2.1) (κ := gκ g)   hq12) cal_X7_comesBack wM_X7_390 wI_X7_comesBack wS_X7_comesBack rfl rfl (by decide) rfl rfl (Nat.le_of_ble_eq_true rfl) ⟨Nat.zero_le _, Nat.zero_le _⟩ dX7_wellIn_52 rfl ?_
        obtain rfl := Option.some.inj h
        exact hf _ _ dX7_wellIn_55 rfl
set_option maxRecDepth 20000 in
theorem gX7_wellIn {g : GX} {T : TT}  {m : St} {a1 : Int32} {res : St × Int32} (X : CX g RX7 cX7_wellIn 4 8 176)  (hf : FinI g cX7_wellIn .int (rs T 9 res.1) (res.2)) (h : sX7_wellIn m a1 = some res) : G g 0 0 (rs T 9 m) 0 [(0, .ref (xE (gκ g) 9 0 0)), (1, .int a1)] [] := by
  unfold sX7_wellIn at h
  refine G_aload_n X 0 dX7_wellIn_0 rfl rfl ?_
  refine G_aload_n X 0 dX7_wellIn_1 rfl rfl ?_
  refine G_iload_n X 1 dX7_wellIn_2 rfl rfl ?_
  obtain ⟨q1, hq1, h⟩ := bd_some h
  refine G_callV X (As := [.int a1]) (rest := [.ref (xE (gκ g) 9 0 0)]) (T' := rs T 9 m) (st2 := [.int q1, .ref (xE (gκ g) 9 0 0)]) (ct_X7_isBeacon (l := g.2.1) (κ := gκ g)   hq1) cal_X7_isBeacon wM_X7_341 wI_X7_isBeacon wS_X7_isBeacon rfl rfl (by decide) rfl rfl (Nat.le_of_ble_eq_true rfl) ⟨Nat.zero_le _, Nat.zero_le _⟩ dX7_wellIn_3 rfl ?_
  obtain ⟨q2, hq2, h⟩ := bd_some h
  refine G_callV X (As := [.int q1]) (rest := []) (T' := rs T 9 q2.1) (st2 := [.int q2.2]) (ct_X7_goes (l := g.2.1) (κ := gκ g)   hq2) cal_X7_goes wM_X7_76 wI_X7_goes wS_X7_goes rfl rfl (by decide) rfl rfl (Nat.le_of_ble_eq_true rfl) ⟨Nat.zero_le _, Nat.zero_le _⟩ dX7_wellIn_6 rfl ?_
  refine G_if_ne X (tgt := 14) dX7_wellIn_9 (by decide) (fun c3 => ?_) (fun c3 => ?_)
  · have h := it_t c3 h
    refine G_aload_n X 0 dX7_wellIn_14 rfl rfl ?_
    obtain ⟨q4, hq4, h⟩ := bd_some h
    refine G_callV X (As := []) (rest := []) (T' := rs T 9 q4) (st2 := []) (ct_X7_leaves (l := g.2.1) (κ := gκ g)   hq4) cal_X7_leaves wM_X7_384 wI_X7_leaves wS_X7_leaves rfl rfl (by decide) rfl rfl (Nat.le_of_ble_eq_true rfl) ⟨Nat.zero_le _, Nat.zero_le _⟩ dX7_wellIn_15 rfl ?_
    refine G_aload_n X 0 dX7_wellIn_18 rfl rfl ?_
    refine G_iload_n X 1 dX7_wellIn_19 rfl rfl ?_
    refine G_bipush X (v := (11 : Int32)) dX7_wellIn_20 (by decide) ?_
    obtain ⟨q5, hq5, h⟩ := bd_some h
    refine G_callV X (As := [.int a1, .int ((11 : Int32))]) (rest := []) (T' := rs T 9 q4) (st2 := [.int q5]) (ct_X7_of (l := g.2.1) (κ := gκ g)   hq5) cal_X7_of wM_X7_251 wI_X7_of wS_X7_of rfl rfl (by decide) rfl rfl (Nat.le_of_ble_eq_true rfl) ⟨Nat.zero_le _, Nat.zero_le _⟩ dX7_wellIn_22 rfl ?_
    refine G_istore_n X (lv' := [(2, .int q5), (0, .ref (xE (gκ g) 9 0 0)), (1, .int a1)]) dX7_wellIn_25 rfl (by decide) rfl ?_
    refine G_iconst X (v := (1 : Int32)) dX7_wellIn_26 (by decide) ?_
    refine G_istore_n X (lv' := [(3, .int ((1 : Int32))), (2, .int q5), (0, .ref (xE (gκ g) 9 0 0)), (1, .int a1)]) dX7_wellIn_27 rfl (by decide) rfl ?_
    refine G_sub [2, 3, 1, 0] rfl ?_
    exact gX7_wellIn_b28 X hf FU _ _ _ _ h
  · have h := it_f (fun k => k c3) h
    refine G_iconst X (v := (0 : Int32)) dX7_wellIn_12 (by decide) ?_
    obtain rfl := Option.some.inj h
    exact hf _ _ dX7_wellIn_13 rfl
set_option maxRecDepth 20000 in
theorem ct_X7_wellIn {l : Launch} {κ : KX} {T : TT}  {m : St} {a1 : Int32} {res : St × Int32}  (h : sX7_wellIn m a1 = some res) : Ct l κ yX7_wellIn cX7_wellIn 4 (some .int) 8 176 [.ref (xE κ 9 0 0), .int a1] (rs T 9 m) (rs T 9 res.1) (some (.int (res.2))) := by
  refine Ct_i RX7 rfl (by decide +kernel) (Nat.le_of_ble_eq_true rfl) (fun g hl hκ X hf => ?_)
  subst hl; subst hκ
  exact gX7_wellIn X  hf h
set_option maxRecDepth 20000 in
theorem gX7_byFirst {g : GX} {T : TT}  {m : St} {a1 : Int32} {a2 : Int32} {res : St × Int32} (X : CX g RX7 cX7_byFirst 3 10 222)  (hf : FinI g cX7_byFirst .int (rs T 9 res.1) (res.2)) (h : sX7_byFirst m a1 a2 = some res) : G g 0 0 (rs T 9 m) 0 [(0, .ref (xE (gκ g) 9 0 0)), (1, .int a1), (2, .int a2)] [] := by
  unfold sX7_byFirst at h
  refine G_aload_n X 0 dX7_byFirst_0 rfl rfl ?_
  obtain ⟨q1, hq1, h⟩ := bd_some h
  refine G_callV X (As := []) (rest := []) (T' := rs T 9 q1) (st2 := []) (ct_X7_leaves (l := g.2.1) (κ := gκ g)   hq1) cal_X7_leaves wM_X7_384 wI_X7_leaves wS_X7_leaves rfl rfl (by decide) rfl rfl (Nat.le_of_ble_eq_true rfl) ⟨Nat.zero_le _, Nat.zero_le _⟩ dX7_byFirst_1 rfl ?_
  refine G_aload_n X 0 dX7_byFirst_4 rfl rfl ?_
  refine G_iload_n X 1 dX7_byFirst_5 rfl rfl ?_
  refine G_iconst X (v := (1 : Int32)) dX7_byFirst_6 (by decide) ?_
  refine G_iload_n X 2 dX7_byFirst_7 rfl rfl ?_
  obtain ⟨q2, hq2, h⟩ := bd_some h
  refine G_callV X (As := [.int a1, .int ((1 : Int32)), .int a2]) (rest := []) (T' := rs T 9 q2) (st2 := []) (ct_X7_sets (l := g.2.1) (κ := gκ g)   hq2) cal_X7_sets wM_X7_148 wI_X7_sets wS_X7_sets rfl rfl (by decide) rfl rfl (Nat.le_of_ble_eq_true rfl) ⟨Nat.zero_le _, Nat.zero_le _⟩ dX7_byFirst_8 rfl ?_
  refine G_aload_n X 0 dX7_byFirst_11 rfl rfl ?_
  refine G_aload_n X 0 dX7_byFirst_12 rfl rfl ?_
  refine G_bipush X (v := (100 : Int32)) dX7_byFirst_13 (by decide) ?_
  obtain ⟨q3, hq3, h⟩ := bd_some h
  refine G_callV X (As := [.int ((100 : Int32))]) (rest := [.ref (xE (gκ g) 9 0 0)]) (T' := rs T 9 q3.1) (st2 := [.int q3.2, .ref (xE (gκ g) 9 0 0)]) (ct_X7_collisionsBy (l := g.2.1) (κ := gκ g)   hq3) cal_X7_collisionsBy wM_X7_399 wI_X7_collisionsBy wS_X7_collisionsBy rfl rfl (by decide) rfl rfl (Nat.le_of_ble_eq_true rfl) ⟨Nat.zero_le _, Nat.zero_le _⟩ dX7_byFirst_15 rfl ?_
  obtain ⟨q4, hq4, h⟩ := bd_some h
  refine G_callV X (As := [.int q3.2]) (rest := []) (T' := rs T 9 q4.1) (st2 := [.int q4.2]) (ct_X7_comesBack (l := g.2.1) (κ := gκ g)   hq4) cal_X7_comesBack wM_X7_390 wI_X7_comesBack wS_X7_comesBack rfl rfl (by decide) rfl rfl (Nat.le_of_ble_eq_true rfl) ⟨Nat.zero_le _, Nat.zero_le _⟩ dX7_byFirst_18 rfl ?_
  obtain rfl := Option.some.inj h
  exact hf _ _ dX7_byFirst_21 rfl
set_option maxRecDepth 20000 in
theorem ct_X7_byFirst {l : Launch} {κ : KX} {T : TT}  {m : St} {a1 : Int32} {a2 : Int32} {res : St × Int32}  (h : sX7_byFirst m a1 a2 = some res) : Ct l κ yX7_byFirst cX7_byFirst 3 (some .int) 10 222 [.ref (xE κ 9 0 0), .int a1, .int a2] (rs T 9 m) (rs T 9 res.1) (some (.int (res.2))) := by
  refine Ct_i RX7 rfl (by decide +kernel) (Nat.le_of_ble_eq_true rfl) (fun g hl hκ X hf => ?_)
  subst hl; subst hκ
  exact gX7_byFirst X  hf h
set_option maxRecDepth 20000 in
theorem gX7_bestAt_b26 {g : GX} {T : TT}   {res : St × Int32}  (X : CX g RX7 cX7_bestAt 6 11 244)  (hf : FinI g cX7_bestAt .int (rs T 9 res.1) (res.2))  : ∀ (n : Nat) (m : St) (a1 : Int32) (a2 : Int32) (a3 : Int32) (a4 : Int32) (h : sX7_bestAt_b26 n  m a1 a2 a3 a4 = some res), G g 0 0 (rs T 9 m) 26 [(0, .ref (xE (gκ g) 9 0 0)), (1, .int a1), (2, .int a2), (3, .int a3), (4, .int a4)] [] := by
  intro n
  induction n with
  | zero => intro m a1 a2 a3 a4 h; unfold sX7_bestAt_b26 at h; cases h
  | succ n ih =>
    intro m a1 a2 a3 a4 h
    unfold sX7_bestAt_b26 at h
    refine G_iload X 4 dX7_bestAt_26 rfl ?_
    refine G_aload_n X 0 dX7_bestAt_28 rfl rfl ?_
    refine G_iload_n X 1 dX7_bestAt_29 rfl rfl ?_
    refine G_iconst X (v := (0 : Int32)) dX7_bestAt_30 (by decide) ?_
    obtain ⟨q5, hq5, h⟩ := bd_some h
    refine G_callV X (As := [.int a1, .int ((0 : Int32))]) (rest := [.int a4]) (T' := rs T 9 m) (st2 := [.int q5, .int a4]) (ct_X7_of (l := g.2.1) (κ := gκ g)   hq5) cal_X7_of wM_X7_251 wI_X7_of wS_X7_of rfl rfl (by decide) rfl rfl (Nat.le_of_ble_eq_true rfl) ⟨Nat.zero_le _, Nat.zero_le _⟩ dX7_bestAt_31 rfl ?_
    refine G_icmp_ge X (tgt := 67) dX7_bestAt_34 (by decide) (fun c6 => ?_) (fun c6 => ?_)
    · have h := it_t c6 h
      refine G_iload_n X 2 dX7_bestAt_67 rfl rfl ?_
      obtain rfl := Option.some.inj h
      exact hf _ _ dX7_bestAt_68 rfl
    · have h := it_f c6 h
      refine G_aload_n X 0 dX7_bestAt_37 rfl rfl ?_
      refine G_iload_n X 1 dX7_bestAt_38 rfl rfl ?_
      refine G_iload X 4 dX7_bestAt_39 rfl ?_
      obtain ⟨q7, hq7, h⟩ := bd_some h
      refine G_callV X (As := [.int a1, .int a4]) (rest := []) (T' := rs T 9 q7.1) (st2 := [.int q7.2]) (ct_X7_byFirst (l := g.2.1) (κ := gκ g)   hq7) cal_X7_byFirst wM_X7_408 wI_X7_byFirst wS_X7_byFirst rfl rfl (by decide) rfl rfl (Nat.le_of_ble_eq_true rfl) ⟨Nat.zero_le _, Nat.zero_le _⟩ dX7_bestAt_41 rfl ?_
      refine G_istore X (lv' := [(5, .int q7.2), (0, .ref (xE (gκ g) 9 0 0)), (1, .int a1), (2, .int a2), (3, .int a3), (4, .int a4)]) dX7_bestAt_44 (by decide) rfl ?_
      refine G_iload X 0 dX7_bestAt_46 rfl ?_
      refine G_iload_n X 4 dX7_bestAt_48 rfl rfl ?_
      refine G_icmp_lt X (tgt := 55) dX7_bestAt_49 (by decide) (fun c8 => ?_) (fun c8 => ?_)
      · have h := it_t c8 h
        refine G_iload X 0 dX7_bestAt_55 rfl ?_
        refine G_istore_n X (lv' := [(3, .int q7.2), (5, .int q7.2), (0, .ref (xE (gκ g) 9 0 0)), (1, .int a1), (2, .int a2), (4, .int a4)]) dX7_bestAt_57 rfl (by decide) rfl ?_
        refine G_iload X 5 dX7_bestAt_58 rfl ?_
        refine G_istore_n X (lv' := [(2, .int a4), (3, .int q7.2), (5, .int q7.2), (0, .ref (xE (gκ g) 9 0 0)), (1, .int a1), (4, .int a4)]) dX7_bestAt_60 rfl (by decide) rfl ?_
        obtain ⟨v9, ev9, h⟩ := nm_some h
        refine G_iinc X (v := v9) (lv' := [(4, .int v9), (2, .int a4), (3, .int q7.2), (5, .int q7.2), (0, .ref (xE (gκ g) 9 0 0)), (1, .int a1)]) 5 dX7_bestAt_61 rfl (by rw [ev9]; rfl) (by decide) rfl ?_
        refine G_goto X (tgt := 26) dX7_bestAt_64 (by decide) ?_
        refine G_sub [4, 5, 1, 2, 0] rfl ?_
        exact ih _ _ _ _ _ h
      · have h := it_f c8 h
        refine G_goto X (tgt := 61) dX7_bestAt_52 (by decide) ?_
        obtain ⟨v10, ev10, h⟩ := nm_some h
        refine G_iinc X (v := v10) (lv' := [(4, .int v10), (5, .int q7.2), (0, .ref (xE (gκ g) 9 0 0)), (1, .int a1), (2, .int a2), (3, .int a3)]) 5 dX7_bestAt_61 rfl (by rw [ev10]; rfl) (by decide) rfl ?_
        refine G_goto X (tgt := 26) dX7_bestAt_64 (by decide) ?_
        refine G_sub [2, 3, 4, 5, 0] rfl ?_
        exact ih _ _ _ _ _ h
set_option maxRecDepth 20000 in
theorem gX7_bestAt {g : GX} {T : TT}  {m : St} {a1 : Int32} {res : St × Int32} (X : CX g RX7 cX7_bestAt 6 11 244)  (hf : FinI g cX7_bestAt .int (rs T 9 res.1) (res.2)) (h : sX7_bestAt m a1 = some res) : G g 0 0 (rs T 9 m) 0 [(0, .ref (xE (gκ g) 9 0 0)), (1, .int a1)] [] := by
  unfold sX7_bestAt at h
  refine G_aload_n X 0 dX7_bestAt_0 rfl rfl ?_
  refine G_aload_n X 0 dX7_bestAt_1 rfl rfl ?_
  refine G_iload_n X 1 dX7_bestAt_2 rfl rfl ?_
  obtain ⟨q1, hq1, h⟩ := bd_some h
  refine G_callV X (As := [.int a1]) (rest := [.ref (xE (gκ g) 9 0 0)]) (T' := rs T 9 m) (st2 := [.int q1, .ref (xE (gκ g) 9 0 0)]) (ct_X7_isBeacon (l := g.2.1) (κ := gκ g)   hq1) cal_X7_isBeacon wM_X7_341 wI_X7_isBeacon wS_X7_isBeacon rfl rfl (by decide) rfl rfl (Nat.le_of_ble_eq_true rfl) ⟨Nat.zero_le _, Nat.zero_le _⟩ dX7_bestAt_3 rfl ?_
  obtain ⟨q2, hq2, h⟩ := bd_some h
  refine G_callV X (As := [.int q1]) (rest := []) (T' := rs T 9 q2.1) (st2 := [.int q2.2]) (ct_X7_goes (l := g.2.1) (κ := gκ g)   hq2) cal_X7_goes wM_X7_76 wI_X7_goes wS_X7_goes rfl rfl (by decide) rfl rfl (Nat.le_of_ble_eq_true rfl) ⟨Nat.zero_le _, Nat.zero_le _⟩ dX7_bestAt_6 rfl ?_
  refine G_if_ne X (tgt := 14) dX7_bestAt_9 (by decide) (fun c3 => ?_) (fun c3 => ?_)
  · have h := it_t c3 h
    refine G_iconst X (v := (0 : Int32)) dX7_bestAt_14 (by decide) ?_
    refine G_istore_n X (lv' := [(2, .int ((0 : Int32))), (0, .ref (xE (gκ g) 9 0 0)), (1, .int a1)]) dX7_bestAt_15 rfl (by decide) rfl ?_
    refine G_aload_n X 1 dX7_bestAt_16 rfl rfl ?_
    refine G_iload_n X 2 dX7_bestAt_17 rfl rfl ?_
    refine G_iconst X (v := (0 : Int32)) dX7_bestAt_18 (by decide) ?_
    obtain ⟨q4, hq4, h⟩ := bd_some h
    refine G_callV X (As := [.int a1, .int ((0 : Int32))]) (rest := []) (T' := rs T 9 q4.1) (st2 := [.int q4.2]) (ct_X7_byFirst (l := g.2.1) (κ := gκ g)   hq4) cal_X7_byFirst wM_X7_408 wI_X7_byFirst wS_X7_byFirst rfl rfl (by decide) rfl rfl (Nat.le_of_ble_eq_true rfl) ⟨Nat.zero_le _, Nat.zero_le _⟩ dX7_bestAt_19 rfl ?_
    refine G_istore_n X (lv' := [(3, .int q4.2), (2, .int ((0 : Int32))), (0, .ref (xE (gκ g) 9 0 0)), (1, .int a1)]) dX7_bestAt_22 rfl (by decide) rfl ?_
    refine G_iconst X (v := (1 : Int32)) dX7_bestAt_23 (by decide) ?_
    refine G_istore X (lv' := [(4, .int ((1 : Int32))), (3, .int q4.2), (2, .int ((0 : Int32))), (0, .ref (xE (gκ g) 9 0 0)), (1, .int a1)]) dX7_bestAt_24 (by decide) rfl ?_
    refine G_sub [3, 4, 2, 1, 0] rfl ?_
    exact gX7_bestAt_b26 X hf FU _ _ _ _ _ h
  · have h := it_f (fun k => k c3) h
    refine G_iconst X (v := (0 : Int32)) dX7_bestAt_12 (by decide) ?_
    obtain rfl := Option.some.inj h
    exact hf _ _ dX7_bestAt_13 rfl
set_option maxRecDepth 20000 in
theorem ct_X7_bestAt {l : Launch} {κ : KX} {T : TT}  {m : St} {a1 : Int32} {res : St × Int32}  (h : sX7_bestAt m a1 = some res) : Ct l κ yX7_bestAt cX7_bestAt 6 (some .int) 11 244 [.ref (xE κ 9 0 0), .int a1] (rs T 9 m) (rs T 9 res.1) (some (.int (res.2))) := by
  refine Ct_i RX7 rfl (by decide +kernel) (Nat.le_of_ble_eq_true rfl) (fun g hl hκ X hf => ?_)
  subst hl; subst hκ
  exact gX7_bestAt X  hf h
set_option maxRecDepth 20000 in
theorem gX7_byPeriod {g : GX} {T : TT}  {m : St} {a1 : Int32} {a2 : Int32} {res : St × Int32} (X : CX g RX7 cX7_byPeriod 3 9 199)  (hf : FinI g cX7_byPeriod .int (rs T 9 res.1) (res.2)) (h : sX7_byPeriod m a1 a2 = some res) : G g 0 0 (rs T 9 m) 0 [(0, .ref (xE (gκ g) 9 0 0)), (1, .int a1), (2, .int a2)] [] := by
  unfold sX7_byPeriod at h
  refine G_aload_n X 0 dX7_byPeriod_0 rfl rfl ?_
  obtain ⟨q1, hq1, h⟩ := bd_some h
  refine G_callV X (As := []) (rest := []) (T' := rs T 9 q1) (st2 := []) (ct_X7_leaves (l := g.2.1) (κ := gκ g)   hq1) cal_X7_leaves wM_X7_384 wI_X7_leaves wS_X7_leaves rfl rfl (by decide) rfl rfl (Nat.le_of_ble_eq_true rfl) ⟨Nat.zero_le _, Nat.zero_le _⟩ dX7_byPeriod_1 rfl ?_
  refine G_aload_n X 0 dX7_byPeriod_4 rfl rfl ?_
  refine G_iload_n X 1 dX7_byPeriod_5 rfl rfl ?_
  refine G_iconst X (v := (0 : Int32)) dX7_byPeriod_6 (by decide) ?_
  refine G_iload_n X 2 dX7_byPeriod_7 rfl rfl ?_
  obtain ⟨q2, hq2, h⟩ := bd_some h
  refine G_callV X (As := [.int a1, .int ((0 : Int32)), .int a2]) (rest := []) (T' := rs T 9 q2) (st2 := []) (ct_X7_sets (l := g.2.1) (κ := gκ g)   hq2) cal_X7_sets wM_X7_148 wI_X7_sets wS_X7_sets rfl rfl (by decide) rfl rfl (Nat.le_of_ble_eq_true rfl) ⟨Nat.zero_le _, Nat.zero_le _⟩ dX7_byPeriod_8 rfl ?_
  refine G_aload_n X 0 dX7_byPeriod_11 rfl rfl ?_
  refine G_aload_n X 0 dX7_byPeriod_12 rfl rfl ?_
  refine G_bipush X (v := (100 : Int32)) dX7_byPeriod_13 (by decide) ?_
  obtain ⟨q3, hq3, h⟩ := bd_some h
  refine G_callV X (As := [.int ((100 : Int32))]) (rest := [.ref (xE (gκ g) 9 0 0)]) (T' := rs T 9 q3.1) (st2 := [.int q3.2, .ref (xE (gκ g) 9 0 0)]) (ct_X7_runs (l := g.2.1) (κ := gκ g)   hq3) cal_X7_runs wM_X7_387 wI_X7_runs wS_X7_runs rfl rfl (by decide) rfl rfl (Nat.le_of_ble_eq_true rfl) ⟨Nat.zero_le _, Nat.zero_le _⟩ dX7_byPeriod_15 rfl ?_
  obtain ⟨q4, hq4, h⟩ := bd_some h
  refine G_callV X (As := [.int q3.2]) (rest := []) (T' := rs T 9 q4.1) (st2 := [.int q4.2]) (ct_X7_comesBack (l := g.2.1) (κ := gκ g)   hq4) cal_X7_comesBack wM_X7_390 wI_X7_comesBack wS_X7_comesBack rfl rfl (by decide) rfl rfl (Nat.le_of_ble_eq_true rfl) ⟨Nat.zero_le _, Nat.zero_le _⟩ dX7_byPeriod_18 rfl ?_
  obtain rfl := Option.some.inj h
  exact hf _ _ dX7_byPeriod_21 rfl
set_option maxRecDepth 20000 in
theorem ct_X7_byPeriod {l : Launch} {κ : KX} {T : TT}  {m : St} {a1 : Int32} {a2 : Int32} {res : St × Int32}  (h : sX7_byPeriod m a1 a2 = some res) : Ct l κ yX7_byPeriod cX7_byPeriod 3 (some .int) 9 199 [.ref (xE κ 9 0 0), .int a1, .int a2] (rs T 9 m) (rs T 9 res.1) (some (.int (res.2))) := by
  refine Ct_i RX7 rfl (by decide +kernel) (Nat.le_of_ble_eq_true rfl) (fun g hl hκ X hf => ?_)
  subst hl; subst hκ
  exact gX7_byPeriod X  hf h
set_option maxRecDepth 20000 in
theorem gX7_bestEvery_b32 {g : GX} {T : TT}   {res : St × Int32}  (X : CX g RX7 cX7_bestEvery 6 10 221)  (hf : FinI g cX7_bestEvery .int (rs T 9 res.1) (res.2))  : ∀ (n : Nat) (m : St) (a1 : Int32) (a2 : Int32) (a3 : Int32) (a4 : Int32) (h : sX7_bestEvery_b32 n  m a1 a2 a3 a4 = some res), G g 0 0 (rs T 9 m) 32 [(0, .ref (xE (gκ g) 9 0 0)), (1, .int a1), (2, .int a2), (3, .int a3), (4, .int a4)] [] := by
  intro n
  induction n with
  | zero => intro m a1 a2 a3 a4 h; unfold sX7_bestEvery_b32 at h; cases h
  | succ n ih =>
    intro m a1 a2 a3 a4 h
    unfold sX7_bestEvery_b32 at h
    refine G_iload X 4 dX7_bestEvery_32 rfl ?_
    refine G_bipush X (v := (100 : Int32)) dX7_bestEvery_34 (by decide) ?_
    refine G_icmp_ge X (tgt := 69) dX7_bestEvery_36 (by decide) (fun c6 => ?_) (fun c6 => ?_)
    · have h := it_t c6 h
      refine G_iload_n X 2 dX7_bestEvery_69 rfl rfl ?_
      obtain rfl := Option.some.inj h
      exact hf _ _ dX7_bestEvery_70 rfl
    · have h := it_f c6 h
      refine G_aload_n X 0 dX7_bestEvery_39 rfl rfl ?_
      refine G_iload_n X 1 dX7_bestEvery_40 rfl rfl ?_
      refine G_iload X 4 dX7_bestEvery_41 rfl ?_
      obtain ⟨q7, hq7, h⟩ := bd_some h
      refine G_callV X (As := [.int a1, .int a4]) (rest := []) (T' := rs T 9 q7.1) (st2 := [.int q7.2]) (ct_X7_byPeriod (l := g.2.1) (κ := gκ g)   hq7) cal_X7_byPeriod wM_X7_414 wI_X7_byPeriod wS_X7_byPeriod rfl rfl (by decide) rfl rfl (Nat.le_of_ble_eq_true rfl) ⟨Nat.zero_le _, Nat.zero_le _⟩ dX7_bestEvery_43 rfl ?_
      refine G_istore X (lv' := [(5, .int q7.2), (0, .ref (xE (gκ g) 9 0 0)), (1, .int a1), (2, .int a2), (3, .int a3), (4, .int a4)]) dX7_bestEvery_46 (by decide) rfl ?_
      refine G_iload X 0 dX7_bestEvery_48 rfl ?_
      refine G_iload_n X 4 dX7_bestEvery_50 rfl rfl ?_
      refine G_icmp_ge X (tgt := 57) dX7_bestEvery_51 (by decide) (fun c8 => ?_) (fun c8 => ?_)
      · have h := it_t c8 h
        refine G_iload X 0 dX7_bestEvery_57 rfl ?_
        refine G_istore_n X (lv' := [(3, .int q7.2), (5, .int q7.2), (0, .ref (xE (gκ g) 9 0 0)), (1, .int a1), (2, .int a2), (4, .int a4)]) dX7_bestEvery_59 rfl (by decide) rfl ?_
        refine G_iload X 5 dX7_bestEvery_60 rfl ?_
        refine G_istore_n X (lv' := [(2, .int a4), (3, .int q7.2), (5, .int q7.2), (0, .ref (xE (gκ g) 9 0 0)), (1, .int a1), (4, .int a4)]) dX7_bestEvery_62 rfl (by decide) rfl ?_
        obtain ⟨v9, ev9, h⟩ := nm_some h
        refine G_iinc X (v := v9) (lv' := [(4, .int v9), (2, .int a4), (3, .int q7.2), (5, .int q7.2), (0, .ref (xE (gκ g) 9 0 0)), (1, .int a1)]) 5 dX7_bestEvery_63 rfl (by rw [ev9]; rfl) (by decide) rfl ?_
        refine G_goto X (tgt := 32) dX7_bestEvery_66 (by decide) ?_
        refine G_sub [4, 5, 1, 2, 0] rfl ?_
        exact ih _ _ _ _ _ h
      · have h := it_f c8 h
        refine G_goto X (tgt := 63) dX7_bestEvery_54 (by decide) ?_
        obtain ⟨v10, ev10, h⟩ := nm_some h
        refine G_iinc X (v := v10) (lv' := [(4, .int v10), (5, .int q7.2), (0, .ref (xE (gκ g) 9 0 0)), (1, .int a1), (2, .int a2), (3, .int a3)]) 5 dX7_bestEvery_63 rfl (by rw [ev10]; rfl) (by decide) rfl ?_
        refine G_goto X (tgt := 32) dX7_bestEvery_66 (by decide) ?_
        refine G_sub [2, 3, 4, 5, 0] rfl ?_
        exact ih _ _ _ _ _ h
set_option maxRecDepth 20000 in
theorem gX7_bestEvery {g : GX} {T : TT}  {m : St} {a1 : Int32} {res : St × Int32} (X : CX g RX7 cX7_bestEvery 6 10 221)  (hf : FinI g cX7_bestEvery .int (rs T 9 res.1) (res.2)) (h : sX7_bestEvery m a1 = some res) : G g 0 0 (rs T 9 m) 0 [(0, .ref (xE (gκ g) 9 0 0)), (1, .int a1)] [] := by
  unfold sX7_bestEvery at h
  refine G_aload_n X 0 dX7_bestEvery_0 rfl rfl ?_
  refine G_aload_n X 0 dX7_bestEvery_1 rfl rfl ?_
  refine G_iload_n X 1 dX7_bestEvery_2 rfl rfl ?_
  obtain ⟨q1, hq1, h⟩ := bd_some h
  refine G_callV X (As := [.int a1]) (rest := [.ref (xE (gκ g) 9 0 0)]) (T' := rs T 9 m) (st2 := [.int q1, .ref (xE (gκ g) 9 0 0)]) (ct_X7_isBeacon (l := g.2.1) (κ := gκ g)   hq1) cal_X7_isBeacon wM_X7_341 wI_X7_isBeacon wS_X7_isBeacon rfl rfl (by decide) rfl rfl (Nat.le_of_ble_eq_true rfl) ⟨Nat.zero_le _, Nat.zero_le _⟩ dX7_bestEvery_3 rfl ?_
  obtain ⟨q2, hq2, h⟩ := bd_some h
  refine G_callV X (As := [.int q1]) (rest := []) (T' := rs T 9 q2.1) (st2 := [.int q2.2]) (ct_X7_goes (l := g.2.1) (κ := gκ g)   hq2) cal_X7_goes wM_X7_76 wI_X7_goes wS_X7_goes rfl rfl (by decide) rfl rfl (Nat.le_of_ble_eq_true rfl) ⟨Nat.zero_le _, Nat.zero_le _⟩ dX7_bestEvery_6 rfl ?_
  refine G_if_ne X (tgt := 14) dX7_bestEvery_9 (by decide) (fun c3 => ?_) (fun c3 => ?_)
  · have h := it_t c3 h
    refine G_iconst X (v := (-1 : Int32)) dX7_bestEvery_14 (by decide) ?_
    refine G_istore_n X (lv' := [(2, .int ((-1 : Int32))), (0, .ref (xE (gκ g) 9 0 0)), (1, .int a1)]) dX7_bestEvery_15 rfl (by decide) rfl ?_
    refine G_iconst X (v := (-1 : Int32)) dX7_bestEvery_16 (by decide) ?_
    refine G_istore_n X (lv' := [(3, .int ((-1 : Int32))), (2, .int ((-1 : Int32))), (0, .ref (xE (gκ g) 9 0 0)), (1, .int a1)]) dX7_bestEvery_17 rfl (by decide) rfl ?_
    refine G_iconst X (v := (2 : Int32)) dX7_bestEvery_18 (by decide) ?_
    refine G_aload_n X 2 dX7_bestEvery_19 rfl rfl ?_
    refine G_iload_n X 3 dX7_bestEvery_20 rfl rfl ?_
    refine G_iconst X (v := (1 : Int32)) dX7_bestEvery_21 (by decide) ?_
    obtain ⟨q4, hq4, h⟩ := bd_some h
    refine G_callV X (As := [.int a1, .int ((1 : Int32))]) (rest := [.int ((2 : Int32))]) (T' := rs T 9 q2.1) (st2 := [.int q4, .int ((2 : Int32))]) (ct_X7_of (l := g.2.1) (κ := gκ g)   hq4) cal_X7_of wM_X7_251 wI_X7_of wS_X7_of rfl rfl (by decide) rfl rfl (Nat.le_of_ble_eq_true rfl) ⟨Nat.zero_le _, Nat.zero_le _⟩ dX7_bestEvery_22 rfl ?_
    refine G_iconst X (v := (1 : Int32)) dX7_bestEvery_25 (by decide) ?_
    refine G_iadd X dX7_bestEvery_26 ?_
    obtain ⟨q5, hq5, h⟩ := bd_some h
    refine G_callS X (As := [.int ((2 : Int32)), .int (q4 + ((1 : Int32)))]) (rest := []) (T' := rs T 9 q2.1) (st2 := [.int q5]) (ct_X7_greater (l := g.2.1) (κ := gκ g)   hq5) cal_X7_greater wM_X7_411 wT_X7_greater (by decide) rfl rfl (Nat.le_of_ble_eq_true rfl) ⟨Nat.zero_le _, Nat.zero_le _⟩ dX7_bestEvery_27 rfl ?_
    refine G_istore X (lv' := [(4, .int q5), (3, .int ((-1 : Int32))), (2, .int ((-1 : Int32))), (0, .ref (xE (gκ g) 9 0 0)), (1, .int a1)]) dX7_bestEvery_30 (by decide) rfl ?_
    refine G_sub [3, 4, 2, 1, 0] rfl ?_
    exact gX7_bestEvery_b32 X hf FU _ _ _ _ _ h
  · have h := it_f (fun k => k c3) h
    refine G_iconst X (v := (0 : Int32)) dX7_bestEvery_12 (by decide) ?_
    obtain rfl := Option.some.inj h
    exact hf _ _ dX7_bestEvery_13 rfl
set_option maxRecDepth 20000 in
theorem ct_X7_bestEvery {l : Launch} {κ : KX} {T : TT}  {m : St} {a1 : Int32} {res : St × Int32}  (h : sX7_bestEvery m a1 = some res) : Ct l κ yX7_bestEvery cX7_bestEvery 6 (some .int) 10 221 [.ref (xE κ 9 0 0), .int a1] (rs T 9 m) (rs T 9 res.1) (some (.int (res.2))) := by
  refine Ct_i RX7 rfl (by decide +kernel) (Nat.le_of_ble_eq_true rfl) (fun g hl hκ X hf => ?_)
  subst hl; subst hκ
  exact gX7_bestEvery X  hf h
set_option maxRecDepth 20000 in
theorem gX7_mayRun {g : GX} {T : TT}  {m : St} {a1 : Int32} {res : Int32} (X : CX g RX7 cX7_mayRun 2 0 0)  (hf : FinI g cX7_mayRun .boolean (rs T 9 m) (res)) (h : sX7_mayRun m a1 = some res) : G g 0 0 (rs T 9 m) 0 [(0, .ref (xE (gκ g) 9 0 0)), (1, .int a1)] [] := by
  unfold sX7_mayRun at h
  refine G_aload_n X 0 dX7_mayRun_0 rfl rfl ?_
  refine f_X7_20 X rfl rfl dX7_mayRun_1 ?_
  refine G_iconst X (v := (1 : Int32)) dX7_mayRun_4 (by decide) ?_
  obtain ⟨g1, h⟩ := gd_some h
  refine G_iald X rfl (rg_rs _ _ _) g1 dX7_mayRun_5 ?_
  refine G_iload_n X 1 dX7_mayRun_6 rfl rfl ?_
  refine G_iadd X dX7_mayRun_7 ?_
  refine G_ldc_w X (v := (99999 : Int32)) dX7_mayRun_8 wK_X7_417 ?_
  refine G_icmp_gt X (tgt := 18) dX7_mayRun_11 (by decide) (fun c2 => ?_) (fun c2 => ?_)
  · have h := it_t c2 h
    refine G_iconst X (v := (0 : Int32)) dX7_mayRun_18 (by decide) ?_
    obtain rfl := Option.some.inj h
    exact hf _ _ dX7_mayRun_19 (isb_n (v := (0 : Int32)) rfl)
  · have h := it_f c2 h
    refine G_iconst X (v := (1 : Int32)) dX7_mayRun_14 (by decide) ?_
    refine G_goto X (tgt := 19) dX7_mayRun_15 (by decide) ?_
    obtain rfl := Option.some.inj h
    exact hf _ _ dX7_mayRun_19 (isb_n (v := (1 : Int32)) rfl)
set_option maxRecDepth 20000 in
theorem ct_X7_mayRun {l : Launch} {κ : KX} {T : TT}  {m : St} {a1 : Int32} {res : Int32}  (h : sX7_mayRun m a1 = some res) : Ct l κ yX7_mayRun cX7_mayRun 2 (some .boolean) 0 0 [.ref (xE κ 9 0 0), .int a1] (rs T 9 m) (rs T 9 m) (some (.int (res))) := by
  refine Ct_i RX7 rfl (by decide +kernel) (Nat.le_of_ble_eq_true rfl) (fun g hl hκ X hf => ?_)
  subst hl; subst hκ
  exact gX7_mayRun X  hf h
set_option maxRecDepth 20000 in
theorem gX7_areMany {g : GX} {T : TT}   {a0 : Int32} {res : Int32} (X : CX g RX7 cX7_areMany 1 1 25)  (hf : FinI g cX7_areMany .boolean (T) (res)) (h : sX7_areMany a0 = some res) : G g 0 0 (T) 0 [(0, .int a0)] [] := by
  unfold sX7_areMany at h
  refine G_iload_n X 0 dX7_areMany_0 rfl rfl ?_
  refine G_i2l X dX7_areMany_1 ?_
  refine G_lconst X (v := (1 : Int64)) dX7_areMany_2 (by decide) ?_
  refine G_ldc2_w X (v := (99 : Int64)) dX7_areMany_3 wK_X7_418 ?_
  obtain ⟨q1, hq1, h⟩ := bd_some h
  refine G_callS X (As := [.long a0.toInt64, .long ((1 : Int64)), .long ((99 : Int64))]) (rest := []) (T' := T) (st2 := [.int q1]) (ct_X7_isIn (l := g.2.1) (κ := gκ g)   hq1) cal_X7_isIn wM_X7_84 wT_X7_isIn (by decide) rfl rfl (Nat.le_of_ble_eq_true rfl) ⟨Nat.zero_le _, Nat.zero_le _⟩ dX7_areMany_6 rfl ?_
  obtain ⟨g2, h⟩ := gd_some h
  obtain rfl := Option.some.inj h
  exact hf _ _ dX7_areMany_9 (isb_n g2)
set_option maxRecDepth 20000 in
theorem ct_X7_areMany {l : Launch} {κ : KX} {T : TT}   {a0 : Int32} {res : Int32}  (h : sX7_areMany a0 = some res) : Ct l κ yX7_areMany cX7_areMany 1 (some .boolean) 1 25 [.int a0] (T) (T) (some (.int (res))) := by
  refine Ct_i RX7 rfl (by decide +kernel) (Nat.le_of_ble_eq_true rfl) (fun g hl hκ X hf => ?_)
  subst hl; subst hκ
  exact gX7_areMany X  hf h
set_option maxRecDepth 20000 in
theorem gX7_run_b24 {g : GX} {T : TT}  {m : St} {a1 : Int32} {s0 : Int32} {s1 : Int32} {res : St × Int32}  (X : CX g RX7 cX7_run 3 9 199)  (hf : FinI g cX7_run .int (rs T 9 res.1) (res.2))   (h : sX7_run_b24  m a1 s0 s1 = some res) : G g 0 0 (rs T 9 m) 24 [(0, .ref (xE (gκ g) 9 0 0)), (1, .int a1)] [.int s0, .int s1, .ref (xE (gκ g) 9 0 0)] := by
  unfold sX7_run_b24 at h
  obtain ⟨q5, hq5, h⟩ := bd_some h
  refine G_callV X (As := [.int s1, .int s0]) (rest := []) (T' := rs T 9 q5.1) (st2 := [.int q5.2]) (ct_X7_goesBoth (l := g.2.1) (κ := gκ g)   hq5) cal_X7_goesBoth wM_X7_354 wI_X7_goesBoth wS_X7_goesBoth rfl rfl (by decide) rfl rfl (Nat.le_of_ble_eq_true rfl) ⟨Nat.zero_le _, Nat.zero_le _⟩ dX7_run_24 rfl ?_
  refine G_if_ne X (tgt := 32) dX7_run_27 (by decide) (fun c6 => ?_) (fun c6 => ?_)
  · have h := it_t c6 h
    refine G_aload_n X 0 dX7_run_32 rfl rfl ?_
    obtain ⟨q7, hq7, h⟩ := bd_some h
    refine G_callV X (As := []) (rest := []) (T' := rs T 9 q7) (st2 := []) (ct_X7_laysAside (l := g.2.1) (κ := gκ g)   hq7) cal_X7_laysAside wM_X7_242 wI_X7_laysAside wS_X7_laysAside rfl rfl (by decide) rfl rfl (Nat.le_of_ble_eq_true rfl) ⟨Nat.zero_le _, Nat.zero_le _⟩ dX7_run_33 rfl ?_
    refine G_aload_n X 0 dX7_run_36 rfl rfl ?_
    refine G_aload_n X 0 dX7_run_37 rfl rfl ?_
    refine G_iload_n X 1 dX7_run_38 rfl rfl ?_
    obtain ⟨q8, hq8, h⟩ := bd_some h
    refine G_callV X (As := [.int a1]) (rest := [.ref (xE (gκ g) 9 0 0)]) (T' := rs T 9 q8.1) (st2 := [.int q8.2, .ref (xE (gκ g) 9 0 0)]) (ct_X7_runs (l := g.2.1) (κ := gκ g)   hq8) cal_X7_runs wM_X7_387 wI_X7_runs wS_X7_runs rfl rfl (by decide) rfl rfl (Nat.le_of_ble_eq_true rfl) ⟨Nat.zero_le _, Nat.zero_le _⟩ dX7_run_39 rfl ?_
    obtain ⟨q9, hq9, h⟩ := bd_some h
    refine G_callV X (As := [.int q8.2]) (rest := []) (T' := rs T 9 q9.1) (st2 := [.int q9.2]) (ct_X7_kept (l := g.2.1) (κ := gκ g)   hq9) cal_X7_kept wM_X7_426 wI_X7_kept wS_X7_kept rfl rfl (by decide) rfl rfl (Nat.le_of_ble_eq_true rfl) ⟨Nat.zero_le _, Nat.zero_le _⟩ dX7_run_42 rfl ?_
    obtain rfl := Option.some.inj h
    exact hf _ _ dX7_run_45 rfl
  · have h := it_f (fun k => k c6) h
    refine G_iconst X (v := (0 : Int32)) dX7_run_30 (by decide) ?_
    obtain rfl := Option.some.inj h
    exact hf _ _ dX7_run_31 rfl
set_option maxRecDepth 20000 in
theorem gX7_run {g : GX} {T : TT}  {m : St} {a1 : Int32} {res : St × Int32} (X : CX g RX7 cX7_run 3 9 199)  (hf : FinI g cX7_run .int (rs T 9 res.1) (res.2)) (h : sX7_run m a1 = some res) : G g 0 0 (rs T 9 m) 0 [(0, .ref (xE (gκ g) 9 0 0)), (1, .int a1)] [] := by
  unfold sX7_run at h
  refine G_iload_n X 1 dX7_run_0 rfl rfl ?_
  obtain ⟨q1, hq1, h⟩ := bd_some h
  refine G_callS X (As := [.int a1]) (rest := []) (T' := rs T 9 m) (st2 := [.int q1]) (ct_X7_areMany (l := g.2.1) (κ := gκ g)   hq1) cal_X7_areMany wM_X7_420 wT_X7_areMany (by decide) rfl rfl (Nat.le_of_ble_eq_true rfl) ⟨Nat.zero_le _, Nat.zero_le _⟩ dX7_run_1 rfl ?_
  refine G_istore_n X (lv' := [(2, .int q1), (0, .ref (xE (gκ g) 9 0 0)), (1, .int a1)]) dX7_run_4 rfl (by decide) rfl ?_
  refine G_aload_n X 1 dX7_run_5 rfl rfl ?_
  refine G_iload_n X 0 dX7_run_6 rfl rfl ?_
  refine G_iload_n X 0 dX7_run_7 rfl rfl ?_
  refine G_if_eq X (tgt := 23) dX7_run_8 (by decide) (fun c2 => ?_) (fun c2 => ?_)
  · have h := it_t c2 h
    refine G_iconst X (v := (0 : Int32)) dX7_run_23 (by decide) ?_
    refine G_sub [1, 2] rfl ?_
    exact gX7_run_b24 X hf h
  · have h := it_f c2 h
    refine G_aload_n X 1 dX7_run_11 rfl rfl ?_
    refine G_iload_n X 2 dX7_run_12 rfl rfl ?_
    obtain ⟨q3, hq3, h⟩ := bd_some h
    refine G_callV X (As := [.int a1]) (rest := [.int q1, .ref (xE (gκ g) 9 0 0)]) (T' := rs T 9 m) (st2 := [.int q3, .int q1, .ref (xE (gκ g) 9 0 0)]) (ct_X7_mayRun (l := g.2.1) (κ := gκ g)   hq3) cal_X7_mayRun wM_X7_423 wI_X7_mayRun wS_X7_mayRun rfl rfl (by decide) rfl rfl (Nat.le_of_ble_eq_true rfl) ⟨Nat.zero_le _, Nat.zero_le _⟩ dX7_run_13 rfl ?_
    refine G_if_eq X (tgt := 23) dX7_run_16 (by decide) (fun c4 => ?_) (fun c4 => ?_)
    · have h := it_t c4 h
      refine G_iconst X (v := (0 : Int32)) dX7_run_23 (by decide) ?_
      refine G_sub [1, 2] rfl ?_
      exact gX7_run_b24 X hf h
    · have h := it_f c4 h
      refine G_iconst X (v := (1 : Int32)) dX7_run_19 (by decide) ?_
      refine G_goto X (tgt := 24) dX7_run_20 (by decide) ?_
      refine G_sub [1, 2] rfl ?_
      exact gX7_run_b24 X hf h
set_option maxRecDepth 20000 in
theorem ct_X7_run {l : Launch} {κ : KX} {T : TT}  {m : St} {a1 : Int32} {res : St × Int32}  (h : sX7_run m a1 = some res) : Ct l κ yX7_run cX7_run 3 (some .int) 9 199 [.ref (xE κ 9 0 0), .int a1] (rs T 9 m) (rs T 9 res.1) (some (.int (res.2))) := by
  refine Ct_i RX7 rfl (by decide +kernel) (Nat.le_of_ble_eq_true rfl) (fun g hl hκ X hf => ?_)
  subst hl; subst hκ
  exact gX7_run X  hf h
set_option maxRecDepth 20000 in
theorem gX7_awakens {g : GX} {T : TT}  {m : St} {a1 : Int32} {res : St × Int32} (X : CX g RX7 cX7_awakens 2 4 88)  (hf : FinI g cX7_awakens .int (rs T 9 res.1) (res.2)) (h : sX7_awakens m a1 = some res) : G g 0 0 (rs T 9 m) 0 [(0, .ref (xE (gκ g) 9 0 0)), (1, .int a1)] [] := by
  unfold sX7_awakens at h
  refine G_aload_n X 0 dX7_awakens_0 rfl rfl ?_
  refine G_iload_n X 1 dX7_awakens_1 rfl rfl ?_
  obtain ⟨q1, hq1, h⟩ := bd_some h
  refine G_callV X (As := [.int a1]) (rest := []) (T' := rs T 9 q1) (st2 := []) (ct_X7_listens (l := g.2.1) (κ := gκ g)   hq1) cal_X7_listens wM_X7_282 wI_X7_listens wS_X7_listens rfl rfl (by decide) rfl rfl (Nat.le_of_ble_eq_true rfl) ⟨Nat.zero_le _, Nat.zero_le _⟩ dX7_awakens_2 rfl ?_
  refine G_aload_n X 0 dX7_awakens_5 rfl rfl ?_
  refine f_X7_20 X rfl rfl dX7_awakens_6 ?_
  refine G_iconst X (v := (1 : Int32)) dX7_awakens_9 (by decide) ?_
  obtain ⟨g2, h⟩ := gd_some h
  refine G_iald X rfl (rg_rs _ _ _) g2 dX7_awakens_10 ?_
  obtain rfl := Option.some.inj h
  exact hf _ _ dX7_awakens_11 rfl
set_option maxRecDepth 20000 in
theorem ct_X7_awakens {l : Launch} {κ : KX} {T : TT}  {m : St} {a1 : Int32} {res : St × Int32}  (h : sX7_awakens m a1 = some res) : Ct l κ yX7_awakens cX7_awakens 2 (some .int) 4 88 [.ref (xE κ 9 0 0), .int a1] (rs T 9 m) (rs T 9 res.1) (some (.int (res.2))) := by
  refine Ct_i RX7 rfl (by decide +kernel) (Nat.le_of_ble_eq_true rfl) (fun g hl hκ X hf => ?_)
  subst hl; subst hκ
  exact gX7_awakens X  hf h
set_option maxRecDepth 20000 in
theorem gX7_wake_b26 {g : GX} {T : TT}  {m : St} {a1 : Int32} {s0 : Int32} {s1 : Int32} {res : St × Int32}  (X : CX g RX7 cX7_wake 3 5 109)  (hf : FinI g cX7_wake .int (rs T 9 res.1) (res.2))   (h : sX7_wake_b26  m a1 s0 s1 = some res) : G g 0 0 (rs T 9 m) 26 [(0, .ref (xE (gκ g) 9 0 0)), (1, .int a1)] [.int s0, .int s1, .ref (xE (gκ g) 9 0 0)] := by
  unfold sX7_wake_b26 at h
  obtain ⟨q5, hq5, h⟩ := bd_some h
  refine G_callV X (As := [.int s1, .int s0]) (rest := []) (T' := rs T 9 q5.1) (st2 := [.int q5.2]) (ct_X7_goesBoth (l := g.2.1) (κ := gκ g)   hq5) cal_X7_goesBoth wM_X7_354 wI_X7_goesBoth wS_X7_goesBoth rfl rfl (by decide) rfl rfl (Nat.le_of_ble_eq_true rfl) ⟨Nat.zero_le _, Nat.zero_le _⟩ dX7_wake_26 rfl ?_
  refine G_if_ne X (tgt := 34) dX7_wake_29 (by decide) (fun c6 => ?_) (fun c6 => ?_)
  · have h := it_t c6 h
    refine G_aload_n X 0 dX7_wake_34 rfl rfl ?_
    obtain ⟨q7, hq7, h⟩ := bd_some h
    refine G_callV X (As := []) (rest := []) (T' := rs T 9 q7) (st2 := []) (ct_X7_laysAside (l := g.2.1) (κ := gκ g)   hq7) cal_X7_laysAside wM_X7_242 wI_X7_laysAside wS_X7_laysAside rfl rfl (by decide) rfl rfl (Nat.le_of_ble_eq_true rfl) ⟨Nat.zero_le _, Nat.zero_le _⟩ dX7_wake_35 rfl ?_
    refine G_aload_n X 0 dX7_wake_38 rfl rfl ?_
    refine G_aload_n X 0 dX7_wake_39 rfl rfl ?_
    refine G_iload_n X 1 dX7_wake_40 rfl rfl ?_
    obtain ⟨q8, hq8, h⟩ := bd_some h
    refine G_callV X (As := [.int a1]) (rest := [.ref (xE (gκ g) 9 0 0)]) (T' := rs T 9 q8.1) (st2 := [.int q8.2, .ref (xE (gκ g) 9 0 0)]) (ct_X7_awakens (l := g.2.1) (κ := gκ g)   hq8) cal_X7_awakens wM_X7_429 wI_X7_awakens wS_X7_awakens rfl rfl (by decide) rfl rfl (Nat.le_of_ble_eq_true rfl) ⟨Nat.zero_le _, Nat.zero_le _⟩ dX7_wake_41 rfl ?_
    obtain ⟨q9, hq9, h⟩ := bd_some h
    refine G_callV X (As := [.int q8.2]) (rest := []) (T' := rs T 9 q9.1) (st2 := [.int q9.2]) (ct_X7_kept (l := g.2.1) (κ := gκ g)   hq9) cal_X7_kept wM_X7_426 wI_X7_kept wS_X7_kept rfl rfl (by decide) rfl rfl (Nat.le_of_ble_eq_true rfl) ⟨Nat.zero_le _, Nat.zero_le _⟩ dX7_wake_44 rfl ?_
    obtain rfl := Option.some.inj h
    exact hf _ _ dX7_wake_47 rfl
  · have h := it_f (fun k => k c6) h
    refine G_iconst X (v := (0 : Int32)) dX7_wake_32 (by decide) ?_
    obtain rfl := Option.some.inj h
    exact hf _ _ dX7_wake_33 rfl
set_option maxRecDepth 20000 in
theorem gX7_wake {g : GX} {T : TT}  {m : St} {a1 : Int32} {res : St × Int32} (X : CX g RX7 cX7_wake 3 5 109)  (hf : FinI g cX7_wake .int (rs T 9 res.1) (res.2)) (h : sX7_wake m a1 = some res) : G g 0 0 (rs T 9 m) 0 [(0, .ref (xE (gκ g) 9 0 0)), (1, .int a1)] [] := by
  unfold sX7_wake at h
  refine G_aload_n X 0 dX7_wake_0 rfl rfl ?_
  refine G_iload_n X 1 dX7_wake_1 rfl rfl ?_
  obtain ⟨q1, hq1, h⟩ := bd_some h
  refine G_callV X (As := [.int a1]) (rest := []) (T' := rs T 9 m) (st2 := [.int q1]) (ct_X7_isBeacon (l := g.2.1) (κ := gκ g)   hq1) cal_X7_isBeacon wM_X7_341 wI_X7_isBeacon wS_X7_isBeacon rfl rfl (by decide) rfl rfl (Nat.le_of_ble_eq_true rfl) ⟨Nat.zero_le _, Nat.zero_le _⟩ dX7_wake_2 rfl ?_
  refine G_istore_n X (lv' := [(2, .int q1), (0, .ref (xE (gκ g) 9 0 0)), (1, .int a1)]) dX7_wake_5 rfl (by decide) rfl ?_
  refine G_aload_n X 1 dX7_wake_6 rfl rfl ?_
  refine G_iload_n X 0 dX7_wake_7 rfl rfl ?_
  refine G_iload_n X 0 dX7_wake_8 rfl rfl ?_
  refine G_if_eq X (tgt := 25) dX7_wake_9 (by decide) (fun c2 => ?_) (fun c2 => ?_)
  · have h := it_t c2 h
    refine G_iconst X (v := (0 : Int32)) dX7_wake_25 (by decide) ?_
    refine G_sub [1, 2] rfl ?_
    exact gX7_wake_b26 X hf h
  · have h := it_f c2 h
    refine G_aload_n X 1 dX7_wake_12 rfl rfl ?_
    refine G_iload_n X 2 dX7_wake_13 rfl rfl ?_
    refine G_iconst X (v := (0 : Int32)) dX7_wake_14 (by decide) ?_
    obtain ⟨q3, hq3, h⟩ := bd_some h
    refine G_callV X (As := [.int a1, .int ((0 : Int32))]) (rest := [.int q1, .ref (xE (gκ g) 9 0 0)]) (T' := rs T 9 m) (st2 := [.int q3, .int q1, .ref (xE (gκ g) 9 0 0)]) (ct_X7_isAt (l := g.2.1) (κ := gκ g)   hq3) cal_X7_isAt wM_X7_297 wI_X7_isAt wS_X7_isAt rfl rfl (by decide) rfl rfl (Nat.le_of_ble_eq_true rfl) ⟨Nat.zero_le _, Nat.zero_le _⟩ dX7_wake_15 rfl ?_
    refine G_if_eq X (tgt := 25) dX7_wake_18 (by decide) (fun c4 => ?_) (fun c4 => ?_)
    · have h := it_t c4 h
      refine G_iconst X (v := (0 : Int32)) dX7_wake_25 (by decide) ?_
      refine G_sub [1, 2] rfl ?_
      exact gX7_wake_b26 X hf h
    · have h := it_f c4 h
      refine G_iconst X (v := (1 : Int32)) dX7_wake_21 (by decide) ?_
      refine G_goto X (tgt := 26) dX7_wake_22 (by decide) ?_
      refine G_sub [1, 2] rfl ?_
      exact gX7_wake_b26 X hf h
set_option maxRecDepth 20000 in
theorem ct_X7_wake {l : Launch} {κ : KX} {T : TT}  {m : St} {a1 : Int32} {res : St × Int32}  (h : sX7_wake m a1 = some res) : Ct l κ yX7_wake cX7_wake 3 (some .int) 5 109 [.ref (xE κ 9 0 0), .int a1] (rs T 9 m) (rs T 9 res.1) (some (.int (res.2))) := by
  refine Ct_i RX7 rfl (by decide +kernel) (Nat.le_of_ble_eq_true rfl) (fun g hl hκ X hf => ?_)
  subst hl; subst hκ
  exact gX7_wake X  hf h
set_option maxRecDepth 20000 in
theorem gX7_swapsCell {g : GX} {T : TT}  {m : St} {a1 : Int32} {a2 : Int32} {res : St × Int32} (X : CX g RX7 cX7_swapsCell 4 0 0)  (hf : FinI g cX7_swapsCell .int (rs T 9 res.1) (res.2)) (h : sX7_swapsCell m a1 a2 = some res) : G g 0 0 (rs T 9 m) 0 [(0, .ref (xE (gκ g) 9 0 0)), (1, .int a1), (2, .int a2)] [] := by
  unfold sX7_swapsCell at h
  refine G_aload_n X 0 dX7_swapsCell_0 rfl rfl ?_
  refine f_X7_20 X rfl rfl dX7_swapsCell_1 ?_
  refine G_iload_n X 1 dX7_swapsCell_4 rfl rfl ?_
  obtain ⟨g1, h⟩ := gd_some h
  refine G_iald X rfl (rg_rs _ _ _) g1 dX7_swapsCell_5 ?_
  refine G_istore_n X (lv' := [(3, .int (gI m 0 2 (ix a1))), (0, .ref (xE (gκ g) 9 0 0)), (1, .int a1), (2, .int a2)]) dX7_swapsCell_6 rfl (by decide) rfl ?_
  refine G_aload_n X 1 dX7_swapsCell_7 rfl rfl ?_
  refine f_X7_20 X rfl rfl dX7_swapsCell_8 ?_
  refine G_iload_n X 2 dX7_swapsCell_11 rfl rfl ?_
  refine G_iload_n X 3 dX7_swapsCell_12 rfl rfl ?_
  obtain ⟨g2, h⟩ := gd_some h
  obtain ⟨x3, ex3, h⟩ := nm_some h
  refine G_iast X (T' := rs T 9 x3) rfl (rg_rs _ _ _) g2 (by rw [rs_rs, ex3]) dX7_swapsCell_13 ?_
  refine G_iload_n X 0 dX7_swapsCell_14 rfl rfl ?_
  obtain rfl := Option.some.inj h
  exact hf _ _ dX7_swapsCell_15 rfl
set_option maxRecDepth 20000 in
theorem ct_X7_swapsCell {l : Launch} {κ : KX} {T : TT}  {m : St} {a1 : Int32} {a2 : Int32} {res : St × Int32}  (h : sX7_swapsCell m a1 a2 = some res) : Ct l κ yX7_swapsCell cX7_swapsCell 4 (some .int) 0 0 [.ref (xE κ 9 0 0), .int a1, .int a2] (rs T 9 m) (rs T 9 res.1) (some (.int (res.2))) := by
  refine Ct_i RX7 rfl (by decide +kernel) (Nat.le_of_ble_eq_true rfl) (fun g hl hκ X hf => ?_)
  subst hl; subst hκ
  exact gX7_swapsCell X  hf h
set_option maxRecDepth 20000 in
theorem gX7_isPeriod {g : GX} {T : TT}  {m : St} {a1 : Int32} {a2 : Int32} {res : Int32} (X : CX g RX7 cX7_isPeriod 3 2 43)  (hf : FinI g cX7_isPeriod .boolean (rs T 9 m) (res)) (h : sX7_isPeriod m a1 a2 = some res) : G g 0 0 (rs T 9 m) 0 [(0, .ref (xE (gκ g) 9 0 0)), (1, .int a1), (2, .int a2)] [] := by
  unfold sX7_isPeriod at h
  refine G_iload_n X 2 dX7_isPeriod_0 rfl rfl ?_
  refine G_i2l X dX7_isPeriod_1 ?_
  refine G_ldc2_w X (v := (2 : Int64)) dX7_isPeriod_2 wK_X7_432 ?_
  refine G_ldc2_w X (v := (99 : Int64)) dX7_isPeriod_5 wK_X7_418 ?_
  obtain ⟨q1, hq1, h⟩ := bd_some h
  refine G_callS X (As := [.long a2.toInt64, .long ((2 : Int64)), .long ((99 : Int64))]) (rest := []) (T' := rs T 9 m) (st2 := [.int q1]) (ct_X7_isIn (l := g.2.1) (κ := gκ g)   hq1) cal_X7_isIn wM_X7_84 wT_X7_isIn (by decide) rfl rfl (Nat.le_of_ble_eq_true rfl) ⟨Nat.zero_le _, Nat.zero_le _⟩ dX7_isPeriod_8 rfl ?_
  refine G_if_eq X (tgt := 28) dX7_isPeriod_11 (by decide) (fun c2 => ?_) (fun c2 => ?_)
  · have h := it_t c2 h
    refine G_iconst X (v := (0 : Int32)) dX7_isPeriod_28 (by decide) ?_
    obtain rfl := Option.some.inj h
    exact hf _ _ dX7_isPeriod_29 (isb_n (v := (0 : Int32)) rfl)
  · have h := it_f c2 h
    refine G_iload_n X 2 dX7_isPeriod_14 rfl rfl ?_
    refine G_aload_n X 0 dX7_isPeriod_15 rfl rfl ?_
    refine G_iload_n X 1 dX7_isPeriod_16 rfl rfl ?_
    refine G_iconst X (v := (1 : Int32)) dX7_isPeriod_17 (by decide) ?_
    obtain ⟨q3, hq3, h⟩ := bd_some h
    refine G_callV X (As := [.int a1, .int ((1 : Int32))]) (rest := [.int a2]) (T' := rs T 9 m) (st2 := [.int q3, .int a2]) (ct_X7_of (l := g.2.1) (κ := gκ g)   hq3) cal_X7_of wM_X7_251 wI_X7_of wS_X7_of rfl rfl (by decide) rfl rfl (Nat.le_of_ble_eq_true rfl) ⟨Nat.zero_le _, Nat.zero_le _⟩ dX7_isPeriod_18 rfl ?_
    refine G_icmp_le X (tgt := 28) dX7_isPeriod_21 (by decide) (fun c4 => ?_) (fun c4 => ?_)
    · have h := it_t c4 h
      refine G_iconst X (v := (0 : Int32)) dX7_isPeriod_28 (by decide) ?_
      obtain rfl := Option.some.inj h
      exact hf _ _ dX7_isPeriod_29 (isb_n (v := (0 : Int32)) rfl)
    · have h := it_f c4 h
      refine G_iconst X (v := (1 : Int32)) dX7_isPeriod_24 (by decide) ?_
      refine G_goto X (tgt := 29) dX7_isPeriod_25 (by decide) ?_
      obtain rfl := Option.some.inj h
      exact hf _ _ dX7_isPeriod_29 (isb_n (v := (1 : Int32)) rfl)
set_option maxRecDepth 20000 in
theorem ct_X7_isPeriod {l : Launch} {κ : KX} {T : TT}  {m : St} {a1 : Int32} {a2 : Int32} {res : Int32}  (h : sX7_isPeriod m a1 a2 = some res) : Ct l κ yX7_isPeriod cX7_isPeriod 3 (some .boolean) 2 43 [.ref (xE κ 9 0 0), .int a1, .int a2] (rs T 9 m) (rs T 9 m) (some (.int (res))) := by
  refine Ct_i RX7 rfl (by decide +kernel) (Nat.le_of_ble_eq_true rfl) (fun g hl hκ X hf => ?_)
  subst hl; subst hκ
  exact gX7_isPeriod X  hf h
set_option maxRecDepth 20000 in
theorem gX7_isFirst {g : GX} {T : TT}  {m : St} {a1 : Int32} {a2 : Int32} {res : Int32} (X : CX g RX7 cX7_isFirst 3 2 43)  (hf : FinI g cX7_isFirst .boolean (rs T 9 m) (res)) (h : sX7_isFirst m a1 a2 = some res) : G g 0 0 (rs T 9 m) 0 [(0, .ref (xE (gκ g) 9 0 0)), (1, .int a1), (2, .int a2)] [] := by
  unfold sX7_isFirst at h
  refine G_iload_n X 2 dX7_isFirst_0 rfl rfl ?_
  refine G_i2l X dX7_isFirst_1 ?_
  refine G_lconst X (v := (0 : Int64)) dX7_isFirst_2 (by decide) ?_
  refine G_aload_n X 0 dX7_isFirst_3 rfl rfl ?_
  refine G_iload_n X 1 dX7_isFirst_4 rfl rfl ?_
  refine G_iconst X (v := (0 : Int32)) dX7_isFirst_5 (by decide) ?_
  obtain ⟨q1, hq1, h⟩ := bd_some h
  refine G_callV X (As := [.int a1, .int ((0 : Int32))]) (rest := [.long ((0 : Int64)), .long a2.toInt64]) (T' := rs T 9 m) (st2 := [.int q1, .long ((0 : Int64)), .long a2.toInt64]) (ct_X7_of (l := g.2.1) (κ := gκ g)   hq1) cal_X7_of wM_X7_251 wI_X7_of wS_X7_of rfl rfl (by decide) rfl rfl (Nat.le_of_ble_eq_true rfl) ⟨Nat.zero_le _, Nat.zero_le _⟩ dX7_isFirst_6 rfl ?_
  refine G_iconst X (v := (1 : Int32)) dX7_isFirst_9 (by decide) ?_
  refine G_isub X dX7_isFirst_10 ?_
  refine G_i2l X dX7_isFirst_11 ?_
  obtain ⟨q2, hq2, h⟩ := bd_some h
  refine G_callS X (As := [.long a2.toInt64, .long ((0 : Int64)), .long ((q1 - ((1 : Int32))).toInt64)]) (rest := []) (T' := rs T 9 m) (st2 := [.int q2]) (ct_X7_isIn (l := g.2.1) (κ := gκ g)   hq2) cal_X7_isIn wM_X7_84 wT_X7_isIn (by decide) rfl rfl (Nat.le_of_ble_eq_true rfl) ⟨Nat.zero_le _, Nat.zero_le _⟩ dX7_isFirst_12 rfl ?_
  obtain ⟨g3, h⟩ := gd_some h
  obtain rfl := Option.some.inj h
  exact hf _ _ dX7_isFirst_15 (isb_n g3)
set_option maxRecDepth 20000 in
theorem ct_X7_isFirst {l : Launch} {κ : KX} {T : TT}  {m : St} {a1 : Int32} {a2 : Int32} {res : Int32}  (h : sX7_isFirst m a1 a2 = some res) : Ct l κ yX7_isFirst cX7_isFirst 3 (some .boolean) 2 43 [.ref (xE κ 9 0 0), .int a1, .int a2] (rs T 9 m) (rs T 9 m) (some (.int (res))) := by
  refine Ct_i RX7 rfl (by decide +kernel) (Nat.le_of_ble_eq_true rfl) (fun g hl hκ X hf => ?_)
  subst hl; subst hκ
  exact gX7_isFirst X  hf h
set_option maxRecDepth 20000 in
theorem gX7_setEvery_b26 {g : GX} {T : TT}  {m : St} {a1 : Int32} {a2 : Int32} {s0 : Int32} {s1 : Int32} {res : St × Int32}  (X : CX g RX7 cX7_setEvery 4 3 66)  (hf : FinI g cX7_setEvery .int (rs T 9 res.1) (res.2))   (h : sX7_setEvery_b26  m a1 a2 s0 s1 = some res) : G g 0 0 (rs T 9 m) 26 [(0, .ref (xE (gκ g) 9 0 0)), (1, .int a1), (2, .int a2)] [.int s0, .int s1, .ref (xE (gκ g) 9 0 0)] := by
  unfold sX7_setEvery_b26 at h
  obtain ⟨q5, hq5, h⟩ := bd_some h
  refine G_callV X (As := [.int s1, .int s0]) (rest := []) (T' := rs T 9 q5.1) (st2 := [.int q5.2]) (ct_X7_goesBoth (l := g.2.1) (κ := gκ g)   hq5) cal_X7_goesBoth wM_X7_354 wI_X7_goesBoth wS_X7_goesBoth rfl rfl (by decide) rfl rfl (Nat.le_of_ble_eq_true rfl) ⟨Nat.zero_le _, Nat.zero_le _⟩ dX7_setEvery_26 rfl ?_
  refine G_if_ne X (tgt := 34) dX7_setEvery_29 (by decide) (fun c6 => ?_) (fun c6 => ?_)
  · have h := it_t c6 h
    refine G_aload_n X 0 dX7_setEvery_34 rfl rfl ?_
    obtain ⟨q7, hq7, h⟩ := bd_some h
    refine G_callV X (As := []) (rest := []) (T' := rs T 9 q7) (st2 := []) (ct_X7_laysAside (l := g.2.1) (κ := gκ g)   hq7) cal_X7_laysAside wM_X7_242 wI_X7_laysAside wS_X7_laysAside rfl rfl (by decide) rfl rfl (Nat.le_of_ble_eq_true rfl) ⟨Nat.zero_le _, Nat.zero_le _⟩ dX7_setEvery_35 rfl ?_
    refine G_aload_n X 0 dX7_setEvery_38 rfl rfl ?_
    refine G_aload_n X 0 dX7_setEvery_39 rfl rfl ?_
    refine G_iload_n X 1 dX7_setEvery_40 rfl rfl ?_
    refine G_iconst X (v := (0 : Int32)) dX7_setEvery_41 (by decide) ?_
    obtain ⟨q8, hq8, h⟩ := bd_some h
    refine G_callS X (As := [.int a1, .int ((0 : Int32))]) (rest := [.ref (xE (gκ g) 9 0 0), .ref (xE (gκ g) 9 0 0)]) (T' := rs T 9 q7) (st2 := [.int q8, .ref (xE (gκ g) 9 0 0), .ref (xE (gκ g) 9 0 0)]) (ct_X7_cellOf (l := g.2.1) (κ := gκ g)   hq8) cal_X7_cellOf wM_X7_145 wT_X7_cellOf (by decide) rfl rfl (Nat.le_of_ble_eq_true rfl) ⟨Nat.zero_le _, Nat.zero_le _⟩ dX7_setEvery_42 rfl ?_
    refine G_iload_n X 2 dX7_setEvery_45 rfl rfl ?_
    obtain ⟨q9, hq9, h⟩ := bd_some h
    refine G_callV X (As := [.int q8, .int a2]) (rest := [.ref (xE (gκ g) 9 0 0)]) (T' := rs T 9 q9.1) (st2 := [.int q9.2, .ref (xE (gκ g) 9 0 0)]) (ct_X7_swapsCell (l := g.2.1) (κ := gκ g)   hq9) cal_X7_swapsCell wM_X7_437 wI_X7_swapsCell wS_X7_swapsCell rfl rfl (by decide) rfl rfl (Nat.le_of_ble_eq_true rfl) ⟨Nat.zero_le _, Nat.zero_le _⟩ dX7_setEvery_46 rfl ?_
    obtain ⟨q10, hq10, h⟩ := bd_some h
    refine G_callV X (As := [.int q9.2]) (rest := []) (T' := rs T 9 q10.1) (st2 := [.int q10.2]) (ct_X7_kept (l := g.2.1) (κ := gκ g)   hq10) cal_X7_kept wM_X7_426 wI_X7_kept wS_X7_kept rfl rfl (by decide) rfl rfl (Nat.le_of_ble_eq_true rfl) ⟨Nat.zero_le _, Nat.zero_le _⟩ dX7_setEvery_49 rfl ?_
    obtain rfl := Option.some.inj h
    exact hf _ _ dX7_setEvery_52 rfl
  · have h := it_f (fun k => k c6) h
    refine G_iconst X (v := (0 : Int32)) dX7_setEvery_32 (by decide) ?_
    obtain rfl := Option.some.inj h
    exact hf _ _ dX7_setEvery_33 rfl
set_option maxRecDepth 20000 in
theorem gX7_setEvery {g : GX} {T : TT}  {m : St} {a1 : Int32} {a2 : Int32} {res : St × Int32} (X : CX g RX7 cX7_setEvery 4 3 66)  (hf : FinI g cX7_setEvery .int (rs T 9 res.1) (res.2)) (h : sX7_setEvery m a1 a2 = some res) : G g 0 0 (rs T 9 m) 0 [(0, .ref (xE (gκ g) 9 0 0)), (1, .int a1), (2, .int a2)] [] := by
  unfold sX7_setEvery at h
  refine G_aload_n X 0 dX7_setEvery_0 rfl rfl ?_
  refine G_iload_n X 1 dX7_setEvery_1 rfl rfl ?_
  obtain ⟨q1, hq1, h⟩ := bd_some h
  refine G_callV X (As := [.int a1]) (rest := []) (T' := rs T 9 m) (st2 := [.int q1]) (ct_X7_isBeacon (l := g.2.1) (κ := gκ g)   hq1) cal_X7_isBeacon wM_X7_341 wI_X7_isBeacon wS_X7_isBeacon rfl rfl (by decide) rfl rfl (Nat.le_of_ble_eq_true rfl) ⟨Nat.zero_le _, Nat.zero_le _⟩ dX7_setEvery_2 rfl ?_
  refine G_istore_n X (lv' := [(3, .int q1), (0, .ref (xE (gκ g) 9 0 0)), (1, .int a1), (2, .int a2)]) dX7_setEvery_5 rfl (by decide) rfl ?_
  refine G_aload_n X 1 dX7_setEvery_6 rfl rfl ?_
  refine G_iload_n X 0 dX7_setEvery_7 rfl rfl ?_
  refine G_iload_n X 0 dX7_setEvery_8 rfl rfl ?_
  refine G_if_eq X (tgt := 25) dX7_setEvery_9 (by decide) (fun c2 => ?_) (fun c2 => ?_)
  · have h := it_t c2 h
    refine G_iconst X (v := (0 : Int32)) dX7_setEvery_25 (by decide) ?_
    refine G_sub [1, 2, 3] rfl ?_
    exact gX7_setEvery_b26 X hf h
  · have h := it_f c2 h
    refine G_aload_n X 1 dX7_setEvery_12 rfl rfl ?_
    refine G_iload_n X 2 dX7_setEvery_13 rfl rfl ?_
    refine G_iload_n X 3 dX7_setEvery_14 rfl rfl ?_
    obtain ⟨q3, hq3, h⟩ := bd_some h
    refine G_callV X (As := [.int a1, .int a2]) (rest := [.int q1, .ref (xE (gκ g) 9 0 0)]) (T' := rs T 9 m) (st2 := [.int q3, .int q1, .ref (xE (gκ g) 9 0 0)]) (ct_X7_isPeriod (l := g.2.1) (κ := gκ g)   hq3) cal_X7_isPeriod wM_X7_434 wI_X7_isPeriod wS_X7_isPeriod rfl rfl (by decide) rfl rfl (Nat.le_of_ble_eq_true rfl) ⟨Nat.zero_le _, Nat.zero_le _⟩ dX7_setEvery_15 rfl ?_
    refine G_if_eq X (tgt := 25) dX7_setEvery_18 (by decide) (fun c4 => ?_) (fun c4 => ?_)
    · have h := it_t c4 h
      refine G_iconst X (v := (0 : Int32)) dX7_setEvery_25 (by decide) ?_
      refine G_sub [1, 2, 3] rfl ?_
      exact gX7_setEvery_b26 X hf h
    · have h := it_f c4 h
      refine G_iconst X (v := (1 : Int32)) dX7_setEvery_21 (by decide) ?_
      refine G_goto X (tgt := 26) dX7_setEvery_22 (by decide) ?_
      refine G_sub [1, 2, 3] rfl ?_
      exact gX7_setEvery_b26 X hf h
set_option maxRecDepth 20000 in
theorem ct_X7_setEvery {l : Launch} {κ : KX} {T : TT}  {m : St} {a1 : Int32} {a2 : Int32} {res : St × Int32}  (h : sX7_setEvery m a1 a2 = some res) : Ct l κ yX7_setEvery cX7_setEvery 4 (some .int) 3 66 [.ref (xE κ 9 0 0), .int a1, .int a2] (rs T 9 m) (rs T 9 res.1) (some (.int (res.2))) := by
  refine Ct_i RX7 rfl (by decide +kernel) (Nat.le_of_ble_eq_true rfl) (fun g hl hκ X hf => ?_)
  subst hl; subst hκ
  exact gX7_setEvery X  hf h
set_option maxRecDepth 20000 in
theorem gX7_setAt_b26 {g : GX} {T : TT}  {m : St} {a1 : Int32} {a2 : Int32} {s0 : Int32} {s1 : Int32} {res : St × Int32}  (X : CX g RX7 cX7_setAt 4 3 66)  (hf : FinI g cX7_setAt .int (rs T 9 res.1) (res.2))   (h : sX7_setAt_b26  m a1 a2 s0 s1 = some res) : G g 0 0 (rs T 9 m) 26 [(0, .ref (xE (gκ g) 9 0 0)), (1, .int a1), (2, .int a2)] [.int s0, .int s1, .ref (xE (gκ g) 9 0 0)] := by
  unfold sX7_setAt_b26 at h
  obtain ⟨q5, hq5, h⟩ := bd_some h
  refine G_callV X (As := [.int s1, .int s0]) (rest := []) (T' := rs T 9 q5.1) (st2 := [.int q5.2]) (ct_X7_goesBoth (l := g.2.1) (κ := gκ g)   hq5) cal_X7_goesBoth wM_X7_354 wI_X7_goesBoth wS_X7_goesBoth rfl rfl (by decide) rfl rfl (Nat.le_of_ble_eq_true rfl) ⟨Nat.zero_le _, Nat.zero_le _⟩ dX7_setAt_26 rfl ?_
  refine G_if_ne X (tgt := 34) dX7_setAt_29 (by decide) (fun c6 => ?_) (fun c6 => ?_)
  · have h := it_t c6 h
    refine G_aload_n X 0 dX7_setAt_34 rfl rfl ?_
    obtain ⟨q7, hq7, h⟩ := bd_some h
    refine G_callV X (As := []) (rest := []) (T' := rs T 9 q7) (st2 := []) (ct_X7_laysAside (l := g.2.1) (κ := gκ g)   hq7) cal_X7_laysAside wM_X7_242 wI_X7_laysAside wS_X7_laysAside rfl rfl (by decide) rfl rfl (Nat.le_of_ble_eq_true rfl) ⟨Nat.zero_le _, Nat.zero_le _⟩ dX7_setAt_35 rfl ?_
    refine G_aload_n X 0 dX7_setAt_38 rfl rfl ?_
    refine G_aload_n X 0 dX7_setAt_39 rfl rfl ?_
    refine G_iload_n X 1 dX7_setAt_40 rfl rfl ?_
    refine G_iconst X (v := (1 : Int32)) dX7_setAt_41 (by decide) ?_
    obtain ⟨q8, hq8, h⟩ := bd_some h
    refine G_callS X (As := [.int a1, .int ((1 : Int32))]) (rest := [.ref (xE (gκ g) 9 0 0), .ref (xE (gκ g) 9 0 0)]) (T' := rs T 9 q7) (st2 := [.int q8, .ref (xE (gκ g) 9 0 0), .ref (xE (gκ g) 9 0 0)]) (ct_X7_cellOf (l := g.2.1) (κ := gκ g)   hq8) cal_X7_cellOf wM_X7_145 wT_X7_cellOf (by decide) rfl rfl (Nat.le_of_ble_eq_true rfl) ⟨Nat.zero_le _, Nat.zero_le _⟩ dX7_setAt_42 rfl ?_
    refine G_iload_n X 2 dX7_setAt_45 rfl rfl ?_
    obtain ⟨q9, hq9, h⟩ := bd_some h
    refine G_callV X (As := [.int q8, .int a2]) (rest := [.ref (xE (gκ g) 9 0 0)]) (T' := rs T 9 q9.1) (st2 := [.int q9.2, .ref (xE (gκ g) 9 0 0)]) (ct_X7_swapsCell (l := g.2.1) (κ := gκ g)   hq9) cal_X7_swapsCell wM_X7_437 wI_X7_swapsCell wS_X7_swapsCell rfl rfl (by decide) rfl rfl (Nat.le_of_ble_eq_true rfl) ⟨Nat.zero_le _, Nat.zero_le _⟩ dX7_setAt_46 rfl ?_
    obtain ⟨q10, hq10, h⟩ := bd_some h
    refine G_callV X (As := [.int q9.2]) (rest := []) (T' := rs T 9 q10.1) (st2 := [.int q10.2]) (ct_X7_kept (l := g.2.1) (κ := gκ g)   hq10) cal_X7_kept wM_X7_426 wI_X7_kept wS_X7_kept rfl rfl (by decide) rfl rfl (Nat.le_of_ble_eq_true rfl) ⟨Nat.zero_le _, Nat.zero_le _⟩ dX7_setAt_49 rfl ?_
    obtain rfl := Option.some.inj h
    exact hf _ _ dX7_setAt_52 rfl
  · have h := it_f (fun k => k c6) h
    refine G_iconst X (v := (0 : Int32)) dX7_setAt_32 (by decide) ?_
    obtain rfl := Option.some.inj h
    exact hf _ _ dX7_setAt_33 rfl
set_option maxRecDepth 20000 in
theorem gX7_setAt {g : GX} {T : TT}  {m : St} {a1 : Int32} {a2 : Int32} {res : St × Int32} (X : CX g RX7 cX7_setAt 4 3 66)  (hf : FinI g cX7_setAt .int (rs T 9 res.1) (res.2)) (h : sX7_setAt m a1 a2 = some res) : G g 0 0 (rs T 9 m) 0 [(0, .ref (xE (gκ g) 9 0 0)), (1, .int a1), (2, .int a2)] [] := by
  unfold sX7_setAt at h
  refine G_aload_n X 0 dX7_setAt_0 rfl rfl ?_
  refine G_iload_n X 1 dX7_setAt_1 rfl rfl ?_
  obtain ⟨q1, hq1, h⟩ := bd_some h
  refine G_callV X (As := [.int a1]) (rest := []) (T' := rs T 9 m) (st2 := [.int q1]) (ct_X7_isBeacon (l := g.2.1) (κ := gκ g)   hq1) cal_X7_isBeacon wM_X7_341 wI_X7_isBeacon wS_X7_isBeacon rfl rfl (by decide) rfl rfl (Nat.le_of_ble_eq_true rfl) ⟨Nat.zero_le _, Nat.zero_le _⟩ dX7_setAt_2 rfl ?_
  refine G_istore_n X (lv' := [(3, .int q1), (0, .ref (xE (gκ g) 9 0 0)), (1, .int a1), (2, .int a2)]) dX7_setAt_5 rfl (by decide) rfl ?_
  refine G_aload_n X 1 dX7_setAt_6 rfl rfl ?_
  refine G_iload_n X 0 dX7_setAt_7 rfl rfl ?_
  refine G_iload_n X 0 dX7_setAt_8 rfl rfl ?_
  refine G_if_eq X (tgt := 25) dX7_setAt_9 (by decide) (fun c2 => ?_) (fun c2 => ?_)
  · have h := it_t c2 h
    refine G_iconst X (v := (0 : Int32)) dX7_setAt_25 (by decide) ?_
    refine G_sub [1, 2, 3] rfl ?_
    exact gX7_setAt_b26 X hf h
  · have h := it_f c2 h
    refine G_aload_n X 1 dX7_setAt_12 rfl rfl ?_
    refine G_iload_n X 2 dX7_setAt_13 rfl rfl ?_
    refine G_iload_n X 3 dX7_setAt_14 rfl rfl ?_
    obtain ⟨q3, hq3, h⟩ := bd_some h
    refine G_callV X (As := [.int a1, .int a2]) (rest := [.int q1, .ref (xE (gκ g) 9 0 0)]) (T' := rs T 9 m) (st2 := [.int q3, .int q1, .ref (xE (gκ g) 9 0 0)]) (ct_X7_isFirst (l := g.2.1) (κ := gκ g)   hq3) cal_X7_isFirst wM_X7_440 wI_X7_isFirst wS_X7_isFirst rfl rfl (by decide) rfl rfl (Nat.le_of_ble_eq_true rfl) ⟨Nat.zero_le _, Nat.zero_le _⟩ dX7_setAt_15 rfl ?_
    refine G_if_eq X (tgt := 25) dX7_setAt_18 (by decide) (fun c4 => ?_) (fun c4 => ?_)
    · have h := it_t c4 h
      refine G_iconst X (v := (0 : Int32)) dX7_setAt_25 (by decide) ?_
      refine G_sub [1, 2, 3] rfl ?_
      exact gX7_setAt_b26 X hf h
    · have h := it_f c4 h
      refine G_iconst X (v := (1 : Int32)) dX7_setAt_21 (by decide) ?_
      refine G_goto X (tgt := 26) dX7_setAt_22 (by decide) ?_
      refine G_sub [1, 2, 3] rfl ?_
      exact gX7_setAt_b26 X hf h
set_option maxRecDepth 20000 in
theorem ct_X7_setAt {l : Launch} {κ : KX} {T : TT}  {m : St} {a1 : Int32} {a2 : Int32} {res : St × Int32}  (h : sX7_setAt m a1 a2 = some res) : Ct l κ yX7_setAt cX7_setAt 4 (some .int) 3 66 [.ref (xE κ 9 0 0), .int a1, .int a2] (rs T 9 m) (rs T 9 res.1) (some (.int (res.2))) := by
  refine Ct_i RX7 rfl (by decide +kernel) (Nat.le_of_ble_eq_true rfl) (fun g hl hκ X hf => ?_)
  subst hl; subst hκ
  exact gX7_setAt X  hf h
set_option maxRecDepth 20000 in
theorem gX7_isBy {g : GX} {T : TT}   {a0 : Int32} {res : Int32} (X : CX g RX7 cX7_isBy 1 1 25)  (hf : FinI g cX7_isBy .boolean (T) (res)) (h : sX7_isBy a0 = some res) : G g 0 0 (T) 0 [(0, .int a0)] [] := by
  unfold sX7_isBy at h
  refine G_iload_n X 0 dX7_isBy_0 rfl rfl ?_
  refine G_i2l X dX7_isBy_1 ?_
  refine G_lconst X (v := (1 : Int64)) dX7_isBy_2 (by decide) ?_
  refine G_ldc2_w X (v := (999 : Int64)) dX7_isBy_3 wK_X7_443 ?_
  obtain ⟨q1, hq1, h⟩ := bd_some h
  refine G_callS X (As := [.long a0.toInt64, .long ((1 : Int64)), .long ((999 : Int64))]) (rest := []) (T' := T) (st2 := [.int q1]) (ct_X7_isIn (l := g.2.1) (κ := gκ g)   hq1) cal_X7_isIn wM_X7_84 wT_X7_isIn (by decide) rfl rfl (Nat.le_of_ble_eq_true rfl) ⟨Nat.zero_le _, Nat.zero_le _⟩ dX7_isBy_6 rfl ?_
  obtain ⟨g2, h⟩ := gd_some h
  obtain rfl := Option.some.inj h
  exact hf _ _ dX7_isBy_9 (isb_n g2)
set_option maxRecDepth 20000 in
theorem ct_X7_isBy {l : Launch} {κ : KX} {T : TT}   {a0 : Int32} {res : Int32}  (h : sX7_isBy a0 = some res) : Ct l κ yX7_isBy cX7_isBy 1 (some .boolean) 1 25 [.int a0] (T) (T) (some (.int (res))) := by
  refine Ct_i RX7 rfl (by decide +kernel) (Nat.le_of_ble_eq_true rfl) (fun g hl hκ X hf => ?_)
  subst hl; subst hκ
  exact gX7_isBy X  hf h
set_option maxRecDepth 20000 in
theorem gX7_charges_b24 {g : GX} {T : TT}  {m : St} {a1 : Int32} {a2 : Int32} {res : St × Int32}  (X : CX g RX7 cX7_charges 3 3 67)  (hf : FinI g cX7_charges .int (rs T 9 res.1) (res.2))   (h : sX7_charges_b24  m a1 a2 = some res) : G g 0 0 (rs T 9 m) 24 [(0, .ref (xE (gκ g) 9 0 0)), (1, .int a1), (2, .int a2)] [] := by
  unfold sX7_charges_b24 at h
  refine G_aload_n X 0 dX7_charges_24 rfl rfl ?_
  refine G_iload_n X 1 dX7_charges_25 rfl rfl ?_
  refine G_iconst X (v := (4 : Int32)) dX7_charges_26 (by decide) ?_
  refine G_sipush X (v := (9999 : Int32)) dX7_charges_27 (by decide) ?_
  refine G_aload_n X 0 dX7_charges_30 rfl rfl ?_
  refine G_iload_n X 1 dX7_charges_31 rfl rfl ?_
  refine G_iconst X (v := (4 : Int32)) dX7_charges_32 (by decide) ?_
  obtain ⟨q5, hq5, h⟩ := bd_some h
  refine G_callV X (As := [.int a1, .int ((4 : Int32))]) (rest := [.int ((9999 : Int32)), .int ((4 : Int32)), .int a1, .ref (xE (gκ g) 9 0 0)]) (T' := rs T 9 m) (st2 := [.int q5, .int ((9999 : Int32)), .int ((4 : Int32)), .int a1, .ref (xE (gκ g) 9 0 0)]) (ct_X7_of (l := g.2.1) (κ := gκ g)   hq5) cal_X7_of wM_X7_251 wI_X7_of wS_X7_of rfl rfl (by decide) rfl rfl (Nat.le_of_ble_eq_true rfl) ⟨Nat.zero_le _, Nat.zero_le _⟩ dX7_charges_33 rfl ?_
  refine G_iload_n X 2 dX7_charges_36 rfl rfl ?_
  refine G_iadd X dX7_charges_37 ?_
  obtain ⟨q6, hq6, h⟩ := bd_some h
  refine G_callS X (As := [.int ((9999 : Int32)), .int (q5 + a2)]) (rest := [.int ((4 : Int32)), .int a1, .ref (xE (gκ g) 9 0 0)]) (T' := rs T 9 m) (st2 := [.int q6, .int ((4 : Int32)), .int a1, .ref (xE (gκ g) 9 0 0)]) (ct_X7_lesser (l := g.2.1) (κ := gκ g)   hq6) cal_X7_lesser wM_X7_260 wT_X7_lesser (by decide) rfl rfl (Nat.le_of_ble_eq_true rfl) ⟨Nat.zero_le _, Nat.zero_le _⟩ dX7_charges_38 rfl ?_
  obtain ⟨q7, hq7, h⟩ := bd_some h
  refine G_callV X (As := [.int a1, .int ((4 : Int32)), .int q6]) (rest := []) (T' := rs T 9 q7) (st2 := []) (ct_X7_sets (l := g.2.1) (κ := gκ g)   hq7) cal_X7_sets wM_X7_148 wI_X7_sets wS_X7_sets rfl rfl (by decide) rfl rfl (Nat.le_of_ble_eq_true rfl) ⟨Nat.zero_le _, Nat.zero_le _⟩ dX7_charges_41 rfl ?_
  refine G_aload_n X 0 dX7_charges_44 rfl rfl ?_
  refine G_iload_n X 1 dX7_charges_45 rfl rfl ?_
  refine G_iconst X (v := (4 : Int32)) dX7_charges_46 (by decide) ?_
  obtain ⟨q8, hq8, h⟩ := bd_some h
  refine G_callV X (As := [.int a1, .int ((4 : Int32))]) (rest := []) (T' := rs T 9 q7) (st2 := [.int q8]) (ct_X7_of (l := g.2.1) (κ := gκ g)   hq8) cal_X7_of wM_X7_251 wI_X7_of wS_X7_of rfl rfl (by decide) rfl rfl (Nat.le_of_ble_eq_true rfl) ⟨Nat.zero_le _, Nat.zero_le _⟩ dX7_charges_47 rfl ?_
  obtain rfl := Option.some.inj h
  exact hf _ _ dX7_charges_50 rfl
set_option maxRecDepth 20000 in
theorem gX7_charges {g : GX} {T : TT}  {m : St} {a1 : Int32} {a2 : Int32} {res : St × Int32} (X : CX g RX7 cX7_charges 3 3 67)  (hf : FinI g cX7_charges .int (rs T 9 res.1) (res.2)) (h : sX7_charges m a1 a2 = some res) : G g 0 0 (rs T 9 m) 0 [(0, .ref (xE (gκ g) 9 0 0)), (1, .int a1), (2, .int a2)] [] := by
  unfold sX7_charges at h
  refine G_aload_n X 0 dX7_charges_0 rfl rfl ?_
  refine G_iload_n X 1 dX7_charges_1 rfl rfl ?_
  refine G_iconst X (v := (4 : Int32)) dX7_charges_2 (by decide) ?_
  obtain ⟨q1, hq1, h⟩ := bd_some h
  refine G_callV X (As := [.int a1, .int ((4 : Int32))]) (rest := []) (T' := rs T 9 m) (st2 := [.int q1]) (ct_X7_isAt (l := g.2.1) (κ := gκ g)   hq1) cal_X7_isAt wM_X7_297 wI_X7_isAt wS_X7_isAt rfl rfl (by decide) rfl rfl (Nat.le_of_ble_eq_true rfl) ⟨Nat.zero_le _, Nat.zero_le _⟩ dX7_charges_3 rfl ?_
  refine G_if_eq X (tgt := 24) dX7_charges_6 (by decide) (fun c2 => ?_) (fun c2 => ?_)
  · have h := it_t c2 h
    exact gX7_charges_b24 X hf h
  · have h := it_f c2 h
    refine G_aload_n X 0 dX7_charges_9 rfl rfl ?_
    refine G_iload_n X 1 dX7_charges_10 rfl rfl ?_
    refine G_bipush X (v := (7 : Int32)) dX7_charges_11 (by decide) ?_
    refine G_iconst X (v := (0 : Int32)) dX7_charges_13 (by decide) ?_
    obtain ⟨q3, hq3, h⟩ := bd_some h
    refine G_callV X (As := [.int a1, .int ((7 : Int32)), .int ((0 : Int32))]) (rest := []) (T' := rs T 9 q3) (st2 := []) (ct_X7_sets (l := g.2.1) (κ := gκ g)   hq3) cal_X7_sets wM_X7_148 wI_X7_sets wS_X7_sets rfl rfl (by decide) rfl rfl (Nat.le_of_ble_eq_true rfl) ⟨Nat.zero_le _, Nat.zero_le _⟩ dX7_charges_14 rfl ?_
    refine G_aload_n X 0 dX7_charges_17 rfl rfl ?_
    refine G_iload_n X 1 dX7_charges_18 rfl rfl ?_
    refine G_iconst X (v := (0 : Int32)) dX7_charges_19 (by decide) ?_
    refine G_iconst X (v := (0 : Int32)) dX7_charges_20 (by decide) ?_
    obtain ⟨q4, hq4, h⟩ := bd_some h
    refine G_callV X (As := [.int a1, .int ((0 : Int32)), .int ((0 : Int32))]) (rest := []) (T' := rs T 9 q4) (st2 := []) (ct_X7_enters (l := g.2.1) (κ := gκ g)   hq4) cal_X7_enters wM_X7_264 wI_X7_enters wS_X7_enters rfl rfl (by decide) rfl rfl (Nat.le_of_ble_eq_true rfl) ⟨Nat.zero_le _, Nat.zero_le _⟩ dX7_charges_21 rfl ?_
    exact gX7_charges_b24 X hf h
set_option maxRecDepth 20000 in
theorem ct_X7_charges {l : Launch} {κ : KX} {T : TT}  {m : St} {a1 : Int32} {a2 : Int32} {res : St × Int32}  (h : sX7_charges m a1 a2 = some res) : Ct l κ yX7_charges cX7_charges 3 (some .int) 3 67 [.ref (xE κ 9 0 0), .int a1, .int a2] (rs T 9 m) (rs T 9 res.1) (some (.int (res.2))) := by
  refine Ct_i RX7 rfl (by decide +kernel) (Nat.le_of_ble_eq_true rfl) (fun g hl hκ X hf => ?_)
  subst hl; subst hκ
  exact gX7_charges X  hf h
set_option maxRecDepth 20000 in
theorem gX7_charge {g : GX} {T : TT}  {m : St} {a1 : Int32} {a2 : Int32} {res : St × Int32} (X : CX g RX7 cX7_charge 3 4 89)  (hf : FinI g cX7_charge .int (rs T 9 res.1) (res.2)) (h : sX7_charge m a1 a2 = some res) : G g 0 0 (rs T 9 m) 0 [(0, .ref (xE (gκ g) 9 0 0)), (1, .int a1), (2, .int a2)] [] := by
  unfold sX7_charge at h
  refine G_aload_n X 0 dX7_charge_0 rfl rfl ?_
  refine G_aload_n X 0 dX7_charge_1 rfl rfl ?_
  refine G_iload_n X 1 dX7_charge_2 rfl rfl ?_
  obtain ⟨q1, hq1, h⟩ := bd_some h
  refine G_callV X (As := [.int a1]) (rest := [.ref (xE (gκ g) 9 0 0)]) (T' := rs T 9 m) (st2 := [.int q1, .ref (xE (gκ g) 9 0 0)]) (ct_X7_isBeacon (l := g.2.1) (κ := gκ g)   hq1) cal_X7_isBeacon wM_X7_341 wI_X7_isBeacon wS_X7_isBeacon rfl rfl (by decide) rfl rfl (Nat.le_of_ble_eq_true rfl) ⟨Nat.zero_le _, Nat.zero_le _⟩ dX7_charge_3 rfl ?_
  refine G_iload_n X 2 dX7_charge_6 rfl rfl ?_
  obtain ⟨q2, hq2, h⟩ := bd_some h
  refine G_callS X (As := [.int a2]) (rest := [.int q1, .ref (xE (gκ g) 9 0 0)]) (T' := rs T 9 m) (st2 := [.int q2, .int q1, .ref (xE (gκ g) 9 0 0)]) (ct_X7_isBy (l := g.2.1) (κ := gκ g)   hq2) cal_X7_isBy wM_X7_445 wT_X7_isBy (by decide) rfl rfl (Nat.le_of_ble_eq_true rfl) ⟨Nat.zero_le _, Nat.zero_le _⟩ dX7_charge_7 rfl ?_
  obtain ⟨q3, hq3, h⟩ := bd_some h
  refine G_callV X (As := [.int q1, .int q2]) (rest := []) (T' := rs T 9 q3.1) (st2 := [.int q3.2]) (ct_X7_goesBoth (l := g.2.1) (κ := gκ g)   hq3) cal_X7_goesBoth wM_X7_354 wI_X7_goesBoth wS_X7_goesBoth rfl rfl (by decide) rfl rfl (Nat.le_of_ble_eq_true rfl) ⟨Nat.zero_le _, Nat.zero_le _⟩ dX7_charge_10 rfl ?_
  refine G_if_ne X (tgt := 18) dX7_charge_13 (by decide) (fun c4 => ?_) (fun c4 => ?_)
  · have h := it_t c4 h
    refine G_aload_n X 0 dX7_charge_18 rfl rfl ?_
    obtain ⟨q5, hq5, h⟩ := bd_some h
    refine G_callV X (As := []) (rest := []) (T' := rs T 9 q5) (st2 := []) (ct_X7_laysAside (l := g.2.1) (κ := gκ g)   hq5) cal_X7_laysAside wM_X7_242 wI_X7_laysAside wS_X7_laysAside rfl rfl (by decide) rfl rfl (Nat.le_of_ble_eq_true rfl) ⟨Nat.zero_le _, Nat.zero_le _⟩ dX7_charge_19 rfl ?_
    refine G_aload_n X 0 dX7_charge_22 rfl rfl ?_
    refine G_aload_n X 0 dX7_charge_23 rfl rfl ?_
    refine G_iload_n X 1 dX7_charge_24 rfl rfl ?_
    refine G_iload_n X 2 dX7_charge_25 rfl rfl ?_
    obtain ⟨q6, hq6, h⟩ := bd_some h
    refine G_callV X (As := [.int a1, .int a2]) (rest := [.ref (xE (gκ g) 9 0 0)]) (T' := rs T 9 q6.1) (st2 := [.int q6.2, .ref (xE (gκ g) 9 0 0)]) (ct_X7_charges (l := g.2.1) (κ := gκ g)   hq6) cal_X7_charges wM_X7_448 wI_X7_charges wS_X7_charges rfl rfl (by decide) rfl rfl (Nat.le_of_ble_eq_true rfl) ⟨Nat.zero_le _, Nat.zero_le _⟩ dX7_charge_26 rfl ?_
    obtain ⟨q7, hq7, h⟩ := bd_some h
    refine G_callV X (As := [.int q6.2]) (rest := []) (T' := rs T 9 q7.1) (st2 := [.int q7.2]) (ct_X7_kept (l := g.2.1) (κ := gκ g)   hq7) cal_X7_kept wM_X7_426 wI_X7_kept wS_X7_kept rfl rfl (by decide) rfl rfl (Nat.le_of_ble_eq_true rfl) ⟨Nat.zero_le _, Nat.zero_le _⟩ dX7_charge_29 rfl ?_
    obtain rfl := Option.some.inj h
    exact hf _ _ dX7_charge_32 rfl
  · have h := it_f (fun k => k c4) h
    refine G_iconst X (v := (0 : Int32)) dX7_charge_16 (by decide) ?_
    obtain rfl := Option.some.inj h
    exact hf _ _ dX7_charge_17 rfl
set_option maxRecDepth 20000 in
theorem ct_X7_charge {l : Launch} {κ : KX} {T : TT}  {m : St} {a1 : Int32} {a2 : Int32} {res : St × Int32}  (h : sX7_charge m a1 a2 = some res) : Ct l κ yX7_charge cX7_charge 3 (some .int) 4 89 [.ref (xE κ 9 0 0), .int a1, .int a2] (rs T 9 m) (rs T 9 res.1) (some (.int (res.2))) := by
  refine Ct_i RX7 rfl (by decide +kernel) (Nat.le_of_ble_eq_true rfl) (fun g hl hκ X hf => ?_)
  subst hl; subst hκ
  exact gX7_charge X  hf h
set_option maxRecDepth 20000 in
theorem gX7_setNear_b17 {g : GX} {T : TT}  {m : St} {a1 : Int32} {a2 : Int32} {a3 : Int32} {s0 : Int32} {s1 : Int32} {res : St × Int32}  (X : CX g RX7 cX7_setNear 4 3 68)  (hf : FinI g cX7_setNear .boolean (rs T 9 res.1) (res.2))   (h : sX7_setNear_b17  m a1 a2 a3 s0 s1 = some res) : G g 0 0 (rs T 9 m) 17 [(0, .ref (xE (gκ g) 9 0 0)), (1, .int a1), (2, .int a2), (3, .int a3)] [.int s0, .int s1, .ref (xE (gκ g) 9 0 0)] := by
  unfold sX7_setNear_b17 at h
  obtain ⟨q3, hq3, h⟩ := bd_some h
  refine G_callV X (As := [.int s1, .int s0]) (rest := []) (T' := rs T 9 q3.1) (st2 := [.int q3.2]) (ct_X7_goesBoth (l := g.2.1) (κ := gκ g)   hq3) cal_X7_goesBoth wM_X7_354 wI_X7_goesBoth wS_X7_goesBoth rfl rfl (by decide) rfl rfl (Nat.le_of_ble_eq_true rfl) ⟨Nat.zero_le _, Nat.zero_le _⟩ dX7_setNear_17 rfl ?_
  refine G_if_eq X (tgt := 33) dX7_setNear_20 (by decide) (fun c4 => ?_) (fun c4 => ?_)
  · have h := it_t c4 h
    refine G_iconst X (v := (0 : Int32)) dX7_setNear_33 (by decide) ?_
    obtain rfl := Option.some.inj h
    exact hf _ _ dX7_setNear_34 (isb_n (v := (0 : Int32)) rfl)
  · have h := it_f c4 h
    refine G_aload_n X 0 dX7_setNear_23 rfl rfl ?_
    refine G_iload_n X 1 dX7_setNear_24 rfl rfl ?_
    refine G_iload_n X 2 dX7_setNear_25 rfl rfl ?_
    obtain ⟨q5, hq5, h⟩ := bd_some h
    refine G_callV X (As := [.int a1, .int a2]) (rest := []) (T' := rs T 9 q3.1) (st2 := [.int q5]) (ct_X7_areNear (l := g.2.1) (κ := gκ g)   hq5) cal_X7_areNear wM_X7_208 wI_X7_areNear wS_X7_areNear rfl rfl (by decide) rfl rfl (Nat.le_of_ble_eq_true rfl) ⟨Nat.zero_le _, Nat.zero_le _⟩ dX7_setNear_26 rfl ?_
    refine G_iload_n X 3 dX7_setNear_29 rfl rfl ?_
    refine G_icmp_ne X (tgt := 35) dX7_setNear_30 (by decide) (fun c6 => ?_) (fun c6 => ?_)
    · have h := it_t c6 h
      refine G_aload_n X 0 dX7_setNear_35 rfl rfl ?_
      obtain ⟨q7, hq7, h⟩ := bd_some h
      refine G_callV X (As := []) (rest := []) (T' := rs T 9 q7) (st2 := []) (ct_X7_laysAside (l := g.2.1) (κ := gκ g)   hq7) cal_X7_laysAside wM_X7_242 wI_X7_laysAside wS_X7_laysAside rfl rfl (by decide) rfl rfl (Nat.le_of_ble_eq_true rfl) ⟨Nat.zero_le _, Nat.zero_le _⟩ dX7_setNear_36 rfl ?_
      refine G_aload_n X 0 dX7_setNear_39 rfl rfl ?_
      refine G_iload_n X 1 dX7_setNear_40 rfl rfl ?_
      refine G_iload_n X 2 dX7_setNear_41 rfl rfl ?_
      refine G_iload_n X 3 dX7_setNear_42 rfl rfl ?_
      obtain ⟨q8, hq8, h⟩ := bd_some h
      refine G_callV X (As := [.int a1, .int a2, .int a3]) (rest := []) (T' := rs T 9 q8) (st2 := []) (ct_X7_nears (l := g.2.1) (κ := gκ g)   hq8) cal_X7_nears wM_X7_211 wI_X7_nears wS_X7_nears rfl rfl (by decide) rfl rfl (Nat.le_of_ble_eq_true rfl) ⟨Nat.zero_le _, Nat.zero_le _⟩ dX7_setNear_43 rfl ?_
      refine G_aload_n X 0 dX7_setNear_46 rfl rfl ?_
      obtain ⟨q9, hq9, h⟩ := bd_some h
      refine G_callV X (As := []) (rest := []) (T' := rs T 9 q9) (st2 := []) (ct_X7_keeps (l := g.2.1) (κ := gκ g)   hq9) cal_X7_keeps wM_X7_159 wI_X7_keeps wS_X7_keeps rfl rfl (by decide) rfl rfl (Nat.le_of_ble_eq_true rfl) ⟨Nat.zero_le _, Nat.zero_le _⟩ dX7_setNear_47 rfl ?_
      refine G_iconst X (v := (1 : Int32)) dX7_setNear_50 (by decide) ?_
      obtain rfl := Option.some.inj h
      exact hf _ _ dX7_setNear_51 (isb_n (v := (1 : Int32)) rfl)
    · have h := it_f (fun k => k c6) h
      refine G_iconst X (v := (0 : Int32)) dX7_setNear_33 (by decide) ?_
      obtain rfl := Option.some.inj h
      exact hf _ _ dX7_setNear_34 (isb_n (v := (0 : Int32)) rfl)
set_option maxRecDepth 20000 in
theorem gX7_setNear {g : GX} {T : TT}  {m : St} {a1 : Int32} {a2 : Int32} {a3 : Int32} {res : St × Int32} (X : CX g RX7 cX7_setNear 4 3 68)  (hf : FinI g cX7_setNear .boolean (rs T 9 res.1) (res.2)) (h : sX7_setNear m a1 a2 a3 = some res) : G g 0 0 (rs T 9 m) 0 [(0, .ref (xE (gκ g) 9 0 0)), (1, .int a1), (2, .int a2), (3, .int a3)] [] := by
  unfold sX7_setNear at h
  refine G_aload_n X 0 dX7_setNear_0 rfl rfl ?_
  refine G_aload_n X 0 dX7_setNear_1 rfl rfl ?_
  refine G_iload_n X 1 dX7_setNear_2 rfl rfl ?_
  refine G_iload_n X 2 dX7_setNear_3 rfl rfl ?_
  obtain ⟨q1, hq1, h⟩ := bd_some h
  refine G_callV X (As := [.int a1, .int a2]) (rest := [.ref (xE (gκ g) 9 0 0)]) (T' := rs T 9 m) (st2 := [.int q1, .ref (xE (gκ g) 9 0 0)]) (ct_X7_areBeacons (l := g.2.1) (κ := gκ g)   hq1) cal_X7_areBeacons wM_X7_370 wI_X7_areBeacons wS_X7_areBeacons rfl rfl (by decide) rfl rfl (Nat.le_of_ble_eq_true rfl) ⟨Nat.zero_le _, Nat.zero_le _⟩ dX7_setNear_4 rfl ?_
  refine G_iload_n X 1 dX7_setNear_7 rfl rfl ?_
  refine G_iload_n X 2 dX7_setNear_8 rfl rfl ?_
  refine G_icmp_eq X (tgt := 16) dX7_setNear_9 (by decide) (fun c2 => ?_) (fun c2 => ?_)
  · have h := it_t c2 h
    refine G_iconst X (v := (0 : Int32)) dX7_setNear_16 (by decide) ?_
    exact gX7_setNear_b17 X hf h
  · have h := it_f c2 h
    refine G_iconst X (v := (1 : Int32)) dX7_setNear_12 (by decide) ?_
    refine G_goto X (tgt := 17) dX7_setNear_13 (by decide) ?_
    exact gX7_setNear_b17 X hf h
set_option maxRecDepth 20000 in
theorem ct_X7_setNear {l : Launch} {κ : KX} {T : TT}  {m : St} {a1 : Int32} {a2 : Int32} {a3 : Int32} {res : St × Int32}  (h : sX7_setNear m a1 a2 a3 = some res) : Ct l κ yX7_setNear cX7_setNear 4 (some .boolean) 3 68 [.ref (xE κ 9 0 0), .int a1, .int a2, .int a3] (rs T 9 m) (rs T 9 res.1) (some (.int (res.2))) := by
  refine Ct_i RX7 rfl (by decide +kernel) (Nat.le_of_ble_eq_true rfl) (fun g hl hκ X hf => ?_)
  subst hl; subst hκ
  exact gX7_setNear X  hf h
set_option maxRecDepth 20000 in
theorem gX7_setTries {g : GX} {T : TT}  {m : St} {a1 : Int32} {res : St × Int32} (X : CX g RX7 cX7_setTries 2 3 66)  (hf : FinI g cX7_setTries .int (rs T 9 res.1) (res.2)) (h : sX7_setTries m a1 = some res) : G g 0 0 (rs T 9 m) 0 [(0, .ref (xE (gκ g) 9 0 0)), (1, .int a1)] [] := by
  unfold sX7_setTries at h
  refine G_aload_n X 0 dX7_setTries_0 rfl rfl ?_
  refine G_iload_n X 1 dX7_setTries_1 rfl rfl ?_
  refine G_i2l X dX7_setTries_2 ?_
  refine G_lconst X (v := (1 : Int64)) dX7_setTries_3 (by decide) ?_
  refine G_ldc2_w X (v := (9 : Int64)) dX7_setTries_4 wK_X7_451 ?_
  obtain ⟨q1, hq1, h⟩ := bd_some h
  refine G_callS X (As := [.long a1.toInt64, .long ((1 : Int64)), .long ((9 : Int64))]) (rest := [.ref (xE (gκ g) 9 0 0)]) (T' := rs T 9 m) (st2 := [.int q1, .ref (xE (gκ g) 9 0 0)]) (ct_X7_isIn (l := g.2.1) (κ := gκ g)   hq1) cal_X7_isIn wM_X7_84 wT_X7_isIn (by decide) rfl rfl (Nat.le_of_ble_eq_true rfl) ⟨Nat.zero_le _, Nat.zero_le _⟩ dX7_setTries_7 rfl ?_
  obtain ⟨q2, hq2, h⟩ := bd_some h
  refine G_callV X (As := [.int q1]) (rest := []) (T' := rs T 9 q2.1) (st2 := [.int q2.2]) (ct_X7_goes (l := g.2.1) (κ := gκ g)   hq2) cal_X7_goes wM_X7_76 wI_X7_goes wS_X7_goes rfl rfl (by decide) rfl rfl (Nat.le_of_ble_eq_true rfl) ⟨Nat.zero_le _, Nat.zero_le _⟩ dX7_setTries_10 rfl ?_
  refine G_if_ne X (tgt := 18) dX7_setTries_13 (by decide) (fun c3 => ?_) (fun c3 => ?_)
  · have h := it_t c3 h
    refine G_aload_n X 0 dX7_setTries_18 rfl rfl ?_
    obtain ⟨q4, hq4, h⟩ := bd_some h
    refine G_callV X (As := []) (rest := []) (T' := rs T 9 q4) (st2 := []) (ct_X7_laysAside (l := g.2.1) (κ := gκ g)   hq4) cal_X7_laysAside wM_X7_242 wI_X7_laysAside wS_X7_laysAside rfl rfl (by decide) rfl rfl (Nat.le_of_ble_eq_true rfl) ⟨Nat.zero_le _, Nat.zero_le _⟩ dX7_setTries_19 rfl ?_
    refine G_aload_n X 0 dX7_setTries_22 rfl rfl ?_
    refine G_aload_n X 0 dX7_setTries_23 rfl rfl ?_
    refine G_iconst X (v := (2 : Int32)) dX7_setTries_24 (by decide) ?_
    refine G_iload_n X 1 dX7_setTries_25 rfl rfl ?_
    obtain ⟨q5, hq5, h⟩ := bd_some h
    refine G_callV X (As := [.int ((2 : Int32)), .int a1]) (rest := [.ref (xE (gκ g) 9 0 0)]) (T' := rs T 9 q5.1) (st2 := [.int q5.2, .ref (xE (gκ g) 9 0 0)]) (ct_X7_swapsCell (l := g.2.1) (κ := gκ g)   hq5) cal_X7_swapsCell wM_X7_437 wI_X7_swapsCell wS_X7_swapsCell rfl rfl (by decide) rfl rfl (Nat.le_of_ble_eq_true rfl) ⟨Nat.zero_le _, Nat.zero_le _⟩ dX7_setTries_26 rfl ?_
    obtain ⟨q6, hq6, h⟩ := bd_some h
    refine G_callV X (As := [.int q5.2]) (rest := []) (T' := rs T 9 q6.1) (st2 := [.int q6.2]) (ct_X7_kept (l := g.2.1) (κ := gκ g)   hq6) cal_X7_kept wM_X7_426 wI_X7_kept wS_X7_kept rfl rfl (by decide) rfl rfl (Nat.le_of_ble_eq_true rfl) ⟨Nat.zero_le _, Nat.zero_le _⟩ dX7_setTries_29 rfl ?_
    obtain rfl := Option.some.inj h
    exact hf _ _ dX7_setTries_32 rfl
  · have h := it_f (fun k => k c3) h
    refine G_iconst X (v := (0 : Int32)) dX7_setTries_16 (by decide) ?_
    obtain rfl := Option.some.inj h
    exact hf _ _ dX7_setTries_17 rfl
set_option maxRecDepth 20000 in
theorem ct_X7_setTries {l : Launch} {κ : KX} {T : TT}  {m : St} {a1 : Int32} {res : St × Int32}  (h : sX7_setTries m a1 = some res) : Ct l κ yX7_setTries cX7_setTries 2 (some .int) 3 66 [.ref (xE κ 9 0 0), .int a1] (rs T 9 m) (rs T 9 res.1) (some (.int (res.2))) := by
  refine Ct_i RX7 rfl (by decide +kernel) (Nat.le_of_ble_eq_true rfl) (fun g hl hκ X hf => ?_)
  subst hl; subst hκ
  exact gX7_setTries X  hf h
set_option maxRecDepth 20000 in
theorem gX7_commandHere {g : GX} {T : TT}  {m : St}  {res : Int32} (X : CX g RX7 cX7_commandHere 1 1 22)  (hf : FinI g cX7_commandHere .int (rs T 9 m) (res)) (h : sX7_commandHere m = some res) : G g 0 0 (rs T 9 m) 0 [(0, .ref (xE (gκ g) 9 0 0))] [] := by
  unfold sX7_commandHere at h
  refine G_aload_n X 0 dX7_commandHere_0 rfl rfl ?_
  refine G_ldc2_w X (v := (19118 : Int64)) dX7_commandHere_1 wK_X7_453 ?_
  obtain ⟨q1, hq1, h⟩ := bd_some h
  refine G_callV X (As := [.long ((19118 : Int64))]) (rest := []) (T' := rs T 9 m) (st2 := [.int q1]) (ct_X7_isWord (l := g.2.1) (κ := gκ g)   hq1) cal_X7_isWord wM_X7_134 wI_X7_isWord wS_X7_isWord rfl rfl (by decide) rfl rfl (Nat.le_of_ble_eq_true rfl) ⟨Nat.zero_le _, Nat.zero_le _⟩ dX7_commandHere_4 rfl ?_
  refine G_if_eq X (tgt := 12) dX7_commandHere_7 (by decide) (fun c2 => ?_) (fun c2 => ?_)
  · have h := it_t c2 h
    refine G_aload_n X 0 dX7_commandHere_12 rfl rfl ?_
    refine G_ldc2_w X (v := (755045 : Int64)) dX7_commandHere_13 wK_X7_455 ?_
    obtain ⟨q3, hq3, h⟩ := bd_some h
    refine G_callV X (As := [.long ((755045 : Int64))]) (rest := []) (T' := rs T 9 m) (st2 := [.int q3]) (ct_X7_isWord (l := g.2.1) (κ := gκ g)   hq3) cal_X7_isWord wM_X7_134 wI_X7_isWord wS_X7_isWord rfl rfl (by decide) rfl rfl (Nat.le_of_ble_eq_true rfl) ⟨Nat.zero_le _, Nat.zero_le _⟩ dX7_commandHere_16 rfl ?_
    refine G_if_eq X (tgt := 24) dX7_commandHere_19 (by decide) (fun c4 => ?_) (fun c4 => ?_)
    · have h := it_t c4 h
      refine G_aload_n X 0 dX7_commandHere_24 rfl rfl ?_
      refine G_ldc2_w X (v := (5969497 : Int64)) dX7_commandHere_25 wK_X7_187 ?_
      obtain ⟨q5, hq5, h⟩ := bd_some h
      refine G_callV X (As := [.long ((5969497 : Int64))]) (rest := []) (T' := rs T 9 m) (st2 := [.int q5]) (ct_X7_isWord (l := g.2.1) (κ := gκ g)   hq5) cal_X7_isWord wM_X7_134 wI_X7_isWord wS_X7_isWord rfl rfl (by decide) rfl rfl (Nat.le_of_ble_eq_true rfl) ⟨Nat.zero_le _, Nat.zero_le _⟩ dX7_commandHere_28 rfl ?_
      refine G_if_eq X (tgt := 36) dX7_commandHere_31 (by decide) (fun c6 => ?_) (fun c6 => ?_)
      · have h := it_t c6 h
        refine G_aload_n X 0 dX7_commandHere_36 rfl rfl ?_
        refine G_ldc2_w X (v := (52 : Int64)) dX7_commandHere_37 wK_X7_193 ?_
        obtain ⟨q7, hq7, h⟩ := bd_some h
        refine G_callV X (As := [.long ((52 : Int64))]) (rest := []) (T' := rs T 9 m) (st2 := [.int q7]) (ct_X7_isWord (l := g.2.1) (κ := gκ g)   hq7) cal_X7_isWord wM_X7_134 wI_X7_isWord wS_X7_isWord rfl rfl (by decide) rfl rfl (Nat.le_of_ble_eq_true rfl) ⟨Nat.zero_le _, Nat.zero_le _⟩ dX7_commandHere_40 rfl ?_
        refine G_if_eq X (tgt := 48) dX7_commandHere_43 (by decide) (fun c8 => ?_) (fun c8 => ?_)
        · have h := it_t c8 h
          refine G_aload_n X 0 dX7_commandHere_48 rfl rfl ?_
          refine G_ldc2_w X (v := (109103333 : Int64)) dX7_commandHere_49 wK_X7_457 ?_
          obtain ⟨q9, hq9, h⟩ := bd_some h
          refine G_callV X (As := [.long ((109103333 : Int64))]) (rest := []) (T' := rs T 9 m) (st2 := [.int q9]) (ct_X7_isWord (l := g.2.1) (κ := gκ g)   hq9) cal_X7_isWord wM_X7_134 wI_X7_isWord wS_X7_isWord rfl rfl (by decide) rfl rfl (Nat.le_of_ble_eq_true rfl) ⟨Nat.zero_le _, Nat.zero_le _⟩ dX7_commandHere_52 rfl ?_
          refine G_if_eq X (tgt := 60) dX7_commandHere_55 (by decide) (fun c10 => ?_) (fun c10 => ?_)
          · have h := it_t c10 h
            refine G_aload_n X 0 dX7_commandHere_60 rfl rfl ?_
            refine G_ldc2_w X (v := (463922 : Int64)) dX7_commandHere_61 wK_X7_231 ?_
            obtain ⟨q11, hq11, h⟩ := bd_some h
            refine G_callV X (As := [.long ((463922 : Int64))]) (rest := []) (T' := rs T 9 m) (st2 := [.int q11]) (ct_X7_isWord (l := g.2.1) (κ := gκ g)   hq11) cal_X7_isWord wM_X7_134 wI_X7_isWord wS_X7_isWord rfl rfl (by decide) rfl rfl (Nat.le_of_ble_eq_true rfl) ⟨Nat.zero_le _, Nat.zero_le _⟩ dX7_commandHere_64 rfl ?_
            refine G_if_eq X (tgt := 72) dX7_commandHere_67 (by decide) (fun c12 => ?_) (fun c12 => ?_)
            · have h := it_t c12 h
              refine G_aload_n X 0 dX7_commandHere_72 rfl rfl ?_
              refine G_ldc2_w X (v := (6194 : Int64)) dX7_commandHere_73 wK_X7_459 ?_
              obtain ⟨q13, hq13, h⟩ := bd_some h
              refine G_callV X (As := [.long ((6194 : Int64))]) (rest := []) (T' := rs T 9 m) (st2 := [.int q13]) (ct_X7_isWord (l := g.2.1) (κ := gκ g)   hq13) cal_X7_isWord wM_X7_134 wI_X7_isWord wS_X7_isWord rfl rfl (by decide) rfl rfl (Nat.le_of_ble_eq_true rfl) ⟨Nat.zero_le _, Nat.zero_le _⟩ dX7_commandHere_76 rfl ?_
              refine G_if_eq X (tgt := 85) dX7_commandHere_79 (by decide) (fun c14 => ?_) (fun c14 => ?_)
              · have h := it_t c14 h
                refine G_aload_n X 0 dX7_commandHere_85 rfl rfl ?_
                refine G_ldc2_w X (v := (609752116 : Int64)) dX7_commandHere_86 wK_X7_461 ?_
                obtain ⟨q15, hq15, h⟩ := bd_some h
                refine G_callV X (As := [.long ((609752116 : Int64))]) (rest := []) (T' := rs T 9 m) (st2 := [.int q15]) (ct_X7_isWord (l := g.2.1) (κ := gκ g)   hq15) cal_X7_isWord wM_X7_134 wI_X7_isWord wS_X7_isWord rfl rfl (by decide) rfl rfl (Nat.le_of_ble_eq_true rfl) ⟨Nat.zero_le _, Nat.zero_le _⟩ dX7_commandHere_89 rfl ?_
                refine G_if_eq X (tgt := 100) dX7_commandHere_92 (by decide) (fun c16 => ?_) (fun c16 => ?_)
                · have h := it_t c16 h
                  refine G_iconst X (v := (-1 : Int32)) dX7_commandHere_100 (by decide) ?_
                  obtain rfl := Option.some.inj h
                  exact hf _ _ dX7_commandHere_101 rfl
                · have h := it_f c16 h
                  refine G_bipush X (v := (7 : Int32)) dX7_commandHere_95 (by decide) ?_
                  refine G_goto X (tgt := 101) dX7_commandHere_97 (by decide) ?_
                  obtain rfl := Option.some.inj h
                  exact hf _ _ dX7_commandHere_101 rfl
              · have h := it_f c14 h
                refine G_bipush X (v := (6 : Int32)) dX7_commandHere_82 (by decide) ?_
                obtain rfl := Option.some.inj h
                exact hf _ _ dX7_commandHere_84 rfl
            · have h := it_f c12 h
              refine G_iconst X (v := (5 : Int32)) dX7_commandHere_70 (by decide) ?_
              obtain rfl := Option.some.inj h
              exact hf _ _ dX7_commandHere_71 rfl
          · have h := it_f c10 h
            refine G_iconst X (v := (4 : Int32)) dX7_commandHere_58 (by decide) ?_
            obtain rfl := Option.some.inj h
            exact hf _ _ dX7_commandHere_59 rfl
        · have h := it_f c8 h
          refine G_iconst X (v := (3 : Int32)) dX7_commandHere_46 (by decide) ?_
          obtain rfl := Option.some.inj h
          exact hf _ _ dX7_commandHere_47 rfl
      · have h := it_f c6 h
        refine G_iconst X (v := (2 : Int32)) dX7_commandHere_34 (by decide) ?_
        obtain rfl := Option.some.inj h
        exact hf _ _ dX7_commandHere_35 rfl
    · have h := it_f c4 h
      refine G_iconst X (v := (1 : Int32)) dX7_commandHere_22 (by decide) ?_
      obtain rfl := Option.some.inj h
      exact hf _ _ dX7_commandHere_23 rfl
  · have h := it_f c2 h
    refine G_iconst X (v := (0 : Int32)) dX7_commandHere_10 (by decide) ?_
    obtain rfl := Option.some.inj h
    exact hf _ _ dX7_commandHere_11 rfl
set_option maxRecDepth 20000 in
theorem ct_X7_commandHere {l : Launch} {κ : KX} {T : TT}  {m : St}  {res : Int32}  (h : sX7_commandHere m = some res) : Ct l κ yX7_commandHere cX7_commandHere 1 (some .int) 1 22 [.ref (xE κ 9 0 0)] (rs T 9 m) (rs T 9 m) (some (.int (res))) := by
  refine Ct_i RX7 rfl (by decide +kernel) (Nat.le_of_ble_eq_true rfl) (fun g hl hκ X hf => ?_)
  subst hl; subst hκ
  exact gX7_commandHere X  hf h
set_option maxRecDepth 20000 in
theorem gX7_any {g : GX} {T : TT}  {m : St}  {res : St × Int32} (X : CX g RX7 cX7_any 1 3 70)  (hf : FinI g cX7_any .int (rs T 9 res.1) (res.2)) (h : sX7_any m = some res) : G g 0 0 (rs T 9 m) 0 [(0, .ref (xE (gκ g) 9 0 0))] [] := by
  unfold sX7_any at h
  refine G_aload_n X 0 dX7_any_0 rfl rfl ?_
  refine G_iconst X (v := (0 : Int32)) dX7_any_1 (by decide) ?_
  refine G_sipush X (v := (999 : Int32)) dX7_any_2 (by decide) ?_
  obtain ⟨q1, hq1, h⟩ := bd_some h
  refine G_callV X (As := [.int ((0 : Int32)), .int ((999 : Int32))]) (rest := []) (T' := rs T 9 q1.1) (st2 := [.int q1.2]) (ct_X7_number (l := g.2.1) (κ := gκ g)   hq1) cal_X7_number wM_X7_184 wI_X7_number wS_X7_number rfl rfl (by decide) rfl rfl (Nat.le_of_ble_eq_true rfl) ⟨Nat.zero_le _, Nat.zero_le _⟩ dX7_any_5 rfl ?_
  obtain rfl := Option.some.inj h
  exact hf _ _ dX7_any_8 rfl
set_option maxRecDepth 20000 in
theorem ct_X7_any {l : Launch} {κ : KX} {T : TT}  {m : St}  {res : St × Int32}  (h : sX7_any m = some res) : Ct l κ yX7_any cX7_any 1 (some .int) 3 70 [.ref (xE κ 9 0 0)] (rs T 9 m) (rs T 9 res.1) (some (.int (res.2))) := by
  refine Ct_i RX7 rfl (by decide +kernel) (Nat.le_of_ble_eq_true rfl) (fun g hl hκ X hf => ?_)
  subst hl; subst hκ
  exact gX7_any X  hf h
set_option maxRecDepth 20000 in
theorem gX7_otherTold_b24 {g : GX} {T : TT}  {m : St}  {res : St × Int32}  (X : CX g RX7 cX7_otherTold 2 3 64)  (hf : FinI g cX7_otherTold .int (rs T 9 res.1) (res.2))   (h : sX7_otherTold_b24  m = some res) : G g 0 0 (rs T 9 m) 24 [(0, .ref (xE (gκ g) 9 0 0))] [] := by
  unfold sX7_otherTold_b24 at h
  refine G_aload_n X 0 dX7_otherTold_24 rfl rfl ?_
  obtain ⟨q7, hq7, h⟩ := bd_some h
  refine G_callV X (As := []) (rest := []) (T' := rs T 9 q7.1) (st2 := [.int q7.2]) (ct_X7_told (l := g.2.1) (κ := gκ g)   hq7) cal_X7_told wM_X7_205 wI_X7_told wS_X7_told rfl rfl (by decide) rfl rfl (Nat.le_of_ble_eq_true rfl) ⟨Nat.zero_le _, Nat.zero_le _⟩ dX7_otherTold_25 rfl ?_
  obtain rfl := Option.some.inj h
  exact hf _ _ dX7_otherTold_28 rfl
set_option maxRecDepth 20000 in
theorem gX7_otherTold {g : GX} {T : TT}  {m : St} {a1 : Int32} {res : St × Int32} (X : CX g RX7 cX7_otherTold 2 3 64)  (hf : FinI g cX7_otherTold .int (rs T 9 res.1) (res.2)) (h : sX7_otherTold m a1 = some res) : G g 0 0 (rs T 9 m) 0 [(0, .ref (xE (gκ g) 9 0 0)), (1, .int a1)] [] := by
  unfold sX7_otherTold at h
  refine G_aload_n X 0 dX7_otherTold_0 rfl rfl ?_
  obtain ⟨q1, hq1, h⟩ := bd_some h
  refine G_callV X (As := []) (rest := []) (T' := rs T 9 q1) (st2 := []) (ct_X7_mustBeWord (l := g.2.1) (κ := gκ g)   hq1) cal_X7_mustBeWord wM_X7_170 wI_X7_mustBeWord wS_X7_mustBeWord rfl rfl (by decide) rfl rfl (Nat.le_of_ble_eq_true rfl) ⟨Nat.zero_le _, Nat.zero_le _⟩ dX7_otherTold_1 rfl ?_
  refine G_aload_n X 0 dX7_otherTold_4 rfl rfl ?_
  obtain ⟨q2, hq2, h⟩ := bd_some h
  refine G_callV X (As := []) (rest := []) (T' := rs T 9 q1) (st2 := [.int q2]) (ct_X7_isGood (l := g.2.1) (κ := gκ g)   hq2) cal_X7_isGood wM_X7_121 wI_X7_isGood wS_X7_isGood rfl rfl (by decide) rfl rfl (Nat.le_of_ble_eq_true rfl) ⟨Nat.zero_le _, Nat.zero_le _⟩ dX7_otherTold_5 rfl ?_
  refine G_if_eq X (tgt := 24) dX7_otherTold_8 (by decide) (fun c3 => ?_) (fun c3 => ?_)
  · have h := it_t c3 h
    refine G_sub [0] rfl ?_
    exact gX7_otherTold_b24 X hf h
  · have h := it_f c3 h
    refine G_aload_n X 0 dX7_otherTold_11 rfl rfl ?_
    obtain ⟨q4, hq4, h⟩ := bd_some h
    refine G_callV X (As := []) (rest := []) (T' := rs T 9 q1) (st2 := [.int q4]) (ct_X7_named (l := g.2.1) (κ := gκ g)   hq4) cal_X7_named wM_X7_173 wI_X7_named wS_X7_named rfl rfl (by decide) rfl rfl (Nat.le_of_ble_eq_true rfl) ⟨Nat.zero_le _, Nat.zero_le _⟩ dX7_otherTold_12 rfl ?_
    refine G_iload_n X 1 dX7_otherTold_15 rfl rfl ?_
    refine G_icmp_ne X (tgt := 24) dX7_otherTold_16 (by decide) (fun c5 => ?_) (fun c5 => ?_)
    · have h := it_t c5 h
      refine G_sub [0] rfl ?_
      exact gX7_otherTold_b24 X hf h
    · have h := it_f (fun k => k c5) h
      refine G_aload_n X 0 dX7_otherTold_19 rfl rfl ?_
      refine G_iconst X (v := (3 : Int32)) dX7_otherTold_20 (by decide) ?_
      obtain ⟨q6, hq6, h⟩ := bd_some h
      refine G_callV X (As := [.int ((3 : Int32))]) (rest := []) (T' := rs T 9 q6) (st2 := []) (ct_X7_wrong (l := g.2.1) (κ := gκ g)   hq6) cal_X7_wrong wM_X7_128 wI_X7_wrong wS_X7_wrong rfl rfl (by decide) rfl rfl (Nat.le_of_ble_eq_true rfl) ⟨Nat.zero_le _, Nat.zero_le _⟩ dX7_otherTold_21 rfl ?_
      refine G_sub [0] rfl ?_
      exact gX7_otherTold_b24 X hf h
set_option maxRecDepth 20000 in
theorem ct_X7_otherTold {l : Launch} {κ : KX} {T : TT}  {m : St} {a1 : Int32} {res : St × Int32}  (h : sX7_otherTold m a1 = some res) : Ct l κ yX7_otherTold cX7_otherTold 2 (some .int) 3 64 [.ref (xE κ 9 0 0), .int a1] (rs T 9 m) (rs T 9 res.1) (some (.int (res.2))) := by
  refine Ct_i RX7 rfl (by decide +kernel) (Nat.le_of_ble_eq_true rfl) (fun g hl hκ X hf => ?_)
  subst hl; subst hκ
  exact gX7_otherTold X  hf h
set_option maxRecDepth 20000 in
theorem gX7_readsNumbers_b101 {g : GX} {T : TT}  {m : St} {a2 : Int32} {res : St}  (X : CX g RX7 cX7_readsNumbers 3 4 90)  (hf : FinV g cX7_readsNumbers (rs T 9 res))   (h : sX7_readsNumbers_b101  m a2 = some res) : G g 0 0 (rs T 9 m) 101 [(0, .ref (xE (gκ g) 9 0 0)), (2, .int a2)] [] := by
  unfold sX7_readsNumbers_b101 at h
  refine G_iload_n X 1 dX7_readsNumbers_101 rfl rfl ?_
  refine G_bipush X (v := (7 : Int32)) dX7_readsNumbers_102 (by decide) ?_
  refine G_icmp_ne X (tgt := 113) dX7_readsNumbers_104 (by decide) (fun c25 => ?_) (fun c25 => ?_)
  · have h := it_t c25 h
    obtain rfl := Option.some.inj h
    exact hf _ _ dX7_readsNumbers_113
  · have h := it_f (fun k => k c25) h
    refine G_aload_n X 0 dX7_readsNumbers_107 rfl rfl ?_
    refine G_bipush X (v := (40 : Int32)) dX7_readsNumbers_108 (by decide) ?_
    obtain ⟨q26, hq26, h⟩ := bd_some h
    refine G_callV X (As := [.int ((40 : Int32))]) (rest := []) (T' := rs T 9 q26) (st2 := []) (ct_X7_mustSign (l := g.2.1) (κ := gκ g)   hq26) cal_X7_mustSign wM_X7_236 wI_X7_mustSign wS_X7_mustSign rfl rfl (by decide) rfl rfl (Nat.le_of_ble_eq_true rfl) ⟨Nat.zero_le _, Nat.zero_le _⟩ dX7_readsNumbers_110 rfl ?_
    obtain rfl := Option.some.inj h
    exact hf _ _ dX7_readsNumbers_113
set_option maxRecDepth 20000 in
theorem gX7_readsNumbers_b82 {g : GX} {T : TT}  {m : St} {a1 : Int32} {a2 : Int32} {res : St}  (X : CX g RX7 cX7_readsNumbers 3 4 90)  (hf : FinV g cX7_readsNumbers (rs T 9 res))   (h : sX7_readsNumbers_b82  m a1 a2 = some res) : G g 0 0 (rs T 9 m) 82 [(0, .ref (xE (gκ g) 9 0 0)), (1, .int a1), (2, .int a2)] [] := by
  unfold sX7_readsNumbers_b82 at h
  refine G_iload_n X 2 dX7_readsNumbers_82 rfl rfl ?_
  refine G_bipush X (v := (7 : Int32)) dX7_readsNumbers_83 (by decide) ?_
  refine G_icmp_ne X (tgt := 101) dX7_readsNumbers_85 (by decide) (fun c21 => ?_) (fun c21 => ?_)
  · have h := it_t c21 h
    refine G_sub [0, 2] rfl ?_
    exact gX7_readsNumbers_b101 X hf h
  · have h := it_f (fun k => k c21) h
    refine G_aload_n X 0 dX7_readsNumbers_88 rfl rfl ?_
    refine f_X7_48 X rfl rfl dX7_readsNumbers_89 ?_
    refine G_iload_n X 1 dX7_readsNumbers_92 rfl rfl ?_
    refine G_aload_n X 0 dX7_readsNumbers_93 rfl rfl ?_
    refine G_iconst X (v := (1 : Int32)) dX7_readsNumbers_94 (by decide) ?_
    refine G_bipush X (v := (20 : Int32)) dX7_readsNumbers_95 (by decide) ?_
    obtain ⟨q22, hq22, h⟩ := bd_some h
    refine G_callV X (As := [.int ((1 : Int32)), .int ((20 : Int32))]) (rest := [.int a1, .ref (xE (gκ g) 9 0 11)]) (T' := rs T 9 q22.1) (st2 := [.int q22.2, .int a1, .ref (xE (gκ g) 9 0 11)]) (ct_X7_number (l := g.2.1) (κ := gκ g)   hq22) cal_X7_number wM_X7_184 wI_X7_number wS_X7_number rfl rfl (by decide) rfl rfl (Nat.le_of_ble_eq_true rfl) ⟨Nat.zero_le _, Nat.zero_le _⟩ dX7_readsNumbers_97 rfl ?_
    obtain ⟨g23, h⟩ := gd_some h
    obtain ⟨x24, ex24, h⟩ := nm_some h
    refine G_iast X (T' := rs T 9 x24) rfl (rg_rs _ _ _) g23 (by rw [rs_rs, ex24]) dX7_readsNumbers_100 ?_
    refine G_sub [0, 2] rfl ?_
    exact gX7_readsNumbers_b101 X hf h
set_option maxRecDepth 20000 in
theorem gX7_readsNumbers_b66 {g : GX} {T : TT}  {m : St} {a1 : Int32} {a2 : Int32} {res : St}  (X : CX g RX7 cX7_readsNumbers 3 4 90)  (hf : FinV g cX7_readsNumbers (rs T 9 res))   (h : sX7_readsNumbers_b66  m a1 a2 = some res) : G g 0 0 (rs T 9 m) 66 [(0, .ref (xE (gκ g) 9 0 0)), (1, .int a1), (2, .int a2)] [] := by
  unfold sX7_readsNumbers_b66 at h
  refine G_aload_n X 0 dX7_readsNumbers_66 rfl rfl ?_
  refine f_X7_51 X rfl rfl dX7_readsNumbers_67 ?_
  refine G_iload_n X 1 dX7_readsNumbers_70 rfl rfl ?_
  refine G_aload_n X 0 dX7_readsNumbers_71 rfl rfl ?_
  refine G_aload_n X 0 dX7_readsNumbers_72 rfl rfl ?_
  refine f_X7_48 X rfl rfl dX7_readsNumbers_73 ?_
  refine G_iload_n X 1 dX7_readsNumbers_76 rfl rfl ?_
  obtain ⟨g17, h⟩ := gd_some h
  refine G_iald X rfl (rg_rs _ _ _) g17 dX7_readsNumbers_77 ?_
  obtain ⟨q18, hq18, h⟩ := bd_some h
  refine G_callV X (As := [.int (gI m 0 11 (ix a1))]) (rest := [.int a1, .ref (xE (gκ g) 9 0 12)]) (T' := rs T 9 q18.1) (st2 := [.int q18.2, .int a1, .ref (xE (gκ g) 9 0 12)]) (ct_X7_otherTold (l := g.2.1) (κ := gκ g)   hq18) cal_X7_otherTold wM_X7_466 wI_X7_otherTold wS_X7_otherTold rfl rfl (by decide) rfl rfl (Nat.le_of_ble_eq_true rfl) ⟨Nat.zero_le _, Nat.zero_le _⟩ dX7_readsNumbers_78 rfl ?_
  obtain ⟨g19, h⟩ := gd_some h
  obtain ⟨x20, ex20, h⟩ := nm_some h
  refine G_iast X (T' := rs T 9 x20) rfl (rg_rs _ _ _) g19 (by rw [rs_rs, ex20]) dX7_readsNumbers_81 ?_
  exact gX7_readsNumbers_b82 X hf h
set_option maxRecDepth 20000 in
theorem gX7_readsNumbers_b55 {g : GX} {T : TT}  {m : St} {a1 : Int32} {a2 : Int32} {res : St}  (X : CX g RX7 cX7_readsNumbers 3 4 90)  (hf : FinV g cX7_readsNumbers (rs T 9 res))   (h : sX7_readsNumbers_b55  m a1 a2 = some res) : G g 0 0 (rs T 9 m) 55 [(0, .ref (xE (gκ g) 9 0 0)), (1, .int a1), (2, .int a2)] [] := by
  unfold sX7_readsNumbers_b55 at h
  refine G_iload_n X 2 dX7_readsNumbers_55 rfl rfl ?_
  refine G_iconst X (v := (5 : Int32)) dX7_readsNumbers_56 (by decide) ?_
  refine G_icmp_eq X (tgt := 66) dX7_readsNumbers_57 (by decide) (fun c15 => ?_) (fun c15 => ?_)
  · have h := it_t c15 h
    exact gX7_readsNumbers_b66 X hf h
  · have h := it_f c15 h
    refine G_iload_n X 2 dX7_readsNumbers_60 rfl rfl ?_
    refine G_bipush X (v := (6 : Int32)) dX7_readsNumbers_61 (by decide) ?_
    refine G_icmp_ne X (tgt := 82) dX7_readsNumbers_63 (by decide) (fun c16 => ?_) (fun c16 => ?_)
    · have h := it_t c16 h
      exact gX7_readsNumbers_b82 X hf h
    · have h := it_f (fun k => k c16) h
      exact gX7_readsNumbers_b66 X hf h
set_option maxRecDepth 20000 in
theorem gX7_readsNumbers_b35 {g : GX} {T : TT}  {m : St} {a1 : Int32} {a2 : Int32} {res : St}  (X : CX g RX7 cX7_readsNumbers 3 4 90)  (hf : FinV g cX7_readsNumbers (rs T 9 res))   (h : sX7_readsNumbers_b35  m a1 a2 = some res) : G g 0 0 (rs T 9 m) 35 [(0, .ref (xE (gκ g) 9 0 0)), (1, .int a1), (2, .int a2)] [] := by
  unfold sX7_readsNumbers_b35 at h
  refine G_iload_n X 2 dX7_readsNumbers_35 rfl rfl ?_
  refine G_iconst X (v := (2 : Int32)) dX7_readsNumbers_36 (by decide) ?_
  refine G_icmp_lt X (tgt := 55) dX7_readsNumbers_37 (by decide) (fun c10 => ?_) (fun c10 => ?_)
  · have h := it_t c10 h
    exact gX7_readsNumbers_b55 X hf h
  · have h := it_f c10 h
    refine G_iload_n X 2 dX7_readsNumbers_40 rfl rfl ?_
    refine G_iconst X (v := (4 : Int32)) dX7_readsNumbers_41 (by decide) ?_
    refine G_icmp_gt X (tgt := 55) dX7_readsNumbers_42 (by decide) (fun c11 => ?_) (fun c11 => ?_)
    · have h := it_t c11 h
      exact gX7_readsNumbers_b55 X hf h
    · have h := it_f c11 h
      refine G_aload_n X 0 dX7_readsNumbers_45 rfl rfl ?_
      refine f_X7_51 X rfl rfl dX7_readsNumbers_46 ?_
      refine G_iload_n X 1 dX7_readsNumbers_49 rfl rfl ?_
      refine G_aload_n X 0 dX7_readsNumbers_50 rfl rfl ?_
      obtain ⟨q12, hq12, h⟩ := bd_some h
      refine G_callV X (As := []) (rest := [.int a1, .ref (xE (gκ g) 9 0 12)]) (T' := rs T 9 q12.1) (st2 := [.int q12.2, .int a1, .ref (xE (gκ g) 9 0 12)]) (ct_X7_any (l := g.2.1) (κ := gκ g)   hq12) cal_X7_any wM_X7_463 wI_X7_any wS_X7_any rfl rfl (by decide) rfl rfl (Nat.le_of_ble_eq_true rfl) ⟨Nat.zero_le _, Nat.zero_le _⟩ dX7_readsNumbers_51 rfl ?_
      obtain ⟨g13, h⟩ := gd_some h
      obtain ⟨x14, ex14, h⟩ := nm_some h
      refine G_iast X (T' := rs T 9 x14) rfl (rg_rs _ _ _) g13 (by rw [rs_rs, ex14]) dX7_readsNumbers_54 ?_
      exact gX7_readsNumbers_b55 X hf h
set_option maxRecDepth 20000 in
theorem gX7_readsNumbers_b14 {g : GX} {T : TT}  {m : St} {a1 : Int32} {a2 : Int32} {res : St}  (X : CX g RX7 cX7_readsNumbers 3 4 90)  (hf : FinV g cX7_readsNumbers (rs T 9 res))   (h : sX7_readsNumbers_b14  m a1 a2 = some res) : G g 0 0 (rs T 9 m) 14 [(0, .ref (xE (gκ g) 9 0 0)), (1, .int a1), (2, .int a2)] [] := by
  unfold sX7_readsNumbers_b14 at h
  refine G_iload_n X 2 dX7_readsNumbers_14 rfl rfl ?_
  refine G_iconst X (v := (1 : Int32)) dX7_readsNumbers_15 (by decide) ?_
  refine G_icmp_lt X (tgt := 35) dX7_readsNumbers_16 (by decide) (fun c5 => ?_) (fun c5 => ?_)
  · have h := it_t c5 h
    exact gX7_readsNumbers_b35 X hf h
  · have h := it_f c5 h
    refine G_iload_n X 2 dX7_readsNumbers_19 rfl rfl ?_
    refine G_bipush X (v := (6 : Int32)) dX7_readsNumbers_20 (by decide) ?_
    refine G_icmp_gt X (tgt := 35) dX7_readsNumbers_22 (by decide) (fun c6 => ?_) (fun c6 => ?_)
    · have h := it_t c6 h
      exact gX7_readsNumbers_b35 X hf h
    · have h := it_f c6 h
      refine G_aload_n X 0 dX7_readsNumbers_25 rfl rfl ?_
      refine f_X7_48 X rfl rfl dX7_readsNumbers_26 ?_
      refine G_iload_n X 1 dX7_readsNumbers_29 rfl rfl ?_
      refine G_aload_n X 0 dX7_readsNumbers_30 rfl rfl ?_
      obtain ⟨q7, hq7, h⟩ := bd_some h
      refine G_callV X (As := []) (rest := [.int a1, .ref (xE (gκ g) 9 0 11)]) (T' := rs T 9 q7.1) (st2 := [.int q7.2, .int a1, .ref (xE (gκ g) 9 0 11)]) (ct_X7_told (l := g.2.1) (κ := gκ g)   hq7) cal_X7_told wM_X7_205 wI_X7_told wS_X7_told rfl rfl (by decide) rfl rfl (Nat.le_of_ble_eq_true rfl) ⟨Nat.zero_le _, Nat.zero_le _⟩ dX7_readsNumbers_31 rfl ?_
      obtain ⟨g8, h⟩ := gd_some h
      obtain ⟨x9, ex9, h⟩ := nm_some h
      refine G_iast X (T' := rs T 9 x9) rfl (rg_rs _ _ _) g8 (by rw [rs_rs, ex9]) dX7_readsNumbers_34 ?_
      exact gX7_readsNumbers_b35 X hf h
set_option maxRecDepth 20000 in
theorem gX7_readsNumbers {g : GX} {T : TT}  {m : St} {a1 : Int32} {a2 : Int32} {res : St} (X : CX g RX7 cX7_readsNumbers 3 4 90)  (hf : FinV g cX7_readsNumbers (rs T 9 res)) (h : sX7_readsNumbers m a1 a2 = some res) : G g 0 0 (rs T 9 m) 0 [(0, .ref (xE (gκ g) 9 0 0)), (1, .int a1), (2, .int a2)] [] := by
  unfold sX7_readsNumbers at h
  refine G_iload_n X 2 dX7_readsNumbers_0 rfl rfl ?_
  refine G_if_ne X (tgt := 14) dX7_readsNumbers_1 (by decide) (fun c1 => ?_) (fun c1 => ?_)
  · have h := it_t c1 h
    exact gX7_readsNumbers_b14 X hf h
  · have h := it_f (fun k => k c1) h
    refine G_aload_n X 0 dX7_readsNumbers_4 rfl rfl ?_
    refine f_X7_48 X rfl rfl dX7_readsNumbers_5 ?_
    refine G_iload_n X 1 dX7_readsNumbers_8 rfl rfl ?_
    refine G_aload_n X 0 dX7_readsNumbers_9 rfl rfl ?_
    obtain ⟨q2, hq2, h⟩ := bd_some h
    refine G_callV X (As := []) (rest := [.int a1, .ref (xE (gκ g) 9 0 11)]) (T' := rs T 9 q2.1) (st2 := [.int q2.2, .int a1, .ref (xE (gκ g) 9 0 11)]) (ct_X7_any (l := g.2.1) (κ := gκ g)   hq2) cal_X7_any wM_X7_463 wI_X7_any wS_X7_any rfl rfl (by decide) rfl rfl (Nat.le_of_ble_eq_true rfl) ⟨Nat.zero_le _, Nat.zero_le _⟩ dX7_readsNumbers_10 rfl ?_
    obtain ⟨g3, h⟩ := gd_some h
    obtain ⟨x4, ex4, h⟩ := nm_some h
    refine G_iast X (T' := rs T 9 x4) rfl (rg_rs _ _ _) g3 (by rw [rs_rs, ex4]) dX7_readsNumbers_13 ?_
    exact gX7_readsNumbers_b14 X hf h
set_option maxRecDepth 20000 in
theorem ct_X7_readsNumbers {l : Launch} {κ : KX} {T : TT}  {m : St} {a1 : Int32} {a2 : Int32} {res : St}  (h : sX7_readsNumbers m a1 a2 = some res) : Ct l κ yX7_readsNumbers cX7_readsNumbers 3 none 4 90 [.ref (xE κ 9 0 0), .int a1, .int a2] (rs T 9 m) (rs T 9 res) none := by
  refine Ct_v RX7 rfl (by decide +kernel) (Nat.le_of_ble_eq_true rfl) (fun g hl hκ X hf => ?_)
  subst hl; subst hκ
  exact gX7_readsNumbers X  hf h
set_option maxRecDepth 20000 in
theorem gX7_command_b122 {g : GX} {T : TT}  {m : St} {s0 : Int32} {s1 : Int32} {res : St}  (X : CX g RX7 cX7_command 3 5 112)  (hf : FinV g cX7_command (rs T 9 res))   (h : sX7_command_b122  m s0 s1 = some res) : G g 0 0 (rs T 9 m) 122 [] [.int s0, .int s1, .ref (xE (gκ g) 9 0 0)] := by
  unfold sX7_command_b122 at h
  obtain ⟨q20, hq20, h⟩ := bd_some h
  refine G_callS X (As := [.int s0]) (rest := [.int s1, .ref (xE (gκ g) 9 0 0)]) (T' := rs T 9 m) (st2 := [.int q20, .int s1, .ref (xE (gκ g) 9 0 0)]) (ct_X7_truth (l := g.2.1) (κ := gκ g)   hq20) cal_X7_truth wM_X7_69 wT_X7_truth (by decide) rfl rfl (Nat.le_of_ble_eq_true rfl) ⟨Nat.zero_le _, Nat.zero_le _⟩ dX7_command_122 rfl ?_
  refine G_iadd X dX7_command_125 ?_
  obtain ⟨x21, ex21, h⟩ := nm_some h
  refine p_X7_472 X (T' := rs T 9 x21) rfl (rg_rs _ _ _)  (by rw [rs_rs, ex21]) dX7_command_126 ?_
  obtain rfl := Option.some.inj h
  exact hf _ _ dX7_command_129
set_option maxRecDepth 20000 in
theorem gX7_command_b48 {g : GX} {T : TT}  {m : St} {a1 : Int32} {res : St}  (X : CX g RX7 cX7_command 3 5 112)  (hf : FinV g cX7_command (rs T 9 res))   (h : sX7_command_b48  m a1 = some res) : G g 0 0 (rs T 9 m) 48 [(0, .ref (xE (gκ g) 9 0 0)), (1, .int a1)] [] := by
  unfold sX7_command_b48 at h
  refine G_aload_n X 0 dX7_command_48 rfl rfl ?_
  obtain ⟨q9, hq9, h⟩ := bd_some h
  refine G_callV X (As := []) (rest := []) (T' := rs T 9 m) (st2 := [.int q9]) (ct_X7_isGood (l := g.2.1) (κ := gκ g)   hq9) cal_X7_isGood wM_X7_121 wI_X7_isGood wS_X7_isGood rfl rfl (by decide) rfl rfl (Nat.le_of_ble_eq_true rfl) ⟨Nat.zero_le _, Nat.zero_le _⟩ dX7_command_49 rfl ?_
  refine G_if_ne X (tgt := 56) dX7_command_52 (by decide) (fun c10 => ?_) (fun c10 => ?_)
  · have h := it_t c10 h
    refine G_aload_n X 0 dX7_command_56 rfl rfl ?_
    refine G_dup X dX7_command_57 rfl ?_
    refine f_X7_475 X rfl (rg_rs _ _ _) dX7_command_58 ?_
    refine G_iconst X (v := (1 : Int32)) dX7_command_61 (by decide) ?_
    refine G_iadd X dX7_command_62 ?_
    obtain ⟨x11, ex11, h⟩ := nm_some h
    refine p_X7_475 X (T' := rs T 9 x11) rfl (rg_rs _ _ _)  (by rw [rs_rs, ex11]) dX7_command_63 ?_
    refine G_aload_n X 0 dX7_command_66 rfl rfl ?_
    obtain ⟨q12, hq12, h⟩ := bd_some h
    refine G_callV X (As := []) (rest := []) (T' := rs T 9 q12) (st2 := []) (ct_X7_goOn (l := g.2.1) (κ := gκ g)   hq12) cal_X7_goOn wM_X7_131 wI_X7_goOn wS_X7_goOn rfl rfl (by decide) rfl rfl (Nat.le_of_ble_eq_true rfl) ⟨Nat.zero_le _, Nat.zero_le _⟩ dX7_command_67 rfl ?_
    refine G_aload_n X 0 dX7_command_70 rfl rfl ?_
    refine f_X7_478 X rfl (rg_rs _ _ _) dX7_command_71 ?_
    refine G_istore_n X (lv' := [(2, .int (gI q12 0 0 29)), (0, .ref (xE (gκ g) 9 0 0)), (1, .int a1)]) dX7_command_74 rfl (by decide) rfl ?_
    refine G_aload_n X 1 dX7_command_75 rfl rfl ?_
    refine f_X7_45 X rfl rfl dX7_command_76 ?_
    refine G_iload_n X 0 dX7_command_79 rfl rfl ?_
    refine G_iload_n X 2 dX7_command_80 rfl rfl ?_
    obtain ⟨g13, h⟩ := gd_some h
    obtain ⟨x14, ex14, h⟩ := nm_some h
    refine G_iast X (T' := rs T 9 x14) rfl (rg_rs _ _ _) g13 (by rw [rs_rs, ex14]) dX7_command_81 ?_
    refine G_aload_n X 1 dX7_command_82 rfl rfl ?_
    refine G_iload_n X 0 dX7_command_83 rfl rfl ?_
    refine G_iload_n X 2 dX7_command_84 rfl rfl ?_
    obtain ⟨q15, hq15, h⟩ := bd_some h
    refine G_callV X (As := [.int (gI q12 0 0 29), .int a1]) (rest := []) (T' := rs T 9 q15) (st2 := []) (ct_X7_readsNumbers (l := g.2.1) (κ := gκ g)   hq15) cal_X7_readsNumbers wM_X7_481 wI_X7_readsNumbers wS_X7_readsNumbers rfl rfl (by decide) rfl rfl (Nat.le_of_ble_eq_true rfl) ⟨Nat.zero_le _, Nat.zero_le _⟩ dX7_command_85 rfl ?_
    refine G_aload_n X 1 dX7_command_88 rfl rfl ?_
    obtain ⟨q16, hq16, h⟩ := bd_some h
    refine G_callV X (As := []) (rest := []) (T' := rs T 9 q15) (st2 := [.int q16]) (ct_X7_isGood (l := g.2.1) (κ := gκ g)   hq16) cal_X7_isGood wM_X7_121 wI_X7_isGood wS_X7_isGood rfl rfl (by decide) rfl rfl (Nat.le_of_ble_eq_true rfl) ⟨Nat.zero_le _, Nat.zero_le _⟩ dX7_command_89 rfl ?_
    refine G_if_ne X (tgt := 96) dX7_command_92 (by decide) (fun c17 => ?_) (fun c17 => ?_)
    · have h := it_t c17 h
      refine G_aload_n X 1 dX7_command_96 rfl rfl ?_
      refine G_dup X dX7_command_97 rfl ?_
      refine f_X7_478 X rfl (rg_rs _ _ _) dX7_command_98 ?_
      refine G_iconst X (v := (1 : Int32)) dX7_command_101 (by decide) ?_
      refine G_iadd X dX7_command_102 ?_
      obtain ⟨x18, ex18, h⟩ := nm_some h
      refine p_X7_478 X (T' := rs T 9 x18) rfl (rg_rs _ _ _)  (by rw [rs_rs, ex18]) dX7_command_103 ?_
      refine G_aload_n X 1 dX7_command_106 rfl rfl ?_
      refine G_dup X dX7_command_107 rfl ?_
      refine f_X7_472 X rfl (rg_rs _ _ _) dX7_command_108 ?_
      refine G_iload_n X 2 dX7_command_111 rfl rfl ?_
      refine G_bipush X (v := (7 : Int32)) dX7_command_112 (by decide) ?_
      refine G_icmp_ne X (tgt := 121) dX7_command_114 (by decide) (fun c19 => ?_) (fun c19 => ?_)
      · have h := it_t c19 h
        refine G_iconst X (v := (0 : Int32)) dX7_command_121 (by decide) ?_
        refine G_sub [] rfl ?_
        exact gX7_command_b122 X hf h
      · have h := it_f (fun k => k c19) h
        refine G_iconst X (v := (1 : Int32)) dX7_command_117 (by decide) ?_
        refine G_goto X (tgt := 122) dX7_command_118 (by decide) ?_
        refine G_sub [] rfl ?_
        exact gX7_command_b122 X hf h
    · have h := it_f (fun k => k c17) h
      obtain rfl := Option.some.inj h
      exact hf _ _ dX7_command_95
  · have h := it_f (fun k => k c10) h
    obtain rfl := Option.some.inj h
    exact hf _ _ dX7_command_55
set_option maxRecDepth 20000 in
theorem gX7_command_b34 {g : GX} {T : TT}  {m : St} {a1 : Int32} {res : St}  (X : CX g RX7 cX7_command 3 5 112)  (hf : FinV g cX7_command (rs T 9 res))   (h : sX7_command_b34  m a1 = some res) : G g 0 0 (rs T 9 m) 34 [(0, .ref (xE (gκ g) 9 0 0)), (1, .int a1)] [] := by
  unfold sX7_command_b34 at h
  refine G_aload_n X 0 dX7_command_34 rfl rfl ?_
  refine f_X7_475 X rfl (rg_rs _ _ _) dX7_command_35 ?_
  refine G_bipush X (v := (30 : Int32)) dX7_command_38 (by decide) ?_
  refine G_icmp_ne X (tgt := 48) dX7_command_40 (by decide) (fun c7 => ?_) (fun c7 => ?_)
  · have h := it_t c7 h
    exact gX7_command_b48 X hf h
  · have h := it_f (fun k => k c7) h
    refine G_aload_n X 0 dX7_command_43 rfl rfl ?_
    refine G_iconst X (v := (5 : Int32)) dX7_command_44 (by decide) ?_
    obtain ⟨q8, hq8, h⟩ := bd_some h
    refine G_callV X (As := [.int ((5 : Int32))]) (rest := []) (T' := rs T 9 q8) (st2 := []) (ct_X7_wrong (l := g.2.1) (κ := gκ g)   hq8) cal_X7_wrong wM_X7_128 wI_X7_wrong wS_X7_wrong rfl rfl (by decide) rfl rfl (Nat.le_of_ble_eq_true rfl) ⟨Nat.zero_le _, Nat.zero_le _⟩ dX7_command_45 rfl ?_
    exact gX7_command_b48 X hf h
set_option maxRecDepth 20000 in
theorem gX7_command_b15 {g : GX} {T : TT}  {m : St} {a1 : Int32} {res : St}  (X : CX g RX7 cX7_command 3 5 112)  (hf : FinV g cX7_command (rs T 9 res))   (h : sX7_command_b15  m a1 = some res) : G g 0 0 (rs T 9 m) 15 [(0, .ref (xE (gκ g) 9 0 0)), (1, .int a1)] [] := by
  unfold sX7_command_b15 at h
  refine G_iload_n X 1 dX7_command_15 rfl rfl ?_
  refine G_bipush X (v := (7 : Int32)) dX7_command_16 (by decide) ?_
  refine G_icmp_ne X (tgt := 34) dX7_command_18 (by decide) (fun c4 => ?_) (fun c4 => ?_)
  · have h := it_t c4 h
    exact gX7_command_b34 X hf h
  · have h := it_f (fun k => k c4) h
    refine G_aload_n X 0 dX7_command_21 rfl rfl ?_
    refine f_X7_472 X rfl (rg_rs _ _ _) dX7_command_22 ?_
    refine G_iconst X (v := (2 : Int32)) dX7_command_25 (by decide) ?_
    refine G_icmp_ne X (tgt := 34) dX7_command_26 (by decide) (fun c5 => ?_) (fun c5 => ?_)
    · have h := it_t c5 h
      exact gX7_command_b34 X hf h
    · have h := it_f (fun k => k c5) h
      refine G_aload_n X 0 dX7_command_29 rfl rfl ?_
      refine G_iconst X (v := (3 : Int32)) dX7_command_30 (by decide) ?_
      obtain ⟨q6, hq6, h⟩ := bd_some h
      refine G_callV X (As := [.int ((3 : Int32))]) (rest := []) (T' := rs T 9 q6) (st2 := []) (ct_X7_wrong (l := g.2.1) (κ := gκ g)   hq6) cal_X7_wrong wM_X7_128 wI_X7_wrong wS_X7_wrong rfl rfl (by decide) rfl rfl (Nat.le_of_ble_eq_true rfl) ⟨Nat.zero_le _, Nat.zero_le _⟩ dX7_command_31 rfl ?_
      exact gX7_command_b34 X hf h
set_option maxRecDepth 20000 in
theorem gX7_command {g : GX} {T : TT}  {m : St}  {res : St} (X : CX g RX7 cX7_command 3 5 112)  (hf : FinV g cX7_command (rs T 9 res)) (h : sX7_command m = some res) : G g 0 0 (rs T 9 m) 0 [(0, .ref (xE (gκ g) 9 0 0))] [] := by
  unfold sX7_command at h
  refine G_aload_n X 0 dX7_command_0 rfl rfl ?_
  obtain ⟨q1, hq1, h⟩ := bd_some h
  refine G_callV X (As := []) (rest := []) (T' := rs T 9 m) (st2 := [.int q1]) (ct_X7_commandHere (l := g.2.1) (κ := gκ g)   hq1) cal_X7_commandHere wM_X7_469 wI_X7_commandHere wS_X7_commandHere rfl rfl (by decide) rfl rfl (Nat.le_of_ble_eq_true rfl) ⟨Nat.zero_le _, Nat.zero_le _⟩ dX7_command_1 rfl ?_
  refine G_istore_n X (lv' := [(1, .int q1), (0, .ref (xE (gκ g) 9 0 0))]) dX7_command_4 rfl (by decide) rfl ?_
  refine G_iload_n X 0 dX7_command_5 rfl rfl ?_
  refine G_iconst X (v := (-1 : Int32)) dX7_command_6 (by decide) ?_
  refine G_icmp_ne X (tgt := 15) dX7_command_7 (by decide) (fun c2 => ?_) (fun c2 => ?_)
  · have h := it_t c2 h
    refine G_sub [1, 0] rfl ?_
    exact gX7_command_b15 X hf h
  · have h := it_f (fun k => k c2) h
    refine G_aload_n X 1 dX7_command_10 rfl rfl ?_
    refine G_iconst X (v := (1 : Int32)) dX7_command_11 (by decide) ?_
    obtain ⟨q3, hq3, h⟩ := bd_some h
    refine G_callV X (As := [.int ((1 : Int32))]) (rest := []) (T' := rs T 9 q3) (st2 := []) (ct_X7_wrong (l := g.2.1) (κ := gκ g)   hq3) cal_X7_wrong wM_X7_128 wI_X7_wrong wS_X7_wrong rfl rfl (by decide) rfl rfl (Nat.le_of_ble_eq_true rfl) ⟨Nat.zero_le _, Nat.zero_le _⟩ dX7_command_12 rfl ?_
    refine G_sub [1, 0] rfl ?_
    exact gX7_command_b15 X hf h
set_option maxRecDepth 20000 in
theorem ct_X7_command {l : Launch} {κ : KX} {T : TT}  {m : St}  {res : St}  (h : sX7_command m = some res) : Ct l κ yX7_command cX7_command 3 none 5 112 [.ref (xE κ 9 0 0)] (rs T 9 m) (rs T 9 res) none := by
  refine Ct_v RX7 rfl (by decide +kernel) (Nat.le_of_ble_eq_true rfl) (fun g hl hκ X hf => ?_)
  subst hl; subst hκ
  exact gX7_command X  hf h
set_option maxRecDepth 20000 in
theorem gX7_closes_b0 {g : GX} {T : TT}   {res : St}  (X : CX g RX7 cX7_closes 1 3 64)  (hf : FinV g cX7_closes (rs T 9 res))  : ∀ (n : Nat) (m : St) (h : sX7_closes_b0 n  m = some res), G g 0 0 (rs T 9 m) 0 [(0, .ref (xE (gκ g) 9 0 0))] [] := by
  intro n
  induction n with
  | zero => intro m h; unfold sX7_closes_b0 at h; cases h
  | succ n ih =>
    intro m h
    unfold sX7_closes_b0 at h
    refine G_aload_n X 0 dX7_closes_0 rfl rfl ?_
    refine f_X7_472 X rfl (rg_rs _ _ _) dX7_closes_1 ?_
    refine G_if_le X (tgt := 60) dX7_closes_4 (by decide) (fun c1 => ?_) (fun c1 => ?_)
    · have h := it_t c1 h
      obtain rfl := Option.some.inj h
      exact hf _ _ dX7_closes_60
    · have h := it_f c1 h
      refine G_aload_n X 0 dX7_closes_7 rfl rfl ?_
      refine G_bipush X (v := (41 : Int32)) dX7_closes_8 (by decide) ?_
      obtain ⟨q2, hq2, h⟩ := bd_some h
      refine G_callV X (As := [.int ((41 : Int32))]) (rest := []) (T' := rs T 9 m) (st2 := [.int q2]) (ct_X7_isSign (l := g.2.1) (κ := gκ g)   hq2) cal_X7_isSign wM_X7_125 wI_X7_isSign wS_X7_isSign rfl rfl (by decide) rfl rfl (Nat.le_of_ble_eq_true rfl) ⟨Nat.zero_le _, Nat.zero_le _⟩ dX7_closes_10 rfl ?_
      refine G_if_eq X (tgt := 60) dX7_closes_13 (by decide) (fun c3 => ?_) (fun c3 => ?_)
      · have h := it_t c3 h
        obtain rfl := Option.some.inj h
        exact hf _ _ dX7_closes_60
      · have h := it_f c3 h
        refine G_aload_n X 0 dX7_closes_16 rfl rfl ?_
        refine G_dup X dX7_closes_17 rfl ?_
        refine f_X7_472 X rfl (rg_rs _ _ _) dX7_closes_18 ?_
        refine G_iconst X (v := (1 : Int32)) dX7_closes_21 (by decide) ?_
        refine G_isub X dX7_closes_22 ?_
        obtain ⟨x4, ex4, h⟩ := nm_some h
        refine p_X7_472 X (T' := rs T 9 x4) rfl (rg_rs _ _ _)  (by rw [rs_rs, ex4]) dX7_closes_23 ?_
        refine G_aload_n X 0 dX7_closes_26 rfl rfl ?_
        refine f_X7_45 X rfl rfl dX7_closes_27 ?_
        refine G_aload_n X 0 dX7_closes_30 rfl rfl ?_
        refine f_X7_478 X rfl (rg_rs _ _ _) dX7_closes_31 ?_
        refine G_bipush X (v := (8 : Int32)) dX7_closes_34 (by decide) ?_
        obtain ⟨g5, h⟩ := gd_some h
        obtain ⟨x6, ex6, h⟩ := nm_some h
        refine G_iast X (T' := rs T 9 x6) rfl (rg_rs _ _ _) g5 (by rw [rs_rs, ex6]) dX7_closes_36 ?_
        refine G_aload_n X 0 dX7_closes_37 rfl rfl ?_
        refine G_dup X dX7_closes_38 rfl ?_
        refine f_X7_478 X rfl (rg_rs _ _ _) dX7_closes_39 ?_
        refine G_iconst X (v := (1 : Int32)) dX7_closes_42 (by decide) ?_
        refine G_iadd X dX7_closes_43 ?_
        obtain ⟨x7, ex7, h⟩ := nm_some h
        refine p_X7_478 X (T' := rs T 9 x7) rfl (rg_rs _ _ _)  (by rw [rs_rs, ex7]) dX7_closes_44 ?_
        refine G_aload_n X 0 dX7_closes_47 rfl rfl ?_
        obtain ⟨q8, hq8, h⟩ := bd_some h
        refine G_callV X (As := []) (rest := []) (T' := rs T 9 q8) (st2 := []) (ct_X7_goOn (l := g.2.1) (κ := gκ g)   hq8) cal_X7_goOn wM_X7_131 wI_X7_goOn wS_X7_goOn rfl rfl (by decide) rfl rfl (Nat.le_of_ble_eq_true rfl) ⟨Nat.zero_le _, Nat.zero_le _⟩ dX7_closes_48 rfl ?_
        refine G_aload_n X 0 dX7_closes_51 rfl rfl ?_
        refine G_bipush X (v := (59 : Int32)) dX7_closes_52 (by decide) ?_
        obtain ⟨q9, hq9, h⟩ := bd_some h
        refine G_callV X (As := [.int ((59 : Int32))]) (rest := []) (T' := rs T 9 q9) (st2 := []) (ct_X7_mustSign (l := g.2.1) (κ := gκ g)   hq9) cal_X7_mustSign wM_X7_236 wI_X7_mustSign wS_X7_mustSign rfl rfl (by decide) rfl rfl (Nat.le_of_ble_eq_true rfl) ⟨Nat.zero_le _, Nat.zero_le _⟩ dX7_closes_54 rfl ?_
        refine G_goto X (tgt := 0) dX7_closes_57 (by decide) ?_
        exact ih _ h
set_option maxRecDepth 20000 in
theorem gX7_closes {g : GX} {T : TT}  {m : St}  {res : St} (X : CX g RX7 cX7_closes 1 3 64)  (hf : FinV g cX7_closes (rs T 9 res)) (h : sX7_closes m = some res) : G g 0 0 (rs T 9 m) 0 [(0, .ref (xE (gκ g) 9 0 0))] [] := by
  unfold sX7_closes at h
  exact gX7_closes_b0 X hf FU _ h
set_option maxRecDepth 20000 in
theorem ct_X7_closes {l : Launch} {κ : KX} {T : TT}  {m : St}  {res : St}  (h : sX7_closes m = some res) : Ct l κ yX7_closes cX7_closes 1 none 3 64 [.ref (xE κ 9 0 0)] (rs T 9 m) (rs T 9 res) none := by
  refine Ct_v RX7 rfl (by decide +kernel) (Nat.le_of_ble_eq_true rfl) (fun g hl hκ X hf => ?_)
  subst hl; subst hκ
  exact gX7_closes X  hf h
set_option maxRecDepth 20000 in
theorem gX7_may {g : GX} {T : TT}  {m : St} {a1 : Int32} {res : Int32} (X : CX g RX7 cX7_may 4 3 65)  (hf : FinI g cX7_may .boolean (rs T 9 m) (res)) (h : sX7_may m a1 = some res) : G g 0 0 (rs T 9 m) 0 [(0, .ref (xE (gκ g) 9 0 0)), (1, .int a1)] [] := by
  unfold sX7_may at h
  refine G_aload_n X 0 dX7_may_0 rfl rfl ?_
  refine f_X7_48 X rfl rfl dX7_may_1 ?_
  refine G_iload_n X 1 dX7_may_4 rfl rfl ?_
  obtain ⟨g1, h⟩ := gd_some h
  refine G_iald X rfl (rg_rs _ _ _) g1 dX7_may_5 ?_
  refine G_istore_n X (lv' := [(2, .int (gI m 0 11 (ix a1))), (0, .ref (xE (gκ g) 9 0 0)), (1, .int a1)]) dX7_may_6 rfl (by decide) rfl ?_
  refine G_aload_n X 1 dX7_may_7 rfl rfl ?_
  refine f_X7_51 X rfl rfl dX7_may_8 ?_
  refine G_iload_n X 2 dX7_may_11 rfl rfl ?_
  obtain ⟨g2, h⟩ := gd_some h
  refine G_iald X rfl (rg_rs _ _ _) g2 dX7_may_12 ?_
  refine G_istore_n X (lv' := [(3, .int (gI m 0 12 (ix a1))), (2, .int (gI m 0 11 (ix a1))), (0, .ref (xE (gκ g) 9 0 0)), (1, .int a1)]) dX7_may_13 rfl (by decide) rfl ?_
  refine G_aload_n X 2 dX7_may_14 rfl rfl ?_
  refine f_X7_45 X rfl rfl dX7_may_15 ?_
  refine G_iload_n X 3 dX7_may_18 rfl rfl ?_
  obtain ⟨g3, h⟩ := gd_some h
  refine G_iald X rfl (rg_rs _ _ _) g3 dX7_may_19 ?_
  obtain ⟨v4, ev4, h⟩ := nm_some h
  refine G_nmi ev4 ?_
  by_cases c5 : v4 = (0 : Int32)
  · have h := it_t c5 h
    rw [c5]
    refine G_tabIn X (off := 40) (tgt := 60) dX7_may_20 (by decide) (by decide) (by decide) (by decide) ?_
    refine G_iload_n X 1 dX7_may_60 rfl rfl ?_
    obtain ⟨q6, hq6, h⟩ := bd_some h
    refine G_callS X (As := [.int (gI m 0 11 (ix a1))]) (rest := []) (T' := rs T 9 m) (st2 := [.int q6]) (ct_X7_areMany (l := g.2.1) (κ := gκ g)   hq6) cal_X7_areMany wM_X7_420 wT_X7_areMany (by decide) rfl rfl (Nat.le_of_ble_eq_true rfl) ⟨Nat.zero_le _, Nat.zero_le _⟩ dX7_may_61 rfl ?_
    refine G_if_eq X (tgt := 79) dX7_may_64 (by decide) (fun c7 => ?_) (fun c7 => ?_)
    · have h := it_t c7 h
      refine G_iconst X (v := (0 : Int32)) dX7_may_79 (by decide) ?_
      obtain rfl := Option.some.inj h
      exact hf _ _ dX7_may_80 (isb_n (v := (0 : Int32)) rfl)
    · have h := it_f c7 h
      refine G_aload_n X 2 dX7_may_67 rfl rfl ?_
      refine G_iload_n X 1 dX7_may_68 rfl rfl ?_
      obtain ⟨q8, hq8, h⟩ := bd_some h
      refine G_callV X (As := [.int (gI m 0 11 (ix a1))]) (rest := []) (T' := rs T 9 m) (st2 := [.int q8]) (ct_X7_mayRun (l := g.2.1) (κ := gκ g)   hq8) cal_X7_mayRun wM_X7_423 wI_X7_mayRun wS_X7_mayRun rfl rfl (by decide) rfl rfl (Nat.le_of_ble_eq_true rfl) ⟨Nat.zero_le _, Nat.zero_le _⟩ dX7_may_69 rfl ?_
      refine G_if_eq X (tgt := 79) dX7_may_72 (by decide) (fun c9 => ?_) (fun c9 => ?_)
      · have h := it_t c9 h
        refine G_iconst X (v := (0 : Int32)) dX7_may_79 (by decide) ?_
        obtain rfl := Option.some.inj h
        exact hf _ _ dX7_may_80 (isb_n (v := (0 : Int32)) rfl)
      · have h := it_f c9 h
        refine G_iconst X (v := (1 : Int32)) dX7_may_75 (by decide) ?_
        refine G_goto X (tgt := 80) dX7_may_76 (by decide) ?_
        obtain rfl := Option.some.inj h
        exact hf _ _ dX7_may_80 (isb_n (v := (1 : Int32)) rfl)
  have h := it_f c5 h
  by_cases c10 : v4 = (1 : Int32)
  · have h := it_t c10 h
    rw [c10]
    refine G_tabIn X (off := 61) (tgt := 81) dX7_may_20 (by decide) (by decide) (by decide) (by decide) ?_
    refine G_aload_n X 2 dX7_may_81 rfl rfl ?_
    refine G_iload_n X 1 dX7_may_82 rfl rfl ?_
    refine G_iconst X (v := (0 : Int32)) dX7_may_83 (by decide) ?_
    obtain ⟨q11, hq11, h⟩ := bd_some h
    refine G_callV X (As := [.int (gI m 0 11 (ix a1)), .int ((0 : Int32))]) (rest := []) (T' := rs T 9 m) (st2 := [.int q11]) (ct_X7_isAt (l := g.2.1) (κ := gκ g)   hq11) cal_X7_isAt wM_X7_297 wI_X7_isAt wS_X7_isAt rfl rfl (by decide) rfl rfl (Nat.le_of_ble_eq_true rfl) ⟨Nat.zero_le _, Nat.zero_le _⟩ dX7_may_84 rfl ?_
    obtain ⟨g12, h⟩ := gd_some h
    obtain rfl := Option.some.inj h
    exact hf _ _ dX7_may_87 (isb_n g12)
  have h := it_f c10 h
  by_cases c13 : v4 = (2 : Int32)
  · have h := it_t c13 h
    rw [c13]
    refine G_tabIn X (off := 68) (tgt := 88) dX7_may_20 (by decide) (by decide) (by decide) (by decide) ?_
    refine G_aload_n X 2 dX7_may_88 rfl rfl ?_
    refine G_iload_n X 1 dX7_may_89 rfl rfl ?_
    refine G_iload_n X 0 dX7_may_90 rfl rfl ?_
    obtain ⟨q14, hq14, h⟩ := bd_some h
    refine G_callV X (As := [.int (gI m 0 11 (ix a1)), .int (gI m 0 12 (ix a1))]) (rest := []) (T' := rs T 9 m) (st2 := [.int q14]) (ct_X7_isPeriod (l := g.2.1) (κ := gκ g)   hq14) cal_X7_isPeriod wM_X7_434 wI_X7_isPeriod wS_X7_isPeriod rfl rfl (by decide) rfl rfl (Nat.le_of_ble_eq_true rfl) ⟨Nat.zero_le _, Nat.zero_le _⟩ dX7_may_91 rfl ?_
    obtain ⟨g15, h⟩ := gd_some h
    obtain rfl := Option.some.inj h
    exact hf _ _ dX7_may_94 (isb_n g15)
  have h := it_f c13 h
  by_cases c16 : v4 = (3 : Int32)
  · have h := it_t c16 h
    rw [c16]
    refine G_tabIn X (off := 75) (tgt := 95) dX7_may_20 (by decide) (by decide) (by decide) (by decide) ?_
    refine G_aload_n X 2 dX7_may_95 rfl rfl ?_
    refine G_iload_n X 1 dX7_may_96 rfl rfl ?_
    refine G_iload_n X 0 dX7_may_97 rfl rfl ?_
    obtain ⟨q17, hq17, h⟩ := bd_some h
    refine G_callV X (As := [.int (gI m 0 11 (ix a1)), .int (gI m 0 12 (ix a1))]) (rest := []) (T' := rs T 9 m) (st2 := [.int q17]) (ct_X7_isFirst (l := g.2.1) (κ := gκ g)   hq17) cal_X7_isFirst wM_X7_440 wI_X7_isFirst wS_X7_isFirst rfl rfl (by decide) rfl rfl (Nat.le_of_ble_eq_true rfl) ⟨Nat.zero_le _, Nat.zero_le _⟩ dX7_may_98 rfl ?_
    obtain ⟨g18, h⟩ := gd_some h
    obtain rfl := Option.some.inj h
    exact hf _ _ dX7_may_101 (isb_n g18)
  have h := it_f c16 h
  by_cases c19 : v4 = (4 : Int32)
  · have h := it_t c19 h
    rw [c19]
    refine G_tabIn X (off := 82) (tgt := 102) dX7_may_20 (by decide) (by decide) (by decide) (by decide) ?_
    refine G_iload_n X 0 dX7_may_102 rfl rfl ?_
    obtain ⟨q20, hq20, h⟩ := bd_some h
    refine G_callS X (As := [.int (gI m 0 12 (ix a1))]) (rest := []) (T' := rs T 9 m) (st2 := [.int q20]) (ct_X7_isBy (l := g.2.1) (κ := gκ g)   hq20) cal_X7_isBy wM_X7_445 wT_X7_isBy (by decide) rfl rfl (Nat.le_of_ble_eq_true rfl) ⟨Nat.zero_le _, Nat.zero_le _⟩ dX7_may_103 rfl ?_
    obtain ⟨g21, h⟩ := gd_some h
    obtain rfl := Option.some.inj h
    exact hf _ _ dX7_may_106 (isb_n g21)
  have h := it_f c19 h
  by_cases c22 : v4 = (5 : Int32)
  · have h := it_t c22 h
    rw [c22]
    refine G_tabIn X (off := 87) (tgt := 107) dX7_may_20 (by decide) (by decide) (by decide) (by decide) ?_
    refine G_aload_n X 2 dX7_may_107 rfl rfl ?_
    refine G_iload_n X 1 dX7_may_108 rfl rfl ?_
    refine G_iload_n X 0 dX7_may_109 rfl rfl ?_
    obtain ⟨q23, hq23, h⟩ := bd_some h
    refine G_callV X (As := [.int (gI m 0 11 (ix a1)), .int (gI m 0 12 (ix a1))]) (rest := []) (T' := rs T 9 m) (st2 := [.int q23]) (ct_X7_areNear (l := g.2.1) (κ := gκ g)   hq23) cal_X7_areNear wM_X7_208 wI_X7_areNear wS_X7_areNear rfl rfl (by decide) rfl rfl (Nat.le_of_ble_eq_true rfl) ⟨Nat.zero_le _, Nat.zero_le _⟩ dX7_may_110 rfl ?_
    refine G_if_ne X (tgt := 120) dX7_may_113 (by decide) (fun c24 => ?_) (fun c24 => ?_)
    · have h := it_t c24 h
      refine G_iconst X (v := (0 : Int32)) dX7_may_120 (by decide) ?_
      obtain rfl := Option.some.inj h
      exact hf _ _ dX7_may_121 (isb_n (v := (0 : Int32)) rfl)
    · have h := it_f (fun k => k c24) h
      refine G_iconst X (v := (1 : Int32)) dX7_may_116 (by decide) ?_
      refine G_goto X (tgt := 121) dX7_may_117 (by decide) ?_
      obtain rfl := Option.some.inj h
      exact hf _ _ dX7_may_121 (isb_n (v := (1 : Int32)) rfl)
  have h := it_f c22 h
  refine G_tabOut X (tgt := 122) dX7_may_20 (sw_out 0 5 [(0 : Int32), (1 : Int32), (2 : Int32), (3 : Int32), (4 : Int32), (5 : Int32)] (by decide) (by simp [c5, c10, c13, c16, c19, c22])) (by decide) ?_
  refine G_aload_n X 2 dX7_may_122 rfl rfl ?_
  refine G_iload_n X 1 dX7_may_123 rfl rfl ?_
  refine G_iload_n X 0 dX7_may_124 rfl rfl ?_
  obtain ⟨q25, hq25, h⟩ := bd_some h
  refine G_callV X (As := [.int (gI m 0 11 (ix a1)), .int (gI m 0 12 (ix a1))]) (rest := []) (T' := rs T 9 m) (st2 := [.int q25]) (ct_X7_areNear (l := g.2.1) (κ := gκ g)   hq25) cal_X7_areNear wM_X7_208 wI_X7_areNear wS_X7_areNear rfl rfl (by decide) rfl rfl (Nat.le_of_ble_eq_true rfl) ⟨Nat.zero_le _, Nat.zero_le _⟩ dX7_may_125 rfl ?_
  obtain ⟨g26, h⟩ := gd_some h
  obtain rfl := Option.some.inj h
  exact hf _ _ dX7_may_128 (isb_n g26)
set_option maxRecDepth 20000 in
theorem ct_X7_may {l : Launch} {κ : KX} {T : TT}  {m : St} {a1 : Int32} {res : Int32}  (h : sX7_may m a1 = some res) : Ct l κ yX7_may cX7_may 4 (some .boolean) 3 65 [.ref (xE κ 9 0 0), .int a1] (rs T 9 m) (rs T 9 m) (some (.int (res))) := by
  refine Ct_i RX7 rfl (by decide +kernel) (Nat.le_of_ble_eq_true rfl) (fun g hl hκ X hf => ?_)
  subst hl; subst hκ
  exact gX7_may X  hf h
set_option maxRecDepth 20000 in
theorem gX7_does_b115 {g : GX} {T : TT}  {m : St} {s0 : Int32} {s1 : Int32} {s2 : Int32} {res : St × Int32}  (X : CX g RX7 cX7_does 4 9 199)  (hf : FinI g cX7_does .int (rs T 9 res.1) (res.2))   (h : sX7_does_b115  m s0 s1 s2 = some res) : G g 0 0 (rs T 9 m) 115 [] [.int s0, .int s1, .int s2, .ref (xE (gκ g) 9 0 0)] := by
  unfold sX7_does_b115 at h
  obtain ⟨q19, hq19, h⟩ := bd_some h
  refine G_callV X (As := [.int s2, .int s1, .int s0]) (rest := []) (T' := rs T 9 q19) (st2 := []) (ct_X7_nears (l := g.2.1) (κ := gκ g)   hq19) cal_X7_nears wM_X7_211 wI_X7_nears wS_X7_nears rfl rfl (by decide) rfl rfl (Nat.le_of_ble_eq_true rfl) ⟨Nat.zero_le _, Nat.zero_le _⟩ dX7_does_115 rfl ?_
  refine G_iconst X (v := (1 : Int32)) dX7_does_118 (by decide) ?_
  obtain rfl := Option.some.inj h
  exact hf _ _ dX7_does_119 rfl
set_option maxRecDepth 20000 in
theorem gX7_does {g : GX} {T : TT}  {m : St} {a1 : Int32} {res : St × Int32} (X : CX g RX7 cX7_does 4 9 199)  (hf : FinI g cX7_does .int (rs T 9 res.1) (res.2)) (h : sX7_does m a1 = some res) : G g 0 0 (rs T 9 m) 0 [(0, .ref (xE (gκ g) 9 0 0)), (1, .int a1)] [] := by
  unfold sX7_does at h
  refine G_aload_n X 0 dX7_does_0 rfl rfl ?_
  refine f_X7_48 X rfl rfl dX7_does_1 ?_
  refine G_iload_n X 1 dX7_does_4 rfl rfl ?_
  obtain ⟨g1, h⟩ := gd_some h
  refine G_iald X rfl (rg_rs _ _ _) g1 dX7_does_5 ?_
  refine G_istore_n X (lv' := [(2, .int (gI m 0 11 (ix a1))), (0, .ref (xE (gκ g) 9 0 0)), (1, .int a1)]) dX7_does_6 rfl (by decide) rfl ?_
  refine G_aload_n X 1 dX7_does_7 rfl rfl ?_
  refine f_X7_51 X rfl rfl dX7_does_8 ?_
  refine G_iload_n X 2 dX7_does_11 rfl rfl ?_
  obtain ⟨g2, h⟩ := gd_some h
  refine G_iald X rfl (rg_rs _ _ _) g2 dX7_does_12 ?_
  refine G_istore_n X (lv' := [(3, .int (gI m 0 12 (ix a1))), (2, .int (gI m 0 11 (ix a1))), (0, .ref (xE (gκ g) 9 0 0)), (1, .int a1)]) dX7_does_13 rfl (by decide) rfl ?_
  refine G_aload_n X 2 dX7_does_14 rfl rfl ?_
  refine f_X7_45 X rfl rfl dX7_does_15 ?_
  refine G_iload_n X 3 dX7_does_18 rfl rfl ?_
  obtain ⟨g3, h⟩ := gd_some h
  refine G_iald X rfl (rg_rs _ _ _) g3 dX7_does_19 ?_
  obtain ⟨v4, ev4, h⟩ := nm_some h
  refine G_nmi ev4 ?_
  by_cases c5 : v4 = (0 : Int32)
  · have h := it_t c5 h
    rw [c5]
    refine G_tabIn X (off := 36) (tgt := 56) dX7_does_20 (by decide) (by decide) (by decide) (by decide) ?_
    refine G_aload_n X 2 dX7_does_56 rfl rfl ?_
    refine G_iload_n X 1 dX7_does_57 rfl rfl ?_
    obtain ⟨q6, hq6, h⟩ := bd_some h
    refine G_callV X (As := [.int (gI m 0 11 (ix a1))]) (rest := []) (T' := rs T 9 q6.1) (st2 := [.int q6.2]) (ct_X7_runs (l := g.2.1) (κ := gκ g)   hq6) cal_X7_runs wM_X7_387 wI_X7_runs wS_X7_runs rfl rfl (by decide) rfl rfl (Nat.le_of_ble_eq_true rfl) ⟨Nat.zero_le _, Nat.zero_le _⟩ dX7_does_58 rfl ?_
    obtain rfl := Option.some.inj h
    exact hf _ _ dX7_does_61 rfl
  have h := it_f c5 h
  by_cases c7 : v4 = (1 : Int32)
  · have h := it_t c7 h
    rw [c7]
    refine G_tabIn X (off := 42) (tgt := 62) dX7_does_20 (by decide) (by decide) (by decide) (by decide) ?_
    refine G_aload_n X 2 dX7_does_62 rfl rfl ?_
    refine G_iload_n X 1 dX7_does_63 rfl rfl ?_
    obtain ⟨q8, hq8, h⟩ := bd_some h
    refine G_callV X (As := [.int (gI m 0 11 (ix a1))]) (rest := []) (T' := rs T 9 q8.1) (st2 := [.int q8.2]) (ct_X7_awakens (l := g.2.1) (κ := gκ g)   hq8) cal_X7_awakens wM_X7_429 wI_X7_awakens wS_X7_awakens rfl rfl (by decide) rfl rfl (Nat.le_of_ble_eq_true rfl) ⟨Nat.zero_le _, Nat.zero_le _⟩ dX7_does_64 rfl ?_
    obtain rfl := Option.some.inj h
    exact hf _ _ dX7_does_67 rfl
  have h := it_f c7 h
  by_cases c9 : v4 = (2 : Int32)
  · have h := it_t c9 h
    rw [c9]
    refine G_tabIn X (off := 48) (tgt := 68) dX7_does_20 (by decide) (by decide) (by decide) (by decide) ?_
    refine G_aload_n X 2 dX7_does_68 rfl rfl ?_
    refine G_iload_n X 1 dX7_does_69 rfl rfl ?_
    refine G_iconst X (v := (0 : Int32)) dX7_does_70 (by decide) ?_
    obtain ⟨q10, hq10, h⟩ := bd_some h
    refine G_callS X (As := [.int (gI m 0 11 (ix a1)), .int ((0 : Int32))]) (rest := [.ref (xE (gκ g) 9 0 0)]) (T' := rs T 9 m) (st2 := [.int q10, .ref (xE (gκ g) 9 0 0)]) (ct_X7_cellOf (l := g.2.1) (κ := gκ g)   hq10) cal_X7_cellOf wM_X7_145 wT_X7_cellOf (by decide) rfl rfl (Nat.le_of_ble_eq_true rfl) ⟨Nat.zero_le _, Nat.zero_le _⟩ dX7_does_71 rfl ?_
    refine G_iload_n X 0 dX7_does_74 rfl rfl ?_
    obtain ⟨q11, hq11, h⟩ := bd_some h
    refine G_callV X (As := [.int q10, .int (gI m 0 12 (ix a1))]) (rest := []) (T' := rs T 9 q11.1) (st2 := [.int q11.2]) (ct_X7_swapsCell (l := g.2.1) (κ := gκ g)   hq11) cal_X7_swapsCell wM_X7_437 wI_X7_swapsCell wS_X7_swapsCell rfl rfl (by decide) rfl rfl (Nat.le_of_ble_eq_true rfl) ⟨Nat.zero_le _, Nat.zero_le _⟩ dX7_does_75 rfl ?_
    obtain rfl := Option.some.inj h
    exact hf _ _ dX7_does_78 rfl
  have h := it_f c9 h
  by_cases c12 : v4 = (3 : Int32)
  · have h := it_t c12 h
    rw [c12]
    refine G_tabIn X (off := 59) (tgt := 79) dX7_does_20 (by decide) (by decide) (by decide) (by decide) ?_
    refine G_aload_n X 2 dX7_does_79 rfl rfl ?_
    refine G_iload_n X 1 dX7_does_80 rfl rfl ?_
    refine G_iconst X (v := (1 : Int32)) dX7_does_81 (by decide) ?_
    obtain ⟨q13, hq13, h⟩ := bd_some h
    refine G_callS X (As := [.int (gI m 0 11 (ix a1)), .int ((1 : Int32))]) (rest := [.ref (xE (gκ g) 9 0 0)]) (T' := rs T 9 m) (st2 := [.int q13, .ref (xE (gκ g) 9 0 0)]) (ct_X7_cellOf (l := g.2.1) (κ := gκ g)   hq13) cal_X7_cellOf wM_X7_145 wT_X7_cellOf (by decide) rfl rfl (Nat.le_of_ble_eq_true rfl) ⟨Nat.zero_le _, Nat.zero_le _⟩ dX7_does_82 rfl ?_
    refine G_iload_n X 0 dX7_does_85 rfl rfl ?_
    obtain ⟨q14, hq14, h⟩ := bd_some h
    refine G_callV X (As := [.int q13, .int (gI m 0 12 (ix a1))]) (rest := []) (T' := rs T 9 q14.1) (st2 := [.int q14.2]) (ct_X7_swapsCell (l := g.2.1) (κ := gκ g)   hq14) cal_X7_swapsCell wM_X7_437 wI_X7_swapsCell wS_X7_swapsCell rfl rfl (by decide) rfl rfl (Nat.le_of_ble_eq_true rfl) ⟨Nat.zero_le _, Nat.zero_le _⟩ dX7_does_86 rfl ?_
    obtain rfl := Option.some.inj h
    exact hf _ _ dX7_does_89 rfl
  have h := it_f c12 h
  by_cases c15 : v4 = (4 : Int32)
  · have h := it_t c15 h
    rw [c15]
    refine G_tabIn X (off := 70) (tgt := 90) dX7_does_20 (by decide) (by decide) (by decide) (by decide) ?_
    refine G_aload_n X 2 dX7_does_90 rfl rfl ?_
    refine G_iload_n X 1 dX7_does_91 rfl rfl ?_
    refine G_iload_n X 0 dX7_does_92 rfl rfl ?_
    obtain ⟨q16, hq16, h⟩ := bd_some h
    refine G_callV X (As := [.int (gI m 0 11 (ix a1)), .int (gI m 0 12 (ix a1))]) (rest := []) (T' := rs T 9 q16.1) (st2 := [.int q16.2]) (ct_X7_charges (l := g.2.1) (κ := gκ g)   hq16) cal_X7_charges wM_X7_448 wI_X7_charges wS_X7_charges rfl rfl (by decide) rfl rfl (Nat.le_of_ble_eq_true rfl) ⟨Nat.zero_le _, Nat.zero_le _⟩ dX7_does_93 rfl ?_
    obtain rfl := Option.some.inj h
    exact hf _ _ dX7_does_96 rfl
  have h := it_f c15 h
  refine G_tabOut X (tgt := 97) dX7_does_20 (sw_out 0 4 [(0 : Int32), (1 : Int32), (2 : Int32), (3 : Int32), (4 : Int32)] (by decide) (by simp [c5, c7, c9, c12, c15])) (by decide) ?_
  refine G_aload_n X 2 dX7_does_97 rfl rfl ?_
  refine G_iload_n X 1 dX7_does_98 rfl rfl ?_
  refine G_iload_n X 0 dX7_does_99 rfl rfl ?_
  refine G_aload_n X 2 dX7_does_100 rfl rfl ?_
  refine f_X7_45 X rfl rfl dX7_does_101 ?_
  refine G_iload_n X 3 dX7_does_104 rfl rfl ?_
  obtain ⟨g17, h⟩ := gd_some h
  refine G_iald X rfl (rg_rs _ _ _) g17 dX7_does_105 ?_
  refine G_iconst X (v := (5 : Int32)) dX7_does_106 (by decide) ?_
  refine G_icmp_ne X (tgt := 114) dX7_does_107 (by decide) (fun c18 => ?_) (fun c18 => ?_)
  · have h := it_t c18 h
    refine G_iconst X (v := (0 : Int32)) dX7_does_114 (by decide) ?_
    refine G_sub [] rfl ?_
    exact gX7_does_b115 X hf h
  · have h := it_f (fun k => k c18) h
    refine G_iconst X (v := (1 : Int32)) dX7_does_110 (by decide) ?_
    refine G_goto X (tgt := 115) dX7_does_111 (by decide) ?_
    refine G_sub [] rfl ?_
    exact gX7_does_b115 X hf h
set_option maxRecDepth 20000 in
theorem ct_X7_does {l : Launch} {κ : KX} {T : TT}  {m : St} {a1 : Int32} {res : St × Int32}  (h : sX7_does m a1 = some res) : Ct l κ yX7_does cX7_does 4 (some .int) 9 199 [.ref (xE κ 9 0 0), .int a1] (rs T 9 m) (rs T 9 res.1) (some (.int (res.2))) := by
  refine Ct_i RX7 rfl (by decide +kernel) (Nat.le_of_ble_eq_true rfl) (fun g hl hκ X hf => ?_)
  subst hl; subst hκ
  exact gX7_does X  hf h
set_option maxRecDepth 20000 in
theorem gX7_doesAll_b170 {g : GX} {T : TT}  {m : St} {a1 : Int32} {a2 : Int32} {a3 : Int32} {a4 : Int32} {s0 : Int32} {res : St × Int32} {k9 : St → Int32 → Int32 → Int32 → Int32 → Option (St × Int32)} (X : CX g RX7 cX7_doesAll 6 10 222)  (hf : FinI g cX7_doesAll .int (rs T 9 res.1) (res.2)) (hk9 : ∀ (m' : St) (a1' : Int32) (a2' : Int32) (a3' : Int32) (a4' : Int32), k9 m' a1' a2' a3' a4' = some res → G g 0 0 (rs T 9 m') 9 [(0, .ref (xE (gκ g) 9 0 0)), (1, .int a1'), (2, .int a2'), (3, .int a3'), (4, .int a4')] [])  (h : sX7_doesAll_b170 k9 m a1 a2 a3 a4 s0 = some res) : G g 0 0 (rs T 9 m) 170 [(0, .ref (xE (gκ g) 9 0 0)), (1, .int a1), (2, .int a2), (3, .int a3), (4, .int a4)] [.int s0] := by
  unfold sX7_doesAll_b170 at h
  refine G_istore X (lv' := [(5, .int s0), (0, .ref (xE (gκ g) 9 0 0)), (1, .int a1), (2, .int a2), (3, .int a3), (4, .int a4)]) dX7_doesAll_170 (by decide) rfl ?_
  refine G_iload_n X 2 dX7_doesAll_172 rfl rfl ?_
  refine G_iload X 5 dX7_doesAll_173 rfl ?_
  obtain ⟨q24, hq24, h⟩ := bd_some h
  refine G_callS X (As := [.int a4]) (rest := [.int a1]) (T' := rs T 9 m) (st2 := [.int q24, .int a1]) (ct_X7_truth (l := g.2.1) (κ := gκ g)   hq24) cal_X7_truth wM_X7_69 wT_X7_truth (by decide) rfl rfl (Nat.le_of_ble_eq_true rfl) ⟨Nat.zero_le _, Nat.zero_le _⟩ dX7_doesAll_175 rfl ?_
  refine G_iadd X dX7_doesAll_178 ?_
  refine G_istore_n X (lv' := [(1, .int (a1 + q24)), (5, .int s0), (0, .ref (xE (gκ g) 9 0 0)), (2, .int a2), (3, .int a3), (4, .int a4)]) dX7_doesAll_179 rfl (by decide) rfl ?_
  obtain ⟨v25, ev25, h⟩ := nm_some h
  refine G_iinc X (v := v25) (lv' := [(3, .int v25), (1, .int (a1 + q24)), (5, .int s0), (0, .ref (xE (gκ g) 9 0 0)), (2, .int a2), (4, .int a4)]) 4 dX7_doesAll_180 rfl (by rw [ev25]; rfl) (by decide) rfl ?_
  refine G_goto X (tgt := 9) dX7_doesAll_183 (by decide) ?_
  refine G_sub [3, 1, 4, 0, 5] rfl ?_
  exact hk9 _ _ _ _ _ h
set_option maxRecDepth 20000 in
theorem gX7_doesAll_b141 {g : GX} {T : TT}  {m : St} {a1 : Int32} {a3 : Int32} {a4 : Int32} {s0 : Int32} {s1 : Int32} {res : St × Int32} {k9 : St → Int32 → Int32 → Int32 → Int32 → Option (St × Int32)} (X : CX g RX7 cX7_doesAll 6 10 222)  (hf : FinI g cX7_doesAll .int (rs T 9 res.1) (res.2)) (hk9 : ∀ (m' : St) (a1' : Int32) (a2' : Int32) (a3' : Int32) (a4' : Int32), k9 m' a1' a2' a3' a4' = some res → G g 0 0 (rs T 9 m') 9 [(0, .ref (xE (gκ g) 9 0 0)), (1, .int a1'), (2, .int a2'), (3, .int a3'), (4, .int a4')] [])  (h : sX7_doesAll_b141 k9 m a1 a3 a4 s0 s1 = some res) : G g 0 0 (rs T 9 m) 141 [(0, .ref (xE (gκ g) 9 0 0)), (1, .int a1), (3, .int a3), (4, .int a4)] [.int s0, .int s1] := by
  unfold sX7_doesAll_b141 at h
  obtain ⟨q29, hq29, h⟩ := bd_some h
  refine G_callS X (As := [.int s0]) (rest := [.int s1]) (T' := rs T 9 m) (st2 := [.int q29, .int s1]) (ct_X7_truth (l := g.2.1) (κ := gκ g)   hq29) cal_X7_truth wM_X7_69 wT_X7_truth (by decide) rfl rfl (Nat.le_of_ble_eq_true rfl) ⟨Nat.zero_le _, Nat.zero_le _⟩ dX7_doesAll_141 rfl ?_
  refine G_isub X dX7_doesAll_144 ?_
  refine G_istore_n X (lv' := [(2, .int (s1 - q29)), (0, .ref (xE (gκ g) 9 0 0)), (1, .int a1), (3, .int a3), (4, .int a4)]) dX7_doesAll_145 rfl (by decide) rfl ?_
  refine G_goto X (tgt := 9) dX7_doesAll_146 (by decide) ?_
  refine G_sub [1, 2, 0, 3, 4] rfl ?_
  exact hk9 _ _ _ _ _ h
set_option maxRecDepth 20000 in
theorem gX7_doesAll_b129 {g : GX} {T : TT}  {m : St} {a1 : Int32} {a2 : Int32} {a4 : Int32} {a5 : Int32} {s0 : Int32} {res : St × Int32} {k9 : St → Int32 → Int32 → Int32 → Int32 → Option (St × Int32)} (X : CX g RX7 cX7_doesAll 6 10 222)  (hf : FinI g cX7_doesAll .int (rs T 9 res.1) (res.2)) (hk9 : ∀ (m' : St) (a1' : Int32) (a2' : Int32) (a3' : Int32) (a4' : Int32), k9 m' a1' a2' a3' a4' = some res → G g 0 0 (rs T 9 m') 9 [(0, .ref (xE (gκ g) 9 0 0)), (1, .int a1'), (2, .int a2'), (3, .int a3'), (4, .int a4')] [])  (h : sX7_doesAll_b129 k9 m a1 a2 a4 a5 s0 = some res) : G g 0 0 (rs T 9 m) 129 [(0, .ref (xE (gκ g) 9 0 0)), (1, .int a1), (2, .int a2), (4, .int a4), (5, .int a5)] [.int s0] := by
  unfold sX7_doesAll_b129 at h
  refine G_istore_n X (lv' := [(3, .int s0), (0, .ref (xE (gκ g) 9 0 0)), (1, .int a1), (2, .int a2), (4, .int a4), (5, .int a5)]) dX7_doesAll_129 rfl (by decide) rfl ?_
  refine G_iload_n X 3 dX7_doesAll_130 rfl rfl ?_
  refine G_iload X 5 dX7_doesAll_131 rfl ?_
  refine G_if_ne X (tgt := 140) dX7_doesAll_133 (by decide) (fun c28 => ?_) (fun c28 => ?_)
  · have h := it_t c28 h
    refine G_iconst X (v := (0 : Int32)) dX7_doesAll_140 (by decide) ?_
    refine G_sub [1, 2, 0, 4] rfl ?_
    exact gX7_doesAll_b141 X hf hk9 h
  · have h := it_f (fun k => k c28) h
    refine G_iconst X (v := (1 : Int32)) dX7_doesAll_136 (by decide) ?_
    refine G_goto X (tgt := 141) dX7_doesAll_137 (by decide) ?_
    refine G_sub [1, 2, 0, 4] rfl ?_
    exact gX7_doesAll_b141 X hf hk9 h
set_option maxRecDepth 20000 in
theorem gX7_doesAll_b106 {g : GX} {T : TT}  {m : St} {a1 : Int32} {a2 : Int32} {a3 : Int32} {a4 : Int32} {s0 : Int32} {res : St × Int32} {k9 : St → Int32 → Int32 → Int32 → Int32 → Option (St × Int32)} (X : CX g RX7 cX7_doesAll 6 10 222)  (hf : FinI g cX7_doesAll .int (rs T 9 res.1) (res.2)) (hk9 : ∀ (m' : St) (a1' : Int32) (a2' : Int32) (a3' : Int32) (a4' : Int32), k9 m' a1' a2' a3' a4' = some res → G g 0 0 (rs T 9 m') 9 [(0, .ref (xE (gκ g) 9 0 0)), (1, .int a1'), (2, .int a2'), (3, .int a3'), (4, .int a4')] [])  (h : sX7_doesAll_b106 k9 m a1 a2 a3 a4 s0 = some res) : G g 0 0 (rs T 9 m) 106 [(0, .ref (xE (gκ g) 9 0 0)), (1, .int a1), (2, .int a2), (3, .int a3), (4, .int a4)] [.int s0] := by
  unfold sX7_doesAll_b106 at h
  refine G_istore X (lv' := [(5, .int s0), (0, .ref (xE (gκ g) 9 0 0)), (1, .int a1), (2, .int a2), (3, .int a3), (4, .int a4)]) dX7_doesAll_106 (by decide) rfl ?_
  refine G_iload X 0 dX7_doesAll_108 rfl ?_
  refine G_if_eq X (tgt := 126) dX7_doesAll_110 (by decide) (fun c26 => ?_) (fun c26 => ?_)
  · have h := it_t c26 h
    refine G_iload_n X 4 dX7_doesAll_126 rfl rfl ?_
    refine G_iconst X (v := (1 : Int32)) dX7_doesAll_127 (by decide) ?_
    refine G_iadd X dX7_doesAll_128 ?_
    refine G_sub [1, 2, 3, 5, 0] rfl ?_
    exact gX7_doesAll_b129 X hf hk9 h
  · have h := it_f c26 h
    refine G_aload_n X 1 dX7_doesAll_113 rfl rfl ?_
    refine f_X7_54 X rfl rfl dX7_doesAll_114 ?_
    refine G_iload_n X 3 dX7_doesAll_117 rfl rfl ?_
    refine G_iconst X (v := (1 : Int32)) dX7_doesAll_118 (by decide) ?_
    refine G_isub X dX7_doesAll_119 ?_
    obtain ⟨g27, h⟩ := gd_some h
    refine G_iald X rfl (rg_rs _ _ _) g27 dX7_doesAll_120 ?_
    refine G_iconst X (v := (1 : Int32)) dX7_doesAll_121 (by decide) ?_
    refine G_iadd X dX7_doesAll_122 ?_
    refine G_goto X (tgt := 129) dX7_doesAll_123 (by decide) ?_
    refine G_sub [1, 2, 3, 5, 0] rfl ?_
    exact gX7_doesAll_b129 X hf hk9 h
set_option maxRecDepth 20000 in
theorem gX7_doesAll_b9 {g : GX} {T : TT}   {res : St × Int32}  (X : CX g RX7 cX7_doesAll 6 10 222)  (hf : FinI g cX7_doesAll .int (rs T 9 res.1) (res.2))  : ∀ (n : Nat) (m : St) (a1 : Int32) (a2 : Int32) (a3 : Int32) (a4 : Int32) (h : sX7_doesAll_b9 n  m a1 a2 a3 a4 = some res), G g 0 0 (rs T 9 m) 9 [(0, .ref (xE (gκ g) 9 0 0)), (1, .int a1), (2, .int a2), (3, .int a3), (4, .int a4)] [] := by
  intro n
  induction n with
  | zero => intro m a1 a2 a3 a4 h; unfold sX7_doesAll_b9 at h; cases h
  | succ n ih =>
    intro m a1 a2 a3 a4 h
    unfold sX7_doesAll_b9 at h
    refine G_iload X 4 dX7_doesAll_9 rfl ?_
    refine G_if_eq X (tgt := 186) dX7_doesAll_11 (by decide) (fun c1 => ?_) (fun c1 => ?_)
    · have h := it_t c1 h
      refine G_iload_n X 1 dX7_doesAll_186 rfl rfl ?_
      obtain rfl := Option.some.inj h
      exact hf _ _ dX7_doesAll_187 rfl
    · have h := it_f c1 h
      refine G_iload_n X 3 dX7_doesAll_14 rfl rfl ?_
      refine G_aload_n X 0 dX7_doesAll_15 rfl rfl ?_
      refine f_X7_478 X rfl (rg_rs _ _ _) dX7_doesAll_16 ?_
      refine G_icmp_ge X (tgt := 186) dX7_doesAll_19 (by decide) (fun c2 => ?_) (fun c2 => ?_)
      · have h := it_t c2 h
        refine G_iload_n X 1 dX7_doesAll_186 rfl rfl ?_
        obtain rfl := Option.some.inj h
        exact hf _ _ dX7_doesAll_187 rfl
      · have h := it_f c2 h
        refine G_iload_n X 1 dX7_doesAll_22 rfl rfl ?_
        refine G_bipush X (v := (40 : Int32)) dX7_doesAll_23 (by decide) ?_
        refine G_icmp_ge X (tgt := 186) dX7_doesAll_25 (by decide) (fun c3 => ?_) (fun c3 => ?_)
        · have h := it_t c3 h
          refine G_iload_n X 1 dX7_doesAll_186 rfl rfl ?_
          obtain rfl := Option.some.inj h
          exact hf _ _ dX7_doesAll_187 rfl
        · have h := it_f c3 h
          refine G_aload_n X 0 dX7_doesAll_28 rfl rfl ?_
          refine f_X7_45 X rfl rfl dX7_doesAll_29 ?_
          refine G_iload_n X 3 dX7_doesAll_32 rfl rfl ?_
          obtain ⟨g4, h⟩ := gd_some h
          refine G_iald X rfl (rg_rs _ _ _) g4 dX7_doesAll_33 ?_
          refine G_bipush X (v := (7 : Int32)) dX7_doesAll_34 (by decide) ?_
          refine G_icmp_ne X (tgt := 67) dX7_doesAll_36 (by decide) (fun c5 => ?_) (fun c5 => ?_)
          · have h := it_t c5 h
            refine G_aload_n X 0 dX7_doesAll_67 rfl rfl ?_
            refine f_X7_45 X rfl rfl dX7_doesAll_68 ?_
            refine G_iload_n X 3 dX7_doesAll_71 rfl rfl ?_
            obtain ⟨g6, h⟩ := gd_some h
            refine G_iald X rfl (rg_rs _ _ _) g6 dX7_doesAll_72 ?_
            refine G_bipush X (v := (8 : Int32)) dX7_doesAll_73 (by decide) ?_
            refine G_icmp_ne X (tgt := 149) dX7_doesAll_75 (by decide) (fun c7 => ?_) (fun c7 => ?_)
            · have h := it_t c7 h
              refine G_aload_n X 0 dX7_doesAll_149 rfl rfl ?_
              refine G_iload_n X 3 dX7_doesAll_150 rfl rfl ?_
              obtain ⟨q8, hq8, h⟩ := bd_some h
              refine G_callV X (As := [.int a3]) (rest := []) (T' := rs T 9 m) (st2 := [.int q8]) (ct_X7_may (l := g.2.1) (κ := gκ g)   hq8) cal_X7_may wM_X7_493 wI_X7_may wS_X7_may rfl rfl (by decide) rfl rfl (Nat.le_of_ble_eq_true rfl) ⟨Nat.zero_le _, Nat.zero_le _⟩ dX7_doesAll_151 rfl ?_
              refine G_istore X (lv' := [(4, .int q8), (0, .ref (xE (gκ g) 9 0 0)), (1, .int a1), (2, .int a2), (3, .int a3)]) dX7_doesAll_154 (by decide) rfl ?_
              refine G_iload X 0 dX7_doesAll_156 rfl ?_
              refine G_if_eq X (tgt := 169) dX7_doesAll_158 (by decide) (fun c9 => ?_) (fun c9 => ?_)
              · have h := it_t c9 h
                refine G_iconst X (v := (0 : Int32)) dX7_doesAll_169 (by decide) ?_
                refine G_sub [1, 2, 3, 4, 0] rfl ?_
                exact gX7_doesAll_b170 X hf (fun _ _ _ _ _ h => ih _ _ _ _ _ h) h
              · have h := it_f c9 h
                refine G_aload_n X 1 dX7_doesAll_161 rfl rfl ?_
                refine G_iload_n X 4 dX7_doesAll_162 rfl rfl ?_
                obtain ⟨q10, hq10, h⟩ := bd_some h
                refine G_callV X (As := [.int a3]) (rest := []) (T' := rs T 9 q10.1) (st2 := [.int q10.2]) (ct_X7_does (l := g.2.1) (κ := gκ g)   hq10) cal_X7_does wM_X7_496 wI_X7_does wS_X7_does rfl rfl (by decide) rfl rfl (Nat.le_of_ble_eq_true rfl) ⟨Nat.zero_le _, Nat.zero_le _⟩ dX7_doesAll_163 rfl ?_
                refine G_goto X (tgt := 170) dX7_doesAll_166 (by decide) ?_
                refine G_sub [1, 2, 3, 4, 0] rfl ?_
                exact gX7_doesAll_b170 X hf (fun _ _ _ _ _ h => ih _ _ _ _ _ h) h
            · have h := it_f (fun k => k c7) h
              refine G_aload_n X 0 dX7_doesAll_78 rfl rfl ?_
              refine f_X7_57 X rfl rfl dX7_doesAll_79 ?_
              refine G_iload_n X 2 dX7_doesAll_82 rfl rfl ?_
              refine G_iconst X (v := (1 : Int32)) dX7_doesAll_83 (by decide) ?_
              refine G_isub X dX7_doesAll_84 ?_
              refine G_dup2 X dX7_doesAll_85 rfl rfl ?_
              obtain ⟨g11, h⟩ := gd_some h
              refine G_iald X rfl (rg_rs _ _ _) g11 dX7_doesAll_86 ?_
              refine G_iconst X (v := (1 : Int32)) dX7_doesAll_87 (by decide) ?_
              refine G_isub X dX7_doesAll_88 ?_
              obtain ⟨v12, ev12, h⟩ := nm_some h
              refine G_nmi ev12 ?_
              obtain ⟨g13, h⟩ := gd_some h
              obtain ⟨x14, ex14, h⟩ := nm_some h
              refine G_iast X (T' := rs T 9 x14) rfl (rg_rs _ _ _) g13 (by rw [rs_rs, ex14]) dX7_doesAll_89 ?_
              refine G_aload_n X 0 dX7_doesAll_90 rfl rfl ?_
              refine f_X7_57 X rfl rfl dX7_doesAll_91 ?_
              refine G_iload_n X 2 dX7_doesAll_94 rfl rfl ?_
              refine G_iconst X (v := (1 : Int32)) dX7_doesAll_95 (by decide) ?_
              refine G_isub X dX7_doesAll_96 ?_
              obtain ⟨g15, h⟩ := gd_some h
              refine G_iald X rfl (rg_rs _ _ _) g15 dX7_doesAll_97 ?_
              refine G_if_le X (tgt := 105) dX7_doesAll_98 (by decide) (fun c16 => ?_) (fun c16 => ?_)
              · have h := it_t c16 h
                refine G_iconst X (v := (0 : Int32)) dX7_doesAll_105 (by decide) ?_
                exact gX7_doesAll_b106 X hf (fun _ _ _ _ _ h => ih _ _ _ _ _ h) h
              · have h := it_f c16 h
                refine G_iconst X (v := (1 : Int32)) dX7_doesAll_101 (by decide) ?_
                refine G_goto X (tgt := 106) dX7_doesAll_102 (by decide) ?_
                exact gX7_doesAll_b106 X hf (fun _ _ _ _ _ h => ih _ _ _ _ _ h) h
          · have h := it_f (fun k => k c5) h
            refine G_aload_n X 0 dX7_doesAll_39 rfl rfl ?_
            refine f_X7_54 X rfl rfl dX7_doesAll_40 ?_
            refine G_iload_n X 2 dX7_doesAll_43 rfl rfl ?_
            refine G_iload_n X 3 dX7_doesAll_44 rfl rfl ?_
            obtain ⟨g17, h⟩ := gd_some h
            obtain ⟨x18, ex18, h⟩ := nm_some h
            refine G_iast X (T' := rs T 9 x18) rfl (rg_rs _ _ _) g17 (by rw [rs_rs, ex18]) dX7_doesAll_45 ?_
            refine G_aload_n X 0 dX7_doesAll_46 rfl rfl ?_
            refine f_X7_57 X rfl rfl dX7_doesAll_47 ?_
            refine G_iload_n X 2 dX7_doesAll_50 rfl rfl ?_
            refine G_aload_n X 0 dX7_doesAll_51 rfl rfl ?_
            refine f_X7_48 X rfl rfl dX7_doesAll_52 ?_
            refine G_iload_n X 3 dX7_doesAll_55 rfl rfl ?_
            obtain ⟨g19, h⟩ := gd_some h
            refine G_iald X rfl (rg_rs _ _ _) g19 dX7_doesAll_56 ?_
            obtain ⟨g20, h⟩ := gd_some h
            obtain ⟨x21, ex21, h⟩ := nm_some h
            refine G_iast X (T' := rs T 9 x21) rfl (rg_rs _ _ _) g20 (by rw [rs_rs, ex21]) dX7_doesAll_57 ?_
            obtain ⟨v22, ev22, h⟩ := nm_some h
            refine G_iinc X (v := v22) (lv' := [(2, .int v22), (0, .ref (xE (gκ g) 9 0 0)), (1, .int a1), (3, .int a3), (4, .int a4)]) 2 dX7_doesAll_58 rfl (by rw [ev22]; rfl) (by decide) rfl ?_
            obtain ⟨v23, ev23, h⟩ := nm_some h
            refine G_iinc X (v := v23) (lv' := [(3, .int v23), (2, .int v22), (0, .ref (xE (gκ g) 9 0 0)), (1, .int a1), (4, .int a4)]) 3 dX7_doesAll_61 rfl (by rw [ev23]; rfl) (by decide) rfl ?_
            refine G_goto X (tgt := 9) dX7_doesAll_64 (by decide) ?_
            refine G_sub [2, 3, 1, 0, 4] rfl ?_
            exact ih _ _ _ _ _ h
set_option maxRecDepth 20000 in
theorem gX7_doesAll {g : GX} {T : TT}  {m : St}  {res : St × Int32} (X : CX g RX7 cX7_doesAll 6 10 222)  (hf : FinI g cX7_doesAll .int (rs T 9 res.1) (res.2)) (h : sX7_doesAll m = some res) : G g 0 0 (rs T 9 m) 0 [(0, .ref (xE (gκ g) 9 0 0))] [] := by
  unfold sX7_doesAll at h
  refine G_iconst X (v := (0 : Int32)) dX7_doesAll_0 (by decide) ?_
  refine G_istore_n X (lv' := [(1, .int ((0 : Int32))), (0, .ref (xE (gκ g) 9 0 0))]) dX7_doesAll_1 rfl (by decide) rfl ?_
  refine G_iconst X (v := (0 : Int32)) dX7_doesAll_2 (by decide) ?_
  refine G_istore_n X (lv' := [(2, .int ((0 : Int32))), (1, .int ((0 : Int32))), (0, .ref (xE (gκ g) 9 0 0))]) dX7_doesAll_3 rfl (by decide) rfl ?_
  refine G_iconst X (v := (0 : Int32)) dX7_doesAll_4 (by decide) ?_
  refine G_istore_n X (lv' := [(3, .int ((0 : Int32))), (2, .int ((0 : Int32))), (1, .int ((0 : Int32))), (0, .ref (xE (gκ g) 9 0 0))]) dX7_doesAll_5 rfl (by decide) rfl ?_
  refine G_iconst X (v := (1 : Int32)) dX7_doesAll_6 (by decide) ?_
  refine G_istore X (lv' := [(4, .int ((1 : Int32))), (3, .int ((0 : Int32))), (2, .int ((0 : Int32))), (1, .int ((0 : Int32))), (0, .ref (xE (gκ g) 9 0 0))]) dX7_doesAll_7 (by decide) rfl ?_
  refine G_sub [4, 3, 2, 1, 0] rfl ?_
  exact gX7_doesAll_b9 X hf FU _ _ _ _ _ h
set_option maxRecDepth 20000 in
theorem ct_X7_doesAll {l : Launch} {κ : KX} {T : TT}  {m : St}  {res : St × Int32}  (h : sX7_doesAll m = some res) : Ct l κ yX7_doesAll cX7_doesAll 6 (some .int) 10 222 [.ref (xE κ 9 0 0)] (rs T 9 m) (rs T 9 res.1) (some (.int (res.2))) := by
  refine Ct_i RX7 rfl (by decide +kernel) (Nat.le_of_ble_eq_true rfl) (fun g hl hκ X hf => ?_)
  subst hl; subst hκ
  exact gX7_doesAll X  hf h
set_option maxRecDepth 20000 in
theorem gX7_runScript_b82 {g : GX} {T : TT}  {m : St}  {res : St × Int32}  (X : CX g RX7 cX7_runScript 2 11 247)  (hf : FinI g cX7_runScript .int (rs T 9 res.1) (res.2))   (h : sX7_runScript_b82  m = some res) : G g 0 0 (rs T 9 m) 82 [(0, .ref (xE (gκ g) 9 0 0))] [] := by
  unfold sX7_runScript_b82 at h
  refine G_aload_n X 0 dX7_runScript_82 rfl rfl ?_
  obtain ⟨q16, hq16, h⟩ := bd_some h
  refine G_callV X (As := []) (rest := []) (T' := rs T 9 q16.1) (st2 := [.int q16.2]) (ct_X7_endsText (l := g.2.1) (κ := gκ g)   hq16) cal_X7_endsText wM_X7_248 wI_X7_endsText wS_X7_endsText rfl rfl (by decide) rfl rfl (Nat.le_of_ble_eq_true rfl) ⟨Nat.zero_le _, Nat.zero_le _⟩ dX7_runScript_83 rfl ?_
  refine G_if_ne X (tgt := 91) dX7_runScript_86 (by decide) (fun c17 => ?_) (fun c17 => ?_)
  · have h := it_t c17 h
    refine G_aload_n X 0 dX7_runScript_91 rfl rfl ?_
    obtain ⟨q18, hq18, h⟩ := bd_some h
    refine G_callV X (As := []) (rest := []) (T' := rs T 9 q18) (st2 := []) (ct_X7_laysAside (l := g.2.1) (κ := gκ g)   hq18) cal_X7_laysAside wM_X7_242 wI_X7_laysAside wS_X7_laysAside rfl rfl (by decide) rfl rfl (Nat.le_of_ble_eq_true rfl) ⟨Nat.zero_le _, Nat.zero_le _⟩ dX7_runScript_92 rfl ?_
    refine G_aload_n X 0 dX7_runScript_95 rfl rfl ?_
    obtain ⟨q19, hq19, h⟩ := bd_some h
    refine G_callV X (As := []) (rest := []) (T' := rs T 9 q19.1) (st2 := [.int q19.2]) (ct_X7_doesAll (l := g.2.1) (κ := gκ g)   hq19) cal_X7_doesAll wM_X7_490 wI_X7_doesAll wS_X7_doesAll rfl rfl (by decide) rfl rfl (Nat.le_of_ble_eq_true rfl) ⟨Nat.zero_le _, Nat.zero_le _⟩ dX7_runScript_96 rfl ?_
    refine G_istore_n X (lv' := [(1, .int q19.2), (0, .ref (xE (gκ g) 9 0 0))]) dX7_runScript_99 rfl (by decide) rfl ?_
    refine G_aload_n X 1 dX7_runScript_100 rfl rfl ?_
    obtain ⟨q20, hq20, h⟩ := bd_some h
    refine G_callV X (As := []) (rest := []) (T' := rs T 9 q20) (st2 := []) (ct_X7_keeps (l := g.2.1) (κ := gκ g)   hq20) cal_X7_keeps wM_X7_159 wI_X7_keeps wS_X7_keeps rfl rfl (by decide) rfl rfl (Nat.le_of_ble_eq_true rfl) ⟨Nat.zero_le _, Nat.zero_le _⟩ dX7_runScript_101 rfl ?_
    refine G_iload_n X 0 dX7_runScript_104 rfl rfl ?_
    obtain rfl := Option.some.inj h
    exact hf _ _ dX7_runScript_105 rfl
  · have h := it_f (fun k => k c17) h
    refine G_iconst X (v := (0 : Int32)) dX7_runScript_89 (by decide) ?_
    obtain rfl := Option.some.inj h
    exact hf _ _ dX7_runScript_90 rfl
set_option maxRecDepth 20000 in
theorem gX7_runScript_b63 {g : GX} {T : TT}  {m : St}  {res : St × Int32}  (X : CX g RX7 cX7_runScript 2 11 247)  (hf : FinI g cX7_runScript .int (rs T 9 res.1) (res.2))   (h : sX7_runScript_b63  m = some res) : G g 0 0 (rs T 9 m) 63 [(0, .ref (xE (gκ g) 9 0 0))] [] := by
  unfold sX7_runScript_b63 at h
  refine G_aload_n X 0 dX7_runScript_63 rfl rfl ?_
  obtain ⟨q11, hq11, h⟩ := bd_some h
  refine G_callV X (As := []) (rest := []) (T' := rs T 9 m) (st2 := [.int q11]) (ct_X7_isGood (l := g.2.1) (κ := gκ g)   hq11) cal_X7_isGood wM_X7_121 wI_X7_isGood wS_X7_isGood rfl rfl (by decide) rfl rfl (Nat.le_of_ble_eq_true rfl) ⟨Nat.zero_le _, Nat.zero_le _⟩ dX7_runScript_64 rfl ?_
  refine G_if_eq X (tgt := 82) dX7_runScript_67 (by decide) (fun c12 => ?_) (fun c12 => ?_)
  · have h := it_t c12 h
    exact gX7_runScript_b82 X hf h
  · have h := it_f c12 h
    refine G_aload_n X 0 dX7_runScript_70 rfl rfl ?_
    refine f_X7_472 X rfl (rg_rs _ _ _) dX7_runScript_71 ?_
    refine G_if_le X (tgt := 82) dX7_runScript_74 (by decide) (fun c13 => ?_) (fun c13 => ?_)
    · have h := it_t c13 h
      exact gX7_runScript_b82 X hf h
    · have h := it_f c13 h
      refine G_aload_n X 0 dX7_runScript_77 rfl rfl ?_
      refine G_iconst X (v := (1 : Int32)) dX7_runScript_78 (by decide) ?_
      obtain ⟨q14, hq14, h⟩ := bd_some h
      refine G_callV X (As := [.int ((1 : Int32))]) (rest := []) (T' := rs T 9 q14) (st2 := []) (ct_X7_wrong (l := g.2.1) (κ := gκ g)   hq14) cal_X7_wrong wM_X7_128 wI_X7_wrong wS_X7_wrong rfl rfl (by decide) rfl rfl (Nat.le_of_ble_eq_true rfl) ⟨Nat.zero_le _, Nat.zero_le _⟩ dX7_runScript_79 rfl ?_
      exact gX7_runScript_b82 X hf h
set_option maxRecDepth 20000 in
theorem gX7_runScript_b56 {g : GX} {T : TT}  {m : St}  {res : St × Int32} {k19 : St → Option (St × Int32)} (X : CX g RX7 cX7_runScript 2 11 247)  (hf : FinI g cX7_runScript .int (rs T 9 res.1) (res.2)) (hk19 : ∀ (m' : St), k19 m' = some res → G g 0 0 (rs T 9 m') 19 [(0, .ref (xE (gκ g) 9 0 0))] [])  (h : sX7_runScript_b56 k19 m = some res) : G g 0 0 (rs T 9 m) 56 [(0, .ref (xE (gκ g) 9 0 0))] [] := by
  unfold sX7_runScript_b56 at h
  refine G_aload_n X 0 dX7_runScript_56 rfl rfl ?_
  obtain ⟨q15, hq15, h⟩ := bd_some h
  refine G_callV X (As := []) (rest := []) (T' := rs T 9 q15) (st2 := []) (ct_X7_closes (l := g.2.1) (κ := gκ g)   hq15) cal_X7_closes wM_X7_487 wI_X7_closes wS_X7_closes rfl rfl (by decide) rfl rfl (Nat.le_of_ble_eq_true rfl) ⟨Nat.zero_le _, Nat.zero_le _⟩ dX7_runScript_57 rfl ?_
  refine G_goto X (tgt := 19) dX7_runScript_60 (by decide) ?_
  exact hk19 _ h
set_option maxRecDepth 20000 in
theorem gX7_runScript_b19 {g : GX} {T : TT}   {res : St × Int32}  (X : CX g RX7 cX7_runScript 2 11 247)  (hf : FinI g cX7_runScript .int (rs T 9 res.1) (res.2))  : ∀ (n : Nat) (m : St) (h : sX7_runScript_b19 n  m = some res), G g 0 0 (rs T 9 m) 19 [(0, .ref (xE (gκ g) 9 0 0))] [] := by
  intro n
  induction n with
  | zero => intro m h; unfold sX7_runScript_b19 at h; cases h
  | succ n ih =>
    intro m h
    unfold sX7_runScript_b19 at h
    refine G_aload_n X 0 dX7_runScript_19 rfl rfl ?_
    obtain ⟨q5, hq5, h⟩ := bd_some h
    refine G_callV X (As := []) (rest := []) (T' := rs T 9 m) (st2 := [.int q5]) (ct_X7_isGood (l := g.2.1) (κ := gκ g)   hq5) cal_X7_isGood wM_X7_121 wI_X7_isGood wS_X7_isGood rfl rfl (by decide) rfl rfl (Nat.le_of_ble_eq_true rfl) ⟨Nat.zero_le _, Nat.zero_le _⟩ dX7_runScript_20 rfl ?_
    refine G_if_eq X (tgt := 63) dX7_runScript_23 (by decide) (fun c6 => ?_) (fun c6 => ?_)
    · have h := it_t c6 h
      exact gX7_runScript_b63 X hf h
    · have h := it_f c6 h
      refine G_aload_n X 0 dX7_runScript_26 rfl rfl ?_
      refine f_X7_108 X rfl (rg_rs _ _ _) dX7_runScript_27 ?_
      refine G_if_eq X (tgt := 63) dX7_runScript_30 (by decide) (fun c7 => ?_) (fun c7 => ?_)
      · have h := it_t c7 h
        exact gX7_runScript_b63 X hf h
      · have h := it_f c7 h
        refine G_aload_n X 0 dX7_runScript_33 rfl rfl ?_
        refine f_X7_472 X rfl (rg_rs _ _ _) dX7_runScript_34 ?_
        refine G_istore_n X (lv' := [(1, .int (gI m 0 0 31)), (0, .ref (xE (gκ g) 9 0 0))]) dX7_runScript_37 rfl (by decide) rfl ?_
        refine G_aload_n X 1 dX7_runScript_38 rfl rfl ?_
        obtain ⟨q8, hq8, h⟩ := bd_some h
        refine G_callV X (As := []) (rest := []) (T' := rs T 9 q8) (st2 := []) (ct_X7_command (l := g.2.1) (κ := gκ g)   hq8) cal_X7_command wM_X7_484 wI_X7_command wS_X7_command rfl rfl (by decide) rfl rfl (Nat.le_of_ble_eq_true rfl) ⟨Nat.zero_le _, Nat.zero_le _⟩ dX7_runScript_39 rfl ?_
        refine G_aload_n X 1 dX7_runScript_42 rfl rfl ?_
        refine f_X7_472 X rfl (rg_rs _ _ _) dX7_runScript_43 ?_
        refine G_iload_n X 0 dX7_runScript_46 rfl rfl ?_
        refine G_icmp_ne X (tgt := 56) dX7_runScript_47 (by decide) (fun c9 => ?_) (fun c9 => ?_)
        · have h := it_t c9 h
          refine G_sub [1] rfl ?_
          exact gX7_runScript_b56 X hf (fun _ h => ih _ h) h
        · have h := it_f (fun k => k c9) h
          refine G_aload_n X 1 dX7_runScript_50 rfl rfl ?_
          refine G_bipush X (v := (59 : Int32)) dX7_runScript_51 (by decide) ?_
          obtain ⟨q10, hq10, h⟩ := bd_some h
          refine G_callV X (As := [.int ((59 : Int32))]) (rest := []) (T' := rs T 9 q10) (st2 := []) (ct_X7_mustSign (l := g.2.1) (κ := gκ g)   hq10) cal_X7_mustSign wM_X7_236 wI_X7_mustSign wS_X7_mustSign rfl rfl (by decide) rfl rfl (Nat.le_of_ble_eq_true rfl) ⟨Nat.zero_le _, Nat.zero_le _⟩ dX7_runScript_53 rfl ?_
          refine G_sub [1] rfl ?_
          exact gX7_runScript_b56 X hf (fun _ h => ih _ h) h
set_option maxRecDepth 20000 in
theorem gX7_runScript {g : GX} {T : TT}  {m : St}  {res : St × Int32} (X : CX g RX7 cX7_runScript 2 11 247)  (hf : FinI g cX7_runScript .int (rs T 9 res.1) (res.2)) (h : sX7_runScript m = some res) : G g 0 0 (rs T 9 m) 0 [(0, .ref (xE (gκ g) 9 0 0))] [] := by
  unfold sX7_runScript at h
  refine G_aload_n X 0 dX7_runScript_0 rfl rfl ?_
  obtain ⟨q1, hq1, h⟩ := bd_some h
  refine G_callV X (As := []) (rest := []) (T' := rs T 9 q1) (st2 := []) (ct_X7_beginsText (l := g.2.1) (κ := gκ g)   hq1) cal_X7_beginsText wM_X7_239 wI_X7_beginsText wS_X7_beginsText rfl rfl (by decide) rfl rfl (Nat.le_of_ble_eq_true rfl) ⟨Nat.zero_le _, Nat.zero_le _⟩ dX7_runScript_1 rfl ?_
  refine G_aload_n X 0 dX7_runScript_4 rfl rfl ?_
  refine G_iconst X (v := (0 : Int32)) dX7_runScript_5 (by decide) ?_
  obtain ⟨x2, ex2, h⟩ := nm_some h
  refine p_X7_478 X (T' := rs T 9 x2) rfl (rg_rs _ _ _)  (by rw [rs_rs, ex2]) dX7_runScript_6 ?_
  refine G_aload_n X 0 dX7_runScript_9 rfl rfl ?_
  refine G_iconst X (v := (0 : Int32)) dX7_runScript_10 (by decide) ?_
  obtain ⟨x3, ex3, h⟩ := nm_some h
  refine p_X7_475 X (T' := rs T 9 x3) rfl (rg_rs _ _ _)  (by rw [rs_rs, ex3]) dX7_runScript_11 ?_
  refine G_aload_n X 0 dX7_runScript_14 rfl rfl ?_
  refine G_iconst X (v := (0 : Int32)) dX7_runScript_15 (by decide) ?_
  obtain ⟨x4, ex4, h⟩ := nm_some h
  refine p_X7_472 X (T' := rs T 9 x4) rfl (rg_rs _ _ _)  (by rw [rs_rs, ex4]) dX7_runScript_16 ?_
  exact gX7_runScript_b19 X hf FU _ h
set_option maxRecDepth 20000 in
theorem ct_X7_runScript {l : Launch} {κ : KX} {T : TT}  {m : St}  {res : St × Int32}  (h : sX7_runScript m = some res) : Ct l κ yX7_runScript cX7_runScript 2 (some .int) 11 247 [.ref (xE κ 9 0 0)] (rs T 9 m) (rs T 9 res.1) (some (.int (res.2))) := by
  refine Ct_i RX7 rfl (by decide +kernel) (Nat.le_of_ble_eq_true rfl) (fun g hl hκ X hf => ?_)
  subst hl; subst hκ
  exact gX7_runScript X  hf h
set_option maxRecDepth 20000 in
theorem gX7_tell {g : GX} {T : TT}  {m : St} {a1 : Int32} {res : St} (X : CX g RX7 cX7_tell 2 0 0)  (hf : FinV g cX7_tell (rs T 9 res)) (h : sX7_tell m a1 = some res) : G g 0 0 (rs T 9 m) 0 [(0, .ref (xE (gκ g) 9 0 0)), (1, .int a1)] [] := by
  unfold sX7_tell at h
  refine G_aload_n X 0 dX7_tell_0 rfl rfl ?_
  refine f_X7_60 X rfl rfl dX7_tell_1 ?_
  refine G_aload_n X 0 dX7_tell_4 rfl rfl ?_
  refine f_X7_499 X rfl (rg_rs _ _ _) dX7_tell_5 ?_
  refine G_iload_n X 1 dX7_tell_8 rfl rfl ?_
  obtain ⟨g1, h⟩ := gd_some h
  obtain ⟨x2, ex2, h⟩ := nm_some h
  refine G_iast X (T' := rs T 9 x2) rfl (rg_rs _ _ _) g1 (by rw [rs_rs, ex2]) dX7_tell_9 ?_
  refine G_aload_n X 0 dX7_tell_10 rfl rfl ?_
  refine G_dup X dX7_tell_11 rfl ?_
  refine f_X7_499 X rfl (rg_rs _ _ _) dX7_tell_12 ?_
  refine G_iconst X (v := (1 : Int32)) dX7_tell_15 (by decide) ?_
  refine G_iadd X dX7_tell_16 ?_
  obtain ⟨x3, ex3, h⟩ := nm_some h
  refine p_X7_499 X (T' := rs T 9 x3) rfl (rg_rs _ _ _)  (by rw [rs_rs, ex3]) dX7_tell_17 ?_
  obtain rfl := Option.some.inj h
  exact hf _ _ dX7_tell_20
set_option maxRecDepth 20000 in
theorem ct_X7_tell {l : Launch} {κ : KX} {T : TT}  {m : St} {a1 : Int32} {res : St}  (h : sX7_tell m a1 = some res) : Ct l κ yX7_tell cX7_tell 2 none 0 0 [.ref (xE κ 9 0 0), .int a1] (rs T 9 m) (rs T 9 res) none := by
  refine Ct_v RX7 rfl (by decide +kernel) (Nat.le_of_ble_eq_true rfl) (fun g hl hκ X hf => ?_)
  subst hl; subst hκ
  exact gX7_tell X  hf h
set_option maxRecDepth 20000 in
theorem gX7_tellNumber_b20 {g : GX} {T : TT}   {res : St}  (X : CX g RX7 cX7_tellNumber 4 1 21)  (hf : FinV g cX7_tellNumber (rs T 9 res))  : ∀ (n : Nat) (m : St) (a1 : Int32) (a3 : Int32) (h : sX7_tellNumber_b20 n  m a1 a3 = some res), G g 0 0 (rs T 9 m) 20 [(0, .ref (xE (gκ g) 9 0 0)), (1, .int a1), (3, .int a3)] [] := by
  intro n
  induction n with
  | zero => intro m a1 a3 h; unfold sX7_tellNumber_b20 at h; cases h
  | succ n ih =>
    intro m a1 a3 h
    unfold sX7_tellNumber_b20 at h
    refine G_iload_n X 2 dX7_tellNumber_20 rfl rfl ?_
    refine G_if_le X (tgt := 45) dX7_tellNumber_21 (by decide) (fun c3 => ?_) (fun c3 => ?_)
    · have h := it_t c3 h
      obtain rfl := Option.some.inj h
      exact hf _ _ dX7_tellNumber_45
    · have h := it_f c3 h
      refine G_aload_n X 0 dX7_tellNumber_24 rfl rfl ?_
      refine G_bipush X (v := (48 : Int32)) dX7_tellNumber_25 (by decide) ?_
      refine G_iload_n X 1 dX7_tellNumber_27 rfl rfl ?_
      refine G_iload_n X 2 dX7_tellNumber_28 rfl rfl ?_
      obtain ⟨g4, h⟩ := gd_some h
      refine G_idiv X dX7_tellNumber_29 (nz_ne g4) ?_
      refine G_bipush X (v := (10 : Int32)) dX7_tellNumber_30 (by decide) ?_
      refine G_irem X dX7_tellNumber_32 (by decide) ?_
      refine G_iadd X dX7_tellNumber_33 ?_
      obtain ⟨q5, hq5, h⟩ := bd_some h
      refine G_callV X (As := [.int (((48 : Int32)) + ((a1 / a3) - (a1 / a3) / ((10 : Int32)) * ((10 : Int32))))]) (rest := []) (T' := rs T 9 q5) (st2 := []) (ct_X7_tell (l := g.2.1) (κ := gκ g)   hq5) cal_X7_tell wM_X7_502 wI_X7_tell wS_X7_tell rfl rfl (by decide) rfl rfl (Nat.le_of_ble_eq_true rfl) ⟨Nat.zero_le _, Nat.zero_le _⟩ dX7_tellNumber_34 rfl ?_
      refine G_iload_n X 2 dX7_tellNumber_37 rfl rfl ?_
      refine G_bipush X (v := (10 : Int32)) dX7_tellNumber_38 (by decide) ?_
      refine G_idiv X dX7_tellNumber_40 (by decide) ?_
      refine G_istore_n X (lv' := [(3, .int (a3 / ((10 : Int32)))), (0, .ref (xE (gκ g) 9 0 0)), (1, .int a1)]) dX7_tellNumber_41 rfl (by decide) rfl ?_
      refine G_goto X (tgt := 20) dX7_tellNumber_42 (by decide) ?_
      refine G_sub [1, 2, 0] rfl ?_
      exact ih _ _ _ h
set_option maxRecDepth 20000 in
theorem gX7_tellNumber_b2 {g : GX} {T : TT}   {res : St}  (X : CX g RX7 cX7_tellNumber 4 1 21)  (hf : FinV g cX7_tellNumber (rs T 9 res))  : ∀ (n : Nat) (m : St) (a1 : Int32) (a2 : Int32) (h : sX7_tellNumber_b2 n  m a1 a2 = some res), G g 0 0 (rs T 9 m) 2 [(0, .ref (xE (gκ g) 9 0 0)), (1, .int a1), (2, .int a2)] [] := by
  intro n
  induction n with
  | zero => intro m a1 a2 h; unfold sX7_tellNumber_b2 at h; cases h
  | succ n ih =>
    intro m a1 a2 h
    unfold sX7_tellNumber_b2 at h
    refine G_iload_n X 1 dX7_tellNumber_2 rfl rfl ?_
    refine G_iload_n X 2 dX7_tellNumber_3 rfl rfl ?_
    obtain ⟨g1, h⟩ := gd_some h
    refine G_idiv X dX7_tellNumber_4 (nz_ne g1) ?_
    refine G_bipush X (v := (9 : Int32)) dX7_tellNumber_5 (by decide) ?_
    refine G_icmp_le X (tgt := 18) dX7_tellNumber_7 (by decide) (fun c2 => ?_) (fun c2 => ?_)
    · have h := it_t c2 h
      refine G_iload_n X 2 dX7_tellNumber_18 rfl rfl ?_
      refine G_istore_n X (lv' := [(3, .int a2), (0, .ref (xE (gκ g) 9 0 0)), (1, .int a1), (2, .int a2)]) dX7_tellNumber_19 rfl (by decide) rfl ?_
      refine G_sub [1, 2, 0] rfl ?_
      exact gX7_tellNumber_b20 X hf FU _ _ _ h
    · have h := it_f c2 h
      refine G_iload_n X 2 dX7_tellNumber_10 rfl rfl ?_
      refine G_bipush X (v := (10 : Int32)) dX7_tellNumber_11 (by decide) ?_
      refine G_imul X dX7_tellNumber_13 ?_
      refine G_istore_n X (lv' := [(2, .int (a2 * ((10 : Int32)))), (0, .ref (xE (gκ g) 9 0 0)), (1, .int a1)]) dX7_tellNumber_14 rfl (by decide) rfl ?_
      refine G_goto X (tgt := 2) dX7_tellNumber_15 (by decide) ?_
      refine G_sub [1, 2, 0] rfl ?_
      exact ih _ _ _ h
set_option maxRecDepth 20000 in
theorem gX7_tellNumber {g : GX} {T : TT}  {m : St} {a1 : Int32} {res : St} (X : CX g RX7 cX7_tellNumber 4 1 21)  (hf : FinV g cX7_tellNumber (rs T 9 res)) (h : sX7_tellNumber m a1 = some res) : G g 0 0 (rs T 9 m) 0 [(0, .ref (xE (gκ g) 9 0 0)), (1, .int a1)] [] := by
  unfold sX7_tellNumber at h
  refine G_iconst X (v := (1 : Int32)) dX7_tellNumber_0 (by decide) ?_
  refine G_istore_n X (lv' := [(2, .int ((1 : Int32))), (0, .ref (xE (gκ g) 9 0 0)), (1, .int a1)]) dX7_tellNumber_1 rfl (by decide) rfl ?_
  refine G_sub [1, 2, 0] rfl ?_
  exact gX7_tellNumber_b2 X hf FU _ _ _ h
set_option maxRecDepth 20000 in
theorem ct_X7_tellNumber {l : Launch} {κ : KX} {T : TT}  {m : St} {a1 : Int32} {res : St}  (h : sX7_tellNumber m a1 = some res) : Ct l κ yX7_tellNumber cX7_tellNumber 4 none 1 21 [.ref (xE κ 9 0 0), .int a1] (rs T 9 m) (rs T 9 res) none := by
  refine Ct_v RX7 rfl (by decide +kernel) (Nat.le_of_ble_eq_true rfl) (fun g hl hκ X hf => ?_)
  subst hl; subst hκ
  exact gX7_tellNumber X  hf h
set_option maxRecDepth 20000 in
theorem gX7_tellName_b2 {g : GX} {T : TT}   {res : St}  (X : CX g RX7 cX7_tellName 4 2 48)  (hf : FinV g cX7_tellName (rs T 9 res))  : ∀ (n : Nat) (m : St) (a1 : Int64) (a3 : Int32) (h : sX7_tellName_b2 n  m a1 a3 = some res), G g 0 0 (rs T 9 m) 2 [(0, .ref (xE (gκ g) 9 0 0)), (1, .long a1), (3, .int a3)] [] := by
  intro n
  induction n with
  | zero => intro m a1 a3 h; unfold sX7_tellName_b2 at h; cases h
  | succ n ih =>
    intro m a1 a3 h
    unfold sX7_tellName_b2 at h
    refine G_iload_n X 2 dX7_tellName_2 rfl rfl ?_
    refine G_lload_n X 1 dX7_tellName_3 rfl rfl ?_
    obtain ⟨q1, hq1, h⟩ := bd_some h
    refine G_callS X (As := [.long a1]) (rest := [.int a3]) (T' := rs T 9 m) (st2 := [.int q1, .int a3]) (ct_X7_lettersOf (l := g.2.1) (κ := gκ g)   hq1) cal_X7_lettersOf wM_X7_360 wT_X7_lettersOf (by decide) rfl rfl (Nat.le_of_ble_eq_true rfl) ⟨Nat.zero_le _, Nat.zero_le _⟩ dX7_tellName_4 rfl ?_
    refine G_icmp_ge X (tgt := 25) dX7_tellName_7 (by decide) (fun c2 => ?_) (fun c2 => ?_)
    · have h := it_t c2 h
      obtain rfl := Option.some.inj h
      exact hf _ _ dX7_tellName_25
    · have h := it_f c2 h
      refine G_aload_n X 0 dX7_tellName_10 rfl rfl ?_
      refine G_lload_n X 1 dX7_tellName_11 rfl rfl ?_
      refine G_iload_n X 2 dX7_tellName_12 rfl rfl ?_
      obtain ⟨q3, hq3, h⟩ := bd_some h
      refine G_callS X (As := [.long a1, .int a3]) (rest := [.ref (xE (gκ g) 9 0 0)]) (T' := rs T 9 m) (st2 := [.int q3, .ref (xE (gκ g) 9 0 0)]) (ct_X7_letterOf (l := g.2.1) (κ := gκ g)   hq3) cal_X7_letterOf wM_X7_366 wT_X7_letterOf (by decide) rfl rfl (Nat.le_of_ble_eq_true rfl) ⟨Nat.zero_le _, Nat.zero_le _⟩ dX7_tellName_13 rfl ?_
      obtain ⟨q4, hq4, h⟩ := bd_some h
      refine G_callV X (As := [.int q3]) (rest := []) (T' := rs T 9 q4) (st2 := []) (ct_X7_tell (l := g.2.1) (κ := gκ g)   hq4) cal_X7_tell wM_X7_502 wI_X7_tell wS_X7_tell rfl rfl (by decide) rfl rfl (Nat.le_of_ble_eq_true rfl) ⟨Nat.zero_le _, Nat.zero_le _⟩ dX7_tellName_16 rfl ?_
      obtain ⟨v5, ev5, h⟩ := nm_some h
      refine G_iinc X (v := v5) (lv' := [(3, .int v5), (0, .ref (xE (gκ g) 9 0 0)), (1, .long a1)]) 2 dX7_tellName_19 rfl (by rw [ev5]; rfl) (by decide) rfl ?_
      refine G_goto X (tgt := 2) dX7_tellName_22 (by decide) ?_
      refine G_sub [1, 2, 0] rfl ?_
      exact ih _ _ _ h
set_option maxRecDepth 20000 in
theorem gX7_tellName {g : GX} {T : TT}  {m : St} {a1 : Int64} {res : St} (X : CX g RX7 cX7_tellName 4 2 48)  (hf : FinV g cX7_tellName (rs T 9 res)) (h : sX7_tellName m a1 = some res) : G g 0 0 (rs T 9 m) 0 [(0, .ref (xE (gκ g) 9 0 0)), (1, .long a1)] [] := by
  unfold sX7_tellName at h
  refine G_iconst X (v := (0 : Int32)) dX7_tellName_0 (by decide) ?_
  refine G_istore_n X (lv' := [(3, .int ((0 : Int32))), (0, .ref (xE (gκ g) 9 0 0)), (1, .long a1)]) dX7_tellName_1 rfl (by decide) rfl ?_
  refine G_sub [1, 2, 0] rfl ?_
  exact gX7_tellName_b2 X hf FU _ _ _ h
set_option maxRecDepth 20000 in
theorem ct_X7_tellName {l : Launch} {κ : KX} {T : TT}  {m : St} {a1 : Int64} {res : St}  (h : sX7_tellName m a1 = some res) : Ct l κ yX7_tellName cX7_tellName 4 none 2 48 [.ref (xE κ 9 0 0), .long a1] (rs T 9 m) (rs T 9 res) none := by
  refine Ct_v RX7 rfl (by decide +kernel) (Nat.le_of_ble_eq_true rfl) (fun g hl hκ X hf => ?_)
  subst hl; subst hκ
  exact gX7_tellName X  hf h
set_option maxRecDepth 20000 in
theorem gX7_wordOf {g : GX} {T : TT}  {m : St} {a1 : Int32} {res : Int64} (X : CX g RX7 cX7_wordOf 2 0 0)  (hf : FinL g cX7_wordOf (rs T 9 m) res) (h : sX7_wordOf a1 = some res) : G g 0 0 (rs T 9 m) 0 [(0, .ref (xE (gκ g) 9 0 0)), (1, .int a1)] [] := by
  unfold sX7_wordOf at h
  refine G_iload_n X 1 dX7_wordOf_0 rfl rfl ?_
  by_cases c1 : a1 = (0 : Int32)
  · have h := it_t c1 h
    rw [c1]
    refine G_tabIn X (off := 31) (tgt := 32) dX7_wordOf_1 (by decide) (by decide) (by decide) (by decide) ?_
    refine G_ldc2_w X (v := (650286611 : Int64)) dX7_wordOf_32 wK_X7_505 ?_
    obtain rfl := Option.some.inj h
    exact hf _ _ dX7_wordOf_35
  have h := it_f c1 h
  by_cases c2 : a1 = (1 : Int32)
  · have h := it_t c2 h
    rw [c2]
    refine G_tabIn X (off := 35) (tgt := 36) dX7_wordOf_1 (by decide) (by decide) (by decide) (by decide) ?_
    refine G_ldc2_w X (v := (13207475667 : Int64)) dX7_wordOf_36 wK_X7_199 ?_
    obtain rfl := Option.some.inj h
    exact hf _ _ dX7_wordOf_39
  have h := it_f c2 h
  by_cases c3 : a1 = (2 : Int32)
  · have h := it_t c3 h
    rw [c3]
    refine G_tabIn X (off := 39) (tgt := 40) dX7_wordOf_1 (by decide) (by decide) (by decide) (by decide) ?_
    refine G_ldc2_w X (v := (24159891 : Int64)) dX7_wordOf_40 wK_X7_507 ?_
    obtain rfl := Option.some.inj h
    exact hf _ _ dX7_wordOf_43
  have h := it_f c3 h
  by_cases c4 : a1 = (3 : Int32)
  · have h := it_t c4 h
    rw [c4]
    refine G_tabIn X (off := 43) (tgt := 44) dX7_wordOf_1 (by decide) (by decide) (by decide) (by decide) ?_
    refine G_ldc2_w X (v := (20101267 : Int64)) dX7_wordOf_44 wK_X7_201 ?_
    obtain rfl := Option.some.inj h
    exact hf _ _ dX7_wordOf_47
  have h := it_f c4 h
  refine G_tabOut X (tgt := 48) dX7_wordOf_1 (sw_out 0 3 [(0 : Int32), (1 : Int32), (2 : Int32), (3 : Int32)] (by decide) (by simp [c1, c2, c3, c4])) (by decide) ?_
  refine G_ldc2_w X (v := (16052 : Int64)) dX7_wordOf_48 wK_X7_509 ?_
  obtain rfl := Option.some.inj h
  exact hf _ _ dX7_wordOf_51
set_option maxRecDepth 20000 in
theorem ct_X7_wordOf {l : Launch} {κ : KX} {T : TT}  {m : St} {a1 : Int32} {res : Int64}  (h : sX7_wordOf a1 = some res) : Ct l κ yX7_wordOf cX7_wordOf 2 (some .long) 0 0 [.ref (xE κ 9 0 0), .int a1] (rs T 9 m) (rs T 9 m) (some (.long (res))) := by
  refine Ct_l RX7 rfl (by decide +kernel) (Nat.le_of_ble_eq_true rfl) (fun g hl hκ X hf => ?_)
  subst hl; subst hκ
  exact gX7_wordOf X  hf h
set_option maxRecDepth 20000 in
theorem gX7_tellBeacon_b65 {g : GX} {T : TT}   {res : St}  (X : CX g RX7 cX7_tellBeacon 3 3 71)  (hf : FinV g cX7_tellBeacon (rs T 9 res))  : ∀ (n : Nat) (m : St) (a1 : Int32) (a2 : Int32) (h : sX7_tellBeacon_b65 n  m a1 a2 = some res), G g 0 0 (rs T 9 m) 65 [(0, .ref (xE (gκ g) 9 0 0)), (1, .int a1), (2, .int a2)] [] := by
  intro n
  induction n with
  | zero => intro m a1 a2 h; unfold sX7_tellBeacon_b65 at h; cases h
  | succ n ih =>
    intro m a1 a2 h
    unfold sX7_tellBeacon_b65 at h
    refine G_iload_n X 2 dX7_tellBeacon_65 rfl rfl ?_
    refine G_aload_n X 0 dX7_tellBeacon_66 rfl rfl ?_
    refine f_X7_20 X rfl rfl dX7_tellBeacon_67 ?_
    refine G_iconst X (v := (0 : Int32)) dX7_tellBeacon_70 (by decide) ?_
    obtain ⟨g13, h⟩ := gd_some h
    refine G_iald X rfl (rg_rs _ _ _) g13 dX7_tellBeacon_71 ?_
    refine G_icmp_ge X (tgt := 115) dX7_tellBeacon_72 (by decide) (fun c14 => ?_) (fun c14 => ?_)
    · have h := it_t c14 h
      refine G_aload_n X 0 dX7_tellBeacon_115 rfl rfl ?_
      refine G_bipush X (v := (10 : Int32)) dX7_tellBeacon_116 (by decide) ?_
      obtain ⟨q15, hq15, h⟩ := bd_some h
      refine G_callV X (As := [.int ((10 : Int32))]) (rest := []) (T' := rs T 9 q15) (st2 := []) (ct_X7_tell (l := g.2.1) (κ := gκ g)   hq15) cal_X7_tell wM_X7_502 wI_X7_tell wS_X7_tell rfl rfl (by decide) rfl rfl (Nat.le_of_ble_eq_true rfl) ⟨Nat.zero_le _, Nat.zero_le _⟩ dX7_tellBeacon_118 rfl ?_
      obtain rfl := Option.some.inj h
      exact hf _ _ dX7_tellBeacon_121
    · have h := it_f c14 h
      refine G_aload_n X 0 dX7_tellBeacon_75 rfl rfl ?_
      refine G_iload_n X 1 dX7_tellBeacon_76 rfl rfl ?_
      refine G_iload_n X 2 dX7_tellBeacon_77 rfl rfl ?_
      obtain ⟨q16, hq16, h⟩ := bd_some h
      refine G_callV X (As := [.int a1, .int a2]) (rest := []) (T' := rs T 9 m) (st2 := [.int q16]) (ct_X7_isKnown (l := g.2.1) (κ := gκ g)   hq16) cal_X7_isKnown wM_X7_254 wI_X7_isKnown wS_X7_isKnown rfl rfl (by decide) rfl rfl (Nat.le_of_ble_eq_true rfl) ⟨Nat.zero_le _, Nat.zero_le _⟩ dX7_tellBeacon_78 rfl ?_
      refine G_if_ne X (tgt := 87) dX7_tellBeacon_81 (by decide) (fun c17 => ?_) (fun c17 => ?_)
      · have h := it_t c17 h
        refine G_aload_n X 0 dX7_tellBeacon_87 rfl rfl ?_
        refine G_bipush X (v := (32 : Int32)) dX7_tellBeacon_88 (by decide) ?_
        obtain ⟨q18, hq18, h⟩ := bd_some h
        refine G_callV X (As := [.int ((32 : Int32))]) (rest := []) (T' := rs T 9 q18) (st2 := []) (ct_X7_tell (l := g.2.1) (κ := gκ g)   hq18) cal_X7_tell wM_X7_502 wI_X7_tell wS_X7_tell rfl rfl (by decide) rfl rfl (Nat.le_of_ble_eq_true rfl) ⟨Nat.zero_le _, Nat.zero_le _⟩ dX7_tellBeacon_90 rfl ?_
        refine G_aload_n X 0 dX7_tellBeacon_93 rfl rfl ?_
        refine G_bipush X (v := (43 : Int32)) dX7_tellBeacon_94 (by decide) ?_
        obtain ⟨q19, hq19, h⟩ := bd_some h
        refine G_callV X (As := [.int ((43 : Int32))]) (rest := []) (T' := rs T 9 q19) (st2 := []) (ct_X7_tell (l := g.2.1) (κ := gκ g)   hq19) cal_X7_tell wM_X7_502 wI_X7_tell wS_X7_tell rfl rfl (by decide) rfl rfl (Nat.le_of_ble_eq_true rfl) ⟨Nat.zero_le _, Nat.zero_le _⟩ dX7_tellBeacon_96 rfl ?_
        refine G_aload_n X 0 dX7_tellBeacon_99 rfl rfl ?_
        refine G_aload_n X 0 dX7_tellBeacon_100 rfl rfl ?_
        refine f_X7_35 X rfl rfl dX7_tellBeacon_101 ?_
        refine G_iload_n X 2 dX7_tellBeacon_104 rfl rfl ?_
        obtain ⟨g20, h⟩ := gd_some h
        refine G_lald X rfl (rg_rs _ _ _) g20 dX7_tellBeacon_105 ?_
        obtain ⟨q21, hq21, h⟩ := bd_some h
        refine G_callV X (As := [.long (gL q19 0 7 (ix a2))]) (rest := []) (T' := rs T 9 q21) (st2 := []) (ct_X7_tellName (l := g.2.1) (κ := gκ g)   hq21) cal_X7_tellName wM_X7_511 wI_X7_tellName wS_X7_tellName rfl rfl (by decide) rfl rfl (Nat.le_of_ble_eq_true rfl) ⟨Nat.zero_le _, Nat.zero_le _⟩ dX7_tellBeacon_106 rfl ?_
        obtain ⟨v22, ev22, h⟩ := nm_some h
        refine G_iinc X (v := v22) (lv' := [(2, .int v22), (0, .ref (xE (gκ g) 9 0 0)), (1, .int a1)]) 2 dX7_tellBeacon_109 rfl (by rw [ev22]; rfl) (by decide) rfl ?_
        refine G_goto X (tgt := 65) dX7_tellBeacon_112 (by decide) ?_
        refine G_sub [1, 2, 0] rfl ?_
        exact ih _ _ _ h
      · have h := it_f (fun k => k c17) h
        refine G_goto X (tgt := 109) dX7_tellBeacon_84 (by decide) ?_
        obtain ⟨v23, ev23, h⟩ := nm_some h
        refine G_iinc X (v := v23) (lv' := [(2, .int v23), (0, .ref (xE (gκ g) 9 0 0)), (1, .int a1)]) 2 dX7_tellBeacon_109 rfl (by rw [ev23]; rfl) (by decide) rfl ?_
        refine G_goto X (tgt := 65) dX7_tellBeacon_112 (by decide) ?_
        refine G_sub [1, 2, 0] rfl ?_
        exact ih _ _ _ h
set_option maxRecDepth 20000 in
theorem gX7_tellBeacon {g : GX} {T : TT}  {m : St} {a1 : Int32} {res : St} (X : CX g RX7 cX7_tellBeacon 3 3 71)  (hf : FinV g cX7_tellBeacon (rs T 9 res)) (h : sX7_tellBeacon m a1 = some res) : G g 0 0 (rs T 9 m) 0 [(0, .ref (xE (gκ g) 9 0 0)), (1, .int a1)] [] := by
  unfold sX7_tellBeacon at h
  refine G_aload_n X 0 dX7_tellBeacon_0 rfl rfl ?_
  refine G_aload_n X 0 dX7_tellBeacon_1 rfl rfl ?_
  refine f_X7_35 X rfl rfl dX7_tellBeacon_2 ?_
  refine G_iload_n X 1 dX7_tellBeacon_5 rfl rfl ?_
  obtain ⟨g1, h⟩ := gd_some h
  refine G_lald X rfl (rg_rs _ _ _) g1 dX7_tellBeacon_6 ?_
  obtain ⟨q2, hq2, h⟩ := bd_some h
  refine G_callV X (As := [.long (gL m 0 7 (ix a1))]) (rest := []) (T' := rs T 9 q2) (st2 := []) (ct_X7_tellName (l := g.2.1) (κ := gκ g)   hq2) cal_X7_tellName wM_X7_511 wI_X7_tellName wS_X7_tellName rfl rfl (by decide) rfl rfl (Nat.le_of_ble_eq_true rfl) ⟨Nat.zero_le _, Nat.zero_le _⟩ dX7_tellBeacon_7 rfl ?_
  refine G_aload_n X 0 dX7_tellBeacon_10 rfl rfl ?_
  refine G_bipush X (v := (32 : Int32)) dX7_tellBeacon_11 (by decide) ?_
  obtain ⟨q3, hq3, h⟩ := bd_some h
  refine G_callV X (As := [.int ((32 : Int32))]) (rest := []) (T' := rs T 9 q3) (st2 := []) (ct_X7_tell (l := g.2.1) (κ := gκ g)   hq3) cal_X7_tell wM_X7_502 wI_X7_tell wS_X7_tell rfl rfl (by decide) rfl rfl (Nat.le_of_ble_eq_true rfl) ⟨Nat.zero_le _, Nat.zero_le _⟩ dX7_tellBeacon_13 rfl ?_
  refine G_aload_n X 0 dX7_tellBeacon_16 rfl rfl ?_
  refine G_aload_n X 0 dX7_tellBeacon_17 rfl rfl ?_
  refine G_aload_n X 0 dX7_tellBeacon_18 rfl rfl ?_
  refine G_iload_n X 1 dX7_tellBeacon_19 rfl rfl ?_
  refine G_iconst X (v := (5 : Int32)) dX7_tellBeacon_20 (by decide) ?_
  obtain ⟨q4, hq4, h⟩ := bd_some h
  refine G_callV X (As := [.int a1, .int ((5 : Int32))]) (rest := [.ref (xE (gκ g) 9 0 0), .ref (xE (gκ g) 9 0 0)]) (T' := rs T 9 q3) (st2 := [.int q4, .ref (xE (gκ g) 9 0 0), .ref (xE (gκ g) 9 0 0)]) (ct_X7_of (l := g.2.1) (κ := gκ g)   hq4) cal_X7_of wM_X7_251 wI_X7_of wS_X7_of rfl rfl (by decide) rfl rfl (Nat.le_of_ble_eq_true rfl) ⟨Nat.zero_le _, Nat.zero_le _⟩ dX7_tellBeacon_21 rfl ?_
  obtain ⟨q5, hq5, h⟩ := bd_some h
  refine G_callV X (As := [.int q4]) (rest := [.ref (xE (gκ g) 9 0 0)]) (T' := rs T 9 q3) (st2 := [.long q5, .ref (xE (gκ g) 9 0 0)]) (ct_X7_wordOf (l := g.2.1) (κ := gκ g)   hq5) cal_X7_wordOf wM_X7_514 wI_X7_wordOf wS_X7_wordOf rfl rfl (by decide) rfl rfl (Nat.le_of_ble_eq_true rfl) ⟨Nat.zero_le _, Nat.zero_le _⟩ dX7_tellBeacon_24 rfl ?_
  obtain ⟨q6, hq6, h⟩ := bd_some h
  refine G_callV X (As := [.long q5]) (rest := []) (T' := rs T 9 q6) (st2 := []) (ct_X7_tellName (l := g.2.1) (κ := gκ g)   hq6) cal_X7_tellName wM_X7_511 wI_X7_tellName wS_X7_tellName rfl rfl (by decide) rfl rfl (Nat.le_of_ble_eq_true rfl) ⟨Nat.zero_le _, Nat.zero_le _⟩ dX7_tellBeacon_27 rfl ?_
  refine G_aload_n X 0 dX7_tellBeacon_30 rfl rfl ?_
  refine G_bipush X (v := (32 : Int32)) dX7_tellBeacon_31 (by decide) ?_
  obtain ⟨q7, hq7, h⟩ := bd_some h
  refine G_callV X (As := [.int ((32 : Int32))]) (rest := []) (T' := rs T 9 q7) (st2 := []) (ct_X7_tell (l := g.2.1) (κ := gκ g)   hq7) cal_X7_tell wM_X7_502 wI_X7_tell wS_X7_tell rfl rfl (by decide) rfl rfl (Nat.le_of_ble_eq_true rfl) ⟨Nat.zero_le _, Nat.zero_le _⟩ dX7_tellBeacon_33 rfl ?_
  refine G_aload_n X 0 dX7_tellBeacon_36 rfl rfl ?_
  refine G_aload_n X 0 dX7_tellBeacon_37 rfl rfl ?_
  refine G_iload_n X 1 dX7_tellBeacon_38 rfl rfl ?_
  refine G_bipush X (v := (6 : Int32)) dX7_tellBeacon_39 (by decide) ?_
  obtain ⟨q8, hq8, h⟩ := bd_some h
  refine G_callV X (As := [.int a1, .int ((6 : Int32))]) (rest := [.ref (xE (gκ g) 9 0 0)]) (T' := rs T 9 q7) (st2 := [.int q8, .ref (xE (gκ g) 9 0 0)]) (ct_X7_of (l := g.2.1) (κ := gκ g)   hq8) cal_X7_of wM_X7_251 wI_X7_of wS_X7_of rfl rfl (by decide) rfl rfl (Nat.le_of_ble_eq_true rfl) ⟨Nat.zero_le _, Nat.zero_le _⟩ dX7_tellBeacon_41 rfl ?_
  obtain ⟨q9, hq9, h⟩ := bd_some h
  refine G_callV X (As := [.int q8]) (rest := []) (T' := rs T 9 q9) (st2 := []) (ct_X7_tellNumber (l := g.2.1) (κ := gκ g)   hq9) cal_X7_tellNumber wM_X7_518 wI_X7_tellNumber wS_X7_tellNumber rfl rfl (by decide) rfl rfl (Nat.le_of_ble_eq_true rfl) ⟨Nat.zero_le _, Nat.zero_le _⟩ dX7_tellBeacon_44 rfl ?_
  refine G_aload_n X 0 dX7_tellBeacon_47 rfl rfl ?_
  refine G_bipush X (v := (32 : Int32)) dX7_tellBeacon_48 (by decide) ?_
  obtain ⟨q10, hq10, h⟩ := bd_some h
  refine G_callV X (As := [.int ((32 : Int32))]) (rest := []) (T' := rs T 9 q10) (st2 := []) (ct_X7_tell (l := g.2.1) (κ := gκ g)   hq10) cal_X7_tell wM_X7_502 wI_X7_tell wS_X7_tell rfl rfl (by decide) rfl rfl (Nat.le_of_ble_eq_true rfl) ⟨Nat.zero_le _, Nat.zero_le _⟩ dX7_tellBeacon_50 rfl ?_
  refine G_aload_n X 0 dX7_tellBeacon_53 rfl rfl ?_
  refine G_aload_n X 0 dX7_tellBeacon_54 rfl rfl ?_
  refine G_iload_n X 1 dX7_tellBeacon_55 rfl rfl ?_
  refine G_iconst X (v := (4 : Int32)) dX7_tellBeacon_56 (by decide) ?_
  obtain ⟨q11, hq11, h⟩ := bd_some h
  refine G_callV X (As := [.int a1, .int ((4 : Int32))]) (rest := [.ref (xE (gκ g) 9 0 0)]) (T' := rs T 9 q10) (st2 := [.int q11, .ref (xE (gκ g) 9 0 0)]) (ct_X7_of (l := g.2.1) (κ := gκ g)   hq11) cal_X7_of wM_X7_251 wI_X7_of wS_X7_of rfl rfl (by decide) rfl rfl (Nat.le_of_ble_eq_true rfl) ⟨Nat.zero_le _, Nat.zero_le _⟩ dX7_tellBeacon_57 rfl ?_
  obtain ⟨q12, hq12, h⟩ := bd_some h
  refine G_callV X (As := [.int q11]) (rest := []) (T' := rs T 9 q12) (st2 := []) (ct_X7_tellNumber (l := g.2.1) (κ := gκ g)   hq12) cal_X7_tellNumber wM_X7_518 wI_X7_tellNumber wS_X7_tellNumber rfl rfl (by decide) rfl rfl (Nat.le_of_ble_eq_true rfl) ⟨Nat.zero_le _, Nat.zero_le _⟩ dX7_tellBeacon_60 rfl ?_
  refine G_iconst X (v := (0 : Int32)) dX7_tellBeacon_63 (by decide) ?_
  refine G_istore_n X (lv' := [(2, .int ((0 : Int32))), (0, .ref (xE (gκ g) 9 0 0)), (1, .int a1)]) dX7_tellBeacon_64 rfl (by decide) rfl ?_
  refine G_sub [1, 2, 0] rfl ?_
  exact gX7_tellBeacon_b65 X hf FU _ _ _ h
set_option maxRecDepth 20000 in
theorem ct_X7_tellBeacon {l : Launch} {κ : KX} {T : TT}  {m : St} {a1 : Int32} {res : St}  (h : sX7_tellBeacon m a1 = some res) : Ct l κ yX7_tellBeacon cX7_tellBeacon 3 none 3 71 [.ref (xE κ 9 0 0), .int a1] (rs T 9 m) (rs T 9 res) none := by
  refine Ct_v RX7 rfl (by decide +kernel) (Nat.le_of_ble_eq_true rfl) (fun g hl hκ X hf => ?_)
  subst hl; subst hκ
  exact gX7_tellBeacon X  hf h
set_option maxRecDepth 20000 in
theorem gX7_report_b17 {g : GX} {T : TT}   {res : St × Int32}  (X : CX g RX7 cX7_report 2 4 93)  (hf : FinI g cX7_report .int (rs T 9 res.1) (res.2))  : ∀ (n : Nat) (m : St) (a1 : Int32) (h : sX7_report_b17 n  m a1 = some res), G g 0 0 (rs T 9 m) 17 [(0, .ref (xE (gκ g) 9 0 0)), (1, .int a1)] [] := by
  intro n
  induction n with
  | zero => intro m a1 h; unfold sX7_report_b17 at h; cases h
  | succ n ih =>
    intro m a1 h
    unfold sX7_report_b17 at h
    refine G_iload_n X 1 dX7_report_17 rfl rfl ?_
    refine G_aload_n X 0 dX7_report_18 rfl rfl ?_
    refine f_X7_20 X rfl rfl dX7_report_19 ?_
    refine G_iconst X (v := (0 : Int32)) dX7_report_22 (by decide) ?_
    obtain ⟨g4, h⟩ := gd_some h
    refine G_iald X rfl (rg_rs _ _ _) g4 dX7_report_23 ?_
    refine G_icmp_ge X (tgt := 38) dX7_report_24 (by decide) (fun c5 => ?_) (fun c5 => ?_)
    · have h := it_t c5 h
      refine G_aload_n X 0 dX7_report_38 rfl rfl ?_
      refine f_X7_499 X rfl (rg_rs _ _ _) dX7_report_39 ?_
      obtain rfl := Option.some.inj h
      exact hf _ _ dX7_report_42 rfl
    · have h := it_f c5 h
      refine G_aload_n X 0 dX7_report_27 rfl rfl ?_
      refine G_iload_n X 1 dX7_report_28 rfl rfl ?_
      obtain ⟨q6, hq6, h⟩ := bd_some h
      refine G_callV X (As := [.int a1]) (rest := []) (T' := rs T 9 q6) (st2 := []) (ct_X7_tellBeacon (l := g.2.1) (κ := gκ g)   hq6) cal_X7_tellBeacon wM_X7_524 wI_X7_tellBeacon wS_X7_tellBeacon rfl rfl (by decide) rfl rfl (Nat.le_of_ble_eq_true rfl) ⟨Nat.zero_le _, Nat.zero_le _⟩ dX7_report_29 rfl ?_
      obtain ⟨v7, ev7, h⟩ := nm_some h
      refine G_iinc X (v := v7) (lv' := [(1, .int v7), (0, .ref (xE (gκ g) 9 0 0))]) 1 dX7_report_32 rfl (by rw [ev7]; rfl) (by decide) rfl ?_
      refine G_goto X (tgt := 17) dX7_report_35 (by decide) ?_
      refine G_sub [1, 0] rfl ?_
      exact ih _ _ h
set_option maxRecDepth 20000 in
theorem gX7_report {g : GX} {T : TT}  {m : St}  {res : St × Int32} (X : CX g RX7 cX7_report 2 4 93)  (hf : FinI g cX7_report .int (rs T 9 res.1) (res.2)) (h : sX7_report m = some res) : G g 0 0 (rs T 9 m) 0 [(0, .ref (xE (gκ g) 9 0 0))] [] := by
  unfold sX7_report at h
  refine G_aload_n X 0 dX7_report_0 rfl rfl ?_
  refine G_iconst X (v := (0 : Int32)) dX7_report_1 (by decide) ?_
  obtain ⟨x1, ex1, h⟩ := nm_some h
  refine p_X7_66 X (T' := rs T 9 x1) rfl (rg_rs _ _ _)  (by rw [rs_rs, ex1]) dX7_report_2 ?_
  refine G_aload_n X 0 dX7_report_5 rfl rfl ?_
  refine G_iconst X (v := (0 : Int32)) dX7_report_6 (by decide) ?_
  obtain ⟨x2, ex2, h⟩ := nm_some h
  refine p_X7_499 X (T' := rs T 9 x2) rfl (rg_rs _ _ _)  (by rw [rs_rs, ex2]) dX7_report_7 ?_
  refine G_aload_n X 0 dX7_report_10 rfl rfl ?_
  refine G_iconst X (v := (1 : Int32)) dX7_report_11 (by decide) ?_
  obtain ⟨x3, ex3, h⟩ := nm_some h
  refine p_X7_521 X (T' := rs T 9 x3) rfl (rg_rs _ _ _) (by decide)  (by rw [rs_rs, ex3]) dX7_report_12 ?_
  refine G_iconst X (v := (0 : Int32)) dX7_report_15 (by decide) ?_
  refine G_istore_n X (lv' := [(1, .int ((0 : Int32))), (0, .ref (xE (gκ g) 9 0 0))]) dX7_report_16 rfl (by decide) rfl ?_
  refine G_sub [1, 0] rfl ?_
  exact gX7_report_b17 X hf FU _ _ h
set_option maxRecDepth 20000 in
theorem ct_X7_report {l : Launch} {κ : KX} {T : TT}  {m : St}  {res : St × Int32}  (h : sX7_report m = some res) : Ct l κ yX7_report cX7_report 2 (some .int) 4 93 [.ref (xE κ 9 0 0)] (rs T 9 m) (rs T 9 res.1) (some (.int (res.2))) := by
  refine Ct_i RX7 rfl (by decide +kernel) (Nat.le_of_ble_eq_true rfl) (fun g hl hκ X hf => ?_)
  subst hl; subst hκ
  exact gX7_report X  hf h
set_option maxRecDepth 20000 in
theorem gX7_reportByte_b29 {g : GX} {T : TT}  {m : St} {a1 : Int32} {s0 : Int32} {res : St × Int32}  (X : CX g RX7 cX7_reportByte 2 2 41)  (hf : FinI g cX7_reportByte .int (rs T 9 res.1) (res.2))   (h : sX7_reportByte_b29  m a1 s0 = some res) : G g 0 0 (rs T 9 m) 29 [(0, .ref (xE (gκ g) 9 0 0)), (1, .int a1)] [.int s0, .ref (xE (gκ g) 9 0 0)] := by
  unfold sX7_reportByte_b29 at h
  obtain ⟨q4, hq4, h⟩ := bd_some h
  refine G_callV X (As := [.int s0]) (rest := []) (T' := rs T 9 q4.1) (st2 := [.int q4.2]) (ct_X7_goes (l := g.2.1) (κ := gκ g)   hq4) cal_X7_goes wM_X7_76 wI_X7_goes wS_X7_goes rfl rfl (by decide) rfl rfl (Nat.le_of_ble_eq_true rfl) ⟨Nat.zero_le _, Nat.zero_le _⟩ dX7_reportByte_29 rfl ?_
  refine G_if_eq X (tgt := 44) dX7_reportByte_32 (by decide) (fun c5 => ?_) (fun c5 => ?_)
  · have h := it_t c5 h
    refine G_iconst X (v := (0 : Int32)) dX7_reportByte_44 (by decide) ?_
    obtain rfl := Option.some.inj h
    exact hf _ _ dX7_reportByte_45 rfl
  · have h := it_f c5 h
    refine G_aload_n X 0 dX7_reportByte_35 rfl rfl ?_
    refine f_X7_60 X rfl rfl dX7_reportByte_36 ?_
    refine G_iload_n X 1 dX7_reportByte_39 rfl rfl ?_
    obtain ⟨g6, h⟩ := gd_some h
    refine G_iald X rfl (rg_rs _ _ _) g6 dX7_reportByte_40 ?_
    refine G_goto X (tgt := 45) dX7_reportByte_41 (by decide) ?_
    obtain rfl := Option.some.inj h
    exact hf _ _ dX7_reportByte_45 rfl
set_option maxRecDepth 20000 in
theorem gX7_reportByte {g : GX} {T : TT}  {m : St} {a1 : Int32} {res : St × Int32} (X : CX g RX7 cX7_reportByte 2 2 41)  (hf : FinI g cX7_reportByte .int (rs T 9 res.1) (res.2)) (h : sX7_reportByte m a1 = some res) : G g 0 0 (rs T 9 m) 0 [(0, .ref (xE (gκ g) 9 0 0)), (1, .int a1)] [] := by
  unfold sX7_reportByte at h
  refine G_aload_n X 0 dX7_reportByte_0 rfl rfl ?_
  refine G_aload_n X 0 dX7_reportByte_1 rfl rfl ?_
  refine f_X7_521 X rfl (rg_rs _ _ _) dX7_reportByte_2 ?_
  refine G_if_eq X (tgt := 28) dX7_reportByte_5 (by decide) (fun c1 => ?_) (fun c1 => ?_)
  · have h := it_t c1 h
    refine G_iconst X (v := (0 : Int32)) dX7_reportByte_28 (by decide) ?_
    exact gX7_reportByte_b29 X hf h
  · have h := it_f c1 h
    refine G_iload_n X 1 dX7_reportByte_8 rfl rfl ?_
    refine G_i2l X dX7_reportByte_9 ?_
    refine G_lconst X (v := (0 : Int64)) dX7_reportByte_10 (by decide) ?_
    refine G_aload_n X 0 dX7_reportByte_11 rfl rfl ?_
    refine f_X7_499 X rfl (rg_rs _ _ _) dX7_reportByte_12 ?_
    refine G_iconst X (v := (1 : Int32)) dX7_reportByte_15 (by decide) ?_
    refine G_isub X dX7_reportByte_16 ?_
    refine G_i2l X dX7_reportByte_17 ?_
    obtain ⟨q2, hq2, h⟩ := bd_some h
    refine G_callS X (As := [.long a1.toInt64, .long ((0 : Int64)), .long (((gI m 0 0 33) - ((1 : Int32))).toInt64)]) (rest := [.ref (xE (gκ g) 9 0 0)]) (T' := rs T 9 m) (st2 := [.int q2, .ref (xE (gκ g) 9 0 0)]) (ct_X7_isIn (l := g.2.1) (κ := gκ g)   hq2) cal_X7_isIn wM_X7_84 wT_X7_isIn (by decide) rfl rfl (Nat.le_of_ble_eq_true rfl) ⟨Nat.zero_le _, Nat.zero_le _⟩ dX7_reportByte_18 rfl ?_
    refine G_if_eq X (tgt := 28) dX7_reportByte_21 (by decide) (fun c3 => ?_) (fun c3 => ?_)
    · have h := it_t c3 h
      refine G_iconst X (v := (0 : Int32)) dX7_reportByte_28 (by decide) ?_
      exact gX7_reportByte_b29 X hf h
    · have h := it_f c3 h
      refine G_iconst X (v := (1 : Int32)) dX7_reportByte_24 (by decide) ?_
      refine G_goto X (tgt := 29) dX7_reportByte_25 (by decide) ?_
      exact gX7_reportByte_b29 X hf h
set_option maxRecDepth 20000 in
theorem ct_X7_reportByte {l : Launch} {κ : KX} {T : TT}  {m : St} {a1 : Int32} {res : St × Int32}  (h : sX7_reportByte m a1 = some res) : Ct l κ yX7_reportByte cX7_reportByte 2 (some .int) 2 41 [.ref (xE κ 9 0 0), .int a1] (rs T 9 m) (rs T 9 res.1) (some (.int (res.2))) := by
  refine Ct_i RX7 rfl (by decide +kernel) (Nat.le_of_ble_eq_true rfl) (fun g hl hκ X hf => ?_)
  subst hl; subst hκ
  exact gX7_reportByte X  hf h
