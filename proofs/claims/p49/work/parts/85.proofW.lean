set_option maxRecDepth 20000 in
theorem cw_L_cell {l : Launch} {κ : KX} {ξ : XI} {R : va_W} {Ln : Nat} {xs : Nat → Int32}  {a1 : Int32} {res : Int32} (hξ : ξ.1.2 = (Ln, xs)) (h : sL_cell Ln xs  a1 = some res) : CtM l κ ξ yL_cell cL_cell 2 (some .int) 0 0 0 0 [.ref ξ.1.1, .int a1] (R) (fun rv T9 => rv = some (.int res) ∧ T9 = R) := by
  refine CtM_i RL rfl (by decide +kernel) (Nat.le_of_ble_eq_true rfl) (fun g hgl hgκ X E hf => ?_)
  subst hgl; subst hgκ
  unfold sL_cell at h
  refine L_iload_n X 1 dL_cell_0 rfl rfl ?_
  refine L_aload_n X 0 dL_cell_1 rfl rfl ?_
  refine L_slenx X E hξ dL_cell_2 ?_
  refine L_icmp_ge X (tgt := 12) dL_cell_3 (by decide) (fun c1 => ?_) (fun c1 => ?_)
  · have h := it_t c1 h
    refine L_ldc X (v := (1664525 : Int32)) dL_cell_12 wK_L_7 ?_
    refine L_iload_n X 1 dL_cell_14 rfl rfl ?_
    refine L_imul X dL_cell_15 ?_
    refine L_ldc X (v := (40462 : Int32)) dL_cell_16 wK_L_8 ?_
    refine L_iadd X dL_cell_18 ?_
    obtain rfl := Option.some.inj h
    exact hf _ _ _ _ dL_cell_19 rfl ⟨rfl, rfl⟩
  · have h := it_f c1 h
    refine L_aload_n X 0 dL_cell_6 rfl rfl ?_
    refine L_iload_n X 1 dL_cell_7 rfl rfl ?_
    obtain ⟨g2, h⟩ := gd_some h
    refine L_sldx X E hξ g2 dL_cell_8 ?_
    refine L_goto X (tgt := 19) dL_cell_9 (by decide) ?_
    obtain rfl := Option.some.inj h
    exact hf _ _ _ _ dL_cell_19 rfl ⟨rfl, rfl⟩
set_option maxRecDepth 20000 in
theorem cw_L_pick {l : Launch} {κ : KX} {ξ : XI} {R : va_W} {Ln : Nat} {xs : Nat → Int32}  {a1 : Int32} {a2 : Int32} {res : Int32} (hξ : ξ.1.2 = (Ln, xs)) (h : sL_pick Ln xs  a1 a2 = some res) : CtM l κ ξ yL_pick cL_pick 3 (some .int) 1 21 0 0 [.ref ξ.1.1, .int a1, .int a2] (R) (fun rv T9 => rv = some (.int res) ∧ T9 = R) := by
  refine CtM_i RL rfl (by decide +kernel) (Nat.le_of_ble_eq_true rfl) (fun g hgl hgκ X E hf => ?_)
  subst hgl; subst hgκ
  unfold sL_pick at h
  refine L_aload_n X 0 dL_pick_0 rfl rfl ?_
  refine L_iload_n X 1 dL_pick_1 rfl rfl ?_
  obtain ⟨q1, hq1, h⟩ := bd_some h
  refine L_cS X E (As := [.ref ξ.1.1, .int a1]) (rest := []) (cw_L_cell hξ hq1) cal_L_cell wM_L_9 wT_L_cell ⟨⟨(Nat.le_of_ble_eq_true rfl), (Nat.le_of_ble_eq_true rfl)⟩, by omega, by omega⟩ rfl rfl (Nat.le_of_ble_eq_true rfl) dL_pick_2 (fun rv T9 hT9 => ?_)
  obtain ⟨rfl, hT9⟩ := hT9
  rw [hT9]
  refine L_ldc X (v := (2147483647 : Int32)) dL_pick_5 wK_L_15 ?_
  refine L_iand X dL_pick_7 ?_
  refine L_iload_n X 2 dL_pick_8 rfl rfl ?_
  obtain ⟨g2, h⟩ := gd_some h
  refine L_irem X dL_pick_9 (nz_ne g2) ?_
  obtain rfl := Option.some.inj h
  exact hf _ _ _ _ dL_pick_10 rfl ⟨rfl, rfl⟩
set_option maxRecDepth 20000 in
theorem cw_X8_knows {l : Launch} {κ : KX} {ξ : XI} {n : Nat} {β : Nat → Nat → Nat} {ω : Nat → Nat} {e0 tx : Nat} {R : va_W} {Y : St} {a1 : Int32} {a2 : Int32} {res : Int32} (hn : n < 9) (h : sX8_knows n Y a1 a2 = some res) : CtM l κ ξ yX8_knows cX8_knows 3 (some .boolean) 3 64 0 0 [.ref (β 0 0), .int a1, .int a2] (wsB κ n β ω e0 tx Y ++ R) (fun rv T9 => rv = some (.int res) ∧ T9 = wsB κ n β ω e0 tx Y ++ R) := by
  refine CtM_i RX8 rfl (by decide +kernel) (Nat.le_of_ble_eq_true rfl) (fun g hgl hgκ X E hf => ?_)
  subst hgl; subst hgκ
  unfold sX8_knows at h
  refine L_aload_n X 0 dX8_knows_0 rfl rfl ?_
  refine B_get X hn (N := 12) (k := 10) (c := 8) (o := 0) (j := 0) rfl rfl rfl iX8 rfl (by decide) rfl wF_X8_35 rfl dX8_knows_1 ?_
  refine L_iload_n X 1 dX8_knows_4 rfl rfl ?_
  obtain ⟨g1, h⟩ := gd_some h
  refine B_lget X E hn g1 wM_X8_155 ⟨⟨(Nat.le_of_ble_eq_true rfl), (Nat.le_of_ble_eq_true rfl)⟩, by omega, by omega⟩ (Nat.le_of_ble_eq_true rfl) dX8_knows_5 ?_
  refine B_cast X hn (ix_lt g1) wCl_X8_55 dX8_knows_10 ?_
  refine B_get X hn (N := 16) (k := 13) (c := 7) (kb_b0 (ix_lt g1)) rfl rfl iX7 rfl (by decide) rfl wF_X8_159 rfl dX8_knows_13 ?_
  refine L_iload_n X 2 dX8_knows_16 rfl rfl ?_
  obtain ⟨g2, h⟩ := gd_some h
  refine B_iald X hn (kb_b2 (ix_lt g1)) rfl g2 dX8_knows_17 ?_
  refine L_if_lt X (tgt := 55) dX8_knows_18 (by decide) (fun c3 => ?_) (fun c3 => ?_)
  · have h := it_t c3 h
    refine L_iconst X (v := (0 : Int32)) dX8_knows_55 (by decide) ?_
    obtain rfl := Option.some.inj h
    exact hf _ _ _ _ dX8_knows_56 (isb_n (by decide)) ⟨rfl, rfl⟩
  · have h := it_f c3 h
    refine L_aload_n X 0 dX8_knows_21 rfl rfl ?_
    refine B_get X hn (N := 12) (k := 0) (c := 8) (o := 0) (j := 0) rfl rfl rfl iX8 rfl (by decide) rfl wF_X8_121 rfl dX8_knows_22 ?_
    refine L_aload_n X 0 dX8_knows_25 rfl rfl ?_
    refine B_get X hn (N := 12) (k := 10) (c := 8) (o := 0) (j := 0) rfl rfl rfl iX8 rfl (by decide) rfl wF_X8_35 rfl dX8_knows_26 ?_
    refine L_iload_n X 1 dX8_knows_29 rfl rfl ?_
    obtain ⟨g4, h⟩ := gd_some h
    refine B_lget X E hn g4 wM_X8_155 ⟨⟨(Nat.le_of_ble_eq_true rfl), (Nat.le_of_ble_eq_true rfl)⟩, by omega, by omega⟩ (Nat.le_of_ble_eq_true rfl) dX8_knows_30 ?_
    refine B_cast X hn (ix_lt g4) wCl_X8_55 dX8_knows_35 ?_
    refine B_get X hn (N := 16) (k := 13) (c := 7) (kb_b0 (ix_lt g4)) rfl rfl iX7 rfl (by decide) rfl wF_X8_159 rfl dX8_knows_38 ?_
    refine L_iload_n X 2 dX8_knows_41 rfl rfl ?_
    obtain ⟨g5, h⟩ := gd_some h
    refine B_iald X hn (kb_b2 (ix_lt g4)) rfl g5 dX8_knows_42 ?_
    refine L_isub X dX8_knows_43 ?_
    refine L_aload_n X 0 dX8_knows_44 rfl rfl ?_
    refine B_get X hn (N := 12) (k := 3) (c := 8) (o := 0) (j := 0) rfl rfl rfl iX8 rfl (by decide) rfl wF_X8_16 rfl dX8_knows_45 ?_
    refine L_icmp_gt X (tgt := 55) dX8_knows_48 (by decide) (fun c6 => ?_) (fun c6 => ?_)
    · have h := it_t c6 h
      refine L_iconst X (v := (0 : Int32)) dX8_knows_55 (by decide) ?_
      obtain rfl := Option.some.inj h
      exact hf _ _ _ _ dX8_knows_56 (isb_n (by decide)) ⟨rfl, rfl⟩
    · have h := it_f c6 h
      refine L_iconst X (v := (1 : Int32)) dX8_knows_51 (by decide) ?_
      refine L_goto X (tgt := 56) dX8_knows_52 (by decide) ?_
      obtain rfl := Option.some.inj h
      exact hf _ _ _ _ dX8_knows_56 (isb_n (by decide)) ⟨rfl, rfl⟩
set_option maxRecDepth 20000 in
theorem cw_X8_window {l : Launch} {κ : KX} {ξ : XI} {n : Nat} {β : Nat → Nat → Nat} {ω : Nat → Nat} {e0 tx : Nat} {R : va_W} {Y : St} {a1 : Int32} {res : Int32} (hn : n < 9) (h : sX8_window n Y a1 = some res) : CtM l κ ξ yX8_window cX8_window 2 (some .int) 3 64 0 0 [.ref (β 0 0), .int a1] (wsB κ n β ω e0 tx Y ++ R) (fun rv T9 => rv = some (.int res) ∧ T9 = wsB κ n β ω e0 tx Y ++ R) := by
  refine CtM_i RX8 rfl (by decide +kernel) (Nat.le_of_ble_eq_true rfl) (fun g hgl hgκ X E hf => ?_)
  subst hgl; subst hgκ
  unfold sX8_window at h
  refine L_bipush X (v := (32 : Int32)) dX8_window_0 (by decide) ?_
  refine L_iconst X (v := (2 : Int32)) dX8_window_2 (by decide) ?_
  refine L_aload_n X 0 dX8_window_3 rfl rfl ?_
  refine B_get X hn (N := 12) (k := 10) (c := 8) (o := 0) (j := 0) rfl rfl rfl iX8 rfl (by decide) rfl wF_X8_35 rfl dX8_window_4 ?_
  refine L_iload_n X 1 dX8_window_7 rfl rfl ?_
  obtain ⟨g1, h⟩ := gd_some h
  refine B_lget X E hn g1 wM_X8_155 ⟨⟨(Nat.le_of_ble_eq_true rfl), (Nat.le_of_ble_eq_true rfl)⟩, by omega, by omega⟩ (Nat.le_of_ble_eq_true rfl) dX8_window_8 ?_
  refine B_cast X hn (ix_lt g1) wCl_X8_55 dX8_window_13 ?_
  refine B_get X hn (N := 16) (k := 7) (c := 7) (kb_b0 (ix_lt g1)) rfl rfl iX7 rfl (by decide) rfl wF_X8_162 rfl dX8_window_16 ?_
  refine L_ishl X dX8_window_19 ?_
  refine L_mmin X wM_X8_165 ⟨(Nat.le_of_ble_eq_true rfl), (Nat.le_of_ble_eq_true rfl)⟩ (Nat.le_of_ble_eq_true rfl) ⟨by omega, by omega⟩ dX8_window_20 ?_
  obtain rfl := Option.some.inj h
  exact hf _ _ _ _ dX8_window_23 rfl ⟨rfl, rfl⟩
set_option maxRecDepth 20000 in
theorem cw_X8_draw {l : Launch} {κ : KX} {ξ : XI} {n : Nat} {β : Nat → Nat → Nat} {ω : Nat → Nat} {e0 tx : Nat} {R : va_W} {Y : St} {a1 : Int32} {res : St × Int32} (hn : n < 9) (h : sX8_draw n Y a1 = some res) : CtM l κ ξ yX8_draw cX8_draw 2 (some .int) 0 0 0 0 [.ref (β 0 0), .int a1] (wsB κ n β ω e0 tx Y ++ R) (fun rv T9 => rv = some (.int res.2) ∧ T9 = wsB κ n β ω e0 tx res.1 ++ R) := by
  refine CtM_i RX8 rfl (by decide +kernel) (Nat.le_of_ble_eq_true rfl) (fun g hgl hgκ X E hf => ?_)
  subst hgl; subst hgκ
  unfold sX8_draw at h
  refine L_aload_n X 0 dX8_draw_0 rfl rfl ?_
  refine L_aload_n X 0 dX8_draw_1 rfl rfl ?_
  refine B_get X hn (N := 12) (k := 1) (c := 8) (o := 0) (j := 0) rfl rfl rfl iX8 rfl (by decide) rfl wF_X8_7 rfl dX8_draw_2 ?_
  refine L_ldc X (v := (1103515245 : Int32)) dX8_draw_5 wK_X8_171 ?_
  refine L_imul X dX8_draw_7 ?_
  refine L_sipush X (v := (12345 : Int32)) dX8_draw_8 (by decide) ?_
  refine L_iadd X dX8_draw_11 ?_
  obtain ⟨v1, ev1, h⟩ := nm_some h
  refine L_nmi ev1 ?_
  obtain ⟨z2, ez2, h⟩ := nm_some h
  refine B_put X hn (N := 12) (k := 1) (c := 8) (o := 0) rfl rfl rfl iX8 tyX8_ok nmX8 rfl (by decide) (Or.inl ⟨rfl, by decide⟩) rfl rfl (tyX8_ok _ (by decide)) wF_X8_7 rfl rfl ez2.symm dX8_draw_12 ?_
  refine L_aload_n X 0 dX8_draw_15 rfl rfl ?_
  refine B_get X hn (N := 12) (k := 1) (c := 8) (o := 0) (j := 0) rfl rfl rfl iX8 rfl (by decide) rfl wF_X8_7 rfl dX8_draw_16 ?_
  refine L_bipush X (v := (16 : Int32)) dX8_draw_19 (by decide) ?_
  refine L_iushr X dX8_draw_21 ?_
  refine L_iload_n X 1 dX8_draw_22 rfl rfl ?_
  obtain ⟨g3, h⟩ := gd_some h
  refine L_irem X dX8_draw_23 (nz_ne g3) ?_
  obtain rfl := Option.some.inj h
  exact hf _ _ _ _ dX8_draw_24 rfl ⟨rfl, rfl⟩
set_option maxRecDepth 20000 in
theorem cw_X8_isDue {l : Launch} {κ : KX} {ξ : XI} {n : Nat} {β : Nat → Nat → Nat} {ω : Nat → Nat} {e0 tx : Nat} {R : va_W} {Y : St} {a1 : Int32} {a2 : Int32} {res : Int32} (hn : n < 9) (h : sX8_isDue n Y a1 a2 = some res) : CtM l κ ξ yX8_isDue cX8_isDue 3 (some .boolean) 3 64 0 0 [.ref (β 0 0), .int a1, .int a2] (wsB κ n β ω e0 tx Y ++ R) (fun rv T9 => rv = some (.int res) ∧ T9 = wsB κ n β ω e0 tx Y ++ R) := by
  refine CtM_i RX8 rfl (by decide +kernel) (Nat.le_of_ble_eq_true rfl) (fun g hgl hgκ X E hf => ?_)
  subst hgl; subst hgκ
  unfold sX8_isDue at h
  refine L_iload_n X 2 dX8_isDue_0 rfl rfl ?_
  refine L_aload_n X 0 dX8_isDue_1 rfl rfl ?_
  refine B_get X hn (N := 12) (k := 10) (c := 8) (o := 0) (j := 0) rfl rfl rfl iX8 rfl (by decide) rfl wF_X8_35 rfl dX8_isDue_2 ?_
  refine L_iload_n X 1 dX8_isDue_5 rfl rfl ?_
  obtain ⟨g1, h⟩ := gd_some h
  refine B_lget X E hn g1 wM_X8_155 ⟨⟨(Nat.le_of_ble_eq_true rfl), (Nat.le_of_ble_eq_true rfl)⟩, by omega, by omega⟩ (Nat.le_of_ble_eq_true rfl) dX8_isDue_6 ?_
  refine B_cast X hn (ix_lt g1) wCl_X8_55 dX8_isDue_11 ?_
  refine B_get X hn (N := 16) (k := 1) (c := 7) (kb_b0 (ix_lt g1)) rfl rfl iX7 rfl (by decide) rfl wF_X8_61 rfl dX8_isDue_14 ?_
  refine L_icmp_lt X (tgt := 62) dX8_isDue_17 (by decide) (fun c2 => ?_) (fun c2 => ?_)
  · have h := it_t c2 h
    refine L_iconst X (v := (0 : Int32)) dX8_isDue_62 (by decide) ?_
    obtain rfl := Option.some.inj h
    exact hf _ _ _ _ dX8_isDue_63 (isb_n (by decide)) ⟨rfl, rfl⟩
  · have h := it_f c2 h
    refine L_iload_n X 2 dX8_isDue_20 rfl rfl ?_
    refine L_aload_n X 0 dX8_isDue_21 rfl rfl ?_
    refine B_get X hn (N := 12) (k := 10) (c := 8) (o := 0) (j := 0) rfl rfl rfl iX8 rfl (by decide) rfl wF_X8_35 rfl dX8_isDue_22 ?_
    refine L_iload_n X 1 dX8_isDue_25 rfl rfl ?_
    obtain ⟨g3, h⟩ := gd_some h
    refine B_lget X E hn g3 wM_X8_155 ⟨⟨(Nat.le_of_ble_eq_true rfl), (Nat.le_of_ble_eq_true rfl)⟩, by omega, by omega⟩ (Nat.le_of_ble_eq_true rfl) dX8_isDue_26 ?_
    refine B_cast X hn (ix_lt g3) wCl_X8_55 dX8_isDue_31 ?_
    refine B_get X hn (N := 16) (k := 1) (c := 7) (kb_b0 (ix_lt g3)) rfl rfl iX7 rfl (by decide) rfl wF_X8_61 rfl dX8_isDue_34 ?_
    refine L_isub X dX8_isDue_37 ?_
    refine L_aload_n X 0 dX8_isDue_38 rfl rfl ?_
    refine B_get X hn (N := 12) (k := 10) (c := 8) (o := 0) (j := 0) rfl rfl rfl iX8 rfl (by decide) rfl wF_X8_35 rfl dX8_isDue_39 ?_
    refine L_iload_n X 1 dX8_isDue_42 rfl rfl ?_
    obtain ⟨g4, h⟩ := gd_some h
    refine B_lget X E hn g4 wM_X8_155 ⟨⟨(Nat.le_of_ble_eq_true rfl), (Nat.le_of_ble_eq_true rfl)⟩, by omega, by omega⟩ (Nat.le_of_ble_eq_true rfl) dX8_isDue_43 ?_
    refine B_cast X hn (ix_lt g4) wCl_X8_55 dX8_isDue_48 ?_
    refine B_get X hn (N := 16) (k := 0) (c := 7) (kb_b0 (ix_lt g4)) rfl rfl iX7 rfl (by decide) rfl wF_X8_58 rfl dX8_isDue_51 ?_
    obtain ⟨g5, h⟩ := gd_some h
    refine L_irem X dX8_isDue_54 (nz_ne g5) ?_
    refine L_if_ne X (tgt := 62) dX8_isDue_55 (by decide) (fun c6 => ?_) (fun c6 => ?_)
    · have h := it_t c6 h
      refine L_iconst X (v := (0 : Int32)) dX8_isDue_62 (by decide) ?_
      obtain rfl := Option.some.inj h
      exact hf _ _ _ _ dX8_isDue_63 (isb_n (by decide)) ⟨rfl, rfl⟩
    · have h := it_f (fun k => k c6) h
      refine L_iconst X (v := (1 : Int32)) dX8_isDue_58 (by decide) ?_
      refine L_goto X (tgt := 63) dX8_isDue_59 (by decide) ?_
      obtain rfl := Option.some.inj h
      exact hf _ _ _ _ dX8_isDue_63 (isb_n (by decide)) ⟨rfl, rfl⟩
set_option maxRecDepth 20000 in
theorem gX8_knowsAll_b2 {g : GX} {ξ : XI} {n : Nat} {β : Nat → Nat → Nat} {ω : Nat → Nat} {e0 tx : Nat} {R : va_W} {Y : St} {res : Int32}  (X : CL g RX8 cX8_knowsAll 3 4 86 0 0) (E : XE g ξ) (hn : n < 9) (hf : FinMi g cX8_knowsAll .boolean (fun rv T9 => rv = some (.int res) ∧ T9 = wsB (gκ g) n β ω e0 tx Y ++ R) 0 0)  : ∀ (m : Nat) (a1 : Int32) (a2 : Int32) (h : sX8_knowsAll_b2 m n Y a1 a2 = some res), L g 0 0 (wsB (gκ g) n β ω e0 tx Y ++ R) 2 [(0, .ref (β 0 0)), (1, .int a1), (2, .int a2)] [] := by
  intro m
  induction m with
  | zero => intro a1 a2 h; unfold sX8_knowsAll_b2 at h; cases h
  | succ m ih =>
    intro a1 a2 h
    unfold sX8_knowsAll_b2 at h
    refine L_iload_n X 2 dX8_knowsAll_2 rfl rfl ?_
    refine L_aload_n X 0 dX8_knowsAll_3 rfl rfl ?_
    refine B_get X hn (N := 12) (k := 10) (c := 8) (o := 0) (j := 0) rfl rfl rfl iX8 rfl (by decide) rfl wF_X8_35 rfl dX8_knowsAll_4 ?_
    refine B_size X E hn wM_X8_172 ⟨⟨(Nat.le_of_ble_eq_true rfl), (Nat.le_of_ble_eq_true rfl)⟩, by omega, by omega⟩ (Nat.le_of_ble_eq_true rfl) dX8_knowsAll_7 ?_
    refine L_icmp_ge X (tgt := 43) dX8_knowsAll_12 (by decide) (fun c1 => ?_) (fun c1 => ?_)
    · have h := it_t c1 h
      refine L_iconst X (v := (1 : Int32)) dX8_knowsAll_43 (by decide) ?_
      obtain rfl := Option.some.inj h
      exact hf _ _ _ _ dX8_knowsAll_44 (isb_n (by decide)) ⟨rfl, rfl⟩
    · have h := it_f c1 h
      refine L_aload_n X 0 dX8_knowsAll_15 rfl rfl ?_
      refine B_get X hn (N := 12) (k := 8) (c := 8) (o := 0) (j := 0) rfl rfl rfl iX8 rfl (by decide) rfl wF_X8_25 rfl dX8_knowsAll_16 ?_
      refine L_iload_n X 1 dX8_knowsAll_19 rfl rfl ?_
      obtain ⟨g2, h⟩ := gd_some h
      refine B_row X hn g2 dX8_knowsAll_20 ?_
      refine L_iload_n X 2 dX8_knowsAll_21 rfl rfl ?_
      obtain ⟨g3, h⟩ := gd_some h
      refine B_zald X hn (kb_r (ix_lt g2)) rfl g3 dX8_knowsAll_22 ?_
      refine L_if_eq X (tgt := 37) dX8_knowsAll_23 (by decide) (fun c4 => ?_) (fun c4 => ?_)
      · have h := it_t c4 h
        obtain ⟨v5, ev5, h⟩ := nm_some h
        refine L_iinc X (v := v5) (lv' := [(2, .int v5), (0, .ref (β 0 0)), (1, .int a1)]) 2 dX8_knowsAll_37 rfl (by rw [ev5]; rfl) (by decide) rfl ?_
        refine L_goto X (tgt := 2) dX8_knowsAll_40 (by decide) ?_
        refine L_sub [1, 2, 0] rfl ?_
        exact ih _ _ h
      · have h := it_f c4 h
        refine L_aload_n X 0 dX8_knowsAll_26 rfl rfl ?_
        refine L_iload_n X 1 dX8_knowsAll_27 rfl rfl ?_
        refine L_iload_n X 2 dX8_knowsAll_28 rfl rfl ?_
        obtain ⟨q6, hq6, h⟩ := bd_some h
        refine L_cW X E hn (As := [.int a1, .int a2]) (rest := []) (cw_X8_knows hn hq6) cal_X8_knows wM_X8_176 wI_X8_knows wS_X8_knows ⟨⟨(Nat.le_of_ble_eq_true rfl), (Nat.le_of_ble_eq_true rfl)⟩, by omega, by omega⟩ rfl rfl (Nat.le_of_ble_eq_true rfl) dX8_knowsAll_29 (fun rv T9 hT9 => ?_)
        obtain ⟨rfl, hT9⟩ := hT9
        rw [hT9]
        refine L_if_ne X (tgt := 37) dX8_knowsAll_32 (by decide) (fun c7 => ?_) (fun c7 => ?_)
        · have h := it_t c7 h
          obtain ⟨v8, ev8, h⟩ := nm_some h
          refine L_iinc X (v := v8) (lv' := [(2, .int v8), (0, .ref (β 0 0)), (1, .int a1)]) 2 dX8_knowsAll_37 rfl (by rw [ev8]; rfl) (by decide) rfl ?_
          refine L_goto X (tgt := 2) dX8_knowsAll_40 (by decide) ?_
          refine L_sub [1, 2, 0] rfl ?_
          exact ih _ _ h
        · have h := it_f (fun k => k c7) h
          refine L_iconst X (v := (0 : Int32)) dX8_knowsAll_35 (by decide) ?_
          obtain rfl := Option.some.inj h
          exact hf _ _ _ _ dX8_knowsAll_36 (isb_n (by decide)) ⟨rfl, rfl⟩
set_option maxRecDepth 20000 in
theorem cw_X8_knowsAll {l : Launch} {κ : KX} {ξ : XI} {n : Nat} {β : Nat → Nat → Nat} {ω : Nat → Nat} {e0 tx : Nat} {R : va_W} {Y : St} {a1 : Int32} {res : Int32} (hn : n < 9) (h : sX8_knowsAll n Y a1 = some res) : CtM l κ ξ yX8_knowsAll cX8_knowsAll 3 (some .boolean) 4 86 0 0 [.ref (β 0 0), .int a1] (wsB κ n β ω e0 tx Y ++ R) (fun rv T9 => rv = some (.int res) ∧ T9 = wsB κ n β ω e0 tx Y ++ R) := by
  refine CtM_i RX8 rfl (by decide +kernel) (Nat.le_of_ble_eq_true rfl) (fun g hgl hgκ X E hf => ?_)
  subst hgl; subst hgκ
  unfold sX8_knowsAll at h
  refine L_iconst X (v := (0 : Int32)) dX8_knowsAll_0 (by decide) ?_
  refine L_istore_n X (lv' := [(2, .int (0 : Int32)), (0, .ref (β 0 0)), (1, .int a1)]) dX8_knowsAll_1 rfl (by decide) rfl ?_
  refine L_sub [1, 2, 0] rfl ?_
  exact gX8_knowsAll_b2 X E hn hf FU _ _ h
set_option maxRecDepth 20000 in
theorem gX8_near_b4 {g : GX} {ξ : XI} {n : Nat} {β : Nat → Nat → Nat} {ω : Nat → Nat} {e0 tx : Nat} {R : va_W} {Y : St} {res : Int32}  (X : CL g RX8 cX8_near 4 1 20 0 0) (E : XE g ξ) (hn : n < 9) (hf : FinMi g cX8_near .int (fun rv T9 => rv = some (.int res) ∧ T9 = wsB (gκ g) n β ω e0 tx Y ++ R) 0 0)  : ∀ (m : Nat) (a1 : Int32) (a2 : Int32) (a3 : Int32) (h : sX8_near_b4 m n Y a1 a2 a3 = some res), L g 0 0 (wsB (gκ g) n β ω e0 tx Y ++ R) 4 [(0, .ref (β 0 0)), (1, .int a1), (2, .int a2), (3, .int a3)] [] := by
  intro m
  induction m with
  | zero => intro a1 a2 a3 h; unfold sX8_near_b4 at h; cases h
  | succ m ih =>
    intro a1 a2 a3 h
    unfold sX8_near_b4 at h
    refine L_iload_n X 3 dX8_near_4 rfl rfl ?_
    refine L_aload_n X 0 dX8_near_5 rfl rfl ?_
    refine B_get X hn (N := 12) (k := 10) (c := 8) (o := 0) (j := 0) rfl rfl rfl iX8 rfl (by decide) rfl wF_X8_35 rfl dX8_near_6 ?_
    refine B_size X E hn wM_X8_172 ⟨⟨(Nat.le_of_ble_eq_true rfl), (Nat.le_of_ble_eq_true rfl)⟩, by omega, by omega⟩ (Nat.le_of_ble_eq_true rfl) dX8_near_9 ?_
    refine L_icmp_ge X (tgt := 42) dX8_near_14 (by decide) (fun c1 => ?_) (fun c1 => ?_)
    · have h := it_t c1 h
      refine L_iload_n X 2 dX8_near_42 rfl rfl ?_
      obtain rfl := Option.some.inj h
      exact hf _ _ _ _ dX8_near_43 rfl ⟨rfl, rfl⟩
    · have h := it_f c1 h
      refine L_iload_n X 2 dX8_near_17 rfl rfl ?_
      refine L_aload_n X 0 dX8_near_18 rfl rfl ?_
      refine B_get X hn (N := 12) (k := 8) (c := 8) (o := 0) (j := 0) rfl rfl rfl iX8 rfl (by decide) rfl wF_X8_25 rfl dX8_near_19 ?_
      refine L_iload_n X 1 dX8_near_22 rfl rfl ?_
      obtain ⟨g2, h⟩ := gd_some h
      refine B_row X hn g2 dX8_near_23 ?_
      refine L_iload_n X 3 dX8_near_24 rfl rfl ?_
      obtain ⟨g3, h⟩ := gd_some h
      refine B_zald X hn (kb_r (ix_lt g2)) rfl g3 dX8_near_25 ?_
      refine L_if_eq X (tgt := 33) dX8_near_26 (by decide) (fun c4 => ?_) (fun c4 => ?_)
      · have h := it_t c4 h
        refine L_iconst X (v := (0 : Int32)) dX8_near_33 (by decide) ?_
        refine L_iadd X dX8_near_34 ?_
        refine L_istore_n X (lv' := [(2, .int (a2 + (0 : Int32))), (0, .ref (β 0 0)), (1, .int a1), (3, .int a3)]) dX8_near_35 rfl (by decide) rfl ?_
        obtain ⟨v5, ev5, h⟩ := nm_some h
        refine L_iinc X (v := v5) (lv' := [(3, .int v5), (2, .int (a2 + (0 : Int32))), (0, .ref (β 0 0)), (1, .int a1)]) 3 dX8_near_36 rfl (by rw [ev5]; rfl) (by decide) rfl ?_
        refine L_goto X (tgt := 4) dX8_near_39 (by decide) ?_
        refine L_sub [2, 3, 1, 0] rfl ?_
        exact ih _ _ _ h
      · have h := it_f c4 h
        refine L_iconst X (v := (1 : Int32)) dX8_near_29 (by decide) ?_
        refine L_goto X (tgt := 34) dX8_near_30 (by decide) ?_
        refine L_iadd X dX8_near_34 ?_
        refine L_istore_n X (lv' := [(2, .int (a2 + (1 : Int32))), (0, .ref (β 0 0)), (1, .int a1), (3, .int a3)]) dX8_near_35 rfl (by decide) rfl ?_
        obtain ⟨v6, ev6, h⟩ := nm_some h
        refine L_iinc X (v := v6) (lv' := [(3, .int v6), (2, .int (a2 + (1 : Int32))), (0, .ref (β 0 0)), (1, .int a1)]) 3 dX8_near_36 rfl (by rw [ev6]; rfl) (by decide) rfl ?_
        refine L_goto X (tgt := 4) dX8_near_39 (by decide) ?_
        refine L_sub [2, 3, 1, 0] rfl ?_
        exact ih _ _ _ h
set_option maxRecDepth 20000 in
theorem cw_X8_near {l : Launch} {κ : KX} {ξ : XI} {n : Nat} {β : Nat → Nat → Nat} {ω : Nat → Nat} {e0 tx : Nat} {R : va_W} {Y : St} {a1 : Int32} {res : Int32} (hn : n < 9) (h : sX8_near n Y a1 = some res) : CtM l κ ξ yX8_near cX8_near 4 (some .int) 1 20 0 0 [.ref (β 0 0), .int a1] (wsB κ n β ω e0 tx Y ++ R) (fun rv T9 => rv = some (.int res) ∧ T9 = wsB κ n β ω e0 tx Y ++ R) := by
  refine CtM_i RX8 rfl (by decide +kernel) (Nat.le_of_ble_eq_true rfl) (fun g hgl hgκ X E hf => ?_)
  subst hgl; subst hgκ
  unfold sX8_near at h
  refine L_iconst X (v := (0 : Int32)) dX8_near_0 (by decide) ?_
  refine L_istore_n X (lv' := [(2, .int (0 : Int32)), (0, .ref (β 0 0)), (1, .int a1)]) dX8_near_1 rfl (by decide) rfl ?_
  refine L_iconst X (v := (0 : Int32)) dX8_near_2 (by decide) ?_
  refine L_istore_n X (lv' := [(3, .int (0 : Int32)), (2, .int (0 : Int32)), (0, .ref (β 0 0)), (1, .int a1)]) dX8_near_3 rfl (by decide) rfl ?_
  refine L_sub [2, 3, 1, 0] rfl ?_
  exact gX8_near_b4 X E hn hf FU _ _ _ h
set_option maxRecDepth 20000 in
theorem cw_X8_waits {l : Launch} {κ : KX} {ξ : XI} {n : Nat} {β : Nat → Nat → Nat} {ω : Nat → Nat} {e0 tx : Nat} {R : va_W} {Y : St} {a1 : Int32} {res : St} (hn : n < 9) (h : sX8_waits n Y a1 = some res) : CtM l κ ξ yX8_waits cX8_waits 2 none 4 85 0 0 [.ref (β 0 0), .int a1] (wsB κ n β ω e0 tx Y ++ R) (fun rv T9 => rv = none ∧ T9 = wsB κ n β ω e0 tx res ++ R) := by
  refine CtM_v RX8 rfl (by decide +kernel) (Nat.le_of_ble_eq_true rfl) (fun g hgl hgκ X E hini hf => ?_)
  subst hgl; subst hgκ
  unfold sX8_waits at h
  refine L_aload_n X 0 dX8_waits_0 rfl rfl ?_
  refine B_get X hn (N := 12) (k := 10) (c := 8) (o := 0) (j := 0) rfl rfl rfl iX8 rfl (by decide) rfl wF_X8_35 rfl dX8_waits_1 ?_
  refine L_iload_n X 1 dX8_waits_4 rfl rfl ?_
  obtain ⟨g1, h⟩ := gd_some h
  refine B_lget X E hn g1 wM_X8_155 ⟨⟨(Nat.le_of_ble_eq_true rfl), (Nat.le_of_ble_eq_true rfl)⟩, by omega, by omega⟩ (Nat.le_of_ble_eq_true rfl) dX8_waits_5 ?_
  refine B_cast X hn (ix_lt g1) wCl_X8_55 dX8_waits_10 ?_
  refine L_iconst X (v := (2 : Int32)) dX8_waits_13 (by decide) ?_
  obtain ⟨z2, ez2, h⟩ := nm_some h
  refine B_put X hn (N := 16) (k := 5) (c := 7) (kb_b0 (ix_lt g1)) rfl rfl iX7 tyX7_ok nmX7 rfl (by decide) (Or.inr ⟨rfl, by decide⟩) rfl rfl (tyX7_ok _ (by decide)) wF_X8_180 rfl rfl ez2.symm dX8_waits_14 ?_
  refine L_aload_n X 0 dX8_waits_17 rfl rfl ?_
  refine B_get X hn (N := 12) (k := 10) (c := 8) (o := 0) (j := 0) rfl rfl rfl iX8 rfl (by decide) rfl wF_X8_35 rfl dX8_waits_18 ?_
  refine L_iload_n X 1 dX8_waits_21 rfl rfl ?_
  obtain ⟨g3, h⟩ := gd_some h
  refine B_lget X E hn g3 wM_X8_155 ⟨⟨(Nat.le_of_ble_eq_true rfl), (Nat.le_of_ble_eq_true rfl)⟩, by omega, by omega⟩ (Nat.le_of_ble_eq_true rfl) dX8_waits_22 ?_
  refine B_cast X hn (ix_lt g3) wCl_X8_55 dX8_waits_27 ?_
  refine L_iconst X (v := (1 : Int32)) dX8_waits_30 (by decide) ?_
  refine L_aload_n X 0 dX8_waits_31 rfl rfl ?_
  refine L_aload_n X 0 dX8_waits_32 rfl rfl ?_
  refine L_iload_n X 1 dX8_waits_33 rfl rfl ?_
  obtain ⟨q4, hq4, h⟩ := bd_some h
  refine L_cW X E hn (As := [.int a1]) (rest := [.ref (β 0 0), .int (1 : Int32), .ref (β (ix a1 + 1) 0)]) (cw_X8_window hn hq4) cal_X8_window wM_X8_183 wI_X8_window wS_X8_window ⟨⟨(Nat.le_of_ble_eq_true rfl), (Nat.le_of_ble_eq_true rfl)⟩, by omega, by omega⟩ rfl rfl (Nat.le_of_ble_eq_true rfl) dX8_waits_34 (fun rv T9 hT9 => ?_)
  obtain ⟨rfl, hT9⟩ := hT9
  rw [hT9]
  obtain ⟨q5, hq5, h⟩ := bd_some h
  refine L_cW X E hn (As := [.int q4]) (rest := [.int (1 : Int32), .ref (β (ix a1 + 1) 0)]) (cw_X8_draw hn hq5) cal_X8_draw wM_X8_187 wI_X8_draw wS_X8_draw ⟨⟨(Nat.le_of_ble_eq_true rfl), (Nat.le_of_ble_eq_true rfl)⟩, by omega, by omega⟩ rfl rfl (Nat.le_of_ble_eq_true rfl) dX8_waits_37 (fun rv T9 hT9 => ?_)
  obtain ⟨rfl, hT9⟩ := hT9
  rw [hT9]
  refine L_iadd X dX8_waits_40 ?_
  obtain ⟨z6, ez6, h⟩ := nm_some h
  refine B_put X hn (N := 16) (k := 6) (c := 7) (kb_b0 (ix_lt g3)) rfl rfl iX7 tyX7_ok nmX7 rfl (by decide) (Or.inr ⟨rfl, by decide⟩) rfl rfl (tyX7_ok _ (by decide)) wF_X8_190 rfl rfl ez6.symm dX8_waits_41 ?_
  obtain rfl := Option.some.inj h
  exact hf _ _ _ dX8_waits_44 ⟨rfl, rfl⟩
set_option maxRecDepth 20000 in
theorem gX8_sendersNear_b4 {g : GX} {ξ : XI} {n : Nat} {β : Nat → Nat → Nat} {ω : Nat → Nat} {e0 tx : Nat} {R : va_W} {Y : St} {res : Int32}  (X : CL g RX8 cX8_sendersNear 4 3 64 0 0) (E : XE g ξ) (hn : n < 9) (hf : FinMi g cX8_sendersNear .int (fun rv T9 => rv = some (.int res) ∧ T9 = wsB (gκ g) n β ω e0 tx Y ++ R) 0 0)  : ∀ (m : Nat) (a1 : Int32) (a2 : Int32) (a3 : Int32) (h : sX8_sendersNear_b4 m n Y a1 a2 a3 = some res), L g 0 0 (wsB (gκ g) n β ω e0 tx Y ++ R) 4 [(0, .ref (β 0 0)), (1, .int a1), (2, .int a2), (3, .int a3)] [] := by
  intro m
  induction m with
  | zero => intro a1 a2 a3 h; unfold sX8_sendersNear_b4 at h; cases h
  | succ m ih =>
    intro a1 a2 a3 h
    unfold sX8_sendersNear_b4 at h
    refine L_iload_n X 3 dX8_sendersNear_4 rfl rfl ?_
    refine L_aload_n X 0 dX8_sendersNear_5 rfl rfl ?_
    refine B_get X hn (N := 12) (k := 10) (c := 8) (o := 0) (j := 0) rfl rfl rfl iX8 rfl (by decide) rfl wF_X8_35 rfl dX8_sendersNear_6 ?_
    refine B_size X E hn wM_X8_172 ⟨⟨(Nat.le_of_ble_eq_true rfl), (Nat.le_of_ble_eq_true rfl)⟩, by omega, by omega⟩ (Nat.le_of_ble_eq_true rfl) dX8_sendersNear_9 ?_
    refine L_icmp_ge X (tgt := 62) dX8_sendersNear_14 (by decide) (fun c1 => ?_) (fun c1 => ?_)
    · have h := it_t c1 h
      refine L_iload_n X 2 dX8_sendersNear_62 rfl rfl ?_
      obtain rfl := Option.some.inj h
      exact hf _ _ _ _ dX8_sendersNear_63 rfl ⟨rfl, rfl⟩
    · have h := it_f c1 h
      refine L_iload_n X 2 dX8_sendersNear_17 rfl rfl ?_
      refine L_aload_n X 0 dX8_sendersNear_18 rfl rfl ?_
      refine B_get X hn (N := 12) (k := 8) (c := 8) (o := 0) (j := 0) rfl rfl rfl iX8 rfl (by decide) rfl wF_X8_25 rfl dX8_sendersNear_19 ?_
      refine L_iload_n X 1 dX8_sendersNear_22 rfl rfl ?_
      obtain ⟨g2, h⟩ := gd_some h
      refine B_row X hn g2 dX8_sendersNear_23 ?_
      refine L_iload_n X 3 dX8_sendersNear_24 rfl rfl ?_
      obtain ⟨g3, h⟩ := gd_some h
      refine B_zald X hn (kb_r (ix_lt g2)) rfl g3 dX8_sendersNear_25 ?_
      refine L_if_eq X (tgt := 53) dX8_sendersNear_26 (by decide) (fun c4 => ?_) (fun c4 => ?_)
      · have h := it_t c4 h
        refine L_iconst X (v := (0 : Int32)) dX8_sendersNear_53 (by decide) ?_
        refine L_iadd X dX8_sendersNear_54 ?_
        refine L_istore_n X (lv' := [(2, .int (a2 + (0 : Int32))), (0, .ref (β 0 0)), (1, .int a1), (3, .int a3)]) dX8_sendersNear_55 rfl (by decide) rfl ?_
        obtain ⟨v5, ev5, h⟩ := nm_some h
        refine L_iinc X (v := v5) (lv' := [(3, .int v5), (2, .int (a2 + (0 : Int32))), (0, .ref (β 0 0)), (1, .int a1)]) 3 dX8_sendersNear_56 rfl (by rw [ev5]; rfl) (by decide) rfl ?_
        refine L_goto X (tgt := 4) dX8_sendersNear_59 (by decide) ?_
        refine L_sub [2, 3, 1, 0] rfl ?_
        exact ih _ _ _ h
      · have h := it_f c4 h
        refine L_aload_n X 0 dX8_sendersNear_29 rfl rfl ?_
        refine B_get X hn (N := 12) (k := 10) (c := 8) (o := 0) (j := 0) rfl rfl rfl iX8 rfl (by decide) rfl wF_X8_35 rfl dX8_sendersNear_30 ?_
        refine L_iload_n X 3 dX8_sendersNear_33 rfl rfl ?_
        obtain ⟨g6, h⟩ := gd_some h
        refine B_lget X E hn g6 wM_X8_155 ⟨⟨(Nat.le_of_ble_eq_true rfl), (Nat.le_of_ble_eq_true rfl)⟩, by omega, by omega⟩ (Nat.le_of_ble_eq_true rfl) dX8_sendersNear_34 ?_
        refine B_cast X hn (ix_lt g6) wCl_X8_55 dX8_sendersNear_39 ?_
        refine B_get X hn (N := 16) (k := 5) (c := 7) (kb_b0 (ix_lt g6)) rfl rfl iX7 rfl (by decide) rfl wF_X8_180 rfl dX8_sendersNear_42 ?_
        refine L_iconst X (v := (3 : Int32)) dX8_sendersNear_45 (by decide) ?_
        refine L_icmp_ne X (tgt := 53) dX8_sendersNear_46 (by decide) (fun c7 => ?_) (fun c7 => ?_)
        · have h := it_t c7 h
          refine L_iconst X (v := (0 : Int32)) dX8_sendersNear_53 (by decide) ?_
          refine L_iadd X dX8_sendersNear_54 ?_
          refine L_istore_n X (lv' := [(2, .int (a2 + (0 : Int32))), (0, .ref (β 0 0)), (1, .int a1), (3, .int a3)]) dX8_sendersNear_55 rfl (by decide) rfl ?_
          obtain ⟨v8, ev8, h⟩ := nm_some h
          refine L_iinc X (v := v8) (lv' := [(3, .int v8), (2, .int (a2 + (0 : Int32))), (0, .ref (β 0 0)), (1, .int a1)]) 3 dX8_sendersNear_56 rfl (by rw [ev8]; rfl) (by decide) rfl ?_
          refine L_goto X (tgt := 4) dX8_sendersNear_59 (by decide) ?_
          refine L_sub [2, 3, 1, 0] rfl ?_
          exact ih _ _ _ h
        · have h := it_f (fun k => k c7) h
          refine L_iconst X (v := (1 : Int32)) dX8_sendersNear_49 (by decide) ?_
          refine L_goto X (tgt := 54) dX8_sendersNear_50 (by decide) ?_
          refine L_iadd X dX8_sendersNear_54 ?_
          refine L_istore_n X (lv' := [(2, .int (a2 + (1 : Int32))), (0, .ref (β 0 0)), (1, .int a1), (3, .int a3)]) dX8_sendersNear_55 rfl (by decide) rfl ?_
          obtain ⟨v9, ev9, h⟩ := nm_some h
          refine L_iinc X (v := v9) (lv' := [(3, .int v9), (2, .int (a2 + (1 : Int32))), (0, .ref (β 0 0)), (1, .int a1)]) 3 dX8_sendersNear_56 rfl (by rw [ev9]; rfl) (by decide) rfl ?_
          refine L_goto X (tgt := 4) dX8_sendersNear_59 (by decide) ?_
          refine L_sub [2, 3, 1, 0] rfl ?_
          exact ih _ _ _ h
set_option maxRecDepth 20000 in
theorem cw_X8_sendersNear {l : Launch} {κ : KX} {ξ : XI} {n : Nat} {β : Nat → Nat → Nat} {ω : Nat → Nat} {e0 tx : Nat} {R : va_W} {Y : St} {a1 : Int32} {res : Int32} (hn : n < 9) (h : sX8_sendersNear n Y a1 = some res) : CtM l κ ξ yX8_sendersNear cX8_sendersNear 4 (some .int) 3 64 0 0 [.ref (β 0 0), .int a1] (wsB κ n β ω e0 tx Y ++ R) (fun rv T9 => rv = some (.int res) ∧ T9 = wsB κ n β ω e0 tx Y ++ R) := by
  refine CtM_i RX8 rfl (by decide +kernel) (Nat.le_of_ble_eq_true rfl) (fun g hgl hgκ X E hf => ?_)
  subst hgl; subst hgκ
  unfold sX8_sendersNear at h
  refine L_iconst X (v := (0 : Int32)) dX8_sendersNear_0 (by decide) ?_
  refine L_istore_n X (lv' := [(2, .int (0 : Int32)), (0, .ref (β 0 0)), (1, .int a1)]) dX8_sendersNear_1 rfl (by decide) rfl ?_
  refine L_iconst X (v := (0 : Int32)) dX8_sendersNear_2 (by decide) ?_
  refine L_istore_n X (lv' := [(3, .int (0 : Int32)), (2, .int (0 : Int32)), (0, .ref (β 0 0)), (1, .int a1)]) dX8_sendersNear_3 rfl (by decide) rfl ?_
  refine L_sub [2, 3, 1, 0] rfl ?_
  exact gX8_sendersNear_b4 X E hn hf FU _ _ _ h
set_option maxRecDepth 20000 in
theorem cw_X8_deaf {l : Launch} {κ : KX} {ξ : XI} {n : Nat} {β : Nat → Nat → Nat} {ω : Nat → Nat} {e0 tx : Nat} {R : va_W} {Y : St} {a1 : Int32} {a2 : Int32} {res : Int32} (hn : n < 9) (h : sX8_deaf n Y a1 a2 = some res) : CtM l κ ξ yX8_deaf cX8_deaf 4 (some .int) 4 87 0 0 [.ref (β 0 0), .int a1, .int a2] (wsB κ n β ω e0 tx Y ++ R) (fun rv T9 => rv = some (.int res) ∧ T9 = wsB κ n β ω e0 tx Y ++ R) := by
  refine CtM_i RX8 rfl (by decide +kernel) (Nat.le_of_ble_eq_true rfl) (fun g hgl hgκ X E hf => ?_)
  subst hgl; subst hgκ
  unfold sX8_deaf at h
  refine L_aload_n X 0 dX8_deaf_0 rfl rfl ?_
  refine B_get X hn (N := 12) (k := 10) (c := 8) (o := 0) (j := 0) rfl rfl rfl iX8 rfl (by decide) rfl wF_X8_35 rfl dX8_deaf_1 ?_
  refine L_iload_n X 1 dX8_deaf_4 rfl rfl ?_
  obtain ⟨g1, h⟩ := gd_some h
  refine B_lget X E hn g1 wM_X8_155 ⟨⟨(Nat.le_of_ble_eq_true rfl), (Nat.le_of_ble_eq_true rfl)⟩, by omega, by omega⟩ (Nat.le_of_ble_eq_true rfl) dX8_deaf_5 ?_
  refine B_cast X hn (ix_lt g1) wCl_X8_55 dX8_deaf_10 ?_
  refine B_get X hn (N := 16) (k := 5) (c := 7) (kb_b0 (ix_lt g1)) rfl rfl iX7 rfl (by decide) rfl wF_X8_180 rfl dX8_deaf_13 ?_
  refine L_istore_n X (lv' := [(3, .int (gI Y (ix a1 + 1) 0 5)), (0, .ref (β 0 0)), (1, .int a1), (2, .int a2)]) dX8_deaf_16 rfl (by decide) rfl ?_
  refine L_aload_n X 1 dX8_deaf_17 rfl rfl ?_
  refine B_get X hn (N := 12) (k := 8) (c := 8) (o := 0) (j := 0) rfl rfl rfl iX8 rfl (by decide) rfl wF_X8_25 rfl dX8_deaf_18 ?_
  refine L_iload_n X 2 dX8_deaf_21 rfl rfl ?_
  obtain ⟨g2, h⟩ := gd_some h
  refine B_row X hn g2 dX8_deaf_22 ?_
  refine L_iload_n X 3 dX8_deaf_23 rfl rfl ?_
  obtain ⟨g3, h⟩ := gd_some h
  refine B_zald X hn (kb_r (ix_lt g2)) rfl g3 dX8_deaf_24 ?_
  refine L_if_ne X (tgt := 30) dX8_deaf_25 (by decide) (fun c4 => ?_) (fun c4 => ?_)
  · have h := it_t c4 h
    refine L_iload_n X 0 dX8_deaf_30 rfl rfl ?_
    refine L_if_eq X (tgt := 39) dX8_deaf_31 (by decide) (fun c5 => ?_) (fun c5 => ?_)
    · have h := it_t c5 h
      refine L_iconst X (v := (2 : Int32)) dX8_deaf_39 (by decide) ?_
      obtain rfl := Option.some.inj h
      exact hf _ _ _ _ dX8_deaf_40 rfl ⟨rfl, rfl⟩
    · have h := it_f c5 h
      refine L_iload_n X 0 dX8_deaf_34 rfl rfl ?_
      refine L_iconst X (v := (4 : Int32)) dX8_deaf_35 (by decide) ?_
      refine L_icmp_ne X (tgt := 41) dX8_deaf_36 (by decide) (fun c6 => ?_) (fun c6 => ?_)
      · have h := it_t c6 h
        refine L_iload_n X 0 dX8_deaf_41 rfl rfl ?_
        refine L_iconst X (v := (3 : Int32)) dX8_deaf_42 (by decide) ?_
        refine L_icmp_ne X (tgt := 50) dX8_deaf_43 (by decide) (fun c7 => ?_) (fun c7 => ?_)
        · have h := it_t c7 h
          refine L_aload_n X 1 dX8_deaf_50 rfl rfl ?_
          refine L_iload_n X 2 dX8_deaf_51 rfl rfl ?_
          obtain ⟨q8, hq8, h⟩ := bd_some h
          refine L_cW X E hn (As := [.int a1]) (rest := []) (cw_X8_sendersNear hn hq8) cal_X8_sendersNear wM_X8_213 wI_X8_sendersNear wS_X8_sendersNear ⟨⟨(Nat.le_of_ble_eq_true rfl), (Nat.le_of_ble_eq_true rfl)⟩, by omega, by omega⟩ rfl rfl (Nat.le_of_ble_eq_true rfl) dX8_deaf_52 (fun rv T9 hT9 => ?_)
          obtain ⟨rfl, hT9⟩ := hT9
          rw [hT9]
          refine L_iconst X (v := (1 : Int32)) dX8_deaf_55 (by decide) ?_
          refine L_icmp_le X (tgt := 63) dX8_deaf_56 (by decide) (fun c9 => ?_) (fun c9 => ?_)
          · have h := it_t c9 h
            refine L_iconst X (v := (0 : Int32)) dX8_deaf_63 (by decide) ?_
            obtain rfl := Option.some.inj h
            exact hf _ _ _ _ dX8_deaf_64 rfl ⟨rfl, rfl⟩
          · have h := it_f c9 h
            refine L_iconst X (v := (4 : Int32)) dX8_deaf_59 (by decide) ?_
            refine L_goto X (tgt := 64) dX8_deaf_60 (by decide) ?_
            obtain rfl := Option.some.inj h
            exact hf _ _ _ _ dX8_deaf_64 rfl ⟨rfl, rfl⟩
        · have h := it_f (fun k => k c7) h
          refine L_iconst X (v := (3 : Int32)) dX8_deaf_46 (by decide) ?_
          refine L_goto X (tgt := 64) dX8_deaf_47 (by decide) ?_
          obtain rfl := Option.some.inj h
          exact hf _ _ _ _ dX8_deaf_64 rfl ⟨rfl, rfl⟩
      · have h := it_f (fun k => k c6) h
        refine L_iconst X (v := (2 : Int32)) dX8_deaf_39 (by decide) ?_
        obtain rfl := Option.some.inj h
        exact hf _ _ _ _ dX8_deaf_40 rfl ⟨rfl, rfl⟩
  · have h := it_f (fun k => k c4) h
    refine L_iconst X (v := (1 : Int32)) dX8_deaf_28 (by decide) ?_
    obtain rfl := Option.some.inj h
    exact hf _ _ _ _ dX8_deaf_29 rfl ⟨rfl, rfl⟩
set_option maxRecDepth 20000 in
theorem gX8_changes_b93 {g : GX} {ξ : XI} {n : Nat} {β : Nat → Nat → Nat} {e0 tx : Nat} {R : va_W}  {res : St}  (X : CL g RX8 cX8_changes 5 5 108 1 16) (E : XE g ξ) (hn : n < 9) (hf : FinMv g cX8_changes (fun rv T9 => ∃ ω9 : Nat → Nat, rv = none ∧ T9 = wsB (gκ g) n β ω9 e0 tx res ++ R) 1 16)  : ∀ (m : Nat) (ω : Nat → Nat) (Y : St) (u : Nat) (a1 : Int32) (b2 : Nat) (a3 : Int32) (a4 : Int32) (hb2 : b2 < n) (hu : u ≤ 1) (h : sX8_changes_b93 m n Y u a1 b2 a3 a4 = some res), L g u (16 * u) (wsB (gκ g) n β ω e0 tx Y ++ R) 93 [(0, .ref (β 0 0)), (1, .int a1), (2, .ref (β (b2 + 1) 0)), (3, .int a3), (4, .int a4)] [] := by
  intro m
  induction m with
  | zero => intro ω Y u a1 b2 a3 a4 hb2 hu h; unfold sX8_changes_b93 at h; cases h
  | succ m ih =>
    intro ω Y u a1 b2 a3 a4 hb2 hu h
    unfold sX8_changes_b93 at h
    refine L_iload X 4 dX8_changes_93 rfl ?_
    refine L_aload_n X 0 dX8_changes_95 rfl rfl ?_
    refine B_get X hn (N := 12) (k := 10) (c := 8) (o := 0) (j := 0) rfl rfl rfl iX8 rfl (by decide) rfl wF_X8_35 rfl dX8_changes_96 ?_
    refine B_size X E hn wM_X8_172 ⟨⟨(Nat.le_of_ble_eq_true rfl), (Nat.le_of_ble_eq_true rfl)⟩, by omega, by omega⟩ (Nat.le_of_ble_eq_true rfl) dX8_changes_99 ?_
    refine L_icmp_ge X (tgt := 151) dX8_changes_104 (by decide) (fun c10 => ?_) (fun c10 => ?_)
    · have h := it_t c10 h
      refine L_aload_n X 2 dX8_changes_151 rfl rfl ?_
      refine B_get X hn (N := 16) (k := 5) (c := 7) (kb_b0 hb2) rfl rfl iX7 rfl (by decide) rfl wF_X8_180 rfl dX8_changes_152 ?_
      refine L_iconst X (v := (3 : Int32)) dX8_changes_155 (by decide) ?_
      refine L_icmp_eq X (tgt := 177) dX8_changes_156 (by decide) (fun c11 => ?_) (fun c11 => ?_)
      · have h := it_t c11 h
        refine L_widen (a' := 1) (b' := 16) (by omega) (by omega) ?_
        obtain rfl := Option.some.inj h
        exact hf _ _ _ dX8_changes_177 ⟨_, rfl, rfl⟩
      · have h := it_f c11 h
        refine L_iload_n X 3 dX8_changes_159 rfl rfl ?_
        refine L_if_ne X (tgt := 177) dX8_changes_160 (by decide) (fun c12 => ?_) (fun c12 => ?_)
        · have h := it_t c12 h
          refine L_widen (a' := 1) (b' := 16) (by omega) (by omega) ?_
          obtain rfl := Option.some.inj h
          exact hf _ _ _ dX8_changes_177 ⟨_, rfl, rfl⟩
        · have h := it_f (fun k => k c12) h
          refine L_aload_n X 2 dX8_changes_163 rfl rfl ?_
          refine L_dup X dX8_changes_164 rfl ?_
          refine B_get X hn (N := 16) (k := 6) (c := 7) (kb_b0 hb2) rfl rfl iX7 rfl (by decide) rfl wF_X8_190 rfl dX8_changes_165 ?_
          refine L_iconst X (v := (1 : Int32)) dX8_changes_168 (by decide) ?_
          refine L_isub X dX8_changes_169 ?_
          obtain ⟨v13, ev13, h⟩ := nm_some h
          refine L_nmi ev13 ?_
          refine L_dup_x1 X dX8_changes_170 rfl rfl ?_
          obtain ⟨z14, ez14, h⟩ := nm_some h
          refine B_put X hn (N := 16) (k := 6) (c := 7) (kb_b0 hb2) rfl rfl iX7 tyX7_ok nmX7 rfl (by decide) (Or.inr ⟨rfl, by decide⟩) rfl rfl (tyX7_ok _ (by decide)) wF_X8_190 rfl rfl ez14.symm dX8_changes_171 ?_
          refine L_if_le X (tgt := 178) dX8_changes_174 (by decide) (fun c15 => ?_) (fun c15 => ?_)
          · have h := it_t c15 h
            refine L_aload_n X 2 dX8_changes_178 rfl rfl ?_
            refine B_get X hn (N := 16) (k := 5) (c := 7) (kb_b0 hb2) rfl rfl iX7 rfl (by decide) rfl wF_X8_180 rfl dX8_changes_179 ?_
            refine L_iconst X (v := (1 : Int32)) dX8_changes_182 (by decide) ?_
            refine L_icmp_ne X (tgt := 192) dX8_changes_183 (by decide) (fun c16 => ?_) (fun c16 => ?_)
            · have h := it_t c16 h
              refine L_aload_n X 2 dX8_changes_192 rfl rfl ?_
              refine L_iconst X (v := (3 : Int32)) dX8_changes_193 (by decide) ?_
              obtain ⟨z17, ez17, h⟩ := nm_some h
              refine B_put X hn (N := 16) (k := 5) (c := 7) (kb_b0 hb2) rfl rfl iX7 tyX7_ok nmX7 rfl (by decide) (Or.inr ⟨rfl, by decide⟩) rfl rfl (tyX7_ok _ (by decide)) wF_X8_180 rfl rfl ez17.symm dX8_changes_194 ?_
              refine L_aload_n X 2 dX8_changes_197 rfl rfl ?_
              refine L_aload_n X 2 dX8_changes_198 rfl rfl ?_
              refine B_get X hn (N := 16) (k := 3) (c := 7) (kb_b0 hb2) rfl rfl iX7 rfl (by decide) rfl wF_X8_85 rfl dX8_changes_199 ?_
              obtain ⟨z18, ez18, h⟩ := nm_some h
              refine B_put X hn (N := 16) (k := 6) (c := 7) (kb_b0 hb2) rfl rfl iX7 tyX7_ok nmX7 rfl (by decide) (Or.inr ⟨rfl, by decide⟩) rfl rfl (tyX7_ok _ (by decide)) wF_X8_190 rfl rfl ez18.symm dX8_changes_202 ?_
              refine L_aload_n X 2 dX8_changes_205 rfl rfl ?_
              refine L_bipush X (v := (8 : Int32)) dX8_changes_206 (by decide) ?_
              obtain ⟨g19, h⟩ := gd_some h
              have g19 := of_decide_eq_true g19
              refine L_newa X (atype := .int) (ty := .int) (t := 0) (N := 8) (a0 := (8, .inl (fun _ => 0))) rfl wA_144 rfl (fun _ => rfl) (by decide) (by decide) (Nat.le_of_ble_eq_true rfl) (by omega) (by omega) dX8_changes_208 (fun q20 => ?_)
              refine L_widen (a' := u + 1) (b' := 16 * (u + 1)) (by omega) (by omega) ?_
              obtain ⟨z21, ez21, h⟩ := nm_some h
              refine B_why X hn hb2 wF_X8_210 ez21.symm dX8_changes_210 ?_
              refine L_widen (a' := 1) (b' := 16) (by omega) (by omega) ?_
              obtain rfl := Option.some.inj h
              exact hf _ _ _ dX8_changes_213 ⟨_, rfl, rfl⟩
            · have h := it_f (fun k => k c16) h
              refine L_aload_n X 0 dX8_changes_186 rfl rfl ?_
              refine L_iload_n X 1 dX8_changes_187 rfl rfl ?_
              obtain ⟨q22, hq22, h⟩ := bd_some h
              refine L_cW X E hn (As := [.int a1]) (rest := []) (cw_X8_waits hn hq22) cal_X8_waits wM_X8_206 wI_X8_waits wS_X8_waits ⟨⟨(Nat.le_of_ble_eq_true rfl), (Nat.le_of_ble_eq_true rfl)⟩, by omega, by omega⟩ rfl rfl (Nat.le_of_ble_eq_true rfl) dX8_changes_188 (fun rv T9 hT9 => ?_)
              obtain ⟨rfl, hT9⟩ := hT9
              rw [hT9]
              refine L_widen (a' := 1) (b' := 16) (by omega) (by omega) ?_
              obtain rfl := Option.some.inj h
              exact hf _ _ _ dX8_changes_191 ⟨_, rfl, rfl⟩
          · have h := it_f c15 h
            refine L_widen (a' := 1) (b' := 16) (by omega) (by omega) ?_
            obtain rfl := Option.some.inj h
            exact hf _ _ _ dX8_changes_177 ⟨_, rfl, rfl⟩
    · have h := it_f c10 h
      refine L_iload_n X 3 dX8_changes_107 rfl rfl ?_
      refine L_aload_n X 2 dX8_changes_108 rfl rfl ?_
      refine B_get X hn (N := 16) (k := 5) (c := 7) (kb_b0 hb2) rfl rfl iX7 rfl (by decide) rfl wF_X8_180 rfl dX8_changes_109 ?_
      refine L_iconst X (v := (2 : Int32)) dX8_changes_112 (by decide) ?_
      refine L_icmp_ne X (tgt := 142) dX8_changes_113 (by decide) (fun c23 => ?_) (fun c23 => ?_)
      · have h := it_t c23 h
        refine L_iconst X (v := (0 : Int32)) dX8_changes_142 (by decide) ?_
        refine L_ior X dX8_changes_143 ?_
        refine L_istore_n X (lv' := [(3, .int (a3 ||| (0 : Int32))), (0, .ref (β 0 0)), (1, .int a1), (2, .ref (β (b2 + 1) 0)), (4, .int a4)]) dX8_changes_144 rfl (by decide) rfl ?_
        obtain ⟨v24, ev24, h⟩ := nm_some h
        refine L_iinc X (v := v24) (lv' := [(4, .int v24), (3, .int (a3 ||| (0 : Int32))), (0, .ref (β 0 0)), (1, .int a1), (2, .ref (β (b2 + 1) 0))]) 4 dX8_changes_145 rfl (by rw [ev24]; rfl) (by decide) rfl ?_
        refine L_goto X (tgt := 93) dX8_changes_148 (by decide) ?_
        refine L_sub [2, 3, 4, 1, 0] rfl ?_
        exact ih _ _ _ _ _ _ _ hb2 (by omega) h
      · have h := it_f (fun k => k c23) h
        refine L_aload_n X 0 dX8_changes_116 rfl rfl ?_
        refine B_get X hn (N := 12) (k := 8) (c := 8) (o := 0) (j := 0) rfl rfl rfl iX8 rfl (by decide) rfl wF_X8_25 rfl dX8_changes_117 ?_
        refine L_iload_n X 1 dX8_changes_120 rfl rfl ?_
        obtain ⟨g25, h⟩ := gd_some h
        refine B_row X hn g25 dX8_changes_121 ?_
        refine L_iload X 4 dX8_changes_122 rfl ?_
        obtain ⟨g26, h⟩ := gd_some h
        refine B_zald X hn (kb_r (ix_lt g25)) rfl g26 dX8_changes_124 ?_
        refine L_if_eq X (tgt := 142) dX8_changes_125 (by decide) (fun c27 => ?_) (fun c27 => ?_)
        · have h := it_t c27 h
          refine L_iconst X (v := (0 : Int32)) dX8_changes_142 (by decide) ?_
          refine L_ior X dX8_changes_143 ?_
          refine L_istore_n X (lv' := [(3, .int (a3 ||| (0 : Int32))), (0, .ref (β 0 0)), (1, .int a1), (2, .ref (β (b2 + 1) 0)), (4, .int a4)]) dX8_changes_144 rfl (by decide) rfl ?_
          obtain ⟨v28, ev28, h⟩ := nm_some h
          refine L_iinc X (v := v28) (lv' := [(4, .int v28), (3, .int (a3 ||| (0 : Int32))), (0, .ref (β 0 0)), (1, .int a1), (2, .ref (β (b2 + 1) 0))]) 4 dX8_changes_145 rfl (by rw [ev28]; rfl) (by decide) rfl ?_
          refine L_goto X (tgt := 93) dX8_changes_148 (by decide) ?_
          refine L_sub [2, 3, 4, 1, 0] rfl ?_
          exact ih _ _ _ _ _ _ _ hb2 (by omega) h
        · have h := it_f c27 h
          refine L_aload_n X 0 dX8_changes_128 rfl rfl ?_
          refine B_get X hn (N := 12) (k := 9) (c := 8) (o := 0) (j := 0) rfl rfl rfl iX8 rfl (by decide) rfl wF_X8_28 rfl dX8_changes_129 ?_
          refine L_iload X 4 dX8_changes_132 rfl ?_
          obtain ⟨g29, h⟩ := gd_some h
          refine B_zald X hn (o := 0) (j := 3) rfl rfl g29 dX8_changes_134 ?_
          refine L_if_eq X (tgt := 142) dX8_changes_135 (by decide) (fun c30 => ?_) (fun c30 => ?_)
          · have h := it_t c30 h
            refine L_iconst X (v := (0 : Int32)) dX8_changes_142 (by decide) ?_
            refine L_ior X dX8_changes_143 ?_
            refine L_istore_n X (lv' := [(3, .int (a3 ||| (0 : Int32))), (0, .ref (β 0 0)), (1, .int a1), (2, .ref (β (b2 + 1) 0)), (4, .int a4)]) dX8_changes_144 rfl (by decide) rfl ?_
            obtain ⟨v31, ev31, h⟩ := nm_some h
            refine L_iinc X (v := v31) (lv' := [(4, .int v31), (3, .int (a3 ||| (0 : Int32))), (0, .ref (β 0 0)), (1, .int a1), (2, .ref (β (b2 + 1) 0))]) 4 dX8_changes_145 rfl (by rw [ev31]; rfl) (by decide) rfl ?_
            refine L_goto X (tgt := 93) dX8_changes_148 (by decide) ?_
            refine L_sub [2, 3, 4, 1, 0] rfl ?_
            exact ih _ _ _ _ _ _ _ hb2 (by omega) h
          · have h := it_f c30 h
            refine L_iconst X (v := (1 : Int32)) dX8_changes_138 (by decide) ?_
            refine L_goto X (tgt := 143) dX8_changes_139 (by decide) ?_
            refine L_ior X dX8_changes_143 ?_
            refine L_istore_n X (lv' := [(3, .int (a3 ||| (1 : Int32))), (0, .ref (β 0 0)), (1, .int a1), (2, .ref (β (b2 + 1) 0)), (4, .int a4)]) dX8_changes_144 rfl (by decide) rfl ?_
            obtain ⟨v32, ev32, h⟩ := nm_some h
            refine L_iinc X (v := v32) (lv' := [(4, .int v32), (3, .int (a3 ||| (1 : Int32))), (0, .ref (β 0 0)), (1, .int a1), (2, .ref (β (b2 + 1) 0))]) 4 dX8_changes_145 rfl (by rw [ev32]; rfl) (by decide) rfl ?_
            refine L_goto X (tgt := 93) dX8_changes_148 (by decide) ?_
            refine L_sub [2, 3, 4, 1, 0] rfl ?_
            exact ih _ _ _ _ _ _ _ hb2 (by omega) h
set_option maxRecDepth 20000 in
theorem gX8_changes_b63 {g : GX} {ξ : XI} {n : Nat} {β : Nat → Nat → Nat} {e0 tx : Nat} {R : va_W}  {res : St}  (X : CL g RX8 cX8_changes 5 5 108 1 16) (E : XE g ξ) (hn : n < 9) (hf : FinMv g cX8_changes (fun rv T9 => ∃ ω9 : Nat → Nat, rv = none ∧ T9 = wsB (gκ g) n β ω9 e0 tx res ++ R) 1 16)  (ω : Nat → Nat) (Y : St) (u : Nat) (b2 : Nat) (as0 : Int32) (bs1 : Nat) (hb2 : b2 < n) (hbs1 : bs1 < n) (hu : u ≤ 1) (h : sX8_changes_b63 n Y u b2 as0 bs1 = some res) : L g u (16 * u) (wsB (gκ g) n β ω e0 tx Y ++ R) 63 [(2, .ref (β (b2 + 1) 0))] [.int as0, .ref (β (bs1 + 1) 0)] := by
  unfold sX8_changes_b63 at h
  obtain ⟨g33, h⟩ := gd_some h
  obtain ⟨z34, ez34, h⟩ := nm_some h
  refine B_put X hn (N := 16) (k := 11) (c := 7) (kb_b0 hbs1) rfl rfl iX7 tyX7_ok nmX7 rfl (by decide) (Or.inr ⟨rfl, by decide⟩) rfl rfl (tyX7_ok _ (by decide)) wF_X8_202 (isb_n g33) (isb_f g33) ez34.symm dX8_changes_63 ?_
  refine L_aload_n X 0 dX8_changes_66 rfl rfl ?_
  refine B_get X hn (N := 16) (k := 11) (c := 7) (kb_b0 hb2) rfl rfl iX7 rfl (by decide) rfl wF_X8_202 rfl dX8_changes_67 ?_
  refine L_if_eq X (tgt := 74) dX8_changes_70 (by decide) (fun c35 => ?_) (fun c35 => ?_)
  · have h := it_t c35 h
    refine L_aload_n X 0 dX8_changes_74 rfl rfl ?_
    refine L_iconst X (v := (1 : Int32)) dX8_changes_75 (by decide) ?_
    obtain ⟨z36, ez36, h⟩ := nm_some h
    refine B_put X hn (N := 16) (k := 5) (c := 7) (kb_b0 hb2) rfl rfl iX7 tyX7_ok nmX7 rfl (by decide) (Or.inr ⟨rfl, by decide⟩) rfl rfl (tyX7_ok _ (by decide)) wF_X8_180 rfl rfl ez36.symm dX8_changes_76 ?_
    refine L_aload_n X 0 dX8_changes_79 rfl rfl ?_
    refine L_aload_n X 0 dX8_changes_80 rfl rfl ?_
    refine B_get X hn (N := 16) (k := 2) (c := 7) (kb_b0 hb2) rfl rfl iX7 rfl (by decide) rfl wF_X8_80 rfl dX8_changes_81 ?_
    obtain ⟨z37, ez37, h⟩ := nm_some h
    refine B_put X hn (N := 16) (k := 6) (c := 7) (kb_b0 hb2) rfl rfl iX7 tyX7_ok nmX7 rfl (by decide) (Or.inr ⟨rfl, by decide⟩) rfl rfl (tyX7_ok _ (by decide)) wF_X8_190 rfl rfl ez37.symm dX8_changes_84 ?_
    refine L_widen (a' := 1) (b' := 16) (by omega) (by omega) ?_
    obtain rfl := Option.some.inj h
    exact hf _ _ _ dX8_changes_87 ⟨_, rfl, rfl⟩
  · have h := it_f c35 h
    refine L_widen (a' := 1) (b' := 16) (by omega) (by omega) ?_
    obtain rfl := Option.some.inj h
    exact hf _ _ _ dX8_changes_73 ⟨_, rfl, rfl⟩
set_option maxRecDepth 20000 in
theorem cw_X8_changes {l : Launch} {κ : KX} {ξ : XI} {n : Nat} {β : Nat → Nat → Nat} {ω : Nat → Nat} {e0 tx : Nat} {R : va_W} {Y : St} {a1 : Int32} {res : St} (hn : n < 9) (h : sX8_changes n Y 0 a1 = some res) : CtM l κ ξ yX8_changes cX8_changes 5 none 5 108 1 16 [.ref (β 0 0), .int a1] (wsB κ n β ω e0 tx Y ++ R) (fun rv T9 => ∃ ω9 : Nat → Nat, rv = none ∧ T9 = wsB κ n β ω9 e0 tx res ++ R) := by
  refine CtM_v RX8 rfl (by decide +kernel) (Nat.le_of_ble_eq_true rfl) (fun g hgl hgκ X E hini hf => ?_)
  subst hgl; subst hgκ
  unfold sX8_changes at h
  refine L_aload_n X 0 dX8_changes_0 rfl rfl ?_
  refine B_get X hn (N := 12) (k := 10) (c := 8) (o := 0) (j := 0) rfl rfl rfl iX8 rfl (by decide) rfl wF_X8_35 rfl dX8_changes_1 ?_
  refine L_iload_n X 1 dX8_changes_4 rfl rfl ?_
  obtain ⟨g1, h⟩ := gd_some h
  refine B_lget X E hn g1 wM_X8_155 ⟨⟨(Nat.le_of_ble_eq_true rfl), (Nat.le_of_ble_eq_true rfl)⟩, by omega, by omega⟩ (Nat.le_of_ble_eq_true rfl) dX8_changes_5 ?_
  refine B_cast X hn (ix_lt g1) wCl_X8_55 dX8_changes_10 ?_
  refine L_astore_n X (lv' := [(2, .ref (β (ix a1 + 1) 0)), (0, .ref (β 0 0)), (1, .int a1)]) dX8_changes_13 rfl (by decide) rfl ?_
  refine L_aload_n X 0 dX8_changes_14 rfl rfl ?_
  refine B_get X hn (N := 16) (k := 5) (c := 7) (kb_b0 (ix_lt g1)) rfl rfl iX7 rfl (by decide) rfl wF_X8_180 rfl dX8_changes_15 ?_
  refine L_if_ne X (tgt := 88) dX8_changes_18 (by decide) (fun c2 => ?_) (fun c2 => ?_)
  · have h := it_t c2 h
    refine L_iconst X (v := (0 : Int32)) dX8_changes_88 (by decide) ?_
    refine L_istore_n X (lv' := [(3, .int (0 : Int32)), (2, .ref (β (ix a1 + 1) 0)), (0, .ref (β 0 0)), (1, .int a1)]) dX8_changes_89 rfl (by decide) rfl ?_
    refine L_iconst X (v := (0 : Int32)) dX8_changes_90 (by decide) ?_
    refine L_istore X (lv' := [(4, .int (0 : Int32)), (3, .int (0 : Int32)), (2, .ref (β (ix a1 + 1) 0)), (0, .ref (β 0 0)), (1, .int a1)]) dX8_changes_91 (by decide) rfl ?_
    refine L_sub [3, 4, 2, 1, 0] rfl ?_
    exact gX8_changes_b93 X E hn hf FU _ _ _ _ _ _ _ (ix_lt g1) (by omega) h
  · have h := it_f (fun k => k c2) h
    refine L_aload_n X 1 dX8_changes_21 rfl rfl ?_
    refine L_iload_n X 2 dX8_changes_22 rfl rfl ?_
    refine L_aload_n X 1 dX8_changes_23 rfl rfl ?_
    refine B_get X hn (N := 12) (k := 0) (c := 8) (o := 0) (j := 0) rfl rfl rfl iX8 rfl (by decide) rfl wF_X8_121 rfl dX8_changes_24 ?_
    obtain ⟨q3, hq3, h⟩ := bd_some h
    refine L_cW X E hn (As := [.int a1, .int (gI Y 0 0 0)]) (rest := []) (cw_X8_isDue hn hq3) cal_X8_isDue wM_X8_193 wI_X8_isDue wS_X8_isDue ⟨⟨(Nat.le_of_ble_eq_true rfl), (Nat.le_of_ble_eq_true rfl)⟩, by omega, by omega⟩ rfl rfl (Nat.le_of_ble_eq_true rfl) dX8_changes_27 (fun rv T9 hT9 => ?_)
    obtain ⟨rfl, hT9⟩ := hT9
    rw [hT9]
    refine L_if_ne X (tgt := 34) dX8_changes_30 (by decide) (fun c4 => ?_) (fun c4 => ?_)
    · have h := it_t c4 h
      refine L_aload_n X 0 dX8_changes_34 rfl rfl ?_
      refine L_aload_n X 1 dX8_changes_35 rfl rfl ?_
      refine L_iload_n X 2 dX8_changes_36 rfl rfl ?_
      obtain ⟨q5, hq5, h⟩ := bd_some h
      refine L_cW X E hn (As := [.int a1]) (rest := [.ref (β (ix a1 + 1) 0)]) (cw_X8_near hn hq5) cal_X8_near wM_X8_196 wI_X8_near wS_X8_near ⟨⟨(Nat.le_of_ble_eq_true rfl), (Nat.le_of_ble_eq_true rfl)⟩, by omega, by omega⟩ rfl rfl (Nat.le_of_ble_eq_true rfl) dX8_changes_37 (fun rv T9 hT9 => ?_)
      obtain ⟨rfl, hT9⟩ := hT9
      rw [hT9]
      refine L_if_le X (tgt := 62) dX8_changes_40 (by decide) (fun c6 => ?_) (fun c6 => ?_)
      · have h := it_t c6 h
        refine L_iconst X (v := (0 : Int32)) dX8_changes_62 (by decide) ?_
        refine L_sub [0] rfl ?_
        exact gX8_changes_b63 X E hn hf _ _ _ _ _ _ (ix_lt g1) (ix_lt g1) (by omega) h
      · have h := it_f c6 h
        refine L_aload_n X 1 dX8_changes_43 rfl rfl ?_
        refine L_iload_n X 2 dX8_changes_44 rfl rfl ?_
        obtain ⟨q7, hq7, h⟩ := bd_some h
        refine L_cW X E hn (As := [.int a1]) (rest := [.ref (β (ix a1 + 1) 0)]) (cw_X8_knowsAll hn hq7) cal_X8_knowsAll wM_X8_198 wI_X8_knowsAll wS_X8_knowsAll ⟨⟨(Nat.le_of_ble_eq_true rfl), (Nat.le_of_ble_eq_true rfl)⟩, by omega, by omega⟩ rfl rfl (Nat.le_of_ble_eq_true rfl) dX8_changes_45 (fun rv T9 hT9 => ?_)
        obtain ⟨rfl, hT9⟩ := hT9
        rw [hT9]
        refine L_if_eq X (tgt := 62) dX8_changes_48 (by decide) (fun c8 => ?_) (fun c8 => ?_)
        · have h := it_t c8 h
          refine L_iconst X (v := (0 : Int32)) dX8_changes_62 (by decide) ?_
          refine L_sub [0] rfl ?_
          exact gX8_changes_b63 X E hn hf _ _ _ _ _ _ (ix_lt g1) (ix_lt g1) (by omega) h
        · have h := it_f c8 h
          refine L_aload_n X 0 dX8_changes_51 rfl rfl ?_
          refine B_get X hn (N := 16) (k := 11) (c := 7) (kb_b0 (ix_lt g1)) rfl rfl iX7 rfl (by decide) rfl wF_X8_202 rfl dX8_changes_52 ?_
          refine L_if_ne X (tgt := 62) dX8_changes_55 (by decide) (fun c9 => ?_) (fun c9 => ?_)
          · have h := it_t c9 h
            refine L_iconst X (v := (0 : Int32)) dX8_changes_62 (by decide) ?_
            refine L_sub [0] rfl ?_
            exact gX8_changes_b63 X E hn hf _ _ _ _ _ _ (ix_lt g1) (ix_lt g1) (by omega) h
          · have h := it_f (fun k => k c9) h
            refine L_iconst X (v := (1 : Int32)) dX8_changes_58 (by decide) ?_
            refine L_goto X (tgt := 63) dX8_changes_59 (by decide) ?_
            refine L_sub [0] rfl ?_
            exact gX8_changes_b63 X E hn hf _ _ _ _ _ _ (ix_lt g1) (ix_lt g1) (by omega) h
    · have h := it_f (fun k => k c4) h
      refine L_widen (a' := 1) (b' := 16) (by omega) (by omega) ?_
      obtain rfl := Option.some.inj h
      exact hf _ _ _ dX8_changes_33 ⟨_, rfl, rfl⟩
set_option maxRecDepth 20000 in
theorem gX8_ends_b214 {g : GX} {ξ : XI} {n : Nat} {β : Nat → Nat → Nat} {ω : Nat → Nat} {e0 tx : Nat} {R : va_W}  {res : St}  (X : CL g RX8 cX8_ends 5 5 106 0 0) (E : XE g ξ) (hn : n < 9) (hf : FinMv g cX8_ends (fun rv T9 => rv = none ∧ T9 = wsB (gκ g) n β ω e0 tx res ++ R) 0 0)  (Y : St) (b2 : Nat) (as0 : Int32) (as1 : Int32) (hb2 : b2 < n) (h : sX8_ends_b214 n Y b2 as0 as1 = some res) : L g 0 0 (wsB (gκ g) n β ω e0 tx Y ++ R) 214 [(2, .ref (β (b2 + 1) 0))] [.int as0, .int as1, .ref (β 0 0)] := by
  unfold sX8_ends_b214 at h
  refine L_iadd X dX8_ends_214 ?_
  obtain ⟨z28, ez28, h⟩ := nm_some h
  refine B_put X hn (N := 12) (k := 5) (c := 8) (o := 0) rfl rfl rfl iX8 tyX8_ok nmX8 rfl (by decide) (Or.inl ⟨rfl, by decide⟩) rfl rfl (tyX8_ok _ (by decide)) wF_X8_127 rfl rfl ez28.symm dX8_ends_215 ?_
  refine L_aload_n X 0 dX8_ends_218 rfl rfl ?_
  refine L_iconst X (v := (0 : Int32)) dX8_ends_219 (by decide) ?_
  obtain ⟨z29, ez29, h⟩ := nm_some h
  refine B_put X hn (N := 16) (k := 7) (c := 7) (kb_b0 hb2) rfl rfl iX7 tyX7_ok nmX7 rfl (by decide) (Or.inr ⟨rfl, by decide⟩) rfl rfl (tyX7_ok _ (by decide)) wF_X8_162 rfl rfl ez29.symm dX8_ends_220 ?_
  refine L_aload_n X 0 dX8_ends_223 rfl rfl ?_
  refine L_iconst X (v := (0 : Int32)) dX8_ends_224 (by decide) ?_
  obtain ⟨z30, ez30, h⟩ := nm_some h
  refine B_put X hn (N := 16) (k := 5) (c := 7) (kb_b0 hb2) rfl rfl iX7 tyX7_ok nmX7 rfl (by decide) (Or.inr ⟨rfl, by decide⟩) rfl rfl (tyX7_ok _ (by decide)) wF_X8_180 rfl rfl ez30.symm dX8_ends_225 ?_
  refine L_aload_n X 0 dX8_ends_228 rfl rfl ?_
  refine L_iconst X (v := (0 : Int32)) dX8_ends_229 (by decide) ?_
  obtain ⟨z31, ez31, h⟩ := nm_some h
  refine B_put X hn (N := 16) (k := 6) (c := 7) (kb_b0 hb2) rfl rfl iX7 tyX7_ok nmX7 rfl (by decide) (Or.inr ⟨rfl, by decide⟩) rfl rfl (tyX7_ok _ (by decide)) wF_X8_190 rfl rfl ez31.symm dX8_ends_230 ?_
  obtain rfl := Option.some.inj h
  exact hf _ _ _ dX8_ends_233 ⟨rfl, rfl⟩
set_option maxRecDepth 20000 in
theorem gX8_ends_b196 {g : GX} {ξ : XI} {n : Nat} {β : Nat → Nat → Nat} {ω : Nat → Nat} {e0 tx : Nat} {R : va_W}  {res : St}  (X : CL g RX8 cX8_ends 5 5 106 0 0) (E : XE g ξ) (hn : n < 9) (hf : FinMv g cX8_ends (fun rv T9 => rv = none ∧ T9 = wsB (gκ g) n β ω e0 tx res ++ R) 0 0)  (Y : St) (b2 : Nat) (a3 : Int32) (as0 : Int32) (as1 : Int32) (bs2 : Nat) (hb2 : b2 < n) (hbs2 : bs2 < n) (h : sX8_ends_b196 n Y b2 a3 as0 as1 bs2 = some res) : L g 0 0 (wsB (gκ g) n β ω e0 tx Y ++ R) 196 [(0, .ref (β 0 0)), (2, .ref (β (b2 + 1) 0)), (3, .int a3)] [.int as0, .int as1, .ref (β (bs2 + 1) 0)] := by
  unfold sX8_ends_b196 at h
  refine L_iadd X dX8_ends_196 ?_
  obtain ⟨z26, ez26, h⟩ := nm_some h
  refine B_put X hn (N := 16) (k := 9) (c := 7) (kb_b0 hbs2) rfl rfl iX7 tyX7_ok nmX7 rfl (by decide) (Or.inr ⟨rfl, by decide⟩) rfl rfl (tyX7_ok _ (by decide)) wF_X8_220 rfl rfl ez26.symm dX8_ends_197 ?_
  refine L_aload_n X 0 dX8_ends_200 rfl rfl ?_
  refine L_dup X dX8_ends_201 rfl ?_
  refine B_get X hn (N := 12) (k := 5) (c := 8) (o := 0) (j := 0) rfl rfl rfl iX8 rfl (by decide) rfl wF_X8_127 rfl dX8_ends_202 ?_
  refine L_iload_n X 2 dX8_ends_205 rfl rfl ?_
  refine L_if_eq X (tgt := 213) dX8_ends_206 (by decide) (fun c27 => ?_) (fun c27 => ?_)
  · have h := it_t c27 h
    refine L_iconst X (v := (1 : Int32)) dX8_ends_213 (by decide) ?_
    refine L_sub [1] rfl ?_
    exact gX8_ends_b214 X E hn hf _ _ _ _ hb2 h
  · have h := it_f c27 h
    refine L_iconst X (v := (0 : Int32)) dX8_ends_209 (by decide) ?_
    refine L_goto X (tgt := 214) dX8_ends_210 (by decide) ?_
    refine L_sub [1] rfl ?_
    exact gX8_ends_b214 X E hn hf _ _ _ _ hb2 h
set_option maxRecDepth 20000 in
theorem gX8_ends_b178 {g : GX} {ξ : XI} {n : Nat} {β : Nat → Nat → Nat} {ω : Nat → Nat} {e0 tx : Nat} {R : va_W}  {res : St}  (X : CL g RX8 cX8_ends 5 5 106 0 0) (E : XE g ξ) (hn : n < 9) (hf : FinMv g cX8_ends (fun rv T9 => rv = none ∧ T9 = wsB (gκ g) n β ω e0 tx res ++ R) 0 0)  (Y : St) (b2 : Nat) (a3 : Int32) (as0 : Int32) (as1 : Int32) (hb2 : b2 < n) (h : sX8_ends_b178 n Y b2 a3 as0 as1 = some res) : L g 0 0 (wsB (gκ g) n β ω e0 tx Y ++ R) 178 [(0, .ref (β 0 0)), (2, .ref (β (b2 + 1) 0)), (3, .int a3)] [.int as0, .int as1, .ref (β 0 0)] := by
  unfold sX8_ends_b178 at h
  refine L_iadd X dX8_ends_178 ?_
  obtain ⟨z24, ez24, h⟩ := nm_some h
  refine B_put X hn (N := 12) (k := 4) (c := 8) (o := 0) rfl rfl rfl iX8 tyX8_ok nmX8 rfl (by decide) (Or.inl ⟨rfl, by decide⟩) rfl rfl (tyX8_ok _ (by decide)) wF_X8_124 rfl rfl ez24.symm dX8_ends_179 ?_
  refine L_aload_n X 1 dX8_ends_182 rfl rfl ?_
  refine L_dup X dX8_ends_183 rfl ?_
  refine B_get X hn (N := 16) (k := 9) (c := 7) (kb_b0 hb2) rfl rfl iX7 rfl (by decide) rfl wF_X8_220 rfl dX8_ends_184 ?_
  refine L_iload_n X 2 dX8_ends_187 rfl rfl ?_
  refine L_if_eq X (tgt := 195) dX8_ends_188 (by decide) (fun c25 => ?_) (fun c25 => ?_)
  · have h := it_t c25 h
    refine L_iconst X (v := (1 : Int32)) dX8_ends_195 (by decide) ?_
    exact gX8_ends_b196 X E hn hf _ _ _ _ _ _ hb2 hb2 h
  · have h := it_f c25 h
    refine L_iconst X (v := (0 : Int32)) dX8_ends_191 (by decide) ?_
    refine L_goto X (tgt := 196) dX8_ends_192 (by decide) ?_
    exact gX8_ends_b196 X E hn hf _ _ _ _ _ _ hb2 hb2 h
set_option maxRecDepth 20000 in
theorem gX8_ends_b160 {g : GX} {ξ : XI} {n : Nat} {β : Nat → Nat → Nat} {ω : Nat → Nat} {e0 tx : Nat} {R : va_W}  {res : St}  (X : CL g RX8 cX8_ends 5 5 106 0 0) (E : XE g ξ) (hn : n < 9) (hf : FinMv g cX8_ends (fun rv T9 => rv = none ∧ T9 = wsB (gκ g) n β ω e0 tx res ++ R) 0 0)  (Y : St) (b2 : Nat) (a3 : Int32) (as0 : Int32) (as1 : Int32) (bs2 : Nat) (hb2 : b2 < n) (hbs2 : bs2 < n) (h : sX8_ends_b160 n Y b2 a3 as0 as1 bs2 = some res) : L g 0 0 (wsB (gκ g) n β ω e0 tx Y ++ R) 160 [(0, .ref (β 0 0)), (2, .ref (β (b2 + 1) 0)), (3, .int a3)] [.int as0, .int as1, .ref (β (bs2 + 1) 0)] := by
  unfold sX8_ends_b160 at h
  refine L_iadd X dX8_ends_160 ?_
  obtain ⟨z22, ez22, h⟩ := nm_some h
  refine B_put X hn (N := 16) (k := 8) (c := 7) (kb_b0 hbs2) rfl rfl iX7 tyX7_ok nmX7 rfl (by decide) (Or.inr ⟨rfl, by decide⟩) rfl rfl (tyX7_ok _ (by decide)) wF_X8_219 rfl rfl ez22.symm dX8_ends_161 ?_
  refine L_aload_n X 0 dX8_ends_164 rfl rfl ?_
  refine L_dup X dX8_ends_165 rfl ?_
  refine B_get X hn (N := 12) (k := 4) (c := 8) (o := 0) (j := 0) rfl rfl rfl iX8 rfl (by decide) rfl wF_X8_124 rfl dX8_ends_166 ?_
  refine L_iload_n X 2 dX8_ends_169 rfl rfl ?_
  refine L_if_eq X (tgt := 177) dX8_ends_170 (by decide) (fun c23 => ?_) (fun c23 => ?_)
  · have h := it_t c23 h
    refine L_iconst X (v := (0 : Int32)) dX8_ends_177 (by decide) ?_
    exact gX8_ends_b178 X E hn hf _ _ _ _ _ hb2 h
  · have h := it_f c23 h
    refine L_iconst X (v := (1 : Int32)) dX8_ends_173 (by decide) ?_
    refine L_goto X (tgt := 178) dX8_ends_174 (by decide) ?_
    exact gX8_ends_b178 X E hn hf _ _ _ _ _ hb2 h
set_option maxRecDepth 20000 in
theorem gX8_ends_b146 {g : GX} {ξ : XI} {n : Nat} {β : Nat → Nat → Nat} {ω : Nat → Nat} {e0 tx : Nat} {R : va_W}  {res : St}  (X : CL g RX8 cX8_ends 5 5 106 0 0) (E : XE g ξ) (hn : n < 9) (hf : FinMv g cX8_ends (fun rv T9 => rv = none ∧ T9 = wsB (gκ g) n β ω e0 tx res ++ R) 0 0)  (Y : St) (b2 : Nat) (a3 : Int32) (hb2 : b2 < n) (h : sX8_ends_b146 n Y b2 a3 = some res) : L g 0 0 (wsB (gκ g) n β ω e0 tx Y ++ R) 146 [(0, .ref (β 0 0)), (2, .ref (β (b2 + 1) 0)), (3, .int a3)] [] := by
  unfold sX8_ends_b146 at h
  refine L_aload_n X 1 dX8_ends_146 rfl rfl ?_
  refine L_dup X dX8_ends_147 rfl ?_
  refine B_get X hn (N := 16) (k := 8) (c := 7) (kb_b0 hb2) rfl rfl iX7 rfl (by decide) rfl wF_X8_219 rfl dX8_ends_148 ?_
  refine L_iload_n X 2 dX8_ends_151 rfl rfl ?_
  refine L_if_eq X (tgt := 159) dX8_ends_152 (by decide) (fun c21 => ?_) (fun c21 => ?_)
  · have h := it_t c21 h
    refine L_iconst X (v := (0 : Int32)) dX8_ends_159 (by decide) ?_
    exact gX8_ends_b160 X E hn hf _ _ _ _ _ _ hb2 hb2 h
  · have h := it_f c21 h
    refine L_iconst X (v := (1 : Int32)) dX8_ends_155 (by decide) ?_
    refine L_goto X (tgt := 160) dX8_ends_156 (by decide) ?_
    exact gX8_ends_b160 X E hn hf _ _ _ _ _ _ hb2 hb2 h
set_option maxRecDepth 20000 in
theorem gX8_ends_b122 {g : GX} {ξ : XI} {n : Nat} {β : Nat → Nat → Nat} {ω : Nat → Nat} {e0 tx : Nat} {R : va_W}  {res : St}  (X : CL g RX8 cX8_ends 5 5 106 0 0) (E : XE g ξ) (hn : n < 9) (hf : FinMv g cX8_ends (fun rv T9 => rv = none ∧ T9 = wsB (gκ g) n β ω e0 tx res ++ R) 0 0)  (Y : St) (a1 : Int32) (b2 : Nat) (a3 : Int32) (as0 : Int32) (bs1 : Nat) (hb2 : b2 < n) (hbs1 : bs1 < n) (h : sX8_ends_b122 n Y a1 b2 a3 as0 bs1 = some res) : L g 0 0 (wsB (gκ g) n β ω e0 tx Y ++ R) 122 [(0, .ref (β 0 0)), (1, .int a1), (2, .ref (β (b2 + 1) 0)), (3, .int a3)] [.int as0, .ref (β (bs1 + 1) 0)] := by
  unfold sX8_ends_b122 at h
  obtain ⟨z6, ez6, h⟩ := nm_some h
  refine B_put X hn (N := 16) (k := 7) (c := 7) (kb_b0 hbs1) rfl rfl iX7 tyX7_ok nmX7 rfl (by decide) (Or.inr ⟨rfl, by decide⟩) rfl rfl (tyX7_ok _ (by decide)) wF_X8_162 rfl rfl ez6.symm dX8_ends_122 ?_
  refine L_iload_n X 3 dX8_ends_125 rfl rfl ?_
  refine L_if_ne X (tgt := 146) dX8_ends_126 (by decide) (fun c7 => ?_) (fun c7 => ?_)
  · have h := it_t c7 h
    refine L_sub [0, 2, 3] rfl ?_
    exact gX8_ends_b146 X E hn hf _ _ _ hb2 h
  · have h := it_f (fun k => k c7) h
    refine L_aload_n X 2 dX8_ends_129 rfl rfl ?_
    refine B_get X hn (N := 16) (k := 7) (c := 7) (kb_b0 hb2) rfl rfl iX7 rfl (by decide) rfl wF_X8_162 rfl dX8_ends_130 ?_
    refine L_aload_n X 0 dX8_ends_133 rfl rfl ?_
    refine B_get X hn (N := 12) (k := 2) (c := 8) (o := 0) (j := 0) rfl rfl rfl iX8 rfl (by decide) rfl wF_X8_13 rfl dX8_ends_134 ?_
    refine L_icmp_ge X (tgt := 146) dX8_ends_137 (by decide) (fun c8 => ?_) (fun c8 => ?_)
    · have h := it_t c8 h
      refine L_sub [0, 2, 3] rfl ?_
      exact gX8_ends_b146 X E hn hf _ _ _ hb2 h
    · have h := it_f c8 h
      refine L_aload_n X 0 dX8_ends_140 rfl rfl ?_
      refine L_iload_n X 1 dX8_ends_141 rfl rfl ?_
      obtain ⟨q9, hq9, h⟩ := bd_some h
      refine L_cW X E hn (As := [.int a1]) (rest := []) (cw_X8_waits hn hq9) cal_X8_waits wM_X8_206 wI_X8_waits wS_X8_waits ⟨⟨(Nat.le_of_ble_eq_true rfl), (Nat.le_of_ble_eq_true rfl)⟩, by omega, by omega⟩ rfl rfl (Nat.le_of_ble_eq_true rfl) dX8_ends_142 (fun rv T9 hT9 => ?_)
      obtain ⟨rfl, hT9⟩ := hT9
      rw [hT9]
      obtain rfl := Option.some.inj h
      exact hf _ _ _ dX8_ends_145 ⟨rfl, rfl⟩
set_option maxRecDepth 20000 in
theorem gX8_ends_b56 {g : GX} {ξ : XI} {n : Nat} {β : Nat → Nat → Nat} {ω : Nat → Nat} {e0 tx : Nat} {R : va_W}  {res : St} {k19 : St → Int32 → Nat → Int32 → Int32 → Option (St)} (X : CL g RX8 cX8_ends 5 5 106 0 0) (E : XE g ξ) (hn : n < 9) (hf : FinMv g cX8_ends (fun rv T9 => rv = none ∧ T9 = wsB (gκ g) n β ω e0 tx res ++ R) 0 0) (hk19 : ∀ (Y' : St) (a1' : Int32) (b2' : Nat) (a3' : Int32) (a4' : Int32) (hb2' : b2' < n), k19 Y' a1' b2' a3' a4' = some res → L g 0 0 (wsB (gκ g) n β ω e0 tx Y' ++ R) 19 [(0, .ref (β 0 0)), (1, .int a1'), (2, .ref (β (b2' + 1) 0)), (3, .int a3'), (4, .int a4')] []) (Y : St) (a1 : Int32) (b2 : Nat) (a3 : Int32) (a4 : Int32) (as0 : Int32) (as1 : Int32) (bs2 : Nat) (hb2 : b2 < n) (hbs2 : bs2 < n) (h : sX8_ends_b56 k19 n Y a1 b2 a3 a4 as0 as1 bs2 = some res) : L g 0 0 (wsB (gκ g) n β ω e0 tx Y ++ R) 56 [(0, .ref (β 0 0)), (1, .int a1), (2, .ref (β (b2 + 1) 0)), (3, .int a3), (4, .int a4)] [.int as0, .int as1, .ref (β (bs2 + 1) 4)] := by
  unfold sX8_ends_b56 at h
  obtain ⟨g10, h⟩ := gd_some h
  obtain ⟨z11, ez11, h⟩ := nm_some h
  refine B_iast X hn (kb_b4 hbs2) rfl g10 ez11.symm dX8_ends_56 ?_
  refine L_iload X 4 dX8_ends_57 rfl ?_
  refine L_iload_n X 1 dX8_ends_59 rfl rfl ?_
  refine L_icmp_eq X (tgt := 101) dX8_ends_60 (by decide) (fun c12 => ?_) (fun c12 => ?_)
  · have h := it_t c12 h
    obtain ⟨v13, ev13, h⟩ := nm_some h
    refine L_iinc X (v := v13) (lv' := [(4, .int v13), (0, .ref (β 0 0)), (1, .int a1), (2, .ref (β (b2 + 1) 0)), (3, .int a3)]) 4 dX8_ends_101 rfl (by rw [ev13]; rfl) (by decide) rfl ?_
    refine L_goto X (tgt := 19) dX8_ends_104 (by decide) ?_
    refine L_sub [1, 2, 3, 4, 0] rfl ?_
    exact hk19 _ _ _ _ _ hb2 h
  · have h := it_f c12 h
    refine L_aload_n X 2 dX8_ends_63 rfl rfl ?_
    refine B_get X hn (N := 16) (k := 14) (c := 7) (kb_b0 hb2) rfl rfl iX7 rfl (by decide) rfl wF_X8_210 rfl dX8_ends_64 ?_
    refine L_iload X 4 dX8_ends_67 rfl ?_
    obtain ⟨g14, h⟩ := gd_some h
    refine B_iald X hn (kb_b3 hb2) rfl g14 dX8_ends_69 ?_
    refine L_if_eq X (tgt := 76) dX8_ends_70 (by decide) (fun c15 => ?_) (fun c15 => ?_)
    · have h := it_t c15 h
      refine L_iconst X (v := (1 : Int32)) dX8_ends_76 (by decide) ?_
      refine L_istore_n X (lv' := [(3, .int (1 : Int32)), (0, .ref (β 0 0)), (1, .int a1), (2, .ref (β (b2 + 1) 0)), (4, .int a4)]) dX8_ends_77 rfl (by decide) rfl ?_
      refine L_aload_n X 1 dX8_ends_78 rfl rfl ?_
      refine B_get X hn (N := 12) (k := 10) (c := 8) (o := 0) (j := 0) rfl rfl rfl iX8 rfl (by decide) rfl wF_X8_35 rfl dX8_ends_79 ?_
      refine L_iload X 4 dX8_ends_82 rfl ?_
      obtain ⟨g16, h⟩ := gd_some h
      refine B_lget X E hn g16 wM_X8_155 ⟨⟨(Nat.le_of_ble_eq_true rfl), (Nat.le_of_ble_eq_true rfl)⟩, by omega, by omega⟩ (Nat.le_of_ble_eq_true rfl) dX8_ends_84 ?_
      refine B_cast X hn (ix_lt g16) wCl_X8_55 dX8_ends_89 ?_
      refine B_get X hn (N := 16) (k := 13) (c := 7) (kb_b0 (ix_lt g16)) rfl rfl iX7 rfl (by decide) rfl wF_X8_159 rfl dX8_ends_92 ?_
      refine L_iload_n X 2 dX8_ends_95 rfl rfl ?_
      refine L_aload_n X 1 dX8_ends_96 rfl rfl ?_
      refine B_get X hn (N := 12) (k := 0) (c := 8) (o := 0) (j := 0) rfl rfl rfl iX8 rfl (by decide) rfl wF_X8_121 rfl dX8_ends_97 ?_
      obtain ⟨g17, h⟩ := gd_some h
      obtain ⟨z18, ez18, h⟩ := nm_some h
      refine B_iast X hn (kb_b2 (ix_lt g16)) rfl g17 ez18.symm dX8_ends_100 ?_
      obtain ⟨v19, ev19, h⟩ := nm_some h
      refine L_iinc X (v := v19) (lv' := [(4, .int v19), (3, .int (1 : Int32)), (0, .ref (β 0 0)), (1, .int a1), (2, .ref (β (b2 + 1) 0))]) 4 dX8_ends_101 rfl (by rw [ev19]; rfl) (by decide) rfl ?_
      refine L_goto X (tgt := 19) dX8_ends_104 (by decide) ?_
      refine L_sub [2, 3, 4, 1, 0] rfl ?_
      exact hk19 _ _ _ _ _ hb2 h
    · have h := it_f c15 h
      refine L_goto X (tgt := 101) dX8_ends_73 (by decide) ?_
      obtain ⟨v20, ev20, h⟩ := nm_some h
      refine L_iinc X (v := v20) (lv' := [(4, .int v20), (0, .ref (β 0 0)), (1, .int a1), (2, .ref (β (b2 + 1) 0)), (3, .int a3)]) 4 dX8_ends_101 rfl (by rw [ev20]; rfl) (by decide) rfl ?_
      refine L_goto X (tgt := 19) dX8_ends_104 (by decide) ?_
      refine L_sub [1, 2, 3, 4, 0] rfl ?_
      exact hk19 _ _ _ _ _ hb2 h
set_option maxRecDepth 20000 in
theorem gX8_ends_b19 {g : GX} {ξ : XI} {n : Nat} {β : Nat → Nat → Nat} {ω : Nat → Nat} {e0 tx : Nat} {R : va_W}  {res : St}  (X : CL g RX8 cX8_ends 5 5 106 0 0) (E : XE g ξ) (hn : n < 9) (hf : FinMv g cX8_ends (fun rv T9 => rv = none ∧ T9 = wsB (gκ g) n β ω e0 tx res ++ R) 0 0)  : ∀ (m : Nat) (Y : St) (a1 : Int32) (b2 : Nat) (a3 : Int32) (a4 : Int32) (hb2 : b2 < n) (h : sX8_ends_b19 m n Y a1 b2 a3 a4 = some res), L g 0 0 (wsB (gκ g) n β ω e0 tx Y ++ R) 19 [(0, .ref (β 0 0)), (1, .int a1), (2, .ref (β (b2 + 1) 0)), (3, .int a3), (4, .int a4)] [] := by
  intro m
  induction m with
  | zero => intro Y a1 b2 a3 a4 hb2 h; unfold sX8_ends_b19 at h; cases h
  | succ m ih =>
    intro Y a1 b2 a3 a4 hb2 h
    unfold sX8_ends_b19 at h
    refine L_iload X 4 dX8_ends_19 rfl ?_
    refine L_aload_n X 0 dX8_ends_21 rfl rfl ?_
    refine B_get X hn (N := 12) (k := 10) (c := 8) (o := 0) (j := 0) rfl rfl rfl iX8 rfl (by decide) rfl wF_X8_35 rfl dX8_ends_22 ?_
    refine B_size X E hn wM_X8_172 ⟨⟨(Nat.le_of_ble_eq_true rfl), (Nat.le_of_ble_eq_true rfl)⟩, by omega, by omega⟩ (Nat.le_of_ble_eq_true rfl) dX8_ends_25 ?_
    refine L_icmp_ge X (tgt := 107) dX8_ends_30 (by decide) (fun c2 => ?_) (fun c2 => ?_)
    · have h := it_t c2 h
      refine L_aload_n X 2 dX8_ends_107 rfl rfl ?_
      refine L_iload_n X 3 dX8_ends_108 rfl rfl ?_
      refine L_if_eq X (tgt := 116) dX8_ends_109 (by decide) (fun c3 => ?_) (fun c3 => ?_)
      · have h := it_t c3 h
        refine L_aload_n X 2 dX8_ends_116 rfl rfl ?_
        refine B_get X hn (N := 16) (k := 7) (c := 7) (kb_b0 hb2) rfl rfl iX7 rfl (by decide) rfl wF_X8_162 rfl dX8_ends_117 ?_
        refine L_iconst X (v := (1 : Int32)) dX8_ends_120 (by decide) ?_
        refine L_iadd X dX8_ends_121 ?_
        refine L_sub [0, 1, 2, 3] rfl ?_
        exact gX8_ends_b122 X E hn hf _ _ _ _ _ _ hb2 hb2 h
      · have h := it_f c3 h
        refine L_iconst X (v := (0 : Int32)) dX8_ends_112 (by decide) ?_
        refine L_goto X (tgt := 122) dX8_ends_113 (by decide) ?_
        refine L_sub [0, 1, 2, 3] rfl ?_
        exact gX8_ends_b122 X E hn hf _ _ _ _ _ _ hb2 hb2 h
    · have h := it_f c2 h
      refine L_aload_n X 2 dX8_ends_33 rfl rfl ?_
      refine B_get X hn (N := 16) (k := 15) (c := 7) (kb_b0 hb2) rfl rfl iX7 rfl (by decide) rfl wF_X8_216 rfl dX8_ends_34 ?_
      refine L_iload X 4 dX8_ends_37 rfl ?_
      refine L_iload X 4 dX8_ends_39 rfl ?_
      refine L_iload_n X 1 dX8_ends_41 rfl rfl ?_
      refine L_icmp_ne X (tgt := 49) dX8_ends_42 (by decide) (fun c4 => ?_) (fun c4 => ?_)
      · have h := it_t c4 h
        refine L_aload_n X 2 dX8_ends_49 rfl rfl ?_
        refine B_get X hn (N := 16) (k := 14) (c := 7) (kb_b0 hb2) rfl rfl iX7 rfl (by decide) rfl wF_X8_210 rfl dX8_ends_50 ?_
        refine L_iload X 4 dX8_ends_53 rfl ?_
        obtain ⟨g5, h⟩ := gd_some h
        refine B_iald X hn (kb_b3 hb2) rfl g5 dX8_ends_55 ?_
        exact gX8_ends_b56 X E hn hf (fun y0 y1 y2 y3 y4 y5 h => ih y0 y1 y2 y3 y4 y5 h) _ _ _ _ _ _ _ _ hb2 hb2 h
      · have h := it_f (fun k => k c4) h
        refine L_iconst X (v := (5 : Int32)) dX8_ends_45 (by decide) ?_
        refine L_goto X (tgt := 56) dX8_ends_46 (by decide) ?_
        exact gX8_ends_b56 X E hn hf (fun y0 y1 y2 y3 y4 y5 h => ih y0 y1 y2 y3 y4 y5 h) _ _ _ _ _ _ _ _ hb2 hb2 h
set_option maxRecDepth 20000 in
theorem cw_X8_ends {l : Launch} {κ : KX} {ξ : XI} {n : Nat} {β : Nat → Nat → Nat} {ω : Nat → Nat} {e0 tx : Nat} {R : va_W} {Y : St} {a1 : Int32} {res : St} (hn : n < 9) (h : sX8_ends n Y a1 = some res) : CtM l κ ξ yX8_ends cX8_ends 5 none 5 106 0 0 [.ref (β 0 0), .int a1] (wsB κ n β ω e0 tx Y ++ R) (fun rv T9 => rv = none ∧ T9 = wsB κ n β ω e0 tx res ++ R) := by
  refine CtM_v RX8 rfl (by decide +kernel) (Nat.le_of_ble_eq_true rfl) (fun g hgl hgκ X E hini hf => ?_)
  subst hgl; subst hgκ
  unfold sX8_ends at h
  refine L_aload_n X 0 dX8_ends_0 rfl rfl ?_
  refine B_get X hn (N := 12) (k := 10) (c := 8) (o := 0) (j := 0) rfl rfl rfl iX8 rfl (by decide) rfl wF_X8_35 rfl dX8_ends_1 ?_
  refine L_iload_n X 1 dX8_ends_4 rfl rfl ?_
  obtain ⟨g1, h⟩ := gd_some h
  refine B_lget X E hn g1 wM_X8_155 ⟨⟨(Nat.le_of_ble_eq_true rfl), (Nat.le_of_ble_eq_true rfl)⟩, by omega, by omega⟩ (Nat.le_of_ble_eq_true rfl) dX8_ends_5 ?_
  refine B_cast X hn (ix_lt g1) wCl_X8_55 dX8_ends_10 ?_
  refine L_astore_n X (lv' := [(2, .ref (β (ix a1 + 1) 0)), (0, .ref (β 0 0)), (1, .int a1)]) dX8_ends_13 rfl (by decide) rfl ?_
  refine L_iconst X (v := (0 : Int32)) dX8_ends_14 (by decide) ?_
  refine L_istore_n X (lv' := [(3, .int (0 : Int32)), (2, .ref (β (ix a1 + 1) 0)), (0, .ref (β 0 0)), (1, .int a1)]) dX8_ends_15 rfl (by decide) rfl ?_
  refine L_iconst X (v := (0 : Int32)) dX8_ends_16 (by decide) ?_
  refine L_istore X (lv' := [(4, .int (0 : Int32)), (3, .int (0 : Int32)), (2, .ref (β (ix a1 + 1) 0)), (0, .ref (β 0 0)), (1, .int a1)]) dX8_ends_17 (by decide) rfl ?_
  refine L_sub [3, 4, 2, 1, 0] rfl ?_
  exact gX8_ends_b19 X E hn hf FU _ _ _ _ _ (ix_lt g1) h
set_option maxRecDepth 20000 in
theorem gX8_slot_b365 {g : GX} {ξ : XI} {n : Nat} {β : Nat → Nat → Nat} {e0 tx : Nat} {R : va_W}  {res : St × Int32}  (X : CL g RX8 cX8_slot 5 6 132 9 144) (E : XE g ξ) (hn : n < 9) (hf : FinMi g cX8_slot .int (fun rv T9 => ∃ ω9 : Nat → Nat, rv = some (.int res.2) ∧ T9 = wsB (gκ g) n β ω9 e0 tx res.1 ++ R) 9 144)  : ∀ (m : Nat) (ω : Nat → Nat) (Y : St) (u : Nat) (a1 : Int32) (a2 : Int32) (hu : u ≤ 9) (h : sX8_slot_b365 m n Y u a1 a2 = some res), L g u (16 * u) (wsB (gκ g) n β ω e0 tx Y ++ R) 365 [(0, .ref (β 0 0)), (1, .int a1), (2, .int a2)] [] := by
  intro m
  induction m with
  | zero => intro ω Y u a1 a2 hu h; unfold sX8_slot_b365 at h; cases h
  | succ m ih =>
    intro ω Y u a1 a2 hu h
    unfold sX8_slot_b365 at h
    refine L_iload_n X 2 dX8_slot_365 rfl rfl ?_
    refine L_aload_n X 0 dX8_slot_366 rfl rfl ?_
    refine B_get X hn (N := 12) (k := 10) (c := 8) (o := 0) (j := 0) rfl rfl rfl iX8 rfl (by decide) rfl wF_X8_35 rfl dX8_slot_367 ?_
    refine B_size X E hn wM_X8_172 ⟨⟨(Nat.le_of_ble_eq_true rfl), (Nat.le_of_ble_eq_true rfl)⟩, by omega, by omega⟩ (Nat.le_of_ble_eq_true rfl) dX8_slot_370 ?_
    refine L_icmp_ge X (tgt := 424) dX8_slot_375 (by decide) (fun c46 => ?_) (fun c46 => ?_)
    · have h := it_t c46 h
      refine L_aload_n X 0 dX8_slot_424 rfl rfl ?_
      refine B_get X hn (N := 12) (k := 4) (c := 8) (o := 0) (j := 0) rfl rfl rfl iX8 rfl (by decide) rfl wF_X8_124 rfl dX8_slot_425 ?_
      refine L_iload_n X 1 dX8_slot_428 rfl rfl ?_
      refine L_isub X dX8_slot_429 ?_
      refine L_widen (a' := 9) (b' := 144) (by omega) (by omega) ?_
      obtain rfl := Option.some.inj h
      exact hf _ _ _ _ dX8_slot_430 rfl ⟨_, rfl, rfl⟩
    · have h := it_f c46 h
      refine L_aload_n X 0 dX8_slot_378 rfl rfl ?_
      refine B_get X hn (N := 12) (k := 9) (c := 8) (o := 0) (j := 0) rfl rfl rfl iX8 rfl (by decide) rfl wF_X8_28 rfl dX8_slot_379 ?_
      refine L_iload_n X 2 dX8_slot_382 rfl rfl ?_
      obtain ⟨g47, h⟩ := gd_some h
      refine B_zald X hn (o := 0) (j := 3) rfl rfl g47 dX8_slot_383 ?_
      refine L_if_eq X (tgt := 418) dX8_slot_384 (by decide) (fun c48 => ?_) (fun c48 => ?_)
      · have h := it_t c48 h
        obtain ⟨v49, ev49, h⟩ := nm_some h
        refine L_iinc X (v := v49) (lv' := [(2, .int v49), (0, .ref (β 0 0)), (1, .int a1)]) 2 dX8_slot_418 rfl (by rw [ev49]; rfl) (by decide) rfl ?_
        refine L_goto X (tgt := 365) dX8_slot_421 (by decide) ?_
        refine L_sub [1, 2, 0] rfl ?_
        exact ih _ _ _ _ _ (by omega) h
      · have h := it_f c48 h
        refine L_aload_n X 0 dX8_slot_387 rfl rfl ?_
        refine B_get X hn (N := 12) (k := 10) (c := 8) (o := 0) (j := 0) rfl rfl rfl iX8 rfl (by decide) rfl wF_X8_35 rfl dX8_slot_388 ?_
        refine L_iload_n X 2 dX8_slot_391 rfl rfl ?_
        obtain ⟨g50, h⟩ := gd_some h
        refine B_lget X E hn g50 wM_X8_155 ⟨⟨(Nat.le_of_ble_eq_true rfl), (Nat.le_of_ble_eq_true rfl)⟩, by omega, by omega⟩ (Nat.le_of_ble_eq_true rfl) dX8_slot_392 ?_
        refine B_cast X hn (ix_lt g50) wCl_X8_55 dX8_slot_397 ?_
        refine L_dup X dX8_slot_400 rfl ?_
        refine B_get X hn (N := 16) (k := 6) (c := 7) (kb_b0 (ix_lt g50)) rfl rfl iX7 rfl (by decide) rfl wF_X8_190 rfl dX8_slot_401 ?_
        refine L_iconst X (v := (1 : Int32)) dX8_slot_404 (by decide) ?_
        refine L_isub X dX8_slot_405 ?_
        obtain ⟨v51, ev51, h⟩ := nm_some h
        refine L_nmi ev51 ?_
        refine L_dup_x1 X dX8_slot_406 rfl rfl ?_
        obtain ⟨z52, ez52, h⟩ := nm_some h
        refine B_put X hn (N := 16) (k := 6) (c := 7) (kb_b0 (ix_lt g50)) rfl rfl iX7 tyX7_ok nmX7 rfl (by decide) (Or.inr ⟨rfl, by decide⟩) rfl rfl (tyX7_ok _ (by decide)) wF_X8_190 rfl rfl ez52.symm dX8_slot_407 ?_
        refine L_if_ne X (tgt := 418) dX8_slot_410 (by decide) (fun c53 => ?_) (fun c53 => ?_)
        · have h := it_t c53 h
          obtain ⟨v54, ev54, h⟩ := nm_some h
          refine L_iinc X (v := v54) (lv' := [(2, .int v54), (0, .ref (β 0 0)), (1, .int a1)]) 2 dX8_slot_418 rfl (by rw [ev54]; rfl) (by decide) rfl ?_
          refine L_goto X (tgt := 365) dX8_slot_421 (by decide) ?_
          refine L_sub [1, 2, 0] rfl ?_
          exact ih _ _ _ _ _ (by omega) h
        · have h := it_f (fun k => k c53) h
          refine L_aload_n X 0 dX8_slot_413 rfl rfl ?_
          refine L_iload_n X 2 dX8_slot_414 rfl rfl ?_
          obtain ⟨q55, hq55, h⟩ := bd_some h
          refine L_cW X E hn (As := [.int a2]) (rest := []) (cw_X8_ends hn hq55) cal_X8_ends wM_X8_233 wI_X8_ends wS_X8_ends ⟨⟨(Nat.le_of_ble_eq_true rfl), (Nat.le_of_ble_eq_true rfl)⟩, by omega, by omega⟩ rfl rfl (Nat.le_of_ble_eq_true rfl) dX8_slot_415 (fun rv T9 hT9 => ?_)
          obtain ⟨rfl, hT9⟩ := hT9
          rw [hT9]
          obtain ⟨v56, ev56, h⟩ := nm_some h
          refine L_iinc X (v := v56) (lv' := [(2, .int v56), (0, .ref (β 0 0)), (1, .int a1)]) 2 dX8_slot_418 rfl (by rw [ev56]; rfl) (by decide) rfl ?_
          refine L_goto X (tgt := 365) dX8_slot_421 (by decide) ?_
          refine L_sub [1, 2, 0] rfl ?_
          exact ih _ _ _ _ _ (by omega) h
set_option maxRecDepth 20000 in
theorem gX8_slot_b313 {g : GX} {ξ : XI} {n : Nat} {β : Nat → Nat → Nat} {e0 tx : Nat} {R : va_W}  {res : St × Int32}  (X : CL g RX8 cX8_slot 5 6 132 9 144) (E : XE g ξ) (hn : n < 9) (hf : FinMi g cX8_slot .int (fun rv T9 => ∃ ω9 : Nat → Nat, rv = some (.int res.2) ∧ T9 = wsB (gκ g) n β ω9 e0 tx res.1 ++ R) 9 144)  : ∀ (m : Nat) (ω : Nat → Nat) (Y : St) (u : Nat) (a1 : Int32) (a2 : Int32) (hu : u ≤ 9) (h : sX8_slot_b313 m n Y u a1 a2 = some res), L g u (16 * u) (wsB (gκ g) n β ω e0 tx Y ++ R) 313 [(0, .ref (β 0 0)), (1, .int a1), (2, .int a2)] [] := by
  intro m
  induction m with
  | zero => intro ω Y u a1 a2 hu h; unfold sX8_slot_b313 at h; cases h
  | succ m ih =>
    intro ω Y u a1 a2 hu h
    unfold sX8_slot_b313 at h
    refine L_iload_n X 2 dX8_slot_313 rfl rfl ?_
    refine L_aload_n X 0 dX8_slot_314 rfl rfl ?_
    refine B_get X hn (N := 12) (k := 10) (c := 8) (o := 0) (j := 0) rfl rfl rfl iX8 rfl (by decide) rfl wF_X8_35 rfl dX8_slot_315 ?_
    refine B_size X E hn wM_X8_172 ⟨⟨(Nat.le_of_ble_eq_true rfl), (Nat.le_of_ble_eq_true rfl)⟩, by omega, by omega⟩ (Nat.le_of_ble_eq_true rfl) dX8_slot_318 ?_
    refine L_icmp_ge X (tgt := 363) dX8_slot_323 (by decide) (fun c32 => ?_) (fun c32 => ?_)
    · have h := it_t c32 h
      refine L_iconst X (v := (0 : Int32)) dX8_slot_363 (by decide) ?_
      refine L_istore_n X (lv' := [(2, .int (0 : Int32)), (0, .ref (β 0 0)), (1, .int a1)]) dX8_slot_364 rfl (by decide) rfl ?_
      refine L_sub [1, 2, 0] rfl ?_
      exact gX8_slot_b365 X E hn hf FU _ _ _ _ _ (by omega) h
    · have h := it_f c32 h
      refine L_aload_n X 0 dX8_slot_326 rfl rfl ?_
      refine B_get X hn (N := 12) (k := 9) (c := 8) (o := 0) (j := 0) rfl rfl rfl iX8 rfl (by decide) rfl wF_X8_28 rfl dX8_slot_327 ?_
      refine L_iload_n X 2 dX8_slot_330 rfl rfl ?_
      refine L_aload_n X 0 dX8_slot_331 rfl rfl ?_
      refine B_get X hn (N := 12) (k := 10) (c := 8) (o := 0) (j := 0) rfl rfl rfl iX8 rfl (by decide) rfl wF_X8_35 rfl dX8_slot_332 ?_
      refine L_iload_n X 2 dX8_slot_335 rfl rfl ?_
      obtain ⟨g33, h⟩ := gd_some h
      refine B_lget X E hn g33 wM_X8_155 ⟨⟨(Nat.le_of_ble_eq_true rfl), (Nat.le_of_ble_eq_true rfl)⟩, by omega, by omega⟩ (Nat.le_of_ble_eq_true rfl) dX8_slot_336 ?_
      refine B_cast X hn (ix_lt g33) wCl_X8_55 dX8_slot_341 ?_
      refine B_get X hn (N := 16) (k := 5) (c := 7) (kb_b0 (ix_lt g33)) rfl rfl iX7 rfl (by decide) rfl wF_X8_180 rfl dX8_slot_344 ?_
      refine L_iconst X (v := (3 : Int32)) dX8_slot_347 (by decide) ?_
      refine L_icmp_ne X (tgt := 355) dX8_slot_348 (by decide) (fun c34 => ?_) (fun c34 => ?_)
      · have h := it_t c34 h
        refine L_iconst X (v := (0 : Int32)) dX8_slot_355 (by decide) ?_
        obtain ⟨g35, h⟩ := gd_some h
        obtain ⟨z36, ez36, h⟩ := nm_some h
        refine B_zast X hn (o := 0) (j := 3) rfl rfl g35 (by decide) ez36.symm dX8_slot_356 ?_
        obtain ⟨v37, ev37, h⟩ := nm_some h
        refine L_iinc X (v := v37) (lv' := [(2, .int v37), (0, .ref (β 0 0)), (1, .int a1)]) 2 dX8_slot_357 rfl (by rw [ev37]; rfl) (by decide) rfl ?_
        refine L_goto X (tgt := 313) dX8_slot_360 (by decide) ?_
        refine L_sub [1, 2, 0] rfl ?_
        exact ih _ _ _ _ _ (by omega) h
      · have h := it_f (fun k => k c34) h
        refine L_iconst X (v := (1 : Int32)) dX8_slot_351 (by decide) ?_
        refine L_goto X (tgt := 356) dX8_slot_352 (by decide) ?_
        obtain ⟨g38, h⟩ := gd_some h
        obtain ⟨z39, ez39, h⟩ := nm_some h
        refine B_zast X hn (o := 0) (j := 3) rfl rfl g38 (by decide) ez39.symm dX8_slot_356 ?_
        obtain ⟨v40, ev40, h⟩ := nm_some h
        refine L_iinc X (v := v40) (lv' := [(2, .int v40), (0, .ref (β 0 0)), (1, .int a1)]) 2 dX8_slot_357 rfl (by rw [ev40]; rfl) (by decide) rfl ?_
        refine L_goto X (tgt := 313) dX8_slot_360 (by decide) ?_
        refine L_sub [1, 2, 0] rfl ?_
        exact ih _ _ _ _ _ (by omega) h
set_option maxRecDepth 20000 in
theorem gX8_slot_b255 {g : GX} {ξ : XI} {n : Nat} {β : Nat → Nat → Nat} {e0 tx : Nat} {R : va_W}  {res : St × Int32} {k179 : St → Nat → Int32 → Int32 → Option (St × Int32)} (X : CL g RX8 cX8_slot 5 6 132 9 144) (E : XE g ξ) (hn : n < 9) (hf : FinMi g cX8_slot .int (fun rv T9 => ∃ ω9 : Nat → Nat, rv = some (.int res.2) ∧ T9 = wsB (gκ g) n β ω9 e0 tx res.1 ++ R) 9 144) (hk179 : ∀ (ω' : Nat → Nat) (Y' : St) (u' : Nat) (a1' : Int32) (a2' : Int32) (hu' : u' ≤ 9), k179 Y' u' a1' a2' = some res → L g u' (16 * u') (wsB (gκ g) n β ω' e0 tx Y' ++ R) 179 [(0, .ref (β 0 0)), (1, .int a1'), (2, .int a2')] []) : ∀ (m : Nat) (ω : Nat → Nat) (Y : St) (u : Nat) (a1 : Int32) (a2 : Int32) (b3 : Nat) (a4 : Int32) (hb3 : b3 < n) (hu : u ≤ 9) (h : sX8_slot_b255 m k179 n Y u a1 a2 b3 a4 = some res), L g u (16 * u) (wsB (gκ g) n β ω e0 tx Y ++ R) 255 [(0, .ref (β 0 0)), (1, .int a1), (2, .int a2), (3, .ref (β (b3 + 1) 0)), (4, .int a4)] [] := by
  intro m
  induction m with
  | zero => intro ω Y u a1 a2 b3 a4 hb3 hu h; unfold sX8_slot_b255 at h; cases h
  | succ m ih =>
    intro ω Y u a1 a2 b3 a4 hb3 hu h
    unfold sX8_slot_b255 at h
    refine L_iload X 4 dX8_slot_255 rfl ?_
    refine L_aload_n X 0 dX8_slot_257 rfl rfl ?_
    refine B_get X hn (N := 12) (k := 10) (c := 8) (o := 0) (j := 0) rfl rfl rfl iX8 rfl (by decide) rfl wF_X8_35 rfl dX8_slot_258 ?_
    refine B_size X E hn wM_X8_172 ⟨⟨(Nat.le_of_ble_eq_true rfl), (Nat.le_of_ble_eq_true rfl)⟩, by omega, by omega⟩ (Nat.le_of_ble_eq_true rfl) dX8_slot_261 ?_
    refine L_icmp_ge X (tgt := 305) dX8_slot_266 (by decide) (fun c57 => ?_) (fun c57 => ?_)
    · have h := it_t c57 h
      obtain ⟨v58, ev58, h⟩ := nm_some h
      refine L_iinc X (v := v58) (lv' := [(2, .int v58), (0, .ref (β 0 0)), (1, .int a1), (3, .ref (β (b3 + 1) 0)), (4, .int a4)]) 2 dX8_slot_305 rfl (by rw [ev58]; rfl) (by decide) rfl ?_
      refine L_goto X (tgt := 179) dX8_slot_308 (by decide) ?_
      refine L_sub [1, 2, 0] rfl ?_
      exact hk179 _ _ _ _ _ (by omega) h
    · have h := it_f c57 h
      refine L_iload X 4 dX8_slot_269 rfl ?_
      refine L_iload_n X 2 dX8_slot_271 rfl rfl ?_
      refine L_icmp_eq X (tgt := 299) dX8_slot_272 (by decide) (fun c59 => ?_) (fun c59 => ?_)
      · have h := it_t c59 h
        obtain ⟨v60, ev60, h⟩ := nm_some h
        refine L_iinc X (v := v60) (lv' := [(4, .int v60), (0, .ref (β 0 0)), (1, .int a1), (2, .int a2), (3, .ref (β (b3 + 1) 0))]) 4 dX8_slot_299 rfl (by rw [ev60]; rfl) (by decide) rfl ?_
        refine L_goto X (tgt := 255) dX8_slot_302 (by decide) ?_
        refine L_sub [1, 2, 3, 4, 0] rfl ?_
        exact ih _ _ _ _ _ _ _ hb3 (by omega) h
      · have h := it_f c59 h
        refine L_aload_n X 3 dX8_slot_275 rfl rfl ?_
        refine B_get X hn (N := 16) (k := 14) (c := 7) (kb_b0 hb3) rfl rfl iX7 rfl (by decide) rfl wF_X8_210 rfl dX8_slot_276 ?_
        refine L_iload X 4 dX8_slot_279 rfl ?_
        obtain ⟨g61, h⟩ := gd_some h
        refine B_iald X hn (kb_b3 hb3) rfl g61 dX8_slot_281 ?_
        refine L_if_ne X (tgt := 299) dX8_slot_282 (by decide) (fun c62 => ?_) (fun c62 => ?_)
        · have h := it_t c62 h
          obtain ⟨v63, ev63, h⟩ := nm_some h
          refine L_iinc X (v := v63) (lv' := [(4, .int v63), (0, .ref (β 0 0)), (1, .int a1), (2, .int a2), (3, .ref (β (b3 + 1) 0))]) 4 dX8_slot_299 rfl (by rw [ev63]; rfl) (by decide) rfl ?_
          refine L_goto X (tgt := 255) dX8_slot_302 (by decide) ?_
          refine L_sub [1, 2, 3, 4, 0] rfl ?_
          exact ih _ _ _ _ _ _ _ hb3 (by omega) h
        · have h := it_f (fun k => k c62) h
          refine L_aload_n X 3 dX8_slot_285 rfl rfl ?_
          refine B_get X hn (N := 16) (k := 14) (c := 7) (kb_b0 hb3) rfl rfl iX7 rfl (by decide) rfl wF_X8_210 rfl dX8_slot_286 ?_
          refine L_iload X 4 dX8_slot_289 rfl ?_
          refine L_aload_n X 0 dX8_slot_291 rfl rfl ?_
          refine L_iload X 4 dX8_slot_292 rfl ?_
          refine L_iload_n X 2 dX8_slot_294 rfl rfl ?_
          obtain ⟨q64, hq64, h⟩ := bd_some h
          refine L_cW X E hn (As := [.int a4, .int a2]) (rest := [.int a4, .ref (ω (b3 + 1))]) (cw_X8_deaf hn hq64) cal_X8_deaf wM_X8_230 wI_X8_deaf wS_X8_deaf ⟨⟨(Nat.le_of_ble_eq_true rfl), (Nat.le_of_ble_eq_true rfl)⟩, by omega, by omega⟩ rfl rfl (Nat.le_of_ble_eq_true rfl) dX8_slot_295 (fun rv T9 hT9 => ?_)
          obtain ⟨rfl, hT9⟩ := hT9
          rw [hT9]
          obtain ⟨g65, h⟩ := gd_some h
          obtain ⟨z66, ez66, h⟩ := nm_some h
          refine B_iast X hn (kb_b3 hb3) rfl g65 ez66.symm dX8_slot_298 ?_
          obtain ⟨v67, ev67, h⟩ := nm_some h
          refine L_iinc X (v := v67) (lv' := [(4, .int v67), (0, .ref (β 0 0)), (1, .int a1), (2, .int a2), (3, .ref (β (b3 + 1) 0))]) 4 dX8_slot_299 rfl (by rw [ev67]; rfl) (by decide) rfl ?_
          refine L_goto X (tgt := 255) dX8_slot_302 (by decide) ?_
          refine L_sub [1, 2, 3, 4, 0] rfl ?_
          exact ih _ _ _ _ _ _ _ hb3 (by omega) h
set_option maxRecDepth 20000 in
theorem gX8_slot_b241 {g : GX} {ξ : XI} {n : Nat} {β : Nat → Nat → Nat} {e0 tx : Nat} {R : va_W}  {res : St × Int32} {k179 : St → Nat → Int32 → Int32 → Option (St × Int32)} (X : CL g RX8 cX8_slot 5 6 132 9 144) (E : XE g ξ) (hn : n < 9) (hf : FinMi g cX8_slot .int (fun rv T9 => ∃ ω9 : Nat → Nat, rv = some (.int res.2) ∧ T9 = wsB (gκ g) n β ω9 e0 tx res.1 ++ R) 9 144) (hk179 : ∀ (ω' : Nat → Nat) (Y' : St) (u' : Nat) (a1' : Int32) (a2' : Int32) (hu' : u' ≤ 9), k179 Y' u' a1' a2' = some res → L g u' (16 * u') (wsB (gκ g) n β ω' e0 tx Y' ++ R) 179 [(0, .ref (β 0 0)), (1, .int a1'), (2, .int a2')] []) (ω : Nat → Nat) (Y : St) (u : Nat) (a1 : Int32) (a2 : Int32) (b3 : Nat) (hb3 : b3 < n) (hu : u ≤ 9) (h : sX8_slot_b241 k179 n Y u a1 a2 b3 = some res) : L g u (16 * u) (wsB (gκ g) n β ω e0 tx Y ++ R) 241 [(0, .ref (β 0 0)), (1, .int a1), (2, .int a2), (3, .ref (β (b3 + 1) 0))] [] := by
  unfold sX8_slot_b241 at h
  refine L_aload_n X 3 dX8_slot_241 rfl rfl ?_
  refine B_get X hn (N := 16) (k := 5) (c := 7) (kb_b0 hb3) rfl rfl iX7 rfl (by decide) rfl wF_X8_180 rfl dX8_slot_242 ?_
  refine L_iconst X (v := (3 : Int32)) dX8_slot_245 (by decide) ?_
  refine L_icmp_eq X (tgt := 252) dX8_slot_246 (by decide) (fun c44 => ?_) (fun c44 => ?_)
  · have h := it_t c44 h
    refine L_iconst X (v := (0 : Int32)) dX8_slot_252 (by decide) ?_
    refine L_istore X (lv' := [(4, .int (0 : Int32)), (0, .ref (β 0 0)), (1, .int a1), (2, .int a2), (3, .ref (β (b3 + 1) 0))]) dX8_slot_253 (by decide) rfl ?_
    refine L_sub [1, 2, 3, 4, 0] rfl ?_
    exact gX8_slot_b255 X E hn hf hk179 FU _ _ _ _ _ _ _ hb3 (by omega) h
  · have h := it_f c44 h
    refine L_goto X (tgt := 305) dX8_slot_249 (by decide) ?_
    obtain ⟨v45, ev45, h⟩ := nm_some h
    refine L_iinc X (v := v45) (lv' := [(2, .int v45), (0, .ref (β 0 0)), (1, .int a1), (3, .ref (β (b3 + 1) 0))]) 2 dX8_slot_305 rfl (by rw [ev45]; rfl) (by decide) rfl ?_
    refine L_goto X (tgt := 179) dX8_slot_308 (by decide) ?_
    refine L_sub [1, 2, 0] rfl ?_
    exact hk179 _ _ _ _ _ (by omega) h
set_option maxRecDepth 20000 in
theorem gX8_slot_b222 {g : GX} {ξ : XI} {n : Nat} {β : Nat → Nat → Nat} {e0 tx : Nat} {R : va_W}  {res : St × Int32} {k179 : St → Nat → Int32 → Int32 → Option (St × Int32)} (X : CL g RX8 cX8_slot 5 6 132 9 144) (E : XE g ξ) (hn : n < 9) (hf : FinMi g cX8_slot .int (fun rv T9 => ∃ ω9 : Nat → Nat, rv = some (.int res.2) ∧ T9 = wsB (gκ g) n β ω9 e0 tx res.1 ++ R) 9 144) (hk179 : ∀ (ω' : Nat → Nat) (Y' : St) (u' : Nat) (a1' : Int32) (a2' : Int32) (hu' : u' ≤ 9), k179 Y' u' a1' a2' = some res → L g u' (16 * u') (wsB (gκ g) n β ω' e0 tx Y' ++ R) 179 [(0, .ref (β 0 0)), (1, .int a1'), (2, .int a2')] []) (ω : Nat → Nat) (Y : St) (u : Nat) (a1 : Int32) (a2 : Int32) (b3 : Nat) (hb3 : b3 < n) (hu : u ≤ 9) (h : sX8_slot_b222 k179 n Y u a1 a2 b3 = some res) : L g u (16 * u) (wsB (gκ g) n β ω e0 tx Y ++ R) 222 [(0, .ref (β 0 0)), (1, .int a1), (2, .int a2), (3, .ref (β (b3 + 1) 0))] [] := by
  unfold sX8_slot_b222 at h
  refine L_aload_n X 0 dX8_slot_222 rfl rfl ?_
  refine L_iload_n X 2 dX8_slot_223 rfl rfl ?_
  obtain ⟨q41, hq41, h⟩ := bd_some h
  refine L_cW X E hn (As := [.int a2]) (rest := []) (cw_X8_sendersNear hn hq41) cal_X8_sendersNear wM_X8_213 wI_X8_sendersNear wS_X8_sendersNear ⟨⟨(Nat.le_of_ble_eq_true rfl), (Nat.le_of_ble_eq_true rfl)⟩, by omega, by omega⟩ rfl rfl (Nat.le_of_ble_eq_true rfl) dX8_slot_224 (fun rv T9 hT9 => ?_)
  obtain ⟨rfl, hT9⟩ := hT9
  rw [hT9]
  refine L_iconst X (v := (1 : Int32)) dX8_slot_227 (by decide) ?_
  refine L_icmp_le X (tgt := 241) dX8_slot_228 (by decide) (fun c42 => ?_) (fun c42 => ?_)
  · have h := it_t c42 h
    exact gX8_slot_b241 X E hn hf hk179 _ _ _ _ _ _ hb3 (by omega) h
  · have h := it_f c42 h
    refine L_aload_n X 0 dX8_slot_231 rfl rfl ?_
    refine L_dup X dX8_slot_232 rfl ?_
    refine B_get X hn (N := 12) (k := 6) (c := 8) (o := 0) (j := 0) rfl rfl rfl iX8 rfl (by decide) rfl wF_X8_130 rfl dX8_slot_233 ?_
    refine L_iconst X (v := (1 : Int32)) dX8_slot_236 (by decide) ?_
    refine L_iadd X dX8_slot_237 ?_
    obtain ⟨z43, ez43, h⟩ := nm_some h
    refine B_put X hn (N := 12) (k := 6) (c := 8) (o := 0) rfl rfl rfl iX8 tyX8_ok nmX8 rfl (by decide) (Or.inl ⟨rfl, by decide⟩) rfl rfl (tyX8_ok _ (by decide)) wF_X8_130 rfl rfl ez43.symm dX8_slot_238 ?_
    exact gX8_slot_b241 X E hn hf hk179 _ _ _ _ _ _ hb3 (by omega) h
set_option maxRecDepth 20000 in
theorem gX8_slot_b179 {g : GX} {ξ : XI} {n : Nat} {β : Nat → Nat → Nat} {e0 tx : Nat} {R : va_W}  {res : St × Int32}  (X : CL g RX8 cX8_slot 5 6 132 9 144) (E : XE g ξ) (hn : n < 9) (hf : FinMi g cX8_slot .int (fun rv T9 => ∃ ω9 : Nat → Nat, rv = some (.int res.2) ∧ T9 = wsB (gκ g) n β ω9 e0 tx res.1 ++ R) 9 144)  : ∀ (m : Nat) (ω : Nat → Nat) (Y : St) (u : Nat) (a1 : Int32) (a2 : Int32) (hu : u ≤ 9) (h : sX8_slot_b179 m n Y u a1 a2 = some res), L g u (16 * u) (wsB (gκ g) n β ω e0 tx Y ++ R) 179 [(0, .ref (β 0 0)), (1, .int a1), (2, .int a2)] [] := by
  intro m
  induction m with
  | zero => intro ω Y u a1 a2 hu h; unfold sX8_slot_b179 at h; cases h
  | succ m ih =>
    intro ω Y u a1 a2 hu h
    unfold sX8_slot_b179 at h
    refine L_iload_n X 2 dX8_slot_179 rfl rfl ?_
    refine L_aload_n X 0 dX8_slot_180 rfl rfl ?_
    refine B_get X hn (N := 12) (k := 10) (c := 8) (o := 0) (j := 0) rfl rfl rfl iX8 rfl (by decide) rfl wF_X8_35 rfl dX8_slot_181 ?_
    refine B_size X E hn wM_X8_172 ⟨⟨(Nat.le_of_ble_eq_true rfl), (Nat.le_of_ble_eq_true rfl)⟩, by omega, by omega⟩ (Nat.le_of_ble_eq_true rfl) dX8_slot_184 ?_
    refine L_icmp_ge X (tgt := 311) dX8_slot_189 (by decide) (fun c28 => ?_) (fun c28 => ?_)
    · have h := it_t c28 h
      refine L_iconst X (v := (0 : Int32)) dX8_slot_311 (by decide) ?_
      refine L_istore_n X (lv' := [(2, .int (0 : Int32)), (0, .ref (β 0 0)), (1, .int a1)]) dX8_slot_312 rfl (by decide) rfl ?_
      refine L_sub [1, 2, 0] rfl ?_
      exact gX8_slot_b313 X E hn hf FU _ _ _ _ _ (by omega) h
    · have h := it_f c28 h
      refine L_aload_n X 0 dX8_slot_192 rfl rfl ?_
      refine B_get X hn (N := 12) (k := 10) (c := 8) (o := 0) (j := 0) rfl rfl rfl iX8 rfl (by decide) rfl wF_X8_35 rfl dX8_slot_193 ?_
      refine L_iload_n X 2 dX8_slot_196 rfl rfl ?_
      obtain ⟨g29, h⟩ := gd_some h
      refine B_lget X E hn g29 wM_X8_155 ⟨⟨(Nat.le_of_ble_eq_true rfl), (Nat.le_of_ble_eq_true rfl)⟩, by omega, by omega⟩ (Nat.le_of_ble_eq_true rfl) dX8_slot_197 ?_
      refine B_cast X hn (ix_lt g29) wCl_X8_55 dX8_slot_202 ?_
      refine L_astore_n X (lv' := [(3, .ref (β (ix a2 + 1) 0)), (0, .ref (β 0 0)), (1, .int a1), (2, .int a2)]) dX8_slot_205 rfl (by decide) rfl ?_
      refine L_aload_n X 0 dX8_slot_206 rfl rfl ?_
      refine B_get X hn (N := 16) (k := 5) (c := 7) (kb_b0 (ix_lt g29)) rfl rfl iX7 rfl (by decide) rfl wF_X8_180 rfl dX8_slot_207 ?_
      refine L_iconst X (v := (1 : Int32)) dX8_slot_210 (by decide) ?_
      refine L_icmp_eq X (tgt := 222) dX8_slot_211 (by decide) (fun c30 => ?_) (fun c30 => ?_)
      · have h := it_t c30 h
        refine L_sub [1, 2, 3, 0] rfl ?_
        exact gX8_slot_b222 X E hn hf (fun y0 y1 y2 y3 y4 y5 h => ih y0 y1 y2 y3 y4 y5 h) _ _ _ _ _ _ (ix_lt g29) (by omega) h
      · have h := it_f c30 h
        refine L_aload_n X 0 dX8_slot_214 rfl rfl ?_
        refine B_get X hn (N := 16) (k := 5) (c := 7) (kb_b0 (ix_lt g29)) rfl rfl iX7 rfl (by decide) rfl wF_X8_180 rfl dX8_slot_215 ?_
        refine L_iconst X (v := (2 : Int32)) dX8_slot_218 (by decide) ?_
        refine L_icmp_ne X (tgt := 241) dX8_slot_219 (by decide) (fun c31 => ?_) (fun c31 => ?_)
        · have h := it_t c31 h
          refine L_sub [1, 2, 3, 0] rfl ?_
          exact gX8_slot_b241 X E hn hf (fun y0 y1 y2 y3 y4 y5 h => ih y0 y1 y2 y3 y4 y5 h) _ _ _ _ _ _ (ix_lt g29) (by omega) h
        · have h := it_f (fun k => k c31) h
          refine L_sub [1, 2, 3, 0] rfl ?_
          exact gX8_slot_b222 X E hn hf (fun y0 y1 y2 y3 y4 y5 h => ih y0 y1 y2 y3 y4 y5 h) _ _ _ _ _ _ (ix_lt g29) (by omega) h
set_option maxRecDepth 20000 in
theorem gX8_slot_b71 {g : GX} {ξ : XI} {n : Nat} {β : Nat → Nat → Nat} {e0 tx : Nat} {R : va_W}  {res : St × Int32}  (X : CL g RX8 cX8_slot 5 6 132 9 144) (E : XE g ξ) (hn : n < 9) (hf : FinMi g cX8_slot .int (fun rv T9 => ∃ ω9 : Nat → Nat, rv = some (.int res.2) ∧ T9 = wsB (gκ g) n β ω9 e0 tx res.1 ++ R) 9 144)  : ∀ (m : Nat) (ω : Nat → Nat) (Y : St) (u : Nat) (a1 : Int32) (u9 : Int32) (z9 : Nat) (v9 : Int32) (hu : u ≤ 9) (h : sX8_slot_b71 m n Y u a1 u9 = some res), L g u (16 * u) (wsB (gκ g) n β ω e0 tx Y ++ ((z9, .inr (10, [.int u9, .int v9, .int (nI n), .ref (β 0 4)])) :: R)) 71 [(0, .ref (β 0 0)), (1, .int a1), (2, .ref z9)] [] := by
  intro m
  induction m with
  | zero => intro ω Y u a1 u9 z9 v9 hu h; unfold sX8_slot_b71 at h; cases h
  | succ m ih =>
    intro ω Y u a1 u9 z9 v9 hu h
    unfold sX8_slot_b71 at h
    refine L_aload_n X 2 dX8_slot_71 rfl rfl ?_
    refine B_hasNext X E hn wM_X8_142 ⟨⟨(Nat.le_of_ble_eq_true rfl), (Nat.le_of_ble_eq_true rfl)⟩, by omega, by omega⟩ (Nat.le_of_ble_eq_true rfl) dX8_slot_72 ?_
    refine L_if_eq X (tgt := 177) dX8_slot_77 (by decide) (fun c12 => ?_) (fun c12 => ?_)
    · have h := it_t c12 h
      refine L_iconst X (v := (0 : Int32)) dX8_slot_177 (by decide) ?_
      refine L_istore_n X (lv' := [(2, .int (0 : Int32)), (0, .ref (β 0 0)), (1, .int a1)]) dX8_slot_178 rfl (by decide) rfl ?_
      refine B_drop ?_
      refine L_sub [1, 2, 0] rfl ?_
      exact gX8_slot_b179 X E hn hf FU _ _ _ _ _ (by omega) h
    · have h := it_f c12 h
      refine L_aload_n X 2 dX8_slot_80 rfl rfl ?_
      obtain ⟨g13, h⟩ := gd_some h
      refine B_next X E hn g13 wM_X8_148 ⟨⟨(Nat.le_of_ble_eq_true rfl), (Nat.le_of_ble_eq_true rfl)⟩, by omega, by omega⟩ (Nat.le_of_ble_eq_true rfl) dX8_slot_81 ?_
      obtain ⟨v14, ev14, h⟩ := nm_some h
      rw [← ev14]
      refine B_cast X hn (ix_lt g13) wCl_X8_55 dX8_slot_86 ?_
      refine L_astore_n X (lv' := [(3, .ref (β (ix u9 + 1) 0)), (0, .ref (β 0 0)), (1, .int a1), (2, .ref z9)]) dX8_slot_89 rfl (by decide) rfl ?_
      refine L_aload_n X 0 dX8_slot_90 rfl rfl ?_
      refine B_get X hn (N := 16) (k := 5) (c := 7) (kb_b0 (ix_lt g13)) rfl rfl iX7 rfl (by decide) rfl wF_X8_180 rfl dX8_slot_91 ?_
      refine L_iconst X (v := (4 : Int32)) dX8_slot_94 (by decide) ?_
      refine L_icmp_ne X (tgt := 101) dX8_slot_95 (by decide) (fun c15 => ?_) (fun c15 => ?_)
      · have h := it_t c15 h
        refine L_aload_n X 0 dX8_slot_101 rfl rfl ?_
        refine B_get X hn (N := 16) (k := 4) (c := 7) (kb_b0 (ix_lt g13)) rfl rfl iX7 rfl (by decide) rfl wF_X8_90 rfl dX8_slot_102 ?_
        refine L_aload_n X 1 dX8_slot_105 rfl rfl ?_
        refine B_get X hn (N := 12) (k := 7) (c := 8) (o := 0) (j := 0) rfl rfl rfl iX8 rfl (by decide) rfl wF_X8_19 rfl dX8_slot_106 ?_
        refine L_aload_n X 0 dX8_slot_109 rfl rfl ?_
        refine B_get X hn (N := 16) (k := 5) (c := 7) (kb_b0 (ix_lt g13)) rfl rfl iX7 rfl (by decide) rfl wF_X8_180 rfl dX8_slot_110 ?_
        obtain ⟨g16, h⟩ := gd_some h
        refine B_iald X hn (o := 0) (j := 1) rfl rfl g16 dX8_slot_113 ?_
        refine L_mmin X wM_X8_165 ⟨(Nat.le_of_ble_eq_true rfl), (Nat.le_of_ble_eq_true rfl)⟩ (Nat.le_of_ble_eq_true rfl) ⟨by omega, by omega⟩ dX8_slot_114 ?_
        obtain ⟨v17, ev17, h⟩ := nm_some h
        refine L_nmi ev17 ?_
        refine L_istore X (lv' := [(4, .int v17), (3, .ref (β (ix u9 + 1) 0)), (0, .ref (β 0 0)), (1, .int a1), (2, .ref z9)]) dX8_slot_117 (by decide) rfl ?_
        refine L_aload_n X 1 dX8_slot_119 rfl rfl ?_
        refine B_get X hn (N := 16) (k := 12) (c := 7) (kb_b0 (ix_lt g13)) rfl rfl iX7 rfl (by decide) rfl wF_X8_224 rfl dX8_slot_120 ?_
        refine L_aload_n X 1 dX8_slot_123 rfl rfl ?_
        refine B_get X hn (N := 16) (k := 5) (c := 7) (kb_b0 (ix_lt g13)) rfl rfl iX7 rfl (by decide) rfl wF_X8_180 rfl dX8_slot_124 ?_
        refine L_dup2 X dX8_slot_127 rfl rfl ?_
        obtain ⟨g18, h⟩ := gd_some h
        refine B_iald X hn (kb_b1 (ix_lt g13)) rfl g18 dX8_slot_128 ?_
        refine L_iconst X (v := (1 : Int32)) dX8_slot_129 (by decide) ?_
        refine L_iadd X dX8_slot_130 ?_
        obtain ⟨v19, ev19, h⟩ := nm_some h
        refine L_nmi ev19 ?_
        obtain ⟨g20, h⟩ := gd_some h
        obtain ⟨z21, ez21, h⟩ := nm_some h
        refine B_iast X hn (kb_b1 (ix_lt g13)) rfl g20 ez21.symm dX8_slot_131 ?_
        refine L_aload_n X 1 dX8_slot_132 rfl rfl ?_
        refine L_dup X dX8_slot_133 rfl ?_
        refine B_get X hn (N := 16) (k := 4) (c := 7) (kb_b0 (ix_lt g13)) rfl rfl iX7 rfl (by decide) rfl wF_X8_90 rfl dX8_slot_134 ?_
        refine L_iload X 0 dX8_slot_137 rfl ?_
        refine L_isub X dX8_slot_139 ?_
        obtain ⟨z22, ez22, h⟩ := nm_some h
        refine B_put X hn (N := 16) (k := 4) (c := 7) (kb_b0 (ix_lt g13)) rfl rfl iX7 tyX7_ok nmX7 rfl (by decide) (Or.inr ⟨rfl, by decide⟩) rfl rfl (tyX7_ok _ (by decide)) wF_X8_90 rfl rfl ez22.symm dX8_slot_140 ?_
        refine L_aload_n X 1 dX8_slot_143 rfl rfl ?_
        refine L_dup X dX8_slot_144 rfl ?_
        refine B_get X hn (N := 16) (k := 10) (c := 7) (kb_b0 (ix_lt g13)) rfl rfl iX7 rfl (by decide) rfl wF_X8_227 rfl dX8_slot_145 ?_
        refine L_iload X 0 dX8_slot_148 rfl ?_
        refine L_iadd X dX8_slot_150 ?_
        obtain ⟨v23, ev23, h⟩ := nm_some h
        refine L_nmi ev23 ?_
        obtain ⟨z24, ez24, h⟩ := nm_some h
        refine B_put X hn (N := 16) (k := 10) (c := 7) (kb_b0 (ix_lt g13)) rfl rfl iX7 tyX7_ok nmX7 rfl (by decide) (Or.inr ⟨rfl, by decide⟩) rfl rfl (tyX7_ok _ (by decide)) wF_X8_227 rfl rfl ez24.symm dX8_slot_151 ?_
        refine L_aload_n X 1 dX8_slot_154 rfl rfl ?_
        refine B_get X hn (N := 16) (k := 4) (c := 7) (kb_b0 (ix_lt g13)) rfl rfl iX7 rfl (by decide) rfl wF_X8_90 rfl dX8_slot_155 ?_
        refine L_if_le X (tgt := 164) dX8_slot_158 (by decide) (fun c25 => ?_) (fun c25 => ?_)
        · have h := it_t c25 h
          refine L_aload_n X 1 dX8_slot_164 rfl rfl ?_
          refine L_iconst X (v := (4 : Int32)) dX8_slot_165 (by decide) ?_
          obtain ⟨z26, ez26, h⟩ := nm_some h
          refine B_put X hn (N := 16) (k := 5) (c := 7) (kb_b0 (ix_lt g13)) rfl rfl iX7 tyX7_ok nmX7 rfl (by decide) (Or.inr ⟨rfl, by decide⟩) rfl rfl (tyX7_ok _ (by decide)) wF_X8_180 rfl rfl ez26.symm dX8_slot_166 ?_
          refine L_aload_n X 1 dX8_slot_169 rfl rfl ?_
          refine L_iconst X (v := (0 : Int32)) dX8_slot_170 (by decide) ?_
          obtain ⟨z27, ez27, h⟩ := nm_some h
          refine B_put X hn (N := 16) (k := 6) (c := 7) (kb_b0 (ix_lt g13)) rfl rfl iX7 tyX7_ok nmX7 rfl (by decide) (Or.inr ⟨rfl, by decide⟩) rfl rfl (tyX7_ok _ (by decide)) wF_X8_190 rfl rfl ez27.symm dX8_slot_171 ?_
          refine L_goto X (tgt := 71) dX8_slot_174 (by decide) ?_
          refine L_sub [2, 3, 4] rfl ?_
          exact ih _ _ _ _ _ _ _ (by omega) h
        · have h := it_f c25 h
          refine L_goto X (tgt := 71) dX8_slot_161 (by decide) ?_
          refine L_sub [2, 3, 4] rfl ?_
          exact ih _ _ _ _ _ _ _ (by omega) h
      · have h := it_f (fun k => k c15) h
        refine L_goto X (tgt := 71) dX8_slot_98 (by decide) ?_
        refine L_sub [1, 2, 3] rfl ?_
        exact ih _ _ _ _ _ _ _ (by omega) h
set_option maxRecDepth 20000 in
theorem gX8_slot_b17 {g : GX} {ξ : XI} {n : Nat} {β : Nat → Nat → Nat} {e0 tx : Nat} {R : va_W}  {res : St × Int32}  (X : CL g RX8 cX8_slot 5 6 132 9 144) (E : XE g ξ) (hn : n < 9) (hf : FinMi g cX8_slot .int (fun rv T9 => ∃ ω9 : Nat → Nat, rv = some (.int res.2) ∧ T9 = wsB (gκ g) n β ω9 e0 tx res.1 ++ R) 9 144)  : ∀ (m : Nat) (ω : Nat → Nat) (Y : St) (u : Nat) (a1 : Int32) (a2 : Int32) (hu : u ≤ 9) (h : sX8_slot_b17 m n Y u a1 a2 = some res), L g u (16 * u) (wsB (gκ g) n β ω e0 tx Y ++ R) 17 [(0, .ref (β 0 0)), (1, .int a1), (2, .int a2)] [] := by
  intro m
  induction m with
  | zero => intro ω Y u a1 a2 hu h; unfold sX8_slot_b17 at h; cases h
  | succ m ih =>
    intro ω Y u a1 a2 hu h
    unfold sX8_slot_b17 at h
    refine L_iload_n X 2 dX8_slot_17 rfl rfl ?_
    refine L_aload_n X 0 dX8_slot_18 rfl rfl ?_
    refine B_get X hn (N := 12) (k := 10) (c := 8) (o := 0) (j := 0) rfl rfl rfl iX8 rfl (by decide) rfl wF_X8_35 rfl dX8_slot_19 ?_
    refine B_size X E hn wM_X8_172 ⟨⟨(Nat.le_of_ble_eq_true rfl), (Nat.le_of_ble_eq_true rfl)⟩, by omega, by omega⟩ (Nat.le_of_ble_eq_true rfl) dX8_slot_22 ?_
    refine L_icmp_ge X (tgt := 61) dX8_slot_27 (by decide) (fun c2 => ?_) (fun c2 => ?_)
    · have h := it_t c2 h
      refine L_aload_n X 0 dX8_slot_61 rfl rfl ?_
      refine B_get X hn (N := 12) (k := 10) (c := 8) (o := 0) (j := 0) rfl rfl rfl iX8 rfl (by decide) rfl wF_X8_35 rfl dX8_slot_62 ?_
      obtain ⟨g3, h⟩ := gd_some h
      have g3 := of_decide_eq_true g3
      refine B_iter X E hn wM_X8_138 ⟨⟨(Nat.le_of_ble_eq_true rfl), (Nat.le_of_ble_eq_true rfl)⟩, by omega, by omega⟩ (Nat.le_of_ble_eq_true rfl) dX8_slot_65 (fun zz4 => ?_)
      refine L_widen (a' := u + 1) (b' := 16 * (u + 1)) (by omega) (by omega) ?_
      refine L_astore_n X (lv' := [(2, .ref zz4), (0, .ref (β 0 0)), (1, .int a1)]) dX8_slot_70 rfl (by decide) rfl ?_
      refine L_sub [1, 2, 0] rfl ?_
      exact gX8_slot_b71 X E hn hf FU _ _ _ _ _ _ _ (by omega) h
    · have h := it_f c2 h
      refine L_aload_n X 0 dX8_slot_30 rfl rfl ?_
      refine B_get X hn (N := 12) (k := 10) (c := 8) (o := 0) (j := 0) rfl rfl rfl iX8 rfl (by decide) rfl wF_X8_35 rfl dX8_slot_31 ?_
      refine L_iload_n X 2 dX8_slot_34 rfl rfl ?_
      obtain ⟨g5, h⟩ := gd_some h
      refine B_lget X E hn g5 wM_X8_155 ⟨⟨(Nat.le_of_ble_eq_true rfl), (Nat.le_of_ble_eq_true rfl)⟩, by omega, by omega⟩ (Nat.le_of_ble_eq_true rfl) dX8_slot_35 ?_
      refine B_cast X hn (ix_lt g5) wCl_X8_55 dX8_slot_40 ?_
      refine B_get X hn (N := 16) (k := 5) (c := 7) (kb_b0 (ix_lt g5)) rfl rfl iX7 rfl (by decide) rfl wF_X8_180 rfl dX8_slot_43 ?_
      refine L_iconst X (v := (4 : Int32)) dX8_slot_46 (by decide) ?_
      refine L_icmp_ge X (tgt := 55) dX8_slot_47 (by decide) (fun c6 => ?_) (fun c6 => ?_)
      · have h := it_t c6 h
        obtain ⟨v7, ev7, h⟩ := nm_some h
        refine L_iinc X (v := v7) (lv' := [(2, .int v7), (0, .ref (β 0 0)), (1, .int a1)]) 2 dX8_slot_55 rfl (by rw [ev7]; rfl) (by decide) rfl ?_
        refine L_goto X (tgt := 17) dX8_slot_58 (by decide) ?_
        refine L_sub [1, 2, 0] rfl ?_
        exact ih _ _ _ _ _ (by omega) h
      · have h := it_f c6 h
        refine L_aload_n X 0 dX8_slot_50 rfl rfl ?_
        refine L_iload_n X 2 dX8_slot_51 rfl rfl ?_
        obtain ⟨g9, h⟩ := gd_some h
        have g9 := of_decide_eq_true g9
        obtain ⟨q8, hq8, h⟩ := bd_some h
        refine L_cW X E hn (As := [.int a2]) (rest := []) (cw_X8_changes hn hq8) cal_X8_changes wM_X8_221 wI_X8_changes wS_X8_changes ⟨⟨(Nat.le_of_ble_eq_true rfl), (Nat.le_of_ble_eq_true rfl)⟩, by omega, by omega⟩ rfl rfl (Nat.le_of_ble_eq_true rfl) dX8_slot_52 (fun rv T9 hT9 => ?_)
        obtain ⟨ω10, rfl, hT9⟩ := hT9
        rw [hT9]
        refine L_widen (a' := u + 1) (b' := 16 * (u + 1)) (by omega) (by omega) ?_
        obtain ⟨v11, ev11, h⟩ := nm_some h
        refine L_iinc X (v := v11) (lv' := [(2, .int v11), (0, .ref (β 0 0)), (1, .int a1)]) 2 dX8_slot_55 rfl (by rw [ev11]; rfl) (by decide) rfl ?_
        refine L_goto X (tgt := 17) dX8_slot_58 (by decide) ?_
        refine L_sub [1, 2, 0] rfl ?_
        exact ih _ _ _ _ _ (by omega) h
set_option maxRecDepth 20000 in
theorem cw_X8_slot {l : Launch} {κ : KX} {ξ : XI} {n : Nat} {β : Nat → Nat → Nat} {ω : Nat → Nat} {e0 tx : Nat} {R : va_W} {Y : St}  {res : St × Int32} (hn : n < 9) (h : sX8_slot n Y 0  = some res) : CtM l κ ξ yX8_slot cX8_slot 5 (some .int) 6 132 9 144 [.ref (β 0 0)] (wsB κ n β ω e0 tx Y ++ R) (fun rv T9 => ∃ ω9 : Nat → Nat, rv = some (.int res.2) ∧ T9 = wsB κ n β ω9 e0 tx res.1 ++ R) := by
  refine CtM_i RX8 rfl (by decide +kernel) (Nat.le_of_ble_eq_true rfl) (fun g hgl hgκ X E hf => ?_)
  subst hgl; subst hgκ
  unfold sX8_slot at h
  refine L_aload_n X 0 dX8_slot_0 rfl rfl ?_
  refine B_get X hn (N := 12) (k := 4) (c := 8) (o := 0) (j := 0) rfl rfl rfl iX8 rfl (by decide) rfl wF_X8_124 rfl dX8_slot_1 ?_
  refine L_istore_n X (lv' := [(1, .int (gI Y 0 0 4)), (0, .ref (β 0 0))]) dX8_slot_4 rfl (by decide) rfl ?_
  refine L_aload_n X 1 dX8_slot_5 rfl rfl ?_
  refine L_dup X dX8_slot_6 rfl ?_
  refine B_get X hn (N := 12) (k := 0) (c := 8) (o := 0) (j := 0) rfl rfl rfl iX8 rfl (by decide) rfl wF_X8_121 rfl dX8_slot_7 ?_
  refine L_iconst X (v := (1 : Int32)) dX8_slot_10 (by decide) ?_
  refine L_iadd X dX8_slot_11 ?_
  obtain ⟨z1, ez1, h⟩ := nm_some h
  refine B_put X hn (N := 12) (k := 0) (c := 8) (o := 0) rfl rfl rfl iX8 tyX8_ok nmX8 rfl (by decide) (Or.inl ⟨rfl, by decide⟩) rfl rfl (tyX8_ok _ (by decide)) wF_X8_121 rfl rfl ez1.symm dX8_slot_12 ?_
  refine L_iconst X (v := (0 : Int32)) dX8_slot_15 (by decide) ?_
  refine L_istore_n X (lv' := [(2, .int (0 : Int32)), (1, .int (gI Y 0 0 4)), (0, .ref (β 0 0))]) dX8_slot_16 rfl (by decide) rfl ?_
  refine L_sub [2, 1, 0] rfl ?_
  exact gX8_slot_b17 X E hn hf FU _ _ _ _ _ (by omega) h
set_option maxRecDepth 20000 in
theorem gX8_run_b4 {g : GX} {ξ : XI} {n : Nat} {β : Nat → Nat → Nat} {e0 tx : Nat} {R : va_W}  {res : St × Int32}  (X : CL g RX8 cX8_run 4 7 156 225 3600) (E : XE g ξ) (hn : n < 9) (hf : FinMi g cX8_run .int (fun rv T9 => ∃ ω9 : Nat → Nat, rv = some (.int res.2) ∧ T9 = wsB (gκ g) n β ω9 e0 tx res.1 ++ R) 225 3600)  : ∀ (m : Nat) (ω : Nat → Nat) (Y : St) (u : Nat) (a1 : Int32) (a2 : Int32) (a3 : Int32) (hu : u ≤ 225) (h : sX8_run_b4 m n Y u a1 a2 a3 = some res), L g u (16 * u) (wsB (gκ g) n β ω e0 tx Y ++ R) 4 [(0, .ref (β 0 0)), (1, .int a1), (2, .int a2), (3, .int a3)] [] := by
  intro m
  induction m with
  | zero => intro ω Y u a1 a2 a3 hu h; unfold sX8_run_b4 at h; cases h
  | succ m ih =>
    intro ω Y u a1 a2 a3 hu h
    unfold sX8_run_b4 at h
    refine L_iload_n X 3 dX8_run_4 rfl rfl ?_
    refine L_iload_n X 1 dX8_run_5 rfl rfl ?_
    refine L_icmp_ge X (tgt := 22) dX8_run_6 (by decide) (fun c1 => ?_) (fun c1 => ?_)
    · have h := it_t c1 h
      refine L_iload_n X 2 dX8_run_22 rfl rfl ?_
      refine L_widen (a' := 225) (b' := 3600) (by omega) (by omega) ?_
      obtain rfl := Option.some.inj h
      exact hf _ _ _ _ dX8_run_23 rfl ⟨_, rfl, rfl⟩
    · have h := it_f c1 h
      refine L_iload_n X 2 dX8_run_9 rfl rfl ?_
      refine L_aload_n X 0 dX8_run_10 rfl rfl ?_
      obtain ⟨g3, h⟩ := gd_some h
      have g3 := of_decide_eq_true g3
      obtain ⟨q2, hq2, h⟩ := bd_some h
      refine L_cW X E hn (As := []) (rest := [.int a2]) (cw_X8_slot hn hq2) cal_X8_slot wM_X8_236 wI_X8_slot wS_X8_slot ⟨⟨(Nat.le_of_ble_eq_true rfl), (Nat.le_of_ble_eq_true rfl)⟩, by omega, by omega⟩ rfl rfl (Nat.le_of_ble_eq_true rfl) dX8_run_11 (fun rv T9 hT9 => ?_)
      obtain ⟨ω4, rfl, hT9⟩ := hT9
      rw [hT9]
      refine L_widen (a' := u + 9) (b' := 16 * (u + 9)) (by omega) (by omega) ?_
      refine L_iadd X dX8_run_14 ?_
      refine L_istore_n X (lv' := [(2, .int (a2 + q2.2)), (0, .ref (β 0 0)), (1, .int a1), (3, .int a3)]) dX8_run_15 rfl (by decide) rfl ?_
      obtain ⟨v5, ev5, h⟩ := nm_some h
      refine L_iinc X (v := v5) (lv' := [(3, .int v5), (2, .int (a2 + q2.2)), (0, .ref (β 0 0)), (1, .int a1)]) 3 dX8_run_16 rfl (by rw [ev5]; rfl) (by decide) rfl ?_
      refine L_goto X (tgt := 4) dX8_run_19 (by decide) ?_
      refine L_sub [2, 3, 1, 0] rfl ?_
      exact ih _ _ _ _ _ _ (by omega) h
set_option maxRecDepth 20000 in
theorem cw_X8_run {l : Launch} {κ : KX} {ξ : XI} {n : Nat} {β : Nat → Nat → Nat} {ω : Nat → Nat} {e0 tx : Nat} {R : va_W} {Y : St} {a1 : Int32} {res : St × Int32} (hn : n < 9) (h : sX8_run n Y 0 a1 = some res) : CtM l κ ξ yX8_run cX8_run 4 (some .int) 7 156 225 3600 [.ref (β 0 0), .int a1] (wsB κ n β ω e0 tx Y ++ R) (fun rv T9 => ∃ ω9 : Nat → Nat, rv = some (.int res.2) ∧ T9 = wsB κ n β ω9 e0 tx res.1 ++ R) := by
  refine CtM_i RX8 rfl (by decide +kernel) (Nat.le_of_ble_eq_true rfl) (fun g hgl hgκ X E hf => ?_)
  subst hgl; subst hgκ
  unfold sX8_run at h
  refine L_iconst X (v := (0 : Int32)) dX8_run_0 (by decide) ?_
  refine L_istore_n X (lv' := [(2, .int (0 : Int32)), (0, .ref (β 0 0)), (1, .int a1)]) dX8_run_1 rfl (by decide) rfl ?_
  refine L_iconst X (v := (0 : Int32)) dX8_run_2 (by decide) ?_
  refine L_istore_n X (lv' := [(3, .int (0 : Int32)), (2, .int (0 : Int32)), (0, .ref (β 0 0)), (1, .int a1)]) dX8_run_3 rfl (by decide) rfl ?_
  refine L_sub [2, 3, 1, 0] rfl ?_
  exact gX8_run_b4 X E hn hf FU _ _ _ _ _ _ (by omega) h
set_option maxRecDepth 20000 in
theorem gX8_due_b2 {g : GX} {ξ : XI} {n : Nat} {β : Nat → Nat → Nat} {ω : Nat → Nat} {e0 tx : Nat} {R : va_W} {Y : St} {res : Int32}  (X : CL g RX8 cX8_due 3 4 86 0 0) (E : XE g ξ) (hn : n < 9) (hf : FinMi g cX8_due .int (fun rv T9 => rv = some (.int res) ∧ T9 = wsB (gκ g) n β ω e0 tx Y ++ R) 0 0)  : ∀ (m : Nat) (a1 : Int32) (a2 : Int32) (h : sX8_due_b2 m n Y a1 a2 = some res), L g 0 0 (wsB (gκ g) n β ω e0 tx Y ++ R) 2 [(0, .ref (β 0 0)), (1, .int a1), (2, .int a2)] [] := by
  intro m
  induction m with
  | zero => intro a1 a2 h; unfold sX8_due_b2 at h; cases h
  | succ m ih =>
    intro a1 a2 h
    unfold sX8_due_b2 at h
    refine L_aload_n X 0 dX8_due_2 rfl rfl ?_
    refine L_iload_n X 1 dX8_due_3 rfl rfl ?_
    refine L_aload_n X 0 dX8_due_4 rfl rfl ?_
    refine B_get X hn (N := 12) (k := 0) (c := 8) (o := 0) (j := 0) rfl rfl rfl iX8 rfl (by decide) rfl wF_X8_121 rfl dX8_due_5 ?_
    refine L_iload_n X 2 dX8_due_8 rfl rfl ?_
    refine L_iadd X dX8_due_9 ?_
    obtain ⟨q1, hq1, h⟩ := bd_some h
    refine L_cW X E hn (As := [.int a1, .int ((gI Y 0 0 0) + a2)]) (rest := []) (cw_X8_isDue hn hq1) cal_X8_isDue wM_X8_193 wI_X8_isDue wS_X8_isDue ⟨⟨(Nat.le_of_ble_eq_true rfl), (Nat.le_of_ble_eq_true rfl)⟩, by omega, by omega⟩ rfl rfl (Nat.le_of_ble_eq_true rfl) dX8_due_10 (fun rv T9 hT9 => ?_)
    obtain ⟨rfl, hT9⟩ := hT9
    rw [hT9]
    refine L_if_ne X (tgt := 22) dX8_due_13 (by decide) (fun c2 => ?_) (fun c2 => ?_)
    · have h := it_t c2 h
      refine L_iload_n X 2 dX8_due_22 rfl rfl ?_
      obtain rfl := Option.some.inj h
      exact hf _ _ _ _ dX8_due_23 rfl ⟨rfl, rfl⟩
    · have h := it_f (fun k => k c2) h
      obtain ⟨v3, ev3, h⟩ := nm_some h
      refine L_iinc X (v := v3) (lv' := [(2, .int v3), (0, .ref (β 0 0)), (1, .int a1)]) 2 dX8_due_16 rfl (by rw [ev3]; rfl) (by decide) rfl ?_
      refine L_goto X (tgt := 2) dX8_due_19 (by decide) ?_
      refine L_sub [1, 2, 0] rfl ?_
      exact ih _ _ h
set_option maxRecDepth 20000 in
theorem cw_X8_due {l : Launch} {κ : KX} {ξ : XI} {n : Nat} {β : Nat → Nat → Nat} {ω : Nat → Nat} {e0 tx : Nat} {R : va_W} {Y : St} {a1 : Int32} {res : Int32} (hn : n < 9) (h : sX8_due n Y a1 = some res) : CtM l κ ξ yX8_due cX8_due 3 (some .int) 4 86 0 0 [.ref (β 0 0), .int a1] (wsB κ n β ω e0 tx Y ++ R) (fun rv T9 => rv = some (.int res) ∧ T9 = wsB κ n β ω e0 tx Y ++ R) := by
  refine CtM_i RX8 rfl (by decide +kernel) (Nat.le_of_ble_eq_true rfl) (fun g hgl hgκ X E hf => ?_)
  subst hgl; subst hgκ
  unfold sX8_due at h
  refine L_iconst X (v := (1 : Int32)) dX8_due_0 (by decide) ?_
  refine L_istore_n X (lv' := [(2, .int (1 : Int32)), (0, .ref (β 0 0)), (1, .int a1)]) dX8_due_1 rfl (by decide) rfl ?_
  refine L_sub [1, 2, 0] rfl ?_
  exact gX8_due_b2 X E hn hf FU _ _ h
