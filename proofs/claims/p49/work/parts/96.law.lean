/-! the law itself: its loop of twelve turns, and its first steps -/
def sL_law_b44 (fuel : Nat) (Ln : Nat) (xs : Nat → Int32) (n : Nat) (T : TT) (Y : St) (u : Nat) (a3 : Int32) : Option Unit := match fuel with
  | 0 => none
  | m + 1 =>
    if (12 : Int32) ≤ a3 then some ()
    else gd (ltN u 12) (bd (sL_acts Ln xs n T Y 0 a3) fun q1 =>
      gd (nz q1.2.2) (bd (sL_holds q1.1) fun q2 =>
      gd (nz q2) (if nI n = 0 then sL_law_b44 m Ln xs n q1.1 q1.2.1 (u + 1) (a3 + 1)
        else bd (sL_pick Ln xs ((500 : Int32) + a3) (nI n)) fun p => bd (sL_comes n q1.1 q1.2.1 0 p) fun q3 =>
          gd (nz q3.2) (sL_law_b44 m Ln xs n q3.1 q1.2.1 (u + 1) (a3 + 1)))))
def sL_law (Ln : Nat) (xs : Nat → Int32) : Option Unit :=
  bd (sX8_grown Ln xs) fun w => gd (ltN w.1 9) (gd (ltN w.2.2.length 1301) (bd (sL_feeds w.2.2 T0) fun f =>
    gd (nz f.2) (bd (sT_X6_readText f.1) fun r => gd (decide (r.2 = nI w.1)) (sL_law_b44 FU Ln xs w.1 r.1 w.2.1 0 0))))
theorem isE_t {n : Nat} (hn : n < 9) : (if nI n = 0 then (1 : Int32) else 0) ≠ 0 → nI n = 0 := by
  intro h
  by_cases e : nI n = 0
  · exact e
  · rw [if_neg e] at h; exact absurd rfl h
theorem isE_f {n : Nat} : ¬ (if nI n = 0 then (1 : Int32) else 0) ≠ 0 → ¬ nI n = 0 := by
  intro h e
  rw [if_pos e] at h
  exact h (by decide)
set_option maxRecDepth 20000 in
theorem gL_law_b44 {g : GX} {ξ : XI} {n : Nat} {β : Nat → Nat → Nat} {e0 tx : Nat} {Ln : Nat} {xs : Nat → Int32} (X : CL g RL cL_law 4 13 496 600086 7301442) (E : XE g ξ) (hn : n < 9) (hξ : ξ.1.2 = (Ln, xs)) (hf : ∀ T pc lo, decode cL_law pc = .ok (.ireturn, 1) → L g 600086 7301442 T pc lo [.int 1]) : ∀ (m : Nat) (ω : Nat → Nat) (T : TT) (Y : St) (u : Nat) (a3 : Int32) (hu : u ≤ 12) (h : sL_law_b44 m Ln xs n T Y u a3 = some ()), L g (5000 + 300 * u) (400000 + 5000 * u) (wsB (gκ g) n β ω e0 tx Y ++ wsO (gκ g) T) 44 [(0, .ref ξ.1.1), (1, .ref (β 0 0)), (2, .ref (xE (gκ g) 8 0 0)), (3, .int a3)] [] := by
  intro m
  induction m with
  | zero => intro ω T Y u a3 hu h; unfold sL_law_b44 at h; cases h
  | succ m ih =>
    intro ω T Y u a3 hu h
    unfold sL_law_b44 at h
    refine L_iload_n X 3 dL_law_44 rfl rfl ?_
    refine L_bipush X (v := (12 : Int32)) dL_law_45 (by decide) ?_
    refine L_icmp_ge X (tgt := 115) dL_law_47 (by decide) (fun c => ?_) (fun c => ?_)
    · refine L_iconst X (v := (1 : Int32)) dL_law_115 (by decide) ?_
      refine L_widen (a' := 600086) (b' := 7301442) (by omega) (by omega) ?_
      exact hf _ _ _ dL_law_116
    · have h := it_f c h
      obtain ⟨hg, h⟩ := gd_some h
      have hg := of_decide_eq_true hg
      obtain ⟨q1, hq1, h⟩ := bd_some h
      obtain ⟨g1, h⟩ := gd_some h
      obtain ⟨q2, hq2, h⟩ := bd_some h
      obtain ⟨g2, h⟩ := gd_some h
      refine L_aload_n X 2 dL_law_50 rfl rfl ?_
      refine L_aload_n X 1 dL_law_51 rfl rfl ?_
      refine L_aload_n X 0 dL_law_52 rfl rfl ?_
      refine L_iload_n X 3 dL_law_53 rfl rfl ?_
      refine L_cS X E (As := [.ref (xE (gκ g) 8 0 0), .ref (β 0 0), .ref ξ.1.1, .int a3]) (rest := []) (cw_L_acts hn hξ hq1) cal_L_acts wM_L_236 wT_L_acts ⟨⟨Nat.le_of_ble_eq_true rfl, Nat.le_of_ble_eq_true rfl⟩, by omega, by omega⟩ rfl rfl (Nat.le_of_ble_eq_true rfl) dL_law_54 (fun rv T9 hT9 => ?_)
      obtain ⟨ω1, rfl, hT9⟩ := hT9
      rw [hT9]
      refine L_if_eq X (tgt := 67) dL_law_57 (by decide) (fun c => absurd c (nz_ne g1)) (fun _ => ?_)
      refine L_aload_n X 2 dL_law_60 rfl rfl ?_
      refine L_cS X E (As := [.ref (xE (gκ g) 8 0 0)]) (rest := []) (cw_L_holds hq2) cal_L_holds wM_L_240 wT_L_holds ⟨⟨Nat.le_of_ble_eq_true rfl, Nat.le_of_ble_eq_true rfl⟩, by omega, by omega⟩ rfl rfl (Nat.le_of_ble_eq_true rfl) dL_law_61 (fun rv T9 hT9 => ?_)
      obtain ⟨rfl, hT9⟩ := hT9
      rw [hT9]
      refine L_if_ne X (tgt := 69) dL_law_64 (by decide) (fun _ => ?_) (fun c => absurd c (nz_ne g2))
      refine L_aload_n X 1 dL_law_69 rfl rfl ?_
      refine B_get X hn (N := 12) (k := 10) (c := 8) (o := 0) (j := 0) rfl rfl rfl iX8 rfl (by decide) rfl wF_L_40 rfl dL_law_70 ?_
      refine B_empty X E hn wM_L_173 ⟨⟨Nat.le_of_ble_eq_true rfl, Nat.le_of_ble_eq_true rfl⟩, by omega, by omega⟩ (Nat.le_of_ble_eq_true rfl) dL_law_73 ?_
      refine L_if_ne X (tgt := 109) dL_law_78 (by decide) (fun c => ?_) (fun c => ?_)
      · have h := it_t (isE_t hn c) h
        refine L_iinc X (v := a3 + 1) (lv' := [(3, .int (a3 + 1)), (0, .ref ξ.1.1), (1, .ref (β 0 0)), (2, .ref (xE (gκ g) 8 0 0))]) 3 dL_law_109 rfl rfl (by decide) rfl ?_
        refine L_goto X (tgt := 44) dL_law_112 (by decide) ?_
        refine L_sub [1, 2, 3, 0] rfl ?_
        exact L_widen (by omega) (by omega) (ih ω1 _ _ _ _ (by omega) h)
      · have h := it_f (isE_f (fun k => k c)) h
        obtain ⟨p, hp, h⟩ := bd_some h
        obtain ⟨q3, hq3, h⟩ := bd_some h
        obtain ⟨g3, h⟩ := gd_some h
        refine L_aload_n X 2 dL_law_81 rfl rfl ?_
        refine L_aload_n X 1 dL_law_82 rfl rfl ?_
        refine L_aload_n X 0 dL_law_83 rfl rfl ?_
        refine L_sipush X (v := (500 : Int32)) dL_law_84 (by decide) ?_
        refine L_iload_n X 3 dL_law_87 rfl rfl ?_
        refine L_iadd X dL_law_88 ?_
        refine L_aload_n X 1 dL_law_89 rfl rfl ?_
        refine B_get X hn (N := 12) (k := 10) (c := 8) (o := 0) (j := 0) rfl rfl rfl iX8 rfl (by decide) rfl wF_L_40 rfl dL_law_90 ?_
        refine B_size X E hn wM_L_46 ⟨⟨Nat.le_of_ble_eq_true rfl, Nat.le_of_ble_eq_true rfl⟩, by omega, by omega⟩ (Nat.le_of_ble_eq_true rfl) dL_law_93 ?_
        refine L_cS X E (As := [.ref ξ.1.1, .int ((500 : Int32) + a3), .int (nI n)]) (rest := [.ref (β 0 0), .ref (xE (gκ g) 8 0 0)]) (cw_L_pick hξ hp) cal_L_pick wM_L_162 wT_L_pick ⟨⟨Nat.le_of_ble_eq_true rfl, Nat.le_of_ble_eq_true rfl⟩, by omega, by omega⟩ rfl rfl (Nat.le_of_ble_eq_true rfl) dL_law_98 (fun rv T9 hT9 => ?_)
        obtain ⟨rfl, hT9⟩ := hT9
        rw [hT9]
        refine L_cS X E (As := [.ref (xE (gκ g) 8 0 0), .ref (β 0 0), .int p]) (rest := []) (cw_L_comes hn hq3) cal_L_comes wM_L_244 wT_L_comes ⟨⟨Nat.le_of_ble_eq_true rfl, Nat.le_of_ble_eq_true rfl⟩, by omega, by omega⟩ rfl rfl (Nat.le_of_ble_eq_true rfl) dL_law_101 (fun rv T9 hT9 => ?_)
        obtain ⟨rfl, hT9⟩ := hT9
        rw [hT9]
        refine L_if_ne X (tgt := 109) dL_law_104 (by decide) (fun _ => ?_) (fun c => absurd c (nz_ne g3))
        refine L_iinc X (v := a3 + 1) (lv' := [(3, .int (a3 + 1)), (0, .ref ξ.1.1), (1, .ref (β 0 0)), (2, .ref (xE (gκ g) 8 0 0))]) 3 dL_law_109 rfl rfl (by decide) rfl ?_
        refine L_goto X (tgt := 44) dL_law_112 (by decide) ?_
        refine L_sub [1, 2, 3, 0] rfl ?_
        exact L_widen (by omega) (by omega) (ih ω1 _ _ _ _ (by omega) h)
