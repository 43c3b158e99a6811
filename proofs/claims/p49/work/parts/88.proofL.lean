set_option maxRecDepth 20000 in
theorem gL_alike_b568 {g : GX} {ξ : XI} {n : Nat} {β : Nat → Nat → Nat} {ω : Nat → Nat} {e0 tx : Nat} {T : TT} {Y : St} {res : Int32}  (X : CL g RL cL_alike 11 8 133 9 144) (E : XE g ξ) (hn : n < 9) (hf : FinMi g cL_alike .boolean (fun rv T9 => rv = some (.int res) ∧ T9 = wsB (gκ g) n β ω e0 tx Y ++ wsO (gκ g) T) 9 144)  : ∀ (m : Nat) (u : Nat) (a5 : Int32) (f9 : Nat → Int32) (q9 : Nat) (hu : u ≤ 9) (h : sL_alike_b568 m n T Y u a5 f9 = some res), L g u (16 * u) (wsB (gκ g) n β ω e0 tx Y ++ ((q9, .inl ((gκ g).2.1 1, 10, .inl f9)) :: wsO (gκ g) T)) 568 [(0, .ref (xE (gκ g) 8 0 0)), (4, .ref q9), (5, .int a5)] [] := by
  intro m
  induction m with
  | zero => intro u a5 f9 q9 hu h; unfold sL_alike_b568 at h; cases h
  | succ m ih =>
    intro u a5 f9 q9 hu h
    unfold sL_alike_b568 at h
    refine L_iload X 2 dL_alike_568 rfl ?_
    refine L_bipush X (v := (10 : Int32)) dL_alike_570 (by decide) ?_
    refine L_icmp_ge X (tgt := 597) dL_alike_572 (by decide) (fun c25 => ?_) (fun c25 => ?_)
    · have h := it_t c25 h
      refine L_iconst X (v := (1 : Int32)) dL_alike_597 (by decide) ?_
      refine B_drop ?_
      refine L_widen (a' := 9) (b' := 144) (by omega) (by omega) ?_
      obtain rfl := Option.some.inj h
      exact hf _ _ _ _ dL_alike_598 (isb_n (by decide)) ⟨rfl, rfl⟩
    · have h := it_f c25 h
      refine L_aload_n X 0 dL_alike_575 rfl rfl ?_
      refine L_iload X 2 dL_alike_576 rfl ?_
      obtain ⟨q26, hq26, h⟩ := bd_some h
      refine L_cC X (B := wsB (gκ g) n β ω e0 tx Y ++ [(q9, .inl ((gκ g).2.1 1, 10, .inl f9))]) (Tl' := wsB (gκ g) n β ω e0 tx Y ++ ((q9, .inl ((gκ g).2.1 1, 10, .inl f9)) :: wsO (gκ g) T)) (by simp only [List.append_assoc, List.cons_append, List.nil_append]) (by simp only [List.append_assoc, List.cons_append, List.nil_append]) (fun κ => gT_X6_setting (r := q26) hq26) cal_X6_setting wM_L_158 wI_X6_setting wS_X6_setting ⟨⟨(Nat.le_of_ble_eq_true rfl), (Nat.le_of_ble_eq_true rfl)⟩, by omega, by omega⟩ (As := [.int a5]) (rest := []) rfl rfl (Nat.le_of_ble_eq_true rfl) dL_alike_578 rfl ?_
      refine L_aload X 1 dL_alike_581 rfl ?_
      refine L_iload X 2 dL_alike_583 rfl ?_
      obtain ⟨g27, h⟩ := gd_some h
      refine B_tld X g27 dL_alike_585 ?_
      refine L_icmp_eq X (tgt := 591) dL_alike_586 (by decide) (fun c28 => ?_) (fun c28 => ?_)
      · have h := it_t c28 h
        obtain ⟨v29, ev29, h⟩ := nm_some h
        refine L_iinc X (v := v29) (lv' := [(5, .int v29), (0, .ref (xE (gκ g) 8 0 0)), (4, .ref q9)]) 2 dL_alike_591 rfl (by rw [ev29]; rfl) (by decide) rfl ?_
        refine L_goto X (tgt := 568) dL_alike_594 (by decide) ?_
        refine L_sub [1, 2, 0] rfl ?_
        exact ih _ _ _ _ (by omega) h
      · have h := it_f c28 h
        refine L_iconst X (v := (0 : Int32)) dL_alike_589 (by decide) ?_
        refine B_drop ?_
        refine L_widen (a' := 9) (b' := 144) (by omega) (by omega) ?_
        obtain rfl := Option.some.inj h
        exact hf _ _ _ _ dL_alike_590 (isb_n (by decide)) ⟨rfl, rfl⟩
set_option maxRecDepth 20000 in
theorem gL_alike_b364 {g : GX} {ξ : XI} {n : Nat} {β : Nat → Nat → Nat} {ω : Nat → Nat} {e0 tx : Nat} {T : TT} {Y : St} {res : Int32} {k7 : TT → St → Nat → Int32 → Int32 → Int32 → Option (Int32)} (X : CL g RL cL_alike 11 8 133 9 144) (E : XE g ξ) (hn : n < 9) (hf : FinMi g cL_alike .boolean (fun rv T9 => rv = some (.int res) ∧ T9 = wsB (gκ g) n β ω e0 tx Y ++ wsO (gκ g) T) 9 144) (hk7 : ∀ (u' : Nat) (a2' : Int32) (a3' : Int32) (a4' : Int32) (hu' : u' ≤ 9), k7 T Y u' a2' a3' a4' = some res → L g u' (16 * u') (wsB (gκ g) n β ω e0 tx Y ++ (wsO (gκ g) T)) 7 [(0, .ref (xE (gκ g) 8 0 0)), (1, .ref (β 0 0)), (2, .int a2'), (3, .int a3'), (4, .int a4')] []) : ∀ (m : Nat) (u : Nat) (a2 : Int32) (a3 : Int32) (a4 : Int32) (b5 : Nat) (a8 : Int32) (a10 : Int32) (hb5 : b5 < n) (hu : u ≤ 9) (h : sL_alike_b364 m k7 n T Y u a2 a3 a4 b5 a8 a10 = some res), L g u (16 * u) (wsB (gκ g) n β ω e0 tx Y ++ (wsO (gκ g) T)) 364 [(0, .ref (xE (gκ g) 8 0 0)), (1, .ref (β 0 0)), (2, .int a2), (3, .int a3), (4, .int a4), (5, .ref (β (b5 + 1) 0)), (8, .int a8), (10, .int a10)] [] := by
  intro m
  induction m with
  | zero => intro u a2 a3 a4 b5 a8 a10 hb5 hu h; unfold sL_alike_b364 at h; cases h
  | succ m ih =>
    intro u a2 a3 a4 b5 a8 a10 hb5 hu h
    unfold sL_alike_b364 at h
    refine L_iload X 7 dL_alike_364 rfl ?_
    refine L_iconst X (v := (4 : Int32)) dL_alike_366 (by decide) ?_
    refine L_icmp_ge X (tgt := 418) dL_alike_367 (by decide) (fun c75 => ?_) (fun c75 => ?_)
    · have h := it_t c75 h
      refine L_aload_n X 0 dL_alike_418 rfl rfl ?_
      refine L_iload X 4 dL_alike_419 rfl ?_
      obtain ⟨q76, hq76, h⟩ := bd_some h
      refine L_cC X (B := wsB (gκ g) n β ω e0 tx Y) (Tl' := wsB (gκ g) n β ω e0 tx Y ++ (wsO (gκ g) T)) rfl rfl (fun κ => gT_X6_reckoned (r := q76) hq76) cal_X6_reckoned wM_L_128 wI_X6_reckoned wS_X6_reckoned ⟨⟨(Nat.le_of_ble_eq_true rfl), (Nat.le_of_ble_eq_true rfl)⟩, by omega, by omega⟩ (As := [.int a4]) (rest := []) rfl rfl (Nat.le_of_ble_eq_true rfl) dL_alike_421 rfl ?_
      refine L_iload X 6 dL_alike_424 rfl ?_
      refine L_icmp_ne X (tgt := 459) dL_alike_426 (by decide) (fun c77 => ?_) (fun c77 => ?_)
      · have h := it_t c77 h
        refine L_iconst X (v := (0 : Int32)) dL_alike_459 (by decide) ?_
        refine L_widen (a' := 9) (b' := 144) (by omega) (by omega) ?_
        obtain rfl := Option.some.inj h
        exact hf _ _ _ _ dL_alike_460 (isb_n (by decide)) ⟨rfl, rfl⟩
      · have h := it_f (fun k => k c77) h
        refine L_aload_n X 0 dL_alike_429 rfl rfl ?_
        refine L_iload X 4 dL_alike_430 rfl ?_
        obtain ⟨q78, hq78, h⟩ := bd_some h
        refine L_cC X (B := wsB (gκ g) n β ω e0 tx Y) (Tl' := wsB (gκ g) n β ω e0 tx Y ++ (wsO (gκ g) T)) rfl rfl (fun κ => gT_X6_window (r := q78) hq78) cal_X6_window wM_L_131 wI_X6_window wS_X6_window ⟨⟨(Nat.le_of_ble_eq_true rfl), (Nat.le_of_ble_eq_true rfl)⟩, by omega, by omega⟩ (As := [.int a4]) (rest := []) rfl rfl (Nat.le_of_ble_eq_true rfl) dL_alike_432 rfl ?_
        refine L_aload_n X 1 dL_alike_435 rfl rfl ?_
        refine L_iload X 4 dL_alike_436 rfl ?_
        obtain ⟨q79, hq79, h⟩ := bd_some h
        refine L_cW X E hn (As := [.int a4]) (rest := [.int q78]) (cw_X8_window hn hq79) cal_X8_window wM_L_134 wI_X8_window wS_X8_window ⟨⟨(Nat.le_of_ble_eq_true rfl), (Nat.le_of_ble_eq_true rfl)⟩, by omega, by omega⟩ rfl rfl (Nat.le_of_ble_eq_true rfl) dL_alike_438 (fun rv T9 hT9 => ?_)
        obtain ⟨rfl, hT9⟩ := hT9
        rw [hT9]
        refine L_icmp_ne X (tgt := 459) dL_alike_441 (by decide) (fun c80 => ?_) (fun c80 => ?_)
        · have h := it_t c80 h
          refine L_iconst X (v := (0 : Int32)) dL_alike_459 (by decide) ?_
          refine L_widen (a' := 9) (b' := 144) (by omega) (by omega) ?_
          obtain rfl := Option.some.inj h
          exact hf _ _ _ _ dL_alike_460 (isb_n (by decide)) ⟨rfl, rfl⟩
        · have h := it_f (fun k => k c80) h
          refine L_aload_n X 0 dL_alike_444 rfl rfl ?_
          refine L_iload X 4 dL_alike_445 rfl ?_
          obtain ⟨q81, hq81, h⟩ := bd_some h
          refine L_cC X (B := wsB (gκ g) n β ω e0 tx Y) (Tl' := wsB (gκ g) n β ω e0 tx Y ++ (wsO (gκ g) T)) rfl rfl (fun κ => gT_X6_dueIn (r := q81) hq81) cal_X6_dueIn wM_L_135 wI_X6_dueIn wS_X6_dueIn ⟨⟨(Nat.le_of_ble_eq_true rfl), (Nat.le_of_ble_eq_true rfl)⟩, by omega, by omega⟩ (As := [.int a4]) (rest := []) rfl rfl (Nat.le_of_ble_eq_true rfl) dL_alike_447 rfl ?_
          refine L_aload_n X 1 dL_alike_450 rfl rfl ?_
          refine L_iload X 4 dL_alike_451 rfl ?_
          obtain ⟨q82, hq82, h⟩ := bd_some h
          refine L_cW X E hn (As := [.int a4]) (rest := [.int q81]) (cw_X8_due hn hq82) cal_X8_due wM_L_138 wI_X8_due wS_X8_due ⟨⟨(Nat.le_of_ble_eq_true rfl), (Nat.le_of_ble_eq_true rfl)⟩, by omega, by omega⟩ rfl rfl (Nat.le_of_ble_eq_true rfl) dL_alike_453 (fun rv T9 hT9 => ?_)
          obtain ⟨rfl, hT9⟩ := hT9
          rw [hT9]
          refine L_icmp_eq X (tgt := 461) dL_alike_456 (by decide) (fun c83 => ?_) (fun c83 => ?_)
          · have h := it_t c83 h
            refine L_iload_n X 3 dL_alike_461 rfl rfl ?_
            refine L_aload X 5 dL_alike_462 rfl ?_
            refine B_get X hn (N := 16) (k := 5) (c := 7) (kb_b0 hb5) rfl rfl iX7 rfl (by decide) rfl wF_L_95 rfl dL_alike_464 ?_
            refine L_iconst X (v := (4 : Int32)) dL_alike_467 (by decide) ?_
            refine L_icmp_ne X (tgt := 475) dL_alike_468 (by decide) (fun c84 => ?_) (fun c84 => ?_)
            · have h := it_t c84 h
              refine L_iconst X (v := (0 : Int32)) dL_alike_475 (by decide) ?_
              refine L_iadd X dL_alike_476 ?_
              refine L_istore_n X (lv' := [(3, .int (a3 + (0 : Int32))), (0, .ref (xE (gκ g) 8 0 0)), (1, .ref (β 0 0)), (2, .int a2), (4, .int a4), (5, .ref (β (b5 + 1) 0)), (8, .int a8), (10, .int a10)]) dL_alike_477 rfl (by decide) rfl ?_
              obtain ⟨v85, ev85, h⟩ := nm_some h
              refine L_iinc X (v := v85) (lv' := [(4, .int v85), (3, .int (a3 + (0 : Int32))), (0, .ref (xE (gκ g) 8 0 0)), (1, .ref (β 0 0)), (2, .int a2), (5, .ref (β (b5 + 1) 0)), (8, .int a8), (10, .int a10)]) 4 dL_alike_478 rfl (by rw [ev85]; rfl) (by decide) rfl ?_
              refine L_goto X (tgt := 7) dL_alike_481 (by decide) ?_
              refine L_sub [2, 3, 4, 1, 0] rfl ?_
              exact hk7 _ _ _ _ (by omega) h
            · have h := it_f (fun k => k c84) h
              refine L_iconst X (v := (1 : Int32)) dL_alike_471 (by decide) ?_
              refine L_goto X (tgt := 476) dL_alike_472 (by decide) ?_
              refine L_iadd X dL_alike_476 ?_
              refine L_istore_n X (lv' := [(3, .int (a3 + (1 : Int32))), (0, .ref (xE (gκ g) 8 0 0)), (1, .ref (β 0 0)), (2, .int a2), (4, .int a4), (5, .ref (β (b5 + 1) 0)), (8, .int a8), (10, .int a10)]) dL_alike_477 rfl (by decide) rfl ?_
              obtain ⟨v86, ev86, h⟩ := nm_some h
              refine L_iinc X (v := v86) (lv' := [(4, .int v86), (3, .int (a3 + (1 : Int32))), (0, .ref (xE (gκ g) 8 0 0)), (1, .ref (β 0 0)), (2, .int a2), (5, .ref (β (b5 + 1) 0)), (8, .int a8), (10, .int a10)]) 4 dL_alike_478 rfl (by rw [ev86]; rfl) (by decide) rfl ?_
              refine L_goto X (tgt := 7) dL_alike_481 (by decide) ?_
              refine L_sub [2, 3, 4, 1, 0] rfl ?_
              exact hk7 _ _ _ _ (by omega) h
          · have h := it_f c83 h
            refine L_iconst X (v := (0 : Int32)) dL_alike_459 (by decide) ?_
            refine L_widen (a' := 9) (b' := 144) (by omega) (by omega) ?_
            obtain rfl := Option.some.inj h
            exact hf _ _ _ _ dL_alike_460 (isb_n (by decide)) ⟨rfl, rfl⟩
    · have h := it_f c75 h
      refine L_aload_n X 0 dL_alike_370 rfl rfl ?_
      refine L_iload X 4 dL_alike_371 rfl ?_
      refine L_iload X 7 dL_alike_373 rfl ?_
      obtain ⟨q87, hq87, h⟩ := bd_some h
      refine L_cC X (B := wsB (gκ g) n β ω e0 tx Y) (Tl' := wsB (gκ g) n β ω e0 tx Y ++ (wsO (gκ g) T)) rfl rfl (fun κ => gT_X6_slots (r := q87) hq87) cal_X6_slots wM_L_120 wI_X6_slots wS_X6_slots ⟨⟨(Nat.le_of_ble_eq_true rfl), (Nat.le_of_ble_eq_true rfl)⟩, by omega, by omega⟩ (As := [.int a4, .int a10]) (rest := []) rfl rfl (Nat.le_of_ble_eq_true rfl) dL_alike_375 rfl ?_
      refine L_aload X 5 dL_alike_378 rfl ?_
      refine B_get X hn (N := 16) (k := 12) (c := 7) (kb_b0 hb5) rfl rfl iX7 rfl (by decide) rfl wF_L_123 rfl dL_alike_380 ?_
      refine L_iload X 7 dL_alike_383 rfl ?_
      obtain ⟨g88, h⟩ := gd_some h
      refine B_iald X hn (kb_b1 hb5) rfl g88 dL_alike_385 ?_
      refine L_icmp_eq X (tgt := 391) dL_alike_386 (by decide) (fun c89 => ?_) (fun c89 => ?_)
      · have h := it_t c89 h
        refine L_iload X 6 dL_alike_391 rfl ?_
        refine L_aload X 5 dL_alike_393 rfl ?_
        refine B_get X hn (N := 16) (k := 12) (c := 7) (kb_b0 hb5) rfl rfl iX7 rfl (by decide) rfl wF_L_123 rfl dL_alike_395 ?_
        refine L_iload X 7 dL_alike_398 rfl ?_
        obtain ⟨g90, h⟩ := gd_some h
        refine B_iald X hn (kb_b1 hb5) rfl g90 dL_alike_400 ?_
        refine L_aload_n X 1 dL_alike_401 rfl rfl ?_
        refine B_get X hn (N := 12) (k := 7) (c := 8) (o := 0) (j := 0) rfl rfl rfl iX8 rfl (by decide) rfl wF_L_125 rfl dL_alike_402 ?_
        refine L_iload X 7 dL_alike_405 rfl ?_
        obtain ⟨g91, h⟩ := gd_some h
        refine B_iald X hn (o := 0) (j := 1) rfl rfl g91 dL_alike_407 ?_
        refine L_imul X dL_alike_408 ?_
        refine L_iadd X dL_alike_409 ?_
        obtain ⟨v92, ev92, h⟩ := nm_some h
        refine L_nmi ev92 ?_
        refine L_istore X (lv' := [(8, .int v92), (0, .ref (xE (gκ g) 8 0 0)), (1, .ref (β 0 0)), (2, .int a2), (3, .int a3), (4, .int a4), (5, .ref (β (b5 + 1) 0)), (10, .int a10)]) dL_alike_410 (by decide) rfl ?_
        obtain ⟨v93, ev93, h⟩ := nm_some h
        refine L_iinc X (v := v93) (lv' := [(10, .int v93), (8, .int v92), (0, .ref (xE (gκ g) 8 0 0)), (1, .ref (β 0 0)), (2, .int a2), (3, .int a3), (4, .int a4), (5, .ref (β (b5 + 1) 0))]) 7 dL_alike_412 rfl (by rw [ev93]; rfl) (by decide) rfl ?_
        refine L_goto X (tgt := 364) dL_alike_415 (by decide) ?_
        refine L_sub [2, 3, 4, 5, 6, 7, 1, 0] rfl ?_
        exact ih _ _ _ _ _ _ _ hb5 (by omega) h
      · have h := it_f c89 h
        refine L_iconst X (v := (0 : Int32)) dL_alike_389 (by decide) ?_
        refine L_widen (a' := 9) (b' := 144) (by omega) (by omega) ?_
        obtain rfl := Option.some.inj h
        exact hf _ _ _ _ dL_alike_390 (isb_n (by decide)) ⟨rfl, rfl⟩
set_option maxRecDepth 20000 in
theorem gL_alike_b330 {g : GX} {ξ : XI} {n : Nat} {β : Nat → Nat → Nat} {ω : Nat → Nat} {e0 tx : Nat} {T : TT} {Y : St} {res : Int32} {k7 : TT → St → Nat → Int32 → Int32 → Int32 → Option (Int32)} (X : CL g RL cL_alike 11 8 133 9 144) (E : XE g ξ) (hn : n < 9) (hf : FinMi g cL_alike .boolean (fun rv T9 => rv = some (.int res) ∧ T9 = wsB (gκ g) n β ω e0 tx Y ++ wsO (gκ g) T) 9 144) (hk7 : ∀ (u' : Nat) (a2' : Int32) (a3' : Int32) (a4' : Int32) (hu' : u' ≤ 9), k7 T Y u' a2' a3' a4' = some res → L g u' (16 * u') (wsB (gκ g) n β ω e0 tx Y ++ (wsO (gκ g) T)) 7 [(0, .ref (xE (gκ g) 8 0 0)), (1, .ref (β 0 0)), (2, .int a2'), (3, .int a3'), (4, .int a4')] []) : ∀ (m : Nat) (u : Nat) (a2 : Int32) (a3 : Int32) (a4 : Int32) (b5 : Nat) (a8 : Int32) (a10 : Int32) (f9 : Nat → Int32) (q9 : Nat) (hb5 : b5 < n) (hu : u ≤ 9) (h : sL_alike_b330 m k7 n T Y u a2 a3 a4 b5 a8 a10 f9 = some res), L g u (16 * u) (wsB (gκ g) n β ω e0 tx Y ++ ((q9, .inl ((gκ g).2.1 1, 14, .inl f9)) :: wsO (gκ g) T)) 330 [(0, .ref (xE (gκ g) 8 0 0)), (1, .ref (β 0 0)), (2, .int a2), (3, .int a3), (4, .int a4), (5, .ref (β (b5 + 1) 0)), (8, .int a8), (9, .ref q9), (10, .int a10)] [] := by
  intro m
  induction m with
  | zero => intro u a2 a3 a4 b5 a8 a10 f9 q9 hb5 hu h; unfold sL_alike_b330 at h; cases h
  | succ m ih =>
    intro u a2 a3 a4 b5 a8 a10 f9 q9 hb5 hu h
    unfold sL_alike_b330 at h
    refine L_iload X 8 dL_alike_330 rfl ?_
    refine L_bipush X (v := (14 : Int32)) dL_alike_332 (by decide) ?_
    refine L_icmp_ge X (tgt := 361) dL_alike_334 (by decide) (fun c67 => ?_) (fun c67 => ?_)
    · have h := it_t c67 h
      refine L_iconst X (v := (0 : Int32)) dL_alike_361 (by decide) ?_
      refine L_istore X (lv' := [(10, .int (0 : Int32)), (0, .ref (xE (gκ g) 8 0 0)), (1, .ref (β 0 0)), (2, .int a2), (3, .int a3), (4, .int a4), (5, .ref (β (b5 + 1) 0)), (8, .int a8), (9, .ref q9)]) dL_alike_362 (by decide) rfl ?_
      refine B_drop ?_
      refine L_sub [1, 2, 3, 4, 5, 6, 7, 0] rfl ?_
      exact gL_alike_b364 X E hn hf hk7 FU _ _ _ _ _ _ _ hb5 (by omega) h
    · have h := it_f c67 h
      refine L_aload_n X 0 dL_alike_337 rfl rfl ?_
      refine L_iload X 4 dL_alike_338 rfl ?_
      refine L_iload X 8 dL_alike_340 rfl ?_
      obtain ⟨q68, hq68, h⟩ := bd_some h
      refine L_cC X (B := wsB (gκ g) n β ω e0 tx Y ++ [(q9, .inl ((gκ g).2.1 1, 14, .inl f9))]) (Tl' := wsB (gκ g) n β ω e0 tx Y ++ ((q9, .inl ((gκ g).2.1 1, 14, .inl f9)) :: wsO (gκ g) T)) (by simp only [List.append_assoc, List.cons_append, List.nil_append]) (by simp only [List.append_assoc, List.cons_append, List.nil_append]) (fun κ => gT_X6_beacon (r := q68) hq68) cal_X6_beacon wM_L_117 wI_X6_beacon wS_X6_beacon ⟨⟨(Nat.le_of_ble_eq_true rfl), (Nat.le_of_ble_eq_true rfl)⟩, by omega, by omega⟩ (As := [.int a4, .int a10]) (rest := []) rfl rfl (Nat.le_of_ble_eq_true rfl) dL_alike_342 rfl ?_
      refine L_aload X 7 dL_alike_345 rfl ?_
      refine L_iload X 8 dL_alike_347 rfl ?_
      obtain ⟨g69, h⟩ := gd_some h
      refine B_tld X g69 dL_alike_349 ?_
      refine L_icmp_eq X (tgt := 355) dL_alike_350 (by decide) (fun c70 => ?_) (fun c70 => ?_)
      · have h := it_t c70 h
        obtain ⟨v71, ev71, h⟩ := nm_some h
        refine L_iinc X (v := v71) (lv' := [(10, .int v71), (0, .ref (xE (gκ g) 8 0 0)), (1, .ref (β 0 0)), (2, .int a2), (3, .int a3), (4, .int a4), (5, .ref (β (b5 + 1) 0)), (8, .int a8), (9, .ref q9)]) 8 dL_alike_355 rfl (by rw [ev71]; rfl) (by decide) rfl ?_
        refine L_goto X (tgt := 330) dL_alike_358 (by decide) ?_
        refine L_sub [1, 2, 3, 4, 5, 6, 7, 8, 0] rfl ?_
        exact ih _ _ _ _ _ _ _ _ _ hb5 (by omega) h
      · have h := it_f c70 h
        refine L_iconst X (v := (0 : Int32)) dL_alike_353 (by decide) ?_
        refine B_drop ?_
        refine L_widen (a' := 9) (b' := 144) (by omega) (by omega) ?_
        obtain rfl := Option.some.inj h
        exact hf _ _ _ _ dL_alike_354 (isb_n (by decide)) ⟨rfl, rfl⟩
set_option maxRecDepth 20000 in
theorem gL_alike_b285 {g : GX} {ξ : XI} {n : Nat} {β : Nat → Nat → Nat} {ω : Nat → Nat} {e0 tx : Nat} {T : TT} {Y : St} {res : Int32} {k7 : TT → St → Nat → Int32 → Int32 → Int32 → Option (Int32)} (X : CL g RL cL_alike 11 8 133 9 144) (E : XE g ξ) (hn : n < 9) (hf : FinMi g cL_alike .boolean (fun rv T9 => rv = some (.int res) ∧ T9 = wsB (gκ g) n β ω e0 tx Y ++ wsO (gκ g) T) 9 144) (hk7 : ∀ (u' : Nat) (a2' : Int32) (a3' : Int32) (a4' : Int32) (hu' : u' ≤ 9), k7 T Y u' a2' a3' a4' = some res → L g u' (16 * u') (wsB (gκ g) n β ω e0 tx Y ++ (wsO (gκ g) T)) 7 [(0, .ref (xE (gκ g) 8 0 0)), (1, .ref (β 0 0)), (2, .int a2'), (3, .int a3'), (4, .int a4')] []) (u : Nat) (a2 : Int32) (a3 : Int32) (a4 : Int32) (b5 : Nat) (a6 : Int32) (a7 : Int32) (a8 : Int32) (as0 : Int32) (as1 : Int32) (f9 : Nat → Int32) (q9 : Nat) (hb5 : b5 < n) (hu : u ≤ 9) (h : sL_alike_b285 k7 n T Y u a2 a3 a4 b5 a6 a7 a8 as0 as1 f9 = some res) : L g u (16 * u) (wsB (gκ g) n β ω e0 tx Y ++ ((q9, .inl ((gκ g).2.1 1, 14, .inl f9)) :: wsO (gκ g) T)) 285 [(0, .ref (xE (gκ g) 8 0 0)), (1, .ref (β 0 0)), (2, .int a2), (3, .int a3), (4, .int a4), (5, .ref (β (b5 + 1) 0)), (6, .int a6), (7, .int a7), (8, .int a8)] [.int as0, .int as1, .ref q9, .ref q9] := by
  unfold sL_alike_b285 at h
  obtain ⟨g53, h⟩ := gd_some h
  obtain ⟨f54, ef54, h⟩ := nm_some h
  refine B_tst X g53 ef54.symm dL_alike_285 ?_
  refine L_dup X dL_alike_286 rfl ?_
  refine L_bipush X (v := (9 : Int32)) dL_alike_287 (by decide) ?_
  refine L_iload X 6 dL_alike_289 rfl ?_
  obtain ⟨g55, h⟩ := gd_some h
  obtain ⟨f56, ef56, h⟩ := nm_some h
  refine B_tst X g55 ef56.symm dL_alike_291 ?_
  refine L_dup X dL_alike_292 rfl ?_
  refine L_bipush X (v := (10 : Int32)) dL_alike_293 (by decide) ?_
  refine L_iload X 7 dL_alike_295 rfl ?_
  obtain ⟨g57, h⟩ := gd_some h
  obtain ⟨f58, ef58, h⟩ := nm_some h
  refine B_tst X g57 ef58.symm dL_alike_297 ?_
  refine L_dup X dL_alike_298 rfl ?_
  refine L_bipush X (v := (11 : Int32)) dL_alike_299 (by decide) ?_
  refine L_aload X 5 dL_alike_301 rfl ?_
  refine B_get X hn (N := 16) (k := 8) (c := 7) (kb_b0 hb5) rfl rfl iX7 rfl (by decide) rfl wF_L_108 rfl dL_alike_303 ?_
  obtain ⟨g59, h⟩ := gd_some h
  obtain ⟨f60, ef60, h⟩ := nm_some h
  refine B_tst X g59 ef60.symm dL_alike_306 ?_
  refine L_dup X dL_alike_307 rfl ?_
  refine L_bipush X (v := (12 : Int32)) dL_alike_308 (by decide) ?_
  refine L_aload X 5 dL_alike_310 rfl ?_
  refine B_get X hn (N := 16) (k := 9) (c := 7) (kb_b0 hb5) rfl rfl iX7 rfl (by decide) rfl wF_L_111 rfl dL_alike_312 ?_
  obtain ⟨g61, h⟩ := gd_some h
  obtain ⟨f62, ef62, h⟩ := nm_some h
  refine B_tst X g61 ef62.symm dL_alike_315 ?_
  refine L_dup X dL_alike_316 rfl ?_
  refine L_bipush X (v := (13 : Int32)) dL_alike_317 (by decide) ?_
  refine L_aload X 5 dL_alike_319 rfl ?_
  refine B_get X hn (N := 16) (k := 10) (c := 7) (kb_b0 hb5) rfl rfl iX7 rfl (by decide) rfl wF_L_114 rfl dL_alike_321 ?_
  obtain ⟨g63, h⟩ := gd_some h
  obtain ⟨f64, ef64, h⟩ := nm_some h
  refine B_tst X g63 ef64.symm dL_alike_324 ?_
  refine L_astore X (lv' := [(9, .ref q9), (0, .ref (xE (gκ g) 8 0 0)), (1, .ref (β 0 0)), (2, .int a2), (3, .int a3), (4, .int a4), (5, .ref (β (b5 + 1) 0)), (6, .int a6), (7, .int a7), (8, .int a8)]) dL_alike_325 (by decide) rfl ?_
  refine L_iconst X (v := (0 : Int32)) dL_alike_327 (by decide) ?_
  refine L_istore X (lv' := [(10, .int (0 : Int32)), (9, .ref q9), (0, .ref (xE (gκ g) 8 0 0)), (1, .ref (β 0 0)), (2, .int a2), (3, .int a3), (4, .int a4), (5, .ref (β (b5 + 1) 0)), (6, .int a6), (7, .int a7), (8, .int a8)]) dL_alike_328 (by decide) rfl ?_
  refine L_sub [2, 3, 4, 5, 6, 7, 10, 1, 0] rfl ?_
  exact gL_alike_b330 X E hn hf hk7 FU _ _ _ _ _ _ _ _ _ hb5 (by omega) h
set_option maxRecDepth 20000 in
theorem gL_alike_b132 {g : GX} {ξ : XI} {n : Nat} {β : Nat → Nat → Nat} {ω : Nat → Nat} {e0 tx : Nat} {T : TT} {Y : St} {res : Int32} {k7 : TT → St → Nat → Int32 → Int32 → Int32 → Option (Int32)} {k49 : TT → St → Nat → Int32 → Int32 → Int32 → Nat → Int32 → Int32 → Int32 → Int32 → Option (Int32)} (X : CL g RL cL_alike 11 8 133 9 144) (E : XE g ξ) (hn : n < 9) (hf : FinMi g cL_alike .boolean (fun rv T9 => rv = some (.int res) ∧ T9 = wsB (gκ g) n β ω e0 tx Y ++ wsO (gκ g) T) 9 144) (hk7 : ∀ (u' : Nat) (a2' : Int32) (a3' : Int32) (a4' : Int32) (hu' : u' ≤ 9), k7 T Y u' a2' a3' a4' = some res → L g u' (16 * u') (wsB (gκ g) n β ω e0 tx Y ++ (wsO (gκ g) T)) 7 [(0, .ref (xE (gκ g) 8 0 0)), (1, .ref (β 0 0)), (2, .int a2'), (3, .int a3'), (4, .int a4')] []) (hk49 : ∀ (u' : Nat) (a2' : Int32) (a3' : Int32) (a4' : Int32) (b5' : Nat) (a6' : Int32) (a7' : Int32) (a8' : Int32) (a9' : Int32) (hb5' : b5' < n) (hu' : u' ≤ 9), k49 T Y u' a2' a3' a4' b5' a6' a7' a8' a9' = some res → L g u' (16 * u') (wsB (gκ g) n β ω e0 tx Y ++ (wsO (gκ g) T)) 49 [(0, .ref (xE (gκ g) 8 0 0)), (1, .ref (β 0 0)), (2, .int a2'), (3, .int a3'), (4, .int a4'), (5, .ref (β (b5' + 1) 0)), (6, .int a6'), (7, .int a7'), (8, .int a8'), (9, .int a9')] []) (u : Nat) (a3 : Int32) (a4 : Int32) (b5 : Nat) (a6 : Int32) (a7 : Int32) (a8 : Int32) (a9 : Int32) (as0 : Int32) (as1 : Int32) (hb5 : b5 < n) (hu : u ≤ 9) (h : sL_alike_b132 k7 k49 n T Y u a3 a4 b5 a6 a7 a8 a9 as0 as1 = some res) : L g u (16 * u) (wsB (gκ g) n β ω e0 tx Y ++ (wsO (gκ g) T)) 132 [(0, .ref (xE (gκ g) 8 0 0)), (1, .ref (β 0 0)), (3, .int a3), (4, .int a4), (5, .ref (β (b5 + 1) 0)), (6, .int a6), (7, .int a7), (8, .int a8), (9, .int a9)] [.int as0, .int as1] := by
  unfold sL_alike_b132 at h
  refine L_iadd X dL_alike_132 ?_
  refine L_istore_n X (lv' := [(2, .int (as1 + as0)), (0, .ref (xE (gκ g) 8 0 0)), (1, .ref (β 0 0)), (3, .int a3), (4, .int a4), (5, .ref (β (b5 + 1) 0)), (6, .int a6), (7, .int a7), (8, .int a8), (9, .int a9)]) dL_alike_133 rfl (by decide) rfl ?_
  refine L_aload_n X 1 dL_alike_134 rfl rfl ?_
  refine L_iload X 4 dL_alike_135 rfl ?_
  refine L_iload X 9 dL_alike_137 rfl ?_
  obtain ⟨q94, hq94, h⟩ := bd_some h
  refine L_cC X (B := wsB (gκ g) n β ω e0 tx Y) (Tl' := wsB (gκ g) n β ω e0 tx Y ++ (wsO (gκ g) T)) rfl rfl (fun κ => gT_X6_heard (r := q94) hq94) cal_X6_heard wM_L_65 wI_X6_heard wS_X6_heard ⟨⟨(Nat.le_of_ble_eq_true rfl), (Nat.le_of_ble_eq_true rfl)⟩, by omega, by omega⟩ (As := [.int a4, .int a9]) (rest := []) rfl rfl (Nat.le_of_ble_eq_true rfl) dL_alike_139 rfl ?_
  refine L_aload X 5 dL_alike_142 rfl ?_
  refine B_get X hn (N := 16) (k := 13) (c := 7) (kb_b0 hb5) rfl rfl iX7 rfl (by decide) rfl wF_L_69 rfl dL_alike_144 ?_
  refine L_iload X 9 dL_alike_147 rfl ?_
  obtain ⟨g95, h⟩ := gd_some h
  refine B_iald X hn (kb_b2 hb5) rfl g95 dL_alike_149 ?_
  refine L_icmp_ne X (tgt := 191) dL_alike_150 (by decide) (fun c96 => ?_) (fun c96 => ?_)
  · have h := it_t c96 h
    refine L_iconst X (v := (0 : Int32)) dL_alike_191 (by decide) ?_
    refine L_widen (a' := 9) (b' := 144) (by omega) (by omega) ?_
    obtain rfl := Option.some.inj h
    exact hf _ _ _ _ dL_alike_192 (isb_n (by decide)) ⟨rfl, rfl⟩
  · have h := it_f (fun k => k c96) h
    refine L_aload_n X 1 dL_alike_153 rfl rfl ?_
    refine L_iload X 4 dL_alike_154 rfl ?_
    refine L_iload X 9 dL_alike_156 rfl ?_
    obtain ⟨q97, hq97, h⟩ := bd_some h
    refine L_cC X (B := wsB (gκ g) n β ω e0 tx Y) (Tl' := wsB (gκ g) n β ω e0 tx Y ++ (wsO (gκ g) T)) rfl rfl (fun κ => gT_X6_whyNot (r := q97) hq97) cal_X6_whyNot wM_L_72 wI_X6_whyNot wS_X6_whyNot ⟨⟨(Nat.le_of_ble_eq_true rfl), (Nat.le_of_ble_eq_true rfl)⟩, by omega, by omega⟩ (As := [.int a4, .int a9]) (rest := []) rfl rfl (Nat.le_of_ble_eq_true rfl) dL_alike_158 rfl ?_
    refine L_aload X 5 dL_alike_161 rfl ?_
    refine B_get X hn (N := 16) (k := 15) (c := 7) (kb_b0 hb5) rfl rfl iX7 rfl (by decide) rfl wF_L_75 rfl dL_alike_163 ?_
    refine L_iload X 9 dL_alike_166 rfl ?_
    obtain ⟨g98, h⟩ := gd_some h
    refine B_iald X hn (kb_b4 hb5) rfl g98 dL_alike_168 ?_
    refine L_icmp_ne X (tgt := 191) dL_alike_169 (by decide) (fun c99 => ?_) (fun c99 => ?_)
    · have h := it_t c99 h
      refine L_iconst X (v := (0 : Int32)) dL_alike_191 (by decide) ?_
      refine L_widen (a' := 9) (b' := 144) (by omega) (by omega) ?_
      obtain rfl := Option.some.inj h
      exact hf _ _ _ _ dL_alike_192 (isb_n (by decide)) ⟨rfl, rfl⟩
    · have h := it_f (fun k => k c99) h
      refine L_aload_n X 1 dL_alike_172 rfl rfl ?_
      refine L_iload X 4 dL_alike_173 rfl ?_
      refine L_iload X 9 dL_alike_175 rfl ?_
      obtain ⟨q100, hq100, h⟩ := bd_some h
      refine L_cC X (B := wsB (gκ g) n β ω e0 tx Y) (Tl' := wsB (gκ g) n β ω e0 tx Y ++ (wsO (gκ g) T)) rfl rfl (fun κ => gT_X6_knows (r := q100) hq100) cal_X6_knows wM_L_78 wI_X6_knows wS_X6_knows ⟨⟨(Nat.le_of_ble_eq_true rfl), (Nat.le_of_ble_eq_true rfl)⟩, by omega, by omega⟩ (As := [.int a4, .int a9]) (rest := []) rfl rfl (Nat.le_of_ble_eq_true rfl) dL_alike_177 rfl ?_
      refine L_aload_n X 2 dL_alike_180 rfl rfl ?_
      refine L_iload X 4 dL_alike_181 rfl ?_
      refine L_iload X 9 dL_alike_183 rfl ?_
      obtain ⟨q101, hq101, h⟩ := bd_some h
      refine L_cW X E hn (As := [.int a4, .int a9]) (rest := [.int q100]) (cw_X8_knows hn hq101) cal_X8_knows wM_L_61 wI_X8_knows wS_X8_knows ⟨⟨(Nat.le_of_ble_eq_true rfl), (Nat.le_of_ble_eq_true rfl)⟩, by omega, by omega⟩ rfl rfl (Nat.le_of_ble_eq_true rfl) dL_alike_185 (fun rv T9 hT9 => ?_)
      obtain ⟨rfl, hT9⟩ := hT9
      rw [hT9]
      refine L_icmp_eq X (tgt := 193) dL_alike_188 (by decide) (fun c102 => ?_) (fun c102 => ?_)
      · have h := it_t c102 h
        obtain ⟨v103, ev103, h⟩ := nm_some h
        refine L_iinc X (v := v103) (lv' := [(9, .int v103), (2, .int (as1 + as0)), (0, .ref (xE (gκ g) 8 0 0)), (1, .ref (β 0 0)), (3, .int a3), (4, .int a4), (5, .ref (β (b5 + 1) 0)), (6, .int a6), (7, .int a7), (8, .int a8)]) 9 dL_alike_193 rfl (by rw [ev103]; rfl) (by decide) rfl ?_
        refine L_goto X (tgt := 49) dL_alike_196 (by decide) ?_
        refine L_sub [2, 3, 1, 4, 5, 6, 7, 8, 9, 0] rfl ?_
        exact hk49 _ _ _ _ _ _ _ _ _ hb5 (by omega) h
      · have h := it_f c102 h
        refine L_iconst X (v := (0 : Int32)) dL_alike_191 (by decide) ?_
        refine L_widen (a' := 9) (b' := 144) (by omega) (by omega) ?_
        obtain rfl := Option.some.inj h
        exact hf _ _ _ _ dL_alike_192 (isb_n (by decide)) ⟨rfl, rfl⟩
set_option maxRecDepth 20000 in
theorem gL_alike_b110 {g : GX} {ξ : XI} {n : Nat} {β : Nat → Nat → Nat} {ω : Nat → Nat} {e0 tx : Nat} {T : TT} {Y : St} {res : Int32} {k7 : TT → St → Nat → Int32 → Int32 → Int32 → Option (Int32)} {k49 : TT → St → Nat → Int32 → Int32 → Int32 → Nat → Int32 → Int32 → Int32 → Int32 → Option (Int32)} (X : CL g RL cL_alike 11 8 133 9 144) (E : XE g ξ) (hn : n < 9) (hf : FinMi g cL_alike .boolean (fun rv T9 => rv = some (.int res) ∧ T9 = wsB (gκ g) n β ω e0 tx Y ++ wsO (gκ g) T) 9 144) (hk7 : ∀ (u' : Nat) (a2' : Int32) (a3' : Int32) (a4' : Int32) (hu' : u' ≤ 9), k7 T Y u' a2' a3' a4' = some res → L g u' (16 * u') (wsB (gκ g) n β ω e0 tx Y ++ (wsO (gκ g) T)) 7 [(0, .ref (xE (gκ g) 8 0 0)), (1, .ref (β 0 0)), (2, .int a2'), (3, .int a3'), (4, .int a4')] []) (hk49 : ∀ (u' : Nat) (a2' : Int32) (a3' : Int32) (a4' : Int32) (b5' : Nat) (a6' : Int32) (a7' : Int32) (a8' : Int32) (a9' : Int32) (hb5' : b5' < n) (hu' : u' ≤ 9), k49 T Y u' a2' a3' a4' b5' a6' a7' a8' a9' = some res → L g u' (16 * u') (wsB (gκ g) n β ω e0 tx Y ++ (wsO (gκ g) T)) 49 [(0, .ref (xE (gκ g) 8 0 0)), (1, .ref (β 0 0)), (2, .int a2'), (3, .int a3'), (4, .int a4'), (5, .ref (β (b5' + 1) 0)), (6, .int a6'), (7, .int a7'), (8, .int a8'), (9, .int a9')] []) (u : Nat) (a2 : Int32) (a3 : Int32) (a4 : Int32) (b5 : Nat) (a6 : Int32) (a8 : Int32) (a9 : Int32) (as0 : Int32) (as1 : Int32) (hb5 : b5 < n) (hu : u ≤ 9) (h : sL_alike_b110 k7 k49 n T Y u a2 a3 a4 b5 a6 a8 a9 as0 as1 = some res) : L g u (16 * u) (wsB (gκ g) n β ω e0 tx Y ++ (wsO (gκ g) T)) 110 [(0, .ref (xE (gκ g) 8 0 0)), (1, .ref (β 0 0)), (2, .int a2), (3, .int a3), (4, .int a4), (5, .ref (β (b5 + 1) 0)), (6, .int a6), (8, .int a8), (9, .int a9)] [.int as0, .int as1] := by
  unfold sL_alike_b110 at h
  refine L_ior X dL_alike_110 ?_
  refine L_istore X (lv' := [(7, .int (as1 ||| as0)), (0, .ref (xE (gκ g) 8 0 0)), (1, .ref (β 0 0)), (2, .int a2), (3, .int a3), (4, .int a4), (5, .ref (β (b5 + 1) 0)), (6, .int a6), (8, .int a8), (9, .int a9)]) dL_alike_111 (by decide) rfl ?_
  refine L_iload_n X 3 dL_alike_113 rfl rfl ?_
  refine L_aload_n X 2 dL_alike_114 rfl rfl ?_
  refine B_get X hn (N := 12) (k := 8) (c := 8) (o := 0) (j := 0) rfl rfl rfl iX8 rfl (by decide) rfl wF_L_57 rfl dL_alike_115 ?_
  refine L_iload X 5 dL_alike_118 rfl ?_
  obtain ⟨g72, h⟩ := gd_some h
  refine B_row X hn g72 dL_alike_120 ?_
  refine L_iload X 9 dL_alike_121 rfl ?_
  obtain ⟨g73, h⟩ := gd_some h
  refine B_zald X hn (kb_r (ix_lt g72)) rfl g73 dL_alike_123 ?_
  refine L_if_eq X (tgt := 131) dL_alike_124 (by decide) (fun c74 => ?_) (fun c74 => ?_)
  · have h := it_t c74 h
    refine L_iconst X (v := (0 : Int32)) dL_alike_131 (by decide) ?_
    refine L_sub [1, 2, 4, 5, 6, 7, 0, 8, 9] rfl ?_
    exact gL_alike_b132 X E hn hf hk7 hk49 _ _ _ _ _ _ _ _ _ _ hb5 (by omega) h
  · have h := it_f c74 h
    refine L_iconst X (v := (1 : Int32)) dL_alike_127 (by decide) ?_
    refine L_goto X (tgt := 132) dL_alike_128 (by decide) ?_
    refine L_sub [1, 2, 4, 5, 6, 7, 0, 8, 9] rfl ?_
    exact gL_alike_b132 X E hn hf hk7 hk49 _ _ _ _ _ _ _ _ _ _ hb5 (by omega) h
set_option maxRecDepth 20000 in
theorem gL_alike_b86 {g : GX} {ξ : XI} {n : Nat} {β : Nat → Nat → Nat} {ω : Nat → Nat} {e0 tx : Nat} {T : TT} {Y : St} {res : Int32} {k7 : TT → St → Nat → Int32 → Int32 → Int32 → Option (Int32)} {k49 : TT → St → Nat → Int32 → Int32 → Int32 → Nat → Int32 → Int32 → Int32 → Int32 → Option (Int32)} (X : CL g RL cL_alike 11 8 133 9 144) (E : XE g ξ) (hn : n < 9) (hf : FinMi g cL_alike .boolean (fun rv T9 => rv = some (.int res) ∧ T9 = wsB (gκ g) n β ω e0 tx Y ++ wsO (gκ g) T) 9 144) (hk7 : ∀ (u' : Nat) (a2' : Int32) (a3' : Int32) (a4' : Int32) (hu' : u' ≤ 9), k7 T Y u' a2' a3' a4' = some res → L g u' (16 * u') (wsB (gκ g) n β ω e0 tx Y ++ (wsO (gκ g) T)) 7 [(0, .ref (xE (gκ g) 8 0 0)), (1, .ref (β 0 0)), (2, .int a2'), (3, .int a3'), (4, .int a4')] []) (hk49 : ∀ (u' : Nat) (a2' : Int32) (a3' : Int32) (a4' : Int32) (b5' : Nat) (a6' : Int32) (a7' : Int32) (a8' : Int32) (a9' : Int32) (hb5' : b5' < n) (hu' : u' ≤ 9), k49 T Y u' a2' a3' a4' b5' a6' a7' a8' a9' = some res → L g u' (16 * u') (wsB (gκ g) n β ω e0 tx Y ++ (wsO (gκ g) T)) 49 [(0, .ref (xE (gκ g) 8 0 0)), (1, .ref (β 0 0)), (2, .int a2'), (3, .int a3'), (4, .int a4'), (5, .ref (β (b5' + 1) 0)), (6, .int a6'), (7, .int a7'), (8, .int a8'), (9, .int a9')] []) (u : Nat) (a2 : Int32) (a3 : Int32) (a4 : Int32) (b5 : Nat) (a7 : Int32) (a8 : Int32) (a9 : Int32) (as0 : Int32) (as1 : Int32) (hb5 : b5 < n) (hu : u ≤ 9) (h : sL_alike_b86 k7 k49 n T Y u a2 a3 a4 b5 a7 a8 a9 as0 as1 = some res) : L g u (16 * u) (wsB (gκ g) n β ω e0 tx Y ++ (wsO (gκ g) T)) 86 [(0, .ref (xE (gκ g) 8 0 0)), (1, .ref (β 0 0)), (2, .int a2), (3, .int a3), (4, .int a4), (5, .ref (β (b5 + 1) 0)), (7, .int a7), (8, .int a8), (9, .int a9)] [.int as0, .int as1] := by
  unfold sL_alike_b86 at h
  refine L_ior X dL_alike_86 ?_
  refine L_istore X (lv' := [(6, .int (as1 ||| as0)), (0, .ref (xE (gκ g) 8 0 0)), (1, .ref (β 0 0)), (2, .int a2), (3, .int a3), (4, .int a4), (5, .ref (β (b5 + 1) 0)), (7, .int a7), (8, .int a8), (9, .int a9)]) dL_alike_87 (by decide) rfl ?_
  refine L_iload X 7 dL_alike_89 rfl ?_
  refine L_aload_n X 2 dL_alike_91 rfl rfl ?_
  refine L_iload X 5 dL_alike_92 rfl ?_
  refine L_iload X 9 dL_alike_94 rfl ?_
  obtain ⟨q65, hq65, h⟩ := bd_some h
  refine L_cW X E hn (As := [.int a4, .int a9]) (rest := [.int a7]) (cw_X8_knows hn hq65) cal_X8_knows wM_L_61 wI_X8_knows wS_X8_knows ⟨⟨(Nat.le_of_ble_eq_true rfl), (Nat.le_of_ble_eq_true rfl)⟩, by omega, by omega⟩ rfl rfl (Nat.le_of_ble_eq_true rfl) dL_alike_96 (fun rv T9 hT9 => ?_)
  obtain ⟨rfl, hT9⟩ := hT9
  rw [hT9]
  refine L_if_eq X (tgt := 109) dL_alike_99 (by decide) (fun c66 => ?_) (fun c66 => ?_)
  · have h := it_t c66 h
    refine L_iconst X (v := (0 : Int32)) dL_alike_109 (by decide) ?_
    refine L_sub [1, 2, 3, 4, 5, 6, 0, 8, 9] rfl ?_
    exact gL_alike_b110 X E hn hf hk7 hk49 _ _ _ _ _ _ _ _ _ _ hb5 (by omega) h
  · have h := it_f c66 h
    refine L_iconst X (v := (1 : Int32)) dL_alike_102 (by decide) ?_
    refine L_iload X 9 dL_alike_103 rfl ?_
    refine L_ishl X dL_alike_105 ?_
    refine L_goto X (tgt := 110) dL_alike_106 (by decide) ?_
    refine L_sub [1, 2, 3, 4, 5, 6, 0, 8, 9] rfl ?_
    exact gL_alike_b110 X E hn hf hk7 hk49 _ _ _ _ _ _ _ _ _ _ hb5 (by omega) h
set_option maxRecDepth 20000 in
theorem gL_alike_b49 {g : GX} {ξ : XI} {n : Nat} {β : Nat → Nat → Nat} {ω : Nat → Nat} {e0 tx : Nat} {T : TT} {Y : St} {res : Int32} {k7 : TT → St → Nat → Int32 → Int32 → Int32 → Option (Int32)} (X : CL g RL cL_alike 11 8 133 9 144) (E : XE g ξ) (hn : n < 9) (hf : FinMi g cL_alike .boolean (fun rv T9 => rv = some (.int res) ∧ T9 = wsB (gκ g) n β ω e0 tx Y ++ wsO (gκ g) T) 9 144) (hk7 : ∀ (u' : Nat) (a2' : Int32) (a3' : Int32) (a4' : Int32) (hu' : u' ≤ 9), k7 T Y u' a2' a3' a4' = some res → L g u' (16 * u') (wsB (gκ g) n β ω e0 tx Y ++ (wsO (gκ g) T)) 7 [(0, .ref (xE (gκ g) 8 0 0)), (1, .ref (β 0 0)), (2, .int a2'), (3, .int a3'), (4, .int a4')] []) : ∀ (m : Nat) (u : Nat) (a2 : Int32) (a3 : Int32) (a4 : Int32) (b5 : Nat) (a6 : Int32) (a7 : Int32) (a8 : Int32) (a9 : Int32) (hb5 : b5 < n) (hu : u ≤ 9) (h : sL_alike_b49 m k7 n T Y u a2 a3 a4 b5 a6 a7 a8 a9 = some res), L g u (16 * u) (wsB (gκ g) n β ω e0 tx Y ++ (wsO (gκ g) T)) 49 [(0, .ref (xE (gκ g) 8 0 0)), (1, .ref (β 0 0)), (2, .int a2), (3, .int a3), (4, .int a4), (5, .ref (β (b5 + 1) 0)), (6, .int a6), (7, .int a7), (8, .int a8), (9, .int a9)] [] := by
  intro m
  induction m with
  | zero => intro u a2 a3 a4 b5 a6 a7 a8 a9 hb5 hu h; unfold sL_alike_b49 at h; cases h
  | succ m ih =>
    intro u a2 a3 a4 b5 a6 a7 a8 a9 hb5 hu h
    unfold sL_alike_b49 at h
    refine L_iload X 9 dL_alike_49 rfl ?_
    refine L_aload_n X 1 dL_alike_51 rfl rfl ?_
    refine B_get X hn (N := 12) (k := 10) (c := 8) (o := 0) (j := 0) rfl rfl rfl iX8 rfl (by decide) rfl wF_L_40 rfl dL_alike_52 ?_
    refine B_size X E hn wM_L_46 ⟨⟨(Nat.le_of_ble_eq_true rfl), (Nat.le_of_ble_eq_true rfl)⟩, by omega, by omega⟩ (Nat.le_of_ble_eq_true rfl) dL_alike_55 ?_
    refine L_icmp_ge X (tgt := 199) dL_alike_60 (by decide) (fun c30 => ?_) (fun c30 => ?_)
    · have h := it_t c30 h
      refine L_bipush X (v := (14 : Int32)) dL_alike_199 (by decide) ?_
      obtain ⟨g31, h⟩ := gd_some h
      have g31 := of_decide_eq_true g31
      refine L_newa X (atype := .int) (ty := .int) (t := 0) (N := 14) (a0 := (14, .inl (fun _ => 0))) rfl wA_144 rfl (fun _ => rfl) (by decide) (by decide) (Nat.le_of_ble_eq_true rfl) (by omega) (by omega) dL_alike_201 (fun q32 => ?_)
      refine L_widen (a' := u + 1) (b' := 16 * (u + 1)) (by omega) (by omega) ?_
      refine B_tin ?_
      refine L_dup X dL_alike_203 rfl ?_
      refine L_iconst X (v := (0 : Int32)) dL_alike_204 (by decide) ?_
      refine L_aload X 5 dL_alike_205 rfl ?_
      refine B_get X hn (N := 16) (k := 0) (c := 7) (kb_b0 hb5) rfl rfl iX7 rfl (by decide) rfl wF_L_79 rfl dL_alike_207 ?_
      obtain ⟨g33, h⟩ := gd_some h
      obtain ⟨f34, ef34, h⟩ := nm_some h
      refine B_tst X g33 ef34.symm dL_alike_210 ?_
      refine L_dup X dL_alike_211 rfl ?_
      refine L_iconst X (v := (1 : Int32)) dL_alike_212 (by decide) ?_
      refine L_aload X 5 dL_alike_213 rfl ?_
      refine B_get X hn (N := 16) (k := 1) (c := 7) (kb_b0 hb5) rfl rfl iX7 rfl (by decide) rfl wF_L_83 rfl dL_alike_215 ?_
      obtain ⟨g35, h⟩ := gd_some h
      obtain ⟨f36, ef36, h⟩ := nm_some h
      refine B_tst X g35 ef36.symm dL_alike_218 ?_
      refine L_dup X dL_alike_219 rfl ?_
      refine L_iconst X (v := (2 : Int32)) dL_alike_220 (by decide) ?_
      refine L_aload X 5 dL_alike_221 rfl ?_
      refine B_get X hn (N := 16) (k := 2) (c := 7) (kb_b0 hb5) rfl rfl iX7 rfl (by decide) rfl wF_L_86 rfl dL_alike_223 ?_
      obtain ⟨g37, h⟩ := gd_some h
      obtain ⟨f38, ef38, h⟩ := nm_some h
      refine B_tst X g37 ef38.symm dL_alike_226 ?_
      refine L_dup X dL_alike_227 rfl ?_
      refine L_iconst X (v := (3 : Int32)) dL_alike_228 (by decide) ?_
      refine L_aload X 5 dL_alike_229 rfl ?_
      refine B_get X hn (N := 16) (k := 3) (c := 7) (kb_b0 hb5) rfl rfl iX7 rfl (by decide) rfl wF_L_89 rfl dL_alike_231 ?_
      obtain ⟨g39, h⟩ := gd_some h
      obtain ⟨f40, ef40, h⟩ := nm_some h
      refine B_tst X g39 ef40.symm dL_alike_234 ?_
      refine L_dup X dL_alike_235 rfl ?_
      refine L_iconst X (v := (4 : Int32)) dL_alike_236 (by decide) ?_
      refine L_aload X 5 dL_alike_237 rfl ?_
      refine B_get X hn (N := 16) (k := 4) (c := 7) (kb_b0 hb5) rfl rfl iX7 rfl (by decide) rfl wF_L_92 rfl dL_alike_239 ?_
      obtain ⟨g41, h⟩ := gd_some h
      obtain ⟨f42, ef42, h⟩ := nm_some h
      refine B_tst X g41 ef42.symm dL_alike_242 ?_
      refine L_dup X dL_alike_243 rfl ?_
      refine L_iconst X (v := (5 : Int32)) dL_alike_244 (by decide) ?_
      refine L_aload X 5 dL_alike_245 rfl ?_
      refine B_get X hn (N := 16) (k := 5) (c := 7) (kb_b0 hb5) rfl rfl iX7 rfl (by decide) rfl wF_L_95 rfl dL_alike_247 ?_
      obtain ⟨g43, h⟩ := gd_some h
      obtain ⟨f44, ef44, h⟩ := nm_some h
      refine B_tst X g43 ef44.symm dL_alike_250 ?_
      refine L_dup X dL_alike_251 rfl ?_
      refine L_bipush X (v := (6 : Int32)) dL_alike_252 (by decide) ?_
      refine L_aload X 5 dL_alike_254 rfl ?_
      refine B_get X hn (N := 16) (k := 6) (c := 7) (kb_b0 hb5) rfl rfl iX7 rfl (by decide) rfl wF_L_98 rfl dL_alike_256 ?_
      obtain ⟨g45, h⟩ := gd_some h
      obtain ⟨f46, ef46, h⟩ := nm_some h
      refine B_tst X g45 ef46.symm dL_alike_259 ?_
      refine L_dup X dL_alike_260 rfl ?_
      refine L_bipush X (v := (7 : Int32)) dL_alike_261 (by decide) ?_
      refine L_aload X 5 dL_alike_263 rfl ?_
      refine B_get X hn (N := 16) (k := 7) (c := 7) (kb_b0 hb5) rfl rfl iX7 rfl (by decide) rfl wF_L_101 rfl dL_alike_265 ?_
      obtain ⟨g47, h⟩ := gd_some h
      obtain ⟨f48, ef48, h⟩ := nm_some h
      refine B_tst X g47 ef48.symm dL_alike_268 ?_
      refine L_dup X dL_alike_269 rfl ?_
      refine L_bipush X (v := (8 : Int32)) dL_alike_270 (by decide) ?_
      refine L_aload X 5 dL_alike_272 rfl ?_
      refine B_get X hn (N := 16) (k := 11) (c := 7) (kb_b0 hb5) rfl rfl iX7 rfl (by decide) rfl wF_L_104 rfl dL_alike_274 ?_
      refine L_if_eq X (tgt := 284) dL_alike_277 (by decide) (fun c49 => ?_) (fun c49 => ?_)
      · have h := it_t c49 h
        refine L_iconst X (v := (0 : Int32)) dL_alike_284 (by decide) ?_
        refine L_sub [0, 1, 2, 3, 4, 5, 6, 7, 8] rfl ?_
        exact gL_alike_b285 X E hn hf hk7 _ _ _ _ _ _ _ _ _ _ _ _ hb5 (by omega) h
      · have h := it_f c49 h
        refine L_iconst X (v := (1 : Int32)) dL_alike_280 (by decide) ?_
        refine L_goto X (tgt := 285) dL_alike_281 (by decide) ?_
        refine L_sub [0, 1, 2, 3, 4, 5, 6, 7, 8] rfl ?_
        exact gL_alike_b285 X E hn hf hk7 _ _ _ _ _ _ _ _ _ _ _ _ hb5 (by omega) h
    · have h := it_f c30 h
      refine L_iload X 6 dL_alike_63 rfl ?_
      refine L_aload_n X 1 dL_alike_65 rfl rfl ?_
      refine B_get X hn (N := 12) (k := 8) (c := 8) (o := 0) (j := 0) rfl rfl rfl iX8 rfl (by decide) rfl wF_L_57 rfl dL_alike_66 ?_
      refine L_iload X 4 dL_alike_69 rfl ?_
      obtain ⟨g50, h⟩ := gd_some h
      refine B_row X hn g50 dL_alike_71 ?_
      refine L_iload X 9 dL_alike_72 rfl ?_
      obtain ⟨g51, h⟩ := gd_some h
      refine B_zald X hn (kb_r (ix_lt g50)) rfl g51 dL_alike_74 ?_
      refine L_if_eq X (tgt := 85) dL_alike_75 (by decide) (fun c52 => ?_) (fun c52 => ?_)
      · have h := it_t c52 h
        refine L_iconst X (v := (0 : Int32)) dL_alike_85 (by decide) ?_
        refine L_sub [0, 1, 2, 3, 4, 5, 7, 8, 9] rfl ?_
        exact gL_alike_b86 X E hn hf hk7 (fun y0 y1 y2 y3 y4 y5 y6 y7 y8 y9 y10 h => ih y0 y1 y2 y3 y4 y5 y6 y7 y8 y9 y10 h) _ _ _ _ _ _ _ _ _ _ hb5 (by omega) h
      · have h := it_f c52 h
        refine L_iconst X (v := (1 : Int32)) dL_alike_78 (by decide) ?_
        refine L_iload X 9 dL_alike_79 rfl ?_
        refine L_ishl X dL_alike_81 ?_
        refine L_goto X (tgt := 86) dL_alike_82 (by decide) ?_
        refine L_sub [0, 1, 2, 3, 4, 5, 7, 8, 9] rfl ?_
        exact gL_alike_b86 X E hn hf hk7 (fun y0 y1 y2 y3 y4 y5 y6 y7 y8 y9 y10 h => ih y0 y1 y2 y3 y4 y5 y6 y7 y8 y9 y10 h) _ _ _ _ _ _ _ _ _ _ hb5 (by omega) h
set_option maxRecDepth 20000 in
theorem gL_alike_b7 {g : GX} {ξ : XI} {n : Nat} {β : Nat → Nat → Nat} {ω : Nat → Nat} {e0 tx : Nat} {T : TT} {Y : St} {res : Int32}  (X : CL g RL cL_alike 11 8 133 9 144) (E : XE g ξ) (hn : n < 9) (hf : FinMi g cL_alike .boolean (fun rv T9 => rv = some (.int res) ∧ T9 = wsB (gκ g) n β ω e0 tx Y ++ wsO (gκ g) T) 9 144)  : ∀ (m : Nat) (u : Nat) (a2 : Int32) (a3 : Int32) (a4 : Int32) (hu : u ≤ 9) (h : sL_alike_b7 m n T Y u a2 a3 a4 = some res), L g u (16 * u) (wsB (gκ g) n β ω e0 tx Y ++ (wsO (gκ g) T)) 7 [(0, .ref (xE (gκ g) 8 0 0)), (1, .ref (β 0 0)), (2, .int a2), (3, .int a3), (4, .int a4)] [] := by
  intro m
  induction m with
  | zero => intro u a2 a3 a4 hu h; unfold sL_alike_b7 at h; cases h
  | succ m ih =>
    intro u a2 a3 a4 hu h
    unfold sL_alike_b7 at h
    refine L_iload X 4 dL_alike_7 rfl ?_
    refine L_aload_n X 1 dL_alike_9 rfl rfl ?_
    refine B_get X hn (N := 12) (k := 10) (c := 8) (o := 0) (j := 0) rfl rfl rfl iX8 rfl (by decide) rfl wF_L_40 rfl dL_alike_10 ?_
    refine B_size X E hn wM_L_46 ⟨⟨(Nat.le_of_ble_eq_true rfl), (Nat.le_of_ble_eq_true rfl)⟩, by omega, by omega⟩ (Nat.le_of_ble_eq_true rfl) dL_alike_13 ?_
    refine L_icmp_ge X (tgt := 484) dL_alike_18 (by decide) (fun c1 => ?_) (fun c1 => ?_)
    · have h := it_t c1 h
      refine L_bipush X (v := (10 : Int32)) dL_alike_484 (by decide) ?_
      obtain ⟨g2, h⟩ := gd_some h
      have g2 := of_decide_eq_true g2
      refine L_newa X (atype := .int) (ty := .int) (t := 0) (N := 10) (a0 := (10, .inl (fun _ => 0))) rfl wA_144 rfl (fun _ => rfl) (by decide) (by decide) (Nat.le_of_ble_eq_true rfl) (by omega) (by omega) dL_alike_486 (fun q3 => ?_)
      refine L_widen (a' := u + 1) (b' := 16 * (u + 1)) (by omega) (by omega) ?_
      refine B_tin ?_
      refine L_dup X dL_alike_488 rfl ?_
      refine L_iconst X (v := (0 : Int32)) dL_alike_489 (by decide) ?_
      refine L_aload_n X 1 dL_alike_490 rfl rfl ?_
      refine B_get X hn (N := 12) (k := 10) (c := 8) (o := 0) (j := 0) rfl rfl rfl iX8 rfl (by decide) rfl wF_L_40 rfl dL_alike_491 ?_
      refine B_size X E hn wM_L_46 ⟨⟨(Nat.le_of_ble_eq_true rfl), (Nat.le_of_ble_eq_true rfl)⟩, by omega, by omega⟩ (Nat.le_of_ble_eq_true rfl) dL_alike_494 ?_
      obtain ⟨g4, h⟩ := gd_some h
      obtain ⟨f5, ef5, h⟩ := nm_some h
      refine B_tst X g4 ef5.symm dL_alike_499 ?_
      refine L_dup X dL_alike_500 rfl ?_
      refine L_iconst X (v := (1 : Int32)) dL_alike_501 (by decide) ?_
      refine L_iload_n X 2 dL_alike_502 rfl rfl ?_
      refine L_iconst X (v := (2 : Int32)) dL_alike_503 (by decide) ?_
      refine L_idiv X dL_alike_504 (by decide) ?_
      obtain ⟨g6, h⟩ := gd_some h
      obtain ⟨f7, ef7, h⟩ := nm_some h
      refine B_tst X g6 ef7.symm dL_alike_505 ?_
      refine L_dup X dL_alike_506 rfl ?_
      refine L_iconst X (v := (2 : Int32)) dL_alike_507 (by decide) ?_
      refine L_aload_n X 1 dL_alike_508 rfl rfl ?_
      refine B_get X hn (N := 12) (k := 0) (c := 8) (o := 0) (j := 0) rfl rfl rfl iX8 rfl (by decide) rfl wF_L_141 rfl dL_alike_509 ?_
      obtain ⟨g8, h⟩ := gd_some h
      obtain ⟨f9, ef9, h⟩ := nm_some h
      refine B_tst X g8 ef9.symm dL_alike_512 ?_
      refine L_dup X dL_alike_513 rfl ?_
      refine L_iconst X (v := (3 : Int32)) dL_alike_514 (by decide) ?_
      refine L_aload_n X 1 dL_alike_515 rfl rfl ?_
      refine B_get X hn (N := 12) (k := 2) (c := 8) (o := 0) (j := 0) rfl rfl rfl iX8 rfl (by decide) rfl wF_L_144 rfl dL_alike_516 ?_
      obtain ⟨g10, h⟩ := gd_some h
      obtain ⟨f11, ef11, h⟩ := nm_some h
      refine B_tst X g10 ef11.symm dL_alike_519 ?_
      refine L_dup X dL_alike_520 rfl ?_
      refine L_iconst X (v := (4 : Int32)) dL_alike_521 (by decide) ?_
      refine L_aload_n X 1 dL_alike_522 rfl rfl ?_
      refine B_get X hn (N := 12) (k := 3) (c := 8) (o := 0) (j := 0) rfl rfl rfl iX8 rfl (by decide) rfl wF_L_147 rfl dL_alike_523 ?_
      obtain ⟨g12, h⟩ := gd_some h
      obtain ⟨f13, ef13, h⟩ := nm_some h
      refine B_tst X g12 ef13.symm dL_alike_526 ?_
      refine L_dup X dL_alike_527 rfl ?_
      refine L_iconst X (v := (5 : Int32)) dL_alike_528 (by decide) ?_
      refine L_aload_n X 1 dL_alike_529 rfl rfl ?_
      refine B_get X hn (N := 12) (k := 4) (c := 8) (o := 0) (j := 0) rfl rfl rfl iX8 rfl (by decide) rfl wF_L_150 rfl dL_alike_530 ?_
      obtain ⟨g14, h⟩ := gd_some h
      obtain ⟨f15, ef15, h⟩ := nm_some h
      refine B_tst X g14 ef15.symm dL_alike_533 ?_
      refine L_dup X dL_alike_534 rfl ?_
      refine L_bipush X (v := (6 : Int32)) dL_alike_535 (by decide) ?_
      refine L_aload_n X 1 dL_alike_537 rfl rfl ?_
      refine B_get X hn (N := 12) (k := 5) (c := 8) (o := 0) (j := 0) rfl rfl rfl iX8 rfl (by decide) rfl wF_L_151 rfl dL_alike_538 ?_
      obtain ⟨g16, h⟩ := gd_some h
      obtain ⟨f17, ef17, h⟩ := nm_some h
      refine B_tst X g16 ef17.symm dL_alike_541 ?_
      refine L_dup X dL_alike_542 rfl ?_
      refine L_bipush X (v := (7 : Int32)) dL_alike_543 (by decide) ?_
      refine L_aload_n X 1 dL_alike_545 rfl rfl ?_
      refine B_get X hn (N := 12) (k := 6) (c := 8) (o := 0) (j := 0) rfl rfl rfl iX8 rfl (by decide) rfl wF_L_152 rfl dL_alike_546 ?_
      obtain ⟨g18, h⟩ := gd_some h
      obtain ⟨f19, ef19, h⟩ := nm_some h
      refine B_tst X g18 ef19.symm dL_alike_549 ?_
      refine L_dup X dL_alike_550 rfl ?_
      refine L_bipush X (v := (8 : Int32)) dL_alike_551 (by decide) ?_
      refine L_iload_n X 3 dL_alike_553 rfl rfl ?_
      obtain ⟨g20, h⟩ := gd_some h
      obtain ⟨f21, ef21, h⟩ := nm_some h
      refine B_tst X g20 ef21.symm dL_alike_554 ?_
      refine L_dup X dL_alike_555 rfl ?_
      refine L_bipush X (v := (9 : Int32)) dL_alike_556 (by decide) ?_
      refine L_aload_n X 1 dL_alike_558 rfl rfl ?_
      refine B_get X hn (N := 12) (k := 1) (c := 8) (o := 0) (j := 0) rfl rfl rfl iX8 rfl (by decide) rfl wF_L_155 rfl dL_alike_559 ?_
      obtain ⟨g22, h⟩ := gd_some h
      obtain ⟨f23, ef23, h⟩ := nm_some h
      refine B_tst X g22 ef23.symm dL_alike_562 ?_
      refine L_astore X (lv' := [(4, .ref q3), (0, .ref (xE (gκ g) 8 0 0)), (1, .ref (β 0 0)), (2, .int a2), (3, .int a3)]) dL_alike_563 (by decide) rfl ?_
      refine L_iconst X (v := (0 : Int32)) dL_alike_565 (by decide) ?_
      refine L_istore X (lv' := [(5, .int (0 : Int32)), (4, .ref q3), (0, .ref (xE (gκ g) 8 0 0)), (1, .ref (β 0 0)), (2, .int a2), (3, .int a3)]) dL_alike_566 (by decide) rfl ?_
      refine L_sub [2, 1, 0] rfl ?_
      exact gL_alike_b568 X E hn hf FU _ _ _ _ (by omega) h
    · have h := it_f c1 h
      refine L_aload_n X 1 dL_alike_21 rfl rfl ?_
      refine B_get X hn (N := 12) (k := 10) (c := 8) (o := 0) (j := 0) rfl rfl rfl iX8 rfl (by decide) rfl wF_L_40 rfl dL_alike_22 ?_
      refine L_iload X 4 dL_alike_25 rfl ?_
      obtain ⟨g24, h⟩ := gd_some h
      refine B_lget X E hn g24 wM_L_51 ⟨⟨(Nat.le_of_ble_eq_true rfl), (Nat.le_of_ble_eq_true rfl)⟩, by omega, by omega⟩ (Nat.le_of_ble_eq_true rfl) dL_alike_27 ?_
      refine B_cast X hn (ix_lt g24) wCl_L_55 dL_alike_32 ?_
      refine L_astore X (lv' := [(5, .ref (β (ix a4 + 1) 0)), (0, .ref (xE (gκ g) 8 0 0)), (1, .ref (β 0 0)), (2, .int a2), (3, .int a3), (4, .int a4)]) dL_alike_35 (by decide) rfl ?_
      refine L_iconst X (v := (0 : Int32)) dL_alike_37 (by decide) ?_
      refine L_istore X (lv' := [(6, .int (0 : Int32)), (5, .ref (β (ix a4 + 1) 0)), (0, .ref (xE (gκ g) 8 0 0)), (1, .ref (β 0 0)), (2, .int a2), (3, .int a3), (4, .int a4)]) dL_alike_38 (by decide) rfl ?_
      refine L_iconst X (v := (0 : Int32)) dL_alike_40 (by decide) ?_
      refine L_istore X (lv' := [(7, .int (0 : Int32)), (6, .int (0 : Int32)), (5, .ref (β (ix a4 + 1) 0)), (0, .ref (xE (gκ g) 8 0 0)), (1, .ref (β 0 0)), (2, .int a2), (3, .int a3), (4, .int a4)]) dL_alike_41 (by decide) rfl ?_
      refine L_iconst X (v := (0 : Int32)) dL_alike_43 (by decide) ?_
      refine L_istore X (lv' := [(8, .int (0 : Int32)), (7, .int (0 : Int32)), (6, .int (0 : Int32)), (5, .ref (β (ix a4 + 1) 0)), (0, .ref (xE (gκ g) 8 0 0)), (1, .ref (β 0 0)), (2, .int a2), (3, .int a3), (4, .int a4)]) dL_alike_44 (by decide) rfl ?_
      refine L_iconst X (v := (0 : Int32)) dL_alike_46 (by decide) ?_
      refine L_istore X (lv' := [(9, .int (0 : Int32)), (8, .int (0 : Int32)), (7, .int (0 : Int32)), (6, .int (0 : Int32)), (5, .ref (β (ix a4 + 1) 0)), (0, .ref (xE (gκ g) 8 0 0)), (1, .ref (β 0 0)), (2, .int a2), (3, .int a3), (4, .int a4)]) dL_alike_47 (by decide) rfl ?_
      refine L_sub [5, 6, 7, 8, 9, 4, 3, 2, 1, 0] rfl ?_
      exact gL_alike_b49 X E hn hf (fun y0 y1 y2 y3 y4 h => ih y0 y1 y2 y3 y4 h) FU _ _ _ _ _ _ _ _ _ (ix_lt g24) (by omega) h
set_option maxRecDepth 20000 in
theorem cw_L_alike {l : Launch} {κ : KX} {ξ : XI} {n : Nat} {β : Nat → Nat → Nat} {ω : Nat → Nat} {e0 tx : Nat} {T : TT} {Y : St}  {res : Int32} (hn : n < 9) (h : sL_alike n T Y 0  = some res) : CtM l κ ξ yL_alike cL_alike 11 (some .boolean) 8 133 9 144 [.ref (xE κ 8 0 0), .ref (β 0 0)] (wsB κ n β ω e0 tx Y ++ (wsO κ T)) (fun rv T9 => rv = some (.int res) ∧ T9 = wsB κ n β ω e0 tx Y ++ wsO κ T) := by
  refine CtM_i RL rfl (by decide +kernel) (Nat.le_of_ble_eq_true rfl) (fun g hgl hgκ X E hf => ?_)
  subst hgl; subst hgκ
  unfold sL_alike at h
  refine L_iconst X (v := (0 : Int32)) dL_alike_0 (by decide) ?_
  refine L_istore_n X (lv' := [(2, .int (0 : Int32)), (0, .ref (xE (gκ g) 8 0 0)), (1, .ref (β 0 0))]) dL_alike_1 rfl (by decide) rfl ?_
  refine L_iconst X (v := (0 : Int32)) dL_alike_2 (by decide) ?_
  refine L_istore_n X (lv' := [(3, .int (0 : Int32)), (2, .int (0 : Int32)), (0, .ref (xE (gκ g) 8 0 0)), (1, .ref (β 0 0))]) dL_alike_3 rfl (by decide) rfl ?_
  refine L_iconst X (v := (0 : Int32)) dL_alike_4 (by decide) ?_
  refine L_istore X (lv' := [(4, .int (0 : Int32)), (3, .int (0 : Int32)), (2, .int (0 : Int32)), (0, .ref (xE (gκ g) 8 0 0)), (1, .ref (β 0 0))]) dL_alike_5 (by decide) rfl ?_
  refine L_sub [3, 4, 2, 1, 0] rfl ?_
  exact gL_alike_b7 X E hn hf FU _ _ _ _ (by omega) h
set_option maxRecDepth 20000 in
theorem gL_acts_b473 {g : GX} {ξ : XI} {n : Nat} {β : Nat → Nat → Nat} {e0 tx : Nat} {Ln : Nat} {xs : Nat → Int32}  {res : TT × St × Int32}  (X : CL g RL cL_acts 11 8 179 225 3600) (E : XE g ξ) (hn : n < 9) (hξ : ξ.1.2 = (Ln, xs)) (hf : FinMi g cL_acts .boolean (fun rv T9 => ∃ ω9 : Nat → Nat, rv = some (.int res.2.2) ∧ T9 = wsB (gκ g) n β ω9 e0 tx res.2.1 ++ wsO (gκ g) res.1) 225 3600)  (ω : Nat → Nat) (T : TT) (Y : St) (u : Nat) (a6 : Int32) (a7 : Int32) (a9 : Int32) (as0 : Int32) (hu : u ≤ 225) (h : sL_acts_b473 Ln xs n T Y u a6 a7 a9 as0 = some res) : L g u (16 * u) (wsB (gκ g) n β ω e0 tx Y ++ (wsO (gκ g) T)) 473 [(0, .ref (xE (gκ g) 8 0 0)), (1, .ref (β 0 0)), (6, .int a6), (7, .int a7), (9, .int a9)] [.int as0] := by
  unfold sL_acts_b473 at h
  refine L_istore X (lv' := [(10, .int as0), (0, .ref (xE (gκ g) 8 0 0)), (1, .ref (β 0 0)), (6, .int a6), (7, .int a7), (9, .int a9)]) dL_acts_473 (by decide) rfl ?_
  refine L_aload_n X 2 dL_acts_475 rfl rfl ?_
  refine B_get X hn (N := 12) (k := 8) (c := 8) (o := 0) (j := 0) rfl rfl rfl iX8 rfl (by decide) rfl wF_L_57 rfl dL_acts_476 ?_
  refine L_iload X 3 dL_acts_479 rfl ?_
  obtain ⟨g51, h⟩ := gd_some h
  refine B_row X hn g51 dL_acts_481 ?_
  refine L_iload X 4 dL_acts_482 rfl ?_
  refine L_iload X 5 dL_acts_484 rfl ?_
  obtain ⟨g52, h⟩ := gd_some h
  obtain ⟨g53, h⟩ := gd_some h
  obtain ⟨z54, ez54, h⟩ := nm_some h
  refine B_zast X hn (kb_r (ix_lt g51)) rfl g52 g53 ez54.symm dL_acts_486 ?_
  refine L_aload_n X 2 dL_acts_487 rfl rfl ?_
  refine B_get X hn (N := 12) (k := 8) (c := 8) (o := 0) (j := 0) rfl rfl rfl iX8 rfl (by decide) rfl wF_L_57 rfl dL_acts_488 ?_
  refine L_iload X 4 dL_acts_491 rfl ?_
  obtain ⟨g55, h⟩ := gd_some h
  refine B_row X hn g55 dL_acts_493 ?_
  refine L_iload X 3 dL_acts_494 rfl ?_
  refine L_iload X 5 dL_acts_496 rfl ?_
  obtain ⟨g56, h⟩ := gd_some h
  obtain ⟨g57, h⟩ := gd_some h
  obtain ⟨z58, ez58, h⟩ := nm_some h
  refine B_zast X hn (kb_r (ix_lt g55)) rfl g56 g57 ez58.symm dL_acts_498 ?_
  refine L_aload_n X 1 dL_acts_499 rfl rfl ?_
  refine L_iload X 3 dL_acts_500 rfl ?_
  refine L_iload X 4 dL_acts_502 rfl ?_
  refine L_iload X 5 dL_acts_504 rfl ?_
  obtain ⟨q59, hq59, h⟩ := bd_some h
  refine L_cC X (B := wsB (gκ g) n β ω e0 tx z58) (Tl' := wsB (gκ g) n β ω e0 tx z58 ++ (wsO (gκ g) q59.1)) rfl rfl (fun κ => gT_X6_setNear (r := q59) hq59) cal_X6_setNear wM_L_194 wI_X6_setNear wS_X6_setNear ⟨⟨(Nat.le_of_ble_eq_true rfl), (Nat.le_of_ble_eq_true rfl)⟩, by omega, by omega⟩ (As := [.int a6, .int a7, .int a9]) (rest := []) rfl rfl (Nat.le_of_ble_eq_true rfl) dL_acts_506 rfl ?_
  refine L_iload X 0 dL_acts_509 rfl ?_
  refine L_icmp_ne X (tgt := 518) dL_acts_511 (by decide) (fun c60 => ?_) (fun c60 => ?_)
  · have h := it_t c60 h
    refine L_iconst X (v := (0 : Int32)) dL_acts_518 (by decide) ?_
    refine L_widen (a' := 225) (b' := 3600) (by omega) (by omega) ?_
    obtain rfl := Option.some.inj h
    exact hf _ _ _ _ dL_acts_519 (isb_n (by decide)) ⟨_, rfl, rfl⟩
  · have h := it_f (fun k => k c60) h
    refine L_iconst X (v := (1 : Int32)) dL_acts_514 (by decide) ?_
    refine L_goto X (tgt := 519) dL_acts_515 (by decide) ?_
    refine L_widen (a' := 225) (b' := 3600) (by omega) (by omega) ?_
    obtain rfl := Option.some.inj h
    exact hf _ _ _ _ dL_acts_519 (isb_n (by decide)) ⟨_, rfl, rfl⟩
set_option maxRecDepth 20000 in
theorem gL_acts_b442 {g : GX} {ξ : XI} {n : Nat} {β : Nat → Nat → Nat} {e0 tx : Nat} {Ln : Nat} {xs : Nat → Int32}  {res : TT × St × Int32}  (X : CL g RL cL_acts 11 8 179 225 3600) (E : XE g ξ) (hn : n < 9) (hξ : ξ.1.2 = (Ln, xs)) (hf : FinMi g cL_acts .boolean (fun rv T9 => ∃ ω9 : Nat → Nat, rv = some (.int res.2.2) ∧ T9 = wsB (gκ g) n β ω9 e0 tx res.2.1 ++ wsO (gκ g) res.1) 225 3600)  (ω : Nat → Nat) (T : TT) (Y : St) (u : Nat) (a6 : Int32) (a7 : Int32) (as0 : Int32) (hu : u ≤ 225) (h : sL_acts_b442 Ln xs n T Y u a6 a7 as0 = some res) : L g u (16 * u) (wsB (gκ g) n β ω e0 tx Y ++ (wsO (gκ g) T)) 442 [(0, .ref (xE (gκ g) 8 0 0)), (1, .ref (β 0 0)), (6, .int a6), (7, .int a7)] [.int as0] := by
  unfold sL_acts_b442 at h
  refine L_istore X (lv' := [(9, .int as0), (0, .ref (xE (gκ g) 8 0 0)), (1, .ref (β 0 0)), (6, .int a6), (7, .int a7)]) dL_acts_442 (by decide) rfl ?_
  refine L_iload X 3 dL_acts_444 rfl ?_
  refine L_iload X 4 dL_acts_446 rfl ?_
  refine L_icmp_ne X (tgt := 453) dL_acts_448 (by decide) (fun c45 => ?_) (fun c45 => ?_)
  · have h := it_t c45 h
    refine L_aload_n X 2 dL_acts_453 rfl rfl ?_
    refine B_get X hn (N := 12) (k := 8) (c := 8) (o := 0) (j := 0) rfl rfl rfl iX8 rfl (by decide) rfl wF_L_57 rfl dL_acts_454 ?_
    refine L_iload X 3 dL_acts_457 rfl ?_
    obtain ⟨g46, h⟩ := gd_some h
    refine B_row X hn g46 dL_acts_459 ?_
    refine L_iload X 4 dL_acts_460 rfl ?_
    obtain ⟨g47, h⟩ := gd_some h
    refine B_zald X hn (kb_r (ix_lt g46)) rfl g47 dL_acts_462 ?_
    refine L_iload X 0 dL_acts_463 rfl ?_
    refine L_icmp_eq X (tgt := 472) dL_acts_465 (by decide) (fun c48 => ?_) (fun c48 => ?_)
    · have h := it_t c48 h
      refine L_iconst X (v := (0 : Int32)) dL_acts_472 (by decide) ?_
      refine L_sub [1, 2, 3, 4, 0] rfl ?_
      exact gL_acts_b473 X E hn hξ hf _ _ _ _ _ _ _ _ (by omega) h
    · have h := it_f c48 h
      refine L_iconst X (v := (1 : Int32)) dL_acts_468 (by decide) ?_
      refine L_goto X (tgt := 473) dL_acts_469 (by decide) ?_
      refine L_sub [1, 2, 3, 4, 0] rfl ?_
      exact gL_acts_b473 X E hn hξ hf _ _ _ _ _ _ _ _ (by omega) h
  · have h := it_f (fun k => k c45) h
    refine L_iconst X (v := (1 : Int32)) dL_acts_451 (by decide) ?_
    refine L_widen (a' := 225) (b' := 3600) (by omega) (by omega) ?_
    obtain rfl := Option.some.inj h
    exact hf _ _ _ _ dL_acts_452 (isb_n (by decide)) ⟨_, rfl, rfl⟩
set_option maxRecDepth 20000 in
theorem gL_acts_b389 {g : GX} {ξ : XI} {n : Nat} {β : Nat → Nat → Nat} {e0 tx : Nat} {Ln : Nat} {xs : Nat → Int32}  {res : TT × St × Int32}  (X : CL g RL cL_acts 11 8 179 225 3600) (E : XE g ξ) (hn : n < 9) (hξ : ξ.1.2 = (Ln, xs)) (hf : FinMi g cL_acts .boolean (fun rv T9 => ∃ ω9 : Nat → Nat, rv = some (.int res.2.2) ∧ T9 = wsB (gκ g) n β ω9 e0 tx res.2.1 ++ wsO (gκ g) res.1) 225 3600)  (ω : Nat → Nat) (T : TT) (Y : St) (u : Nat) (a6 : Int32) (b8 : Nat) (a9 : Int32) (hb8 : b8 < n) (hu : u ≤ 225) (h : sL_acts_b389 Ln xs n T Y u a6 b8 a9 = some res) : L g u (16 * u) (wsB (gκ g) n β ω e0 tx Y ++ (wsO (gκ g) T)) 389 [(0, .ref (xE (gκ g) 8 0 0)), (6, .int a6), (8, .ref (β (b8 + 1) 0)), (9, .int a9)] [] := by
  unfold sL_acts_b389 at h
  refine L_aload X 2 dL_acts_389 rfl ?_
  refine L_sipush X (v := (9999 : Int32)) dL_acts_391 (by decide) ?_
  refine L_aload X 2 dL_acts_394 rfl ?_
  refine B_get X hn (N := 16) (k := 4) (c := 7) (kb_b0 hb8) rfl rfl iX7 rfl (by decide) rfl wF_L_92 rfl dL_acts_396 ?_
  refine L_iload X 3 dL_acts_399 rfl ?_
  refine L_iadd X dL_acts_401 ?_
  refine L_mmin X wM_L_188 ⟨(Nat.le_of_ble_eq_true rfl), (Nat.le_of_ble_eq_true rfl)⟩ (Nat.le_of_ble_eq_true rfl) ⟨by omega, by omega⟩ dL_acts_402 ?_
  obtain ⟨v61, ev61, h⟩ := nm_some h
  refine L_nmi ev61 ?_
  obtain ⟨z62, ez62, h⟩ := nm_some h
  refine B_put X hn (N := 16) (k := 4) (c := 7) (kb_b0 hb8) rfl rfl iX7 tyX7_ok nmX7 rfl (by decide) (Or.inr ⟨rfl, by decide⟩) rfl rfl (tyX7_ok _ (by decide)) wF_L_92 rfl rfl ez62.symm dL_acts_405 ?_
  refine L_aload_n X 0 dL_acts_408 rfl rfl ?_
  refine L_iload X 1 dL_acts_409 rfl ?_
  refine L_iload X 3 dL_acts_411 rfl ?_
  obtain ⟨q63, hq63, h⟩ := bd_some h
  refine L_cC X (B := wsB (gκ g) n β ω e0 tx z62) (Tl' := wsB (gκ g) n β ω e0 tx z62 ++ (wsO (gκ g) q63.1)) rfl rfl (fun κ => gT_X6_charge (r := q63) hq63) cal_X6_charge wM_L_191 wI_X6_charge wS_X6_charge ⟨⟨(Nat.le_of_ble_eq_true rfl), (Nat.le_of_ble_eq_true rfl)⟩, by omega, by omega⟩ (As := [.int a6, .int a9]) (rest := []) rfl rfl (Nat.le_of_ble_eq_true rfl) dL_acts_413 rfl ?_
  refine L_aload X 2 dL_acts_416 rfl ?_
  refine B_get X hn (N := 16) (k := 4) (c := 7) (kb_b0 hb8) rfl rfl iX7 rfl (by decide) rfl wF_L_92 rfl dL_acts_418 ?_
  refine L_icmp_ne X (tgt := 428) dL_acts_421 (by decide) (fun c64 => ?_) (fun c64 => ?_)
  · have h := it_t c64 h
    refine L_iconst X (v := (0 : Int32)) dL_acts_428 (by decide) ?_
    refine L_widen (a' := 225) (b' := 3600) (by omega) (by omega) ?_
    obtain rfl := Option.some.inj h
    exact hf _ _ _ _ dL_acts_429 (isb_n (by decide)) ⟨_, rfl, rfl⟩
  · have h := it_f (fun k => k c64) h
    refine L_iconst X (v := (1 : Int32)) dL_acts_424 (by decide) ?_
    refine L_goto X (tgt := 429) dL_acts_425 (by decide) ?_
    refine L_widen (a' := 225) (b' := 3600) (by omega) (by omega) ?_
    obtain rfl := Option.some.inj h
    exact hf _ _ _ _ dL_acts_429 (isb_n (by decide)) ⟨_, rfl, rfl⟩
set_option maxRecDepth 20000 in
theorem gL_acts_b374 {g : GX} {ξ : XI} {n : Nat} {β : Nat → Nat → Nat} {e0 tx : Nat} {Ln : Nat} {xs : Nat → Int32}  {res : TT × St × Int32}  (X : CL g RL cL_acts 11 8 179 225 3600) (E : XE g ξ) (hn : n < 9) (hξ : ξ.1.2 = (Ln, xs)) (hf : FinMi g cL_acts .boolean (fun rv T9 => ∃ ω9 : Nat → Nat, rv = some (.int res.2.2) ∧ T9 = wsB (gκ g) n β ω9 e0 tx res.2.1 ++ wsO (gκ g) res.1) 225 3600)  (ω : Nat → Nat) (T : TT) (Y : St) (u : Nat) (a6 : Int32) (b8 : Nat) (a9 : Int32) (hb8 : b8 < n) (hu : u ≤ 225) (h : sL_acts_b374 Ln xs n T Y u a6 b8 a9 = some res) : L g u (16 * u) (wsB (gκ g) n β ω e0 tx Y ++ (wsO (gκ g) T)) 374 [(0, .ref (xE (gκ g) 8 0 0)), (6, .int a6), (8, .ref (β (b8 + 1) 0)), (9, .int a9)] [] := by
  unfold sL_acts_b374 at h
  refine L_aload X 2 dL_acts_374 rfl ?_
  refine B_get X hn (N := 16) (k := 5) (c := 7) (kb_b0 hb8) rfl rfl iX7 rfl (by decide) rfl wF_L_95 rfl dL_acts_376 ?_
  refine L_iconst X (v := (4 : Int32)) dL_acts_379 (by decide) ?_
  refine L_icmp_ne X (tgt := 389) dL_acts_380 (by decide) (fun c49 => ?_) (fun c49 => ?_)
  · have h := it_t c49 h
    exact gL_acts_b389 X E hn hξ hf _ _ _ _ _ _ _ hb8 (by omega) h
  · have h := it_f (fun k => k c49) h
    refine L_aload X 2 dL_acts_383 rfl ?_
    refine L_iconst X (v := (0 : Int32)) dL_acts_385 (by decide) ?_
    obtain ⟨z50, ez50, h⟩ := nm_some h
    refine B_put X hn (N := 16) (k := 5) (c := 7) (kb_b0 hb8) rfl rfl iX7 tyX7_ok nmX7 rfl (by decide) (Or.inr ⟨rfl, by decide⟩) rfl rfl (tyX7_ok _ (by decide)) wF_L_95 rfl rfl ez50.symm dL_acts_386 ?_
    exact gL_acts_b389 X E hn hξ hf _ _ _ _ _ _ _ hb8 (by omega) h
set_option maxRecDepth 20000 in
theorem cw_L_acts {l : Launch} {κ : KX} {ξ : XI} {n : Nat} {β : Nat → Nat → Nat} {ω : Nat → Nat} {e0 tx : Nat} {Ln : Nat} {xs : Nat → Int32} {T : TT} {Y : St} {a3 : Int32} {res : TT × St × Int32} (hn : n < 9) (hξ : ξ.1.2 = (Ln, xs)) (h : sL_acts Ln xs n T Y 0 a3 = some res) : CtM l κ ξ yL_acts cL_acts 11 (some .boolean) 8 179 225 3600 [.ref (xE κ 8 0 0), .ref (β 0 0), .ref ξ.1.1, .int a3] (wsB κ n β ω e0 tx Y ++ (wsO κ T)) (fun rv T9 => ∃ ω9 : Nat → Nat, rv = some (.int res.2.2) ∧ T9 = wsB κ n β ω9 e0 tx res.2.1 ++ wsO κ res.1) := by
  refine CtM_i RL rfl (by decide +kernel) (Nat.le_of_ble_eq_true rfl) (fun g hgl hgκ X E hf => ?_)
  subst hgl; subst hgκ
  unfold sL_acts at h
  refine L_aload_n X 2 dL_acts_0 rfl rfl ?_
  refine L_sipush X (v := (340 : Int32)) dL_acts_1 (by decide) ?_
  refine L_iload_n X 3 dL_acts_4 rfl rfl ?_
  refine L_iadd X dL_acts_5 ?_
  refine L_ldc X (v := (400000 : Int32)) dL_acts_6 wK_L_161 ?_
  obtain ⟨q1, hq1, h⟩ := bd_some h
  refine L_cS X E (As := [.ref ξ.1.1, .int ((340 : Int32) + a3), .int (400000 : Int32)]) (rest := []) (cw_L_pick hξ hq1) cal_L_pick wM_L_162 wT_L_pick ⟨⟨(Nat.le_of_ble_eq_true rfl), (Nat.le_of_ble_eq_true rfl)⟩, by omega, by omega⟩ rfl rfl (Nat.le_of_ble_eq_true rfl) dL_acts_8 (fun rv T9 hT9 => ?_)
  obtain ⟨rfl, hT9⟩ := hT9
  rw [hT9]
  refine L_istore X (lv' := [(4, .int q1), (0, .ref (xE (gκ g) 8 0 0)), (1, .ref (β 0 0)), (2, .ref ξ.1.1), (3, .int a3)]) dL_acts_11 (by decide) rfl ?_
  refine L_aload_n X 3 dL_acts_13 rfl rfl ?_
  refine L_sipush X (v := (300 : Int32)) dL_acts_14 (by decide) ?_
  refine L_iload_n X 4 dL_acts_17 rfl rfl ?_
  refine L_iadd X dL_acts_18 ?_
  refine L_bipush X (v := (14 : Int32)) dL_acts_19 (by decide) ?_
  obtain ⟨q2, hq2, h⟩ := bd_some h
  refine L_cS X E (As := [.ref ξ.1.1, .int ((300 : Int32) + a3), .int (14 : Int32)]) (rest := []) (cw_L_pick hξ hq2) cal_L_pick wM_L_162 wT_L_pick ⟨⟨(Nat.le_of_ble_eq_true rfl), (Nat.le_of_ble_eq_true rfl)⟩, by omega, by omega⟩ rfl rfl (Nat.le_of_ble_eq_true rfl) dL_acts_21 (fun rv T9 hT9 => ?_)
  obtain ⟨rfl, hT9⟩ := hT9
  rw [hT9]
  refine L_istore X (lv' := [(5, .int q2), (4, .int q1), (0, .ref (xE (gκ g) 8 0 0)), (1, .ref (β 0 0)), (2, .ref ξ.1.1), (3, .int a3)]) dL_acts_24 (by decide) rfl ?_
  refine L_iload X 0 dL_acts_26 rfl ?_
  refine L_bipush X (v := (6 : Int32)) dL_acts_28 (by decide) ?_
  refine L_icmp_ge X (tgt := 64) dL_acts_30 (by decide) (fun c3 => ?_) (fun c3 => ?_)
  · have h := it_t c3 h
    refine L_iload X 0 dL_acts_64 rfl ?_
    refine L_bipush X (v := (6 : Int32)) dL_acts_66 (by decide) ?_
    refine L_icmp_ne X (tgt := 107) dL_acts_68 (by decide) (fun c4 => ?_) (fun c4 => ?_)
    · have h := it_t c4 h
      refine L_aload_n X 3 dL_acts_107 rfl rfl ?_
      refine B_get X hn (N := 12) (k := 10) (c := 8) (o := 0) (j := 0) rfl rfl rfl iX8 rfl (by decide) rfl wF_L_40 rfl dL_acts_108 ?_
      refine B_empty X E hn wM_L_173 ⟨⟨(Nat.le_of_ble_eq_true rfl), (Nat.le_of_ble_eq_true rfl)⟩, by omega, by omega⟩ (Nat.le_of_ble_eq_true rfl) dL_acts_111 ?_
      refine L_if_eq X (tgt := 121) dL_acts_116 (by decide) (fun c5 => ?_) (fun c5 => ?_)
      · have h := it_t c5 h
        refine L_iload X 1 dL_acts_121 rfl ?_
        refine L_aload_n X 3 dL_acts_123 rfl rfl ?_
        refine B_get X hn (N := 12) (k := 10) (c := 8) (o := 0) (j := 0) rfl rfl rfl iX8 rfl (by decide) rfl wF_L_40 rfl dL_acts_124 ?_
        refine B_size X E hn wM_L_46 ⟨⟨(Nat.le_of_ble_eq_true rfl), (Nat.le_of_ble_eq_true rfl)⟩, by omega, by omega⟩ (Nat.le_of_ble_eq_true rfl) dL_acts_127 ?_
        obtain ⟨g6, h⟩ := gd_some h
        refine L_irem X dL_acts_132 (nz_ne g6) ?_
        refine L_istore X (lv' := [(6, .int (q1 - q1 / (nI n) * (nI n))), (5, .int q2), (4, .int q1), (0, .ref (xE (gκ g) 8 0 0)), (1, .ref (β 0 0)), (2, .ref ξ.1.1), (3, .int a3)]) dL_acts_133 (by decide) rfl ?_
        refine L_iload X 2 dL_acts_135 rfl ?_
        refine L_bipush X (v := (8 : Int32)) dL_acts_137 (by decide) ?_
        refine L_idiv X dL_acts_139 (by decide) ?_
        refine L_aload_n X 4 dL_acts_140 rfl rfl ?_
        refine B_get X hn (N := 12) (k := 10) (c := 8) (o := 0) (j := 0) rfl rfl rfl iX8 rfl (by decide) rfl wF_L_40 rfl dL_acts_141 ?_
        refine B_size X E hn wM_L_46 ⟨⟨(Nat.le_of_ble_eq_true rfl), (Nat.le_of_ble_eq_true rfl)⟩, by omega, by omega⟩ (Nat.le_of_ble_eq_true rfl) dL_acts_144 ?_
        obtain ⟨g7, h⟩ := gd_some h
        refine L_irem X dL_acts_149 (nz_ne g7) ?_
        obtain ⟨v8, ev8, h⟩ := nm_some h
        refine L_nmi ev8 ?_
        refine L_istore X (lv' := [(7, .int v8), (6, .int (q1 - q1 / (nI n) * (nI n))), (5, .int q2), (4, .int q1), (0, .ref (xE (gκ g) 8 0 0)), (1, .ref (β 0 0)), (2, .ref ξ.1.1), (3, .int a3)]) dL_acts_150 (by decide) rfl ?_
        refine L_aload_n X 5 dL_acts_152 rfl rfl ?_
        refine B_get X hn (N := 12) (k := 10) (c := 8) (o := 0) (j := 0) rfl rfl rfl iX8 rfl (by decide) rfl wF_L_40 rfl dL_acts_153 ?_
        refine L_iload X 1 dL_acts_156 rfl ?_
        obtain ⟨g9, h⟩ := gd_some h
        refine B_lget X E hn g9 wM_L_51 ⟨⟨(Nat.le_of_ble_eq_true rfl), (Nat.le_of_ble_eq_true rfl)⟩, by omega, by omega⟩ (Nat.le_of_ble_eq_true rfl) dL_acts_158 ?_
        refine B_cast X hn (ix_lt g9) wCl_L_55 dL_acts_163 ?_
        refine L_astore X (lv' := [(8, .ref (β (ix (q1 - q1 / (nI n) * (nI n)) + 1) 0)), (7, .int v8), (6, .int (q1 - q1 / (nI n) * (nI n))), (5, .int q2), (4, .int q1), (0, .ref (xE (gκ g) 8 0 0)), (1, .ref (β 0 0)), (2, .ref ξ.1.1), (3, .int a3)]) dL_acts_166 (by decide) rfl ?_
        refine L_iload X 3 dL_acts_168 rfl ?_
        refine L_bipush X (v := (9 : Int32)) dL_acts_170 (by decide) ?_
        refine L_icmp_ge X (tgt := 226) dL_acts_172 (by decide) (fun c10 => ?_) (fun c10 => ?_)
        · have h := it_t c10 h
          refine L_iload X 3 dL_acts_226 rfl ?_
          refine L_bipush X (v := (9 : Int32)) dL_acts_228 (by decide) ?_
          refine L_icmp_ne X (tgt := 287) dL_acts_230 (by decide) (fun c11 => ?_) (fun c11 => ?_)
          · have h := it_t c11 h
            refine L_iload X 3 dL_acts_287 rfl ?_
            refine L_bipush X (v := (10 : Int32)) dL_acts_289 (by decide) ?_
            refine L_icmp_ne X (tgt := 339) dL_acts_291 (by decide) (fun c12 => ?_) (fun c12 => ?_)
            · have h := it_t c12 h
              refine L_iload X 3 dL_acts_339 rfl ?_
              refine L_bipush X (v := (11 : Int32)) dL_acts_341 (by decide) ?_
              refine L_icmp_ne X (tgt := 430) dL_acts_343 (by decide) (fun c13 => ?_) (fun c13 => ?_)
              · have h := it_t c13 h
                refine L_iload X 3 dL_acts_430 rfl ?_
                refine L_bipush X (v := (12 : Int32)) dL_acts_432 (by decide) ?_
                refine L_icmp_ne X (tgt := 441) dL_acts_434 (by decide) (fun c14 => ?_) (fun c14 => ?_)
                · have h := it_t c14 h
                  refine L_iconst X (v := (0 : Int32)) dL_acts_441 (by decide) ?_
                  refine L_sub [5, 6, 2, 1] rfl ?_
                  exact gL_acts_b442 X E hn hξ hf _ _ _ _ _ _ _ (by omega) h
                · have h := it_f (fun k => k c14) h
                  refine L_iconst X (v := (1 : Int32)) dL_acts_437 (by decide) ?_
                  refine L_goto X (tgt := 442) dL_acts_438 (by decide) ?_
                  refine L_sub [5, 6, 2, 1] rfl ?_
                  exact gL_acts_b442 X E hn hξ hf _ _ _ _ _ _ _ (by omega) h
              · have h := it_f (fun k => k c13) h
                refine L_iconst X (v := (1 : Int32)) dL_acts_346 (by decide) ?_
                refine L_iload X 4 dL_acts_347 rfl ?_
                refine L_bipush X (v := (8 : Int32)) dL_acts_349 (by decide) ?_
                refine L_idiv X dL_acts_351 (by decide) ?_
                refine L_sipush X (v := (200 : Int32)) dL_acts_352 (by decide) ?_
                refine L_irem X dL_acts_355 (by decide) ?_
                refine L_iadd X dL_acts_356 ?_
                obtain ⟨v15, ev15, h⟩ := nm_some h
                refine L_nmi ev15 ?_
                refine L_istore X (lv' := [(9, .int v15), (8, .ref (β (ix (q1 - q1 / (nI n) * (nI n)) + 1) 0)), (7, .int v8), (6, .int (q1 - q1 / (nI n) * (nI n))), (5, .int q2), (4, .int q1), (0, .ref (xE (gκ g) 8 0 0)), (1, .ref (β 0 0)), (2, .ref ξ.1.1), (3, .int a3)]) dL_acts_357 (by decide) rfl ?_
                refine L_aload X 1 dL_acts_359 rfl ?_
                refine B_get X hn (N := 16) (k := 5) (c := 7) (kb_b0 (ix_lt g9)) rfl rfl iX7 rfl (by decide) rfl wF_L_95 rfl dL_acts_361 ?_
                refine L_iconst X (v := (4 : Int32)) dL_acts_364 (by decide) ?_
                refine L_icmp_ne X (tgt := 374) dL_acts_365 (by decide) (fun c16 => ?_) (fun c16 => ?_)
                · have h := it_t c16 h
                  refine L_sub [6, 3, 1, 0] rfl ?_
                  exact gL_acts_b374 X E hn hξ hf _ _ _ _ _ _ _ (ix_lt g9) (by omega) h
                · have h := it_f (fun k => k c16) h
                  refine L_aload X 1 dL_acts_368 rfl ?_
                  refine L_iconst X (v := (0 : Int32)) dL_acts_370 (by decide) ?_
                  obtain ⟨z17, ez17, h⟩ := nm_some h
                  refine B_put X hn (N := 16) (k := 7) (c := 7) (kb_b0 (ix_lt g9)) rfl rfl iX7 tyX7_ok nmX7 rfl (by decide) (Or.inr ⟨rfl, by decide⟩) rfl rfl (tyX7_ok _ (by decide)) wF_L_101 rfl rfl ez17.symm dL_acts_371 ?_
                  refine L_sub [6, 3, 1, 0] rfl ?_
                  exact gL_acts_b374 X E hn hξ hf _ _ _ _ _ _ _ (ix_lt g9) (by omega) h
            · have h := it_f (fun k => k c12) h
              refine L_aload X 0 dL_acts_294 rfl ?_
              refine B_get X hn (N := 16) (k := 1) (c := 7) (kb_b0 (ix_lt g9)) rfl rfl iX7 rfl (by decide) rfl wF_L_83 rfl dL_acts_296 ?_
              obtain ⟨v18, ev18, h⟩ := nm_some h
              refine L_nmi ev18 ?_
              refine L_istore X (lv' := [(9, .int v18), (8, .ref (β (ix (q1 - q1 / (nI n) * (nI n)) + 1) 0)), (7, .int v8), (6, .int (q1 - q1 / (nI n) * (nI n))), (5, .int q2), (4, .int q1), (0, .ref (xE (gκ g) 8 0 0)), (1, .ref (β 0 0)), (2, .ref ξ.1.1), (3, .int a3)]) dL_acts_299 (by decide) rfl ?_
              refine L_aload X 1 dL_acts_301 rfl ?_
              refine L_iload X 5 dL_acts_303 rfl ?_
              refine L_bipush X (v := (8 : Int32)) dL_acts_305 (by decide) ?_
              refine L_idiv X dL_acts_307 (by decide) ?_
              refine L_aload X 1 dL_acts_308 rfl ?_
              refine B_get X hn (N := 16) (k := 0) (c := 7) (kb_b0 (ix_lt g9)) rfl rfl iX7 rfl (by decide) rfl wF_L_79 rfl dL_acts_310 ?_
              obtain ⟨g19, h⟩ := gd_some h
              refine L_irem X dL_acts_313 (nz_ne g19) ?_
              obtain ⟨v20, ev20, h⟩ := nm_some h
              refine L_nmi ev20 ?_
              obtain ⟨z21, ez21, h⟩ := nm_some h
              refine B_put X hn (N := 16) (k := 1) (c := 7) (kb_b0 (ix_lt g9)) rfl rfl iX7 tyX7_ok nmX7 rfl (by decide) (Or.inr ⟨rfl, by decide⟩) rfl rfl (tyX7_ok _ (by decide)) wF_L_83 rfl rfl ez21.symm dL_acts_314 ?_
              refine L_aload_n X 6 dL_acts_317 rfl rfl ?_
              refine L_iload X 3 dL_acts_318 rfl ?_
              refine L_aload X 1 dL_acts_320 rfl ?_
              refine B_get X hn (N := 16) (k := 1) (c := 7) (kb_b0 (ix_lt g9)) rfl rfl iX7 rfl (by decide) rfl wF_L_83 rfl dL_acts_322 ?_
              obtain ⟨q22, hq22, h⟩ := bd_some h
              refine L_cC X (B := wsB (gκ g) n β ω e0 tx z21) (Tl' := wsB (gκ g) n β ω e0 tx z21 ++ (wsO (gκ g) q22.1)) rfl rfl (fun κ => gT_X6_setAt (r := q22) hq22) cal_X6_setAt wM_L_185 wI_X6_setAt wS_X6_setAt ⟨⟨(Nat.le_of_ble_eq_true rfl), (Nat.le_of_ble_eq_true rfl)⟩, by omega, by omega⟩ (As := [.int (q1 - q1 / (nI n) * (nI n)), .int (gI z21 (ix (q1 - q1 / (nI n) * (nI n)) + 1) 0 1)]) (rest := []) rfl rfl (Nat.le_of_ble_eq_true rfl) dL_acts_325 rfl ?_
              refine L_iload X 0 dL_acts_328 rfl ?_
              refine L_icmp_ne X (tgt := 337) dL_acts_330 (by decide) (fun c23 => ?_) (fun c23 => ?_)
              · have h := it_t c23 h
                refine L_iconst X (v := (0 : Int32)) dL_acts_337 (by decide) ?_
                refine L_widen (a' := 225) (b' := 3600) (by omega) (by omega) ?_
                obtain rfl := Option.some.inj h
                exact hf _ _ _ _ dL_acts_338 (isb_n (by decide)) ⟨_, rfl, rfl⟩
              · have h := it_f (fun k => k c23) h
                refine L_iconst X (v := (1 : Int32)) dL_acts_333 (by decide) ?_
                refine L_goto X (tgt := 338) dL_acts_334 (by decide) ?_
                refine L_widen (a' := 225) (b' := 3600) (by omega) (by omega) ?_
                obtain rfl := Option.some.inj h
                exact hf _ _ _ _ dL_acts_338 (isb_n (by decide)) ⟨_, rfl, rfl⟩
          · have h := it_f (fun k => k c11) h
            refine L_aload X 0 dL_acts_233 rfl ?_
            refine B_get X hn (N := 16) (k := 0) (c := 7) (kb_b0 (ix_lt g9)) rfl rfl iX7 rfl (by decide) rfl wF_L_79 rfl dL_acts_235 ?_
            obtain ⟨v24, ev24, h⟩ := nm_some h
            refine L_nmi ev24 ?_
            refine L_istore X (lv' := [(9, .int v24), (8, .ref (β (ix (q1 - q1 / (nI n) * (nI n)) + 1) 0)), (7, .int v8), (6, .int (q1 - q1 / (nI n) * (nI n))), (5, .int q2), (4, .int q1), (0, .ref (xE (gκ g) 8 0 0)), (1, .ref (β 0 0)), (2, .ref ξ.1.1), (3, .int a3)]) dL_acts_238 (by decide) rfl ?_
            refine L_aload X 1 dL_acts_240 rfl ?_
            refine L_aload X 1 dL_acts_242 rfl ?_
            refine B_get X hn (N := 16) (k := 1) (c := 7) (kb_b0 (ix_lt g9)) rfl rfl iX7 rfl (by decide) rfl wF_L_83 rfl dL_acts_244 ?_
            refine L_iconst X (v := (1 : Int32)) dL_acts_247 (by decide) ?_
            refine L_iadd X dL_acts_248 ?_
            refine L_iconst X (v := (2 : Int32)) dL_acts_249 (by decide) ?_
            refine L_iload X 5 dL_acts_250 rfl ?_
            refine L_bipush X (v := (8 : Int32)) dL_acts_252 (by decide) ?_
            refine L_idiv X dL_acts_254 (by decide) ?_
            refine L_bipush X (v := (20 : Int32)) dL_acts_255 (by decide) ?_
            refine L_irem X dL_acts_257 (by decide) ?_
            refine L_iadd X dL_acts_258 ?_
            refine L_mmax X wM_L_177 ⟨(Nat.le_of_ble_eq_true rfl), (Nat.le_of_ble_eq_true rfl)⟩ (Nat.le_of_ble_eq_true rfl) ⟨by omega, by omega⟩ dL_acts_259 ?_
            obtain ⟨v25, ev25, h⟩ := nm_some h
            refine L_nmi ev25 ?_
            obtain ⟨z26, ez26, h⟩ := nm_some h
            refine B_put X hn (N := 16) (k := 0) (c := 7) (kb_b0 (ix_lt g9)) rfl rfl iX7 tyX7_ok nmX7 rfl (by decide) (Or.inr ⟨rfl, by decide⟩) rfl rfl (tyX7_ok _ (by decide)) wF_L_79 rfl rfl ez26.symm dL_acts_262 ?_
            refine L_aload_n X 6 dL_acts_265 rfl rfl ?_
            refine L_iload X 3 dL_acts_266 rfl ?_
            refine L_aload X 1 dL_acts_268 rfl ?_
            refine B_get X hn (N := 16) (k := 0) (c := 7) (kb_b0 (ix_lt g9)) rfl rfl iX7 rfl (by decide) rfl wF_L_79 rfl dL_acts_270 ?_
            obtain ⟨q27, hq27, h⟩ := bd_some h
            refine L_cC X (B := wsB (gκ g) n β ω e0 tx z26) (Tl' := wsB (gκ g) n β ω e0 tx z26 ++ (wsO (gκ g) q27.1)) rfl rfl (fun κ => gT_X6_setEvery (r := q27) hq27) cal_X6_setEvery wM_L_182 wI_X6_setEvery wS_X6_setEvery ⟨⟨(Nat.le_of_ble_eq_true rfl), (Nat.le_of_ble_eq_true rfl)⟩, by omega, by omega⟩ (As := [.int (q1 - q1 / (nI n) * (nI n)), .int (gI z26 (ix (q1 - q1 / (nI n) * (nI n)) + 1) 0 0)]) (rest := []) rfl rfl (Nat.le_of_ble_eq_true rfl) dL_acts_273 rfl ?_
            refine L_iload X 0 dL_acts_276 rfl ?_
            refine L_icmp_ne X (tgt := 285) dL_acts_278 (by decide) (fun c28 => ?_) (fun c28 => ?_)
            · have h := it_t c28 h
              refine L_iconst X (v := (0 : Int32)) dL_acts_285 (by decide) ?_
              refine L_widen (a' := 225) (b' := 3600) (by omega) (by omega) ?_
              obtain rfl := Option.some.inj h
              exact hf _ _ _ _ dL_acts_286 (isb_n (by decide)) ⟨_, rfl, rfl⟩
            · have h := it_f (fun k => k c28) h
              refine L_iconst X (v := (1 : Int32)) dL_acts_281 (by decide) ?_
              refine L_goto X (tgt := 286) dL_acts_282 (by decide) ?_
              refine L_widen (a' := 225) (b' := 3600) (by omega) (by omega) ?_
              obtain rfl := Option.some.inj h
              exact hf _ _ _ _ dL_acts_286 (isb_n (by decide)) ⟨_, rfl, rfl⟩
        · have h := it_f c10 h
          refine L_aload X 0 dL_acts_175 rfl ?_
          refine B_get X hn (N := 16) (k := 5) (c := 7) (kb_b0 (ix_lt g9)) rfl rfl iX7 rfl (by decide) rfl wF_L_95 rfl dL_acts_177 ?_
          refine L_if_eq X (tgt := 185) dL_acts_180 (by decide) (fun c29 => ?_) (fun c29 => ?_)
          · have h := it_t c29 h
            refine L_aload X 0 dL_acts_185 rfl ?_
            refine L_iconst X (v := (1 : Int32)) dL_acts_187 (by decide) ?_
            obtain ⟨z30, ez30, h⟩ := nm_some h
            refine B_put X hn (N := 16) (k := 5) (c := 7) (kb_b0 (ix_lt g9)) rfl rfl iX7 tyX7_ok nmX7 rfl (by decide) (Or.inr ⟨rfl, by decide⟩) rfl rfl (tyX7_ok _ (by decide)) wF_L_95 rfl rfl ez30.symm dL_acts_188 ?_
            refine L_aload X 0 dL_acts_191 rfl ?_
            refine L_aload X 0 dL_acts_193 rfl ?_
            refine B_get X hn (N := 16) (k := 2) (c := 7) (kb_b0 (ix_lt g9)) rfl rfl iX7 rfl (by decide) rfl wF_L_86 rfl dL_acts_195 ?_
            obtain ⟨v31, ev31, h⟩ := nm_some h
            refine L_nmi ev31 ?_
            obtain ⟨z32, ez32, h⟩ := nm_some h
            refine B_put X hn (N := 16) (k := 6) (c := 7) (kb_b0 (ix_lt g9)) rfl rfl iX7 tyX7_ok nmX7 rfl (by decide) (Or.inr ⟨rfl, by decide⟩) rfl rfl (tyX7_ok _ (by decide)) wF_L_98 rfl rfl ez32.symm dL_acts_198 ?_
            refine L_aload X 0 dL_acts_201 rfl ?_
            refine L_iconst X (v := (0 : Int32)) dL_acts_203 (by decide) ?_
            obtain ⟨z33, ez33, h⟩ := nm_some h
            refine B_put X hn (N := 16) (k := 11) (c := 7) (kb_b0 (ix_lt g9)) rfl rfl iX7 tyX7_ok nmX7 rfl (by decide) (Or.inr ⟨rfl, by decide⟩) rfl rfl (tyX7_ok _ (by decide)) wF_L_104 (isb_n (by decide)) (isb_f (by decide)) ez33.symm dL_acts_204 ?_
            refine L_aload_n X 5 dL_acts_207 rfl rfl ?_
            refine L_iload X 2 dL_acts_208 rfl ?_
            obtain ⟨q34, hq34, h⟩ := bd_some h
            refine L_cC X (B := wsB (gκ g) n β ω e0 tx z33) (Tl' := wsB (gκ g) n β ω e0 tx z33 ++ (wsO (gκ g) q34.1)) rfl rfl (fun κ => gT_X6_wake (r := q34) hq34) cal_X6_wake wM_L_174 wI_X6_wake wS_X6_wake ⟨⟨(Nat.le_of_ble_eq_true rfl), (Nat.le_of_ble_eq_true rfl)⟩, by omega, by omega⟩ (As := [.int (q1 - q1 / (nI n) * (nI n))]) (rest := []) rfl rfl (Nat.le_of_ble_eq_true rfl) dL_acts_210 rfl ?_
            refine L_aload_n X 6 dL_acts_213 rfl rfl ?_
            refine B_get X hn (N := 12) (k := 0) (c := 8) (o := 0) (j := 0) rfl rfl rfl iX8 rfl (by decide) rfl wF_L_141 rfl dL_acts_214 ?_
            refine L_icmp_ne X (tgt := 224) dL_acts_217 (by decide) (fun c35 => ?_) (fun c35 => ?_)
            · have h := it_t c35 h
              refine L_iconst X (v := (0 : Int32)) dL_acts_224 (by decide) ?_
              refine L_widen (a' := 225) (b' := 3600) (by omega) (by omega) ?_
              obtain rfl := Option.some.inj h
              exact hf _ _ _ _ dL_acts_225 (isb_n (by decide)) ⟨_, rfl, rfl⟩
            · have h := it_f (fun k => k c35) h
              refine L_iconst X (v := (1 : Int32)) dL_acts_220 (by decide) ?_
              refine L_goto X (tgt := 225) dL_acts_221 (by decide) ?_
              refine L_widen (a' := 225) (b' := 3600) (by omega) (by omega) ?_
              obtain rfl := Option.some.inj h
              exact hf _ _ _ _ dL_acts_225 (isb_n (by decide)) ⟨_, rfl, rfl⟩
          · have h := it_f c29 h
            refine L_iconst X (v := (1 : Int32)) dL_acts_183 (by decide) ?_
            refine L_widen (a' := 225) (b' := 3600) (by omega) (by omega) ?_
            obtain rfl := Option.some.inj h
            exact hf _ _ _ _ dL_acts_184 (isb_n (by decide)) ⟨_, rfl, rfl⟩
      · have h := it_f c5 h
        refine L_iconst X (v := (1 : Int32)) dL_acts_119 (by decide) ?_
        refine L_widen (a' := 225) (b' := 3600) (by omega) (by omega) ?_
        obtain rfl := Option.some.inj h
        exact hf _ _ _ _ dL_acts_120 (isb_n (by decide)) ⟨_, rfl, rfl⟩
    · have h := it_f (fun k => k c4) h
      refine L_aload_n X 3 dL_acts_71 rfl rfl ?_
      refine B_get X hn (N := 12) (k := 2) (c := 8) (o := 0) (j := 0) rfl rfl rfl iX8 rfl (by decide) rfl wF_L_144 rfl dL_acts_72 ?_
      refine L_istore X (lv' := [(6, .int (gI Y 0 0 2)), (5, .int q2), (4, .int q1), (0, .ref (xE (gκ g) 8 0 0)), (1, .ref (β 0 0)), (2, .ref ξ.1.1), (3, .int a3)]) dL_acts_75 (by decide) rfl ?_
      refine L_aload_n X 4 dL_acts_77 rfl rfl ?_
      refine L_iconst X (v := (1 : Int32)) dL_acts_78 (by decide) ?_
      refine L_iload X 2 dL_acts_79 rfl ?_
      refine L_bipush X (v := (9 : Int32)) dL_acts_81 (by decide) ?_
      refine L_irem X dL_acts_83 (by decide) ?_
      refine L_iadd X dL_acts_84 ?_
      obtain ⟨v36, ev36, h⟩ := nm_some h
      refine L_nmi ev36 ?_
      obtain ⟨z37, ez37, h⟩ := nm_some h
      refine B_put X hn (N := 12) (k := 2) (c := 8) (o := 0) rfl rfl rfl iX8 tyX8_ok nmX8 rfl (by decide) (Or.inl ⟨rfl, by decide⟩) rfl rfl (tyX8_ok _ (by decide)) wF_L_144 rfl rfl ez37.symm dL_acts_85 ?_
      refine L_aload_n X 3 dL_acts_88 rfl rfl ?_
      refine L_aload_n X 4 dL_acts_89 rfl rfl ?_
      refine B_get X hn (N := 12) (k := 2) (c := 8) (o := 0) (j := 0) rfl rfl rfl iX8 rfl (by decide) rfl wF_L_144 rfl dL_acts_90 ?_
      obtain ⟨q38, hq38, h⟩ := bd_some h
      refine L_cC X (B := wsB (gκ g) n β ω e0 tx z37) (Tl' := wsB (gκ g) n β ω e0 tx z37 ++ (wsO (gκ g) q38.1)) rfl rfl (fun κ => gT_X6_setTries (r := q38) hq38) cal_X6_setTries wM_L_170 wI_X6_setTries wS_X6_setTries ⟨⟨(Nat.le_of_ble_eq_true rfl), (Nat.le_of_ble_eq_true rfl)⟩, by omega, by omega⟩ (As := [.int (gI z37 0 0 2)]) (rest := []) rfl rfl (Nat.le_of_ble_eq_true rfl) dL_acts_93 rfl ?_
      refine L_iload X 0 dL_acts_96 rfl ?_
      refine L_icmp_ne X (tgt := 105) dL_acts_98 (by decide) (fun c39 => ?_) (fun c39 => ?_)
      · have h := it_t c39 h
        refine L_iconst X (v := (0 : Int32)) dL_acts_105 (by decide) ?_
        refine L_widen (a' := 225) (b' := 3600) (by omega) (by omega) ?_
        obtain rfl := Option.some.inj h
        exact hf _ _ _ _ dL_acts_106 (isb_n (by decide)) ⟨_, rfl, rfl⟩
      · have h := it_f (fun k => k c39) h
        refine L_iconst X (v := (1 : Int32)) dL_acts_101 (by decide) ?_
        refine L_goto X (tgt := 106) dL_acts_102 (by decide) ?_
        refine L_widen (a' := 225) (b' := 3600) (by omega) (by omega) ?_
        obtain rfl := Option.some.inj h
        exact hf _ _ _ _ dL_acts_106 (isb_n (by decide)) ⟨_, rfl, rfl⟩
  · have h := it_f c3 h
    refine L_aload_n X 2 dL_acts_33 rfl rfl ?_
    refine L_iconst X (v := (1 : Int32)) dL_acts_34 (by decide) ?_
    refine L_iload X 1 dL_acts_35 rfl ?_
    refine L_bipush X (v := (25 : Int32)) dL_acts_37 (by decide) ?_
    refine L_irem X dL_acts_39 (by decide) ?_
    refine L_iadd X dL_acts_40 ?_
    obtain ⟨q40, hq40, h⟩ := bd_some h
    refine L_cC X (B := wsB (gκ g) n β ω e0 tx Y) (Tl' := wsB (gκ g) n β ω e0 tx Y ++ (wsO (gκ g) q40.1)) rfl rfl (fun κ => gT_X6_run (r := q40) hq40) cal_X6_run wM_L_166 wI_X6_run wS_X6_run ⟨⟨(Nat.le_of_ble_eq_true rfl), (Nat.le_of_ble_eq_true rfl)⟩, by omega, by omega⟩ (As := [.int ((1 : Int32) + (q1 - q1 / (25 : Int32) * (25 : Int32)))]) (rest := []) rfl rfl (Nat.le_of_ble_eq_true rfl) dL_acts_41 rfl ?_
    refine L_aload_n X 3 dL_acts_44 rfl rfl ?_
    refine L_iconst X (v := (1 : Int32)) dL_acts_45 (by decide) ?_
    refine L_iload X 1 dL_acts_46 rfl ?_
    refine L_bipush X (v := (25 : Int32)) dL_acts_48 (by decide) ?_
    refine L_irem X dL_acts_50 (by decide) ?_
    refine L_iadd X dL_acts_51 ?_
    obtain ⟨g42, h⟩ := gd_some h
    have g42 := of_decide_eq_true g42
    obtain ⟨q41, hq41, h⟩ := bd_some h
    refine L_cW X E hn (As := [.int ((1 : Int32) + (q1 - q1 / (25 : Int32) * (25 : Int32)))]) (rest := [.int q40.2]) (cw_X8_run hn hq41) cal_X8_run wM_L_169 wI_X8_run wS_X8_run ⟨⟨(Nat.le_of_ble_eq_true rfl), (Nat.le_of_ble_eq_true rfl)⟩, by omega, by omega⟩ rfl rfl (Nat.le_of_ble_eq_true rfl) dL_acts_52 (fun rv T9 hT9 => ?_)
    obtain ⟨ω43, rfl, hT9⟩ := hT9
    rw [hT9]
    refine L_widen (a' := 0 + 225) (b' := 16 * (0 + 225)) (by omega) (by omega) ?_
    refine L_icmp_ne X (tgt := 62) dL_acts_55 (by decide) (fun c44 => ?_) (fun c44 => ?_)
    · have h := it_t c44 h
      refine L_iconst X (v := (0 : Int32)) dL_acts_62 (by decide) ?_
      refine L_widen (a' := 225) (b' := 3600) (by omega) (by omega) ?_
      obtain rfl := Option.some.inj h
      exact hf _ _ _ _ dL_acts_63 (isb_n (by decide)) ⟨_, rfl, rfl⟩
    · have h := it_f (fun k => k c44) h
      refine L_iconst X (v := (1 : Int32)) dL_acts_58 (by decide) ?_
      refine L_goto X (tgt := 63) dL_acts_59 (by decide) ?_
      refine L_widen (a' := 225) (b' := 3600) (by omega) (by omega) ?_
      obtain rfl := Option.some.inj h
      exact hf _ _ _ _ dL_acts_63 (isb_n (by decide)) ⟨_, rfl, rfl⟩
set_option maxRecDepth 20000 in
theorem gL_holds_b374 {g : GX} {ξ : XI} {B : va_W} {T : TT} {res : Int32} {k9 : TT → Int32 → Int32 → Int32 → Int32 → Option (Int32)} {k310 : TT → Int32 → Int32 → Int32 → Int32 → Int32 → Option (Int32)} (X : CL g RL cL_holds 9 8 134 0 0) (E : XE g ξ) (hf : FinMi g cL_holds .boolean (fun rv T9 => rv = some (.int res) ∧ T9 = B ++ wsO (gκ g) T) 0 0) (hk9 : ∀ (a1' : Int32) (a2' : Int32) (a3' : Int32) (a4' : Int32), k9 T a1' a2' a3' a4' = some res → L g 0 0 (B ++ (wsO (gκ g) T)) 9 [(0, .ref (xE (gκ g) 8 0 0)), (1, .int a1'), (2, .int a2'), (3, .int a3'), (4, .int a4')] []) (hk310 : ∀ (a1' : Int32) (a2' : Int32) (a3' : Int32) (a4' : Int32) (a7' : Int32), k310 T a1' a2' a3' a4' a7' = some res → L g 0 0 (B ++ (wsO (gκ g) T)) 310 [(0, .ref (xE (gκ g) 8 0 0)), (1, .int a1'), (2, .int a2'), (3, .int a3'), (4, .int a4'), (7, .int a7')] []) (a1 : Int32) (a2 : Int32) (a3 : Int32) (a4 : Int32) (a7 : Int32) (as0 : Int32) (as1 : Int32) (h : sL_holds_b374 k9 k310 T a1 a2 a3 a4 a7 as0 as1 = some res) : L g 0 0 (B ++ (wsO (gκ g) T)) 374 [(0, .ref (xE (gκ g) 8 0 0)), (1, .int a1), (2, .int a2), (3, .int a3), (4, .int a4), (7, .int a7)] [.int as0, .int as1] := by
  unfold sL_holds_b374 at h
  refine L_icmp_eq X (tgt := 379) dL_holds_374 (by decide) (fun c62 => ?_) (fun c62 => ?_)
  · have h := it_t c62 h
    refine L_aload_n X 0 dL_holds_379 rfl rfl ?_
    refine L_iload X 4 dL_holds_380 rfl ?_
    refine L_iload X 5 dL_holds_382 rfl ?_
    obtain ⟨q63, hq63, h⟩ := bd_some h
    refine L_cC X (B := B) (Tl' := B ++ (wsO (gκ g) T)) rfl rfl (fun κ => gT_X6_hops (r := q63) hq63) cal_X6_hops wM_L_198 wI_X6_hops wS_X6_hops ⟨⟨(Nat.le_of_ble_eq_true rfl), (Nat.le_of_ble_eq_true rfl)⟩, by omega, by omega⟩ (As := [.int a4, .int a7]) (rest := []) rfl rfl (Nat.le_of_ble_eq_true rfl) dL_holds_384 rfl ?_
    refine L_aload_n X 0 dL_holds_387 rfl rfl ?_
    refine L_iload X 5 dL_holds_388 rfl ?_
    refine L_iload X 4 dL_holds_390 rfl ?_
    obtain ⟨q64, hq64, h⟩ := bd_some h
    refine L_cC X (B := B) (Tl' := B ++ (wsO (gκ g) T)) rfl rfl (fun κ => gT_X6_hops (r := q64) hq64) cal_X6_hops wM_L_198 wI_X6_hops wS_X6_hops ⟨⟨(Nat.le_of_ble_eq_true rfl), (Nat.le_of_ble_eq_true rfl)⟩, by omega, by omega⟩ (As := [.int a7, .int a4]) (rest := [.int q63]) rfl rfl (Nat.le_of_ble_eq_true rfl) dL_holds_392 rfl ?_
    refine L_icmp_ne X (tgt := 427) dL_holds_395 (by decide) (fun c65 => ?_) (fun c65 => ?_)
    · have h := it_t c65 h
      refine L_iconst X (v := (0 : Int32)) dL_holds_427 (by decide) ?_
      obtain rfl := Option.some.inj h
      exact hf _ _ _ _ dL_holds_428 (isb_n (by decide)) ⟨rfl, rfl⟩
    · have h := it_f (fun k => k c65) h
      refine L_aload_n X 0 dL_holds_398 rfl rfl ?_
      refine L_iload X 4 dL_holds_399 rfl ?_
      refine L_bipush X (v := (9 : Int32)) dL_holds_401 (by decide) ?_
      obtain ⟨q66, hq66, h⟩ := bd_some h
      refine L_cC X (B := B) (Tl' := B ++ (wsO (gκ g) T)) rfl rfl (fun κ => gT_X6_beacon (r := q66) hq66) cal_X6_beacon wM_L_117 wI_X6_beacon wS_X6_beacon ⟨⟨(Nat.le_of_ble_eq_true rfl), (Nat.le_of_ble_eq_true rfl)⟩, by omega, by omega⟩ (As := [.int a4, .int (9 : Int32)]) (rest := []) rfl rfl (Nat.le_of_ble_eq_true rfl) dL_holds_403 rfl ?_
      refine L_iload X 5 dL_holds_406 rfl ?_
      refine L_ishr X dL_holds_408 ?_
      refine L_iconst X (v := (1 : Int32)) dL_holds_409 (by decide) ?_
      refine L_iand X dL_holds_410 ?_
      refine L_aload_n X 0 dL_holds_411 rfl rfl ?_
      refine L_iload X 5 dL_holds_412 rfl ?_
      refine L_bipush X (v := (9 : Int32)) dL_holds_414 (by decide) ?_
      obtain ⟨q67, hq67, h⟩ := bd_some h
      refine L_cC X (B := B) (Tl' := B ++ (wsO (gκ g) T)) rfl rfl (fun κ => gT_X6_beacon (r := q67) hq67) cal_X6_beacon wM_L_117 wI_X6_beacon wS_X6_beacon ⟨⟨(Nat.le_of_ble_eq_true rfl), (Nat.le_of_ble_eq_true rfl)⟩, by omega, by omega⟩ (As := [.int a7, .int (9 : Int32)]) (rest := [.int ((q66 >>> (a7 &&& (31 : Int32))) &&& (1 : Int32))]) rfl rfl (Nat.le_of_ble_eq_true rfl) dL_holds_416 rfl ?_
      refine L_iload X 4 dL_holds_419 rfl ?_
      refine L_ishr X dL_holds_421 ?_
      refine L_iconst X (v := (1 : Int32)) dL_holds_422 (by decide) ?_
      refine L_iand X dL_holds_423 ?_
      refine L_icmp_eq X (tgt := 429) dL_holds_424 (by decide) (fun c68 => ?_) (fun c68 => ?_)
      · have h := it_t c68 h
        refine L_iload X 4 dL_holds_429 rfl ?_
        refine L_iload X 5 dL_holds_431 rfl ?_
        refine L_icmp_eq X (tgt := 460) dL_holds_433 (by decide) (fun c69 => ?_) (fun c69 => ?_)
        · have h := it_t c69 h
          obtain ⟨v70, ev70, h⟩ := nm_some h
          refine L_iinc X (v := v70) (lv' := [(7, .int v70), (0, .ref (xE (gκ g) 8 0 0)), (1, .int a1), (2, .int a2), (3, .int a3), (4, .int a4)]) 5 dL_holds_460 rfl (by rw [ev70]; rfl) (by decide) rfl ?_
          refine L_goto X (tgt := 310) dL_holds_463 (by decide) ?_
          refine L_sub [1, 2, 3, 4, 5, 0] rfl ?_
          exact hk310 _ _ _ _ _ h
        · have h := it_f c69 h
          refine L_aload_n X 0 dL_holds_436 rfl rfl ?_
          refine L_iload X 4 dL_holds_437 rfl ?_
          refine L_iload X 5 dL_holds_439 rfl ?_
          obtain ⟨q71, hq71, h⟩ := bd_some h
          refine L_cC X (B := B) (Tl' := B ++ (wsO (gκ g) T)) rfl rfl (fun κ => gT_X6_whyNot (r := q71) hq71) cal_X6_whyNot wM_L_72 wI_X6_whyNot wS_X6_whyNot ⟨⟨(Nat.le_of_ble_eq_true rfl), (Nat.le_of_ble_eq_true rfl)⟩, by omega, by omega⟩ (As := [.int a4, .int a7]) (rest := []) rfl rfl (Nat.le_of_ble_eq_true rfl) dL_holds_441 rfl ?_
          refine L_if_ne X (tgt := 460) dL_holds_444 (by decide) (fun c72 => ?_) (fun c72 => ?_)
          · have h := it_t c72 h
            obtain ⟨v73, ev73, h⟩ := nm_some h
            refine L_iinc X (v := v73) (lv' := [(7, .int v73), (0, .ref (xE (gκ g) 8 0 0)), (1, .int a1), (2, .int a2), (3, .int a3), (4, .int a4)]) 5 dL_holds_460 rfl (by rw [ev73]; rfl) (by decide) rfl ?_
            refine L_goto X (tgt := 310) dL_holds_463 (by decide) ?_
            refine L_sub [1, 2, 3, 4, 5, 0] rfl ?_
            exact hk310 _ _ _ _ _ h
          · have h := it_f (fun k => k c72) h
            refine L_aload_n X 0 dL_holds_447 rfl rfl ?_
            refine L_iload X 5 dL_holds_448 rfl ?_
            refine L_iload X 4 dL_holds_450 rfl ?_
            obtain ⟨q74, hq74, h⟩ := bd_some h
            refine L_cC X (B := B) (Tl' := B ++ (wsO (gκ g) T)) rfl rfl (fun κ => gT_X6_heard (r := q74) hq74) cal_X6_heard wM_L_65 wI_X6_heard wS_X6_heard ⟨⟨(Nat.le_of_ble_eq_true rfl), (Nat.le_of_ble_eq_true rfl)⟩, by omega, by omega⟩ (As := [.int a7, .int a4]) (rest := []) rfl rfl (Nat.le_of_ble_eq_true rfl) dL_holds_452 rfl ?_
            refine L_if_ge X (tgt := 460) dL_holds_455 (by decide) (fun c75 => ?_) (fun c75 => ?_)
            · have h := it_t c75 h
              obtain ⟨v76, ev76, h⟩ := nm_some h
              refine L_iinc X (v := v76) (lv' := [(7, .int v76), (0, .ref (xE (gκ g) 8 0 0)), (1, .int a1), (2, .int a2), (3, .int a3), (4, .int a4)]) 5 dL_holds_460 rfl (by rw [ev76]; rfl) (by decide) rfl ?_
              refine L_goto X (tgt := 310) dL_holds_463 (by decide) ?_
              refine L_sub [1, 2, 3, 4, 5, 0] rfl ?_
              exact hk310 _ _ _ _ _ h
            · have h := it_f c75 h
              refine L_iconst X (v := (0 : Int32)) dL_holds_458 (by decide) ?_
              obtain rfl := Option.some.inj h
              exact hf _ _ _ _ dL_holds_459 (isb_n (by decide)) ⟨rfl, rfl⟩
      · have h := it_f c68 h
        refine L_iconst X (v := (0 : Int32)) dL_holds_427 (by decide) ?_
        obtain rfl := Option.some.inj h
        exact hf _ _ _ _ dL_holds_428 (isb_n (by decide)) ⟨rfl, rfl⟩
  · have h := it_f c62 h
    refine L_iconst X (v := (0 : Int32)) dL_holds_377 (by decide) ?_
    obtain rfl := Option.some.inj h
    exact hf _ _ _ _ dL_holds_378 (isb_n (by decide)) ⟨rfl, rfl⟩
set_option maxRecDepth 20000 in
theorem gL_holds_b310 {g : GX} {ξ : XI} {B : va_W} {T : TT} {res : Int32} {k9 : TT → Int32 → Int32 → Int32 → Int32 → Option (Int32)} (X : CL g RL cL_holds 9 8 134 0 0) (E : XE g ξ) (hf : FinMi g cL_holds .boolean (fun rv T9 => rv = some (.int res) ∧ T9 = B ++ wsO (gκ g) T) 0 0) (hk9 : ∀ (a1' : Int32) (a2' : Int32) (a3' : Int32) (a4' : Int32), k9 T a1' a2' a3' a4' = some res → L g 0 0 (B ++ (wsO (gκ g) T)) 9 [(0, .ref (xE (gκ g) 8 0 0)), (1, .int a1'), (2, .int a2'), (3, .int a3'), (4, .int a4')] []) : ∀ (m : Nat) (a1 : Int32) (a2 : Int32) (a3 : Int32) (a4 : Int32) (a7 : Int32) (h : sL_holds_b310 m k9 T a1 a2 a3 a4 a7 = some res), L g 0 0 (B ++ (wsO (gκ g) T)) 310 [(0, .ref (xE (gκ g) 8 0 0)), (1, .int a1), (2, .int a2), (3, .int a3), (4, .int a4), (7, .int a7)] [] := by
  intro m
  induction m with
  | zero => intro a1 a2 a3 a4 a7 h; unfold sL_holds_b310 at h; cases h
  | succ m ih =>
    intro a1 a2 a3 a4 a7 h
    unfold sL_holds_b310 at h
    refine L_iload X 5 dL_holds_310 rfl ?_
    refine L_aload_n X 0 dL_holds_312 rfl rfl ?_
    refine L_iconst X (v := (0 : Int32)) dL_holds_313 (by decide) ?_
    obtain ⟨q51, hq51, h⟩ := bd_some h
    refine L_cC X (B := B) (Tl' := B ++ (wsO (gκ g) T)) rfl rfl (fun κ => gT_X6_setting (r := q51) hq51) cal_X6_setting wM_L_158 wI_X6_setting wS_X6_setting ⟨⟨(Nat.le_of_ble_eq_true rfl), (Nat.le_of_ble_eq_true rfl)⟩, by omega, by omega⟩ (As := [.int (0 : Int32)]) (rest := [.int a7]) rfl rfl (Nat.le_of_ble_eq_true rfl) dL_holds_314 rfl ?_
    refine L_icmp_ge X (tgt := 466) dL_holds_317 (by decide) (fun c52 => ?_) (fun c52 => ?_)
    · have h := it_t c52 h
      obtain ⟨v53, ev53, h⟩ := nm_some h
      refine L_iinc X (v := v53) (lv' := [(4, .int v53), (0, .ref (xE (gκ g) 8 0 0)), (1, .int a1), (2, .int a2), (3, .int a3), (7, .int a7)]) 4 dL_holds_466 rfl (by rw [ev53]; rfl) (by decide) rfl ?_
      refine L_goto X (tgt := 9) dL_holds_469 (by decide) ?_
      refine L_sub [1, 2, 3, 4, 0] rfl ?_
      exact hk9 _ _ _ _ h
    · have h := it_f c52 h
      refine L_aload_n X 0 dL_holds_320 rfl rfl ?_
      refine L_iload X 4 dL_holds_321 rfl ?_
      refine L_iload X 5 dL_holds_323 rfl ?_
      obtain ⟨q54, hq54, h⟩ := bd_some h
      refine L_cC X (B := B) (Tl' := B ++ (wsO (gκ g) T)) rfl rfl (fun κ => gT_X6_heard (r := q54) hq54) cal_X6_heard wM_L_65 wI_X6_heard wS_X6_heard ⟨⟨(Nat.le_of_ble_eq_true rfl), (Nat.le_of_ble_eq_true rfl)⟩, by omega, by omega⟩ (As := [.int a4, .int a7]) (rest := []) rfl rfl (Nat.le_of_ble_eq_true rfl) dL_holds_325 rfl ?_
      refine L_istore X (lv' := [(8, .int q54), (0, .ref (xE (gκ g) 8 0 0)), (1, .int a1), (2, .int a2), (3, .int a3), (4, .int a4), (7, .int a7)]) dL_holds_328 (by decide) rfl ?_
      refine L_iload X 0 dL_holds_330 rfl ?_
      refine L_aload_n X 1 dL_holds_332 rfl rfl ?_
      refine L_iconst X (v := (2 : Int32)) dL_holds_333 (by decide) ?_
      obtain ⟨q55, hq55, h⟩ := bd_some h
      refine L_cC X (B := B) (Tl' := B ++ (wsO (gκ g) T)) rfl rfl (fun κ => gT_X6_setting (r := q55) hq55) cal_X6_setting wM_L_158 wI_X6_setting wS_X6_setting ⟨⟨(Nat.le_of_ble_eq_true rfl), (Nat.le_of_ble_eq_true rfl)⟩, by omega, by omega⟩ (As := [.int (2 : Int32)]) (rest := [.int q54]) rfl rfl (Nat.le_of_ble_eq_true rfl) dL_holds_334 rfl ?_
      refine L_icmp_gt X (tgt := 377) dL_holds_337 (by decide) (fun c56 => ?_) (fun c56 => ?_)
      · have h := it_t c56 h
        refine L_iconst X (v := (0 : Int32)) dL_holds_377 (by decide) ?_
        obtain rfl := Option.some.inj h
        exact hf _ _ _ _ dL_holds_378 (isb_n (by decide)) ⟨rfl, rfl⟩
      · have h := it_f c56 h
        refine L_aload_n X 1 dL_holds_340 rfl rfl ?_
        refine L_iload X 5 dL_holds_341 rfl ?_
        refine L_iload X 6 dL_holds_343 rfl ?_
        obtain ⟨q57, hq57, h⟩ := bd_some h
        refine L_cC X (B := B) (Tl' := B ++ (wsO (gκ g) T)) rfl rfl (fun κ => gT_X6_knows (r := q57) hq57) cal_X6_knows wM_L_78 wI_X6_knows wS_X6_knows ⟨⟨(Nat.le_of_ble_eq_true rfl), (Nat.le_of_ble_eq_true rfl)⟩, by omega, by omega⟩ (As := [.int a4, .int a7]) (rest := []) rfl rfl (Nat.le_of_ble_eq_true rfl) dL_holds_345 rfl ?_
        refine L_iload X 0 dL_holds_348 rfl ?_
        refine L_if_lt X (tgt := 373) dL_holds_350 (by decide) (fun c58 => ?_) (fun c58 => ?_)
        · have h := it_t c58 h
          refine L_iconst X (v := (0 : Int32)) dL_holds_373 (by decide) ?_
          refine L_sub [1, 2, 3, 4, 5, 6] rfl ?_
          exact gL_holds_b374 X E hf hk9 (fun y0 y1 y2 y3 y4 h => ih y0 y1 y2 y3 y4 h) _ _ _ _ _ _ _ h
        · have h := it_f c58 h
          refine L_aload_n X 1 dL_holds_353 rfl rfl ?_
          refine L_iconst X (v := (2 : Int32)) dL_holds_354 (by decide) ?_
          obtain ⟨q59, hq59, h⟩ := bd_some h
          refine L_cC X (B := B) (Tl' := B ++ (wsO (gκ g) T)) rfl rfl (fun κ => gT_X6_setting (r := q59) hq59) cal_X6_setting wM_L_158 wI_X6_setting wS_X6_setting ⟨⟨(Nat.le_of_ble_eq_true rfl), (Nat.le_of_ble_eq_true rfl)⟩, by omega, by omega⟩ (As := [.int (2 : Int32)]) (rest := [.int q57]) rfl rfl (Nat.le_of_ble_eq_true rfl) dL_holds_355 rfl ?_
          refine L_iload X 0 dL_holds_358 rfl ?_
          refine L_isub X dL_holds_360 ?_
          refine L_aload_n X 1 dL_holds_361 rfl rfl ?_
          refine L_iconst X (v := (4 : Int32)) dL_holds_362 (by decide) ?_
          obtain ⟨q60, hq60, h⟩ := bd_some h
          refine L_cC X (B := B) (Tl' := B ++ (wsO (gκ g) T)) rfl rfl (fun κ => gT_X6_setting (r := q60) hq60) cal_X6_setting wM_L_158 wI_X6_setting wS_X6_setting ⟨⟨(Nat.le_of_ble_eq_true rfl), (Nat.le_of_ble_eq_true rfl)⟩, by omega, by omega⟩ (As := [.int (4 : Int32)]) (rest := [.int (q59 - q54), .int q57]) rfl rfl (Nat.le_of_ble_eq_true rfl) dL_holds_363 rfl ?_
          refine L_icmp_gt X (tgt := 373) dL_holds_366 (by decide) (fun c61 => ?_) (fun c61 => ?_)
          · have h := it_t c61 h
            refine L_iconst X (v := (0 : Int32)) dL_holds_373 (by decide) ?_
            refine L_sub [1, 2, 3, 4, 5, 6] rfl ?_
            exact gL_holds_b374 X E hf hk9 (fun y0 y1 y2 y3 y4 h => ih y0 y1 y2 y3 y4 h) _ _ _ _ _ _ _ h
          · have h := it_f c61 h
            refine L_iconst X (v := (1 : Int32)) dL_holds_369 (by decide) ?_
            refine L_goto X (tgt := 374) dL_holds_370 (by decide) ?_
            refine L_sub [1, 2, 3, 4, 5, 6] rfl ?_
            exact gL_holds_b374 X E hf hk9 (fun y0 y1 y2 y3 y4 h => ih y0 y1 y2 y3 y4 h) _ _ _ _ _ _ _ h
set_option maxRecDepth 20000 in
theorem gL_holds_b257 {g : GX} {ξ : XI} {B : va_W} {T : TT} {res : Int32} {k9 : TT → Int32 → Int32 → Int32 → Int32 → Option (Int32)} (X : CL g RL cL_holds 9 8 134 0 0) (E : XE g ξ) (hf : FinMi g cL_holds .boolean (fun rv T9 => rv = some (.int res) ∧ T9 = B ++ wsO (gκ g) T) 0 0) (hk9 : ∀ (a1' : Int32) (a2' : Int32) (a3' : Int32) (a4' : Int32), k9 T a1' a2' a3' a4' = some res → L g 0 0 (B ++ (wsO (gκ g) T)) 9 [(0, .ref (xE (gκ g) 8 0 0)), (1, .int a1'), (2, .int a2'), (3, .int a3'), (4, .int a4')] []) (a1 : Int32) (a2 : Int32) (a3 : Int32) (a4 : Int32) (as0 : Int32) (as1 : Int32) (h : sL_holds_b257 k9 T a1 a2 a3 a4 as0 as1 = some res) : L g 0 0 (B ++ (wsO (gκ g) T)) 257 [(0, .ref (xE (gκ g) 8 0 0)), (1, .int a1), (2, .int a2), (3, .int a3), (4, .int a4)] [.int as0, .int as1] := by
  unfold sL_holds_b257 at h
  refine L_icmp_ne X (tgt := 305) dL_holds_257 (by decide) (fun c42 => ?_) (fun c42 => ?_)
  · have h := it_t c42 h
    refine L_iconst X (v := (0 : Int32)) dL_holds_305 (by decide) ?_
    obtain rfl := Option.some.inj h
    exact hf _ _ _ _ dL_holds_306 (isb_n (by decide)) ⟨rfl, rfl⟩
  · have h := it_f (fun k => k c42) h
    refine L_aload_n X 0 dL_holds_260 rfl rfl ?_
    refine L_iload X 4 dL_holds_261 rfl ?_
    refine L_bipush X (v := (7 : Int32)) dL_holds_263 (by decide) ?_
    obtain ⟨q43, hq43, h⟩ := bd_some h
    refine L_cC X (B := B) (Tl' := B ++ (wsO (gκ g) T)) rfl rfl (fun κ => gT_X6_beacon (r := q43) hq43) cal_X6_beacon wM_L_117 wI_X6_beacon wS_X6_beacon ⟨⟨(Nat.le_of_ble_eq_true rfl), (Nat.le_of_ble_eq_true rfl)⟩, by omega, by omega⟩ (As := [.int a4, .int (7 : Int32)]) (rest := []) rfl rfl (Nat.le_of_ble_eq_true rfl) dL_holds_265 rfl ?_
    refine L_bipush X (v := (8 : Int32)) dL_holds_268 (by decide) ?_
    refine L_icmp_gt X (tgt := 305) dL_holds_270 (by decide) (fun c44 => ?_) (fun c44 => ?_)
    · have h := it_t c44 h
      refine L_iconst X (v := (0 : Int32)) dL_holds_305 (by decide) ?_
      obtain rfl := Option.some.inj h
      exact hf _ _ _ _ dL_holds_306 (isb_n (by decide)) ⟨rfl, rfl⟩
    · have h := it_f c44 h
      refine L_aload_n X 0 dL_holds_273 rfl rfl ?_
      refine L_iload X 4 dL_holds_274 rfl ?_
      obtain ⟨q45, hq45, h⟩ := bd_some h
      refine L_cC X (B := B) (Tl' := B ++ (wsO (gκ g) T)) rfl rfl (fun κ => gT_X6_dueIn (r := q45) hq45) cal_X6_dueIn wM_L_135 wI_X6_dueIn wS_X6_dueIn ⟨⟨(Nat.le_of_ble_eq_true rfl), (Nat.le_of_ble_eq_true rfl)⟩, by omega, by omega⟩ (As := [.int a4]) (rest := []) rfl rfl (Nat.le_of_ble_eq_true rfl) dL_holds_276 rfl ?_
      refine L_iconst X (v := (1 : Int32)) dL_holds_279 (by decide) ?_
      refine L_icmp_lt X (tgt := 305) dL_holds_280 (by decide) (fun c46 => ?_) (fun c46 => ?_)
      · have h := it_t c46 h
        refine L_iconst X (v := (0 : Int32)) dL_holds_305 (by decide) ?_
        obtain rfl := Option.some.inj h
        exact hf _ _ _ _ dL_holds_306 (isb_n (by decide)) ⟨rfl, rfl⟩
      · have h := it_f c46 h
        refine L_aload_n X 0 dL_holds_283 rfl rfl ?_
        refine L_iload X 4 dL_holds_284 rfl ?_
        refine L_iload X 4 dL_holds_286 rfl ?_
        obtain ⟨q47, hq47, h⟩ := bd_some h
        refine L_cC X (B := B) (Tl' := B ++ (wsO (gκ g) T)) rfl rfl (fun κ => gT_X6_knows (r := q47) hq47) cal_X6_knows wM_L_78 wI_X6_knows wS_X6_knows ⟨⟨(Nat.le_of_ble_eq_true rfl), (Nat.le_of_ble_eq_true rfl)⟩, by omega, by omega⟩ (As := [.int a4, .int a4]) (rest := []) rfl rfl (Nat.le_of_ble_eq_true rfl) dL_holds_288 rfl ?_
        refine L_if_ne X (tgt := 305) dL_holds_291 (by decide) (fun c48 => ?_) (fun c48 => ?_)
        · have h := it_t c48 h
          refine L_iconst X (v := (0 : Int32)) dL_holds_305 (by decide) ?_
          obtain rfl := Option.some.inj h
          exact hf _ _ _ _ dL_holds_306 (isb_n (by decide)) ⟨rfl, rfl⟩
        · have h := it_f (fun k => k c48) h
          refine L_aload_n X 0 dL_holds_294 rfl rfl ?_
          refine L_iload X 4 dL_holds_295 rfl ?_
          refine L_iload X 4 dL_holds_297 rfl ?_
          obtain ⟨q49, hq49, h⟩ := bd_some h
          refine L_cC X (B := B) (Tl' := B ++ (wsO (gκ g) T)) rfl rfl (fun κ => gT_X6_hops (r := q49) hq49) cal_X6_hops wM_L_198 wI_X6_hops wS_X6_hops ⟨⟨(Nat.le_of_ble_eq_true rfl), (Nat.le_of_ble_eq_true rfl)⟩, by omega, by omega⟩ (As := [.int a4, .int a4]) (rest := []) rfl rfl (Nat.le_of_ble_eq_true rfl) dL_holds_299 rfl ?_
          refine L_if_eq X (tgt := 307) dL_holds_302 (by decide) (fun c50 => ?_) (fun c50 => ?_)
          · have h := it_t c50 h
            refine L_iconst X (v := (0 : Int32)) dL_holds_307 (by decide) ?_
            refine L_istore X (lv' := [(7, .int (0 : Int32)), (0, .ref (xE (gκ g) 8 0 0)), (1, .int a1), (2, .int a2), (3, .int a3), (4, .int a4)]) dL_holds_308 (by decide) rfl ?_
            refine L_sub [1, 2, 3, 4, 5, 0] rfl ?_
            exact gL_holds_b310 X E hf hk9 FU _ _ _ _ _ h
          · have h := it_f c50 h
            refine L_iconst X (v := (0 : Int32)) dL_holds_305 (by decide) ?_
            obtain rfl := Option.some.inj h
            exact hf _ _ _ _ dL_holds_306 (isb_n (by decide)) ⟨rfl, rfl⟩
set_option maxRecDepth 20000 in
theorem gL_holds_b237 {g : GX} {ξ : XI} {B : va_W} {T : TT} {res : Int32} {k9 : TT → Int32 → Int32 → Int32 → Int32 → Option (Int32)} (X : CL g RL cL_holds 9 8 134 0 0) (E : XE g ξ) (hf : FinMi g cL_holds .boolean (fun rv T9 => rv = some (.int res) ∧ T9 = B ++ wsO (gκ g) T) 0 0) (hk9 : ∀ (a1' : Int32) (a2' : Int32) (a3' : Int32) (a4' : Int32), k9 T a1' a2' a3' a4' = some res → L g 0 0 (B ++ (wsO (gκ g) T)) 9 [(0, .ref (xE (gκ g) 8 0 0)), (1, .int a1'), (2, .int a2'), (3, .int a3'), (4, .int a4')] []) (a1 : Int32) (a2 : Int32) (a3 : Int32) (a4 : Int32) (as0 : Int32) (h : sL_holds_b237 k9 T a1 a2 a3 a4 as0 = some res) : L g 0 0 (B ++ (wsO (gκ g) T)) 237 [(0, .ref (xE (gκ g) 8 0 0)), (1, .int a1), (2, .int a2), (3, .int a3), (4, .int a4)] [.int as0] := by
  unfold sL_holds_b237 at h
  refine L_istore X (lv' := [(6, .int as0), (0, .ref (xE (gκ g) 8 0 0)), (1, .int a1), (2, .int a2), (3, .int a3), (4, .int a4)]) dL_holds_237 (by decide) rfl ?_
  refine L_iload X 0 dL_holds_239 rfl ?_
  refine L_aload_n X 1 dL_holds_241 rfl rfl ?_
  refine L_iload X 5 dL_holds_242 rfl ?_
  refine L_bipush X (v := (6 : Int32)) dL_holds_244 (by decide) ?_
  obtain ⟨q40, hq40, h⟩ := bd_some h
  refine L_cC X (B := B) (Tl' := B ++ (wsO (gκ g) T)) rfl rfl (fun κ => gT_X6_beacon (r := q40) hq40) cal_X6_beacon wM_L_117 wI_X6_beacon wS_X6_beacon ⟨⟨(Nat.le_of_ble_eq_true rfl), (Nat.le_of_ble_eq_true rfl)⟩, by omega, by omega⟩ (As := [.int a4, .int (6 : Int32)]) (rest := [.int as0]) rfl rfl (Nat.le_of_ble_eq_true rfl) dL_holds_246 rfl ?_
  refine L_if_ne X (tgt := 256) dL_holds_249 (by decide) (fun c41 => ?_) (fun c41 => ?_)
  · have h := it_t c41 h
    refine L_iconst X (v := (0 : Int32)) dL_holds_256 (by decide) ?_
    refine L_sub [1, 2, 3, 4, 5] rfl ?_
    exact gL_holds_b257 X E hf hk9 _ _ _ _ _ _ h
  · have h := it_f (fun k => k c41) h
    refine L_iconst X (v := (1 : Int32)) dL_holds_252 (by decide) ?_
    refine L_goto X (tgt := 257) dL_holds_253 (by decide) ?_
    refine L_sub [1, 2, 3, 4, 5] rfl ?_
    exact gL_holds_b257 X E hf hk9 _ _ _ _ _ _ h
set_option maxRecDepth 20000 in
theorem gL_holds_b211 {g : GX} {ξ : XI} {B : va_W} {T : TT} {res : Int32} {k9 : TT → Int32 → Int32 → Int32 → Int32 → Option (Int32)} (X : CL g RL cL_holds 9 8 134 0 0) (E : XE g ξ) (hf : FinMi g cL_holds .boolean (fun rv T9 => rv = some (.int res) ∧ T9 = B ++ wsO (gκ g) T) 0 0) (hk9 : ∀ (a1' : Int32) (a2' : Int32) (a3' : Int32) (a4' : Int32), k9 T a1' a2' a3' a4' = some res → L g 0 0 (B ++ (wsO (gκ g) T)) 9 [(0, .ref (xE (gκ g) 8 0 0)), (1, .int a1'), (2, .int a2'), (3, .int a3'), (4, .int a4')] []) (a1 : Int32) (a2 : Int32) (a3 : Int32) (a4 : Int32) (h : sL_holds_b211 k9 T a1 a2 a3 a4 = some res) : L g 0 0 (B ++ (wsO (gκ g) T)) 211 [(0, .ref (xE (gκ g) 8 0 0)), (1, .int a1), (2, .int a2), (3, .int a3), (4, .int a4)] [] := by
  unfold sL_holds_b211 at h
  refine L_aload_n X 0 dL_holds_211 rfl rfl ?_
  refine L_iload X 4 dL_holds_212 rfl ?_
  refine L_iconst X (v := (5 : Int32)) dL_holds_214 (by decide) ?_
  obtain ⟨q36, hq36, h⟩ := bd_some h
  refine L_cC X (B := B) (Tl' := B ++ (wsO (gκ g) T)) rfl rfl (fun κ => gT_X6_beacon (r := q36) hq36) cal_X6_beacon wM_L_117 wI_X6_beacon wS_X6_beacon ⟨⟨(Nat.le_of_ble_eq_true rfl), (Nat.le_of_ble_eq_true rfl)⟩, by omega, by omega⟩ (As := [.int a4, .int (5 : Int32)]) (rest := []) rfl rfl (Nat.le_of_ble_eq_true rfl) dL_holds_215 rfl ?_
  refine L_if_eq X (tgt := 232) dL_holds_218 (by decide) (fun c37 => ?_) (fun c37 => ?_)
  · have h := it_t c37 h
    refine L_iconst X (v := (1 : Int32)) dL_holds_232 (by decide) ?_
    refine L_goto X (tgt := 237) dL_holds_233 (by decide) ?_
    exact gL_holds_b237 X E hf hk9 _ _ _ _ _ h
  · have h := it_f c37 h
    refine L_aload_n X 0 dL_holds_221 rfl rfl ?_
    refine L_iload X 4 dL_holds_222 rfl ?_
    refine L_iconst X (v := (5 : Int32)) dL_holds_224 (by decide) ?_
    obtain ⟨q38, hq38, h⟩ := bd_some h
    refine L_cC X (B := B) (Tl' := B ++ (wsO (gκ g) T)) rfl rfl (fun κ => gT_X6_beacon (r := q38) hq38) cal_X6_beacon wM_L_117 wI_X6_beacon wS_X6_beacon ⟨⟨(Nat.le_of_ble_eq_true rfl), (Nat.le_of_ble_eq_true rfl)⟩, by omega, by omega⟩ (As := [.int a4, .int (5 : Int32)]) (rest := []) rfl rfl (Nat.le_of_ble_eq_true rfl) dL_holds_225 rfl ?_
    refine L_iconst X (v := (4 : Int32)) dL_holds_228 (by decide) ?_
    refine L_icmp_ne X (tgt := 236) dL_holds_229 (by decide) (fun c39 => ?_) (fun c39 => ?_)
    · have h := it_t c39 h
      refine L_iconst X (v := (0 : Int32)) dL_holds_236 (by decide) ?_
      exact gL_holds_b237 X E hf hk9 _ _ _ _ _ h
    · have h := it_f (fun k => k c39) h
      refine L_iconst X (v := (1 : Int32)) dL_holds_232 (by decide) ?_
      refine L_goto X (tgt := 237) dL_holds_233 (by decide) ?_
      exact gL_holds_b237 X E hf hk9 _ _ _ _ _ h
set_option maxRecDepth 20000 in
theorem gL_holds_b159 {g : GX} {ξ : XI} {B : va_W} {T : TT} {res : Int32} {k9 : TT → Int32 → Int32 → Int32 → Int32 → Option (Int32)} (X : CL g RL cL_holds 9 8 134 0 0) (E : XE g ξ) (hf : FinMi g cL_holds .boolean (fun rv T9 => rv = some (.int res) ∧ T9 = B ++ wsO (gκ g) T) 0 0) (hk9 : ∀ (a1' : Int32) (a2' : Int32) (a3' : Int32) (a4' : Int32), k9 T a1' a2' a3' a4' = some res → L g 0 0 (B ++ (wsO (gκ g) T)) 9 [(0, .ref (xE (gκ g) 8 0 0)), (1, .int a1'), (2, .int a2'), (3, .int a3'), (4, .int a4')] []) (a1 : Int32) (a2 : Int32) (a3 : Int32) (a4 : Int32) (as0 : Int32) (as1 : Int32) (h : sL_holds_b159 k9 T a1 a2 a3 a4 as0 as1 = some res) : L g 0 0 (B ++ (wsO (gκ g) T)) 159 [(0, .ref (xE (gκ g) 8 0 0)), (1, .int a1), (2, .int a2), (3, .int a3), (4, .int a4)] [.int as0, .int as1] := by
  unfold sL_holds_b159 at h
  refine L_icmp_eq X (tgt := 164) dL_holds_159 (by decide) (fun c27 => ?_) (fun c27 => ?_)
  · have h := it_t c27 h
    refine L_aload_n X 0 dL_holds_164 rfl rfl ?_
    refine L_iload X 4 dL_holds_165 rfl ?_
    refine L_iconst X (v := (5 : Int32)) dL_holds_167 (by decide) ?_
    obtain ⟨q28, hq28, h⟩ := bd_some h
    refine L_cC X (B := B) (Tl' := B ++ (wsO (gκ g) T)) rfl rfl (fun κ => gT_X6_beacon (r := q28) hq28) cal_X6_beacon wM_L_117 wI_X6_beacon wS_X6_beacon ⟨⟨(Nat.le_of_ble_eq_true rfl), (Nat.le_of_ble_eq_true rfl)⟩, by omega, by omega⟩ (As := [.int a4, .int (5 : Int32)]) (rest := []) rfl rfl (Nat.le_of_ble_eq_true rfl) dL_holds_168 rfl ?_
    refine L_iconst X (v := (4 : Int32)) dL_holds_171 (by decide) ?_
    refine L_icmp_eq X (tgt := 211) dL_holds_172 (by decide) (fun c29 => ?_) (fun c29 => ?_)
    · have h := it_t c29 h
      exact gL_holds_b211 X E hf hk9 _ _ _ _ h
    · have h := it_f c29 h
      refine L_aload_n X 0 dL_holds_175 rfl rfl ?_
      refine L_iload X 4 dL_holds_176 rfl ?_
      refine L_bipush X (v := (13 : Int32)) dL_holds_178 (by decide) ?_
      obtain ⟨q30, hq30, h⟩ := bd_some h
      refine L_cC X (B := B) (Tl' := B ++ (wsO (gκ g) T)) rfl rfl (fun κ => gT_X6_beacon (r := q30) hq30) cal_X6_beacon wM_L_117 wI_X6_beacon wS_X6_beacon ⟨⟨(Nat.le_of_ble_eq_true rfl), (Nat.le_of_ble_eq_true rfl)⟩, by omega, by omega⟩ (As := [.int a4, .int (13 : Int32)]) (rest := []) rfl rfl (Nat.le_of_ble_eq_true rfl) dL_holds_180 rfl ?_
      refine L_aload_n X 0 dL_holds_183 rfl rfl ?_
      refine L_iload X 4 dL_holds_184 rfl ?_
      obtain ⟨q31, hq31, h⟩ := bd_some h
      refine L_cC X (B := B) (Tl' := B ++ (wsO (gκ g) T)) rfl rfl (fun κ => gT_X6_reckoned (r := q31) hq31) cal_X6_reckoned wM_L_128 wI_X6_reckoned wS_X6_reckoned ⟨⟨(Nat.le_of_ble_eq_true rfl), (Nat.le_of_ble_eq_true rfl)⟩, by omega, by omega⟩ (As := [.int a4]) (rest := [.int q30]) rfl rfl (Nat.le_of_ble_eq_true rfl) dL_holds_186 rfl ?_
      refine L_icmp_eq X (tgt := 211) dL_holds_189 (by decide) (fun c32 => ?_) (fun c32 => ?_)
      · have h := it_t c32 h
        exact gL_holds_b211 X E hf hk9 _ _ _ _ h
      · have h := it_f c32 h
        refine L_aload_n X 0 dL_holds_192 rfl rfl ?_
        refine L_iload X 4 dL_holds_193 rfl ?_
        refine L_bipush X (v := (13 : Int32)) dL_holds_195 (by decide) ?_
        obtain ⟨q33, hq33, h⟩ := bd_some h
        refine L_cC X (B := B) (Tl' := B ++ (wsO (gκ g) T)) rfl rfl (fun κ => gT_X6_beacon (r := q33) hq33) cal_X6_beacon wM_L_117 wI_X6_beacon wS_X6_beacon ⟨⟨(Nat.le_of_ble_eq_true rfl), (Nat.le_of_ble_eq_true rfl)⟩, by omega, by omega⟩ (As := [.int a4, .int (13 : Int32)]) (rest := []) rfl rfl (Nat.le_of_ble_eq_true rfl) dL_holds_197 rfl ?_
        refine L_aload_n X 0 dL_holds_200 rfl rfl ?_
        refine L_iload X 4 dL_holds_201 rfl ?_
        obtain ⟨q34, hq34, h⟩ := bd_some h
        refine L_cC X (B := B) (Tl' := B ++ (wsO (gκ g) T)) rfl rfl (fun κ => gT_X6_reckoned (r := q34) hq34) cal_X6_reckoned wM_L_128 wI_X6_reckoned wS_X6_reckoned ⟨⟨(Nat.le_of_ble_eq_true rfl), (Nat.le_of_ble_eq_true rfl)⟩, by omega, by omega⟩ (As := [.int a4]) (rest := [.int q33]) rfl rfl (Nat.le_of_ble_eq_true rfl) dL_holds_203 rfl ?_
        refine L_icmp_le X (tgt := 211) dL_holds_206 (by decide) (fun c35 => ?_) (fun c35 => ?_)
        · have h := it_t c35 h
          exact gL_holds_b211 X E hf hk9 _ _ _ _ h
        · have h := it_f c35 h
          refine L_iconst X (v := (0 : Int32)) dL_holds_209 (by decide) ?_
          obtain rfl := Option.some.inj h
          exact hf _ _ _ _ dL_holds_210 (isb_n (by decide)) ⟨rfl, rfl⟩
  · have h := it_f c27 h
    refine L_iconst X (v := (0 : Int32)) dL_holds_162 (by decide) ?_
    obtain rfl := Option.some.inj h
    exact hf _ _ _ _ dL_holds_163 (isb_n (by decide)) ⟨rfl, rfl⟩
set_option maxRecDepth 20000 in
theorem gL_holds_b143 {g : GX} {ξ : XI} {B : va_W} {T : TT} {res : Int32} {k9 : TT → Int32 → Int32 → Int32 → Int32 → Option (Int32)} (X : CL g RL cL_holds 9 8 134 0 0) (E : XE g ξ) (hf : FinMi g cL_holds .boolean (fun rv T9 => rv = some (.int res) ∧ T9 = B ++ wsO (gκ g) T) 0 0) (hk9 : ∀ (a1' : Int32) (a2' : Int32) (a3' : Int32) (a4' : Int32), k9 T a1' a2' a3' a4' = some res → L g 0 0 (B ++ (wsO (gκ g) T)) 9 [(0, .ref (xE (gκ g) 8 0 0)), (1, .int a1'), (2, .int a2'), (3, .int a3'), (4, .int a4')] []) (a1 : Int32) (a2 : Int32) (a3 : Int32) (a4 : Int32) (as0 : Int32) (h : sL_holds_b143 k9 T a1 a2 a3 a4 as0 = some res) : L g 0 0 (B ++ (wsO (gκ g) T)) 143 [(0, .ref (xE (gκ g) 8 0 0)), (1, .int a1), (2, .int a2), (3, .int a3), (4, .int a4)] [.int as0] := by
  unfold sL_holds_b143 at h
  refine L_aload_n X 0 dL_holds_143 rfl rfl ?_
  refine L_iload X 4 dL_holds_144 rfl ?_
  refine L_iconst X (v := (5 : Int32)) dL_holds_146 (by decide) ?_
  obtain ⟨q25, hq25, h⟩ := bd_some h
  refine L_cC X (B := B) (Tl' := B ++ (wsO (gκ g) T)) rfl rfl (fun κ => gT_X6_beacon (r := q25) hq25) cal_X6_beacon wM_L_117 wI_X6_beacon wS_X6_beacon ⟨⟨(Nat.le_of_ble_eq_true rfl), (Nat.le_of_ble_eq_true rfl)⟩, by omega, by omega⟩ (As := [.int a4, .int (5 : Int32)]) (rest := [.int as0]) rfl rfl (Nat.le_of_ble_eq_true rfl) dL_holds_147 rfl ?_
  refine L_iconst X (v := (4 : Int32)) dL_holds_150 (by decide) ?_
  refine L_icmp_ne X (tgt := 158) dL_holds_151 (by decide) (fun c26 => ?_) (fun c26 => ?_)
  · have h := it_t c26 h
    refine L_iconst X (v := (0 : Int32)) dL_holds_158 (by decide) ?_
    exact gL_holds_b159 X E hf hk9 _ _ _ _ _ _ h
  · have h := it_f (fun k => k c26) h
    refine L_iconst X (v := (1 : Int32)) dL_holds_154 (by decide) ?_
    refine L_goto X (tgt := 159) dL_holds_155 (by decide) ?_
    exact gL_holds_b159 X E hf hk9 _ _ _ _ _ _ h
set_option maxRecDepth 20000 in
theorem gL_holds_b66 {g : GX} {ξ : XI} {B : va_W} {T : TT} {res : Int32} {k9 : TT → Int32 → Int32 → Int32 → Int32 → Option (Int32)} (X : CL g RL cL_holds 9 8 134 0 0) (E : XE g ξ) (hf : FinMi g cL_holds .boolean (fun rv T9 => rv = some (.int res) ∧ T9 = B ++ wsO (gκ g) T) 0 0) (hk9 : ∀ (a1' : Int32) (a2' : Int32) (a3' : Int32) (a4' : Int32), k9 T a1' a2' a3' a4' = some res → L g 0 0 (B ++ (wsO (gκ g) T)) 9 [(0, .ref (xE (gκ g) 8 0 0)), (1, .int a1'), (2, .int a2'), (3, .int a3'), (4, .int a4')] []) : ∀ (m : Nat) (a1 : Int32) (a2 : Int32) (a3 : Int32) (a4 : Int32) (a5 : Int32) (a6 : Int32) (h : sL_holds_b66 m k9 T a1 a2 a3 a4 a5 a6 = some res), L g 0 0 (B ++ (wsO (gκ g) T)) 66 [(0, .ref (xE (gκ g) 8 0 0)), (1, .int a1), (2, .int a2), (3, .int a3), (4, .int a4), (5, .int a5), (6, .int a6)] [] := by
  intro m
  induction m with
  | zero => intro a1 a2 a3 a4 a5 a6 h; unfold sL_holds_b66 at h; cases h
  | succ m ih =>
    intro a1 a2 a3 a4 a5 a6 h
    unfold sL_holds_b66 at h
    refine L_iload X 6 dL_holds_66 rfl ?_
    refine L_iconst X (v := (4 : Int32)) dL_holds_68 (by decide) ?_
    refine L_icmp_ge X (tgt := 91) dL_holds_69 (by decide) (fun c13 => ?_) (fun c13 => ?_)
    · have h := it_t c13 h
      refine L_iload X 5 dL_holds_91 rfl ?_
      refine L_aload_n X 0 dL_holds_93 rfl rfl ?_
      refine L_iconst X (v := (2 : Int32)) dL_holds_94 (by decide) ?_
      obtain ⟨q14, hq14, h⟩ := bd_some h
      refine L_cC X (B := B) (Tl' := B ++ (wsO (gκ g) T)) rfl rfl (fun κ => gT_X6_setting (r := q14) hq14) cal_X6_setting wM_L_158 wI_X6_setting wS_X6_setting ⟨⟨(Nat.le_of_ble_eq_true rfl), (Nat.le_of_ble_eq_true rfl)⟩, by omega, by omega⟩ (As := [.int (2 : Int32)]) (rest := [.int a5]) rfl rfl (Nat.le_of_ble_eq_true rfl) dL_holds_95 rfl ?_
      refine L_icmp_gt X (tgt := 162) dL_holds_98 (by decide) (fun c15 => ?_) (fun c15 => ?_)
      · have h := it_t c15 h
        refine L_iconst X (v := (0 : Int32)) dL_holds_162 (by decide) ?_
        obtain rfl := Option.some.inj h
        exact hf _ _ _ _ dL_holds_163 (isb_n (by decide)) ⟨rfl, rfl⟩
      · have h := it_f c15 h
        refine L_aload_n X 0 dL_holds_101 rfl rfl ?_
        refine L_iload X 4 dL_holds_102 rfl ?_
        refine L_bipush X (v := (13 : Int32)) dL_holds_104 (by decide) ?_
        obtain ⟨q16, hq16, h⟩ := bd_some h
        refine L_cC X (B := B) (Tl' := B ++ (wsO (gκ g) T)) rfl rfl (fun κ => gT_X6_beacon (r := q16) hq16) cal_X6_beacon wM_L_117 wI_X6_beacon wS_X6_beacon ⟨⟨(Nat.le_of_ble_eq_true rfl), (Nat.le_of_ble_eq_true rfl)⟩, by omega, by omega⟩ (As := [.int a4, .int (13 : Int32)]) (rest := []) rfl rfl (Nat.le_of_ble_eq_true rfl) dL_holds_106 rfl ?_
        refine L_aload_n X 0 dL_holds_109 rfl rfl ?_
        refine L_iload X 4 dL_holds_110 rfl ?_
        obtain ⟨q17, hq17, h⟩ := bd_some h
        refine L_cC X (B := B) (Tl' := B ++ (wsO (gκ g) T)) rfl rfl (fun κ => gT_X6_reckoned (r := q17) hq17) cal_X6_reckoned wM_L_128 wI_X6_reckoned wS_X6_reckoned ⟨⟨(Nat.le_of_ble_eq_true rfl), (Nat.le_of_ble_eq_true rfl)⟩, by omega, by omega⟩ (As := [.int a4]) (rest := [.int q16]) rfl rfl (Nat.le_of_ble_eq_true rfl) dL_holds_112 rfl ?_
        refine L_icmp_gt X (tgt := 162) dL_holds_115 (by decide) (fun c18 => ?_) (fun c18 => ?_)
        · have h := it_t c18 h
          refine L_iconst X (v := (0 : Int32)) dL_holds_162 (by decide) ?_
          obtain rfl := Option.some.inj h
          exact hf _ _ _ _ dL_holds_163 (isb_n (by decide)) ⟨rfl, rfl⟩
        · have h := it_f c18 h
          refine L_aload_n X 0 dL_holds_118 rfl rfl ?_
          refine L_iload X 4 dL_holds_119 rfl ?_
          refine L_iconst X (v := (4 : Int32)) dL_holds_121 (by decide) ?_
          obtain ⟨q19, hq19, h⟩ := bd_some h
          refine L_cC X (B := B) (Tl' := B ++ (wsO (gκ g) T)) rfl rfl (fun κ => gT_X6_beacon (r := q19) hq19) cal_X6_beacon wM_L_117 wI_X6_beacon wS_X6_beacon ⟨⟨(Nat.le_of_ble_eq_true rfl), (Nat.le_of_ble_eq_true rfl)⟩, by omega, by omega⟩ (As := [.int a4, .int (4 : Int32)]) (rest := []) rfl rfl (Nat.le_of_ble_eq_true rfl) dL_holds_122 rfl ?_
          refine L_if_lt X (tgt := 162) dL_holds_125 (by decide) (fun c20 => ?_) (fun c20 => ?_)
          · have h := it_t c20 h
            refine L_iconst X (v := (0 : Int32)) dL_holds_162 (by decide) ?_
            obtain rfl := Option.some.inj h
            exact hf _ _ _ _ dL_holds_163 (isb_n (by decide)) ⟨rfl, rfl⟩
          · have h := it_f c20 h
            refine L_aload_n X 0 dL_holds_128 rfl rfl ?_
            refine L_iload X 4 dL_holds_129 rfl ?_
            refine L_iconst X (v := (4 : Int32)) dL_holds_131 (by decide) ?_
            obtain ⟨q21, hq21, h⟩ := bd_some h
            refine L_cC X (B := B) (Tl' := B ++ (wsO (gκ g) T)) rfl rfl (fun κ => gT_X6_beacon (r := q21) hq21) cal_X6_beacon wM_L_117 wI_X6_beacon wS_X6_beacon ⟨⟨(Nat.le_of_ble_eq_true rfl), (Nat.le_of_ble_eq_true rfl)⟩, by omega, by omega⟩ (As := [.int a4, .int (4 : Int32)]) (rest := []) rfl rfl (Nat.le_of_ble_eq_true rfl) dL_holds_132 rfl ?_
            refine L_if_ne X (tgt := 142) dL_holds_135 (by decide) (fun c22 => ?_) (fun c22 => ?_)
            · have h := it_t c22 h
              refine L_iconst X (v := (0 : Int32)) dL_holds_142 (by decide) ?_
              refine L_sub [0, 1, 2, 3, 4] rfl ?_
              exact gL_holds_b143 X E hf hk9 _ _ _ _ _ h
            · have h := it_f (fun k => k c22) h
              refine L_iconst X (v := (1 : Int32)) dL_holds_138 (by decide) ?_
              refine L_goto X (tgt := 143) dL_holds_139 (by decide) ?_
              refine L_sub [0, 1, 2, 3, 4] rfl ?_
              exact gL_holds_b143 X E hf hk9 _ _ _ _ _ h
    · have h := it_f c13 h
      refine L_iload X 5 dL_holds_72 rfl ?_
      refine L_aload_n X 0 dL_holds_74 rfl rfl ?_
      refine L_iload X 4 dL_holds_75 rfl ?_
      refine L_iload X 6 dL_holds_77 rfl ?_
      obtain ⟨q23, hq23, h⟩ := bd_some h
      refine L_cC X (B := B) (Tl' := B ++ (wsO (gκ g) T)) rfl rfl (fun κ => gT_X6_slots (r := q23) hq23) cal_X6_slots wM_L_120 wI_X6_slots wS_X6_slots ⟨⟨(Nat.le_of_ble_eq_true rfl), (Nat.le_of_ble_eq_true rfl)⟩, by omega, by omega⟩ (As := [.int a4, .int a6]) (rest := [.int a5]) rfl rfl (Nat.le_of_ble_eq_true rfl) dL_holds_79 rfl ?_
      refine L_iadd X dL_holds_82 ?_
      refine L_istore X (lv' := [(5, .int (a5 + q23)), (0, .ref (xE (gκ g) 8 0 0)), (1, .int a1), (2, .int a2), (3, .int a3), (4, .int a4), (6, .int a6)]) dL_holds_83 (by decide) rfl ?_
      obtain ⟨v24, ev24, h⟩ := nm_some h
      refine L_iinc X (v := v24) (lv' := [(6, .int v24), (5, .int (a5 + q23)), (0, .ref (xE (gκ g) 8 0 0)), (1, .int a1), (2, .int a2), (3, .int a3), (4, .int a4)]) 6 dL_holds_85 rfl (by rw [ev24]; rfl) (by decide) rfl ?_
      refine L_goto X (tgt := 66) dL_holds_88 (by decide) ?_
      refine L_sub [2, 3, 4, 5, 6, 1, 0] rfl ?_
      exact ih _ _ _ _ _ _ h
set_option maxRecDepth 20000 in
theorem gL_holds_b9 {g : GX} {ξ : XI} {B : va_W} {T : TT} {res : Int32}  (X : CL g RL cL_holds 9 8 134 0 0) (E : XE g ξ) (hf : FinMi g cL_holds .boolean (fun rv T9 => rv = some (.int res) ∧ T9 = B ++ wsO (gκ g) T) 0 0)  : ∀ (m : Nat) (a1 : Int32) (a2 : Int32) (a3 : Int32) (a4 : Int32) (h : sL_holds_b9 m T a1 a2 a3 a4 = some res), L g 0 0 (B ++ (wsO (gκ g) T)) 9 [(0, .ref (xE (gκ g) 8 0 0)), (1, .int a1), (2, .int a2), (3, .int a3), (4, .int a4)] [] := by
  intro m
  induction m with
  | zero => intro a1 a2 a3 a4 h; unfold sL_holds_b9 at h; cases h
  | succ m ih =>
    intro a1 a2 a3 a4 h
    unfold sL_holds_b9 at h
    refine L_iload X 4 dL_holds_9 rfl ?_
    refine L_aload_n X 0 dL_holds_11 rfl rfl ?_
    refine L_iconst X (v := (0 : Int32)) dL_holds_12 (by decide) ?_
    obtain ⟨q1, hq1, h⟩ := bd_some h
    refine L_cC X (B := B) (Tl' := B ++ (wsO (gκ g) T)) rfl rfl (fun κ => gT_X6_setting (r := q1) hq1) cal_X6_setting wM_L_158 wI_X6_setting wS_X6_setting ⟨⟨(Nat.le_of_ble_eq_true rfl), (Nat.le_of_ble_eq_true rfl)⟩, by omega, by omega⟩ (As := [.int (0 : Int32)]) (rest := [.int a4]) rfl rfl (Nat.le_of_ble_eq_true rfl) dL_holds_13 rfl ?_
    refine L_icmp_ge X (tgt := 472) dL_holds_16 (by decide) (fun c2 => ?_) (fun c2 => ?_)
    · have h := it_t c2 h
      refine L_iload_n X 1 dL_holds_472 rfl rfl ?_
      refine L_aload_n X 0 dL_holds_473 rfl rfl ?_
      refine L_iconst X (v := (5 : Int32)) dL_holds_474 (by decide) ?_
      obtain ⟨q3, hq3, h⟩ := bd_some h
      refine L_cC X (B := B) (Tl' := B ++ (wsO (gκ g) T)) rfl rfl (fun κ => gT_X6_setting (r := q3) hq3) cal_X6_setting wM_L_158 wI_X6_setting wS_X6_setting ⟨⟨(Nat.le_of_ble_eq_true rfl), (Nat.le_of_ble_eq_true rfl)⟩, by omega, by omega⟩ (As := [.int (5 : Int32)]) (rest := [.int a1]) rfl rfl (Nat.le_of_ble_eq_true rfl) dL_holds_475 rfl ?_
      refine L_icmp_ne X (tgt := 505) dL_holds_478 (by decide) (fun c4 => ?_) (fun c4 => ?_)
      · have h := it_t c4 h
        refine L_iconst X (v := (0 : Int32)) dL_holds_505 (by decide) ?_
        obtain rfl := Option.some.inj h
        exact hf _ _ _ _ dL_holds_506 (isb_n (by decide)) ⟨rfl, rfl⟩
      · have h := it_f (fun k => k c4) h
        refine L_iload_n X 2 dL_holds_481 rfl rfl ?_
        refine L_aload_n X 0 dL_holds_482 rfl rfl ?_
        refine L_bipush X (v := (6 : Int32)) dL_holds_483 (by decide) ?_
        obtain ⟨q5, hq5, h⟩ := bd_some h
        refine L_cC X (B := B) (Tl' := B ++ (wsO (gκ g) T)) rfl rfl (fun κ => gT_X6_setting (r := q5) hq5) cal_X6_setting wM_L_158 wI_X6_setting wS_X6_setting ⟨⟨(Nat.le_of_ble_eq_true rfl), (Nat.le_of_ble_eq_true rfl)⟩, by omega, by omega⟩ (As := [.int (6 : Int32)]) (rest := [.int a2]) rfl rfl (Nat.le_of_ble_eq_true rfl) dL_holds_485 rfl ?_
        refine L_icmp_ne X (tgt := 505) dL_holds_488 (by decide) (fun c6 => ?_) (fun c6 => ?_)
        · have h := it_t c6 h
          refine L_iconst X (v := (0 : Int32)) dL_holds_505 (by decide) ?_
          obtain rfl := Option.some.inj h
          exact hf _ _ _ _ dL_holds_506 (isb_n (by decide)) ⟨rfl, rfl⟩
        · have h := it_f (fun k => k c6) h
          refine L_iload_n X 3 dL_holds_491 rfl rfl ?_
          refine L_aload_n X 0 dL_holds_492 rfl rfl ?_
          refine L_bipush X (v := (8 : Int32)) dL_holds_493 (by decide) ?_
          obtain ⟨q7, hq7, h⟩ := bd_some h
          refine L_cC X (B := B) (Tl' := B ++ (wsO (gκ g) T)) rfl rfl (fun κ => gT_X6_setting (r := q7) hq7) cal_X6_setting wM_L_158 wI_X6_setting wS_X6_setting ⟨⟨(Nat.le_of_ble_eq_true rfl), (Nat.le_of_ble_eq_true rfl)⟩, by omega, by omega⟩ (As := [.int (8 : Int32)]) (rest := [.int a3]) rfl rfl (Nat.le_of_ble_eq_true rfl) dL_holds_495 rfl ?_
          refine L_icmp_ne X (tgt := 505) dL_holds_498 (by decide) (fun c8 => ?_) (fun c8 => ?_)
          · have h := it_t c8 h
            refine L_iconst X (v := (0 : Int32)) dL_holds_505 (by decide) ?_
            obtain rfl := Option.some.inj h
            exact hf _ _ _ _ dL_holds_506 (isb_n (by decide)) ⟨rfl, rfl⟩
          · have h := it_f (fun k => k c8) h
            refine L_iconst X (v := (1 : Int32)) dL_holds_501 (by decide) ?_
            refine L_goto X (tgt := 506) dL_holds_502 (by decide) ?_
            obtain rfl := Option.some.inj h
            exact hf _ _ _ _ dL_holds_506 (isb_n (by decide)) ⟨rfl, rfl⟩
    · have h := it_f c2 h
      refine L_iload_n X 1 dL_holds_19 rfl rfl ?_
      refine L_aload_n X 0 dL_holds_20 rfl rfl ?_
      refine L_iload X 4 dL_holds_21 rfl ?_
      refine L_bipush X (v := (11 : Int32)) dL_holds_23 (by decide) ?_
      obtain ⟨q9, hq9, h⟩ := bd_some h
      refine L_cC X (B := B) (Tl' := B ++ (wsO (gκ g) T)) rfl rfl (fun κ => gT_X6_beacon (r := q9) hq9) cal_X6_beacon wM_L_117 wI_X6_beacon wS_X6_beacon ⟨⟨(Nat.le_of_ble_eq_true rfl), (Nat.le_of_ble_eq_true rfl)⟩, by omega, by omega⟩ (As := [.int a4, .int (11 : Int32)]) (rest := [.int a1]) rfl rfl (Nat.le_of_ble_eq_true rfl) dL_holds_25 rfl ?_
      refine L_iadd X dL_holds_28 ?_
      refine L_istore_n X (lv' := [(1, .int (a1 + q9)), (0, .ref (xE (gκ g) 8 0 0)), (2, .int a2), (3, .int a3), (4, .int a4)]) dL_holds_29 rfl (by decide) rfl ?_
      refine L_iload_n X 2 dL_holds_30 rfl rfl ?_
      refine L_aload_n X 1 dL_holds_31 rfl rfl ?_
      refine L_iload X 4 dL_holds_32 rfl ?_
      refine L_bipush X (v := (12 : Int32)) dL_holds_34 (by decide) ?_
      obtain ⟨q10, hq10, h⟩ := bd_some h
      refine L_cC X (B := B) (Tl' := B ++ (wsO (gκ g) T)) rfl rfl (fun κ => gT_X6_beacon (r := q10) hq10) cal_X6_beacon wM_L_117 wI_X6_beacon wS_X6_beacon ⟨⟨(Nat.le_of_ble_eq_true rfl), (Nat.le_of_ble_eq_true rfl)⟩, by omega, by omega⟩ (As := [.int a4, .int (12 : Int32)]) (rest := [.int a2]) rfl rfl (Nat.le_of_ble_eq_true rfl) dL_holds_36 rfl ?_
      refine L_iadd X dL_holds_39 ?_
      refine L_istore_n X (lv' := [(2, .int (a2 + q10)), (1, .int (a1 + q9)), (0, .ref (xE (gκ g) 8 0 0)), (3, .int a3), (4, .int a4)]) dL_holds_40 rfl (by decide) rfl ?_
      refine L_iload_n X 3 dL_holds_41 rfl rfl ?_
      refine L_aload_n X 2 dL_holds_42 rfl rfl ?_
      refine L_iload X 4 dL_holds_43 rfl ?_
      refine L_iconst X (v := (5 : Int32)) dL_holds_45 (by decide) ?_
      obtain ⟨q11, hq11, h⟩ := bd_some h
      refine L_cC X (B := B) (Tl' := B ++ (wsO (gκ g) T)) rfl rfl (fun κ => gT_X6_beacon (r := q11) hq11) cal_X6_beacon wM_L_117 wI_X6_beacon wS_X6_beacon ⟨⟨(Nat.le_of_ble_eq_true rfl), (Nat.le_of_ble_eq_true rfl)⟩, by omega, by omega⟩ (As := [.int a4, .int (5 : Int32)]) (rest := [.int a3]) rfl rfl (Nat.le_of_ble_eq_true rfl) dL_holds_46 rfl ?_
      refine L_iconst X (v := (4 : Int32)) dL_holds_49 (by decide) ?_
      refine L_icmp_ne X (tgt := 57) dL_holds_50 (by decide) (fun c12 => ?_) (fun c12 => ?_)
      · have h := it_t c12 h
        refine L_iconst X (v := (0 : Int32)) dL_holds_57 (by decide) ?_
        refine L_iadd X dL_holds_58 ?_
        refine L_istore_n X (lv' := [(3, .int (a3 + (0 : Int32))), (2, .int (a2 + q10)), (1, .int (a1 + q9)), (0, .ref (xE (gκ g) 8 0 0)), (4, .int a4)]) dL_holds_59 rfl (by decide) rfl ?_
        refine L_iconst X (v := (0 : Int32)) dL_holds_60 (by decide) ?_
        refine L_istore X (lv' := [(5, .int (0 : Int32)), (3, .int (a3 + (0 : Int32))), (2, .int (a2 + q10)), (1, .int (a1 + q9)), (0, .ref (xE (gκ g) 8 0 0)), (4, .int a4)]) dL_holds_61 (by decide) rfl ?_
        refine L_iconst X (v := (0 : Int32)) dL_holds_63 (by decide) ?_
        refine L_istore X (lv' := [(6, .int (0 : Int32)), (5, .int (0 : Int32)), (3, .int (a3 + (0 : Int32))), (2, .int (a2 + q10)), (1, .int (a1 + q9)), (0, .ref (xE (gκ g) 8 0 0)), (4, .int a4)]) dL_holds_64 (by decide) rfl ?_
        refine L_sub [5, 4, 3, 2, 6, 1, 0] rfl ?_
        exact gL_holds_b66 X E hf (fun y0 y1 y2 y3 h => ih y0 y1 y2 y3 h) FU _ _ _ _ _ _ h
      · have h := it_f (fun k => k c12) h
        refine L_iconst X (v := (1 : Int32)) dL_holds_53 (by decide) ?_
        refine L_goto X (tgt := 58) dL_holds_54 (by decide) ?_
        refine L_iadd X dL_holds_58 ?_
        refine L_istore_n X (lv' := [(3, .int (a3 + (1 : Int32))), (2, .int (a2 + q10)), (1, .int (a1 + q9)), (0, .ref (xE (gκ g) 8 0 0)), (4, .int a4)]) dL_holds_59 rfl (by decide) rfl ?_
        refine L_iconst X (v := (0 : Int32)) dL_holds_60 (by decide) ?_
        refine L_istore X (lv' := [(5, .int (0 : Int32)), (3, .int (a3 + (1 : Int32))), (2, .int (a2 + q10)), (1, .int (a1 + q9)), (0, .ref (xE (gκ g) 8 0 0)), (4, .int a4)]) dL_holds_61 (by decide) rfl ?_
        refine L_iconst X (v := (0 : Int32)) dL_holds_63 (by decide) ?_
        refine L_istore X (lv' := [(6, .int (0 : Int32)), (5, .int (0 : Int32)), (3, .int (a3 + (1 : Int32))), (2, .int (a2 + q10)), (1, .int (a1 + q9)), (0, .ref (xE (gκ g) 8 0 0)), (4, .int a4)]) dL_holds_64 (by decide) rfl ?_
        refine L_sub [5, 4, 3, 2, 6, 1, 0] rfl ?_
        exact gL_holds_b66 X E hf (fun y0 y1 y2 y3 h => ih y0 y1 y2 y3 h) FU _ _ _ _ _ _ h
set_option maxRecDepth 20000 in
theorem cw_L_holds {l : Launch} {κ : KX} {ξ : XI} {B : va_W} {T : TT}  {res : Int32} (h : sL_holds T  = some res) : CtM l κ ξ yL_holds cL_holds 9 (some .boolean) 8 134 0 0 [.ref (xE κ 8 0 0)] (B ++ (wsO κ T)) (fun rv T9 => rv = some (.int res) ∧ T9 = B ++ wsO κ T) := by
  refine CtM_i RL rfl (by decide +kernel) (Nat.le_of_ble_eq_true rfl) (fun g hgl hgκ X E hf => ?_)
  subst hgl; subst hgκ
  unfold sL_holds at h
  refine L_iconst X (v := (0 : Int32)) dL_holds_0 (by decide) ?_
  refine L_istore_n X (lv' := [(1, .int (0 : Int32)), (0, .ref (xE (gκ g) 8 0 0))]) dL_holds_1 rfl (by decide) rfl ?_
  refine L_iconst X (v := (0 : Int32)) dL_holds_2 (by decide) ?_
  refine L_istore_n X (lv' := [(2, .int (0 : Int32)), (1, .int (0 : Int32)), (0, .ref (xE (gκ g) 8 0 0))]) dL_holds_3 rfl (by decide) rfl ?_
  refine L_iconst X (v := (0 : Int32)) dL_holds_4 (by decide) ?_
  refine L_istore_n X (lv' := [(3, .int (0 : Int32)), (2, .int (0 : Int32)), (1, .int (0 : Int32)), (0, .ref (xE (gκ g) 8 0 0))]) dL_holds_5 rfl (by decide) rfl ?_
  refine L_iconst X (v := (0 : Int32)) dL_holds_6 (by decide) ?_
  refine L_istore X (lv' := [(4, .int (0 : Int32)), (3, .int (0 : Int32)), (2, .int (0 : Int32)), (1, .int (0 : Int32)), (0, .ref (xE (gκ g) 8 0 0))]) dL_holds_7 (by decide) rfl ?_
  refine L_sub [4, 3, 2, 1, 0] rfl ?_
  exact gL_holds_b9 X E hf FU _ _ _ _ h
set_option maxRecDepth 20000 in
theorem gL_comes_b230 {g : GX} {ξ : XI} {n : Nat} {β : Nat → Nat → Nat} {ω : Nat → Nat} {e0 tx : Nat} {Y : St} {res : TT × Int32}  (X : CL g RL cL_comes 12 9 174 9 144) (E : XE g ξ) (hn : n < 9) (hf : FinMi g cL_comes .boolean (fun rv T9 => rv = some (.int res.2) ∧ T9 = wsB (gκ g) n β ω e0 tx Y ++ wsO (gκ g) res.1) 9 144)  (T : TT) (u : Nat) (hu : u ≤ 9) (h : sL_comes_b230 n T Y u = some res) : L g u (16 * u) (wsB (gκ g) n β ω e0 tx Y ++ (wsO (gκ g) T)) 230 [(0, .ref (xE (gκ g) 8 0 0)), (1, .ref (β 0 0))] [] := by
  unfold sL_comes_b230 at h
  refine L_aload_n X 0 dL_comes_230 rfl rfl ?_
  obtain ⟨q36, hq36, h⟩ := bd_some h
  refine L_cC X (B := wsB (gκ g) n β ω e0 tx Y) (Tl' := wsB (gκ g) n β ω e0 tx Y ++ (wsO (gκ g) q36.1)) rfl rfl (fun κ => gT_X6_undo (r := q36) hq36) cal_X6_undo wM_L_204 wI_X6_undo wS_X6_undo ⟨⟨(Nat.le_of_ble_eq_true rfl), (Nat.le_of_ble_eq_true rfl)⟩, by omega, by omega⟩ (As := []) (rest := []) rfl rfl (Nat.le_of_ble_eq_true rfl) dL_comes_231 rfl ?_
  refine L_if_lt X (tgt := 249) dL_comes_234 (by decide) (fun c37 => ?_) (fun c37 => ?_)
  · have h := it_t c37 h
    refine L_iconst X (v := (0 : Int32)) dL_comes_249 (by decide) ?_
    refine L_widen (a' := 9) (b' := 144) (by omega) (by omega) ?_
    obtain rfl := Option.some.inj h
    exact hf _ _ _ _ dL_comes_250 (isb_n (by decide)) ⟨rfl, rfl⟩
  · have h := it_f c37 h
    refine L_aload_n X 0 dL_comes_237 rfl rfl ?_
    refine L_aload_n X 1 dL_comes_238 rfl rfl ?_
    obtain ⟨g39, h⟩ := gd_some h
    have g39 := of_decide_eq_true g39
    obtain ⟨q38, hq38, h⟩ := bd_some h
    refine L_cS X E (As := [.ref (xE (gκ g) 8 0 0), .ref (β 0 0)]) (rest := []) (cw_L_alike hn hq38) cal_L_alike wM_L_216 wT_L_alike ⟨⟨(Nat.le_of_ble_eq_true rfl), (Nat.le_of_ble_eq_true rfl)⟩, by omega, by omega⟩ rfl rfl (Nat.le_of_ble_eq_true rfl) dL_comes_239 (fun rv T9 hT9 => ?_)
    obtain ⟨rfl, hT9⟩ := hT9
    rw [hT9]
    refine L_widen (a' := u + 9) (b' := 16 * (u + 9)) (by omega) (by omega) ?_
    refine L_if_eq X (tgt := 249) dL_comes_242 (by decide) (fun c40 => ?_) (fun c40 => ?_)
    · have h := it_t c40 h
      refine L_iconst X (v := (0 : Int32)) dL_comes_249 (by decide) ?_
      refine L_widen (a' := 9) (b' := 144) (by omega) (by omega) ?_
      obtain rfl := Option.some.inj h
      exact hf _ _ _ _ dL_comes_250 (isb_n (by decide)) ⟨rfl, rfl⟩
    · have h := it_f c40 h
      refine L_iconst X (v := (1 : Int32)) dL_comes_245 (by decide) ?_
      refine L_goto X (tgt := 250) dL_comes_246 (by decide) ?_
      refine L_widen (a' := 9) (b' := 144) (by omega) (by omega) ?_
      obtain rfl := Option.some.inj h
      exact hf _ _ _ _ dL_comes_250 (isb_n (by decide)) ⟨rfl, rfl⟩
set_option maxRecDepth 20000 in
theorem gL_comes_b104 {g : GX} {ξ : XI} {n : Nat} {β : Nat → Nat → Nat} {ω : Nat → Nat} {e0 tx : Nat} {Y : St} {res : TT × Int32}  (X : CL g RL cL_comes 12 9 174 9 144) (E : XE g ξ) (hn : n < 9) (hf : FinMi g cL_comes .boolean (fun rv T9 => rv = some (.int res.2) ∧ T9 = wsB (gκ g) n β ω e0 tx Y ++ wsO (gκ g) res.1) 9 144)  : ∀ (m : Nat) (T : TT) (u : Nat) (a2 : Int32) (a3 : Int32) (hu : u ≤ 9) (h : sL_comes_b104 m n T Y u a2 a3 = some res), L g u (16 * u) (wsB (gκ g) n β ω e0 tx Y ++ (wsO (gκ g) T)) 104 [(0, .ref (xE (gκ g) 8 0 0)), (1, .ref (β 0 0)), (2, .int a2), (3, .int a3)] [] := by
  intro m
  induction m with
  | zero => intro T u a2 a3 hu h; unfold sL_comes_b104 at h; cases h
  | succ m ih =>
    intro T u a2 a3 hu h
    unfold sL_comes_b104 at h
    refine L_iload_n X 3 dL_comes_104 rfl rfl ?_
    refine L_if_le X (tgt := 123) dL_comes_105 (by decide) (fun c10 => ?_) (fun c10 => ?_)
    · have h := it_t c10 h
      refine L_aload_n X 0 dL_comes_123 rfl rfl ?_
      refine L_iload_n X 2 dL_comes_124 rfl rfl ?_
      obtain ⟨q11, hq11, h⟩ := bd_some h
      refine L_cC X (B := wsB (gκ g) n β ω e0 tx Y) (Tl' := wsB (gκ g) n β ω e0 tx Y ++ (wsO (gκ g) T)) rfl rfl (fun κ => gT_X6_dueIn (r := q11) hq11) cal_X6_dueIn wM_L_135 wI_X6_dueIn wS_X6_dueIn ⟨⟨(Nat.le_of_ble_eq_true rfl), (Nat.le_of_ble_eq_true rfl)⟩, by omega, by omega⟩ (As := [.int a2]) (rest := []) rfl rfl (Nat.le_of_ble_eq_true rfl) dL_comes_125 rfl ?_
      refine L_istore X (lv' := [(6, .int q11), (0, .ref (xE (gκ g) 8 0 0)), (1, .ref (β 0 0)), (2, .int a2), (3, .int a3)]) dL_comes_128 (by decide) rfl ?_
      refine L_aload_n X 1 dL_comes_130 rfl rfl ?_
      refine L_iload_n X 3 dL_comes_131 rfl rfl ?_
      refine L_bipush X (v := (7 : Int32)) dL_comes_132 (by decide) ?_
      obtain ⟨q12, hq12, h⟩ := bd_some h
      refine L_cC X (B := wsB (gκ g) n β ω e0 tx Y) (Tl' := wsB (gκ g) n β ω e0 tx Y ++ (wsO (gκ g) q12.1)) rfl rfl (fun κ => gT_X6_stateIn (r := q12) hq12) cal_X6_stateIn wM_L_207 wI_X6_stateIn wS_X6_stateIn ⟨⟨(Nat.le_of_ble_eq_true rfl), (Nat.le_of_ble_eq_true rfl)⟩, by omega, by omega⟩ (As := [.int a2, .int (7 : Int32)]) (rest := []) rfl rfl (Nat.le_of_ble_eq_true rfl) dL_comes_134 rfl ?_
      refine L_istore X (lv' := [(7, .int q12.2), (6, .int q11), (0, .ref (xE (gκ g) 8 0 0)), (1, .ref (β 0 0)), (2, .int a2), (3, .int a3)]) dL_comes_137 (by decide) rfl ?_
      refine L_aload_n X 2 dL_comes_139 rfl rfl ?_
      refine L_iload_n X 4 dL_comes_140 rfl rfl ?_
      refine L_bipush X (v := (7 : Int32)) dL_comes_141 (by decide) ?_
      obtain ⟨q13, hq13, h⟩ := bd_some h
      refine L_cC X (B := wsB (gκ g) n β ω e0 tx Y) (Tl' := wsB (gκ g) n β ω e0 tx Y ++ (wsO (gκ g) q13.1)) rfl rfl (fun κ => gT_X6_energyIn (r := q13) hq13) cal_X6_energyIn wM_L_210 wI_X6_energyIn wS_X6_energyIn ⟨⟨(Nat.le_of_ble_eq_true rfl), (Nat.le_of_ble_eq_true rfl)⟩, by omega, by omega⟩ (As := [.int a2, .int (7 : Int32)]) (rest := []) rfl rfl (Nat.le_of_ble_eq_true rfl) dL_comes_143 rfl ?_
      refine L_istore X (lv' := [(8, .int q13.2), (7, .int q12.2), (6, .int q11), (0, .ref (xE (gκ g) 8 0 0)), (1, .ref (β 0 0)), (2, .int a2), (3, .int a3)]) dL_comes_146 (by decide) rfl ?_
      refine L_aload_n X 3 dL_comes_148 rfl rfl ?_
      refine L_bipush X (v := (7 : Int32)) dL_comes_149 (by decide) ?_
      obtain ⟨q14, hq14, h⟩ := bd_some h
      refine L_cC X (B := wsB (gκ g) n β ω e0 tx Y) (Tl' := wsB (gκ g) n β ω e0 tx Y ++ (wsO (gκ g) q14.1)) rfl rfl (fun κ => gT_X6_collisionsIn (r := q14) hq14) cal_X6_collisionsIn wM_L_213 wI_X6_collisionsIn wS_X6_collisionsIn ⟨⟨(Nat.le_of_ble_eq_true rfl), (Nat.le_of_ble_eq_true rfl)⟩, by omega, by omega⟩ (As := [.int (7 : Int32)]) (rest := []) rfl rfl (Nat.le_of_ble_eq_true rfl) dL_comes_151 rfl ?_
      refine L_istore X (lv' := [(9, .int q14.2), (8, .int q13.2), (7, .int q12.2), (6, .int q11), (0, .ref (xE (gκ g) 8 0 0)), (1, .ref (β 0 0)), (2, .int a2), (3, .int a3)]) dL_comes_154 (by decide) rfl ?_
      refine L_aload_n X 4 dL_comes_156 rfl rfl ?_
      refine L_bipush X (v := (7 : Int32)) dL_comes_157 (by decide) ?_
      obtain ⟨q15, hq15, h⟩ := bd_some h
      refine L_cC X (B := wsB (gκ g) n β ω e0 tx Y) (Tl' := wsB (gκ g) n β ω e0 tx Y ++ (wsO (gκ g) q14.1)) rfl rfl (fun κ => gT_X6_setting (r := q15) hq15) cal_X6_setting wM_L_158 wI_X6_setting wS_X6_setting ⟨⟨(Nat.le_of_ble_eq_true rfl), (Nat.le_of_ble_eq_true rfl)⟩, by omega, by omega⟩ (As := [.int (7 : Int32)]) (rest := []) rfl rfl (Nat.le_of_ble_eq_true rfl) dL_comes_159 rfl ?_
      refine L_istore X (lv' := [(10, .int q15), (9, .int q14.2), (8, .int q13.2), (7, .int q12.2), (6, .int q11), (0, .ref (xE (gκ g) 8 0 0)), (1, .ref (β 0 0)), (2, .int a2), (3, .int a3)]) dL_comes_162 (by decide) rfl ?_
      refine L_aload_n X 5 dL_comes_164 rfl rfl ?_
      refine L_bipush X (v := (7 : Int32)) dL_comes_165 (by decide) ?_
      obtain ⟨q16, hq16, h⟩ := bd_some h
      refine L_cC X (B := wsB (gκ g) n β ω e0 tx Y) (Tl' := wsB (gκ g) n β ω e0 tx Y ++ (wsO (gκ g) q16.1)) rfl rfl (fun κ => gT_X6_run (r := q16) hq16) cal_X6_run wM_L_166 wI_X6_run wS_X6_run ⟨⟨(Nat.le_of_ble_eq_true rfl), (Nat.le_of_ble_eq_true rfl)⟩, by omega, by omega⟩ (As := [.int (7 : Int32)]) (rest := []) rfl rfl (Nat.le_of_ble_eq_true rfl) dL_comes_167 rfl ?_
      refine L_istore X (lv' := [(11, .int q16.2), (10, .int q15), (9, .int q14.2), (8, .int q13.2), (7, .int q12.2), (6, .int q11), (0, .ref (xE (gκ g) 8 0 0)), (1, .ref (β 0 0)), (2, .int a2), (3, .int a3)]) dL_comes_170 (by decide) rfl ?_
      refine L_aload_n X 6 dL_comes_172 rfl rfl ?_
      refine L_iload_n X 8 dL_comes_173 rfl rfl ?_
      refine L_iconst X (v := (5 : Int32)) dL_comes_174 (by decide) ?_
      obtain ⟨q17, hq17, h⟩ := bd_some h
      refine L_cC X (B := wsB (gκ g) n β ω e0 tx Y) (Tl' := wsB (gκ g) n β ω e0 tx Y ++ (wsO (gκ g) q16.1)) rfl rfl (fun κ => gT_X6_beacon (r := q17) hq17) cal_X6_beacon wM_L_117 wI_X6_beacon wS_X6_beacon ⟨⟨(Nat.le_of_ble_eq_true rfl), (Nat.le_of_ble_eq_true rfl)⟩, by omega, by omega⟩ (As := [.int a2, .int (5 : Int32)]) (rest := []) rfl rfl (Nat.le_of_ble_eq_true rfl) dL_comes_175 rfl ?_
      refine L_iload X 4 dL_comes_178 rfl ?_
      refine L_icmp_ne X (tgt := 228) dL_comes_180 (by decide) (fun c18 => ?_) (fun c18 => ?_)
      · have h := it_t c18 h
        refine L_iconst X (v := (0 : Int32)) dL_comes_228 (by decide) ?_
        refine L_widen (a' := 9) (b' := 144) (by omega) (by omega) ?_
        obtain rfl := Option.some.inj h
        exact hf _ _ _ _ dL_comes_229 (isb_n (by decide)) ⟨rfl, rfl⟩
      · have h := it_f (fun k => k c18) h
        refine L_aload_n X 6 dL_comes_183 rfl rfl ?_
        refine L_iload_n X 8 dL_comes_184 rfl rfl ?_
        refine L_iconst X (v := (4 : Int32)) dL_comes_185 (by decide) ?_
        obtain ⟨q19, hq19, h⟩ := bd_some h
        refine L_cC X (B := wsB (gκ g) n β ω e0 tx Y) (Tl' := wsB (gκ g) n β ω e0 tx Y ++ (wsO (gκ g) q16.1)) rfl rfl (fun κ => gT_X6_beacon (r := q19) hq19) cal_X6_beacon wM_L_117 wI_X6_beacon wS_X6_beacon ⟨⟨(Nat.le_of_ble_eq_true rfl), (Nat.le_of_ble_eq_true rfl)⟩, by omega, by omega⟩ (As := [.int a2, .int (4 : Int32)]) (rest := []) rfl rfl (Nat.le_of_ble_eq_true rfl) dL_comes_186 rfl ?_
        refine L_iload X 3 dL_comes_189 rfl ?_
        refine L_icmp_ne X (tgt := 228) dL_comes_191 (by decide) (fun c20 => ?_) (fun c20 => ?_)
        · have h := it_t c20 h
          refine L_iconst X (v := (0 : Int32)) dL_comes_228 (by decide) ?_
          refine L_widen (a' := 9) (b' := 144) (by omega) (by omega) ?_
          obtain rfl := Option.some.inj h
          exact hf _ _ _ _ dL_comes_229 (isb_n (by decide)) ⟨rfl, rfl⟩
        · have h := it_f (fun k => k c20) h
          refine L_aload_n X 6 dL_comes_194 rfl rfl ?_
          refine L_bipush X (v := (7 : Int32)) dL_comes_195 (by decide) ?_
          obtain ⟨q21, hq21, h⟩ := bd_some h
          refine L_cC X (B := wsB (gκ g) n β ω e0 tx Y) (Tl' := wsB (gκ g) n β ω e0 tx Y ++ (wsO (gκ g) q16.1)) rfl rfl (fun κ => gT_X6_setting (r := q21) hq21) cal_X6_setting wM_L_158 wI_X6_setting wS_X6_setting ⟨⟨(Nat.le_of_ble_eq_true rfl), (Nat.le_of_ble_eq_true rfl)⟩, by omega, by omega⟩ (As := [.int (7 : Int32)]) (rest := []) rfl rfl (Nat.le_of_ble_eq_true rfl) dL_comes_197 rfl ?_
          refine L_iload X 1 dL_comes_200 rfl ?_
          refine L_iload X 2 dL_comes_202 rfl ?_
          refine L_iadd X dL_comes_204 ?_
          refine L_icmp_ne X (tgt := 228) dL_comes_205 (by decide) (fun c22 => ?_) (fun c22 => ?_)
          · have h := it_t c22 h
            refine L_iconst X (v := (0 : Int32)) dL_comes_228 (by decide) ?_
            refine L_widen (a' := 9) (b' := 144) (by omega) (by omega) ?_
            obtain rfl := Option.some.inj h
            exact hf _ _ _ _ dL_comes_229 (isb_n (by decide)) ⟨rfl, rfl⟩
          · have h := it_f (fun k => k c22) h
            refine L_iload X 5 dL_comes_208 rfl ?_
            refine L_bipush X (v := (7 : Int32)) dL_comes_210 (by decide) ?_
            refine L_icmp_le X (tgt := 230) dL_comes_212 (by decide) (fun c23 => ?_) (fun c23 => ?_)
            · have h := it_t c23 h
              refine L_sub [6, 7] rfl ?_
              exact gL_comes_b230 X E hn hf _ _ (by omega) h
            · have h := it_f c23 h
              refine L_aload_n X 6 dL_comes_215 rfl rfl ?_
              refine L_iload_n X 8 dL_comes_216 rfl rfl ?_
              obtain ⟨q24, hq24, h⟩ := bd_some h
              refine L_cC X (B := wsB (gκ g) n β ω e0 tx Y) (Tl' := wsB (gκ g) n β ω e0 tx Y ++ (wsO (gκ g) q16.1)) rfl rfl (fun κ => gT_X6_dueIn (r := q24) hq24) cal_X6_dueIn wM_L_135 wI_X6_dueIn wS_X6_dueIn ⟨⟨(Nat.le_of_ble_eq_true rfl), (Nat.le_of_ble_eq_true rfl)⟩, by omega, by omega⟩ (As := [.int a2]) (rest := []) rfl rfl (Nat.le_of_ble_eq_true rfl) dL_comes_217 rfl ?_
              refine L_iload X 5 dL_comes_220 rfl ?_
              refine L_bipush X (v := (7 : Int32)) dL_comes_222 (by decide) ?_
              refine L_isub X dL_comes_224 ?_
              refine L_icmp_eq X (tgt := 230) dL_comes_225 (by decide) (fun c25 => ?_) (fun c25 => ?_)
              · have h := it_t c25 h
                refine L_sub [6, 7] rfl ?_
                exact gL_comes_b230 X E hn hf _ _ (by omega) h
              · have h := it_f c25 h
                refine L_iconst X (v := (0 : Int32)) dL_comes_228 (by decide) ?_
                refine L_widen (a' := 9) (b' := 144) (by omega) (by omega) ?_
                obtain rfl := Option.some.inj h
                exact hf _ _ _ _ dL_comes_229 (isb_n (by decide)) ⟨rfl, rfl⟩
    · have h := it_f c10 h
      refine L_aload_n X 0 dL_comes_108 rfl rfl ?_
      obtain ⟨q26, hq26, h⟩ := bd_some h
      refine L_cC X (B := wsB (gκ g) n β ω e0 tx Y) (Tl' := wsB (gκ g) n β ω e0 tx Y ++ (wsO (gκ g) q26.1)) rfl rfl (fun κ => gT_X6_undo (r := q26) hq26) cal_X6_undo wM_L_204 wI_X6_undo wS_X6_undo ⟨⟨(Nat.le_of_ble_eq_true rfl), (Nat.le_of_ble_eq_true rfl)⟩, by omega, by omega⟩ (As := []) (rest := []) rfl rfl (Nat.le_of_ble_eq_true rfl) dL_comes_109 rfl ?_
      refine L_if_ge X (tgt := 117) dL_comes_112 (by decide) (fun c27 => ?_) (fun c27 => ?_)
      · have h := it_t c27 h
        obtain ⟨v28, ev28, h⟩ := nm_some h
        refine L_iinc X (v := v28) (lv' := [(3, .int v28), (0, .ref (xE (gκ g) 8 0 0)), (1, .ref (β 0 0)), (2, .int a2)]) 3 dL_comes_117 rfl (by rw [ev28]; rfl) (by decide) rfl ?_
        refine L_goto X (tgt := 104) dL_comes_120 (by decide) ?_
        refine L_sub [1, 2, 3, 0] rfl ?_
        exact ih _ _ _ _ (by omega) h
      · have h := it_f c27 h
        refine L_iconst X (v := (0 : Int32)) dL_comes_115 (by decide) ?_
        refine L_widen (a' := 9) (b' := 144) (by omega) (by omega) ?_
        obtain rfl := Option.some.inj h
        exact hf _ _ _ _ dL_comes_116 (isb_n (by decide)) ⟨rfl, rfl⟩
set_option maxRecDepth 20000 in
theorem gL_comes_b63 {g : GX} {ξ : XI} {n : Nat} {β : Nat → Nat → Nat} {ω : Nat → Nat} {e0 tx : Nat} {Y : St} {res : TT × Int32}  (X : CL g RL cL_comes 12 9 174 9 144) (E : XE g ξ) (hn : n < 9) (hf : FinMi g cL_comes .boolean (fun rv T9 => rv = some (.int res.2) ∧ T9 = wsB (gκ g) n β ω e0 tx Y ++ wsO (gκ g) res.1) 9 144)  (T : TT) (u : Nat) (a2 : Int32) (a3 : Int32) (a5 : Int32) (hu : u ≤ 9) (h : sL_comes_b63 n T Y u a2 a3 a5 = some res) : L g u (16 * u) (wsB (gκ g) n β ω e0 tx Y ++ (wsO (gκ g) T)) 63 [(0, .ref (xE (gκ g) 8 0 0)), (1, .ref (β 0 0)), (2, .int a2), (3, .int a3), (5, .int a5)] [] := by
  unfold sL_comes_b63 at h
  refine L_aload_n X 0 dL_comes_63 rfl rfl ?_
  refine L_iconst X (v := (1 : Int32)) dL_comes_64 (by decide) ?_
  obtain ⟨q29, hq29, h⟩ := bd_some h
  refine L_cC X (B := wsB (gκ g) n β ω e0 tx Y) (Tl' := wsB (gκ g) n β ω e0 tx Y ++ (wsO (gκ g) q29.1)) rfl rfl (fun κ => gT_X6_run (r := q29) hq29) cal_X6_run wM_L_166 wI_X6_run wS_X6_run ⟨⟨(Nat.le_of_ble_eq_true rfl), (Nat.le_of_ble_eq_true rfl)⟩, by omega, by omega⟩ (As := [.int (1 : Int32)]) (rest := []) rfl rfl (Nat.le_of_ble_eq_true rfl) dL_comes_65 rfl ?_
  refine L_istore X (lv' := [(6, .int q29.2), (0, .ref (xE (gκ g) 8 0 0)), (1, .ref (β 0 0)), (2, .int a2), (3, .int a3), (5, .int a5)]) dL_comes_68 (by decide) rfl ?_
  obtain ⟨v30, ev30, h⟩ := nm_some h
  refine L_iinc X (v := v30) (lv' := [(3, .int v30), (6, .int q29.2), (0, .ref (xE (gκ g) 8 0 0)), (1, .ref (β 0 0)), (2, .int a2), (5, .int a5)]) 4 dL_comes_70 rfl (by rw [ev30]; rfl) (by decide) rfl ?_
  refine L_iload X 1 dL_comes_73 rfl ?_
  refine L_iconst X (v := (1 : Int32)) dL_comes_75 (by decide) ?_
  refine L_icmp_lt X (tgt := 102) dL_comes_76 (by decide) (fun c31 => ?_) (fun c31 => ?_)
  · have h := it_t c31 h
    refine L_iconst X (v := (0 : Int32)) dL_comes_102 (by decide) ?_
    refine L_widen (a' := 9) (b' := 144) (by omega) (by omega) ?_
    obtain rfl := Option.some.inj h
    exact hf _ _ _ _ dL_comes_103 (isb_n (by decide)) ⟨rfl, rfl⟩
  · have h := it_f c31 h
    refine L_aload_n X 2 dL_comes_79 rfl rfl ?_
    refine L_iload_n X 4 dL_comes_80 rfl rfl ?_
    refine L_bipush X (v := (11 : Int32)) dL_comes_81 (by decide) ?_
    obtain ⟨q32, hq32, h⟩ := bd_some h
    refine L_cC X (B := wsB (gκ g) n β ω e0 tx Y) (Tl' := wsB (gκ g) n β ω e0 tx Y ++ (wsO (gκ g) q29.1)) rfl rfl (fun κ => gT_X6_beacon (r := q32) hq32) cal_X6_beacon wM_L_117 wI_X6_beacon wS_X6_beacon ⟨⟨(Nat.le_of_ble_eq_true rfl), (Nat.le_of_ble_eq_true rfl)⟩, by omega, by omega⟩ (As := [.int a2, .int (11 : Int32)]) (rest := []) rfl rfl (Nat.le_of_ble_eq_true rfl) dL_comes_83 rfl ?_
    refine L_iload X 5 dL_comes_86 rfl ?_
    refine L_iconst X (v := (1 : Int32)) dL_comes_88 (by decide) ?_
    refine L_iadd X dL_comes_89 ?_
    refine L_icmp_ne X (tgt := 102) dL_comes_90 (by decide) (fun c33 => ?_) (fun c33 => ?_)
    · have h := it_t c33 h
      refine L_iconst X (v := (0 : Int32)) dL_comes_102 (by decide) ?_
      refine L_widen (a' := 9) (b' := 144) (by omega) (by omega) ?_
      obtain rfl := Option.some.inj h
      exact hf _ _ _ _ dL_comes_103 (isb_n (by decide)) ⟨rfl, rfl⟩
    · have h := it_f (fun k => k c33) h
      refine L_aload_n X 2 dL_comes_93 rfl rfl ?_
      refine L_iload_n X 4 dL_comes_94 rfl rfl ?_
      refine L_iconst X (v := (5 : Int32)) dL_comes_95 (by decide) ?_
      obtain ⟨q34, hq34, h⟩ := bd_some h
      refine L_cC X (B := wsB (gκ g) n β ω e0 tx Y) (Tl' := wsB (gκ g) n β ω e0 tx Y ++ (wsO (gκ g) q29.1)) rfl rfl (fun κ => gT_X6_beacon (r := q34) hq34) cal_X6_beacon wM_L_117 wI_X6_beacon wS_X6_beacon ⟨⟨(Nat.le_of_ble_eq_true rfl), (Nat.le_of_ble_eq_true rfl)⟩, by omega, by omega⟩ (As := [.int a2, .int (5 : Int32)]) (rest := []) rfl rfl (Nat.le_of_ble_eq_true rfl) dL_comes_96 rfl ?_
      refine L_if_eq X (tgt := 104) dL_comes_99 (by decide) (fun c35 => ?_) (fun c35 => ?_)
      · have h := it_t c35 h
        refine L_sub [2, 3, 4, 0] rfl ?_
        exact gL_comes_b104 X E hn hf FU _ _ _ _ (by omega) h
      · have h := it_f c35 h
        refine L_iconst X (v := (0 : Int32)) dL_comes_102 (by decide) ?_
        refine L_widen (a' := 9) (b' := 144) (by omega) (by omega) ?_
        obtain rfl := Option.some.inj h
        exact hf _ _ _ _ dL_comes_103 (isb_n (by decide)) ⟨rfl, rfl⟩
set_option maxRecDepth 20000 in
theorem cw_L_comes {l : Launch} {κ : KX} {ξ : XI} {n : Nat} {β : Nat → Nat → Nat} {ω : Nat → Nat} {e0 tx : Nat} {T : TT} {Y : St} {a2 : Int32} {res : TT × Int32} (hn : n < 9) (h : sL_comes n T Y 0 a2 = some res) : CtM l κ ξ yL_comes cL_comes 12 (some .boolean) 9 174 9 144 [.ref (xE κ 8 0 0), .ref (β 0 0), .int a2] (wsB κ n β ω e0 tx Y ++ (wsO κ T)) (fun rv T9 => rv = some (.int res.2) ∧ T9 = wsB κ n β ω e0 tx Y ++ wsO κ res.1) := by
  refine CtM_i RL rfl (by decide +kernel) (Nat.le_of_ble_eq_true rfl) (fun g hgl hgκ X E hf => ?_)
  subst hgl; subst hgκ
  unfold sL_comes at h
  refine L_iconst X (v := (0 : Int32)) dL_comes_0 (by decide) ?_
  refine L_istore_n X (lv' := [(3, .int (0 : Int32)), (0, .ref (xE (gκ g) 8 0 0)), (1, .ref (β 0 0)), (2, .int a2)]) dL_comes_1 rfl (by decide) rfl ?_
  refine L_aload_n X 1 dL_comes_2 rfl rfl ?_
  refine L_iload_n X 3 dL_comes_3 rfl rfl ?_
  obtain ⟨q1, hq1, h⟩ := bd_some h
  refine L_cC X (B := wsB (gκ g) n β ω e0 tx Y) (Tl' := wsB (gκ g) n β ω e0 tx Y ++ (wsO (gκ g) q1.1)) rfl rfl (fun κ => gT_X6_wellIn (r := q1) hq1) cal_X6_wellIn wM_L_201 wI_X6_wellIn wS_X6_wellIn ⟨⟨(Nat.le_of_ble_eq_true rfl), (Nat.le_of_ble_eq_true rfl)⟩, by omega, by omega⟩ (As := [.int a2]) (rest := []) rfl rfl (Nat.le_of_ble_eq_true rfl) dL_comes_4 rfl ?_
  refine L_istore X (lv' := [(4, .int q1.2), (3, .int (0 : Int32)), (0, .ref (xE (gκ g) 8 0 0)), (1, .ref (β 0 0)), (2, .int a2)]) dL_comes_7 (by decide) rfl ?_
  refine L_aload_n X 2 dL_comes_9 rfl rfl ?_
  refine L_iload_n X 4 dL_comes_10 rfl rfl ?_
  refine L_bipush X (v := (11 : Int32)) dL_comes_11 (by decide) ?_
  obtain ⟨q2, hq2, h⟩ := bd_some h
  refine L_cC X (B := wsB (gκ g) n β ω e0 tx Y) (Tl' := wsB (gκ g) n β ω e0 tx Y ++ (wsO (gκ g) q1.1)) rfl rfl (fun κ => gT_X6_beacon (r := q2) hq2) cal_X6_beacon wM_L_117 wI_X6_beacon wS_X6_beacon ⟨⟨(Nat.le_of_ble_eq_true rfl), (Nat.le_of_ble_eq_true rfl)⟩, by omega, by omega⟩ (As := [.int a2, .int (11 : Int32)]) (rest := []) rfl rfl (Nat.le_of_ble_eq_true rfl) dL_comes_13 rfl ?_
  refine L_istore X (lv' := [(5, .int q2), (4, .int q1.2), (3, .int (0 : Int32)), (0, .ref (xE (gκ g) 8 0 0)), (1, .ref (β 0 0)), (2, .int a2)]) dL_comes_16 (by decide) rfl ?_
  refine L_iload X 1 dL_comes_18 rfl ?_
  refine L_if_le X (tgt := 104) dL_comes_20 (by decide) (fun c3 => ?_) (fun c3 => ?_)
  · have h := it_t c3 h
    refine L_sub [3, 4, 5, 2] rfl ?_
    exact gL_comes_b104 X E hn hf FU _ _ _ _ (by omega) h
  · have h := it_f c3 h
    refine L_iload X 1 dL_comes_23 rfl ?_
    refine L_bipush X (v := (100 : Int32)) dL_comes_25 (by decide) ?_
    refine L_icmp_ge X (tgt := 104) dL_comes_27 (by decide) (fun c4 => ?_) (fun c4 => ?_)
    · have h := it_t c4 h
      refine L_sub [3, 4, 5, 2] rfl ?_
      exact gL_comes_b104 X E hn hf FU _ _ _ _ (by omega) h
    · have h := it_f c4 h
      refine L_iload X 1 dL_comes_30 rfl ?_
      refine L_iconst X (v := (1 : Int32)) dL_comes_32 (by decide) ?_
      refine L_icmp_le X (tgt := 63) dL_comes_33 (by decide) (fun c5 => ?_) (fun c5 => ?_)
      · have h := it_t c5 h
        refine L_sub [3, 4, 5, 2, 0] rfl ?_
        exact gL_comes_b63 X E hn hf _ _ _ _ _ (by omega) h
      · have h := it_f c5 h
        refine L_aload_n X 3 dL_comes_36 rfl rfl ?_
        refine L_iload X 1 dL_comes_37 rfl ?_
        refine L_iconst X (v := (1 : Int32)) dL_comes_39 (by decide) ?_
        refine L_isub X dL_comes_40 ?_
        obtain ⟨q6, hq6, h⟩ := bd_some h
        refine L_cC X (B := wsB (gκ g) n β ω e0 tx Y) (Tl' := wsB (gκ g) n β ω e0 tx Y ++ (wsO (gκ g) q6.1)) rfl rfl (fun κ => gT_X6_run (r := q6) hq6) cal_X6_run wM_L_166 wI_X6_run wS_X6_run ⟨⟨(Nat.le_of_ble_eq_true rfl), (Nat.le_of_ble_eq_true rfl)⟩, by omega, by omega⟩ (As := [.int (q1.2 - (1 : Int32))]) (rest := []) rfl rfl (Nat.le_of_ble_eq_true rfl) dL_comes_41 rfl ?_
        refine L_istore X (lv' := [(6, .int q6.2), (5, .int q2), (4, .int q1.2), (3, .int (0 : Int32)), (0, .ref (xE (gκ g) 8 0 0)), (1, .ref (β 0 0)), (2, .int a2)]) dL_comes_44 (by decide) rfl ?_
        obtain ⟨v7, ev7, h⟩ := nm_some h
        refine L_iinc X (v := v7) (lv' := [(3, .int v7), (6, .int q6.2), (5, .int q2), (4, .int q1.2), (0, .ref (xE (gκ g) 8 0 0)), (1, .ref (β 0 0)), (2, .int a2)]) 3 dL_comes_46 rfl (by rw [ev7]; rfl) (by decide) rfl ?_
        refine L_aload_n X 4 dL_comes_49 rfl rfl ?_
        refine L_iload_n X 6 dL_comes_50 rfl rfl ?_
        refine L_bipush X (v := (11 : Int32)) dL_comes_51 (by decide) ?_
        obtain ⟨q8, hq8, h⟩ := bd_some h
        refine L_cC X (B := wsB (gκ g) n β ω e0 tx Y) (Tl' := wsB (gκ g) n β ω e0 tx Y ++ (wsO (gκ g) q6.1)) rfl rfl (fun κ => gT_X6_beacon (r := q8) hq8) cal_X6_beacon wM_L_117 wI_X6_beacon wS_X6_beacon ⟨⟨(Nat.le_of_ble_eq_true rfl), (Nat.le_of_ble_eq_true rfl)⟩, by omega, by omega⟩ (As := [.int a2, .int (11 : Int32)]) (rest := []) rfl rfl (Nat.le_of_ble_eq_true rfl) dL_comes_53 rfl ?_
        refine L_iload X 2 dL_comes_56 rfl ?_
        refine L_icmp_eq X (tgt := 63) dL_comes_58 (by decide) (fun c9 => ?_) (fun c9 => ?_)
        · have h := it_t c9 h
          refine L_sub [4, 5, 6, 0, 2] rfl ?_
          exact gL_comes_b63 X E hn hf _ _ _ _ _ (by omega) h
        · have h := it_f c9 h
          refine L_iconst X (v := (0 : Int32)) dL_comes_61 (by decide) ?_
          refine L_widen (a' := 9) (b' := 144) (by omega) (by omega) ?_
          obtain rfl := Option.some.inj h
          exact hf _ _ _ _ dL_comes_62 (isb_n (by decide)) ⟨rfl, rfl⟩
