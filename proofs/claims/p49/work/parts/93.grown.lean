set_option maxRecDepth 20000 in
theorem gX8_grown_b516 {g : GX} {ξ : XI} {R : va_W} {Ln : Nat} {xs : Nat → Int32} {res : Nat × St × List Int32} {k504 : Nat → St → (List Int32) → Nat → Int32 → Int32 → Option (Nat × St × List Int32)} (X : CL g RX8 cX8_grown 6 6 171 1200 280000) (E : XE g ξ) (hξ : ξ.1.2 = (Ln, xs)) (hf : FinMa g cX8_grown (fun rv T9 => ∃ (β : Nat → Nat → Nat) (ω : Nat → Nat) (z z2 : Nat) (f2 : Nat → Int32), rv = some (.ref (β 0 0)) ∧ (∀ i, i < res.2.2.length → f2 i = res.2.2.getD i 0) ∧ T9 = wsB (gκ g) res.1 β ω ξ.2.1 z res.2.1 ++ (z, .inr (12, [.ref z2, .int 0, .int 0, .int 0])) :: (z2, .inl ((gκ g).2.1 2, res.2.2.length, .inl f2)) :: R) 1200 280000) (hk504 : ∀ (β' : Nat → Nat → Nat) (ω' : Nat → Nat) (v' : Nat) (cap' : Nat) (f' : Nat → Int32) (ml' : Int32) (q' : Nat) (n' : Nat) (Y' : St) (t' : List Int32) (u' : Nat) (a3' : Int32) (a4' : Int32) (hS' : SBt t' cap' f') (hn' : n' < 9) (hu' : u' ≤ 200), k504 n' Y' t' u' a3' a4' = some res → L g (6 * u') (1400 * u') (wsB (gκ g) n' β' ω' ξ.2.1 (kS g 0) Y' ++ (q', .inr (11, [.ref v', .int 0, .int ml', .int (nI t'.length)])) :: (v', .inl ((gκ g).2.1 2, cap', .inl f')) :: R) 504 [(0, .ref ξ.1.1), (1, .ref (β' 0 0)), (2, .ref q'), (3, .int a3'), (4, .int a4')] []) : ∀ (m : Nat) (β : Nat → Nat → Nat) (ω : Nat → Nat) (v : Nat) (cap : Nat) (f : Nat → Int32) (ml : Int32) (q : Nat) (n : Nat) (Y : St) (t : List Int32) (u : Nat) (a3 : Int32) (a4 : Int32) (a5 : Int32) (hS : SBt t cap f) (hn : n < 9) (hu : u ≤ 200) (h : sX8_grown_b516 m k504 Ln xs n Y t u a3 a4 a5 = some res), L g (6 * u) (1400 * u) (wsB (gκ g) n β ω ξ.2.1 (kS g 0) Y ++ (q, .inr (11, [.ref v, .int 0, .int ml, .int (nI t.length)])) :: (v, .inl ((gκ g).2.1 2, cap, .inl f)) :: R) 516 [(0, .ref ξ.1.1), (1, .ref (β 0 0)), (2, .ref q), (3, .int a3), (4, .int a4), (5, .int a5)] [] := by
  intro m
  induction m with
  | zero => intro β ω v cap f ml q n Y t u a3 a4 a5 hS hn hu h; unfold sX8_grown_b516 at h; cases h
  | succ m ih =>
    intro β ω v cap f ml q n Y t u a3 a4 a5 hS hn hu h
    unfold sX8_grown_b516 at h
    refine L_iload X 5 dX8_grown_516 rfl ?_
    refine L_iload_n X 3 dX8_grown_518 rfl rfl ?_
    refine L_icmp_ge X (tgt := 607) dX8_grown_519 (by decide) (fun c170 => ?_) (fun c170 => ?_)
    · have h := it_t c170 h
      obtain ⟨v171, ev171, h⟩ := nm_some h
      refine L_iinc X (v := v171) (lv' := [(4, .int v171), (0, .ref ξ.1.1), (1, .ref (β 0 0)), (2, .ref q), (3, .int a3), (5, .int a5)]) 4 dX8_grown_607 rfl (by rw [ev171]; rfl) (by decide) rfl ?_
      refine L_goto X (tgt := 504) dX8_grown_610 (by decide) ?_
      refine L_sub [1, 2, 3, 4, 0] rfl ?_
      exact hk504 _ _ _ _ _ _ _ n Y t u a3 v171 hS (by omega) (by omega) h
    · have h := it_f c170 h
      refine L_aload_n X 0 dX8_grown_522 rfl rfl ?_
      refine L_bipush X (v := (120 : Int32)) dX8_grown_523 (by decide) ?_
      refine L_bipush X (v := (8 : Int32)) dX8_grown_525 (by decide) ?_
      refine L_iload X 4 dX8_grown_527 rfl ?_
      refine L_imul X dX8_grown_529 ?_
      refine L_iadd X dX8_grown_530 ?_
      refine L_iload X 5 dX8_grown_531 rfl ?_
      refine L_iadd X dX8_grown_533 ?_
      refine L_iconst X (v := (3 : Int32)) dX8_grown_534 (by decide) ?_
      obtain ⟨q172, hq172, h⟩ := bd_some h
      refine L_cSN X E (As := [.ref ξ.1.1, .int (((120 : Int32) + ((8 : Int32) * a4)) + a5), .int (3 : Int32)]) (rest := []) (cw_L_pick hξ hq172) cal_L_pick nM_X8_49 wT_L_pick ⟨⟨(Nat.le_of_ble_eq_true rfl), (Nat.le_of_ble_eq_true rfl)⟩, by omega, by omega⟩ rfl rfl (Nat.le_of_ble_eq_true rfl) dX8_grown_535 (fun rv T9 hT9 => ?_)
      obtain ⟨rfl, hT9⟩ := hT9
      rw [hT9]
      refine L_if_ne X (tgt := 544) dX8_grown_538 (by decide) (fun c173 => ?_) (fun c173 => ?_)
      · have h := it_t c173 h
        refine L_aload_n X 1 dX8_grown_544 rfl rfl ?_
        refine B_get X hn (N := 12) (k := 8) (c := 8) (o := 0) (j := 0) rfl rfl rfl iX8 rfl (by decide) rfl wF_X8_25 rfl dX8_grown_545 ?_
        refine L_iload X 4 dX8_grown_548 rfl ?_
        obtain ⟨g174, h⟩ := gd_some h
        refine B_row X hn g174 dX8_grown_550 ?_
        refine L_iload X 5 dX8_grown_551 rfl ?_
        refine L_iconst X (v := (1 : Int32)) dX8_grown_553 (by decide) ?_
        obtain ⟨g175, h⟩ := gd_some h
        obtain ⟨z176, ez176, h⟩ := nm_some h
        refine B_zast X hn (kb_r (ix_lt g174)) rfl g175 (by decide) ez176.symm dX8_grown_554 ?_
        refine L_aload_n X 1 dX8_grown_555 rfl rfl ?_
        refine B_get X hn (N := 12) (k := 8) (c := 8) (o := 0) (j := 0) rfl rfl rfl iX8 rfl (by decide) rfl wF_X8_25 rfl dX8_grown_556 ?_
        refine L_iload X 5 dX8_grown_559 rfl ?_
        obtain ⟨g177, h⟩ := gd_some h
        refine B_row X hn g177 dX8_grown_561 ?_
        refine L_iload X 4 dX8_grown_562 rfl ?_
        refine L_iconst X (v := (1 : Int32)) dX8_grown_564 (by decide) ?_
        obtain ⟨g178, h⟩ := gd_some h
        obtain ⟨z179, ez179, h⟩ := nm_some h
        refine B_zast X hn (kb_r (ix_lt g177)) rfl g178 (by decide) ez179.symm dX8_grown_565 ?_
        refine L_aload_n X 2 dX8_grown_566 rfl rfl ?_
        refine L_ldcS X (i := 24) (List.mem_of_getElem? (i := 25) rfl) dX8_grown_567 ?_
        obtain ⟨g180, h⟩ := gd_some h
        have g180 := of_decide_eq_true g180
        obtain ⟨g181, h⟩ := gd_some h
        have g181 := of_decide_eq_true g181
        obtain ⟨t182, et182, h⟩ := nm_some h
        refine S_str X E (i := 24) hS (by decide) (by omega) wM_X8_66 ⟨⟨(Nat.le_of_ble_eq_true rfl), (Nat.le_of_ble_eq_true rfl)⟩, by omega, by omega⟩ (Nat.le_of_ble_eq_true rfl) dX8_grown_569 (fun v183 cap183 f183 hS183 => ?_)
        rw [← et182] at hS183 ⊢
        refine L_widen (a' := 6 * (u + 1)) (b' := 1400 * (u + 1)) (by omega) (by omega) ?_
        refine L_bipush X (v := (97 : Int32)) dX8_grown_572 (by decide) ?_
        refine L_iload X 5 dX8_grown_574 rfl ?_
        refine L_iadd X dX8_grown_576 ?_
        obtain ⟨v184, ev184, h⟩ := nm_some h
        refine L_i2c X dX8_grown_577 ev184.symm ?_
        obtain ⟨g185, h⟩ := gd_some h
        obtain ⟨g186, h⟩ := gd_some h
        have g186 := of_decide_eq_true g186
        obtain ⟨g187, h⟩ := gd_some h
        have g187 := of_decide_eq_true g187
        obtain ⟨t188, et188, h⟩ := nm_some h
        refine S_chr X E hS183 g185 (by omega) wM_X8_70 ⟨⟨(Nat.le_of_ble_eq_true rfl), (Nat.le_of_ble_eq_true rfl)⟩, by omega, by omega⟩ (Nat.le_of_ble_eq_true rfl) dX8_grown_578 (fun v189 cap189 f189 hS189 => ?_)
        rw [← et188] at hS189 ⊢
        refine L_widen (a' := 6 * (u + 1 + 1)) (b' := 1400 * (u + 1 + 1)) (by omega) (by omega) ?_
        refine L_ldcS X (i := 19) (List.mem_of_getElem? (i := 20) rfl) dX8_grown_581 ?_
        obtain ⟨g190, h⟩ := gd_some h
        have g190 := of_decide_eq_true g190
        obtain ⟨g191, h⟩ := gd_some h
        have g191 := of_decide_eq_true g191
        obtain ⟨t192, et192, h⟩ := nm_some h
        refine S_str X E (i := 19) hS189 (by decide) (by omega) wM_X8_66 ⟨⟨(Nat.le_of_ble_eq_true rfl), (Nat.le_of_ble_eq_true rfl)⟩, by omega, by omega⟩ (Nat.le_of_ble_eq_true rfl) dX8_grown_583 (fun v193 cap193 f193 hS193 => ?_)
        rw [← et192] at hS193 ⊢
        refine L_widen (a' := 6 * (u + 1 + 1 + 1)) (b' := 1400 * (u + 1 + 1 + 1)) (by omega) (by omega) ?_
        refine L_bipush X (v := (97 : Int32)) dX8_grown_586 (by decide) ?_
        refine L_iload X 4 dX8_grown_588 rfl ?_
        refine L_iadd X dX8_grown_590 ?_
        obtain ⟨v194, ev194, h⟩ := nm_some h
        refine L_i2c X dX8_grown_591 ev194.symm ?_
        obtain ⟨g195, h⟩ := gd_some h
        obtain ⟨g196, h⟩ := gd_some h
        have g196 := of_decide_eq_true g196
        obtain ⟨g197, h⟩ := gd_some h
        have g197 := of_decide_eq_true g197
        obtain ⟨t198, et198, h⟩ := nm_some h
        refine S_chr X E hS193 g195 (by omega) wM_X8_70 ⟨⟨(Nat.le_of_ble_eq_true rfl), (Nat.le_of_ble_eq_true rfl)⟩, by omega, by omega⟩ (Nat.le_of_ble_eq_true rfl) dX8_grown_592 (fun v199 cap199 f199 hS199 => ?_)
        rw [← et198] at hS199 ⊢
        refine L_widen (a' := 6 * (u + 1 + 1 + 1 + 1)) (b' := 1400 * (u + 1 + 1 + 1 + 1)) (by omega) (by omega) ?_
        refine L_ldcS X (i := 12) (List.mem_of_getElem? (i := 18) rfl) dX8_grown_595 ?_
        obtain ⟨g200, h⟩ := gd_some h
        have g200 := of_decide_eq_true g200
        obtain ⟨g201, h⟩ := gd_some h
        have g201 := of_decide_eq_true g201
        obtain ⟨t202, et202, h⟩ := nm_some h
        refine S_str X E (i := 12) hS199 (by decide) (by omega) wM_X8_66 ⟨⟨(Nat.le_of_ble_eq_true rfl), (Nat.le_of_ble_eq_true rfl)⟩, by omega, by omega⟩ (Nat.le_of_ble_eq_true rfl) dX8_grown_597 (fun v203 cap203 f203 hS203 => ?_)
        rw [← et202] at hS203 ⊢
        refine L_widen (a' := 6 * (u + 1 + 1 + 1 + 1 + 1)) (b' := 1400 * (u + 1 + 1 + 1 + 1 + 1)) (by omega) (by omega) ?_
        refine L_pop X dX8_grown_600 rfl ?_
        obtain ⟨v204, ev204, h⟩ := nm_some h
        refine L_iinc X (v := v204) (lv' := [(5, .int v204), (0, .ref ξ.1.1), (1, .ref (β 0 0)), (2, .ref q), (3, .int a3), (4, .int a4)]) 5 dX8_grown_601 rfl (by rw [ev204]; rfl) (by decide) rfl ?_
        refine L_goto X (tgt := 516) dX8_grown_604 (by decide) ?_
        refine L_sub [1, 2, 3, 4, 5, 0] rfl ?_
        exact ih _ _ _ _ _ _ _ n z179 t202 (u + 1 + 1 + 1 + 1 + 1) a3 a4 v204 hS203 (by omega) (by omega) h
      · have h := it_f (fun k => k c173) h
        refine L_goto X (tgt := 601) dX8_grown_541 (by decide) ?_
        obtain ⟨v205, ev205, h⟩ := nm_some h
        refine L_iinc X (v := v205) (lv' := [(5, .int v205), (0, .ref ξ.1.1), (1, .ref (β 0 0)), (2, .ref q), (3, .int a3), (4, .int a4)]) 5 dX8_grown_601 rfl (by rw [ev205]; rfl) (by decide) rfl ?_
        refine L_goto X (tgt := 516) dX8_grown_604 (by decide) ?_
        refine L_sub [1, 2, 3, 4, 5, 0] rfl ?_
        exact ih _ _ _ _ _ _ _ n Y t u a3 a4 v205 hS (by omega) (by omega) h
set_option maxRecDepth 20000 in
theorem gX8_grown_b504 {g : GX} {ξ : XI} {R : va_W} {Ln : Nat} {xs : Nat → Int32} {res : Nat × St × List Int32}  (X : CL g RX8 cX8_grown 6 6 171 1200 280000) (E : XE g ξ) (hξ : ξ.1.2 = (Ln, xs)) (hf : FinMa g cX8_grown (fun rv T9 => ∃ (β : Nat → Nat → Nat) (ω : Nat → Nat) (z z2 : Nat) (f2 : Nat → Int32), rv = some (.ref (β 0 0)) ∧ (∀ i, i < res.2.2.length → f2 i = res.2.2.getD i 0) ∧ T9 = wsB (gκ g) res.1 β ω ξ.2.1 z res.2.1 ++ (z, .inr (12, [.ref z2, .int 0, .int 0, .int 0])) :: (z2, .inl ((gκ g).2.1 2, res.2.2.length, .inl f2)) :: R) 1200 280000)  : ∀ (m : Nat) (β : Nat → Nat → Nat) (ω : Nat → Nat) (v : Nat) (cap : Nat) (f : Nat → Int32) (ml : Int32) (q : Nat) (n : Nat) (Y : St) (t : List Int32) (u : Nat) (a3 : Int32) (a4 : Int32) (hS : SBt t cap f) (hn : n < 9) (hu : u ≤ 200) (h : sX8_grown_b504 m Ln xs n Y t u a3 a4 = some res), L g (6 * u) (1400 * u) (wsB (gκ g) n β ω ξ.2.1 (kS g 0) Y ++ (q, .inr (11, [.ref v, .int 0, .int ml, .int (nI t.length)])) :: (v, .inl ((gκ g).2.1 2, cap, .inl f)) :: R) 504 [(0, .ref ξ.1.1), (1, .ref (β 0 0)), (2, .ref q), (3, .int a3), (4, .int a4)] [] := by
  intro m
  induction m with
  | zero => intro β ω v cap f ml q n Y t u a3 a4 hS hn hu h; unfold sX8_grown_b504 at h; cases h
  | succ m ih =>
    intro β ω v cap f ml q n Y t u a3 a4 hS hn hu h
    unfold sX8_grown_b504 at h
    refine L_iload X 4 dX8_grown_504 rfl ?_
    refine L_iload_n X 3 dX8_grown_506 rfl rfl ?_
    refine L_icmp_ge X (tgt := 613) dX8_grown_507 (by decide) (fun c160 => ?_) (fun c160 => ?_)
    · have h := it_t c160 h
      refine L_aload_n X 1 dX8_grown_613 rfl rfl ?_
      refine L_aload_n X 2 dX8_grown_614 rfl rfl ?_
      obtain ⟨g161, h⟩ := gd_some h
      have g161 := of_decide_eq_true g161
      refine S_toS X E hS wM_X8_117 ⟨⟨(Nat.le_of_ble_eq_true rfl), (Nat.le_of_ble_eq_true rfl)⟩, by omega, by omega⟩ (Nat.le_of_ble_eq_true rfl) dX8_grown_615 (fun z z2 f2 hf2 => ?_)
      refine L_widen (a' := 6 * (u + 1)) (b' := 1400 * (u + 1)) (by omega) (by omega) ?_
      refine B_puttx X hn wF_X8_41 dX8_grown_618 ?_
      refine L_aload_n X 1 dX8_grown_621 rfl rfl ?_
      refine L_widen (a' := 1200) (b' := 280000) (by omega) (by omega) ?_
      obtain rfl := Option.some.inj h
      exact hf _ _ _ _ dX8_grown_622 ⟨_, _, _, _, _, rfl, hf2, rfl⟩
    · have h := it_f c160 h
      refine L_iload X 4 dX8_grown_510 rfl ?_
      refine L_iconst X (v := (1 : Int32)) dX8_grown_512 (by decide) ?_
      refine L_iadd X dX8_grown_513 ?_
      refine L_istore X (lv' := [(5, .int (a4 + (1 : Int32))), (0, .ref ξ.1.1), (1, .ref (β 0 0)), (2, .ref q), (3, .int a3), (4, .int a4)]) dX8_grown_514 (by decide) rfl ?_
      refine L_sub [1, 2, 3, 4, 5, 0] rfl ?_
      exact gX8_grown_b516 X E hξ hf (fun y0 y1 y2 y3 y4 y5 y6 y7 y8 y9 y10 y11 y12 y13 y14 y15 h => ih y0 y1 y2 y3 y4 y5 y6 y7 y8 y9 y10 y11 y12 y13 y14 y15 h) FU _ _ _ _ _ _ _ n Y t u a3 a4 (a4 + (1 : Int32)) hS (by omega) (by omega) h
set_option maxRecDepth 20000 in
theorem gX8_grown_b458 {g : GX} {ξ : XI} {R : va_W} {Ln : Nat} {xs : Nat → Int32} {res : Nat × St × List Int32}  (X : CL g RX8 cX8_grown 6 6 171 1200 280000) (E : XE g ξ) (hξ : ξ.1.2 = (Ln, xs)) (hf : FinMa g cX8_grown (fun rv T9 => ∃ (β : Nat → Nat → Nat) (ω : Nat → Nat) (z z2 : Nat) (f2 : Nat → Int32), rv = some (.ref (β 0 0)) ∧ (∀ i, i < res.2.2.length → f2 i = res.2.2.getD i 0) ∧ T9 = wsB (gκ g) res.1 β ω ξ.2.1 z res.2.1 ++ (z, .inr (12, [.ref z2, .int 0, .int 0, .int 0])) :: (z2, .inl ((gκ g).2.1 2, res.2.2.length, .inl f2)) :: R) 1200 280000)  (β : Nat → Nat → Nat) (ω : Nat → Nat) (v : Nat) (cap : Nat) (f : Nat → Int32) (ml : Int32) (q : Nat) (n : Nat) (Y : St) (t : List Int32) (u : Nat) (a3 : Int32) (hS : SBt t cap f) (hn : n < 9) (hu : u ≤ 200) (h : sX8_grown_b458 Ln xs n Y t u a3 = some res) : L g (6 * u) (1400 * u) (wsB (gκ g) n β ω ξ.2.1 (kS g 0) Y ++ (q, .inr (11, [.ref v, .int 0, .int ml, .int (nI t.length)])) :: (v, .inl ((gκ g).2.1 2, cap, .inl f)) :: R) 458 [(0, .ref ξ.1.1), (1, .ref (β 0 0)), (2, .ref q), (3, .int a3)] [] := by
  unfold sX8_grown_b458 at h
  refine L_aload_n X 0 dX8_grown_458 rfl rfl ?_
  refine L_bipush X (v := (7 : Int32)) dX8_grown_459 (by decide) ?_
  refine L_iconst X (v := (2 : Int32)) dX8_grown_461 (by decide) ?_
  obtain ⟨q130, hq130, h⟩ := bd_some h
  refine L_cSN X E (As := [.ref ξ.1.1, .int (7 : Int32), .int (2 : Int32)]) (rest := []) (cw_L_pick hξ hq130) cal_L_pick nM_X8_49 wT_L_pick ⟨⟨(Nat.le_of_ble_eq_true rfl), (Nat.le_of_ble_eq_true rfl)⟩, by omega, by omega⟩ rfl rfl (Nat.le_of_ble_eq_true rfl) dX8_grown_462 (fun rv T9 hT9 => ?_)
  obtain ⟨rfl, hT9⟩ := hT9
  rw [hT9]
  refine L_if_ne X (tgt := 501) dX8_grown_465 (by decide) (fun c131 => ?_) (fun c131 => ?_)
  · have h := it_t c131 h
    refine L_iconst X (v := (0 : Int32)) dX8_grown_501 (by decide) ?_
    refine L_istore X (lv' := [(4, .int (0 : Int32)), (0, .ref ξ.1.1), (1, .ref (β 0 0)), (2, .ref q), (3, .int a3)]) dX8_grown_502 (by decide) rfl ?_
    refine L_sub [1, 2, 3, 4, 0] rfl ?_
    exact gX8_grown_b504 X E hξ hf FU _ _ _ _ _ _ _ n Y t u a3 (0 : Int32) hS (by omega) (by omega) h
  · have h := it_f (fun k => k c131) h
    refine L_aload_n X 1 dX8_grown_468 rfl rfl ?_
    refine L_iconst X (v := (1 : Int32)) dX8_grown_469 (by decide) ?_
    refine L_aload_n X 0 dX8_grown_470 rfl rfl ?_
    refine L_bipush X (v := (8 : Int32)) dX8_grown_471 (by decide) ?_
    refine L_bipush X (v := (60 : Int32)) dX8_grown_473 (by decide) ?_
    obtain ⟨q132, hq132, h⟩ := bd_some h
    refine L_cSN X E (As := [.ref ξ.1.1, .int (8 : Int32), .int (60 : Int32)]) (rest := [.int (1 : Int32), .ref (β 0 0)]) (cw_L_pick hξ hq132) cal_L_pick nM_X8_49 wT_L_pick ⟨⟨(Nat.le_of_ble_eq_true rfl), (Nat.le_of_ble_eq_true rfl)⟩, by omega, by omega⟩ rfl rfl (Nat.le_of_ble_eq_true rfl) dX8_grown_475 (fun rv T9 hT9 => ?_)
    obtain ⟨rfl, hT9⟩ := hT9
    rw [hT9]
    refine L_iadd X dX8_grown_478 ?_
    obtain ⟨z133, ez133, h⟩ := nm_some h
    refine B_put X hn (N := 12) (k := 3) (c := 8) (o := 0) rfl rfl rfl iX8 tyX8_ok nmX8 rfl (by decide) (Or.inl ⟨rfl, by decide⟩) rfl rfl (tyX8_ok _ (by decide)) wF_X8_16 rfl rfl ez133.symm dX8_grown_479 ?_
    refine L_aload_n X 2 dX8_grown_482 rfl rfl ?_
    refine L_ldcS X (i := 23) (List.mem_of_getElem? (i := 24) rfl) dX8_grown_483 ?_
    obtain ⟨g134, h⟩ := gd_some h
    have g134 := of_decide_eq_true g134
    obtain ⟨g135, h⟩ := gd_some h
    have g135 := of_decide_eq_true g135
    obtain ⟨t136, et136, h⟩ := nm_some h
    refine S_str X E (i := 23) hS (by decide) (by omega) wM_X8_66 ⟨⟨(Nat.le_of_ble_eq_true rfl), (Nat.le_of_ble_eq_true rfl)⟩, by omega, by omega⟩ (Nat.le_of_ble_eq_true rfl) dX8_grown_485 (fun v137 cap137 f137 hS137 => ?_)
    rw [← et136] at hS137 ⊢
    refine L_widen (a' := 6 * (u + 1)) (b' := 1400 * (u + 1)) (by omega) (by omega) ?_
    refine L_aload_n X 1 dX8_grown_488 rfl rfl ?_
    refine B_get X hn (N := 12) (k := 3) (c := 8) (o := 0) (j := 0) rfl rfl rfl iX8 rfl (by decide) rfl wF_X8_16 rfl dX8_grown_489 ?_
    obtain ⟨g138, h⟩ := gd_some h
    obtain ⟨g139, h⟩ := gd_some h
    have g139 := of_decide_eq_true g139
    obtain ⟨g140, h⟩ := gd_some h
    have g140 := of_decide_eq_true g140
    obtain ⟨t141, et141, h⟩ := nm_some h
    refine S_int X E hS137 g138 (by omega) wM_X8_75 ⟨⟨(Nat.le_of_ble_eq_true rfl), (Nat.le_of_ble_eq_true rfl)⟩, by omega, by omega⟩ (Nat.le_of_ble_eq_true rfl) dX8_grown_492 (fun v142 cap142 f142 hS142 => ?_)
    rw [← et141] at hS142 ⊢
    refine L_widen (a' := 6 * (u + 1 + 1)) (b' := 1400 * (u + 1 + 1)) (by omega) (by omega) ?_
    refine L_ldcS X (i := 12) (List.mem_of_getElem? (i := 18) rfl) dX8_grown_495 ?_
    obtain ⟨g143, h⟩ := gd_some h
    have g143 := of_decide_eq_true g143
    obtain ⟨g144, h⟩ := gd_some h
    have g144 := of_decide_eq_true g144
    obtain ⟨t145, et145, h⟩ := nm_some h
    refine S_str X E (i := 12) hS142 (by decide) (by omega) wM_X8_66 ⟨⟨(Nat.le_of_ble_eq_true rfl), (Nat.le_of_ble_eq_true rfl)⟩, by omega, by omega⟩ (Nat.le_of_ble_eq_true rfl) dX8_grown_497 (fun v146 cap146 f146 hS146 => ?_)
    rw [← et145] at hS146 ⊢
    refine L_widen (a' := 6 * (u + 1 + 1 + 1)) (b' := 1400 * (u + 1 + 1 + 1)) (by omega) (by omega) ?_
    refine L_pop X dX8_grown_500 rfl ?_
    refine L_iconst X (v := (0 : Int32)) dX8_grown_501 (by decide) ?_
    refine L_istore X (lv' := [(4, .int (0 : Int32)), (0, .ref ξ.1.1), (1, .ref (β 0 0)), (2, .ref q), (3, .int a3)]) dX8_grown_502 (by decide) rfl ?_
    refine L_sub [1, 2, 3, 4, 0] rfl ?_
    exact gX8_grown_b504 X E hξ hf FU _ _ _ _ _ _ _ n z133 t145 (u + 1 + 1 + 1) a3 (0 : Int32) hS146 (by omega) (by omega) h
set_option maxRecDepth 20000 in
theorem gX8_grown_b417 {g : GX} {ξ : XI} {R : va_W} {Ln : Nat} {xs : Nat → Int32} {res : Nat × St × List Int32}  (X : CL g RX8 cX8_grown 6 6 171 1200 280000) (E : XE g ξ) (hξ : ξ.1.2 = (Ln, xs)) (hf : FinMa g cX8_grown (fun rv T9 => ∃ (β : Nat → Nat → Nat) (ω : Nat → Nat) (z z2 : Nat) (f2 : Nat → Int32), rv = some (.ref (β 0 0)) ∧ (∀ i, i < res.2.2.length → f2 i = res.2.2.getD i 0) ∧ T9 = wsB (gκ g) res.1 β ω ξ.2.1 z res.2.1 ++ (z, .inr (12, [.ref z2, .int 0, .int 0, .int 0])) :: (z2, .inl ((gκ g).2.1 2, res.2.2.length, .inl f2)) :: R) 1200 280000)  (β : Nat → Nat → Nat) (ω : Nat → Nat) (v : Nat) (cap : Nat) (f : Nat → Int32) (ml : Int32) (q : Nat) (n : Nat) (Y : St) (t : List Int32) (u : Nat) (a3 : Int32) (hS : SBt t cap f) (hn : n < 9) (hu : u ≤ 200) (h : sX8_grown_b417 Ln xs n Y t u a3 = some res) : L g (6 * u) (1400 * u) (wsB (gκ g) n β ω ξ.2.1 (kS g 0) Y ++ (q, .inr (11, [.ref v, .int 0, .int ml, .int (nI t.length)])) :: (v, .inl ((gκ g).2.1 2, cap, .inl f)) :: R) 417 [(0, .ref ξ.1.1), (1, .ref (β 0 0)), (2, .ref q), (3, .int a3)] [] := by
  unfold sX8_grown_b417 at h
  refine L_aload_n X 0 dX8_grown_417 rfl rfl ?_
  refine L_iconst X (v := (5 : Int32)) dX8_grown_418 (by decide) ?_
  refine L_iconst X (v := (2 : Int32)) dX8_grown_419 (by decide) ?_
  obtain ⟨q100, hq100, h⟩ := bd_some h
  refine L_cSN X E (As := [.ref ξ.1.1, .int (5 : Int32), .int (2 : Int32)]) (rest := []) (cw_L_pick hξ hq100) cal_L_pick nM_X8_49 wT_L_pick ⟨⟨(Nat.le_of_ble_eq_true rfl), (Nat.le_of_ble_eq_true rfl)⟩, by omega, by omega⟩ rfl rfl (Nat.le_of_ble_eq_true rfl) dX8_grown_420 (fun rv T9 hT9 => ?_)
  obtain ⟨rfl, hT9⟩ := hT9
  rw [hT9]
  refine L_if_ne X (tgt := 458) dX8_grown_423 (by decide) (fun c101 => ?_) (fun c101 => ?_)
  · have h := it_t c101 h
    exact gX8_grown_b458 X E hξ hf _ _ _ _ _ _ _ n Y t u a3 hS (by omega) (by omega) h
  · have h := it_f (fun k => k c101) h
    refine L_aload_n X 1 dX8_grown_426 rfl rfl ?_
    refine L_iconst X (v := (1 : Int32)) dX8_grown_427 (by decide) ?_
    refine L_aload_n X 0 dX8_grown_428 rfl rfl ?_
    refine L_bipush X (v := (6 : Int32)) dX8_grown_429 (by decide) ?_
    refine L_iconst X (v := (4 : Int32)) dX8_grown_431 (by decide) ?_
    obtain ⟨q102, hq102, h⟩ := bd_some h
    refine L_cSN X E (As := [.ref ξ.1.1, .int (6 : Int32), .int (4 : Int32)]) (rest := [.int (1 : Int32), .ref (β 0 0)]) (cw_L_pick hξ hq102) cal_L_pick nM_X8_49 wT_L_pick ⟨⟨(Nat.le_of_ble_eq_true rfl), (Nat.le_of_ble_eq_true rfl)⟩, by omega, by omega⟩ rfl rfl (Nat.le_of_ble_eq_true rfl) dX8_grown_432 (fun rv T9 hT9 => ?_)
    obtain ⟨rfl, hT9⟩ := hT9
    rw [hT9]
    refine L_iadd X dX8_grown_435 ?_
    obtain ⟨z103, ez103, h⟩ := nm_some h
    refine B_put X hn (N := 12) (k := 2) (c := 8) (o := 0) rfl rfl rfl iX8 tyX8_ok nmX8 rfl (by decide) (Or.inl ⟨rfl, by decide⟩) rfl rfl (tyX8_ok _ (by decide)) wF_X8_13 rfl rfl ez103.symm dX8_grown_436 ?_
    refine L_aload_n X 2 dX8_grown_439 rfl rfl ?_
    refine L_ldcS X (i := 22) (List.mem_of_getElem? (i := 23) rfl) dX8_grown_440 ?_
    obtain ⟨g104, h⟩ := gd_some h
    have g104 := of_decide_eq_true g104
    obtain ⟨g105, h⟩ := gd_some h
    have g105 := of_decide_eq_true g105
    obtain ⟨t106, et106, h⟩ := nm_some h
    refine S_str X E (i := 22) hS (by decide) (by omega) wM_X8_66 ⟨⟨(Nat.le_of_ble_eq_true rfl), (Nat.le_of_ble_eq_true rfl)⟩, by omega, by omega⟩ (Nat.le_of_ble_eq_true rfl) dX8_grown_442 (fun v107 cap107 f107 hS107 => ?_)
    rw [← et106] at hS107 ⊢
    refine L_widen (a' := 6 * (u + 1)) (b' := 1400 * (u + 1)) (by omega) (by omega) ?_
    refine L_aload_n X 1 dX8_grown_445 rfl rfl ?_
    refine B_get X hn (N := 12) (k := 2) (c := 8) (o := 0) (j := 0) rfl rfl rfl iX8 rfl (by decide) rfl wF_X8_13 rfl dX8_grown_446 ?_
    obtain ⟨g108, h⟩ := gd_some h
    obtain ⟨g109, h⟩ := gd_some h
    have g109 := of_decide_eq_true g109
    obtain ⟨g110, h⟩ := gd_some h
    have g110 := of_decide_eq_true g110
    obtain ⟨t111, et111, h⟩ := nm_some h
    refine S_int X E hS107 g108 (by omega) wM_X8_75 ⟨⟨(Nat.le_of_ble_eq_true rfl), (Nat.le_of_ble_eq_true rfl)⟩, by omega, by omega⟩ (Nat.le_of_ble_eq_true rfl) dX8_grown_449 (fun v112 cap112 f112 hS112 => ?_)
    rw [← et111] at hS112 ⊢
    refine L_widen (a' := 6 * (u + 1 + 1)) (b' := 1400 * (u + 1 + 1)) (by omega) (by omega) ?_
    refine L_ldcS X (i := 12) (List.mem_of_getElem? (i := 18) rfl) dX8_grown_452 ?_
    obtain ⟨g113, h⟩ := gd_some h
    have g113 := of_decide_eq_true g113
    obtain ⟨g114, h⟩ := gd_some h
    have g114 := of_decide_eq_true g114
    obtain ⟨t115, et115, h⟩ := nm_some h
    refine S_str X E (i := 12) hS112 (by decide) (by omega) wM_X8_66 ⟨⟨(Nat.le_of_ble_eq_true rfl), (Nat.le_of_ble_eq_true rfl)⟩, by omega, by omega⟩ (Nat.le_of_ble_eq_true rfl) dX8_grown_454 (fun v116 cap116 f116 hS116 => ?_)
    rw [← et115] at hS116 ⊢
    refine L_widen (a' := 6 * (u + 1 + 1 + 1)) (b' := 1400 * (u + 1 + 1 + 1)) (by omega) (by omega) ?_
    refine L_pop X dX8_grown_457 rfl ?_
    exact gX8_grown_b458 X E hξ hf _ _ _ _ _ _ _ n z103 t115 (u + 1 + 1 + 1) a3 hS116 (by omega) (by omega) h
set_option maxRecDepth 20000 in
theorem gX8_grown_b377 {g : GX} {ξ : XI} {R : va_W} {Ln : Nat} {xs : Nat → Int32} {res : Nat × St × List Int32}  (X : CL g RX8 cX8_grown 6 6 171 1200 280000) (E : XE g ξ) (hξ : ξ.1.2 = (Ln, xs)) (hf : FinMa g cX8_grown (fun rv T9 => ∃ (β : Nat → Nat → Nat) (ω : Nat → Nat) (z z2 : Nat) (f2 : Nat → Int32), rv = some (.ref (β 0 0)) ∧ (∀ i, i < res.2.2.length → f2 i = res.2.2.getD i 0) ∧ T9 = wsB (gκ g) res.1 β ω ξ.2.1 z res.2.1 ++ (z, .inr (12, [.ref z2, .int 0, .int 0, .int 0])) :: (z2, .inl ((gκ g).2.1 2, res.2.2.length, .inl f2)) :: R) 1200 280000)  (β : Nat → Nat → Nat) (ω : Nat → Nat) (v : Nat) (cap : Nat) (f : Nat → Int32) (ml : Int32) (q : Nat) (n : Nat) (Y : St) (t : List Int32) (u : Nat) (a3 : Int32) (hS : SBt t cap f) (hn : n < 9) (hu : u ≤ 200) (h : sX8_grown_b377 Ln xs n Y t u a3 = some res) : L g (6 * u) (1400 * u) (wsB (gκ g) n β ω ξ.2.1 (kS g 0) Y ++ (q, .inr (11, [.ref v, .int 0, .int ml, .int (nI t.length)])) :: (v, .inl ((gκ g).2.1 2, cap, .inl f)) :: R) 377 [(0, .ref ξ.1.1), (1, .ref (β 0 0)), (2, .ref q), (3, .int a3)] [] := by
  unfold sX8_grown_b377 at h
  refine L_aload_n X 0 dX8_grown_377 rfl rfl ?_
  refine L_iconst X (v := (3 : Int32)) dX8_grown_378 (by decide) ?_
  refine L_iconst X (v := (2 : Int32)) dX8_grown_379 (by decide) ?_
  obtain ⟨q51, hq51, h⟩ := bd_some h
  refine L_cSN X E (As := [.ref ξ.1.1, .int (3 : Int32), .int (2 : Int32)]) (rest := []) (cw_L_pick hξ hq51) cal_L_pick nM_X8_49 wT_L_pick ⟨⟨(Nat.le_of_ble_eq_true rfl), (Nat.le_of_ble_eq_true rfl)⟩, by omega, by omega⟩ rfl rfl (Nat.le_of_ble_eq_true rfl) dX8_grown_380 (fun rv T9 hT9 => ?_)
  obtain ⟨rfl, hT9⟩ := hT9
  rw [hT9]
  refine L_if_ne X (tgt := 417) dX8_grown_383 (by decide) (fun c52 => ?_) (fun c52 => ?_)
  · have h := it_t c52 h
    exact gX8_grown_b417 X E hξ hf _ _ _ _ _ _ _ n Y t u a3 hS (by omega) (by omega) h
  · have h := it_f (fun k => k c52) h
    refine L_aload_n X 1 dX8_grown_386 rfl rfl ?_
    refine L_aload_n X 0 dX8_grown_387 rfl rfl ?_
    refine L_iconst X (v := (4 : Int32)) dX8_grown_388 (by decide) ?_
    refine L_sipush X (v := (1000 : Int32)) dX8_grown_389 (by decide) ?_
    obtain ⟨q53, hq53, h⟩ := bd_some h
    refine L_cSN X E (As := [.ref ξ.1.1, .int (4 : Int32), .int (1000 : Int32)]) (rest := [.ref (β 0 0)]) (cw_L_pick hξ hq53) cal_L_pick nM_X8_49 wT_L_pick ⟨⟨(Nat.le_of_ble_eq_true rfl), (Nat.le_of_ble_eq_true rfl)⟩, by omega, by omega⟩ rfl rfl (Nat.le_of_ble_eq_true rfl) dX8_grown_392 (fun rv T9 hT9 => ?_)
    obtain ⟨rfl, hT9⟩ := hT9
    rw [hT9]
    obtain ⟨z54, ez54, h⟩ := nm_some h
    refine B_put X hn (N := 12) (k := 1) (c := 8) (o := 0) rfl rfl rfl iX8 tyX8_ok nmX8 rfl (by decide) (Or.inl ⟨rfl, by decide⟩) rfl rfl (tyX8_ok _ (by decide)) wF_X8_7 rfl rfl ez54.symm dX8_grown_395 ?_
    refine L_aload_n X 2 dX8_grown_398 rfl rfl ?_
    refine L_ldcS X (i := 21) (List.mem_of_getElem? (i := 22) rfl) dX8_grown_399 ?_
    obtain ⟨g55, h⟩ := gd_some h
    have g55 := of_decide_eq_true g55
    obtain ⟨g56, h⟩ := gd_some h
    have g56 := of_decide_eq_true g56
    obtain ⟨t57, et57, h⟩ := nm_some h
    refine S_str X E (i := 21) hS (by decide) (by omega) wM_X8_66 ⟨⟨(Nat.le_of_ble_eq_true rfl), (Nat.le_of_ble_eq_true rfl)⟩, by omega, by omega⟩ (Nat.le_of_ble_eq_true rfl) dX8_grown_401 (fun v58 cap58 f58 hS58 => ?_)
    rw [← et57] at hS58 ⊢
    refine L_widen (a' := 6 * (u + 1)) (b' := 1400 * (u + 1)) (by omega) (by omega) ?_
    refine L_aload_n X 1 dX8_grown_404 rfl rfl ?_
    refine B_get X hn (N := 12) (k := 1) (c := 8) (o := 0) (j := 0) rfl rfl rfl iX8 rfl (by decide) rfl wF_X8_7 rfl dX8_grown_405 ?_
    obtain ⟨g59, h⟩ := gd_some h
    obtain ⟨g60, h⟩ := gd_some h
    have g60 := of_decide_eq_true g60
    obtain ⟨g61, h⟩ := gd_some h
    have g61 := of_decide_eq_true g61
    obtain ⟨t62, et62, h⟩ := nm_some h
    refine S_int X E hS58 g59 (by omega) wM_X8_75 ⟨⟨(Nat.le_of_ble_eq_true rfl), (Nat.le_of_ble_eq_true rfl)⟩, by omega, by omega⟩ (Nat.le_of_ble_eq_true rfl) dX8_grown_408 (fun v63 cap63 f63 hS63 => ?_)
    rw [← et62] at hS63 ⊢
    refine L_widen (a' := 6 * (u + 1 + 1)) (b' := 1400 * (u + 1 + 1)) (by omega) (by omega) ?_
    refine L_ldcS X (i := 12) (List.mem_of_getElem? (i := 18) rfl) dX8_grown_411 ?_
    obtain ⟨g64, h⟩ := gd_some h
    have g64 := of_decide_eq_true g64
    obtain ⟨g65, h⟩ := gd_some h
    have g65 := of_decide_eq_true g65
    obtain ⟨t66, et66, h⟩ := nm_some h
    refine S_str X E (i := 12) hS63 (by decide) (by omega) wM_X8_66 ⟨⟨(Nat.le_of_ble_eq_true rfl), (Nat.le_of_ble_eq_true rfl)⟩, by omega, by omega⟩ (Nat.le_of_ble_eq_true rfl) dX8_grown_413 (fun v67 cap67 f67 hS67 => ?_)
    rw [← et66] at hS67 ⊢
    refine L_widen (a' := 6 * (u + 1 + 1 + 1)) (b' := 1400 * (u + 1 + 1 + 1)) (by omega) (by omega) ?_
    refine L_pop X dX8_grown_416 rfl ?_
    exact gX8_grown_b417 X E hξ hf _ _ _ _ _ _ _ n z54 t66 (u + 1 + 1 + 1) a3 hS67 (by omega) (by omega) h
set_option maxRecDepth 20000 in
theorem gX8_grown_b323 {g : GX} {ξ : XI} {R : va_W} {Ln : Nat} {xs : Nat → Int32} {res : Nat × St × List Int32}  (X : CL g RX8 cX8_grown 6 6 171 1200 280000) (E : XE g ξ) (hξ : ξ.1.2 = (Ln, xs)) (hf : FinMa g cX8_grown (fun rv T9 => ∃ (β : Nat → Nat → Nat) (ω : Nat → Nat) (z z2 : Nat) (f2 : Nat → Int32), rv = some (.ref (β 0 0)) ∧ (∀ i, i < res.2.2.length → f2 i = res.2.2.getD i 0) ∧ T9 = wsB (gκ g) res.1 β ω ξ.2.1 z res.2.1 ++ (z, .inr (12, [.ref z2, .int 0, .int 0, .int 0])) :: (z2, .inl ((gκ g).2.1 2, res.2.2.length, .inl f2)) :: R) 1200 280000)  : ∀ (m : Nat) (β : Nat → Nat → Nat) (ω : Nat → Nat) (v : Nat) (cap : Nat) (f : Nat → Int32) (ml : Int32) (q : Nat) (n : Nat) (Y : St) (t : List Int32) (u : Nat) (a3 : Int32) (a4 : Int32) (hS : SBt t cap f) (hn : n < 9) (hu : u ≤ 200) (h : sX8_grown_b323 m Ln xs n Y t u a3 a4 = some res), L g (6 * u) (1400 * u) (wsB (gκ g) n β ω ξ.2.1 (kS g 0) Y ++ (q, .inr (11, [.ref v, .int 0, .int ml, .int (nI t.length)])) :: (v, .inl ((gκ g).2.1 2, cap, .inl f)) :: R) 323 [(0, .ref ξ.1.1), (1, .ref (β 0 0)), (2, .ref q), (3, .int a3), (4, .int a4)] [] := by
  intro m
  induction m with
  | zero => intro β ω v cap f ml q n Y t u a3 a4 hS hn hu h; unfold sX8_grown_b323 at h; cases h
  | succ m ih =>
    intro β ω v cap f ml q n Y t u a3 a4 hS hn hu h
    unfold sX8_grown_b323 at h
    refine L_iload X 4 dX8_grown_323 rfl ?_
    refine L_iconst X (v := (4 : Int32)) dX8_grown_325 (by decide) ?_
    refine L_icmp_ge X (tgt := 370) dX8_grown_326 (by decide) (fun c68 => ?_) (fun c68 => ?_)
    · have h := it_t c68 h
      refine L_aload_n X 2 dX8_grown_370 rfl rfl ?_
      refine L_ldcS X (i := 20) (List.mem_of_getElem? (i := 21) rfl) dX8_grown_371 ?_
      obtain ⟨g69, h⟩ := gd_some h
      have g69 := of_decide_eq_true g69
      obtain ⟨g70, h⟩ := gd_some h
      have g70 := of_decide_eq_true g70
      obtain ⟨t71, et71, h⟩ := nm_some h
      refine S_str X E (i := 20) hS (by decide) (by omega) wM_X8_66 ⟨⟨(Nat.le_of_ble_eq_true rfl), (Nat.le_of_ble_eq_true rfl)⟩, by omega, by omega⟩ (Nat.le_of_ble_eq_true rfl) dX8_grown_373 (fun v72 cap72 f72 hS72 => ?_)
      rw [← et71] at hS72 ⊢
      refine L_widen (a' := 6 * (u + 1)) (b' := 1400 * (u + 1)) (by omega) (by omega) ?_
      refine L_pop X dX8_grown_376 rfl ?_
      refine L_sub [0, 1, 2, 3] rfl ?_
      exact gX8_grown_b377 X E hξ hf _ _ _ _ _ _ _ n Y t71 (u + 1) a3 hS72 (by omega) (by omega) h
    · have h := it_f c68 h
      refine L_aload_n X 1 dX8_grown_329 rfl rfl ?_
      refine B_get X hn (N := 12) (k := 7) (c := 8) (o := 0) (j := 0) rfl rfl rfl iX8 rfl (by decide) rfl wF_X8_19 rfl dX8_grown_330 ?_
      refine L_iload X 4 dX8_grown_333 rfl ?_
      refine L_aload_n X 0 dX8_grown_335 rfl rfl ?_
      refine L_bipush X (v := (110 : Int32)) dX8_grown_336 (by decide) ?_
      refine L_iload X 4 dX8_grown_338 rfl ?_
      refine L_iadd X dX8_grown_340 ?_
      refine L_bipush X (v := (8 : Int32)) dX8_grown_341 (by decide) ?_
      obtain ⟨q73, hq73, h⟩ := bd_some h
      refine L_cSN X E (As := [.ref ξ.1.1, .int ((110 : Int32) + a4), .int (8 : Int32)]) (rest := [.int a4, .ref (β 0 1)]) (cw_L_pick hξ hq73) cal_L_pick nM_X8_49 wT_L_pick ⟨⟨(Nat.le_of_ble_eq_true rfl), (Nat.le_of_ble_eq_true rfl)⟩, by omega, by omega⟩ rfl rfl (Nat.le_of_ble_eq_true rfl) dX8_grown_343 (fun rv T9 hT9 => ?_)
      obtain ⟨rfl, hT9⟩ := hT9
      rw [hT9]
      obtain ⟨g74, h⟩ := gd_some h
      obtain ⟨z75, ez75, h⟩ := nm_some h
      refine B_iast X hn (o := 0) (j := 1) rfl rfl g74 ez75.symm dX8_grown_346 ?_
      refine L_aload_n X 2 dX8_grown_347 rfl rfl ?_
      refine L_ldcS X (i := 19) (List.mem_of_getElem? (i := 20) rfl) dX8_grown_348 ?_
      obtain ⟨g76, h⟩ := gd_some h
      have g76 := of_decide_eq_true g76
      obtain ⟨g77, h⟩ := gd_some h
      have g77 := of_decide_eq_true g77
      obtain ⟨t78, et78, h⟩ := nm_some h
      refine S_str X E (i := 19) hS (by decide) (by omega) wM_X8_66 ⟨⟨(Nat.le_of_ble_eq_true rfl), (Nat.le_of_ble_eq_true rfl)⟩, by omega, by omega⟩ (Nat.le_of_ble_eq_true rfl) dX8_grown_350 (fun v79 cap79 f79 hS79 => ?_)
      rw [← et78] at hS79 ⊢
      refine L_widen (a' := 6 * (u + 1)) (b' := 1400 * (u + 1)) (by omega) (by omega) ?_
      refine L_aload_n X 1 dX8_grown_353 rfl rfl ?_
      refine B_get X hn (N := 12) (k := 7) (c := 8) (o := 0) (j := 0) rfl rfl rfl iX8 rfl (by decide) rfl wF_X8_19 rfl dX8_grown_354 ?_
      refine L_iload X 4 dX8_grown_357 rfl ?_
      obtain ⟨g80, h⟩ := gd_some h
      refine B_iald X hn (o := 0) (j := 1) rfl rfl g80 dX8_grown_359 ?_
      obtain ⟨g81, h⟩ := gd_some h
      obtain ⟨g82, h⟩ := gd_some h
      have g82 := of_decide_eq_true g82
      obtain ⟨g83, h⟩ := gd_some h
      have g83 := of_decide_eq_true g83
      obtain ⟨t84, et84, h⟩ := nm_some h
      refine S_int X E hS79 g81 (by omega) wM_X8_75 ⟨⟨(Nat.le_of_ble_eq_true rfl), (Nat.le_of_ble_eq_true rfl)⟩, by omega, by omega⟩ (Nat.le_of_ble_eq_true rfl) dX8_grown_360 (fun v85 cap85 f85 hS85 => ?_)
      rw [← et84] at hS85 ⊢
      refine L_widen (a' := 6 * (u + 1 + 1)) (b' := 1400 * (u + 1 + 1)) (by omega) (by omega) ?_
      refine L_pop X dX8_grown_363 rfl ?_
      obtain ⟨v86, ev86, h⟩ := nm_some h
      refine L_iinc X (v := v86) (lv' := [(4, .int v86), (0, .ref ξ.1.1), (1, .ref (β 0 0)), (2, .ref q), (3, .int a3)]) 4 dX8_grown_364 rfl (by rw [ev86]; rfl) (by decide) rfl ?_
      refine L_goto X (tgt := 323) dX8_grown_367 (by decide) ?_
      refine L_sub [1, 2, 3, 4, 0] rfl ?_
      exact ih _ _ _ _ _ _ _ n z75 t84 (u + 1 + 1) a3 v86 hS85 (by omega) (by omega) h
set_option maxRecDepth 20000 in
theorem gX8_grown_b279 {g : GX} {ξ : XI} {R : va_W} {Ln : Nat} {xs : Nat → Int32} {res : Nat × St × List Int32} {k27 : Nat → St → (List Int32) → Nat → Int32 → Int32 → Option (Nat × St × List Int32)} (X : CL g RX8 cX8_grown 6 6 171 1200 280000) (E : XE g ξ) (hξ : ξ.1.2 = (Ln, xs)) (hf : FinMa g cX8_grown (fun rv T9 => ∃ (β : Nat → Nat → Nat) (ω : Nat → Nat) (z z2 : Nat) (f2 : Nat → Int32), rv = some (.ref (β 0 0)) ∧ (∀ i, i < res.2.2.length → f2 i = res.2.2.getD i 0) ∧ T9 = wsB (gκ g) res.1 β ω ξ.2.1 z res.2.1 ++ (z, .inr (12, [.ref z2, .int 0, .int 0, .int 0])) :: (z2, .inl ((gκ g).2.1 2, res.2.2.length, .inl f2)) :: R) 1200 280000) (hk27 : ∀ (β' : Nat → Nat → Nat) (ω' : Nat → Nat) (v' : Nat) (cap' : Nat) (f' : Nat → Int32) (ml' : Int32) (q' : Nat) (n' : Nat) (Y' : St) (t' : List Int32) (u' : Nat) (a3' : Int32) (a4' : Int32) (hS' : SBt t' cap' f') (hn' : n' < 9) (hu' : u' ≤ 200), k27 n' Y' t' u' a3' a4' = some res → L g (6 * u') (1400 * u') (wsB (gκ g) n' β' ω' ξ.2.1 (kS g 0) Y' ++ (q', .inr (11, [.ref v', .int 0, .int ml', .int (nI t'.length)])) :: (v', .inl ((gκ g).2.1 2, cap', .inl f')) :: R) 27 [(0, .ref ξ.1.1), (1, .ref (β' 0 0)), (2, .ref q'), (3, .int a3'), (4, .int a4')] []) (β : Nat → Nat → Nat) (ω : Nat → Nat) (v : Nat) (cap : Nat) (f : Nat → Int32) (ml : Int32) (q : Nat) (n : Nat) (Y : St) (t : List Int32) (u : Nat) (a3 : Int32) (a4 : Int32) (hS : SBt t cap f) (hn : n < 9) (hu : u ≤ 200) (h5 : n < 5) (h : sX8_grown_b279 k27 Ln xs n Y t u a3 a4 = some res) : L g (6 * u) (1400 * u) ((nbB (gκ g) n β ω Y ++ wsB (gκ g) n β ω ξ.2.1 (kS g 0) Y) ++ (q, .inr (11, [.ref v, .int 0, .int ml, .int (nI t.length)])) :: (v, .inl ((gκ g).2.1 2, cap, .inl f)) :: R) 279 [(0, .ref ξ.1.1), (1, .ref (β 0 0)), (2, .ref q), (3, .int a3), (4, .int a4), (5, .ref (β (n + 1) 0))] [] := by
  unfold sX8_grown_b279 at h
  refine L_aload_n X 2 dX8_grown_279 rfl rfl ?_
  refine L_ldcS X (i := 12) (List.mem_of_getElem? (i := 18) rfl) dX8_grown_280 ?_
  obtain ⟨g162, h⟩ := gd_some h
  have g162 := of_decide_eq_true g162
  obtain ⟨g163, h⟩ := gd_some h
  have g163 := of_decide_eq_true g163
  obtain ⟨t164, et164, h⟩ := nm_some h
  refine S_str X E (i := 12) hS (by decide) (by omega) wM_X8_66 ⟨⟨(Nat.le_of_ble_eq_true rfl), (Nat.le_of_ble_eq_true rfl)⟩, by omega, by omega⟩ (Nat.le_of_ble_eq_true rfl) dX8_grown_282 (fun v165 cap165 f165 hS165 => ?_)
  rw [← et164] at hS165 ⊢
  refine L_widen (a' := 6 * (u + 1)) (b' := 1400 * (u + 1)) (by omega) (by omega) ?_
  refine L_pop X dX8_grown_285 rfl ?_
  refine L_aload_n X 1 dX8_grown_286 rfl rfl ?_
  refine N_all X hn wF_X8_35 dX8_grown_287 ?_
  refine L_aload X 5 dX8_grown_290 rfl ?_
  obtain ⟨g166, h⟩ := gd_some h
  have g166 := of_decide_eq_true g166
  refine N_add X E (by omega) (tx := kS g 0) wM_X8_97 ⟨⟨(Nat.le_of_ble_eq_true rfl), (Nat.le_of_ble_eq_true rfl)⟩, by omega, by omega⟩ (Nat.le_of_ble_eq_true rfl) dX8_grown_292 (fun zz167 => ?_)
  have e0β168 : (b5 β zz167) 0 0 = β 0 0 := rfl
  rw [← e0β168]
  generalize b5 β zz167 = β168
  refine L_widen (a' := 6 * (u + 1 + 1)) (b' := 1400 * (u + 1 + 1)) (by omega) (by omega) ?_
  have hn : n + 1 < 9 := by omega
  refine L_sub [0, 1, 2, 3, 4] rfl ?_
  refine L_pop X dX8_grown_297 rfl ?_
  obtain ⟨v169, ev169, h⟩ := nm_some h
  refine L_iinc X (v := v169) (lv' := [(4, .int v169), (0, .ref ξ.1.1), (1, .ref (β168 0 0)), (2, .ref q), (3, .int a3)]) 4 dX8_grown_298 rfl (by rw [ev169]; rfl) (by decide) rfl ?_
  refine L_goto X (tgt := 27) dX8_grown_301 (by decide) ?_
  refine L_sub [1, 2, 3, 4, 0] rfl ?_
  exact hk27 _ _ _ _ _ _ _ (n + 1) Y t164 (u + 1 + 1) a3 v169 hS165 (by omega) (by omega) h
set_option maxRecDepth 20000 in
theorem gX8_grown_b232 {g : GX} {ξ : XI} {R : va_W} {Ln : Nat} {xs : Nat → Int32} {res : Nat × St × List Int32} {k27 : Nat → St → (List Int32) → Nat → Int32 → Int32 → Option (Nat × St × List Int32)} (X : CL g RX8 cX8_grown 6 6 171 1200 280000) (E : XE g ξ) (hξ : ξ.1.2 = (Ln, xs)) (hf : FinMa g cX8_grown (fun rv T9 => ∃ (β : Nat → Nat → Nat) (ω : Nat → Nat) (z z2 : Nat) (f2 : Nat → Int32), rv = some (.ref (β 0 0)) ∧ (∀ i, i < res.2.2.length → f2 i = res.2.2.getD i 0) ∧ T9 = wsB (gκ g) res.1 β ω ξ.2.1 z res.2.1 ++ (z, .inr (12, [.ref z2, .int 0, .int 0, .int 0])) :: (z2, .inl ((gκ g).2.1 2, res.2.2.length, .inl f2)) :: R) 1200 280000) (hk27 : ∀ (β' : Nat → Nat → Nat) (ω' : Nat → Nat) (v' : Nat) (cap' : Nat) (f' : Nat → Int32) (ml' : Int32) (q' : Nat) (n' : Nat) (Y' : St) (t' : List Int32) (u' : Nat) (a3' : Int32) (a4' : Int32) (hS' : SBt t' cap' f') (hn' : n' < 9) (hu' : u' ≤ 200), k27 n' Y' t' u' a3' a4' = some res → L g (6 * u') (1400 * u') (wsB (gκ g) n' β' ω' ξ.2.1 (kS g 0) Y' ++ (q', .inr (11, [.ref v', .int 0, .int ml', .int (nI t'.length)])) :: (v', .inl ((gκ g).2.1 2, cap', .inl f')) :: R) 27 [(0, .ref ξ.1.1), (1, .ref (β' 0 0)), (2, .ref q'), (3, .int a3'), (4, .int a4')] []) (β : Nat → Nat → Nat) (ω : Nat → Nat) (v : Nat) (cap : Nat) (f : Nat → Int32) (ml : Int32) (q : Nat) (n : Nat) (Y : St) (t : List Int32) (u : Nat) (a3 : Int32) (a4 : Int32) (hS : SBt t cap f) (hn : n < 9) (hu : u ≤ 200) (h5 : n < 5) (h : sX8_grown_b232 k27 Ln xs n Y t u a3 a4 = some res) : L g (6 * u) (1400 * u) ((nbB (gκ g) n β ω Y ++ wsB (gκ g) n β ω ξ.2.1 (kS g 0) Y) ++ (q, .inr (11, [.ref v, .int 0, .int ml, .int (nI t.length)])) :: (v, .inl ((gκ g).2.1 2, cap, .inl f)) :: R) 232 [(0, .ref ξ.1.1), (1, .ref (β 0 0)), (2, .ref q), (3, .int a3), (4, .int a4), (5, .ref (β (n + 1) 0))] [] := by
  unfold sX8_grown_b232 at h
  refine L_aload_n X 0 dX8_grown_232 rfl rfl ?_
  refine L_bipush X (v := (80 : Int32)) dX8_grown_233 (by decide) ?_
  refine L_iload X 4 dX8_grown_235 rfl ?_
  refine L_iadd X dX8_grown_237 ?_
  refine L_iconst X (v := (2 : Int32)) dX8_grown_238 (by decide) ?_
  obtain ⟨q147, hq147, h⟩ := bd_some h
  refine L_cSN X E (As := [.ref ξ.1.1, .int ((80 : Int32) + a4), .int (2 : Int32)]) (rest := []) (cw_L_pick hξ hq147) cal_L_pick nM_X8_49 wT_L_pick ⟨⟨(Nat.le_of_ble_eq_true rfl), (Nat.le_of_ble_eq_true rfl)⟩, by omega, by omega⟩ rfl rfl (Nat.le_of_ble_eq_true rfl) dX8_grown_239 (fun rv T9 hT9 => ?_)
  obtain ⟨rfl, hT9⟩ := hT9
  rw [hT9]
  refine L_if_ne X (tgt := 279) dX8_grown_242 (by decide) (fun c148 => ?_) (fun c148 => ?_)
  · have h := it_t c148 h
    exact gX8_grown_b279 X E hξ hf hk27 _ _ _ _ _ _ _ n Y t u a3 a4 hS (by omega) (by omega) (by omega) h
  · have h := it_f (fun k => k c148) h
    refine L_aload X 5 dX8_grown_245 rfl ?_
    refine L_iconst X (v := (1 : Int32)) dX8_grown_247 (by decide) ?_
    refine L_aload_n X 0 dX8_grown_248 rfl rfl ?_
    refine L_bipush X (v := (90 : Int32)) dX8_grown_249 (by decide) ?_
    refine L_iload X 4 dX8_grown_251 rfl ?_
    refine L_iadd X dX8_grown_253 ?_
    refine L_sipush X (v := (300 : Int32)) dX8_grown_254 (by decide) ?_
    obtain ⟨q149, hq149, h⟩ := bd_some h
    refine L_cSN X E (As := [.ref ξ.1.1, .int ((90 : Int32) + a4), .int (300 : Int32)]) (rest := [.int (1 : Int32), .ref (β (n + 1) 0)]) (cw_L_pick hξ hq149) cal_L_pick nM_X8_49 wT_L_pick ⟨⟨(Nat.le_of_ble_eq_true rfl), (Nat.le_of_ble_eq_true rfl)⟩, by omega, by omega⟩ rfl rfl (Nat.le_of_ble_eq_true rfl) dX8_grown_257 (fun rv T9 hT9 => ?_)
    obtain ⟨rfl, hT9⟩ := hT9
    rw [hT9]
    refine L_iadd X dX8_grown_260 ?_
    obtain ⟨z150, ez150, h⟩ := nm_some h
    refine N_put X (k := 4) (by decide) (by decide) rfl wF_X8_90 rfl rfl (tyX7_ok _ (by decide)) rfl rfl ez150.symm dX8_grown_261 ?_
    refine L_aload_n X 2 dX8_grown_264 rfl rfl ?_
    refine L_ldcS X (i := 11) (List.mem_of_getElem? (i := 17) rfl) dX8_grown_265 ?_
    obtain ⟨g151, h⟩ := gd_some h
    have g151 := of_decide_eq_true g151
    obtain ⟨g152, h⟩ := gd_some h
    have g152 := of_decide_eq_true g152
    obtain ⟨t153, et153, h⟩ := nm_some h
    refine S_str X E (i := 11) hS (by decide) (by omega) wM_X8_66 ⟨⟨(Nat.le_of_ble_eq_true rfl), (Nat.le_of_ble_eq_true rfl)⟩, by omega, by omega⟩ (Nat.le_of_ble_eq_true rfl) dX8_grown_267 (fun v154 cap154 f154 hS154 => ?_)
    rw [← et153] at hS154 ⊢
    refine L_widen (a' := 6 * (u + 1)) (b' := 1400 * (u + 1)) (by omega) (by omega) ?_
    refine L_aload X 5 dX8_grown_270 rfl ?_
    refine N_get X (k := 4) (by decide) rfl wF_X8_90 rfl rfl dX8_grown_272 ?_
    obtain ⟨g155, h⟩ := gd_some h
    obtain ⟨g156, h⟩ := gd_some h
    have g156 := of_decide_eq_true g156
    obtain ⟨g157, h⟩ := gd_some h
    have g157 := of_decide_eq_true g157
    obtain ⟨t158, et158, h⟩ := nm_some h
    refine S_int X E hS154 g155 (by omega) wM_X8_75 ⟨⟨(Nat.le_of_ble_eq_true rfl), (Nat.le_of_ble_eq_true rfl)⟩, by omega, by omega⟩ (Nat.le_of_ble_eq_true rfl) dX8_grown_275 (fun v159 cap159 f159 hS159 => ?_)
    rw [← et158] at hS159 ⊢
    refine L_widen (a' := 6 * (u + 1 + 1)) (b' := 1400 * (u + 1 + 1)) (by omega) (by omega) ?_
    refine L_pop X dX8_grown_278 rfl ?_
    exact gX8_grown_b279 X E hξ hf hk27 _ _ _ _ _ _ _ n z150 t158 (u + 1 + 1) a3 a4 hS159 (by omega) (by omega) (by omega) h
set_option maxRecDepth 20000 in
theorem gX8_grown_b187 {g : GX} {ξ : XI} {R : va_W} {Ln : Nat} {xs : Nat → Int32} {res : Nat × St × List Int32} {k27 : Nat → St → (List Int32) → Nat → Int32 → Int32 → Option (Nat × St × List Int32)} (X : CL g RX8 cX8_grown 6 6 171 1200 280000) (E : XE g ξ) (hξ : ξ.1.2 = (Ln, xs)) (hf : FinMa g cX8_grown (fun rv T9 => ∃ (β : Nat → Nat → Nat) (ω : Nat → Nat) (z z2 : Nat) (f2 : Nat → Int32), rv = some (.ref (β 0 0)) ∧ (∀ i, i < res.2.2.length → f2 i = res.2.2.getD i 0) ∧ T9 = wsB (gκ g) res.1 β ω ξ.2.1 z res.2.1 ++ (z, .inr (12, [.ref z2, .int 0, .int 0, .int 0])) :: (z2, .inl ((gκ g).2.1 2, res.2.2.length, .inl f2)) :: R) 1200 280000) (hk27 : ∀ (β' : Nat → Nat → Nat) (ω' : Nat → Nat) (v' : Nat) (cap' : Nat) (f' : Nat → Int32) (ml' : Int32) (q' : Nat) (n' : Nat) (Y' : St) (t' : List Int32) (u' : Nat) (a3' : Int32) (a4' : Int32) (hS' : SBt t' cap' f') (hn' : n' < 9) (hu' : u' ≤ 200), k27 n' Y' t' u' a3' a4' = some res → L g (6 * u') (1400 * u') (wsB (gκ g) n' β' ω' ξ.2.1 (kS g 0) Y' ++ (q', .inr (11, [.ref v', .int 0, .int ml', .int (nI t'.length)])) :: (v', .inl ((gκ g).2.1 2, cap', .inl f')) :: R) 27 [(0, .ref ξ.1.1), (1, .ref (β' 0 0)), (2, .ref q'), (3, .int a3'), (4, .int a4')] []) (β : Nat → Nat → Nat) (ω : Nat → Nat) (v : Nat) (cap : Nat) (f : Nat → Int32) (ml : Int32) (q : Nat) (n : Nat) (Y : St) (t : List Int32) (u : Nat) (a3 : Int32) (a4 : Int32) (hS : SBt t cap f) (hn : n < 9) (hu : u ≤ 200) (h5 : n < 5) (h : sX8_grown_b187 k27 Ln xs n Y t u a3 a4 = some res) : L g (6 * u) (1400 * u) ((nbB (gκ g) n β ω Y ++ wsB (gκ g) n β ω ξ.2.1 (kS g 0) Y) ++ (q, .inr (11, [.ref v, .int 0, .int ml, .int (nI t.length)])) :: (v, .inl ((gκ g).2.1 2, cap, .inl f)) :: R) 187 [(0, .ref ξ.1.1), (1, .ref (β 0 0)), (2, .ref q), (3, .int a3), (4, .int a4), (5, .ref (β (n + 1) 0))] [] := by
  unfold sX8_grown_b187 at h
  refine L_aload_n X 0 dX8_grown_187 rfl rfl ?_
  refine L_bipush X (v := (60 : Int32)) dX8_grown_188 (by decide) ?_
  refine L_iload X 4 dX8_grown_190 rfl ?_
  refine L_iadd X dX8_grown_192 ?_
  refine L_iconst X (v := (2 : Int32)) dX8_grown_193 (by decide) ?_
  obtain ⟨q117, hq117, h⟩ := bd_some h
  refine L_cSN X E (As := [.ref ξ.1.1, .int ((60 : Int32) + a4), .int (2 : Int32)]) (rest := []) (cw_L_pick hξ hq117) cal_L_pick nM_X8_49 wT_L_pick ⟨⟨(Nat.le_of_ble_eq_true rfl), (Nat.le_of_ble_eq_true rfl)⟩, by omega, by omega⟩ rfl rfl (Nat.le_of_ble_eq_true rfl) dX8_grown_194 (fun rv T9 hT9 => ?_)
  obtain ⟨rfl, hT9⟩ := hT9
  rw [hT9]
  refine L_if_ne X (tgt := 232) dX8_grown_197 (by decide) (fun c118 => ?_) (fun c118 => ?_)
  · have h := it_t c118 h
    exact gX8_grown_b232 X E hξ hf hk27 _ _ _ _ _ _ _ n Y t u a3 a4 hS (by omega) (by omega) (by omega) h
  · have h := it_f (fun k => k c118) h
    refine L_aload X 5 dX8_grown_200 rfl ?_
    refine L_iconst X (v := (1 : Int32)) dX8_grown_202 (by decide) ?_
    refine L_aload_n X 0 dX8_grown_203 rfl rfl ?_
    refine L_bipush X (v := (70 : Int32)) dX8_grown_204 (by decide) ?_
    refine L_iload X 4 dX8_grown_206 rfl ?_
    refine L_iadd X dX8_grown_208 ?_
    refine L_iconst X (v := (3 : Int32)) dX8_grown_209 (by decide) ?_
    obtain ⟨q119, hq119, h⟩ := bd_some h
    refine L_cSN X E (As := [.ref ξ.1.1, .int ((70 : Int32) + a4), .int (3 : Int32)]) (rest := [.int (1 : Int32), .ref (β (n + 1) 0)]) (cw_L_pick hξ hq119) cal_L_pick nM_X8_49 wT_L_pick ⟨⟨(Nat.le_of_ble_eq_true rfl), (Nat.le_of_ble_eq_true rfl)⟩, by omega, by omega⟩ rfl rfl (Nat.le_of_ble_eq_true rfl) dX8_grown_210 (fun rv T9 hT9 => ?_)
    obtain ⟨rfl, hT9⟩ := hT9
    rw [hT9]
    refine L_iadd X dX8_grown_213 ?_
    obtain ⟨z120, ez120, h⟩ := nm_some h
    refine N_put X (k := 3) (by decide) (by decide) rfl wF_X8_85 rfl rfl (tyX7_ok _ (by decide)) rfl rfl ez120.symm dX8_grown_214 ?_
    refine L_aload_n X 2 dX8_grown_217 rfl rfl ?_
    refine L_ldcS X (i := 9) (List.mem_of_getElem? (i := 16) rfl) dX8_grown_218 ?_
    obtain ⟨g121, h⟩ := gd_some h
    have g121 := of_decide_eq_true g121
    obtain ⟨g122, h⟩ := gd_some h
    have g122 := of_decide_eq_true g122
    obtain ⟨t123, et123, h⟩ := nm_some h
    refine S_str X E (i := 9) hS (by decide) (by omega) wM_X8_66 ⟨⟨(Nat.le_of_ble_eq_true rfl), (Nat.le_of_ble_eq_true rfl)⟩, by omega, by omega⟩ (Nat.le_of_ble_eq_true rfl) dX8_grown_220 (fun v124 cap124 f124 hS124 => ?_)
    rw [← et123] at hS124 ⊢
    refine L_widen (a' := 6 * (u + 1)) (b' := 1400 * (u + 1)) (by omega) (by omega) ?_
    refine L_aload X 5 dX8_grown_223 rfl ?_
    refine N_get X (k := 3) (by decide) rfl wF_X8_85 rfl rfl dX8_grown_225 ?_
    obtain ⟨g125, h⟩ := gd_some h
    obtain ⟨g126, h⟩ := gd_some h
    have g126 := of_decide_eq_true g126
    obtain ⟨g127, h⟩ := gd_some h
    have g127 := of_decide_eq_true g127
    obtain ⟨t128, et128, h⟩ := nm_some h
    refine S_int X E hS124 g125 (by omega) wM_X8_75 ⟨⟨(Nat.le_of_ble_eq_true rfl), (Nat.le_of_ble_eq_true rfl)⟩, by omega, by omega⟩ (Nat.le_of_ble_eq_true rfl) dX8_grown_228 (fun v129 cap129 f129 hS129 => ?_)
    rw [← et128] at hS129 ⊢
    refine L_widen (a' := 6 * (u + 1 + 1)) (b' := 1400 * (u + 1 + 1)) (by omega) (by omega) ?_
    refine L_pop X dX8_grown_231 rfl ?_
    exact gX8_grown_b232 X E hξ hf hk27 _ _ _ _ _ _ _ n z120 t128 (u + 1 + 1) a3 a4 hS129 (by omega) (by omega) (by omega) h
set_option maxRecDepth 20000 in
theorem gX8_grown_b142 {g : GX} {ξ : XI} {R : va_W} {Ln : Nat} {xs : Nat → Int32} {res : Nat × St × List Int32} {k27 : Nat → St → (List Int32) → Nat → Int32 → Int32 → Option (Nat × St × List Int32)} (X : CL g RX8 cX8_grown 6 6 171 1200 280000) (E : XE g ξ) (hξ : ξ.1.2 = (Ln, xs)) (hf : FinMa g cX8_grown (fun rv T9 => ∃ (β : Nat → Nat → Nat) (ω : Nat → Nat) (z z2 : Nat) (f2 : Nat → Int32), rv = some (.ref (β 0 0)) ∧ (∀ i, i < res.2.2.length → f2 i = res.2.2.getD i 0) ∧ T9 = wsB (gκ g) res.1 β ω ξ.2.1 z res.2.1 ++ (z, .inr (12, [.ref z2, .int 0, .int 0, .int 0])) :: (z2, .inl ((gκ g).2.1 2, res.2.2.length, .inl f2)) :: R) 1200 280000) (hk27 : ∀ (β' : Nat → Nat → Nat) (ω' : Nat → Nat) (v' : Nat) (cap' : Nat) (f' : Nat → Int32) (ml' : Int32) (q' : Nat) (n' : Nat) (Y' : St) (t' : List Int32) (u' : Nat) (a3' : Int32) (a4' : Int32) (hS' : SBt t' cap' f') (hn' : n' < 9) (hu' : u' ≤ 200), k27 n' Y' t' u' a3' a4' = some res → L g (6 * u') (1400 * u') (wsB (gκ g) n' β' ω' ξ.2.1 (kS g 0) Y' ++ (q', .inr (11, [.ref v', .int 0, .int ml', .int (nI t'.length)])) :: (v', .inl ((gκ g).2.1 2, cap', .inl f')) :: R) 27 [(0, .ref ξ.1.1), (1, .ref (β' 0 0)), (2, .ref q'), (3, .int a3'), (4, .int a4')] []) (β : Nat → Nat → Nat) (ω : Nat → Nat) (v : Nat) (cap : Nat) (f : Nat → Int32) (ml : Int32) (q : Nat) (n : Nat) (Y : St) (t : List Int32) (u : Nat) (a3 : Int32) (a4 : Int32) (hS : SBt t cap f) (hn : n < 9) (hu : u ≤ 200) (h5 : n < 5) (h : sX8_grown_b142 k27 Ln xs n Y t u a3 a4 = some res) : L g (6 * u) (1400 * u) ((nbB (gκ g) n β ω Y ++ wsB (gκ g) n β ω ξ.2.1 (kS g 0) Y) ++ (q, .inr (11, [.ref v, .int 0, .int ml, .int (nI t.length)])) :: (v, .inl ((gκ g).2.1 2, cap, .inl f)) :: R) 142 [(0, .ref ξ.1.1), (1, .ref (β 0 0)), (2, .ref q), (3, .int a3), (4, .int a4), (5, .ref (β (n + 1) 0))] [] := by
  unfold sX8_grown_b142 at h
  refine L_aload_n X 0 dX8_grown_142 rfl rfl ?_
  refine L_bipush X (v := (40 : Int32)) dX8_grown_143 (by decide) ?_
  refine L_iload X 4 dX8_grown_145 rfl ?_
  refine L_iadd X dX8_grown_147 ?_
  refine L_iconst X (v := (2 : Int32)) dX8_grown_148 (by decide) ?_
  obtain ⟨q87, hq87, h⟩ := bd_some h
  refine L_cSN X E (As := [.ref ξ.1.1, .int ((40 : Int32) + a4), .int (2 : Int32)]) (rest := []) (cw_L_pick hξ hq87) cal_L_pick nM_X8_49 wT_L_pick ⟨⟨(Nat.le_of_ble_eq_true rfl), (Nat.le_of_ble_eq_true rfl)⟩, by omega, by omega⟩ rfl rfl (Nat.le_of_ble_eq_true rfl) dX8_grown_149 (fun rv T9 hT9 => ?_)
  obtain ⟨rfl, hT9⟩ := hT9
  rw [hT9]
  refine L_if_ne X (tgt := 187) dX8_grown_152 (by decide) (fun c88 => ?_) (fun c88 => ?_)
  · have h := it_t c88 h
    exact gX8_grown_b187 X E hξ hf hk27 _ _ _ _ _ _ _ n Y t u a3 a4 hS (by omega) (by omega) (by omega) h
  · have h := it_f (fun k => k c88) h
    refine L_aload X 5 dX8_grown_155 rfl ?_
    refine L_iconst X (v := (1 : Int32)) dX8_grown_157 (by decide) ?_
    refine L_aload_n X 0 dX8_grown_158 rfl rfl ?_
    refine L_bipush X (v := (50 : Int32)) dX8_grown_159 (by decide) ?_
    refine L_iload X 4 dX8_grown_161 rfl ?_
    refine L_iadd X dX8_grown_163 ?_
    refine L_iconst X (v := (3 : Int32)) dX8_grown_164 (by decide) ?_
    obtain ⟨q89, hq89, h⟩ := bd_some h
    refine L_cSN X E (As := [.ref ξ.1.1, .int ((50 : Int32) + a4), .int (3 : Int32)]) (rest := [.int (1 : Int32), .ref (β (n + 1) 0)]) (cw_L_pick hξ hq89) cal_L_pick nM_X8_49 wT_L_pick ⟨⟨(Nat.le_of_ble_eq_true rfl), (Nat.le_of_ble_eq_true rfl)⟩, by omega, by omega⟩ rfl rfl (Nat.le_of_ble_eq_true rfl) dX8_grown_165 (fun rv T9 hT9 => ?_)
    obtain ⟨rfl, hT9⟩ := hT9
    rw [hT9]
    refine L_iadd X dX8_grown_168 ?_
    obtain ⟨z90, ez90, h⟩ := nm_some h
    refine N_put X (k := 2) (by decide) (by decide) rfl wF_X8_80 rfl rfl (tyX7_ok _ (by decide)) rfl rfl ez90.symm dX8_grown_169 ?_
    refine L_aload_n X 2 dX8_grown_172 rfl rfl ?_
    refine L_ldcS X (i := 6) (List.mem_of_getElem? (i := 15) rfl) dX8_grown_173 ?_
    obtain ⟨g91, h⟩ := gd_some h
    have g91 := of_decide_eq_true g91
    obtain ⟨g92, h⟩ := gd_some h
    have g92 := of_decide_eq_true g92
    obtain ⟨t93, et93, h⟩ := nm_some h
    refine S_str X E (i := 6) hS (by decide) (by omega) wM_X8_66 ⟨⟨(Nat.le_of_ble_eq_true rfl), (Nat.le_of_ble_eq_true rfl)⟩, by omega, by omega⟩ (Nat.le_of_ble_eq_true rfl) dX8_grown_175 (fun v94 cap94 f94 hS94 => ?_)
    rw [← et93] at hS94 ⊢
    refine L_widen (a' := 6 * (u + 1)) (b' := 1400 * (u + 1)) (by omega) (by omega) ?_
    refine L_aload X 5 dX8_grown_178 rfl ?_
    refine N_get X (k := 2) (by decide) rfl wF_X8_80 rfl rfl dX8_grown_180 ?_
    obtain ⟨g95, h⟩ := gd_some h
    obtain ⟨g96, h⟩ := gd_some h
    have g96 := of_decide_eq_true g96
    obtain ⟨g97, h⟩ := gd_some h
    have g97 := of_decide_eq_true g97
    obtain ⟨t98, et98, h⟩ := nm_some h
    refine S_int X E hS94 g95 (by omega) wM_X8_75 ⟨⟨(Nat.le_of_ble_eq_true rfl), (Nat.le_of_ble_eq_true rfl)⟩, by omega, by omega⟩ (Nat.le_of_ble_eq_true rfl) dX8_grown_183 (fun v99 cap99 f99 hS99 => ?_)
    rw [← et98] at hS99 ⊢
    refine L_widen (a' := 6 * (u + 1 + 1)) (b' := 1400 * (u + 1 + 1)) (by omega) (by omega) ?_
    refine L_pop X dX8_grown_186 rfl ?_
    exact gX8_grown_b187 X E hξ hf hk27 _ _ _ _ _ _ _ n z90 t98 (u + 1 + 1) a3 a4 hS99 (by omega) (by omega) (by omega) h
set_option maxRecDepth 20000 in
theorem gX8_grown_b27 {g : GX} {ξ : XI} {R : va_W} {Ln : Nat} {xs : Nat → Int32} {res : Nat × St × List Int32}  (X : CL g RX8 cX8_grown 6 6 171 1200 280000) (E : XE g ξ) (hξ : ξ.1.2 = (Ln, xs)) (hf : FinMa g cX8_grown (fun rv T9 => ∃ (β : Nat → Nat → Nat) (ω : Nat → Nat) (z z2 : Nat) (f2 : Nat → Int32), rv = some (.ref (β 0 0)) ∧ (∀ i, i < res.2.2.length → f2 i = res.2.2.getD i 0) ∧ T9 = wsB (gκ g) res.1 β ω ξ.2.1 z res.2.1 ++ (z, .inr (12, [.ref z2, .int 0, .int 0, .int 0])) :: (z2, .inl ((gκ g).2.1 2, res.2.2.length, .inl f2)) :: R) 1200 280000)  : ∀ (m : Nat) (β : Nat → Nat → Nat) (ω : Nat → Nat) (v : Nat) (cap : Nat) (f : Nat → Int32) (ml : Int32) (q : Nat) (n : Nat) (Y : St) (t : List Int32) (u : Nat) (a3 : Int32) (a4 : Int32) (hS : SBt t cap f) (hn : n < 9) (hu : u ≤ 200) (h : sX8_grown_b27 m Ln xs n Y t u a3 a4 = some res), L g (6 * u) (1400 * u) (wsB (gκ g) n β ω ξ.2.1 (kS g 0) Y ++ (q, .inr (11, [.ref v, .int 0, .int ml, .int (nI t.length)])) :: (v, .inl ((gκ g).2.1 2, cap, .inl f)) :: R) 27 [(0, .ref ξ.1.1), (1, .ref (β 0 0)), (2, .ref q), (3, .int a3), (4, .int a4)] [] := by
  intro m
  induction m with
  | zero => intro β ω v cap f ml q n Y t u a3 a4 hS hn hu h; unfold sX8_grown_b27 at h; cases h
  | succ m ih =>
    intro β ω v cap f ml q n Y t u a3 a4 hS hn hu h
    unfold sX8_grown_b27 at h
    refine L_iload X 4 dX8_grown_27 rfl ?_
    refine L_iload_n X 3 dX8_grown_29 rfl rfl ?_
    refine L_icmp_ge X (tgt := 304) dX8_grown_30 (by decide) (fun c4 => ?_) (fun c4 => ?_)
    · have h := it_t c4 h
      refine L_aload_n X 0 dX8_grown_304 rfl rfl ?_
      refine L_iconst X (v := (2 : Int32)) dX8_grown_305 (by decide) ?_
      refine L_iconst X (v := (2 : Int32)) dX8_grown_306 (by decide) ?_
      obtain ⟨q5, hq5, h⟩ := bd_some h
      refine L_cSN X E (As := [.ref ξ.1.1, .int (2 : Int32), .int (2 : Int32)]) (rest := []) (cw_L_pick hξ hq5) cal_L_pick nM_X8_49 wT_L_pick ⟨⟨(Nat.le_of_ble_eq_true rfl), (Nat.le_of_ble_eq_true rfl)⟩, by omega, by omega⟩ rfl rfl (Nat.le_of_ble_eq_true rfl) dX8_grown_307 (fun rv T9 hT9 => ?_)
      obtain ⟨rfl, hT9⟩ := hT9
      rw [hT9]
      refine L_if_ne X (tgt := 377) dX8_grown_310 (by decide) (fun c6 => ?_) (fun c6 => ?_)
      · have h := it_t c6 h
        refine L_sub [0, 1, 2, 3] rfl ?_
        exact gX8_grown_b377 X E hξ hf _ _ _ _ _ _ _ n Y t u a3 hS (by omega) (by omega) h
      · have h := it_f (fun k => k c6) h
        refine L_aload_n X 2 dX8_grown_313 rfl rfl ?_
        refine L_ldcS X (i := 13) (List.mem_of_getElem? (i := 19) rfl) dX8_grown_314 ?_
        obtain ⟨g7, h⟩ := gd_some h
        have g7 := of_decide_eq_true g7
        obtain ⟨g8, h⟩ := gd_some h
        have g8 := of_decide_eq_true g8
        obtain ⟨t9, et9, h⟩ := nm_some h
        refine S_str X E (i := 13) hS (by decide) (by omega) wM_X8_66 ⟨⟨(Nat.le_of_ble_eq_true rfl), (Nat.le_of_ble_eq_true rfl)⟩, by omega, by omega⟩ (Nat.le_of_ble_eq_true rfl) dX8_grown_316 (fun v10 cap10 f10 hS10 => ?_)
        rw [← et9] at hS10 ⊢
        refine L_widen (a' := 6 * (u + 1)) (b' := 1400 * (u + 1)) (by omega) (by omega) ?_
        refine L_pop X dX8_grown_319 rfl ?_
        refine L_iconst X (v := (0 : Int32)) dX8_grown_320 (by decide) ?_
        refine L_istore X (lv' := [(4, .int (0 : Int32)), (0, .ref ξ.1.1), (1, .ref (β 0 0)), (2, .ref q), (3, .int a3)]) dX8_grown_321 (by decide) rfl ?_
        refine L_sub [1, 2, 3, 4, 0] rfl ?_
        exact gX8_grown_b323 X E hξ hf FU _ _ _ _ _ _ _ n Y t9 (u + 1) a3 (0 : Int32) hS10 (by omega) (by omega) h
    · have h := it_f c4 h
      obtain ⟨g12, h⟩ := gd_some h
      have g12 := of_decide_eq_true g12
      obtain ⟨g13, h⟩ := gd_some h
      have g13 := of_decide_eq_true g13
      refine L_new X (C := RX7) (Tf := TX7) (N := 16) (ci := 7) (ty0 := tyX7) (fs := fzX7) rfl iX7 tyX7_ok wCl_X8_55 wN_X7 w0_X7 (fun j hj => hzX7 j (by omega)) (by omega) (by omega) dX8_grown_33 (fun q11 => ?_)
      refine L_dup X dX8_grown_36 rfl ?_
      refine L_cI X E (As := []) (rest := [.ref q11]) (cm_X7_init) cal_X7_init wM_X8_57 rfl wI_X7_init ⟨⟨(Nat.le_of_ble_eq_true rfl), (Nat.le_of_ble_eq_true rfl)⟩, by omega, by omega⟩ rfl rfl (Nat.le_of_ble_eq_true rfl) dX8_grown_37 (fun rv T1 hT => ?_)
      obtain ⟨s9, h9, w9, l9, rfl, hT⟩ := hT
      rw [hT]
      refine N_new ?_
      have e0β14 : (bN β n q11 s9 h9 l9) 0 0 = β 0 0 := bN_00
      have e1β14 : (bN β n q11 s9 h9 l9) (n + 1) 0 = q11 := bN_q
      rw [← e0β14]
      generalize bN β n q11 s9 h9 l9 = β14 at e1β14 ⊢
      subst e1β14
      generalize oN ω n w9 = ω15
      obtain ⟨z16, ez16, h⟩ := nm_some h
      rw [← ez16]
      refine L_widen (a' := 6 * (u + 1)) (b' := 1400 * (u + 1)) (by omega) (by omega) ?_
      refine L_astore X (lv' := [(5, .ref (β14 (n + 1) 0)), (0, .ref ξ.1.1), (1, .ref (β14 0 0)), (2, .ref q), (3, .int a3), (4, .int a4)]) dX8_grown_40 (by decide) rfl ?_
      refine L_aload X 0 dX8_grown_42 rfl ?_
      refine L_iconst X (v := (2 : Int32)) dX8_grown_44 (by decide) ?_
      refine L_aload_n X 1 dX8_grown_45 rfl rfl ?_
      refine L_bipush X (v := (10 : Int32)) dX8_grown_46 (by decide) ?_
      refine L_iload X 5 dX8_grown_48 rfl ?_
      refine L_iadd X dX8_grown_50 ?_
      refine L_bipush X (v := (14 : Int32)) dX8_grown_51 (by decide) ?_
      obtain ⟨q17, hq17, h⟩ := bd_some h
      refine L_cSN X E (As := [.ref ξ.1.1, .int ((10 : Int32) + a4), .int (14 : Int32)]) (rest := [.int (2 : Int32), .ref (β14 (n + 1) 0)]) (cw_L_pick hξ hq17) cal_L_pick nM_X8_49 wT_L_pick ⟨⟨(Nat.le_of_ble_eq_true rfl), (Nat.le_of_ble_eq_true rfl)⟩, by omega, by omega⟩ rfl rfl (Nat.le_of_ble_eq_true rfl) dX8_grown_53 (fun rv T9 hT9 => ?_)
      obtain ⟨rfl, hT9⟩ := hT9
      rw [hT9]
      refine L_iadd X dX8_grown_56 ?_
      obtain ⟨z18, ez18, h⟩ := nm_some h
      refine N_put X (k := 0) (by decide) (by decide) rfl wF_X8_58 rfl rfl (tyX7_ok _ (by decide)) rfl rfl ez18.symm dX8_grown_57 ?_
      refine L_aload X 0 dX8_grown_60 rfl ?_
      refine L_aload_n X 1 dX8_grown_62 rfl rfl ?_
      refine L_bipush X (v := (20 : Int32)) dX8_grown_63 (by decide) ?_
      refine L_iload X 5 dX8_grown_65 rfl ?_
      refine L_iadd X dX8_grown_67 ?_
      refine L_iconst X (v := (2 : Int32)) dX8_grown_68 (by decide) ?_
      obtain ⟨q19, hq19, h⟩ := bd_some h
      refine L_cSN X E (As := [.ref ξ.1.1, .int ((20 : Int32) + a4), .int (2 : Int32)]) (rest := [.ref (β14 (n + 1) 0)]) (cw_L_pick hξ hq19) cal_L_pick nM_X8_49 wT_L_pick ⟨⟨(Nat.le_of_ble_eq_true rfl), (Nat.le_of_ble_eq_true rfl)⟩, by omega, by omega⟩ rfl rfl (Nat.le_of_ble_eq_true rfl) dX8_grown_69 (fun rv T9 hT9 => ?_)
      obtain ⟨rfl, hT9⟩ := hT9
      rw [hT9]
      refine L_aload_n X 1 dX8_grown_72 rfl rfl ?_
      refine L_bipush X (v := (30 : Int32)) dX8_grown_73 (by decide) ?_
      refine L_iload X 5 dX8_grown_75 rfl ?_
      refine L_iadd X dX8_grown_77 ?_
      refine L_aload X 0 dX8_grown_78 rfl ?_
      refine N_get X (k := 0) (by decide) rfl wF_X8_58 rfl rfl dX8_grown_80 ?_
      obtain ⟨q20, hq20, h⟩ := bd_some h
      refine L_cSN X E (As := [.ref ξ.1.1, .int ((30 : Int32) + a4), .int (gI z18 (n + 1) 0 0)]) (rest := [.int q19, .ref (β14 (n + 1) 0)]) (cw_L_pick hξ hq20) cal_L_pick nM_X8_49 wT_L_pick ⟨⟨(Nat.le_of_ble_eq_true rfl), (Nat.le_of_ble_eq_true rfl)⟩, by omega, by omega⟩ rfl rfl (Nat.le_of_ble_eq_true rfl) dX8_grown_83 (fun rv T9 hT9 => ?_)
      obtain ⟨rfl, hT9⟩ := hT9
      rw [hT9]
      refine L_imul X dX8_grown_86 ?_
      obtain ⟨z21, ez21, h⟩ := nm_some h
      refine N_put X (k := 1) (by decide) (by decide) rfl wF_X8_61 rfl rfl (tyX7_ok _ (by decide)) rfl rfl ez21.symm dX8_grown_87 ?_
      refine L_aload_n X 3 dX8_grown_90 rfl rfl ?_
      refine L_ldcS X (i := 2) (List.mem_of_getElem? (i := 12) rfl) dX8_grown_91 ?_
      obtain ⟨g22, h⟩ := gd_some h
      have g22 := of_decide_eq_true g22
      obtain ⟨g23, h⟩ := gd_some h
      have g23 := of_decide_eq_true g23
      obtain ⟨t24, et24, h⟩ := nm_some h
      refine S_str X E (i := 2) hS (by decide) (by omega) wM_X8_66 ⟨⟨(Nat.le_of_ble_eq_true rfl), (Nat.le_of_ble_eq_true rfl)⟩, by omega, by omega⟩ (Nat.le_of_ble_eq_true rfl) dX8_grown_93 (fun v25 cap25 f25 hS25 => ?_)
      rw [← et24] at hS25 ⊢
      refine L_widen (a' := 6 * (u + 1 + 1)) (b' := 1400 * (u + 1 + 1)) (by omega) (by omega) ?_
      refine L_bipush X (v := (97 : Int32)) dX8_grown_96 (by decide) ?_
      refine L_iload X 5 dX8_grown_98 rfl ?_
      refine L_iadd X dX8_grown_100 ?_
      obtain ⟨v26, ev26, h⟩ := nm_some h
      refine L_i2c X dX8_grown_101 ev26.symm ?_
      obtain ⟨g27, h⟩ := gd_some h
      obtain ⟨g28, h⟩ := gd_some h
      have g28 := of_decide_eq_true g28
      obtain ⟨g29, h⟩ := gd_some h
      have g29 := of_decide_eq_true g29
      obtain ⟨t30, et30, h⟩ := nm_some h
      refine S_chr X E hS25 g27 (by omega) wM_X8_70 ⟨⟨(Nat.le_of_ble_eq_true rfl), (Nat.le_of_ble_eq_true rfl)⟩, by omega, by omega⟩ (Nat.le_of_ble_eq_true rfl) dX8_grown_102 (fun v31 cap31 f31 hS31 => ?_)
      rw [← et30] at hS31 ⊢
      refine L_widen (a' := 6 * (u + 1 + 1 + 1)) (b' := 1400 * (u + 1 + 1 + 1)) (by omega) (by omega) ?_
      refine L_ldcS X (i := 4) (List.mem_of_getElem? (i := 13) rfl) dX8_grown_105 ?_
      obtain ⟨g32, h⟩ := gd_some h
      have g32 := of_decide_eq_true g32
      obtain ⟨g33, h⟩ := gd_some h
      have g33 := of_decide_eq_true g33
      obtain ⟨t34, et34, h⟩ := nm_some h
      refine S_str X E (i := 4) hS31 (by decide) (by omega) wM_X8_66 ⟨⟨(Nat.le_of_ble_eq_true rfl), (Nat.le_of_ble_eq_true rfl)⟩, by omega, by omega⟩ (Nat.le_of_ble_eq_true rfl) dX8_grown_107 (fun v35 cap35 f35 hS35 => ?_)
      rw [← et34] at hS35 ⊢
      refine L_widen (a' := 6 * (u + 1 + 1 + 1 + 1)) (b' := 1400 * (u + 1 + 1 + 1 + 1)) (by omega) (by omega) ?_
      refine L_aload X 0 dX8_grown_110 rfl ?_
      refine N_get X (k := 0) (by decide) rfl wF_X8_58 rfl rfl dX8_grown_112 ?_
      obtain ⟨g36, h⟩ := gd_some h
      obtain ⟨g37, h⟩ := gd_some h
      have g37 := of_decide_eq_true g37
      obtain ⟨g38, h⟩ := gd_some h
      have g38 := of_decide_eq_true g38
      obtain ⟨t39, et39, h⟩ := nm_some h
      refine S_int X E hS35 g36 (by omega) wM_X8_75 ⟨⟨(Nat.le_of_ble_eq_true rfl), (Nat.le_of_ble_eq_true rfl)⟩, by omega, by omega⟩ (Nat.le_of_ble_eq_true rfl) dX8_grown_115 (fun v40 cap40 f40 hS40 => ?_)
      rw [← et39] at hS40 ⊢
      refine L_widen (a' := 6 * (u + 1 + 1 + 1 + 1 + 1)) (b' := 1400 * (u + 1 + 1 + 1 + 1 + 1)) (by omega) (by omega) ?_
      refine L_pop X dX8_grown_118 rfl ?_
      refine L_aload X 0 dX8_grown_119 rfl ?_
      refine N_get X (k := 1) (by decide) rfl wF_X8_61 rfl rfl dX8_grown_121 ?_
      refine L_if_le X (tgt := 142) dX8_grown_124 (by decide) (fun c41 => ?_) (fun c41 => ?_)
      · have h := it_t c41 h
        refine L_sub [1, 2, 3, 4, 5, 0] rfl ?_
        exact gX8_grown_b142 X E hξ hf (fun y0 y1 y2 y3 y4 y5 y6 y7 y8 y9 y10 y11 y12 y13 y14 y15 h => ih y0 y1 y2 y3 y4 y5 y6 y7 y8 y9 y10 y11 y12 y13 y14 y15 h) _ _ _ _ _ _ _ n z21 t39 (u + 1 + 1 + 1 + 1 + 1) a3 a4 hS40 (by omega) (by omega) (by omega) h
      · have h := it_f c41 h
        refine L_aload_n X 3 dX8_grown_127 rfl rfl ?_
        refine L_ldcS X (i := 5) (List.mem_of_getElem? (i := 14) rfl) dX8_grown_128 ?_
        obtain ⟨g42, h⟩ := gd_some h
        have g42 := of_decide_eq_true g42
        obtain ⟨g43, h⟩ := gd_some h
        have g43 := of_decide_eq_true g43
        obtain ⟨t44, et44, h⟩ := nm_some h
        refine S_str X E (i := 5) hS40 (by decide) (by omega) wM_X8_66 ⟨⟨(Nat.le_of_ble_eq_true rfl), (Nat.le_of_ble_eq_true rfl)⟩, by omega, by omega⟩ (Nat.le_of_ble_eq_true rfl) dX8_grown_130 (fun v45 cap45 f45 hS45 => ?_)
        rw [← et44] at hS45 ⊢
        refine L_widen (a' := 6 * (u + 1 + 1 + 1 + 1 + 1 + 1)) (b' := 1400 * (u + 1 + 1 + 1 + 1 + 1 + 1)) (by omega) (by omega) ?_
        refine L_aload X 0 dX8_grown_133 rfl ?_
        refine N_get X (k := 1) (by decide) rfl wF_X8_61 rfl rfl dX8_grown_135 ?_
        obtain ⟨g46, h⟩ := gd_some h
        obtain ⟨g47, h⟩ := gd_some h
        have g47 := of_decide_eq_true g47
        obtain ⟨g48, h⟩ := gd_some h
        have g48 := of_decide_eq_true g48
        obtain ⟨t49, et49, h⟩ := nm_some h
        refine S_int X E hS45 g46 (by omega) wM_X8_75 ⟨⟨(Nat.le_of_ble_eq_true rfl), (Nat.le_of_ble_eq_true rfl)⟩, by omega, by omega⟩ (Nat.le_of_ble_eq_true rfl) dX8_grown_138 (fun v50 cap50 f50 hS50 => ?_)
        rw [← et49] at hS50 ⊢
        refine L_widen (a' := 6 * (u + 1 + 1 + 1 + 1 + 1 + 1 + 1)) (b' := 1400 * (u + 1 + 1 + 1 + 1 + 1 + 1 + 1)) (by omega) (by omega) ?_
        refine L_pop X dX8_grown_141 rfl ?_
        refine L_sub [1, 2, 3, 4, 5, 0] rfl ?_
        exact gX8_grown_b142 X E hξ hf (fun y0 y1 y2 y3 y4 y5 y6 y7 y8 y9 y10 y11 y12 y13 y14 y15 h => ih y0 y1 y2 y3 y4 y5 y6 y7 y8 y9 y10 y11 y12 y13 y14 y15 h) _ _ _ _ _ _ _ n z21 t49 (u + 1 + 1 + 1 + 1 + 1 + 1 + 1) a3 a4 hS50 (by omega) (by omega) (by omega) h
set_option maxRecDepth 20000 in
theorem cw_X8_grown {l : Launch} {κ : KX} {ξ : XI} {R : va_W} {Ln : Nat} {xs : Nat → Int32} {res : Nat × St × List Int32} (hξ : ξ.1.2 = (Ln, xs)) (h : sX8_grown Ln xs = some res) : CtM l κ ξ yX8_grown cX8_grown 6 (some (.object "RadioBeaconsLaw$World")) 6 171 1200 280000 [.ref ξ.1.1] R (fun rv T9 => ∃ (β : Nat → Nat → Nat) (ω : Nat → Nat) (z z2 : Nat) (f2 : Nat → Int32), rv = some (.ref (β 0 0)) ∧ (∀ i, i < res.2.2.length → f2 i = res.2.2.getD i 0) ∧ T9 = wsB κ res.1 β ω ξ.2.1 z res.2.1 ++ (z, .inr (12, [.ref z2, .int 0, .int 0, .int 0])) :: (z2, .inl (κ.2.1 2, res.2.2.length, .inl f2)) :: R) := by
  refine CtM_a RX8 rfl (by decide +kernel) rfl (Nat.le_of_ble_eq_true rfl) (fun g hgl hgκ X E hf => ?_)
  subst hgl; subst hgκ
  unfold sX8_grown at h
  refine L_new X (C := RX8) (Tf := TX8) (N := 12) (ci := 8) (ty0 := tyX8) (fs := fzX8) rfl iX8 tyX8_ok wCl_X8_8 wN_X8 w0_X8 hzX8 (by omega) (by omega) dX8_grown_0 (fun q1 => ?_)
  refine L_dup X dX8_grown_3 rfl ?_
  refine L_cI X E (As := []) (rest := [.ref q1]) (cm_X8_init) cal_X8_init wM_X8_45 rfl wI_X8_init ⟨⟨(Nat.le_of_ble_eq_true rfl), (Nat.le_of_ble_eq_true rfl)⟩, by omega, by omega⟩ rfl rfl (Nat.le_of_ble_eq_true rfl) dX8_grown_4 (fun rv T1 hT => ?_)
  obtain ⟨β, ω, hβ, rfl, hT⟩ := hT
  subst hβ
  rw [hT]
  refine L_widen (a' := 6 * (3)) (b' := 1400 * (3)) (by omega) (by omega) ?_
  refine L_astore_n X (lv' := [(1, .ref (β 0 0)), (0, .ref ξ.1.1)]) dX8_grown_7 rfl (by decide) rfl ?_
  refine L_new X (C := RJ4) (Tf := TJ4) (N := 4) (ci := 11) (ty0 := tyJ4) (fs := fzJ4) rfl iJ4 tyJ4_ok wCl_X8_46 wN_J4 w0_J4 hzJ4 (by omega) (by omega) dX8_grown_8 (fun q2 => ?_)
  refine L_dup X dX8_grown_11 rfl ?_
  refine L_cI X E (As := []) (rest := [.ref q2]) (cm_J4_init_da8c8) cal_J4_init_da8c8 wM_X8_48 rfl wI_J4_init_da8c8 ⟨⟨(Nat.le_of_ble_eq_true rfl), (Nat.le_of_ble_eq_true rfl)⟩, by omega, by omega⟩ rfl rfl (Nat.le_of_ble_eq_true rfl) dX8_grown_12 (fun rv T1 hT => ?_)
  obtain ⟨v, rfl, hT⟩ := hT
  rw [hT]
  have hS : SBt [] 16 (fun _ => 0) := sbt_nil
  refine L_perm S_pm.symm ?_
  refine L_widen (a' := 6 * (4)) (b' := 1400 * (4)) (by omega) (by omega) ?_
  refine L_astore_n X (lv' := [(2, .ref q2), (1, .ref (β 0 0)), (0, .ref ξ.1.1)]) dX8_grown_15 rfl (by decide) rfl ?_
  refine L_aload_n X 2 dX8_grown_16 rfl rfl ?_
  refine L_iconst X (v := (1 : Int32)) dX8_grown_17 (by decide) ?_
  refine L_bipush X (v := (6 : Int32)) dX8_grown_18 (by decide) ?_
  obtain ⟨q3, hq3, h⟩ := bd_some h
  refine L_cSN X E (As := [.ref ξ.1.1, .int (1 : Int32), .int (6 : Int32)]) (rest := []) (cw_L_pick hξ hq3) cal_L_pick nM_X8_49 wT_L_pick ⟨⟨(Nat.le_of_ble_eq_true rfl), (Nat.le_of_ble_eq_true rfl)⟩, by omega, by omega⟩ rfl rfl (Nat.le_of_ble_eq_true rfl) dX8_grown_20 (fun rv T9 hT9 => ?_)
  obtain ⟨rfl, hT9⟩ := hT9
  rw [hT9]
  refine L_istore_n X (lv' := [(3, .int q3), (2, .ref q2), (1, .ref (β 0 0)), (0, .ref ξ.1.1)]) dX8_grown_23 rfl (by decide) rfl ?_
  refine L_iconst X (v := (0 : Int32)) dX8_grown_24 (by decide) ?_
  refine L_istore X (lv' := [(4, .int (0 : Int32)), (3, .int q3), (2, .ref q2), (1, .ref (β 0 0)), (0, .ref ξ.1.1)]) dX8_grown_25 (by decide) rfl ?_
  refine L_sub [4, 3, 2, 1, 0] rfl ?_
  exact gX8_grown_b27 X E hξ hf FU _ _ _ _ _ _ _ 0 Yw ([]) 4 q3 (0 : Int32) hS (by omega) (by omega) h
