/-! the law's first steps -/
theorem oL_app {κ : KX} {AD : Nat → Nat → Nat → Nat} {wr : va_W} : oL κ AD wr = oL κ AD [] ++ wr := by
  unfold oL
  simp only [List.append_assoc, List.append_nil]
theorem nz_b {v : Int32} (h : nz v = true) : ¬ v = 0 := nz_ne h
set_option maxRecDepth 20000 in
theorem law_start {p : Program} {l : Launch} {e : Env} {s : State} {m : MethodId} {args : Array Value} {below : List Frame} {meth : Method} {c : Code} {Q : State → Prop} {κ : KX} {R9 : Room} {ξ : XI} {Ln : Nat} {xs : Nat → Int32}
    (X : CL (p, l, e, R9, s, m, args, below, meth, c, κ, Q) RL cL_law 4 13 496 600086 7301442) (E : XE (p, l, e, R9, s, m, args, below, meth, c, κ, Q) ξ) (hξ : ξ.1.2 = (Ln, xs))
    (hf : ∀ (ad : ADt) (T : va_W) (pc : Nat) (lo : List (Nat × Value)), decode cL_law pc = .ok (.ireturn, 1) → L (p, l, e, R9, s, m, args, below, meth, c, (κ.1, κ.2.1, ad, κ.2.2.2), Q) 600086 7301442 T pc lo [.int 1])
    (h : sL_law Ln xs = some ()) : L (p, l, e, R9, s, m, args, below, meth, c, κ, Q) 0 0 [] 0 [(0, .ref ξ.1.1)] [] := by
  unfold sL_law at h
  obtain ⟨w, hw, h⟩ := bd_some h
  obtain ⟨hn, h⟩ := gd_some h
  have hn := of_decide_eq_true hn
  obtain ⟨ht, h⟩ := gd_some h
  have ht := of_decide_eq_true ht
  obtain ⟨f, hfe, h⟩ := bd_some h
  obtain ⟨g1, h⟩ := gd_some h
  obtain ⟨r, hr, h⟩ := bd_some h
  obtain ⟨g2, h⟩ := gd_some h
  have g2 := of_decide_eq_true g2
  refine L_aload_n X 0 dL_law_0 rfl rfl ?_
  refine L_cS X E (As := [.ref ξ.1.1]) (rest := []) (cw_X8_grown (R := []) hξ hw) cal_X8_grown wM_L_220 wT_X8_grown ⟨⟨Nat.le_of_ble_eq_true rfl, Nat.le_of_ble_eq_true rfl⟩, by omega, by omega⟩ rfl rfl (Nat.le_of_ble_eq_true rfl) dL_law_1 (fun rv T9 hT9 => ?_)
  obtain ⟨β, ω, z, z2, f2, rfl, hf2, hT9⟩ := hT9
  rw [hT9]
  refine L_astore_n X (lv' := [(1, .ref (β 0 0)), (0, .ref ξ.1.1)]) dL_law_4 rfl (by decide) rfl ?_
  refine L_new X (C := RX6) (Tf := TX6) (N := 13) (ci := 6) (ty0 := tyX6) (fs := fzX6) rfl iX6 tyX6_ok wCl_L_27 wN_X6 w0_X6 hzX6 (Nat.le_of_ble_eq_true rfl) (Nat.le_of_ble_eq_true rfl) dL_law_5 (fun q1 => ?_)
  refine L_dup X dL_law_8 rfl ?_
  refine L_initP X (cn_X6 _ _ q1 _) cal_X6_init wM_L_224 rfl wI_X6_init ⟨(Nat.le_of_ble_eq_true rfl), (Nat.le_of_ble_eq_true rfl)⟩ rfl rfl (Nat.le_of_ble_eq_true rfl) ⟨(Nat.le_of_ble_eq_true rfl), (Nat.le_of_ble_eq_true rfl)⟩ dL_law_9 (fun T1 hT1 => ?_)
  obtain ⟨AD, hq1, rfl⟩ := hT1
  subst hq1
  rw [oL_app]
  -- the object's cells count as its regions from here on
  refine (?_ : L (p, l, e, R9, s, m, args, below, meth, c, (κ.1, κ.2.1, AD, κ.2.2.2), Q) _ _ (oL (κ.1, κ.2.1, AD, κ.2.2.2) AD [] ++ _) _ _ _)
  have hf := hf AD
  have X2 : CL (p, l, e, R9, s, m, args, below, meth, c, (κ.1, κ.2.1, AD, κ.2.2.2), Q) RL cL_law 4 13 496 600086 7301442 := X
  have E2 : XE (p, l, e, R9, s, m, args, below, meth, c, (κ.1, κ.2.1, AD, κ.2.2.2), Q) ξ := E
  clear X E
  generalize hg : ((p, l, e, R9, s, m, args, below, meth, c, (κ.1, κ.2.1, AD, κ.2.2.2), Q) : GX) = g at X2 E2 hf ⊢
  have ek : gκ g = (κ.1, κ.2.1, AD, κ.2.2.2) := by subst hg; rfl
  have e3 : (gκ g).2.2.1 = AD := by rw [ek]
  have e1 : oL (κ.1, κ.2.1, AD, κ.2.2.2) AD [] = PO.map (cF (gκ g) T0) := by rw [← eO, ek]
  have e2 : gκ ((p, l, e, R9, s, m, args, below, meth, c, κ, Q) : GX) = κ := rfl
  have e4 : ∀ n β ω e0 tx Y, wsB κ n β ω e0 tx Y = wsB (gκ g) n β ω e0 tx Y := by intro n β ω e0 tx Y; rw [ek]; rfl
  have e5 : κ.2.1 = (gκ g).2.1 := by rw [ek]
  rw [e1, e2, e4, e5]
  have e6 : AD 8 0 0 = xE (gκ g) 8 0 0 := by rw [ek]
  rw [e6]
  refine L_perm (T' := wsB (gκ g) w.1 β ω ξ.2.1 z w.2.1 ++ ((z, .inr (12, [.ref z2, .int 0, .int 0, .int 0])) :: (z2, .inl ((gκ g).2.1 2, w.2.2.length, .inl f2)) :: wsO (gκ g) T0)) ?_ ?_
  · refine List.perm_append_comm.trans ?_
    rw [List.append_assoc]
    refine List.Perm.append_left _ ?_
    show ((z, _) :: (z2, _) :: ([] ++ PO.map (cF (gκ g) T0))).Perm _
    exact List.Perm.cons _ (List.Perm.cons _ (PO_perm.map _))
  refine L_astore_n X2 (lv' := [(2, .ref (xE (gκ g) 8 0 0)), (1, .ref (β 0 0)), (0, .ref ξ.1.1)]) dL_law_12 rfl (by decide) rfl ?_
  refine L_aload_n X2 0 dL_law_13 rfl rfl ?_
  refine L_aload_n X2 1 dL_law_14 rfl rfl ?_
  refine B_get X2 hn (N := 12) (k := 11) (c := 8) (o := 0) (j := 0) rfl rfl rfl iX8 rfl (by decide) rfl wF_L_225 rfl dL_law_15 ?_
  refine L_perm (T' := (z, .inr (12, [.ref z2, .int 0, .int 0, .int 0])) :: (z2, .inl ((gκ g).2.1 2, w.2.2.length, .inl f2)) :: (wsB (gκ g) w.1 β ω ξ.2.1 z w.2.1 ++ wsO (gκ g) T0)) S_pm ?_
  refine L_cS X2 E2 (As := [.ref (xE (gκ g) 8 0 0), .ref z]) (rest := []) (cw_L_feeds (t := w.2.2) ⟨by omega, hf2⟩ hfe) cal_L_feeds wM_L_229 wT_L_feeds ⟨⟨Nat.le_of_ble_eq_true rfl, Nat.le_of_ble_eq_true rfl⟩, by omega, by omega⟩ rfl rfl (Nat.le_of_ble_eq_true rfl) dL_law_18 (fun rv T9 hT9 => ?_)
  obtain ⟨rfl, hT9⟩ := hT9
  rw [hT9]
  refine L_tail (L_tail ?_)
  refine L_if_eq X2 (tgt := 40) dL_law_21 (by decide) (fun c => absurd c (nz_ne g1)) (fun _ => ?_)
  refine L_aload_n X2 0 dL_law_24 rfl rfl ?_
  refine L_cC X2 (B := wsB (gκ g) w.1 β ω ξ.2.1 z w.2.1) (Tl' := wsB (gκ g) w.1 β ω ξ.2.1 z w.2.1 ++ wsO (gκ g) r.1) rfl rfl (fun κ => gT_X6_readText (r := r) hr) cal_X6_readText wM_L_233 wI_X6_readText wS_X6_readText ⟨⟨Nat.le_of_ble_eq_true rfl, Nat.le_of_ble_eq_true rfl⟩, by omega, by omega⟩ (As := []) (rest := []) rfl rfl (Nat.le_of_ble_eq_true rfl) dL_law_25 rfl ?_
  refine L_aload_n X2 1 dL_law_28 rfl rfl ?_
  refine B_get X2 hn (N := 12) (k := 10) (c := 8) (o := 0) (j := 0) rfl rfl rfl iX8 rfl (by decide) rfl wF_L_40 rfl dL_law_29 ?_
  refine B_size X2 E2 hn wM_L_46 ⟨⟨Nat.le_of_ble_eq_true rfl, Nat.le_of_ble_eq_true rfl⟩, by omega, by omega⟩ (Nat.le_of_ble_eq_true rfl) dL_law_32 ?_
  refine L_icmp_eq X2 (tgt := 42) dL_law_37 (by decide) (fun _ => ?_) (fun c => absurd g2 c)
  refine L_iconst X2 (v := (0 : Int32)) dL_law_42 (by decide) ?_
  refine L_istore_n X2 (lv' := [(3, .int 0), (2, .ref (xE (gκ g) 8 0 0)), (1, .ref (β 0 0)), (0, .ref ξ.1.1)]) dL_law_43 rfl (by decide) rfl ?_
  refine L_sub [3, 2, 1, 0] rfl ?_
  refine L_widen (a' := 5000 + 300 * 0) (b' := 400000 + 5000 * 0) (by omega) (by omega) ?_
  exact gL_law_b44 X2 E2 hn hξ hf FU ω r.1 w.2.1 0 0 (by omega) h
