/-! the law's first steps -/
/-- the addresses of all regions -/
def adL (AD : Nat → Nat → Nat → Nat) (fM : Nat → Nat) (q3 : Nat) : ADt := fun r => match r with
  | 0 => AD 0 | 1 => AD 1 | 2 => AD 2 | 3 => AD 3 | 4 => AD 4 | 5 => AD 5 | 6 => AD 6 | 7 => AD 7 | 8 => AD 8
  | 9 => fun _ j => fM j
  | 10 => fun _ _ => q3
  | k + 11 => AD (k + 11)
theorem law_start {p : Program} {l : Launch} {e : Env} {R : Room} {s : State} {m : MethodId} {args : Array Value} {below : List Frame} {meth : Method} {c : Code} {Q : State → Prop} {κ : KX} {b0 : Nat}
    (X : CL (p, l, e, R, s, m, args, below, meth, c, κ, Q) RL cL_law 9 14 538 601024 7293034)
    (K : ∀ ad : ADt, KOK (κ.1, κ.2.1, ad, κ.2.2.2) → G (p, l, e, R, s, m, args, below, meth, c, (κ.1, κ.2.1, ad, κ.2.2.2), Q) 1000 30000 T0 23 [(0, .ref b0), (1, .ref (ad 8 0 0)), (2, .ref (ad 9 0 0)), (3, .ref (ad 10 0 0)), (4, .int (nI 0))] []) :
    L (p, l, e, R, s, m, args, below, meth, c, κ, Q) 0 0 [] 0 [(0, .ref b0)] [] := by
  refine L_new X (C := RX6) (Tf := TX6) (N := 13) (ci := 6) (ty0 := tyX6) (fs := fzX6) rfl iX6 tyX6_ok wCl_L_8 wN_X6 w0_X6 hzX6 (Nat.le_of_ble_eq_true rfl) (Nat.le_of_ble_eq_true rfl) dL_law_0 (fun q1 => ?_)
  refine L_dup X dL_law_3 rfl ?_
  refine L_initP X (cn_X6 _ _ q1 _) cal_X6_init wM_L_129 rfl wI_X6_init ⟨(Nat.le_of_ble_eq_true rfl), (Nat.le_of_ble_eq_true rfl)⟩ rfl rfl (Nat.le_of_ble_eq_true rfl) ⟨(Nat.le_of_ble_eq_true rfl), (Nat.le_of_ble_eq_true rfl)⟩ dL_law_4 (fun T1 hT1 => ?_)
  obtain ⟨AD, hq1, rfl⟩ := hT1
  subst hq1
  refine L_astore_n X dL_law_7 rfl (by decide) rfl ?_
  refine L_new X (C := RX7) (Tf := TX7) (N := 35) (ci := 7) (ty0 := tyX7) (fs := fzX7) rfl iX7 tyX7_ok wCl_L_130 wN_X7 w0_X7 hzX7 (Nat.le_of_ble_eq_true rfl) (Nat.le_of_ble_eq_true rfl) dL_law_8 (fun q2 => ?_)
  refine L_dup X dL_law_11 rfl ?_
  refine L_initP X (cn_X7 _ _ q2 _) cal_X7_init wM_L_132 rfl wI_X7_init ⟨(Nat.le_of_ble_eq_true rfl), (Nat.le_of_ble_eq_true rfl)⟩ rfl rfl (Nat.le_of_ble_eq_true rfl) ⟨(Nat.le_of_ble_eq_true rfl), (Nat.le_of_ble_eq_true rfl)⟩ dL_law_12 (fun T1 hT1 => ?_)
  obtain ⟨fM, hq2, rfl⟩ := hT1
  subst hq2
  refine L_astore_n X dL_law_15 rfl (by decide) rfl ?_
  refine L_iconst X (v := 1) dL_law_16 rfl ?_
  refine L_newa X (atype := .long) (ty := .long) (t := 2) (N := 1) (a0 := (1, .inr (.inl (fun _ => 0)))) rfl wA_265 rfl (fun _ => rfl) (by decide) rfl (Nat.le_of_ble_eq_true rfl) (Nat.le_of_ble_eq_true rfl) (Nat.le_of_ble_eq_true rfl) dL_law_17 (fun q3 => ?_)
  refine L_astore_n X dL_law_19 rfl (by decide) rfl ?_
  refine L_iconst X (v := 0) dL_law_20 rfl ?_
  refine L_istore X dL_law_21 (by decide) rfl ?_
  refine L_sub [4, 3, 2, 1, 0] rfl ?_
  refine L_widen (a' := 1000) (b' := 30000) (Nat.le_of_ble_eq_true rfl) (Nat.le_of_ble_eq_true rfl) ?_
  intro H locs ls hP hS hl
  have hP : WDs κ ((q3, .inl (κ.2.1 3, 1, .inr (.inl (fun _ => 0)))) :: (mL κ fM ++ oL κ AD [])) H := hP
  have e1 : ((q3, (.inl (κ.2.1 3, 1, .inr (.inl (fun _ => 0))) : va_E)) :: (mL κ fM ++ oL κ AD [])) = PX.map (cF (κ.1, κ.2.1, adL AD fM q3, κ.2.2.2) T0) := by
    unfold PX
    rw [List.map_cons, List.map_append, ← eM, ← eO]
    rfl
  rw [e1] at hP
  have hW : WDs κ (wsO (κ.1, κ.2.1, adL AD fM q3, κ.2.2.2) T0) H := hP.perm (PX_perm.map _)
  have hK : KOK (κ.1, κ.2.1, adL AD fM q3, κ.2.2.2) := va_D_map (κ := (κ.1, κ.2.1, adL AD fM q3, κ.2.2.2)) (L := PL) (f := fun p => adL AD fM q3 p.1 p.2.1 p.2.2) (e := fun p => cE (κ.1, κ.2.1, adL AD fM q3, κ.2.2.2) T0 p.1 p.2.1 p.2.2) (e' := fun _ => Sum.inr (0, [])) hW.2
  exact K (adL AD fM q3) hK H locs ls hW.1 hS hl
