/-! the model's constructor -/
def QcNi (κ : KX) (ws : va_W) (v : Int32) : Array Value → State → Outcome → State → Prop := fun _ st o t => (o = .returned (some (.int v)) ∧ WDs κ ws t.heap) ∧ va_F (kA κ) st t
def CtNi (l : Launch) (κ : KX) (y : MethodName) (cc : ByteArray) (mx fr lo : Nat) (av : List Value) (ws : va_W) (v : Int32) : Prop :=
  l.stackTraces = false → Met l y (wsK y cc mx (some .int)) (rmN fr lo 0 0) (va_Pc av (PreN κ ws)) (QcNi κ ws v) 0 0 (kA κ)
def FinNi (g : GX) (cc : ByteArray) (T : va_W) (v : Int32) : Prop := ∀ pc lo, decode cc pc = .ok (.ireturn, 1) → L g 0 0 T pc lo [.int v]
theorem CtNi_of {l : Launch} {κ : KX} {y : MethodName} {cc : ByteArray} {mx fr lo : Nat} {av : List Value} {ws : va_W} {v : Int32} (own : String) (ho : y.cls = own) (hy : plainName y.cls = true) (hn : (lg_sl av).length ≤ mx)
    (k : ∀ g : GX, g.2.1 = l → gκ g = κ → CL g own cc mx fr lo 0 0 → FinNi g cc ws v → L g 0 0 ws 0 (lv_args 0 av) []) : CtNi l κ y cc mx fr lo av ws v := by
  intro hl
  subst ho
  refine Met.ofW (cc := cc) (maxL := mx) (ret := some .int) hy rfl ?_
  intro p e s m args below meth c s₁ B hml hv
  obtain ⟨rfl, hv⟩ := hv
  rw [lg_entry_eq]
  have X : ∀ Q : State → Prop, CL (p, l, e, rmN fr lo 0 0, s, m, av.toArray, below, meth, c, κ, Q) y.cls cc mx fr lo 0 0 := fun Q =>
    ⟨B.exec, B.bytes, hml, findClass_of_methodNamed B.named, fun w hw => atoms_spec (ws := wsK y cc mx (some .int)) B.pre w (List.mem_cons_of_mem _ hw), hv.2.1, ⟨rfl, rfl, hv.2.2.2.2.1, hv.2.2.2.2.2⟩, hv.2.2.1, rfl, rfl, hv.2.2.2.1, hl, B.notSynchronized⟩
  refine k (p, l, e, rmN fr lo 0 0, s, m, av.toArray, below, meth, c, κ, _) rfl rfl (X _) ?_ s.heap [] _ hv.1 va_S.rf (by show lv_has _ c.maxLocals _; rw [hml]; exact lv_entry av hn)
  intro pc lo2 hd H locs ls hP hS hls
  exact W.zret (hlocks := B.notSynchronized) B.exec B.bytes B.returns rfl (fun t ht _ => ⟨⟨rfl, by rw [ht]; exact hP⟩, hS.F ht⟩) (fun q hq => hS.2.2 q hq) hd
section
variable {p : Program} {l : Launch} {e : Env} {R : Room} {s : State} {m : MethodId} {args : Array Value} {below : List Frame} {meth : Method} {c : Code} {H : Heap} {locs : List Loc} {a b : Nat} {Q : State → Prop}
theorem run_Li {κ : KX} {ws : va_W} {v : Int32} {pc : Nat} {ls : Array Slot} {st0 rest : List Value} {av : Array Value} {H0 : Heap} (hr : va_Run p l e R s m args below meth c H locs a b 0 0 (F0 m pc ls st0) rest (QcNi κ ws v av) (kA κ)) (hS : va_S (kA κ) H0 H locs)
    (kk : ∀ (H1 : Heap) (locs1 : List Loc), WDs κ ws H1 → va_S (kA κ) H0 H1 locs1 → W p l e R s m args below meth c H1 locs1 a b Q (F0 m (pc + 3) ls (.int v :: rest))) : W p l e R s m args below meth c H locs a b Q (F0 m pc ls st0) := by
  intro T hT X
  obtain ⟨v, st₀, t, T', L, h0, X', hL, e1, e2, ⟨⟨hv, hP⟩, hF⟩, st⟩ := hr T hT X
  cases hv
  obtain ⟨-, -, k3⟩ := vx_keep h0 e1 hS (fun q _ h => h) (fun q h => h) hL hF
  obtain ⟨t2, a1, b1⟩ := kk T'.heap (locs ++ L) (by rw [e1]; exact hP) k3 T' rfl X'
  exact ⟨t2, st t2 a1, b1⟩
end
theorem L_callS {g : GX} {a b : Nat} {T : va_W} {pc : Nat} {lo : List (Nat × Value)} {own : String} {cc : ByteArray} {nL FR LO RC RS : Nat} {index : Nat} {y : MethodName} {bytes : ByteArray} {mx fr lo2 n : Nat} {As rest : List Value} {v : Int32} (X : CL g own cc nL FR LO RC RS) (hM : CtNi g.2.1 (gκ g) y bytes mx fr lo2 As T v) (cal : Cal y bytes mx (some .int) n) (hl : Cond.methodLink own index y ∈ WG) (hs : Cond.static y ∈ WG) (hR : fr + 1 ≤ FR ∧ 8 + (mx + 11) + lo2 ≤ LO) (hn : As.length = n) {st : List Value} (hst : st = As.reverse ++ rest) (hc : (rest.map fun v => v.category).sum ≤ 8) (hab : a ≤ RC ∧ b ≤ RS)
    (hd : decode cc pc = .ok (.invokestatic index, 3)) (k : L g a b T (pc + 3) lo (.int v :: rest)) : L g a b T pc lo st := by
  intro H locs ls hP hS hls
  refine run_Li (va_runS (CL_fix X) (hM X.2.2.2.2.2.2.2.2.2.2.2.1) ⟨callB_of n X.2.2.2.2.1 (wsK_in cal.1) rfl rfl rfl (X.2.2.2.2.1 _ cal.2.1) (X.2.2.2.2.1 _ hl) cal.2.2 (by rw [X.2.2.2.2.2.2.2.2.1, X.2.2.2.2.2.2.2.2.2.1]; exact hR), X.2.2.2.2.1 _ hs⟩ ⟨PreN.blind, fun U hU hW => ⟨rfl, CL_pre X hP hS hU hW⟩⟩ rfl hn (hls.1.trans X.2.2.1) hst (lv_room hc) hd (by rw [X.2.2.2.2.2.2.1.1, X.2.2.2.2.2.2.1.2.1]; exact hab)) hS (fun H1 locs1 hP1 hS1 => k H1 locs1 ls hP1 hS1 hls)
theorem cn_cell (l : Launch) (κ : KX) (x y : Int32) (ws : va_W) : CtNi l κ yX7_cellOf cX7_cellOf 2 0 0 [.int x, .int y] ws (21 + 43 * x + y) := by
  refine CtNi_of RX7 rfl (by decide) (Nat.le_of_ble_eq_true rfl) (fun g hgl hgκ X hfin => ?_)
  refine L_bipush X (v := 21) dX7_cellOf_0 rfl ?_
  refine L_bipush X (v := 43) dX7_cellOf_2 rfl ?_
  refine L_iload_n X 0 dX7_cellOf_4 rfl rfl ?_
  refine L_imul X dX7_cellOf_5 ?_
  refine L_iadd X dX7_cellOf_6 ?_
  refine L_iload_n X 1 dX7_cellOf_7 rfl rfl ?_
  refine L_iadd X dX7_cellOf_8 ?_
  exact hfin _ _ dX7_cellOf_9
theorem cn_sets (l : Launch) (κ : KX) (h qs : Nat) (fs : List Value) (f : Nat → Int32) (x y v : Int32) (wr : va_W) (hfs : fs[13]? = some (.ref qs)) (hi : inb (21 + 43 * x + y) 365 = true) :
    CtN l κ yX7_sets cX7_sets 4 1 30 0 0 [.ref h, .int x, .int y, .int v] ((h, .inr (7, fs)) :: (qs, .inl (κ.2.1 1, 365, .inl f)) :: wr) (fun T => T = (h, .inr (7, fs)) :: (qs, .inl (κ.2.1 1, 365, .inl (upd f (ix (21 + 43 * x + y)) v))) :: wr) := by
  refine CtN_of RX7 rfl (by decide) (Nat.le_of_ble_eq_true rfl) (fun g hgl hgκ X _ hfin => ?_)
  subst hgl hgκ
  refine L_aload_n X 0 dX7_sets_0 rfl rfl ?_
  refine L_get X (C := RX7) (Tf := TX7) (N := 35) (c := 7) (k := 13) rfl iX7 (by decide) rfl wF_X7_20 0 rfl hfs dX7_sets_1 ?_
  refine L_iload_n X 1 dX7_sets_4 rfl rfl ?_
  refine L_iload_n X 2 dX7_sets_5 rfl rfl ?_
  refine L_callS X (cn_cell _ _ x y _) cal_X7_cellOf wM_X7_145 wT_X7_cellOf ⟨(Nat.le_of_ble_eq_true rfl), (Nat.le_of_ble_eq_true rfl)⟩ rfl rfl (Nat.le_of_ble_eq_true rfl) ⟨(Nat.le_of_ble_eq_true rfl), (Nat.le_of_ble_eq_true rfl)⟩ dX7_sets_6 ?_
  refine L_iload_n X 3 dX7_sets_9 rfl rfl ?_
  refine L_iast X (n := 365) (T' := (h, .inr (7, fs)) :: (qs, .inl ((gκ g).2.1 1, 365, .inl (upd f (ix (21 + 43 * x + y)) v))) :: wr) 1 rfl hi rfl dX7_sets_10 ?_
  exact hfin _ _ _ dX7_sets_11 rfl
/-- what clears() leaves -/
def sIn (i : Nat) (f : Nat → Int32) : Nat → Nat → Int32
  | 0 => f
  | j + 1 => upd (upd (sIn i f j) (ix (21 + 43 * nI i + (19 + nI j))) (-1)) (ix (21 + 43 * nI i + (35 + nI j))) 5
def sOut : Nat → Nat → Int32
  | 0 => fun _ => 0
  | i + 1 => sIn i (sOut i) 8
def sZ : Nat → Int32 := upd (upd (upd (upd (upd (upd (upd (sOut 8) 7 1) 2 3) 3 99) 8 1) 9 5) 10 3) 11 9
theorem t365 : ∀ k, k < 365 → (¬ (365 : Int32) ≤ nI k) ∧ inb (nI k) 365 = true ∧ nI k + Int32.ofInt 1 = nI (k + 1) := by decide +kernel
theorem t8 : ∀ k, k < 8 → (¬ (8 : Int32) ≤ nI k) ∧ inb (nI k) 8 = true ∧ nI k + Int32.ofInt 1 = nI (k + 1) := by decide +kernel
theorem t88 : ∀ i, i < 8 → ∀ j, j < 8 → inb (21 + 43 * nI i + (19 + nI j)) 365 = true ∧ inb (21 + 43 * nI i + (35 + nI j)) 365 = true := by decide +kernel
theorem upd_z (k : Nat) : upd (fun _ => (0 : Int32)) k 0 = fun _ => 0 := funext fun q => by unfold upd; split <;> rfl
theorem updL_z (k : Nat) : vp_updL (fun _ => (0 : Int64)) k 0 = fun _ => 0 := funext fun q => by unfold vp_updL; split <;> rfl
abbrev cT (κ : KX) (h qs qn : Nat) (fs : List Value) (wr : va_W) (f : Nat → Int32) : va_W := (h, .inr (7, fs)) :: (qs, .inl (κ.2.1 1, 365, .inl f)) :: (qn, .inl (κ.2.1 3, 8, .inr (.inl (fun _ => 0)))) :: wr
section
variable {g : GX} {h qs qn : Nat} {fs : List Value} {wr : va_W}
theorem cl_A (X : CL g RX7 cX7_clears 3 2 60 0 0) (hfs : fs[13]? = some (.ref qs)) (K : L g 0 0 (cT (gκ g) h qs qn fs wr (fun _ => 0)) 22 [(1, .int (nI 365)), (0, .ref h)] []) :
    ∀ n k, k + n = 365 → L g 0 0 (cT (gκ g) h qs qn fs wr (fun _ => 0)) 2 [(1, .int (nI k)), (0, .ref h)] [] := by
  intro n
  induction n with
  | zero =>
    intro k hk
    obtain rfl : k = 365 := by omega
    refine L_iload_n X 0 dX7_clears_2 rfl rfl ?_
    refine L_sipush X (v := 365) dX7_clears_3 rfl ?_
    exact L_icmp_ge X (tgt := 22) dX7_clears_6 rfl (fun _ => K) (fun hn => absurd (by decide) hn)
  | succ n ih =>
    intro k hk
    obtain ⟨h1, h2, h3⟩ := t365 k (by omega)
    refine L_iload_n X 0 dX7_clears_2 rfl rfl ?_
    refine L_sipush X (v := 365) dX7_clears_3 rfl ?_
    refine L_icmp_ge X (tgt := 22) dX7_clears_6 rfl (fun hn => absurd hn h1) (fun _ => ?_)
    refine L_aload_n X 1 dX7_clears_9 rfl rfl ?_
    refine L_get X (C := RX7) (Tf := TX7) (N := 35) (c := 7) (k := 13) rfl iX7 (by decide) rfl wF_X7_20 0 rfl hfs dX7_clears_10 ?_
    refine L_iload_n X 0 dX7_clears_13 rfl rfl ?_
    refine L_iconst X (v := 0) dX7_clears_14 rfl ?_
    refine L_iast X (n := 365) (f := fun _ => 0) (T' := cT (gκ g) h qs qn fs wr (fun _ => 0)) 1 rfl h2 (by rw [upd_z]; rfl) dX7_clears_15 ?_
    refine L_iinc X (v := nI (k + 1)) 0 dX7_clears_16 rfl h3 (by decide) rfl ?_
    refine L_goto X (tgt := 2) dX7_clears_19 rfl ?_
    exact ih (k + 1) (by omega)
theorem cl_C (X : CL g RX7 cX7_clears 3 2 60 0 0) (hfs : fs[13]? = some (.ref qs)) {i : Nat} (hi : i < 8) {f : Nat → Int32} (K : L g 0 0 (cT (gκ g) h qs qn fs wr (sIn i f 8)) 71 [(2, .int (nI 8)), (1, .int (nI i)), (0, .ref h)] []) :
    ∀ n j, j + n = 8 → L g 0 0 (cT (gκ g) h qs qn fs wr (sIn i f j)) 39 [(2, .int (nI j)), (1, .int (nI i)), (0, .ref h)] [] := by
  intro n
  induction n with
  | zero =>
    intro k hk
    obtain rfl : k = 8 := by omega
    refine L_iload_n X 0 dX7_clears_39 rfl rfl ?_
    refine L_bipush X (v := 8) dX7_clears_40 rfl ?_
    exact L_icmp_ge X (tgt := 71) dX7_clears_42 rfl (fun _ => K) (fun hn => absurd (by decide) hn)
  | succ n ih =>
    intro j hj
    obtain ⟨h1, h2, h3⟩ := t8 j (by omega)
    obtain ⟨g1, g2⟩ := t88 i hi j (by omega)
    refine L_iload_n X 0 dX7_clears_39 rfl rfl ?_
    refine L_bipush X (v := 8) dX7_clears_40 rfl ?_
    refine L_icmp_ge X (tgt := 71) dX7_clears_42 rfl (fun hn => absurd hn h1) (fun _ => ?_)
    refine L_aload_n X 2 dX7_clears_45 rfl rfl ?_
    refine L_iload_n X 1 dX7_clears_46 rfl rfl ?_
    refine L_bipush X (v := 19) dX7_clears_47 rfl ?_
    refine L_iload_n X 0 dX7_clears_49 rfl rfl ?_
    refine L_iadd X dX7_clears_50 ?_
    refine L_iconst X (v := -1) dX7_clears_51 rfl ?_
    refine L_callV X (q := (RX7, TX7, 35)) (cn_sets _ _ h qs fs _ (nI i) (19 + nI j) (-1) _ hfs g1) cal_X7_sets wM_X7_148 wI_X7_sets wS_X7_sets 0 rfl rfl ⟨(Nat.le_of_ble_eq_true rfl), (Nat.le_of_ble_eq_true rfl)⟩ rfl rfl (Nat.le_of_ble_eq_true rfl) ⟨(Nat.le_of_ble_eq_true rfl), (Nat.le_of_ble_eq_true rfl)⟩ dX7_clears_52 (fun T1 hT1 => ?_)
    subst hT1
    refine L_aload_n X 2 dX7_clears_55 rfl rfl ?_
    refine L_iload_n X 1 dX7_clears_56 rfl rfl ?_
    refine L_bipush X (v := 35) dX7_clears_57 rfl ?_
    refine L_iload_n X 0 dX7_clears_59 rfl rfl ?_
    refine L_iadd X dX7_clears_60 ?_
    refine L_iconst X (v := 5) dX7_clears_61 rfl ?_
    refine L_callV X (q := (RX7, TX7, 35)) (cn_sets _ _ h qs fs _ (nI i) (35 + nI j) 5 _ hfs g2) cal_X7_sets wM_X7_148 wI_X7_sets wS_X7_sets 0 rfl rfl ⟨(Nat.le_of_ble_eq_true rfl), (Nat.le_of_ble_eq_true rfl)⟩ rfl rfl (Nat.le_of_ble_eq_true rfl) ⟨(Nat.le_of_ble_eq_true rfl), (Nat.le_of_ble_eq_true rfl)⟩ dX7_clears_62 (fun T1 hT1 => ?_)
    subst hT1
    refine L_iinc X (v := nI (j + 1)) 0 dX7_clears_65 rfl h3 (by decide) rfl ?_
    refine L_goto X (tgt := 39) dX7_clears_68 rfl ?_
    exact ih (j + 1) (by omega)
theorem cl_B (X : CL g RX7 cX7_clears 3 2 60 0 0) (hfs : fs[13]? = some (.ref qs)) (hfn : fs[18]? = some (.ref qn)) (K : L g 0 0 (cT (gκ g) h qs qn fs wr (sOut 8)) 77 [(1, .int (nI 8)), (0, .ref h)] []) :
    ∀ n i, i + n = 8 → L g 0 0 (cT (gκ g) h qs qn fs wr (sOut i)) 24 [(1, .int (nI i)), (0, .ref h)] [] := by
  intro n
  induction n with
  | zero =>
    intro k hk
    obtain rfl : k = 8 := by omega
    refine L_iload_n X 0 dX7_clears_24 rfl rfl ?_
    refine L_bipush X (v := 8) dX7_clears_25 rfl ?_
    exact L_icmp_ge X (tgt := 77) dX7_clears_27 rfl (fun _ => K) (fun hn => absurd (by decide) hn)
  | succ n ih =>
    intro i hi
    obtain ⟨h1, h2, h3⟩ := t8 i (by omega)
    refine L_iload_n X 0 dX7_clears_24 rfl rfl ?_
    refine L_bipush X (v := 8) dX7_clears_25 rfl ?_
    refine L_icmp_ge X (tgt := 77) dX7_clears_27 rfl (fun hn => absurd hn h1) (fun _ => ?_)
    refine L_aload_n X 1 dX7_clears_30 rfl rfl ?_
    refine L_get X (C := RX7) (Tf := TX7) (N := 35) (c := 7) (k := 18) rfl iX7 (by decide) rfl wF_X7_35 0 rfl hfn dX7_clears_31 ?_
    refine L_iload_n X 0 dX7_clears_34 rfl rfl ?_
    refine L_lconst X (v := 0) dX7_clears_35 rfl ?_
    refine L_last X (n := 8) (f := fun _ => 0) (T' := cT (gκ g) h qs qn fs wr (sOut i)) 2 rfl h2 (by rw [updL_z]; rfl) dX7_clears_36 ?_
    refine L_iconst X (v := 0) dX7_clears_37 rfl ?_
    refine L_istore_n X dX7_clears_38 rfl (by decide) rfl ?_
    refine cl_C X hfs (by omega) ?_ 8 0 rfl
    refine L_iinc X (v := nI (i + 1)) 1 dX7_clears_71 rfl h3 (by decide) rfl ?_
    refine L_goto X (tgt := 24) dX7_clears_74 rfl ?_
    refine L_sub [0, 2] rfl ?_
    exact ih (i + 1) (by omega)
end
theorem cn_clears (l : Launch) (κ : KX) (h qs qn : Nat) (fs : List Value) (wr : va_W) (hfs : fs[13]? = some (.ref qs)) (hfn : fs[18]? = some (.ref qn)) :
    CtN l κ yX7_clears cX7_clears 3 2 60 0 0 [.ref h] (cT κ h qs qn fs wr (fun _ => 0)) (fun T => T = cT κ h qs qn fs wr sZ) := by
  refine CtN_of RX7 rfl (by decide) (Nat.le_of_ble_eq_true rfl) (fun g hgl hgκ X _ hfin => ?_)
  subst hgl hgκ
  refine L_iconst X (v := 0) dX7_clears_0 rfl ?_
  refine L_istore_n X dX7_clears_1 rfl (by decide) rfl ?_
  refine cl_A X hfs ?_ 365 0 rfl
  refine L_iconst X (v := 0) dX7_clears_22 rfl ?_
  refine L_istore_n X dX7_clears_23 rfl (by decide) rfl ?_
  refine cl_B X hfs hfn ?_ 8 0 rfl
  refine L_aload_n X 1 dX7_clears_77 rfl rfl ?_
  refine L_get X (C := RX7) (Tf := TX7) (N := 35) (c := 7) (k := 13) rfl iX7 (by decide) rfl wF_X7_20 0 rfl hfs dX7_clears_78 ?_
  refine L_bipush X (v := 7) dX7_clears_81 rfl ?_
  refine L_iconst X (v := 1) dX7_clears_83 rfl ?_
  refine L_iast X (n := 365) (T' := cT (gκ g) h qs qn fs wr (upd (sOut 8) 7 1)) 1 rfl rfl rfl dX7_clears_84 ?_
  refine L_aload_n X 1 dX7_clears_85 rfl rfl ?_
  refine L_get X (C := RX7) (Tf := TX7) (N := 35) (c := 7) (k := 13) rfl iX7 (by decide) rfl wF_X7_20 0 rfl hfs dX7_clears_86 ?_
  refine L_iconst X (v := 2) dX7_clears_89 rfl ?_
  refine L_iconst X (v := 3) dX7_clears_90 rfl ?_
  refine L_iast X (n := 365) (T' := cT (gκ g) h qs qn fs wr (upd (upd (sOut 8) 7 1) 2 3)) 1 rfl rfl rfl dX7_clears_91 ?_
  refine L_aload_n X 1 dX7_clears_92 rfl rfl ?_
  refine L_get X (C := RX7) (Tf := TX7) (N := 35) (c := 7) (k := 13) rfl iX7 (by decide) rfl wF_X7_20 0 rfl hfs dX7_clears_93 ?_
  refine L_iconst X (v := 3) dX7_clears_96 rfl ?_
  refine L_bipush X (v := 99) dX7_clears_97 rfl ?_
  refine L_iast X (n := 365) (T' := cT (gκ g) h qs qn fs wr (upd (upd (upd (sOut 8) 7 1) 2 3) 3 99)) 1 rfl rfl rfl dX7_clears_99 ?_
  refine L_aload_n X 1 dX7_clears_100 rfl rfl ?_
  refine L_get X (C := RX7) (Tf := TX7) (N := 35) (c := 7) (k := 13) rfl iX7 (by decide) rfl wF_X7_20 0 rfl hfs dX7_clears_101 ?_
  refine L_bipush X (v := 8) dX7_clears_104 rfl ?_
  refine L_iconst X (v := 1) dX7_clears_106 rfl ?_
  refine L_iast X (n := 365) (T' := cT (gκ g) h qs qn fs wr (upd (upd (upd (upd (sOut 8) 7 1) 2 3) 3 99) 8 1)) 1 rfl rfl rfl dX7_clears_107 ?_
  refine L_aload_n X 1 dX7_clears_108 rfl rfl ?_
  refine L_get X (C := RX7) (Tf := TX7) (N := 35) (c := 7) (k := 13) rfl iX7 (by decide) rfl wF_X7_20 0 rfl hfs dX7_clears_109 ?_
  refine L_bipush X (v := 9) dX7_clears_112 rfl ?_
  refine L_iconst X (v := 5) dX7_clears_114 rfl ?_
  refine L_iast X (n := 365) (T' := cT (gκ g) h qs qn fs wr (upd (upd (upd (upd (upd (sOut 8) 7 1) 2 3) 3 99) 8 1) 9 5)) 1 rfl rfl rfl dX7_clears_115 ?_
  refine L_aload_n X 1 dX7_clears_116 rfl rfl ?_
  refine L_get X (C := RX7) (Tf := TX7) (N := 35) (c := 7) (k := 13) rfl iX7 (by decide) rfl wF_X7_20 0 rfl hfs dX7_clears_117 ?_
  refine L_bipush X (v := 10) dX7_clears_120 rfl ?_
  refine L_iconst X (v := 3) dX7_clears_122 rfl ?_
  refine L_iast X (n := 365) (T' := cT (gκ g) h qs qn fs wr (upd (upd (upd (upd (upd (upd (sOut 8) 7 1) 2 3) 3 99) 8 1) 9 5) 10 3)) 1 rfl rfl rfl dX7_clears_123 ?_
  refine L_aload_n X 1 dX7_clears_124 rfl rfl ?_
  refine L_get X (C := RX7) (Tf := TX7) (N := 35) (c := 7) (k := 13) rfl iX7 (by decide) rfl wF_X7_20 0 rfl hfs dX7_clears_125 ?_
  refine L_bipush X (v := 11) dX7_clears_128 rfl ?_
  refine L_bipush X (v := 9) dX7_clears_130 rfl ?_
  refine L_iast X (n := 365) (T' := cT (gκ g) h qs qn fs wr (upd (upd (upd (upd (upd (upd (upd (sOut 8) 7 1) 2 3) 3 99) 8 1) 9 5) 10 3) 11 9)) 1 rfl rfl rfl dX7_clears_132 ?_
  exact hfin _ _ _ dX7_clears_133 rfl
theorem mL_pm {x0 x1 x2 x3 x4 x5 x6 x7 x8 x9 x10 x11 x12 x13 x14 x15 : Nat × va_E} : List.Perm ([x15, x14, x13, x12, x11, x10, x9, x8, x7, x6, x5, x4, x3, x2, x1, x0] : va_W) [x0, x2, x7, x15, x14, x13, x12, x11, x10, x9, x8, x6, x5, x4, x3, x1] := by
  have e : ∀ (A B : va_W) (x : Nat × va_E), List.Perm (A ++ x :: B) (x :: (A ++ B)) := fun A B x => List.perm_middle
  refine (e [x15, x14, x13, x12, x11, x10, x9, x8, x7, x6, x5, x4, x3, x2, x1] [] x0).trans (List.Perm.cons x0 ?_)
  refine (e [x15, x14, x13, x12, x11, x10, x9, x8, x7, x6, x5, x4, x3] [x1] x2).trans (List.Perm.cons x2 ?_)
  exact e [x15, x14, x13, x12, x11, x10, x9, x8] [x6, x5, x4, x3, x1] x7
def mL (κ : KX) (f : Nat → Nat) : va_W := [(f 0, .inr (7, [.int 0, .ref (f 1), .int 0, .int 0, .int 0, .int 0, .int 0, .int 0, .int 0, .int (-1), .int 0, .int (-1), .long 0, .ref (f 2), .ref (f 3), .ref (f 4), .ref (f 5), .ref (f 6), .ref (f 7), .ref (f 8), .ref (f 9), .int 0, .int 0, .int 0, .ref (f 10), .ref (f 11), .ref (f 12), .ref (f 13), .ref (f 14), .int 0, .int 0, .int 0, .ref (f 15), .int 0, .int 0])), (f 2, .inl (κ.2.1 1, 365, .inl (sZ))), (f 7, .inl (κ.2.1 3, 8, .inr (.inl (fun _ => 0)))), (f 15, .inl (κ.2.1 1, 900, .inl (fun _ => 0))), (f 14, .inl (κ.2.1 1, 2, .inl (fun _ => 0))), (f 13, .inl (κ.2.1 1, 2, .inl (fun _ => 0))), (f 12, .inl (κ.2.1 1, 60, .inl (fun _ => 0))), (f 11, .inl (κ.2.1 1, 60, .inl (fun _ => 0))), (f 10, .inl (κ.2.1 1, 60, .inl (fun _ => 0))), (f 9, .inl (κ.2.1 3, 8, .inr (.inl (fun _ => 0)))), (f 8, .inl (κ.2.1 3, 8, .inr (.inl (fun _ => 0)))), (f 6, .inl (κ.2.1 1, 2190, .inl (fun _ => 0))), (f 5, .inl (κ.2.1 1, 365, .inl (fun _ => 0))), (f 4, .inl (κ.2.1 1, 365, .inl (fun _ => 0))), (f 3, .inl (κ.2.1 1, 365, .inl (fun _ => 0))), (f 1, .inl (κ.2.1 1, 700, .inl (fun _ => 0)))]
theorem cal_X7_init : Cal yX7_init cX7_init 1 none 0 := ⟨wC_X7_init, w0_X7, by decide +kernel⟩
theorem cn_X7 (l : Launch) (κ : KX) (h : Nat) (wr : va_W) : CtN l κ yX7_init cX7_init 1 3 100 15 5458 [.ref h] ((h, .inr (7, fzX7)) :: wr) (fun T => ∃ f, f 0 = h ∧ T = mL κ f ++ wr) := by
  refine CtN_of RX7 rfl (by decide) (Nat.le_of_ble_eq_true rfl) (fun g hgl hgκ X hini hfin => ?_)
  subst hgl hgκ
  refine L_aload_n X 0 dX7_init_0 rfl rfl ?_
  refine L_obj X wM_X7_1 wI_obj wC_obj ⟨(Nat.le_of_ble_eq_true rfl), (Nat.le_of_ble_eq_true rfl)⟩ dX7_init_1 ?_
  refine L_aload_n X 0 dX7_init_4 rfl rfl ?_
  refine L_sipush X (v := 700) dX7_init_5 rfl ?_
  refine L_newa X (atype := .int) (ty := .int) (t := 0) (N := 700) (a0 := (700, .inl (fun _ => 0))) rfl wA_141 rfl (fun _ => rfl) (by decide) rfl (Nat.le_of_ble_eq_true rfl) (Nat.le_of_ble_eq_true rfl) (Nat.le_of_ble_eq_true rfl) dX7_init_8 (fun q1 => ?_)
  refine L_putF X hini (C := RX7) (Tf := TX7) (N := 35) (c := 7) (k := 1) (T' := ((q1, .inl ((gκ g).2.1 1, 700, .inl (fun _ => 0))) :: ((h, .inr (7, [.int 0, .ref q1, .int 0, .int 0, .int 0, .int 0, .int 0, .int 0, .int 0, .int 0, .int 0, .int 0, .long 0, .null, .null, .null, .null, .null, .null, .null, .null, .int 0, .int 0, .int 0, .null, .null, .null, .null, .null, .int 0, .int 0, .int 0, .null, .int 0, .int 0])) :: wr))) rfl iX7 tyX7_ok nmX7 (by decide) rfl rfl rfl (tyX7_ok _ (by decide)) wF_X7_7 1 rfl rfl rfl (Nat.le_of_ble_eq_true rfl) rfl dX7_init_10 ?_
  refine L_aload_n X 0 dX7_init_13 rfl rfl ?_
  refine L_iconst X (v := (-1)) dX7_init_14 rfl ?_
  refine L_put X (C := RX7) (Tf := TX7) (N := 35) (c := 7) (k := 9) (T' := ((q1, .inl ((gκ g).2.1 1, 700, .inl (fun _ => 0))) :: ((h, .inr (7, [.int 0, .ref q1, .int 0, .int 0, .int 0, .int 0, .int 0, .int 0, .int 0, .int (-1), .int 0, .int 0, .long 0, .null, .null, .null, .null, .null, .null, .null, .null, .int 0, .int 0, .int 0, .null, .null, .null, .null, .null, .int 0, .int 0, .int 0, .null, .int 0, .int 0])) :: wr))) rfl iX7 tyX7_ok nmX7 (by decide) rfl rfl (tyX7_ok _ (by decide)) wF_X7_13 1 rfl rfl rfl (Nat.le_of_ble_eq_true rfl) rfl dX7_init_15 ?_
  refine L_aload_n X 0 dX7_init_18 rfl rfl ?_
  refine L_iconst X (v := (-1)) dX7_init_19 rfl ?_
  refine L_put X (C := RX7) (Tf := TX7) (N := 35) (c := 7) (k := 11) (T' := ((q1, .inl ((gκ g).2.1 1, 700, .inl (fun _ => 0))) :: ((h, .inr (7, [.int 0, .ref q1, .int 0, .int 0, .int 0, .int 0, .int 0, .int 0, .int 0, .int (-1), .int 0, .int (-1), .long 0, .null, .null, .null, .null, .null, .null, .null, .null, .int 0, .int 0, .int 0, .null, .null, .null, .null, .null, .int 0, .int 0, .int 0, .null, .int 0, .int 0])) :: wr))) rfl iX7 tyX7_ok nmX7 (by decide) rfl rfl (tyX7_ok _ (by decide)) wF_X7_17 1 rfl rfl rfl (Nat.le_of_ble_eq_true rfl) rfl dX7_init_20 ?_
  refine L_aload_n X 0 dX7_init_23 rfl rfl ?_
  refine L_sipush X (v := 365) dX7_init_24 rfl ?_
  refine L_newa X (atype := .int) (ty := .int) (t := 0) (N := 365) (a0 := (365, .inl (fun _ => 0))) rfl wA_141 rfl (fun _ => rfl) (by decide) rfl (Nat.le_of_ble_eq_true rfl) (Nat.le_of_ble_eq_true rfl) (Nat.le_of_ble_eq_true rfl) dX7_init_27 (fun q2 => ?_)
  refine L_putF X hini (C := RX7) (Tf := TX7) (N := 35) (c := 7) (k := 13) (T' := ((q2, .inl ((gκ g).2.1 1, 365, .inl (fun _ => 0))) :: ((q1, .inl ((gκ g).2.1 1, 700, .inl (fun _ => 0))) :: ((h, .inr (7, [.int 0, .ref q1, .int 0, .int 0, .int 0, .int 0, .int 0, .int 0, .int 0, .int (-1), .int 0, .int (-1), .long 0, .ref q2, .null, .null, .null, .null, .null, .null, .null, .int 0, .int 0, .int 0, .null, .null, .null, .null, .null, .int 0, .int 0, .int 0, .null, .int 0, .int 0])) :: wr)))) rfl iX7 tyX7_ok nmX7 (by decide) rfl rfl rfl (tyX7_ok _ (by decide)) wF_X7_20 2 rfl rfl rfl (Nat.le_of_ble_eq_true rfl) rfl dX7_init_29 ?_
  refine L_aload_n X 0 dX7_init_32 rfl rfl ?_
  refine L_sipush X (v := 365) dX7_init_33 rfl ?_
  refine L_newa X (atype := .int) (ty := .int) (t := 0) (N := 365) (a0 := (365, .inl (fun _ => 0))) rfl wA_141 rfl (fun _ => rfl) (by decide) rfl (Nat.le_of_ble_eq_true rfl) (Nat.le_of_ble_eq_true rfl) (Nat.le_of_ble_eq_true rfl) dX7_init_36 (fun q3 => ?_)
  refine L_putF X hini (C := RX7) (Tf := TX7) (N := 35) (c := 7) (k := 14) (T' := ((q3, .inl ((gκ g).2.1 1, 365, .inl (fun _ => 0))) :: ((q2, .inl ((gκ g).2.1 1, 365, .inl (fun _ => 0))) :: ((q1, .inl ((gκ g).2.1 1, 700, .inl (fun _ => 0))) :: ((h, .inr (7, [.int 0, .ref q1, .int 0, .int 0, .int 0, .int 0, .int 0, .int 0, .int 0, .int (-1), .int 0, .int (-1), .long 0, .ref q2, .ref q3, .null, .null, .null, .null, .null, .null, .int 0, .int 0, .int 0, .null, .null, .null, .null, .null, .int 0, .int 0, .int 0, .null, .int 0, .int 0])) :: wr))))) rfl iX7 tyX7_ok nmX7 (by decide) rfl rfl rfl (tyX7_ok _ (by decide)) wF_X7_23 3 rfl rfl rfl (Nat.le_of_ble_eq_true rfl) rfl dX7_init_38 ?_
  refine L_aload_n X 0 dX7_init_41 rfl rfl ?_
  refine L_sipush X (v := 365) dX7_init_42 rfl ?_
  refine L_newa X (atype := .int) (ty := .int) (t := 0) (N := 365) (a0 := (365, .inl (fun _ => 0))) rfl wA_141 rfl (fun _ => rfl) (by decide) rfl (Nat.le_of_ble_eq_true rfl) (Nat.le_of_ble_eq_true rfl) (Nat.le_of_ble_eq_true rfl) dX7_init_45 (fun q4 => ?_)
  refine L_putF X hini (C := RX7) (Tf := TX7) (N := 35) (c := 7) (k := 15) (T' := ((q4, .inl ((gκ g).2.1 1, 365, .inl (fun _ => 0))) :: ((q3, .inl ((gκ g).2.1 1, 365, .inl (fun _ => 0))) :: ((q2, .inl ((gκ g).2.1 1, 365, .inl (fun _ => 0))) :: ((q1, .inl ((gκ g).2.1 1, 700, .inl (fun _ => 0))) :: ((h, .inr (7, [.int 0, .ref q1, .int 0, .int 0, .int 0, .int 0, .int 0, .int 0, .int 0, .int (-1), .int 0, .int (-1), .long 0, .ref q2, .ref q3, .ref q4, .null, .null, .null, .null, .null, .int 0, .int 0, .int 0, .null, .null, .null, .null, .null, .int 0, .int 0, .int 0, .null, .int 0, .int 0])) :: wr)))))) rfl iX7 tyX7_ok nmX7 (by decide) rfl rfl rfl (tyX7_ok _ (by decide)) wF_X7_26 4 rfl rfl rfl (Nat.le_of_ble_eq_true rfl) rfl dX7_init_47 ?_
  refine L_aload_n X 0 dX7_init_50 rfl rfl ?_
  refine L_sipush X (v := 365) dX7_init_51 rfl ?_
  refine L_newa X (atype := .int) (ty := .int) (t := 0) (N := 365) (a0 := (365, .inl (fun _ => 0))) rfl wA_141 rfl (fun _ => rfl) (by decide) rfl (Nat.le_of_ble_eq_true rfl) (Nat.le_of_ble_eq_true rfl) (Nat.le_of_ble_eq_true rfl) dX7_init_54 (fun q5 => ?_)
  refine L_putF X hini (C := RX7) (Tf := TX7) (N := 35) (c := 7) (k := 16) (T' := ((q5, .inl ((gκ g).2.1 1, 365, .inl (fun _ => 0))) :: ((q4, .inl ((gκ g).2.1 1, 365, .inl (fun _ => 0))) :: ((q3, .inl ((gκ g).2.1 1, 365, .inl (fun _ => 0))) :: ((q2, .inl ((gκ g).2.1 1, 365, .inl (fun _ => 0))) :: ((q1, .inl ((gκ g).2.1 1, 700, .inl (fun _ => 0))) :: ((h, .inr (7, [.int 0, .ref q1, .int 0, .int 0, .int 0, .int 0, .int 0, .int 0, .int 0, .int (-1), .int 0, .int (-1), .long 0, .ref q2, .ref q3, .ref q4, .ref q5, .null, .null, .null, .null, .int 0, .int 0, .int 0, .null, .null, .null, .null, .null, .int 0, .int 0, .int 0, .null, .int 0, .int 0])) :: wr))))))) rfl iX7 tyX7_ok nmX7 (by decide) rfl rfl rfl (tyX7_ok _ (by decide)) wF_X7_29 5 rfl rfl rfl (Nat.le_of_ble_eq_true rfl) rfl dX7_init_56 ?_
  refine L_aload_n X 0 dX7_init_59 rfl rfl ?_
  refine L_sipush X (v := 2190) dX7_init_60 rfl ?_
  refine L_newa X (atype := .int) (ty := .int) (t := 0) (N := 2190) (a0 := (2190, .inl (fun _ => 0))) rfl wA_141 rfl (fun _ => rfl) (by decide) rfl (Nat.le_of_ble_eq_true rfl) (Nat.le_of_ble_eq_true rfl) (Nat.le_of_ble_eq_true rfl) dX7_init_63 (fun q6 => ?_)
  refine L_putF X hini (C := RX7) (Tf := TX7) (N := 35) (c := 7) (k := 17) (T' := ((q6, .inl ((gκ g).2.1 1, 2190, .inl (fun _ => 0))) :: ((q5, .inl ((gκ g).2.1 1, 365, .inl (fun _ => 0))) :: ((q4, .inl ((gκ g).2.1 1, 365, .inl (fun _ => 0))) :: ((q3, .inl ((gκ g).2.1 1, 365, .inl (fun _ => 0))) :: ((q2, .inl ((gκ g).2.1 1, 365, .inl (fun _ => 0))) :: ((q1, .inl ((gκ g).2.1 1, 700, .inl (fun _ => 0))) :: ((h, .inr (7, [.int 0, .ref q1, .int 0, .int 0, .int 0, .int 0, .int 0, .int 0, .int 0, .int (-1), .int 0, .int (-1), .long 0, .ref q2, .ref q3, .ref q4, .ref q5, .ref q6, .null, .null, .null, .int 0, .int 0, .int 0, .null, .null, .null, .null, .null, .int 0, .int 0, .int 0, .null, .int 0, .int 0])) :: wr)))))))) rfl iX7 tyX7_ok nmX7 (by decide) rfl rfl rfl (tyX7_ok _ (by decide)) wF_X7_32 6 rfl rfl rfl (Nat.le_of_ble_eq_true rfl) rfl dX7_init_65 ?_
  refine L_aload_n X 0 dX7_init_68 rfl rfl ?_
  refine L_bipush X (v := 8) dX7_init_69 rfl ?_
  refine L_newa X (atype := .long) (ty := .long) (t := 2) (N := 8) (a0 := (8, .inr (.inl (fun _ => 0)))) rfl wA_265 rfl (fun _ => rfl) (by decide) rfl (Nat.le_of_ble_eq_true rfl) (Nat.le_of_ble_eq_true rfl) (Nat.le_of_ble_eq_true rfl) dX7_init_71 (fun q7 => ?_)
  refine L_putF X hini (C := RX7) (Tf := TX7) (N := 35) (c := 7) (k := 18) (T' := ((q7, .inl ((gκ g).2.1 3, 8, .inr (.inl (fun _ => 0)))) :: ((q6, .inl ((gκ g).2.1 1, 2190, .inl (fun _ => 0))) :: ((q5, .inl ((gκ g).2.1 1, 365, .inl (fun _ => 0))) :: ((q4, .inl ((gκ g).2.1 1, 365, .inl (fun _ => 0))) :: ((q3, .inl ((gκ g).2.1 1, 365, .inl (fun _ => 0))) :: ((q2, .inl ((gκ g).2.1 1, 365, .inl (fun _ => 0))) :: ((q1, .inl ((gκ g).2.1 1, 700, .inl (fun _ => 0))) :: ((h, .inr (7, [.int 0, .ref q1, .int 0, .int 0, .int 0, .int 0, .int 0, .int 0, .int 0, .int (-1), .int 0, .int (-1), .long 0, .ref q2, .ref q3, .ref q4, .ref q5, .ref q6, .ref q7, .null, .null, .int 0, .int 0, .int 0, .null, .null, .null, .null, .null, .int 0, .int 0, .int 0, .null, .int 0, .int 0])) :: wr))))))))) rfl iX7 tyX7_ok nmX7 (by decide) rfl rfl rfl (tyX7_ok _ (by decide)) wF_X7_35 7 rfl rfl rfl (Nat.le_of_ble_eq_true rfl) rfl dX7_init_73 ?_
  refine L_aload_n X 0 dX7_init_76 rfl rfl ?_
  refine L_bipush X (v := 8) dX7_init_77 rfl ?_
  refine L_newa X (atype := .long) (ty := .long) (t := 2) (N := 8) (a0 := (8, .inr (.inl (fun _ => 0)))) rfl wA_265 rfl (fun _ => rfl) (by decide) rfl (Nat.le_of_ble_eq_true rfl) (Nat.le_of_ble_eq_true rfl) (Nat.le_of_ble_eq_true rfl) dX7_init_79 (fun q8 => ?_)
  refine L_putF X hini (C := RX7) (Tf := TX7) (N := 35) (c := 7) (k := 19) (T' := ((q8, .inl ((gκ g).2.1 3, 8, .inr (.inl (fun _ => 0)))) :: ((q7, .inl ((gκ g).2.1 3, 8, .inr (.inl (fun _ => 0)))) :: ((q6, .inl ((gκ g).2.1 1, 2190, .inl (fun _ => 0))) :: ((q5, .inl ((gκ g).2.1 1, 365, .inl (fun _ => 0))) :: ((q4, .inl ((gκ g).2.1 1, 365, .inl (fun _ => 0))) :: ((q3, .inl ((gκ g).2.1 1, 365, .inl (fun _ => 0))) :: ((q2, .inl ((gκ g).2.1 1, 365, .inl (fun _ => 0))) :: ((q1, .inl ((gκ g).2.1 1, 700, .inl (fun _ => 0))) :: ((h, .inr (7, [.int 0, .ref q1, .int 0, .int 0, .int 0, .int 0, .int 0, .int 0, .int 0, .int (-1), .int 0, .int (-1), .long 0, .ref q2, .ref q3, .ref q4, .ref q5, .ref q6, .ref q7, .ref q8, .null, .int 0, .int 0, .int 0, .null, .null, .null, .null, .null, .int 0, .int 0, .int 0, .null, .int 0, .int 0])) :: wr)))))))))) rfl iX7 tyX7_ok nmX7 (by decide) rfl rfl rfl (tyX7_ok _ (by decide)) wF_X7_39 8 rfl rfl rfl (Nat.le_of_ble_eq_true rfl) rfl dX7_init_81 ?_
  refine L_aload_n X 0 dX7_init_84 rfl rfl ?_
  refine L_bipush X (v := 8) dX7_init_85 rfl ?_
  refine L_newa X (atype := .long) (ty := .long) (t := 2) (N := 8) (a0 := (8, .inr (.inl (fun _ => 0)))) rfl wA_265 rfl (fun _ => rfl) (by decide) rfl (Nat.le_of_ble_eq_true rfl) (Nat.le_of_ble_eq_true rfl) (Nat.le_of_ble_eq_true rfl) dX7_init_87 (fun q9 => ?_)
  refine L_putF X hini (C := RX7) (Tf := TX7) (N := 35) (c := 7) (k := 20) (T' := ((q9, .inl ((gκ g).2.1 3, 8, .inr (.inl (fun _ => 0)))) :: ((q8, .inl ((gκ g).2.1 3, 8, .inr (.inl (fun _ => 0)))) :: ((q7, .inl ((gκ g).2.1 3, 8, .inr (.inl (fun _ => 0)))) :: ((q6, .inl ((gκ g).2.1 1, 2190, .inl (fun _ => 0))) :: ((q5, .inl ((gκ g).2.1 1, 365, .inl (fun _ => 0))) :: ((q4, .inl ((gκ g).2.1 1, 365, .inl (fun _ => 0))) :: ((q3, .inl ((gκ g).2.1 1, 365, .inl (fun _ => 0))) :: ((q2, .inl ((gκ g).2.1 1, 365, .inl (fun _ => 0))) :: ((q1, .inl ((gκ g).2.1 1, 700, .inl (fun _ => 0))) :: ((h, .inr (7, [.int 0, .ref q1, .int 0, .int 0, .int 0, .int 0, .int 0, .int 0, .int 0, .int (-1), .int 0, .int (-1), .long 0, .ref q2, .ref q3, .ref q4, .ref q5, .ref q6, .ref q7, .ref q8, .ref q9, .int 0, .int 0, .int 0, .null, .null, .null, .null, .null, .int 0, .int 0, .int 0, .null, .int 0, .int 0])) :: wr))))))))))) rfl iX7 tyX7_ok nmX7 (by decide) rfl rfl rfl (tyX7_ok _ (by decide)) wF_X7_42 9 rfl rfl rfl (Nat.le_of_ble_eq_true rfl) rfl dX7_init_89 ?_
  refine L_aload_n X 0 dX7_init_92 rfl rfl ?_
  refine L_bipush X (v := 60) dX7_init_93 rfl ?_
  refine L_newa X (atype := .int) (ty := .int) (t := 0) (N := 60) (a0 := (60, .inl (fun _ => 0))) rfl wA_141 rfl (fun _ => rfl) (by decide) rfl (Nat.le_of_ble_eq_true rfl) (Nat.le_of_ble_eq_true rfl) (Nat.le_of_ble_eq_true rfl) dX7_init_95 (fun q10 => ?_)
  refine L_putF X hini (C := RX7) (Tf := TX7) (N := 35) (c := 7) (k := 24) (T' := ((q10, .inl ((gκ g).2.1 1, 60, .inl (fun _ => 0))) :: ((q9, .inl ((gκ g).2.1 3, 8, .inr (.inl (fun _ => 0)))) :: ((q8, .inl ((gκ g).2.1 3, 8, .inr (.inl (fun _ => 0)))) :: ((q7, .inl ((gκ g).2.1 3, 8, .inr (.inl (fun _ => 0)))) :: ((q6, .inl ((gκ g).2.1 1, 2190, .inl (fun _ => 0))) :: ((q5, .inl ((gκ g).2.1 1, 365, .inl (fun _ => 0))) :: ((q4, .inl ((gκ g).2.1 1, 365, .inl (fun _ => 0))) :: ((q3, .inl ((gκ g).2.1 1, 365, .inl (fun _ => 0))) :: ((q2, .inl ((gκ g).2.1 1, 365, .inl (fun _ => 0))) :: ((q1, .inl ((gκ g).2.1 1, 700, .inl (fun _ => 0))) :: ((h, .inr (7, [.int 0, .ref q1, .int 0, .int 0, .int 0, .int 0, .int 0, .int 0, .int 0, .int (-1), .int 0, .int (-1), .long 0, .ref q2, .ref q3, .ref q4, .ref q5, .ref q6, .ref q7, .ref q8, .ref q9, .int 0, .int 0, .int 0, .ref q10, .null, .null, .null, .null, .int 0, .int 0, .int 0, .null, .int 0, .int 0])) :: wr)))))))))))) rfl iX7 tyX7_ok nmX7 (by decide) rfl rfl rfl (tyX7_ok _ (by decide)) wF_X7_45 10 rfl rfl rfl (Nat.le_of_ble_eq_true rfl) rfl dX7_init_97 ?_
  refine L_aload_n X 0 dX7_init_100 rfl rfl ?_
  refine L_bipush X (v := 60) dX7_init_101 rfl ?_
  refine L_newa X (atype := .int) (ty := .int) (t := 0) (N := 60) (a0 := (60, .inl (fun _ => 0))) rfl wA_141 rfl (fun _ => rfl) (by decide) rfl (Nat.le_of_ble_eq_true rfl) (Nat.le_of_ble_eq_true rfl) (Nat.le_of_ble_eq_true rfl) dX7_init_103 (fun q11 => ?_)
  refine L_putF X hini (C := RX7) (Tf := TX7) (N := 35) (c := 7) (k := 25) (T' := ((q11, .inl ((gκ g).2.1 1, 60, .inl (fun _ => 0))) :: ((q10, .inl ((gκ g).2.1 1, 60, .inl (fun _ => 0))) :: ((q9, .inl ((gκ g).2.1 3, 8, .inr (.inl (fun _ => 0)))) :: ((q8, .inl ((gκ g).2.1 3, 8, .inr (.inl (fun _ => 0)))) :: ((q7, .inl ((gκ g).2.1 3, 8, .inr (.inl (fun _ => 0)))) :: ((q6, .inl ((gκ g).2.1 1, 2190, .inl (fun _ => 0))) :: ((q5, .inl ((gκ g).2.1 1, 365, .inl (fun _ => 0))) :: ((q4, .inl ((gκ g).2.1 1, 365, .inl (fun _ => 0))) :: ((q3, .inl ((gκ g).2.1 1, 365, .inl (fun _ => 0))) :: ((q2, .inl ((gκ g).2.1 1, 365, .inl (fun _ => 0))) :: ((q1, .inl ((gκ g).2.1 1, 700, .inl (fun _ => 0))) :: ((h, .inr (7, [.int 0, .ref q1, .int 0, .int 0, .int 0, .int 0, .int 0, .int 0, .int 0, .int (-1), .int 0, .int (-1), .long 0, .ref q2, .ref q3, .ref q4, .ref q5, .ref q6, .ref q7, .ref q8, .ref q9, .int 0, .int 0, .int 0, .ref q10, .ref q11, .null, .null, .null, .int 0, .int 0, .int 0, .null, .int 0, .int 0])) :: wr))))))))))))) rfl iX7 tyX7_ok nmX7 (by decide) rfl rfl rfl (tyX7_ok _ (by decide)) wF_X7_48 11 rfl rfl rfl (Nat.le_of_ble_eq_true rfl) rfl dX7_init_105 ?_
  refine L_aload_n X 0 dX7_init_108 rfl rfl ?_
  refine L_bipush X (v := 60) dX7_init_109 rfl ?_
  refine L_newa X (atype := .int) (ty := .int) (t := 0) (N := 60) (a0 := (60, .inl (fun _ => 0))) rfl wA_141 rfl (fun _ => rfl) (by decide) rfl (Nat.le_of_ble_eq_true rfl) (Nat.le_of_ble_eq_true rfl) (Nat.le_of_ble_eq_true rfl) dX7_init_111 (fun q12 => ?_)
  refine L_putF X hini (C := RX7) (Tf := TX7) (N := 35) (c := 7) (k := 26) (T' := ((q12, .inl ((gκ g).2.1 1, 60, .inl (fun _ => 0))) :: ((q11, .inl ((gκ g).2.1 1, 60, .inl (fun _ => 0))) :: ((q10, .inl ((gκ g).2.1 1, 60, .inl (fun _ => 0))) :: ((q9, .inl ((gκ g).2.1 3, 8, .inr (.inl (fun _ => 0)))) :: ((q8, .inl ((gκ g).2.1 3, 8, .inr (.inl (fun _ => 0)))) :: ((q7, .inl ((gκ g).2.1 3, 8, .inr (.inl (fun _ => 0)))) :: ((q6, .inl ((gκ g).2.1 1, 2190, .inl (fun _ => 0))) :: ((q5, .inl ((gκ g).2.1 1, 365, .inl (fun _ => 0))) :: ((q4, .inl ((gκ g).2.1 1, 365, .inl (fun _ => 0))) :: ((q3, .inl ((gκ g).2.1 1, 365, .inl (fun _ => 0))) :: ((q2, .inl ((gκ g).2.1 1, 365, .inl (fun _ => 0))) :: ((q1, .inl ((gκ g).2.1 1, 700, .inl (fun _ => 0))) :: ((h, .inr (7, [.int 0, .ref q1, .int 0, .int 0, .int 0, .int 0, .int 0, .int 0, .int 0, .int (-1), .int 0, .int (-1), .long 0, .ref q2, .ref q3, .ref q4, .ref q5, .ref q6, .ref q7, .ref q8, .ref q9, .int 0, .int 0, .int 0, .ref q10, .ref q11, .ref q12, .null, .null, .int 0, .int 0, .int 0, .null, .int 0, .int 0])) :: wr)))))))))))))) rfl iX7 tyX7_ok nmX7 (by decide) rfl rfl rfl (tyX7_ok _ (by decide)) wF_X7_51 12 rfl rfl rfl (Nat.le_of_ble_eq_true rfl) rfl dX7_init_113 ?_
  refine L_aload_n X 0 dX7_init_116 rfl rfl ?_
  refine L_iconst X (v := 2) dX7_init_117 rfl ?_
  refine L_newa X (atype := .int) (ty := .int) (t := 0) (N := 2) (a0 := (2, .inl (fun _ => 0))) rfl wA_141 rfl (fun _ => rfl) (by decide) rfl (Nat.le_of_ble_eq_true rfl) (Nat.le_of_ble_eq_true rfl) (Nat.le_of_ble_eq_true rfl) dX7_init_118 (fun q13 => ?_)
  refine L_putF X hini (C := RX7) (Tf := TX7) (N := 35) (c := 7) (k := 27) (T' := ((q13, .inl ((gκ g).2.1 1, 2, .inl (fun _ => 0))) :: ((q12, .inl ((gκ g).2.1 1, 60, .inl (fun _ => 0))) :: ((q11, .inl ((gκ g).2.1 1, 60, .inl (fun _ => 0))) :: ((q10, .inl ((gκ g).2.1 1, 60, .inl (fun _ => 0))) :: ((q9, .inl ((gκ g).2.1 3, 8, .inr (.inl (fun _ => 0)))) :: ((q8, .inl ((gκ g).2.1 3, 8, .inr (.inl (fun _ => 0)))) :: ((q7, .inl ((gκ g).2.1 3, 8, .inr (.inl (fun _ => 0)))) :: ((q6, .inl ((gκ g).2.1 1, 2190, .inl (fun _ => 0))) :: ((q5, .inl ((gκ g).2.1 1, 365, .inl (fun _ => 0))) :: ((q4, .inl ((gκ g).2.1 1, 365, .inl (fun _ => 0))) :: ((q3, .inl ((gκ g).2.1 1, 365, .inl (fun _ => 0))) :: ((q2, .inl ((gκ g).2.1 1, 365, .inl (fun _ => 0))) :: ((q1, .inl ((gκ g).2.1 1, 700, .inl (fun _ => 0))) :: ((h, .inr (7, [.int 0, .ref q1, .int 0, .int 0, .int 0, .int 0, .int 0, .int 0, .int 0, .int (-1), .int 0, .int (-1), .long 0, .ref q2, .ref q3, .ref q4, .ref q5, .ref q6, .ref q7, .ref q8, .ref q9, .int 0, .int 0, .int 0, .ref q10, .ref q11, .ref q12, .ref q13, .null, .int 0, .int 0, .int 0, .null, .int 0, .int 0])) :: wr))))))))))))))) rfl iX7 tyX7_ok nmX7 (by decide) rfl rfl rfl (tyX7_ok _ (by decide)) wF_X7_54 13 rfl rfl rfl (Nat.le_of_ble_eq_true rfl) rfl dX7_init_120 ?_
  refine L_aload_n X 0 dX7_init_123 rfl rfl ?_
  refine L_iconst X (v := 2) dX7_init_124 rfl ?_
  refine L_newa X (atype := .int) (ty := .int) (t := 0) (N := 2) (a0 := (2, .inl (fun _ => 0))) rfl wA_141 rfl (fun _ => rfl) (by decide) rfl (Nat.le_of_ble_eq_true rfl) (Nat.le_of_ble_eq_true rfl) (Nat.le_of_ble_eq_true rfl) dX7_init_125 (fun q14 => ?_)
  refine L_putF X hini (C := RX7) (Tf := TX7) (N := 35) (c := 7) (k := 28) (T' := ((q14, .inl ((gκ g).2.1 1, 2, .inl (fun _ => 0))) :: ((q13, .inl ((gκ g).2.1 1, 2, .inl (fun _ => 0))) :: ((q12, .inl ((gκ g).2.1 1, 60, .inl (fun _ => 0))) :: ((q11, .inl ((gκ g).2.1 1, 60, .inl (fun _ => 0))) :: ((q10, .inl ((gκ g).2.1 1, 60, .inl (fun _ => 0))) :: ((q9, .inl ((gκ g).2.1 3, 8, .inr (.inl (fun _ => 0)))) :: ((q8, .inl ((gκ g).2.1 3, 8, .inr (.inl (fun _ => 0)))) :: ((q7, .inl ((gκ g).2.1 3, 8, .inr (.inl (fun _ => 0)))) :: ((q6, .inl ((gκ g).2.1 1, 2190, .inl (fun _ => 0))) :: ((q5, .inl ((gκ g).2.1 1, 365, .inl (fun _ => 0))) :: ((q4, .inl ((gκ g).2.1 1, 365, .inl (fun _ => 0))) :: ((q3, .inl ((gκ g).2.1 1, 365, .inl (fun _ => 0))) :: ((q2, .inl ((gκ g).2.1 1, 365, .inl (fun _ => 0))) :: ((q1, .inl ((gκ g).2.1 1, 700, .inl (fun _ => 0))) :: ((h, .inr (7, [.int 0, .ref q1, .int 0, .int 0, .int 0, .int 0, .int 0, .int 0, .int 0, .int (-1), .int 0, .int (-1), .long 0, .ref q2, .ref q3, .ref q4, .ref q5, .ref q6, .ref q7, .ref q8, .ref q9, .int 0, .int 0, .int 0, .ref q10, .ref q11, .ref q12, .ref q13, .ref q14, .int 0, .int 0, .int 0, .null, .int 0, .int 0])) :: wr)))))))))))))))) rfl iX7 tyX7_ok nmX7 (by decide) rfl rfl rfl (tyX7_ok _ (by decide)) wF_X7_57 14 rfl rfl rfl (Nat.le_of_ble_eq_true rfl) rfl dX7_init_127 ?_
  refine L_aload_n X 0 dX7_init_130 rfl rfl ?_
  refine L_sipush X (v := 900) dX7_init_131 rfl ?_
  refine L_newa X (atype := .int) (ty := .int) (t := 0) (N := 900) (a0 := (900, .inl (fun _ => 0))) rfl wA_141 rfl (fun _ => rfl) (by decide) rfl (Nat.le_of_ble_eq_true rfl) (Nat.le_of_ble_eq_true rfl) (Nat.le_of_ble_eq_true rfl) dX7_init_134 (fun q15 => ?_)
  refine L_putF X hini (C := RX7) (Tf := TX7) (N := 35) (c := 7) (k := 32) (T' := ((q15, .inl ((gκ g).2.1 1, 900, .inl (fun _ => 0))) :: ((q14, .inl ((gκ g).2.1 1, 2, .inl (fun _ => 0))) :: ((q13, .inl ((gκ g).2.1 1, 2, .inl (fun _ => 0))) :: ((q12, .inl ((gκ g).2.1 1, 60, .inl (fun _ => 0))) :: ((q11, .inl ((gκ g).2.1 1, 60, .inl (fun _ => 0))) :: ((q10, .inl ((gκ g).2.1 1, 60, .inl (fun _ => 0))) :: ((q9, .inl ((gκ g).2.1 3, 8, .inr (.inl (fun _ => 0)))) :: ((q8, .inl ((gκ g).2.1 3, 8, .inr (.inl (fun _ => 0)))) :: ((q7, .inl ((gκ g).2.1 3, 8, .inr (.inl (fun _ => 0)))) :: ((q6, .inl ((gκ g).2.1 1, 2190, .inl (fun _ => 0))) :: ((q5, .inl ((gκ g).2.1 1, 365, .inl (fun _ => 0))) :: ((q4, .inl ((gκ g).2.1 1, 365, .inl (fun _ => 0))) :: ((q3, .inl ((gκ g).2.1 1, 365, .inl (fun _ => 0))) :: ((q2, .inl ((gκ g).2.1 1, 365, .inl (fun _ => 0))) :: ((q1, .inl ((gκ g).2.1 1, 700, .inl (fun _ => 0))) :: ((h, .inr (7, [.int 0, .ref q1, .int 0, .int 0, .int 0, .int 0, .int 0, .int 0, .int 0, .int (-1), .int 0, .int (-1), .long 0, .ref q2, .ref q3, .ref q4, .ref q5, .ref q6, .ref q7, .ref q8, .ref q9, .int 0, .int 0, .int 0, .ref q10, .ref q11, .ref q12, .ref q13, .ref q14, .int 0, .int 0, .int 0, .ref q15, .int 0, .int 0])) :: wr))))))))))))))))) rfl iX7 tyX7_ok nmX7 (by decide) rfl rfl rfl (tyX7_ok _ (by decide)) wF_X7_60 15 rfl rfl rfl (Nat.le_of_ble_eq_true rfl) rfl dX7_init_136 ?_
  refine L_aload_n X 0 dX7_init_139 rfl rfl ?_
  refine L_perm (T' := ((h, .inr (7, [.int 0, .ref q1, .int 0, .int 0, .int 0, .int 0, .int 0, .int 0, .int 0, .int (-1), .int 0, .int (-1), .long 0, .ref q2, .ref q3, .ref q4, .ref q5, .ref q6, .ref q7, .ref q8, .ref q9, .int 0, .int 0, .int 0, .ref q10, .ref q11, .ref q12, .ref q13, .ref q14, .int 0, .int 0, .int 0, .ref q15, .int 0, .int 0])) :: ((q2, .inl ((gκ g).2.1 1, 365, .inl (fun _ => 0))) :: ((q7, .inl ((gκ g).2.1 3, 8, .inr (.inl (fun _ => 0)))) :: ((q15, .inl ((gκ g).2.1 1, 900, .inl (fun _ => 0))) :: ((q14, .inl ((gκ g).2.1 1, 2, .inl (fun _ => 0))) :: ((q13, .inl ((gκ g).2.1 1, 2, .inl (fun _ => 0))) :: ((q12, .inl ((gκ g).2.1 1, 60, .inl (fun _ => 0))) :: ((q11, .inl ((gκ g).2.1 1, 60, .inl (fun _ => 0))) :: ((q10, .inl ((gκ g).2.1 1, 60, .inl (fun _ => 0))) :: ((q9, .inl ((gκ g).2.1 3, 8, .inr (.inl (fun _ => 0)))) :: ((q8, .inl ((gκ g).2.1 3, 8, .inr (.inl (fun _ => 0)))) :: ((q6, .inl ((gκ g).2.1 1, 2190, .inl (fun _ => 0))) :: ((q5, .inl ((gκ g).2.1 1, 365, .inl (fun _ => 0))) :: ((q4, .inl ((gκ g).2.1 1, 365, .inl (fun _ => 0))) :: ((q3, .inl ((gκ g).2.1 1, 365, .inl (fun _ => 0))) :: ((q1, .inl ((gκ g).2.1 1, 700, .inl (fun _ => 0))) :: wr))))))))))))))))) (List.Perm.append_right wr (l₁ := ([(q15, .inl ((gκ g).2.1 1, 900, .inl (fun _ => 0))), (q14, .inl ((gκ g).2.1 1, 2, .inl (fun _ => 0))), (q13, .inl ((gκ g).2.1 1, 2, .inl (fun _ => 0))), (q12, .inl ((gκ g).2.1 1, 60, .inl (fun _ => 0))), (q11, .inl ((gκ g).2.1 1, 60, .inl (fun _ => 0))), (q10, .inl ((gκ g).2.1 1, 60, .inl (fun _ => 0))), (q9, .inl ((gκ g).2.1 3, 8, .inr (.inl (fun _ => 0)))), (q8, .inl ((gκ g).2.1 3, 8, .inr (.inl (fun _ => 0)))), (q7, .inl ((gκ g).2.1 3, 8, .inr (.inl (fun _ => 0)))), (q6, .inl ((gκ g).2.1 1, 2190, .inl (fun _ => 0))), (q5, .inl ((gκ g).2.1 1, 365, .inl (fun _ => 0))), (q4, .inl ((gκ g).2.1 1, 365, .inl (fun _ => 0))), (q3, .inl ((gκ g).2.1 1, 365, .inl (fun _ => 0))), (q2, .inl ((gκ g).2.1 1, 365, .inl (fun _ => 0))), (q1, .inl ((gκ g).2.1 1, 700, .inl (fun _ => 0))), (h, .inr (7, _))] : va_W)) (l₂ := ([(h, .inr (7, _)), (q2, .inl ((gκ g).2.1 1, 365, .inl (fun _ => 0))), (q7, .inl ((gκ g).2.1 3, 8, .inr (.inl (fun _ => 0)))), (q15, .inl ((gκ g).2.1 1, 900, .inl (fun _ => 0))), (q14, .inl ((gκ g).2.1 1, 2, .inl (fun _ => 0))), (q13, .inl ((gκ g).2.1 1, 2, .inl (fun _ => 0))), (q12, .inl ((gκ g).2.1 1, 60, .inl (fun _ => 0))), (q11, .inl ((gκ g).2.1 1, 60, .inl (fun _ => 0))), (q10, .inl ((gκ g).2.1 1, 60, .inl (fun _ => 0))), (q9, .inl ((gκ g).2.1 3, 8, .inr (.inl (fun _ => 0)))), (q8, .inl ((gκ g).2.1 3, 8, .inr (.inl (fun _ => 0)))), (q6, .inl ((gκ g).2.1 1, 2190, .inl (fun _ => 0))), (q5, .inl ((gκ g).2.1 1, 365, .inl (fun _ => 0))), (q4, .inl ((gκ g).2.1 1, 365, .inl (fun _ => 0))), (q3, .inl ((gκ g).2.1 1, 365, .inl (fun _ => 0))), (q1, .inl ((gκ g).2.1 1, 700, .inl (fun _ => 0)))] : va_W)) mL_pm) ?_
  refine L_callV X (T := _) (q := (RX7, TX7, 35)) (cn_clears _ _ h q2 q7 _ _ (by rfl) (by rfl)) cal_X7_clears wM_X7_63 wI_X7_clears wS_X7_clears 0 rfl rfl ⟨(Nat.le_of_ble_eq_true rfl), (Nat.le_of_ble_eq_true rfl)⟩ rfl rfl (Nat.le_of_ble_eq_true rfl) ⟨(Nat.le_of_ble_eq_true rfl), (Nat.le_of_ble_eq_true rfl)⟩ dX7_init_140 (fun T1 hT1 => ?_)
  subst hT1
  exact hfin _ _ _ dX7_init_143 ⟨(fun j => match j with | 0 => h | 1 => q1 | 2 => q2 | 3 => q3 | 4 => q4 | 5 => q5 | 6 => q6 | 7 => q7 | 8 => q8 | 9 => q9 | 10 => q10 | 11 => q11 | 12 => q12 | 13 => q13 | 14 => q14 | _ => q15), rfl, rfl⟩
