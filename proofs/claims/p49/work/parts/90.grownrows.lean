/-! rows for the growing of a world -/
theorem PB_le {n o j : Nat} (h : (o, j) ∈ PB n) : o ≤ n := by
  obtain ⟨v, hv⟩ := PB_kb h
  match o, hv with
  | 0, _ => omega
  | b + 1, hv =>
    simp only [kb] at hv
    split at hv
    · omega
    · cases hv
theorem wsB_ext {κ : KX} {n e0 tx : Nat} {β β' : Nat → Nat → Nat} {ω ω' : Nat → Nat} {Y Y' : St} (hβ : ∀ o, o ≤ n → β' o = β o) (hω : ∀ o, o ≤ n → ω' o = ω o) (hY : ∀ o, o ≤ n → ∀ j k, gI Y' o j k = gI Y o j k) : wsB κ n β' ω' e0 tx Y' = wsB κ n β ω e0 tx Y := by
  unfold wsB
  refine List.map_congr_left (fun p hp => ?_)
  obtain ⟨o, j⟩ := p
  have ho := PB_le hp
  refine Prod.ext ?_ ?_
  · show adB β' ω' o j = adB β ω o j
    match o, j, ho with
    | 0, j, h => exact congrFun (hβ 0 h) j
    | o + 1, 0, h | o + 1, 1, h | o + 1, 2, h => exact congrFun (hβ _ h) _
    | o + 1, 3, h => exact hω _ h
    | o + 1, j + 4, h => exact congrFun (hβ _ h) _
  · show cB κ n β' ω' e0 tx Y' o j = cB κ n β ω e0 tx Y o j
    have h0 := hβ 0 (Nat.zero_le _)
    unfold cB
    cases hk : kb n o j with
    | none => rfl
    | some w =>
      obtain ⟨t, m⟩ := w
      match t, hk with
      | 0, hk =>
        show (Sum.inr (m, List.map (fvB n β' ω' e0 tx m o Y') (List.range (nfB m))) : va_E) = Sum.inr (m, List.map (fvB n β ω e0 tx m o Y) (List.range (nfB m)))
        refine congrArg (fun f => (Sum.inr (m, List.map f (List.range (nfB m))) : va_E)) (funext fun x => ?_)
        unfold fvB
        split <;> first | rfl | rw [h0] | rw [hβ o ho] | rw [hω o ho] | rw [hY o ho]
      | 7, _ => simp only [h0]
      | 8, _ =>
        refine congrArg (fun f => (Sum.inl (κ.2.1 8, m, .inr (.inr (.inr (.inr f)))) : va_E)) (funext fun x => ?_)
        by_cases hx : x < n
        · rw [if_pos hx, if_pos hx, hβ (x + 1) (by omega)]
        · rw [if_neg hx, if_neg hx]
      | 1, _ | 2, _ | 3, _ | 4, _ | 5, _ | 6, _ => simp only [hY o ho]
      | t + 9, _ => simp only [hY o ho]
/-- the beacon that is being made -/
def nbB (κ : KX) (n : Nat) (β : Nat → Nat → Nat) (ω : Nat → Nat) (Y : St) : va_W := [(β (n + 1) 0, .inr (7, (List.range 16).map (fvB 0 β ω 0 0 7 (n + 1) Y))), (β (n + 1) 1, .inl (κ.2.1 1, 4, .inl (fun k => gI Y (n + 1) 1 k))), (β (n + 1) 2, .inl (κ.2.1 1, 8, .inl (fun k => gI Y (n + 1) 2 k))), (ω (n + 1), .inl (κ.2.1 1, 8, .inl (fun k => gI Y (n + 1) 3 k))), (β (n + 1) 4, .inl (κ.2.1 1, 8, .inl (fun k => gI Y (n + 1) 4 k)))]
def ybk : Nat → Nat → Int32 := fun j k => match j, k with
  | 0, 2 => 2 | 0, 3 => 2 | 0, 4 => 999 | 2, _ => -1 | 4, _ => 5 | _, _ => 0
def Yb (Y : St) (n : Nat) : St := (fun o j k => if o = n + 1 then ybk j k else Y.1 o j k, Y.2)
def bN (β : Nat → Nat → Nat) (n q s h l : Nat) : Nat → Nat → Nat := fun o j => if o = n + 1 then (match j with | 0 => q | 1 => s | 2 => h | 3 => 0 | _ => l) else β o j
def oN (ω : Nat → Nat) (n w : Nat) : Nat → Nat := fun o => if o = n + 1 then w else ω o
section
variable {g : GX} {ξ : XI} {a b n : Nat} {β : Nat → Nat → Nat} {ω : Nat → Nat} {e0 tx : Nat} {Y : St} {R A : va_W} {pc : Nat} {lo : List (Nat × Value)} {st : List Value} {own : String} {cc : ByteArray} {nL FR LO RC RS : Nat}
theorem Yb_lt {o : Nat} (h : o ≤ n) (j k : Nat) : gI (Yb Y n) o j k = gI Y o j k := if_neg (by omega)
theorem Yb_at (j k : Nat) : gI (Yb Y n) (n + 1) j k = ybk j k := if_pos rfl
/-- the new beacon is taken up -/
theorem N_new {q s9 h9 w9 l9 : Nat} (kk : L g a b ((nbB (gκ g) n (bN β n q s9 h9 l9) (oN ω n w9) (Yb Y n) ++ wsB (gκ g) n (bN β n q s9 h9 l9) (oN ω n w9) e0 tx (Yb Y n)) ++ R) pc lo st) : L g a b ((q, .inr (7, [.int 0, .int 0, .int 2, .int 2, .int 999, .int 0, .int 0, .int 0, .int 0, .int 0, .int 0, .int 0, .ref s9, .ref h9, .ref w9, .ref l9])) :: (s9, .inl ((gκ g).2.1 1, 4, .inl (fun _ => 0))) :: (h9, .inl ((gκ g).2.1 1, 8, .inl (fun _ => (-1)))) :: (w9, .inl ((gκ g).2.1 1, 8, .inl (fun _ => 0))) :: (l9, .inl ((gκ g).2.1 1, 8, .inl (fun _ => 5))) :: (wsB (gκ g) n β ω e0 tx Y ++ R)) pc lo st := by
  have e1 : wsB (gκ g) n (bN β n q s9 h9 l9) (oN ω n w9) e0 tx (Yb Y n) = wsB (gκ g) n β ω e0 tx Y :=
    wsB_ext (fun o ho => funext fun j => if_neg (by omega)) (fun o ho => if_neg (by omega)) (fun o ho j k => Yb_lt ho j k)
  rw [e1] at kk
  have eb : ∀ j, bN β n q s9 h9 l9 (n + 1) j = (match j with | 0 => q | 1 => s9 | 2 => h9 | 3 => 0 | _ => l9) := fun j => if_pos rfl
  have ew : oN ω n w9 (n + 1) = w9 := if_pos rfl
  have e2 : nbB (gκ g) n (bN β n q s9 h9 l9) (oN ω n w9) (Yb Y n) = [(q, .inr (7, [.int 0, .int 0, .int 2, .int 2, .int 999, .int 0, .int 0, .int 0, .int 0, .int 0, .int 0, .int 0, .ref s9, .ref h9, .ref w9, .ref l9])), (s9, .inl ((gκ g).2.1 1, 4, .inl (fun _ => 0))), (h9, .inl ((gκ g).2.1 1, 8, .inl (fun _ => (-1)))), (w9, .inl ((gκ g).2.1 1, 8, .inl (fun _ => 0))), (l9, .inl ((gκ g).2.1 1, 8, .inl (fun _ => 5)))] := by
    unfold nbB
    simp only [Yb_at, eb, ew]
    have e3 : (List.range 16).map (fvB 0 (bN β n q s9 h9 l9) (oN ω n w9) 0 0 7 (n + 1) (Yb Y n)) = [.int 0, .int 0, .int 2, .int 2, .int 999, .int 0, .int 0, .int 0, .int 0, .int 0, .int 0, .int 0, .ref s9, .ref h9, .ref w9, .ref l9] := by
      show [Value.int (gI (Yb Y n) (n + 1) 0 0), Value.int (gI (Yb Y n) (n + 1) 0 1), Value.int (gI (Yb Y n) (n + 1) 0 2), Value.int (gI (Yb Y n) (n + 1) 0 3), Value.int (gI (Yb Y n) (n + 1) 0 4), Value.int (gI (Yb Y n) (n + 1) 0 5), Value.int (gI (Yb Y n) (n + 1) 0 6), Value.int (gI (Yb Y n) (n + 1) 0 7), Value.int (gI (Yb Y n) (n + 1) 0 8), Value.int (gI (Yb Y n) (n + 1) 0 9), Value.int (gI (Yb Y n) (n + 1) 0 10), Value.int (gI (Yb Y n) (n + 1) 0 11), Value.ref (bN β n q s9 h9 l9 (n + 1) 1), Value.ref (bN β n q s9 h9 l9 (n + 1) 2), Value.ref (oN ω n w9 (n + 1)), Value.ref (bN β n q s9 h9 l9 (n + 1) 4)] = _
      simp only [Yb_at, eb, ew]
      rfl
    rw [e3]
    rfl
  rw [e2] at kk
  rw [List.append_assoc] at kk
  exact kk
theorem N_get (X : CL g own cc nL FR LO RC RS) {index k x : Nat} {v : Value} (hk : k < 16) (hx : β (n + 1) 0 = x) (hw : Cond.fieldLink own index RX7 (TX7 k).2.1 (TX7 k).2.2.1 ∈ WG) (href : (TX7 k).1 = RX7) (hv : fvB 0 β ω 0 0 7 (n + 1) Y k = v) (hd : decode cc pc = .ok (.getfield index, 3)) (kk : L g a b ((nbB (gκ g) n β ω Y ++ wsB (gκ g) n β ω e0 tx Y) ++ R) (pc + 3) lo (v :: st)) : L g a b ((nbB (gκ g) n β ω Y ++ wsB (gκ g) n β ω e0 tx Y) ++ R) pc lo (.ref x :: st) := by
  subst hx
  refine L_get X (C := RX7) (Tf := TX7) (N := 16) (c := 7) rfl iX7 hk href hw 0 rfl ?_ hd kk
  rw [List.getElem?_map, List.getElem?_range hk, Option.map_some, hv]
theorem N_put (X : CL g own cc nL FR LO RC RS) {index k x : Nat} {v : Int32} {Y' : St} {ty : FieldType} (hk : k < 16) (hk2 : k < 12) (hx : β (n + 1) 0 = x) (hw : Cond.fieldLink own index RX7 (TX7 k).2.1 (TX7 k).2.2.1 ∈ WG) (href : (TX7 k).1 = RX7) (hfin : (TX7 k).2.2.2 = false) (hd' : parseFieldDescriptor (TX7 k).2.2.1 = some ty) (hnr : narrow ty (.int v) = .int v) (hft : fits ty (.int v) = true) (hY : pI Y (n + 1) 0 k v = Y') (hd : decode cc pc = .ok (.putfield index, 3)) (kk : L g a b ((nbB (gκ g) n β ω Y' ++ wsB (gκ g) n β ω e0 tx Y') ++ R) (pc + 3) lo st) : L g a b ((nbB (gκ g) n β ω Y ++ wsB (gκ g) n β ω e0 tx Y) ++ R) pc lo (.int v :: .ref x :: st) := by
  subst hx hY
  have e1 : wsB (gκ g) n β ω e0 tx (pI Y (n + 1) 0 k v) = wsB (gκ g) n β ω e0 tx Y :=
    wsB_ext (fun _ _ => rfl) (fun _ _ => rfl) (fun o ho j q => by rw [gI_pI, if_neg (by omega)])
  rw [e1] at kk
  have e2 : nbB (gκ g) n β ω (pI Y (n + 1) 0 k v) = (nbB (gκ g) n β ω Y).set 0 (β (n + 1) 0, .inr (7, ((List.range 16).map (fvB 0 β ω 0 0 7 (n + 1) Y)).set k (.int v))) := by
    have hj : ∀ j, j ≠ 0 → ∀ q, gI (pI Y (n + 1) 0 k v) (n + 1) j q = gI Y (n + 1) j q := fun j hj q => by rw [gI_pI, if_neg (fun e => hj e.2.1)]
    have h1 := fun q => hj 1 (by decide) q
    have h2 := fun q => hj 2 (by decide) q
    have h3 := fun q => hj 3 (by decide) q
    have h4 := fun q => hj 4 (by decide) q
    unfold nbB
    simp only [h1, h2, h3, h4, List.set_cons_zero]
    have := cB_put (κ := gκ g) (n := n + 1) (β := β) (ω := ω) (e0 := 0) (tx := 0) (Y := Y) (o := n + 1) (c := 7) (k := k) (v := v) (kb_b0 (Nat.lt_succ_self n)) (Or.inr ⟨rfl, hk2⟩)
    rw [cB_obj (kb_b0 (Nat.lt_succ_self n))] at this
    have e9 : ∀ Y0, fvB 0 β ω 0 0 7 (n + 1) Y0 = fvB (n + 1) β ω 0 0 7 (n + 1) Y0 := fun Y0 => funext fun x => by
      unfold fvB
      split <;> first | rfl | (exfalso; omega)
    rw [e9, e9]
    exact congrArg (fun x => ((β (n + 1) 0, x) : Nat × va_E) :: _) this
  refine L_put X (C := RX7) (Tf := TX7) (N := 16) (c := 7) (ty0 := tyX7) (T' := (nbB (gκ g) n β ω (pI Y (n + 1) 0 k v) ++ wsB (gκ g) n β ω e0 tx Y) ++ R) rfl iX7 tyX7_ok nmX7 hk href hfin hd' hw 0 rfl hnr hft (by rw [List.length_map, List.length_range]; exact hk) ?_ hd kk
  rw [e2]
  rfl
/-- x.all, while a beacon is being made -/
theorem N_all (X : CL g own cc nL FR LO RC RS) (hn : n < 9) {index : Nat} (hw : Cond.fieldLink own index RX8 "all" "Ljava/util/List;" ∈ WG) (hd : decode cc pc = .ok (.getfield index, 3)) (kk : L g a b ((nbB (gκ g) n β ω Y ++ wsB (gκ g) n β ω e0 tx Y) ++ R) (pc + 3) lo (.ref (β 0 4) :: st)) : L g a b ((nbB (gκ g) n β ω Y ++ wsB (gκ g) n β ω e0 tx Y) ++ R) pc lo (.ref (β 0 0) :: st) := by
  have pm : ((nbB (gκ g) n β ω Y ++ wsB (gκ g) n β ω e0 tx Y) ++ R).Perm (wsB (gκ g) n β ω e0 tx Y ++ (nbB (gκ g) n β ω Y ++ R)) := by
    rw [← List.append_assoc]
    exact List.perm_append_comm.append_right R
  refine L_perm pm ?_
  exact B_get X hn (N := 12) (k := 10) (c := 8) (o := 0) (j := 0) rfl rfl rfl iX8 rfl (by decide) rfl hw rfl hd (L_perm pm.symm kk)
theorem pm_4 {x y z w : Nat × va_E} : (x :: y :: z :: w :: R).Perm (z :: w :: x :: y :: R) := (List.perm_append_comm (l₁ := [x, y]) (l₂ := [z, w])).append_right R
/-- StringBuilder.append, with other cells ahead -/
theorem S_pm {x y : Nat × va_E} : (A ++ x :: y :: R).Perm (x :: y :: (A ++ R)) := List.perm_middle.trans (List.Perm.cons x List.perm_middle)
theorem S_str (X : CL g own cc nL FR LO RC RS) (E : XE g ξ) {index q v cap i : Nat} {ml : Int32} {f : Nat → Int32} {t : List Int32} (hS : SBt t cap f) (hi : i < nJS) (hl : t.length + lenJS.getD i 0 ≤ 600) (hw : Cond.methodLink own index yJ4_append_15ec4 ∈ WG) (hR : (6 ≤ FR ∧ 149 ≤ LO) ∧ (a + 1 ≤ RC ∧ b + 1300 ≤ RS)) (hc : (st.map fun v => v.category).sum ≤ 8) (hd : decode cc pc = .ok (.invokevirtual index, 3)) (kk : ∀ (v2 cap2 : Nat) (f2 : Nat → Int32), SBt (t ++ bytJS.getD i []) cap2 f2 → L g (a + 1) (b + 1300) (A ++ (q, .inr (11, [.ref v2, .int 0, .int ml, .int (nI (t ++ bytJS.getD i []).length)])) :: (v2, .inl ((gκ g).2.1 2, cap2, .inl f2)) :: R) (pc + 3) lo (.ref q :: st)) : L g a b (A ++ (q, .inr (11, [.ref v, .int 0, .int ml, .int (nI t.length)])) :: (v, .inl ((gκ g).2.1 2, cap, .inl f)) :: R) pc lo (.ref (kS g i) :: .ref q :: st) := by
  refine L_perm S_pm ?_
  refine L_cV X E (q := vcl 11) (As := [.ref (kS g i)]) (rest := st) (cm_J4_append_15ec4 hi hS hl) cal_J4_append_15ec4 hw wI_J4_append_15ec4 wS_J4_append_15ec4 0 rfl rfl ⟨⟨by omega, by omega⟩, hR.2⟩ rfl rfl hc hd (fun rv T hT => ?_)
  obtain ⟨v2, cap2, f2, rfl, h2, rfl⟩ := hT
  exact L_perm S_pm.symm (kk v2 cap2 f2 h2)
theorem S_chr (X : CL g own cc nL FR LO RC RS) (E : XE g ξ) {index q v cap : Nat} {ml c : Int32} {f : Nat → Int32} {t : List Int32} (hS : SBt t cap f) (hi : inb c 128 = true) (hl : t.length + 1 ≤ 600) (hw : Cond.methodLink own index yJ4_append_cf468 ∈ WG) (hR : (6 ≤ FR ∧ 149 ≤ LO) ∧ (a + 1 ≤ RC ∧ b + 1300 ≤ RS)) (hc : (st.map fun v => v.category).sum ≤ 8) (hd : decode cc pc = .ok (.invokevirtual index, 3)) (kk : ∀ (v2 cap2 : Nat) (f2 : Nat → Int32), SBt (t ++ [c]) cap2 f2 → L g (a + 1) (b + 1300) (A ++ (q, .inr (11, [.ref v2, .int 0, .int ml, .int (nI (t ++ [c]).length)])) :: (v2, .inl ((gκ g).2.1 2, cap2, .inl f2)) :: R) (pc + 3) lo (.ref q :: st)) : L g a b (A ++ (q, .inr (11, [.ref v, .int 0, .int ml, .int (nI t.length)])) :: (v, .inl ((gκ g).2.1 2, cap, .inl f)) :: R) pc lo (.int c :: .ref q :: st) := by
  have h128 := inb_lt hi
  obtain ⟨k, hk, rfl⟩ : ∃ k, k < 128 ∧ c = nI k := by
    obtain ⟨k, h1, h2⟩ := vp_in_of (inb_vp hi) (by decide)
    exact ⟨k, h1, h2⟩
  refine L_perm S_pm ?_
  refine L_cV X E (q := vcl 11) (As := [.int (nI k)]) (rest := st) (cm_J4_append_cf468 hk hS hl) cal_J4_append_cf468 hw wI_J4_append_cf468 wS_J4_append_cf468 0 rfl rfl ⟨⟨by omega, by omega⟩, hR.2⟩ rfl rfl hc hd (fun rv T hT => ?_)
  obtain ⟨v2, cap2, f2, rfl, h2, rfl⟩ := hT
  exact L_perm S_pm.symm (kk v2 cap2 f2 h2)
theorem S_int (X : CL g own cc nL FR LO RC RS) (E : XE g ξ) {index q v cap : Nat} {ml c : Int32} {f : Nat → Int32} {t : List Int32} (hS : SBt t cap f) (hi : inb c 1000 = true) (hl : t.length + 3 ≤ 600) (hw : Cond.methodLink own index yJ4_append_bf812 ∈ WG) (hR : (6 ≤ FR ∧ 149 ≤ LO) ∧ (a + 1 ≤ RC ∧ b + 1300 ≤ RS)) (hc : (st.map fun v => v.category).sum ≤ 8) (hd : decode cc pc = .ok (.invokevirtual index, 3)) (kk : ∀ (v2 cap2 : Nat) (f2 : Nat → Int32), SBt (t ++ dgs (ix c)) cap2 f2 → L g (a + 1) (b + 1300) (A ++ (q, .inr (11, [.ref v2, .int 0, .int ml, .int (nI (t ++ dgs (ix c)).length)])) :: (v2, .inl ((gκ g).2.1 2, cap2, .inl f2)) :: R) (pc + 3) lo (.ref q :: st)) : L g a b (A ++ (q, .inr (11, [.ref v, .int 0, .int ml, .int (nI t.length)])) :: (v, .inl ((gκ g).2.1 2, cap, .inl f)) :: R) pc lo (.int c :: .ref q :: st) := by
  obtain ⟨k, hk, rfl⟩ : ∃ k, k < 1000 ∧ c = nI k := by
    obtain ⟨k, h1, h2⟩ := vp_in_of (inb_vp hi) (by decide)
    exact ⟨k, h1, h2⟩
  rw [ix_n (by omega)] at kk
  refine L_perm S_pm ?_
  refine L_cV X E (q := vcl 11) (As := [.int (nI k)]) (rest := st) (cm_J4_append_bf812 hk hS hl) cal_J4_append_bf812 hw wI_J4_append_bf812 wS_J4_append_bf812 0 rfl rfl ⟨⟨by omega, by omega⟩, hR.2⟩ rfl rfl hc hd (fun rv T hT => ?_)
  obtain ⟨v2, cap2, f2, rfl, h2, rfl⟩ := hT
  exact L_perm S_pm.symm (kk v2 cap2 f2 h2)
theorem S_toS (X : CL g own cc nL FR LO RC RS) (E : XE g ξ) {index q v cap : Nat} {ml : Int32} {f : Nat → Int32} {t : List Int32} (hS : SBt t cap f) (hw : Cond.methodLink own index yJ4_toString_0e30d ∈ WG) (hR : (6 ≤ FR ∧ 171 ≤ LO) ∧ (a + 2 ≤ RC ∧ b + 1304 ≤ RS)) (hc : (st.map fun v => v.category).sum ≤ 8) (hd : decode cc pc = .ok (.invokevirtual index, 3)) (kk : ∀ (z z2 : Nat) (f2 : Nat → Int32), (∀ i, i < t.length → f2 i = t.getD i 0) → L g (a + 2) (b + 1304) (A ++ (z, .inr (12, [.ref z2, .int 0, .int 0, .int 0])) :: (z2, .inl ((gκ g).2.1 2, t.length, .inl f2)) :: R) (pc + 3) lo (.ref z :: st)) : L g a b (A ++ (q, .inr (11, [.ref v, .int 0, .int ml, .int (nI t.length)])) :: (v, .inl ((gκ g).2.1 2, cap, .inl f)) :: R) pc lo (.ref q :: st) := by
  refine L_perm S_pm ?_
  refine L_cV X E (q := vcl 11) (As := []) (rest := st) (cm_J4_toString_0e30d hS.1 hS.2.1 hS.2.2.1) cal_J4_toString_0e30d hw wI_J4_toString_0e30d wS_J4_toString_0e30d 0 rfl rfl ⟨⟨by omega, by omega⟩, hR.2⟩ rfl rfl hc hd (fun rv T hT => ?_)
  obtain ⟨z, z2, f2, rfl, h2, h3, rfl⟩ := hT
  refine L_perm pm_4 (L_tail (L_tail (L_perm S_pm.symm (kk z z2 f2 (fun i hi => by rw [h2 i hi]; exact hS.2.2.2 i hi)))))
theorem cB_tx {κ : KX} {z o j : Nat} (h : (o, j) ≠ (0, 0)) : cB κ n β ω e0 z Y o j = cB κ n β ω e0 tx Y o j := by
  unfold cB
  cases hk : kb n o j with
  | none => rfl
  | some w =>
    obtain ⟨t, m⟩ := w
    match t, hk with
    | 0, hk =>
      show (Sum.inr (m, List.map (fvB n β ω e0 z m o Y) (List.range (nfB m))) : va_E) = Sum.inr (m, List.map (fvB n β ω e0 tx m o Y) (List.range (nfB m)))
      refine congrArg (fun f => (Sum.inr (m, List.map f (List.range (nfB m))) : va_E)) (funext fun x => ?_)
      have hm : m ≠ 8 := by
        intro e
        subst e
        match o, j, hk, h with
        | 0, 0, _, h => exact h rfl
        | 0, 4, hk, _ => cases hk
        | 0, 1, hk, _ => cases hk
        | 0, 2, hk, _ => cases hk
        | 0, 3, hk, _ => cases hk
        | 0, 5, hk, _ => exact absurd hk (by simp [kb])
        | 0, j + 6, hk, _ => exact absurd hk (by simp [kb])
        | o + 1, 0, hk, _ => exact absurd hk (by simp [kb])
        | o + 1, 1, hk, _ => exact absurd hk (by simp [kb])
        | o + 1, 2, hk, _ => exact absurd hk (by simp [kb])
        | o + 1, 3, hk, _ => exact absurd hk (by simp [kb])
        | o + 1, 4, hk, _ => exact absurd hk (by simp [kb])
        | o + 1, j + 5, hk, _ => exact absurd hk (by simp [kb])
      unfold fvB
      split <;> first | rfl | exact absurd rfl hm
    | 1, _ | 2, _ | 3, _ | 4, _ | 5, _ | 6, _ | 7, _ | 8, _ => rfl
    | t + 9, _ => rfl
/-- x.text = .. -/
theorem B_puttx (X : CL g own cc nL FR LO RC RS) (hn : n < 9) {index z : Nat} (hw : Cond.fieldLink own index RX8 "text" "Ljava/lang/String;" ∈ WG) (hd : decode cc pc = .ok (.putfield index, 3)) (kk : L g a b (wsB (gκ g) n β ω e0 z Y ++ R) (pc + 3) lo st) : L g a b (wsB (gκ g) n β ω e0 tx Y ++ R) pc lo (.ref z :: .ref (β 0 0) :: st) := by
  obtain ⟨i, hi, he⟩ := wsB_at (κ := gκ g) (β := β) (ω := ω) (e0 := e0) (tx := tx) (Y := Y) (R := R) hn (o := 0) (j := 0) (v := (0, 8)) rfl
  rw [cB_obj (n := n) (o := 0) (j := 0) (c := 8) rfl] at he
  refine L_put X (C := RX8) (Tf := TX8) (N := 12) (c := 8) (k := 11) (ty0 := tyX8) rfl iX8 tyX8_ok nmX8 (by decide) rfl rfl (tyX8_ok _ (by decide)) hw i he rfl rfl (by rw [List.length_map, List.length_range]; decide) ?_ hd kk
  have hl := (List.getElem?_eq_some_iff.mp hi).1
  rw [List.set_append_left _ _ (by unfold wsB; rw [List.length_map]; exact hl)]
  have k := map_set (f := fun p => (adB β ω p.1 p.2, cB (gκ g) n β ω e0 tx Y p.1 p.2)) (f' := fun p => (adB β ω p.1 p.2, cB (gκ g) n β ω e0 z Y p.1 p.2)) (PB_nodup n hn) hi (fun q hq hne2 => by
    show (adB β ω q.1 q.2, cB (gκ g) n β ω e0 z Y q.1 q.2) = (adB β ω q.1 q.2, cB (gκ g) n β ω e0 tx Y q.1 q.2)
    rw [cB_tx (tx := tx) hne2])
  unfold wsB
  rw [← k]
  rfl
end
