/-! stage B: the relation of all stores; how answers are compared -/
def RG (w0 w2 : St) (ps : Nat → St) (pg c m : St) : Prop := WO (gL m 0 7) w0 (gI m 0 2) ∧ SV w2 c m ∧ PR ps c m ∧ (∃ len, BF len c m) ∧ (gI c 0 0 2 = gI m 0 0 10 ∧ gI c 0 0 3 = gI m 0 0 11) ∧ PGR pg m
def RT (T : TT) : Prop := RG T.1 T.2.2.1 T.2.2.2.1 T.2.2.2.2.2.2.2.2.1 T.2.2.2.2.2.2.2.2.2.1 T.2.2.2.2.2.2.2.2.2.2.1
section
variable {w0 w2 pg c m c' m' : St} {ps : Nat → St} {len : Nat}
theorem SV.cg (h : SV w2 c m) (h1 : gI c' 0 0 7 = gI c 0 0 7) (h2 : gI m' 0 0 22 = gI m 0 0 22) (h3 : ∀ i, gI m' 0 3 i = gI m 0 3 i) (h4 : ∀ k, gL m' 0 8 k = gL m 0 8 k) : SV w2 c' m' := by
  obtain ⟨kq, a1, a2, a3⟩ := h
  exact ⟨kq, h1.trans a1, h2.trans a2, fun z => ((a3 z).fcg fun i _ => h3 i).wcg fun b _ => h4 b⟩
theorem BF.cg (h : BF len c m) (h1 : gI c' 0 0 1 = gI c 0 0 1) (h2 : ∀ k, gI c' 0 1 k = gI c 0 1 k) (h3 : gI m' 0 0 2 = gI m 0 0 2) (h4 : ∀ k, gI m' 0 1 k = gI m 0 1 k) : BF len c' m' := by
  obtain ⟨a0, a1, a2, a3⟩ := h
  exact ⟨a0, h1.trans a1, h3.trans a2, fun k hk => by
    obtain ⟨v, b1, b2, b3⟩ := a3 k hk
    exact ⟨v, b1, (h4 k).trans b2, (h2 k).trans b3⟩⟩
theorem PGR.cg (h : PGR pg m) (h1 : gI m' 0 0 34 = gI m 0 0 34) (h2 : gI m' 0 0 33 = gI m 0 0 33) (h3 : ∀ k, gI m' 0 15 k = gI m 0 15 k) : PGR pg m' := by
  obtain ⟨hr, a1, a2, a3⟩ := h
  refine ⟨hr, h1.trans a1, a2, fun z => ?_⟩
  obtain ⟨L, b1, b2, b3, b4⟩ := a3 z
  exact ⟨L, b1, b2, h2.trans b3, fun k hk => (b4 k hk).trans (h3 k).symm⟩
theorem RG.fq (h : RG w0 w2 ps pg c m) (e : FQ m m') : RG w0 w2 ps pg c m' := by
  obtain ⟨e1, e2, e3, e4⟩ := e
  obtain ⟨a1, a2, a3, ⟨len, a4⟩, ⟨a5, a6⟩, a7⟩ := h
  refine ⟨(a1.fcg fun i hi => e3 i hi).wcg fun b _ => e4 7 b, a2.cg rfl (e1 22 (by omega)) (fun i => e2 3 i (by omega) (by omega) (by omega)) (fun k => e4 8 k), a3.cg rfl (fun _ _ => rfl) (e1 21 (by omega)) (fun k => e2 6 k (by omega) (by omega) (by omega)) (fun k _ => e4 7 k), ⟨len, a4.cg rfl (fun _ => rfl) (e1 2 (by omega)) (fun k => e2 1 k (by omega) (by omega) (by omega))⟩, ⟨a5.trans (e1 10 (by omega)).symm, a6.trans (e1 11 (by omega)).symm⟩, a7.cg (e1 34 (by omega)) (e1 33 (by omega)) (fun k => e2 15 k (by omega) (by omega) (by omega))⟩
/-- after a query only the code of the call is another one -/
theorem RG.code (h : RG w0 w2 ps pg c m) (v : Int32) : RG w0 w2 ps pg c (sr (pI m 0 0 0 v) (gI m 0 2)) := by
  have := FQ.code m (gI m 0 2) v
  rw [sr_self] at this
  exact h.fq this
/-- after a change -/
theorem RG.chg {x' : St} {ps' : Nat → St} (h : RG w0 w2 ps pg c m) (e : KXM m m') (ec : KC c c') (h1 : WO (gL m' 0 7) x' (gI m' 0 2)) (h2 : PR ps' c' m') : RG x' w2 ps' pg c' m' := by
  obtain ⟨e1, e2, e3⟩ := e
  obtain ⟨a1, a2, a3, ⟨len, a4⟩, ⟨a5, a6⟩, a7⟩ := h
  exact ⟨h1, a2.cg (ec 0 0 7 (by omega) (by omega)) (e1 22 (by omega) (by omega)) (fun i => e2 3 i (by omega) (by omega) (by omega) (by omega)) (fun k => e3 8 k), h2, ⟨len, a4.cg (ec 0 0 1 (by omega) (by omega)) (fun k => ec 0 1 k (by omega) (by omega)) (e1 2 (by omega) (by omega)) (fun k => e2 1 k (by omega) (by omega) (by omega) (by omega))⟩, ⟨(ec 0 0 2 (by omega) (by omega)).trans (a5.trans (e1 10 (by omega) (by omega)).symm), (ec 0 0 3 (by omega) (by omega)).trans (a6.trans (e1 11 (by omega) (by omega)).symm)⟩, a7.cg (e1 34 (by omega) (by omega)) (e1 33 (by omega) (by omega)) (fun k => e2 15 k (by omega) (by omega) (by omega) (by omega))⟩
theorem sr_code (m : St) (f : Nat → Int32) (v : Int32) : gI (sr (pI m 0 0 0 v) f) 0 0 0 = v := by rw [sr_0, gI_pI, if_pos ⟨rfl, rfl, rfl⟩]
/-- the comparison of two answers -/
theorem tl_int {ot' : St} {code : Nat} {v : Int32} {K : Option Int32} (hm : gI m' 0 0 0 = nI code) (hv : nI code = nI 0 → gL ot' 0 0 0 = v.toInt64) : (bd (sX7_thrown m') fun q => if q = nI code then (if ¬ nI code = nI 0 then K else (if lg_cmp (gL ot' 0 0 0) v.toInt64 = nI 0 then K else some (nI 0))) else some (nI 0)) = K := by
  have h1 : sX7_thrown m' = some (nI code) := by rw [← hm]; rfl
  rw [h1, bd_e, if_pos rfl]
  by_cases hc : nI code = nI 0
  · rw [if_neg (fun z => z hc), hv hc, if_pos (by rw [lgn_eq])]
  · rw [if_pos hc]
theorem tl_bool {ot' : St} {code : Nat} {v : Int32} {K : Option Int32} (hm : gI m' 0 0 0 = nI code) (hv : nI code = nI 0 → gL ot' 0 0 0 = if v = nI 0 then (0 : Int64) else (1 : Int64)) : (bd (sX7_thrown m') fun q => if q = nI code then (if ¬ nI code = nI 0 then K else (if v = nI 0 then (if lg_cmp (gL ot' 0 0 0) (0 : Int64) = nI 0 then K else some (nI 0)) else (if lg_cmp (gL ot' 0 0 0) (1 : Int64) = nI 0 then K else some (nI 0)))) else some (nI 0)) = K := by
  have h1 : sX7_thrown m' = some (nI code) := by rw [← hm]; rfl
  rw [h1, bd_e, if_pos rfl]
  by_cases hc : nI code = nI 0
  · rw [if_neg (fun z => z hc), hv hc]
    by_cases hz : v = nI 0
    · rw [if_pos hz, if_pos hz, if_pos (by rw [lgn_eq])]
    · rw [if_neg hz, if_neg hz, if_pos (by rw [lgn_eq])]
  · rw [if_pos hc]
/-- the world at the start -/
theorem rt_start : RT T0 := by
  have hws : WS 0 0 xW (gI xM 0 2) := by
    refine ⟨⟨0, 0, 3, 0, by omega, by omega, by omega, by omega, ⟨by omega, by omega⟩, by omega, by omega, by omega, ?_, ?_, ?_, ?_, ?_, ?_, fun k hk => ?c1, ?_, ?_, ?_, ?_, ?_, ?_, ?_, ?_, ?_, fun k hk => ?c2⟩, fun b hb => absurd hb (by omega), fun b hb => absurd hb (by omega)⟩
    case c1 =>
      rcases (by omega : k = 0 ∨ k = 1 ∨ k = 2 ∨ k = 3) with rfl | rfl | rfl | rfl
      · exact ⟨1, by omega, by decide +kernel⟩
      · exact ⟨5, by omega, by decide +kernel⟩
      · exact ⟨3, by omega, by decide +kernel⟩
      · exact ⟨9, by omega, by decide +kernel⟩
    case c2 =>
      rcases (by omega : k = 0 ∨ k = 1 ∨ k = 2 ∨ k = 3) with rfl | rfl | rfl | rfl <;> decide +kernel
    all_goals decide +kernel
  refine ⟨⟨0, 0, by omega, hws, fun b hb => absurd hb (by omega), fun b b' hb => absurd hb (by omega)⟩, ⟨false, by decide +kernel, by decide +kernel, fun z => absurd z (by decide)⟩, ⟨0, by omega, by decide +kernel, by decide +kernel, fun k => k, fun i hi => ⟨?_, hi⟩, fun i j _ _ h => h, fun i hi => absurd hi (by omega)⟩, ⟨0, by omega, by decide +kernel, by decide +kernel, fun k hk => absurd hk (by omega)⟩, ⟨by decide +kernel, by decide +kernel⟩, ⟨false, by decide +kernel, fun _ => by decide +kernel, fun z => absurd z (by decide)⟩⟩
  show xP i = nI i
  exact if_pos hi
end
