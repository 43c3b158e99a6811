/-! stage B: what is kept to be undone, in the class alone -/
def PV (n : Nat) (ps : Nat → St) (c : St) (L : List St) : Prop := ∃ u, L.length ≤ u ∧ u ≤ 6 ∧ gI c 0 0 9 = nI u ∧ ∃ π : Nat → Nat, (∀ i, i < 6 → gI c 0 2 i = nI (π i) ∧ π i < 6) ∧ (∀ i j, i < 6 → j < 6 → π i = π j → i = j) ∧ ∀ i y, L[i]? = some y → AGW n (ps (π (u - 1 - i))) y
def OKW (n : Nat) (x : St) : Prop := n ≤ 8 ∧ gI x 0 0 2 = nI n ∧ ∀ b, b < n → isb (gI x (b + 1) 0 9) = true
section
variable {n t tb cm wl wm e k b : Nat} {q : Bool} {x x' x0 m c Y Y' Z : St} {f f' : Nat → Int32} {ps : Nat → St}
theorem WR.okw (h : WR n t cm wl wm q e x f) : OKW n x := ⟨h.n8, h.xn, fun _ hb => h.isb hb⟩
theorem AGW.tr {x y z : St} (h : AGW n x y) (h2 : AGW n y z) : AGW n x z :=
  ⟨fun k a b => (h.1 k a b).trans (h2.1 k a b), fun k a => (h.2.1 k a).trans (h2.2.1 k a), fun b hb => ⟨fun j k r => ((h.2.2 b hb).1 j k r).trans ((h2.2.2 b hb).1 j k r), (h.2.2 b hb).2.trans (h2.2.2 b hb).2⟩⟩
theorem AGW.okw {x y : St} (h : AGW n x y) (hy : OKW n y) : OKW n x :=
  ⟨hy.1, (h.1 2 (by omega) (by omega)).trans hy.2.1, fun b hb => by rw [(h.2.2 b hb).1 0 9 (Or.inl ⟨rfl, by omega, by omega⟩)]; exact hy.2.2 b hb⟩
theorem c_copyW {y : St} (hy : OKW n y) (x : St) : ∃ x', sX5_copyFrom y x = some x' ∧ AGW n x' y := c_copy hy.1 hy.2.1 hy.2.2
theorem c_keep1 {u : Nat} {π : Nat → Nat} {L : List St} (hu : u < 6) (hL : L.length ≤ u) (hcu : gI c 0 0 9 = nI u) (hx : OKW n x0) (a3 : ∀ i, i < 6 → gI c 0 2 i = nI (π i) ∧ π i < 6) (a4 : ∀ i j, i < 6 → j < 6 → π i = π j → i = j) (a5 : ∀ i y, L[i]? = some y → AGW n (ps (π (u - 1 - i))) y) :
    ∃ ps' c', sX6_keepForUndo_b56 x0 ps c = some (ps', c') ∧ PV n ps' c' (x0 :: L) ∧ KC c c' := by
  obtain ⟨q, e1, e2⟩ := c_copyW hx (ps (π u))
  obtain ⟨p1, p2⟩ := a3 u hu
  refine ⟨uP ps (π u) q, pI c 0 0 9 (nI (u + 1)), ?_, ?_, fun o j k h1 h2 => by rw [gI_pI, if_neg h1]⟩
  · unfold sX6_keepForUndo_b56
    have hlt : ltN (π u) 6 = true := decide_eq_true p2
    simp (disch := omega) only [zl, zm, nI_add, pk_mul, inb_t, ix_n, gd_tt, bd_e, nm_v, ite_not, ↓reduceIte, le_t, le_f, lt_t, lt_f, eq_t, eq_f, mone_f, mone_f2, hcu, p1, hlt, e1]
  · refine ⟨u + 1, by show L.length + 1 ≤ u + 1; omega, by omega, by rw [gI_pI, if_pos ⟨rfl, rfl, rfl⟩], π, fun i hi => ?_, a4, fun i y hi => ?_⟩
    · rw [gI_pI, if_neg (by omega)]; exact a3 i hi
    · cases i with
      | zero =>
        obtain rfl : x0 = y := Option.some.inj hi
        have hps : uP ps (π u) q (π (u + 1 - 1 - 0)) = q := if_pos rfl
        rw [hps]; exact e2
      | succ i =>
        have hi' : L[i]? = some y := hi
        have hl : i < L.length := (List.getElem?_eq_some_iff.mp hi').1
        have hne : ¬ π (u + 1 - 1 - (i + 1)) = π u := fun z => by
          have := a4 _ _ (by omega) (by omega) z
          omega
        have hps : uP ps (π u) q (π (u + 1 - 1 - (i + 1))) = ps (π (u + 1 - 1 - (i + 1))) := if_neg hne
        rw [hps, show u + 1 - 1 - (i + 1) = u - 1 - i by omega]
        exact a5 i y hi'
/-- a change is kept -/
theorem c_keep {L : List St} (h : PV n ps c L) (hL5 : L.length ≤ 5) (hx : OKW n x0) : ∃ ps' c', sX6_keepForUndo x0 ps c = some (ps', c') ∧ PV n ps' c' (x0 :: L) ∧ KC c c' := by
  obtain ⟨u, hL, hu, a1, π, a3, a4, a5⟩ := h
  unfold sX6_keepForUndo
  simp only [zl]
  rw [a1]
  by_cases h6 : u < 6
  · rw [if_pos (nI_lt h6 (by omega))]
    exact c_keep1 h6 hL a1 hx a3 a4 a5
  · obtain rfl : u = 6 := by omega
    rw [if_neg (nI_nlt (by omega) (by omega))]
    obtain ⟨z0, z1⟩ := a3 0 (by omega)
    have hl0 : ltN (π 0) 6 = true := decide_eq_true z1
    have kc : ∃ c1, sX6_keepForUndo_b18 FU x0 ps c (π 0) (nI 1) = sX6_keepForUndo_b56 x0 ps (pI (pI c1 0 2 5 (nI (π 0))) 0 0 9 (nI 5)) ∧ (∀ i, i < 5 → gI c1 0 2 i = nI (π (i + 1))) ∧ ∀ o j k, ¬ (o = 0 ∧ j = 2) → gI c1 o j k = gI c o j k := by
      obtain ⟨c1, e1, e2, e3⟩ := one_up 5 (fun k c1 => (∀ i, i < 6 → gI c1 0 2 i = nI (π (if i < k then i + 1 else i))) ∧ ∀ o j k, ¬ (o = 0 ∧ j = 2) → gI c1 o j k = gI c o j k) (fun F c1 k => sX6_keepForUndo_b18 F x0 ps c1 (π 0) (nI (k + 1))) (fun c1 => sX6_keepForUndo_b56 x0 ps (pI (pI c1 0 2 5 (nI (π 0))) 0 0 9 (nI 5))) (fun F c1 hR => by
        simp only [sX6_keepForUndo_b18]
        simp (disch := omega) only [zl, zm, nI_add, pk_mul, inb_t, ix_n, gd_tt, bd_e, nm_v, ite_not, ↓reduceIte, le_t, le_f, lt_t, lt_f, eq_t, eq_f, mone_f, mone_f2]) (fun k c1 hk hR => by
        have g1 := hR.1 (k + 1) (by omega)
        rw [if_neg (by omega)] at g1
        have g2 := (a3 (k + 1) (by omega)).2
        have hl : ltN (π (k + 1)) 6 = true := decide_eq_true g2
        refine ⟨pI c1 0 2 k (nI (π (k + 1))), fun F => ?_, fun i hi => ?_, fun o j i ho => ?_⟩
        · simp only [sX6_keepForUndo_b18]
          simp (disch := omega) only [zl, zm, nI_add, pk_mul, inb_t, ix_n, gd_tt, bd_e, nm_v, ite_not, ↓reduceIte, le_t, le_f, lt_t, lt_f, eq_t, eq_f, mone_f, mone_f2, g1, hl, zs, Nat.add_sub_cancel]
        · rw [gI_pI]
          by_cases hik : i = k
          · subst hik; rw [if_pos ⟨rfl, rfl, rfl⟩, if_pos (by omega)]
          · rw [if_neg (by omega), hR.1 i hi]
            by_cases h1 : i < k
            · rw [if_pos h1, if_pos (by omega)]
            · rw [if_neg h1, if_neg (by omega)]
        · rw [gI_pI, if_neg (fun z => ho ⟨z.1, z.2.1⟩)]; exact hR.2 o j i ho) 5 0 FU c (by omega) (FU_lt (by omega)) ⟨fun i hi => by rw [if_neg (by omega)]; exact (a3 i hi).1, fun _ _ _ _ => rfl⟩
      exact ⟨c1, e1, fun i hi => by rw [e2 i (by omega), if_pos hi], e3⟩
    obtain ⟨c1, k1, k2, k3⟩ := kc
    obtain ⟨ps', c', r1, r3, r4⟩ := c_keep1 (n := n) (u := 5) (c := pI (pI c1 0 2 5 (nI (π 0))) 0 0 9 (nI 5)) (x0 := x0) (ps := ps) (L := L) (π := fun i => if i = 5 then π 0 else π (i + 1)) (by omega) hL5 (by rw [gI_pI, if_pos ⟨rfl, rfl, rfl⟩]) hx (fun i hi => by
      rw [gI_pI, if_neg (by omega), gI_pI]
      by_cases hi5 : i = 5
      · rw [if_pos (by omega)]
        simp only [if_pos hi5]
        exact ⟨trivial, z1⟩
      · rw [if_neg (by omega)]
        simp only [if_neg hi5]
        exact ⟨k2 i (by omega), (a3 (i + 1) (by omega)).2⟩) (fun i j hi hj hij => by
      by_cases hi5 : i = 5 <;> by_cases hj5 : j = 5
      · omega
      · simp only [if_pos hi5, if_neg hj5] at hij
        have := a4 0 (j + 1) (by omega) (by omega) hij; omega
      · simp only [if_neg hi5, if_pos hj5] at hij
        have := a4 (i + 1) 0 (by omega) (by omega) hij; omega
      · simp only [if_neg hi5, if_neg hj5] at hij
        have := a4 (i + 1) (j + 1) (by omega) (by omega) hij; omega) (fun i y hi => by
      have hl : i < L.length := (List.getElem?_eq_some_iff.mp hi).1
      simp only [if_neg (show ¬ 5 - 1 - i = 5 by omega)]
      rw [show 5 - 1 - i + 1 = 6 - 1 - i by omega]
      exact a5 i y hi)
    refine ⟨ps', c', ?_, r3, fun o j k h1 h2 => ?_⟩
    · rw [← r1, ← k1]
      simp (disch := omega) only [inb_t, ix_n, gd_tt, z0, hl0]
    · rw [r4 o j k h1 h2, gI_pI, if_neg h1, gI_pI, if_neg (by omega)]; exact k3 o j k h2
/-- the last change is undone -/
theorem c_undo {x1 : St} {L : List St} (h : PV n ps c (x1 :: L)) (h1 : OKW n x1) (x : St) : ∃ x' c' v, sX6_undo x ps c = some (x', c', nI v) ∧ v < 6 ∧ AGW n x' x1 ∧ PV n ps c' L ∧ KC c c' := by
  obtain ⟨u, hL, hu, a1, π, a3, a4, a5⟩ := h
  have hL' : L.length + 1 ≤ u := hL
  obtain ⟨v, rfl⟩ : ∃ v, u = v + 1 := ⟨u - 1, by omega⟩
  obtain ⟨p1, p2⟩ := a3 v (by omega)
  have hlt : ltN (π v) 6 = true := decide_eq_true p2
  have ht := a5 0 x1 rfl
  rw [show v + 1 - 1 - 0 = v by omega] at ht
  obtain ⟨x', e1, e2⟩ := c_copyW (ht.okw h1) x
  refine ⟨x', pI c 0 0 9 (nI v), v, ?_, by omega, e2.tr ht, ⟨v, by omega, by omega, by rw [gI_pI, if_pos ⟨rfl, rfl, rfl⟩], π, fun i hi => ?_, a4, fun i y hi => ?_⟩, fun o j k h1 h2 => by rw [gI_pI, if_neg h1]⟩
  · unfold sX6_undo
    simp only [zl, nm_v]
    rw [a1]
    simp (disch := omega) only [zl, zm, nI_add, pk_mul, inb_t, ix_n, gd_tt, bd_e, nm_v, ite_not, ↓reduceIte, le_t, le_f, lt_t, lt_f, eq_t, eq_f, mone_f, mone_f2, zs, Nat.add_sub_cancel, gI_pI, gL_pL, gI_pL, gL_pI, qe, qn, not_true_eq_false, not_false_eq_true, true_and, and_true, false_and, and_false, and_self, Nat.add_right_cancel_iff, p1, hlt, e1]
  · rw [gI_pI, if_neg (by omega)]; exact a3 i hi
  · have := a5 (i + 1) y hi
    rw [show v + 1 - 1 - (i + 1) = v - 1 - i by omega] at this
    exact this
end
