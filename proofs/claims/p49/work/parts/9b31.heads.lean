/-! stage B: what all have together grows, and reads as told -/
def QTl (n : Nat) (Y : St) (w : Nat) (x d : St) : Prop := XGH n x Y ∧ ∃ v, v < w ∧ gI d 0 0 1 = nI v
def NMT (w : List Nat) (o : Option Nat) : List Nat := match o with
  | none => []
  | some v => w ++ ([32] ++ (dN v ++ [59]))
def setH (Y : St) (f : Nat) (o : Option Nat) : St := match o with
  | none => Y
  | some v => pI Y 0 0 f (nI v)
def coY (Y : St) (c0 c1 c2 c3 : Nat) : St := pI (pI (pI (pI Y 0 1 0 (nI c0)) 0 1 1 (nI c1)) 0 1 2 (nI c2)) 0 1 3 (nI c3)
section
variable {n p i j u L9 N : Nat} {x Y Y' : St} {xs : Nat → Int32} {tN s l : List Nat} {Q Q' : St → St → Prop} {N9 : Int32}
theorem QTl.up {w w' : Nat} {d : St} (hw : w ≤ w') (h : QTl n Y w x d) : QTl n Y w' x d := by
  obtain ⟨h1, v, h2, h3⟩ := h
  exact ⟨h1, v, by omega, h3⟩
theorem csT_app (c0 c1 c2 c3 : Nat) (l : List Nat) : csT c0 c1 c2 c3 l = csT c0 c1 c2 c3 [] ++ l := by
  unfold csT
  simp only [List.append_assoc, List.nil_append]
theorem sq_costs {c0 c1 c2 c3 : Nat} (h0 : c0 ≤ 99) (h1 : c1 ≤ 99) (h2 : c2 ≤ 99) (h3 : c3 ≤ 99) : SQT (QTl n Y 1) (QTl n (coY Y c0 c1 c2 c3) 2) (csT c0 c1 c2 c3 []) := by
  intro B len c x d t l hl hR hQ
  rw [← csT_app] at hR
  obtain ⟨hX, v, hv, hd⟩ := hQ
  obtain rfl : v = 0 := by omega
  obtain ⟨tm, e1, e2, e3⟩ := k_costs (x := x) hR h0 h1 h2 h3 hd
  obtain ⟨t', e4, e5⟩ := k_step (s := [10]) e1 e2 e3 rfl hl
  refine ⟨_, t', _, e4, e5, (((hX.cost (i := 0) (by omega) h0).cost (i := 1) (by omega) h1).cost (i := 2) (by omega) h2).cost (i := 3) (by omega) h3, 1, by omega, by rw [gI_pI, if_pos ⟨rfl, rfl, rfl⟩]⟩
theorem sq_seed {v : Nat} (h0 : v ≤ 999) : SQT (QTl n Y 2) (QTl n (pI Y 0 0 1 (nI v)) 4) (wSee ++ ([32] ++ (dN v ++ [59]))) := by
  intro B len c x d t l hl hR hQ
  obtain ⟨hX, w, hw, hd⟩ := hQ
  simp only [List.append_assoc] at hR
  obtain ⟨z1, z2⟩ := (told_tab w (by omega)).2.1 hw
  obtain ⟨tm, e1, e2, e3⟩ := k_seed (x := x) hR h0 hd z1
  obtain ⟨t', e4, e5⟩ := k_step (s := []) e1 e2 e3 rfl hl
  exact ⟨_, t', _, e4, e5, hX.seed, _, z2, by rw [gI_pI, if_pos ⟨rfl, rfl, rfl⟩]⟩
theorem sq_tries {v : Nat} (h00 : 1 ≤ v) (h0 : v ≤ 9) : SQT (QTl n Y 4) (QTl n (pI Y 0 0 2 (nI v)) 8) (wTri ++ ([32] ++ (dN v ++ [59]))) := by
  intro B len c x d t l hl hR hQ
  obtain ⟨hX, w, hw, hd⟩ := hQ
  simp only [List.append_assoc] at hR
  obtain ⟨z1, z2⟩ := (told_tab w (by omega)).2.2.1 hw
  obtain ⟨tm, e1, e2, e3⟩ := k_tries (x := x) hR h00 h0 hd z1
  obtain ⟨t', e4, e5⟩ := k_step (s := []) e1 e2 e3 rfl hl
  exact ⟨_, t', _, e4, e5, hX.tries h0, _, z2, by rw [gI_pI, if_pos ⟨rfl, rfl, rfl⟩]⟩
theorem sq_memory {v : Nat} (h00 : 1 ≤ v) (h0 : v ≤ 999) : SQT (QTl n Y 8) (QTl n (pI Y 0 0 3 (nI v)) 16) (wMem ++ ([32] ++ (dN v ++ [59]))) := by
  intro B len c x d t l hl hR hQ
  obtain ⟨hX, w, hw, hd⟩ := hQ
  simp only [List.append_assoc] at hR
  obtain ⟨z1, z2⟩ := (told_tab w (by omega)).2.2.2
  obtain ⟨tm, e1, e2, e3⟩ := k_memory (x := x) hR h00 h0 hd z1
  obtain ⟨t', e4, e5⟩ := k_step (s := []) e1 e2 e3 rfl hl
  exact ⟨_, t', _, e4, e5, hX.memory, _, z2, by rw [gI_pI, if_pos ⟨rfl, rfl, rfl⟩]⟩
def nrT (j i : Nat) : List Nat := wNea ++ ([32] ++ ([97 + j] ++ ([32] ++ ([97 + i] ++ [59]))))
theorem sq_near (hij : i < j) (hj : j < n) (h0 : gI Y 0 (j + 6) i = nI 0) : SQT (QTl n Y 16) (QTl n (swY Y i j (nI 1)) 16) (nrT j i) := by
  intro B len c x d t l hl hR hQ
  obtain ⟨hX, v, hv, hd⟩ := hQ
  unfold nrT at hR
  simp only [List.append_assoc] at hR
  obtain ⟨⟨f, w, hT⟩, hnm, hxy, -⟩ := id hX
  have hw := tw_ws hT
  have hn := hT.1
  have hb : (NB x j).testBit i = false := by
    have := hxy.2.1 j hj i (by omega)
    rw [h0] at this
    exact (zt _).mp this.symm
  obtain ⟨tm, e1, e2, e3⟩ := k_near (d := d) hR hn (WR.xn hw) hnm hj (show i < n by omega) (by omega) (WR.nb hw hj) (WR.nb hw (show i < n by omega)) hb
  obtain ⟨t', e4, e5⟩ := k_step (s := []) e1 e2 e3 rfl hl
  exact ⟨_, t', d, e4, e5, hX.near hj (by omega) (by omega) hb, v, hv, hd⟩
/-! the law's side -/
theorem s_323 (hL : L9 ≤ 260) (hi : i < 4) (ht : tN.length ≤ 500) (hu : u ≤ 180) : ∃ v, v < 8 ∧ ∀ m, sX8_grown_b323 (m + 1) L9 xs n Y (tN.map nI) u N9 (nI i) = sX8_grown_b323 m L9 xs n (pI Y 0 1 i (nI v)) ((tN ++ ([32] ++ dN v)).map nI) (u + 2) N9 (nI (i + 1)) := by
  obtain ⟨v, hv, e1⟩ := p_pickC (xs := xs) (a := (110 : Int32) + nI i) (b := 8) (i := 110 + i) (m := 8) hL (nI_add 110 i) rfl (by omega) (by omega) (by omega)
  have hz : gI (pI Y 0 1 i (nI v)) 0 1 i = nI v := by rw [gI_pI, if_pos ⟨rfl, rfl, rfl⟩]
  have hb : bytJS.getD 19 [] = [32].map nI := byK.2.1
  have hl : lenJS.getD 19 0 = 1 := lnJ.2.2.2.2.2.2.2.2.1
  have h3 := dN_l v
  refine ⟨v, hv, fun m => ?_⟩
  simp only [sX8_grown_b323]
  rw [if_neg (show ¬ (4 : Int32) ≤ nI i from nI_ge (a := i) (b := 4) (by omega) (by omega)), e1, bd_e, inb_t hi (by omega), gd_tt, ix_n (by omega), nm_v, hl, hb, List.length_map, gd_l (by omega), gd_l (by omega), nm_v, gd_tt, hz, inb_t (by omega) (by omega), gd_tt, ix_n (by omega), gd_l (by rw [List.length_append, List.length_map, List.length_map]; show tN.length + 1 + 2 < 600; omega), gd_l (by omega), nm_v, nm_v, dgs_N, ← List.map_append, ← List.map_append, List.append_assoc, show nI i + (1 : Int32) = nI (i + 1) from nI_add i 1]
theorem s_323e (ht : tN.length ≤ 500) (hu : u ≤ 180) (m : Nat) : sX8_grown_b323 (m + 1) L9 xs n Y (tN.map nI) u N9 (nI 4) = sX8_grown_b377 L9 xs n Y ((tN ++ [32, 59, 10]).map nI) (u + 1) N9 := by
  have hb : bytJS.getD 20 [] = [32, 59, 10].map nI := byK.2.2.1
  have hl : lenJS.getD 20 0 = 3 := lnJ.2.2.2.2.2.2.2.2.2.1
  simp only [sX8_grown_b323]
  rw [if_pos (show (4 : Int32) ≤ nI 4 by decide), hl, hb, List.length_map, gd_l (by omega), gd_l (by omega), nm_v, ← List.map_append]
theorem s_cost (hL : L9 ≤ 260) (ht : tN.length ≤ 400) (hu : u ≤ 150) : ∃ c0 c1 c2 c3, c0 < 8 ∧ c1 < 8 ∧ c2 < 8 ∧ c3 < 8 ∧ sX8_grown_b323 FU L9 xs n Y ((tN ++ wCos).map nI) u N9 (0 : Int32) = sX8_grown_b377 L9 xs n (coY Y c0 c1 c2 c3) ((tN ++ csT c0 c1 c2 c3 []).map nI) (u + 9) N9 := by
  have h5 : wCos.length = 5 := rfl
  have h32 : ([32] : List Nat).length = 1 := rfl
  obtain ⟨F, hF⟩ : ∃ F, FU = F + 1 + 1 + 1 + 1 + 1 := ⟨FU - 5, by have : FU = 1000000 := rfl; omega⟩
  obtain ⟨c0, a0, a1⟩ := s_323 (xs := xs) (Y := Y) (n := n) (N9 := N9) (tN := tN ++ wCos) (u := u) hL (show 0 < 4 by omega) (by rw [List.length_append]; omega) (by omega)
  have l0 := dN_l c0
  obtain ⟨c1, b0, b1⟩ := s_323 (xs := xs) (Y := pI Y 0 1 0 (nI c0)) (n := n) (N9 := N9) (tN := tN ++ wCos ++ ([32] ++ dN c0)) (u := u + 2) hL (show 1 < 4 by omega) (by simp only [List.length_append, h5, h32]; omega) (by omega)
  have l1 := dN_l c1
  obtain ⟨c2, d0, d1⟩ := s_323 (xs := xs) (Y := pI (pI Y 0 1 0 (nI c0)) 0 1 1 (nI c1)) (n := n) (N9 := N9) (tN := tN ++ wCos ++ ([32] ++ dN c0) ++ ([32] ++ dN c1)) (u := u + 2 + 2) hL (show 2 < 4 by omega) (by simp only [List.length_append, h5, h32]; omega) (by omega)
  have l2 := dN_l c2
  obtain ⟨c3, e0, e1⟩ := s_323 (xs := xs) (Y := pI (pI (pI Y 0 1 0 (nI c0)) 0 1 1 (nI c1)) 0 1 2 (nI c2)) (n := n) (N9 := N9) (tN := tN ++ wCos ++ ([32] ++ dN c0) ++ ([32] ++ dN c1) ++ ([32] ++ dN c2)) (u := u + 2 + 2 + 2) hL (show 3 < 4 by omega) (by simp only [List.length_append, h5, h32]; omega) (by omega)
  have l3 := dN_l c3
  refine ⟨c0, c1, c2, c3, a0, b0, d0, e0, ?_⟩
  rw [hF, show (0 : Int32) = nI 0 from rfl, a1, b1, d1, e1, s_323e (by simp only [List.length_append, h5, h32]; omega) (by omega)]
  have : tN ++ wCos ++ ([32] ++ dN c0) ++ ([32] ++ dN c1) ++ ([32] ++ dN c2) ++ ([32] ++ dN c3) ++ [32, 59, 10] = tN ++ csT c0 c1 c2 c3 [] := by
    unfold csT
    simp only [List.append_assoc, List.cons_append, List.nil_append]
  rw [this]
  rfl
theorem s_377 (hL : L9 ≤ 260) (ht : tN.length ≤ 500) (hu : u ≤ 180) : ∃ o d, d ≤ 3 ∧ (∀ v, o = some v → v ≤ 999) ∧ sX8_grown_b377 L9 xs n Y (tN.map nI) u N9 = sX8_grown_b417 L9 xs n (setH Y 1 o) ((tN ++ NMT wSee o).map nI) (u + d) N9 := by
  obtain ⟨q, hq, e1⟩ := p_pickC (xs := xs) (a := (3 : Int32)) (b := 2) (i := 3) (m := 2) hL rfl rfl (by omega) (by omega) (by omega)
  obtain ⟨v, hv, e2⟩ := p_pickC (xs := xs) (a := (4 : Int32)) (b := 1000) (i := 4) (m := 1000) hL rfl rfl (by omega) (by omega) (by omega)
  unfold sX8_grown_b377
  rw [e1, bd_e]
  by_cases h0 : q = 0
  · subst h0
    have hz : gI (pI Y 0 0 1 (nI v)) 0 0 1 = nI v := by rw [gI_pI, if_pos ⟨rfl, rfl, rfl⟩]
    have hb : bytJS.getD 21 [] = (wSee ++ [32]).map nI := byK.2.2.2.1
    have hl : lenJS.getD 21 0 = 5 := lnJ.2.2.2.2.2.2.2.2.2.2.1
    have hb2 : bytJS.getD 12 [] = [59].map nI := byJ.2.2.2.2.2.2
    have hl2 : lenJS.getD 12 0 = 1 := lnJ.2.2.2.2.2.2.1
    have h6 : wSee.length = 4 := rfl
    have h32 : ([32] : List Nat).length = 1 := rfl
    have h3 := dN_l v
    refine ⟨some v, 3, Nat.le_refl 3, fun w hw => (by cases hw; omega), ?_⟩
    rw [if_neg (fun z => z rfl), e2, bd_e, nm_v, hl, hb, hz, List.length_map, gd_l (by omega), gd_l (by omega), nm_v, inb_t (by omega) (by omega), gd_tt, ix_n (by omega), ← List.map_append, List.length_map, gd_l (by simp only [List.length_append, h6, h32]; omega), gd_l (by omega), nm_v, dgs_N, ← List.map_append, hl2, hb2, List.length_map, gd_l (by simp only [List.length_append, h6, h32]; omega), gd_l (by omega), nm_v, ← List.map_append]
    have : tN ++ (wSee ++ [32]) ++ dN v ++ [59] = tN ++ NMT wSee (some v) := by
      simp only [NMT, List.append_assoc]
    rw [this]
    rfl
  · refine ⟨none, 0, Nat.zero_le _, fun w hw => (by cases hw), ?_⟩
    rw [if_pos (show ¬ nI q = 0 from fun z => h0 ((nI_eq (by omega) (by omega)).mp z)), show NMT wSee none = [] from rfl, List.append_nil]
    rfl
theorem s_417 (hL : L9 ≤ 260) (ht : tN.length ≤ 500) (hu : u ≤ 180) : ∃ o d, d ≤ 3 ∧ (∀ v, o = some v → 1 ≤ v ∧ v ≤ 9) ∧ sX8_grown_b417 L9 xs n Y (tN.map nI) u N9 = sX8_grown_b458 L9 xs n (setH Y 2 o) ((tN ++ NMT wTri o).map nI) (u + d) N9 := by
  obtain ⟨q, hq, e1⟩ := p_pickC (xs := xs) (a := (5 : Int32)) (b := 2) (i := 5) (m := 2) hL rfl rfl (by omega) (by omega) (by omega)
  obtain ⟨v, hv, e2⟩ := p_pickC (xs := xs) (a := (6 : Int32)) (b := 4) (i := 6) (m := 4) hL rfl rfl (by omega) (by omega) (by omega)
  unfold sX8_grown_b417
  rw [e1, bd_e]
  by_cases h0 : q = 0
  · subst h0
    have hz : gI (pI Y 0 0 2 (nI (1 + v))) 0 0 2 = nI (1 + v) := by rw [gI_pI, if_pos ⟨rfl, rfl, rfl⟩]
    have hb : bytJS.getD 22 [] = (wTri ++ [32]).map nI := byK.2.2.2.2.1
    have hl : lenJS.getD 22 0 = 6 := lnJ.2.2.2.2.2.2.2.2.2.2.2.1
    have hb2 : bytJS.getD 12 [] = [59].map nI := byJ.2.2.2.2.2.2
    have hl2 : lenJS.getD 12 0 = 1 := lnJ.2.2.2.2.2.2.1
    have h6 : wTri.length = 5 := rfl
    have h32 : ([32] : List Nat).length = 1 := rfl
    have h3 := dN_l (1 + v)
    refine ⟨some (1 + v), 3, Nat.le_refl 3, fun w hw => (by cases hw; omega), ?_⟩
    rw [if_neg (fun z => z rfl), e2, bd_e, nm_v, show (1 : Int32) + nI v = nI (1 + v) from nI_add 1 v, hl, hb, hz, List.length_map, gd_l (by omega), gd_l (by omega), nm_v, inb_t (by omega) (by omega), gd_tt, ix_n (by omega), ← List.map_append, List.length_map, gd_l (by simp only [List.length_append, h6, h32]; omega), gd_l (by omega), nm_v, dgs_N, ← List.map_append, hl2, hb2, List.length_map, gd_l (by simp only [List.length_append, h6, h32]; omega), gd_l (by omega), nm_v, ← List.map_append]
    have : tN ++ (wTri ++ [32]) ++ dN (1 + v) ++ [59] = tN ++ NMT wTri (some (1 + v)) := by
      simp only [NMT, List.append_assoc]
    rw [this]
    rfl
  · refine ⟨none, 0, Nat.zero_le _, fun w hw => (by cases hw), ?_⟩
    rw [if_pos (show ¬ nI q = 0 from fun z => h0 ((nI_eq (by omega) (by omega)).mp z)), show NMT wTri none = [] from rfl, List.append_nil]
    rfl
theorem s_458 (hL : L9 ≤ 260) (ht : tN.length ≤ 500) (hu : u ≤ 180) : ∃ o d, d ≤ 3 ∧ (∀ v, o = some v → 1 ≤ v ∧ v ≤ 999) ∧ sX8_grown_b458 L9 xs n Y (tN.map nI) u N9 = sX8_grown_b504 FU L9 xs n (setH Y 3 o) ((tN ++ NMT wMem o).map nI) (u + d) N9 (0 : Int32) := by
  obtain ⟨q, hq, e1⟩ := p_pickC (xs := xs) (a := (7 : Int32)) (b := 2) (i := 7) (m := 2) hL rfl rfl (by omega) (by omega) (by omega)
  obtain ⟨v, hv, e2⟩ := p_pickC (xs := xs) (a := (8 : Int32)) (b := 60) (i := 8) (m := 60) hL rfl rfl (by omega) (by omega) (by omega)
  unfold sX8_grown_b458
  rw [e1, bd_e]
  by_cases h0 : q = 0
  · subst h0
    have hz : gI (pI Y 0 0 3 (nI (1 + v))) 0 0 3 = nI (1 + v) := by rw [gI_pI, if_pos ⟨rfl, rfl, rfl⟩]
    have hb : bytJS.getD 23 [] = (wMem ++ [32]).map nI := byK.2.2.2.2.2.1
    have hl : lenJS.getD 23 0 = 7 := lnJ.2.2.2.2.2.2.2.2.2.2.2.2.1
    have hb2 : bytJS.getD 12 [] = [59].map nI := byJ.2.2.2.2.2.2
    have hl2 : lenJS.getD 12 0 = 1 := lnJ.2.2.2.2.2.2.1
    have h6 : wMem.length = 6 := rfl
    have h32 : ([32] : List Nat).length = 1 := rfl
    have h3 := dN_l (1 + v)
    refine ⟨some (1 + v), 3, Nat.le_refl 3, fun w hw => (by cases hw; omega), ?_⟩
    rw [if_neg (fun z => z rfl), e2, bd_e, nm_v, show (1 : Int32) + nI v = nI (1 + v) from nI_add 1 v, hl, hb, hz, List.length_map, gd_l (by omega), gd_l (by omega), nm_v, inb_t (by omega) (by omega), gd_tt, ix_n (by omega), ← List.map_append, List.length_map, gd_l (by simp only [List.length_append, h6, h32]; omega), gd_l (by omega), nm_v, dgs_N, ← List.map_append, hl2, hb2, List.length_map, gd_l (by simp only [List.length_append, h6, h32]; omega), gd_l (by omega), nm_v, ← List.map_append]
    have : tN ++ (wMem ++ [32]) ++ dN (1 + v) ++ [59] = tN ++ NMT wMem (some (1 + v)) := by
      simp only [NMT, List.append_assoc]
    rw [this]
    rfl
  · refine ⟨none, 0, Nat.zero_le _, fun w hw => (by cases hw), ?_⟩
    rw [if_pos (show ¬ nI q = 0 from fun z => h0 ((nI_eq (by omega) (by omega)).mp z)), show NMT wMem none = [] from rfl, List.append_nil]
    rfl
end
