/-! stage B: a beacon that grows reads as told -/
def GQ0 (x d : St) : Prop := XGB 0 x Yw ∧ gI d 0 0 1 = nI 0
def GRT (Q : St → St → Prop) (tN : List Nat) : Prop := hdN lxS tN = true ∧ ∀ (B : Nat → Nat) (len c : Nat) (x0 d0 t : St) (l : List Nat), hdN lxS l = true → RDP B len c (tN ++ l) t → GQ0 x0 d0 → ∃ (k : Nat) (x t' d : St), k ≤ tN.length ∧ (∀ F, sX3_readAll_b11 (F + k) x0 t d0 (nI 0) = sX3_readAll_b11 F x t' d (nI k)) ∧ RDP B len c l t' ∧ Q x d
def SQT (Q Q' : St → St → Prop) (s : List Nat) : Prop := ∀ (B : Nat → Nat) (len c : Nat) (x d t : St) (l : List Nat), hdN lxS l = true → RDP B len c (s ++ l) t → Q x d → ∃ x' t' d', (∀ F k, k < 700 → sX3_readAll_b11 (F + 1) x t d (nI k) = sX3_readAll_b11 F x' t' d' (nI (k + 1))) ∧ RDP B len c l t' ∧ Q' x' d'
def QBe (n : Nat) (Y x d : St) : Prop := XGB n x Y ∧ gI d 0 0 1 = nI 0
def PTP (w : List Nat) (o : Option Nat) : List Nat := match o with
  | none => []
  | some v => [32] ++ (w ++ ([32] ++ dN v))
def setO (Y : St) (p f : Nat) (o : Option Nat) : St := match o with
  | none => Y
  | some v => pI Y p 0 f (nI v)
def hdT (n p : Nat) : List Nat := wBea ++ ([32] ++ ([97 + n] ++ ([32] ++ (wEve ++ dN p))))
section
variable {n p i u L9 N m : Nat} {x Y Y' : St} {xs : Nat → Int32} {tN s l : List Nat} {Q Q' : St → St → Prop} {N9 : Int32} {K : Nat → St → List Int32 → Nat → Int32 → Int32 → Option (Nat × St × List Int32)}
theorem hdN_app {P : Nat → Bool} (h1 : hdN P s = true) (h2 : hdN P l = true) : hdN P (s ++ l) = true := by
  cases s with
  | nil => exact h2
  | cons a s => exact h1
theorem GRT.step (h : GRT Q tN) (hS : SQT Q Q' s) (hlen : tN.length < 700) (h1 : 1 ≤ s.length) (hh : ∀ l, hdN lxS (s ++ l) = true) : GRT Q' (tN ++ s) := by
  refine ⟨hdN_app h.1 (by have := hh []; rw [List.append_nil] at this; exact this), ?_⟩
  intro B len c x0 d0 t l hl hR h0
  rw [List.append_assoc] at hR
  obtain ⟨k, x, t', d, e1, e2, e3, e4⟩ := h.2 B len c x0 d0 t (s ++ l) (hh l) hR h0
  obtain ⟨x', t2, d', g1, g2, g3⟩ := hS B len c x d t' l hl e3 e4
  refine ⟨k + 1, x', t2, d', by rw [List.length_append]; omega, fun F => ?_, g2, g3⟩
  rw [show F + (k + 1) = (F + 1) + k by omega, e2 (F + 1), g1 F k (by omega)]
theorem GRT.nil : GRT GQ0 [] := ⟨rfl, fun B len c x0 d0 t l hl hR h0 => ⟨0, x0, t, d0, Nat.le_refl 0, fun F => rfl, hR, h0⟩⟩
theorem GRT.mono (h : GRT Q tN) (hq : ∀ x d, Q x d → Q' x d) : GRT Q' tN := ⟨h.1, fun B len c x0 d0 t l hl hR h0 => by
  obtain ⟨k, x, t', d, e1, e2, e3, e4⟩ := h.2 B len c x0 d0 t l hl hR h0
  exact ⟨k, x, t', d, e1, e2, e3, hq x d e4⟩⟩
theorem PTX_app : ∀ (r : List (List Nat × Nat)) (l : List Nat), PTX r l = PTX r [] ++ l
  | [], l => rfl
  | (w, v) :: r, l => by
    show [32] ++ (w ++ ([32] ++ (dN v ++ PTX r l))) = ([32] ++ (w ++ ([32] ++ (dN v ++ PTX r [])))) ++ l
    rw [PTX_app r l]
    simp only [List.append_assoc]
theorem bcT_app (n p : Nat) (og ol os oe : Option Nat) (l : List Nat) : bcT n p og ol os oe l = bcT n p og ol os oe [] ++ l := by
  unfold bcT
  rw [PTX_app]
  simp only [List.append_assoc]
theorem bcT_cat (n p : Nat) (og ol os oe : Option Nat) : hdT n p ++ PTP wAtw og ++ PTP wLis ol ++ PTP wSen os ++ PTP wEne oe ++ [59] = bcT n p og ol os oe [] := by
  cases og <;> cases ol <;> cases os <;> cases oe <;> simp only [hdT, bcT, PTP, opP, PTX, List.append_assoc, List.nil_append, List.append_nil, List.cons_append]
theorem sq_beacon {g l s e : Nat} {og ol os oe : Option Nat} (hn : n < 8) (hp : 2 ≤ p) (hp2 : p ≤ 99) (hg : ∀ v, og = some v → 0 ≤ v ∧ v ≤ p - 1) (hl : ∀ v, ol = some v → 1 ≤ v ∧ v ≤ 9) (hs : ∀ v, os = some v → 1 ≤ v ∧ v ≤ 9) (he : ∀ v, oe = some v → 1 ≤ v ∧ v ≤ 999) (eg : og.getD 0 = g) (el : ol.getD 2 = l) (es : os.getD 2 = s) (ee : oe.getD 999 = e) (hY0 : ∀ o, o ≤ n → gI Y' o = gI Y o) (y0 : gI Y' (n + 1) 0 0 = nI p) (y1 : gI Y' (n + 1) 0 1 = nI g) (y2 : gI Y' (n + 1) 0 2 = nI l) (y3 : gI Y' (n + 1) 0 3 = nI s) (y4 : gI Y' (n + 1) 0 4 = nI e) (y5 : ∀ j k, ¬ (j = 0 ∧ k ≤ 4) → gI Y' (n + 1) j k = ybk j k) : SQT (QBe n Y) (QBe (n + 1) Y') (bcT n p og ol os oe []) := by
  intro B len c x d t l9 hl9 hR hQ
  rw [← bcT_app] at hR
  obtain ⟨hX, hd⟩ := hQ
  obtain ⟨⟨f, w, hT, hw⟩, hnm, -⟩ := id hX
  obtain ⟨tr, g1, g2, -⟩ := id hT.2.1
  have hno : ∀ k, k < n → ¬ gL x (k + 1) 0 0 = lN (cpN [97 + n]) := fun k hk z => by
    rw [hnm k hk] at z
    have := (cp_inj (ok_nm (show k < 8 by omega)) (ok_nm hn)).mp z
    have := (List.cons.inj this).1
    omega
  obtain ⟨x1, tm, e1, e2, e3, e4⟩ := k_beacon (d := d) hR hn g2 hno hp hp2 hg hl hs he hl9
  obtain ⟨t', e5, e6⟩ := k_step (s := []) e2 e3 e4 rfl hl9
  rw [eg, el, es, ee] at e5
  refine ⟨_, t', d, e5, e6, hX.more hn e1 ⟨hp, hp2, ?_, ?_, ?_, ?_, ?_, ?_, ?_⟩ hY0 y0 y1 y2 y3 y4 y5, hd⟩
  · subst eg
    cases og with
    | none => show 0 < p; omega
    | some v => have := hg v rfl; show v < p; omega
  · subst el
    cases ol with
    | none => show 1 ≤ 2; omega
    | some v => exact (hl v rfl).1
  · subst el
    cases ol with
    | none => show 2 ≤ 9; omega
    | some v => exact (hl v rfl).2
  · subst es
    cases os with
    | none => show 1 ≤ 2; omega
    | some v => exact (hs v rfl).1
  · subst es
    cases os with
    | none => show 2 ≤ 9; omega
    | some v => exact (hs v rfl).2
  · subst ee
    cases oe with
    | none => show 1 ≤ 999; omega
    | some v => exact (he v rfl).1
  · subst ee
    cases oe with
    | none => exact Nat.le_refl _
    | some v => exact (he v rfl).2
/-! the law's growing, piece by piece -/
theorem gd_l {α : Type} {a b : Nat} {X : Option α} (h : a < b) : gd (ltN a b) X = X := by
  rw [show ltN a b = true from decide_eq_true h]; rfl
theorem dgs_N (v : Nat) : dgs v = (dN v).map nI := by
  unfold dgs dN
  by_cases h1 : v < 10
  · rw [if_pos h1, if_pos h1]; rfl
  · rw [if_neg h1, if_neg h1]
    by_cases h2 : v < 100
    · rw [if_pos h2, if_pos h2]; rfl
    · rw [if_neg h2, if_neg h2]; rfl
theorem dN_l (v : Nat) : (dN v).length ≤ 3 := by
  unfold dN
  by_cases h1 : v < 10
  · rw [if_pos h1]; show 1 ≤ 3; omega
  · rw [if_neg h1]
    by_cases h2 : v < 100
    · rw [if_pos h2]; show 2 ≤ 3; omega
    · rw [if_neg h2]; exact Nat.le_refl 3
theorem p_pickC {i m : Nat} {a b : Int32} (hL : L9 ≤ 260) (ha : a = nI i) (hb : b = nI m) (hi : i < 2 ^ 30) (h0 : 0 < m) (hm : m < 2 ^ 31) : ∃ v, v < m ∧ sL_pick L9 xs a b = some (nI v) := by
  subst ha; subst hb; exact p_pick hL hi h0 hm
theorem lnJ : lenJS.getD 2 0 = 7 ∧ lenJS.getD 4 0 = 6 ∧ lenJS.getD 5 0 = 4 ∧ lenJS.getD 6 0 = 9 ∧ lenJS.getD 9 0 = 7 ∧ lenJS.getD 11 0 = 8 ∧ lenJS.getD 12 0 = 1 ∧ lenJS.getD 13 0 = 5 ∧ lenJS.getD 19 0 = 1 ∧ lenJS.getD 20 0 = 3 ∧ lenJS.getD 21 0 = 5 ∧ lenJS.getD 22 0 = 6 ∧ lenJS.getD 23 0 = 7 ∧ lenJS.getD 24 0 = 5 := by decide
theorem byJ : bytJS.getD 2 [] = (wBea ++ [32]).map nI ∧ bytJS.getD 4 [] = ([32] ++ wEve).map nI ∧ bytJS.getD 5 [] = ([32] ++ (wAtw ++ [32])).map nI ∧ bytJS.getD 6 [] = ([32] ++ (wLis ++ [32])).map nI ∧ bytJS.getD 9 [] = ([32] ++ (wSen ++ [32])).map nI ∧ bytJS.getD 11 [] = ([32] ++ (wEne ++ [32])).map nI ∧ bytJS.getD 12 [] = [59].map nI := by decide
theorem byK : bytJS.getD 13 [] = wCos.map nI ∧ bytJS.getD 19 [] = [32].map nI ∧ bytJS.getD 20 [] = [32, 59, 10].map nI ∧ bytJS.getD 21 [] = (wSee ++ [32]).map nI ∧ bytJS.getD 22 [] = (wTri ++ [32]).map nI ∧ bytJS.getD 23 [] = (wMem ++ [32]).map nI ∧ bytJS.getD 24 [] = (wNea ++ [32]).map nI := by decide
theorem ln_ws : wBea.length = 6 ∧ wEve.length = 5 ∧ wAtw.length = 2 ∧ wLis.length = 7 ∧ wSen.length = 5 ∧ wEne.length = 6 ∧ wCos.length = 5 ∧ wSee.length = 4 ∧ wTri.length = 5 ∧ wMem.length = 6 ∧ wNea.length = 4 := by decide
theorem s_279 (ht : tN.length ≤ 590) (hu : u ≤ 190) : sX8_grown_b279 K L9 xs n Y (tN.map nI) u N9 (nI i) = K (n + 1) Y ((tN ++ [59]).map nI) (u + 2) N9 (nI (i + 1)) := by
  have b12 := byJ.2.2.2.2.2.2
  have l12 := lnJ.2.2.2.2.2.2.1
  unfold sX8_grown_b279
  rw [l12, b12, List.length_map, gd_l (by omega), gd_l (by omega), nm_v, gd_l (by omega), nm_v, ← List.map_append, show nI i + (1 : Int32) = nI (i + 1) from nI_add i 1]
theorem s_232 (hL : L9 ≤ 260) (hi : i < 8) (ht : tN.length ≤ 560) (hu : u ≤ 180) : ∃ oe d, d ≤ 2 ∧ (∀ v, oe = some v → 1 ≤ v ∧ v ≤ 999) ∧ ∀ K, sX8_grown_b232 K L9 xs n Y (tN.map nI) u N9 (nI i) = sX8_grown_b279 K L9 xs n (setO Y (n + 1) 4 oe) ((tN ++ PTP wEne oe).map nI) (u + d) N9 (nI i) := by
  obtain ⟨q, hq, e1⟩ := p_pickC (xs := xs) (a := (80 : Int32) + nI i) (b := 2) (i := 80 + i) (m := 2) hL (nI_add 80 i) rfl (by omega) (by omega) (by omega)
  obtain ⟨v, hv, e2⟩ := p_pickC (xs := xs) (a := (90 : Int32) + nI i) (b := 300) (i := 90 + i) (m := 300) hL (nI_add 90 i) rfl (by omega) (by omega) (by omega)
  by_cases h0 : q = 0
  · subst h0
    have hz : gI (pI Y (n + 1) 0 4 (nI (1 + v))) (n + 1) 0 4 = nI (1 + v) := by rw [gI_pI, if_pos ⟨rfl, rfl, rfl⟩]
    have hb : bytJS.getD 11 [] = ([32] ++ (wEne ++ [32])).map nI := byJ.2.2.2.2.2.1
    have hl : lenJS.getD 11 0 = 8 := lnJ.2.2.2.2.2.1
    have h6 : wEne.length = 6 := rfl
    have h3 := dN_l (1 + v)
    refine ⟨some (1 + v), 2, Nat.le_refl 2, fun w hw => (by cases hw; omega), fun K => ?_⟩
    unfold sX8_grown_b232
    rw [e1, bd_e, if_neg (fun z => z rfl), e2, bd_e, nm_v, show (1 : Int32) + nI v = nI (1 + v) from nI_add 1 v, hl, hb, hz, List.length_map, gd_l (by omega), gd_l (by omega), nm_v, inb_t (by omega) (by omega), gd_tt, ix_n (by omega), gd_l (by rw [List.length_append, List.length_map, List.length_map, List.length_append, List.length_append, h6]; show tN.length + (1 + (6 + 1)) + 2 < 600; omega), gd_l (by omega), nm_v, dgs_N, ← List.map_append, ← List.map_append]
    have : tN ++ ([32] ++ (wEne ++ [32])) ++ dN (1 + v) = tN ++ PTP wEne (some (1 + v)) := by
      simp only [PTP, List.append_assoc]
    rw [this]
    rfl
  · refine ⟨none, 0, Nat.zero_le _, fun w hw => (by cases hw), fun K => ?_⟩
    unfold sX8_grown_b232
    rw [e1, bd_e, if_pos (show ¬ nI q = 0 from fun z => h0 ((nI_eq (by omega) (by omega)).mp z)), show PTP wEne none = [] from rfl, List.append_nil]
    rfl
theorem s_187 (hL : L9 ≤ 260) (hi : i < 8) (ht : tN.length ≤ 560) (hu : u ≤ 180) : ∃ os d, d ≤ 2 ∧ (∀ v, os = some v → 1 ≤ v ∧ v ≤ 9) ∧ ∀ K, sX8_grown_b187 K L9 xs n Y (tN.map nI) u N9 (nI i) = sX8_grown_b232 K L9 xs n (setO Y (n + 1) 3 os) ((tN ++ PTP wSen os).map nI) (u + d) N9 (nI i) := by
  obtain ⟨q, hq, e1⟩ := p_pickC (xs := xs) (a := (60 : Int32) + nI i) (b := 2) (i := 60 + i) (m := 2) hL (nI_add 60 i) rfl (by omega) (by omega) (by omega)
  obtain ⟨v, hv, e2⟩ := p_pickC (xs := xs) (a := (70 : Int32) + nI i) (b := 3) (i := 70 + i) (m := 3) hL (nI_add 70 i) rfl (by omega) (by omega) (by omega)
  by_cases h0 : q = 0
  · subst h0
    have hz : gI (pI Y (n + 1) 0 3 (nI (1 + v))) (n + 1) 0 3 = nI (1 + v) := by rw [gI_pI, if_pos ⟨rfl, rfl, rfl⟩]
    have hb : bytJS.getD 9 [] = ([32] ++ (wSen ++ [32])).map nI := byJ.2.2.2.2.1
    have hl : lenJS.getD 9 0 = 7 := lnJ.2.2.2.2.1
    have h6 : wSen.length = 5 := rfl
    have h3 := dN_l (1 + v)
    refine ⟨some (1 + v), 2, Nat.le_refl 2, fun w hw => (by cases hw; omega), fun K => ?_⟩
    unfold sX8_grown_b187
    rw [e1, bd_e, if_neg (fun z => z rfl), e2, bd_e, nm_v, show (1 : Int32) + nI v = nI (1 + v) from nI_add 1 v, hl, hb, hz, List.length_map, gd_l (by omega), gd_l (by omega), nm_v, inb_t (by omega) (by omega), gd_tt, ix_n (by omega), gd_l (by rw [List.length_append, List.length_map, List.length_map, List.length_append, List.length_append, h6]; show tN.length + (1 + (5 + 1)) + 2 < 600; omega), gd_l (by omega), nm_v, dgs_N, ← List.map_append, ← List.map_append]
    have : tN ++ ([32] ++ (wSen ++ [32])) ++ dN (1 + v) = tN ++ PTP wSen (some (1 + v)) := by
      simp only [PTP, List.append_assoc]
    rw [this]
    rfl
  · refine ⟨none, 0, Nat.zero_le _, fun w hw => (by cases hw), fun K => ?_⟩
    unfold sX8_grown_b187
    rw [e1, bd_e, if_pos (show ¬ nI q = 0 from fun z => h0 ((nI_eq (by omega) (by omega)).mp z)), show PTP wSen none = [] from rfl, List.append_nil]
    rfl
theorem s_142 (hL : L9 ≤ 260) (hi : i < 8) (ht : tN.length ≤ 560) (hu : u ≤ 180) : ∃ ol d, d ≤ 2 ∧ (∀ v, ol = some v → 1 ≤ v ∧ v ≤ 9) ∧ ∀ K, sX8_grown_b142 K L9 xs n Y (tN.map nI) u N9 (nI i) = sX8_grown_b187 K L9 xs n (setO Y (n + 1) 2 ol) ((tN ++ PTP wLis ol).map nI) (u + d) N9 (nI i) := by
  obtain ⟨q, hq, e1⟩ := p_pickC (xs := xs) (a := (40 : Int32) + nI i) (b := 2) (i := 40 + i) (m := 2) hL (nI_add 40 i) rfl (by omega) (by omega) (by omega)
  obtain ⟨v, hv, e2⟩ := p_pickC (xs := xs) (a := (50 : Int32) + nI i) (b := 3) (i := 50 + i) (m := 3) hL (nI_add 50 i) rfl (by omega) (by omega) (by omega)
  by_cases h0 : q = 0
  · subst h0
    have hz : gI (pI Y (n + 1) 0 2 (nI (1 + v))) (n + 1) 0 2 = nI (1 + v) := by rw [gI_pI, if_pos ⟨rfl, rfl, rfl⟩]
    have hb : bytJS.getD 6 [] = ([32] ++ (wLis ++ [32])).map nI := byJ.2.2.2.1
    have hl : lenJS.getD 6 0 = 9 := lnJ.2.2.2.1
    have h6 : wLis.length = 7 := rfl
    have h3 := dN_l (1 + v)
    refine ⟨some (1 + v), 2, Nat.le_refl 2, fun w hw => (by cases hw; omega), fun K => ?_⟩
    unfold sX8_grown_b142
    rw [e1, bd_e, if_neg (fun z => z rfl), e2, bd_e, nm_v, show (1 : Int32) + nI v = nI (1 + v) from nI_add 1 v, hl, hb, hz, List.length_map, gd_l (by omega), gd_l (by omega), nm_v, inb_t (by omega) (by omega), gd_tt, ix_n (by omega), gd_l (by rw [List.length_append, List.length_map, List.length_map, List.length_append, List.length_append, h6]; show tN.length + (1 + (7 + 1)) + 2 < 600; omega), gd_l (by omega), nm_v, dgs_N, ← List.map_append, ← List.map_append]
    have : tN ++ ([32] ++ (wLis ++ [32])) ++ dN (1 + v) = tN ++ PTP wLis (some (1 + v)) := by
      simp only [PTP, List.append_assoc]
    rw [this]
    rfl
  · refine ⟨none, 0, Nat.zero_le _, fun w hw => (by cases hw), fun K => ?_⟩
    unfold sX8_grown_b142
    rw [e1, bd_e, if_pos (show ¬ nI q = 0 from fun z => h0 ((nI_eq (by omega) (by omega)).mp z)), show PTP wLis none = [] from rfl, List.append_nil]
    rfl
theorem v97 : ∀ i, i < 8 → (((97 : Int32) + nI i).toUInt32 % 65536).toInt32 = nI (97 + i) := by decide +kernel
/-- its name, period and first wake -/
theorem s_27 (hL : L9 ≤ 260) (hn : n < N) (hN : N ≤ 5) (ht : tN.length ≤ 300) (hu : u ≤ 100) : ∃ p og d, d ≤ 7 ∧ 2 ≤ p ∧ p ≤ 15 ∧ (∀ v, og = some v → 0 ≤ v ∧ v ≤ p - 1) ∧ ∀ m, sX8_grown_b27 (m + 1) L9 xs n Y (tN.map nI) u (nI N) (nI n) = sX8_grown_b142 (fun n' Y' t' u' a3' a4' => sX8_grown_b27 m L9 xs n' Y' t' u' a3' a4') L9 xs n (pI (pI (Yb Y n) (n + 1) 0 0 (nI p)) (n + 1) 0 1 (nI (og.getD 0))) ((tN ++ (hdT n p ++ PTP wAtw og)).map nI) (u + d) (nI N) (nI n) := by
  obtain ⟨q, hq, e1⟩ := p_pickC (xs := xs) (a := (10 : Int32) + nI n) (b := 14) (i := 10 + n) (m := 14) hL (nI_add 10 n) rfl (by omega) (by omega) (by omega)
  obtain ⟨a, ha, e2⟩ := p_pickC (xs := xs) (a := (20 : Int32) + nI n) (b := 2) (i := 20 + n) (m := 2) hL (nI_add 20 n) rfl (by omega) (by omega) (by omega)
  have hz : gI (pI (Yb Y n) (n + 1) 0 0 (nI (2 + q))) (n + 1) 0 0 = nI (2 + q) := by rw [gI_pI, if_pos ⟨rfl, rfl, rfl⟩]
  obtain ⟨b, hb, e3⟩ := p_pickC (xs := xs) (a := (30 : Int32) + nI n) (b := nI (2 + q)) (i := 30 + n) (m := 2 + q) hL (nI_add 30 n) rfl (by omega) (by omega) (by omega)
  have hg : a * b < 2 + q := by
    rcases (by omega : a = 0 ∨ a = 1) with rfl | rfl <;> omega
  have z0 : gI (pI (pI (Yb Y n) (n + 1) 0 0 (nI (2 + q))) (n + 1) 0 1 (nI (a * b))) (n + 1) 0 0 = nI (2 + q) := by rw [gI_pI, if_neg (by omega), gI_pI, if_pos ⟨rfl, rfl, rfl⟩]
  have z1 : gI (pI (pI (Yb Y n) (n + 1) 0 0 (nI (2 + q))) (n + 1) 0 1 (nI (a * b))) (n + 1) 0 1 = nI (a * b) := by rw [gI_pI, if_pos ⟨rfl, rfl, rfl⟩]
  obtain ⟨j2, j4, j5, -⟩ := byJ
  obtain ⟨k2, k4, k5, -⟩ := lnJ
  obtain ⟨h6, h5, h2, -⟩ := ln_ws
  have h3 := dN_l (2 + q)
  have h3' := dN_l (a * b)
  have h32 : ([32] : List Nat).length = 1 := rfl
  have h97 : ([97 + n] : List Nat).length = 1 := rfl
  have hd1 : tN ++ (wBea ++ [32]) ++ [97 + n] ++ ([32] ++ wEve) ++ dN (2 + q) = tN ++ hdT n (2 + q) := by
    simp only [hdT, List.append_assoc]
  have hm1 : [nI (97 + n)] = [97 + n].map nI := rfl
  have hf : ∀ m, sX8_grown_b27 (m + 1) L9 xs n Y (tN.map nI) u (nI N) (nI n) = if nI (a * b) ≤ 0 then sX8_grown_b142 (fun n' Y' t' u' a3' a4' => sX8_grown_b27 m L9 xs n' Y' t' u' a3' a4') L9 xs n (pI (pI (Yb Y n) (n + 1) 0 0 (nI (2 + q))) (n + 1) 0 1 (nI (a * b))) ((tN ++ hdT n (2 + q)).map nI) (u + 1 + 1 + 1 + 1 + 1) (nI N) (nI n) else sX8_grown_b142 (fun n' Y' t' u' a3' a4' => sX8_grown_b27 m L9 xs n' Y' t' u' a3' a4') L9 xs n (pI (pI (Yb Y n) (n + 1) 0 0 (nI (2 + q))) (n + 1) 0 1 (nI (a * b))) ((tN ++ (hdT n (2 + q) ++ PTP wAtw (some (a * b)))).map nI) (u + 1 + 1 + 1 + 1 + 1 + 1 + 1) (nI N) (nI n) := fun m => by
    have hlen : (tN ++ hdT n (2 + q)).length ≤ tN.length + 18 := by
      rw [List.length_append]
      unfold hdT
      simp only [List.length_append, h6, h5, h32, h97]
      omega
    rw [show sX8_grown_b27 (m + 1) L9 xs n Y (tN.map nI) u (nI N) (nI n) = _ from rfl]
    simp only [sX8_grown_b27]
    rw [if_neg (nI_ge hn (by omega)), gd_l (by omega), gd_l (by omega), nm_v, e1, bd_e, nm_v, show (2 : Int32) + nI q = nI (2 + q) from nI_add 2 q, e2, bd_e, hz, e3, bd_e, nm_v, pk_mul, k2, j2, List.length_map, gd_l (by omega), gd_l (by omega), nm_v, nm_v, v97 n (by omega), inb_t (by omega) (by omega), gd_tt, ← List.map_append, List.length_map, gd_l (by simp only [List.length_append, h6, h32]; omega), gd_l (by omega), nm_v, hm1, ← List.map_append, k4, j4, List.length_map, gd_l (by simp only [List.length_append, h6, h32, h97]; omega), gd_l (by omega), nm_v, ← List.map_append, z0, z1, inb_t (by omega) (by omega), gd_tt, List.length_map, gd_l (by simp only [List.length_append, h6, h5, h32, h97]; omega), gd_l (by omega), nm_v, ix_n (by omega), dgs_N, ← List.map_append, hd1, k5, j5, List.length_map, gd_l (by omega), gd_l (by omega), nm_v, ← List.map_append, inb_t (by omega) (by omega), gd_tt, List.length_map, gd_l (by simp only [List.length_append, h2, h32] at hlen ⊢; omega), gd_l (by omega), nm_v, ix_n (by omega), dgs_N, ← List.map_append]
    have : tN ++ hdT n (2 + q) ++ ([32] ++ (wAtw ++ [32])) ++ dN (a * b) = tN ++ (hdT n (2 + q) ++ PTP wAtw (some (a * b))) := by
      simp only [PTP, List.append_assoc]
    rw [this]
  by_cases h0 : a * b = 0
  · refine ⟨2 + q, none, 5, by omega, by omega, by omega, fun v hv => (by cases hv), fun m => ?_⟩
    rw [hf, h0, if_pos (by decide), show PTP wAtw none = [] from rfl, List.append_nil]
    rfl
  · refine ⟨2 + q, some (a * b), 7, by omega, by omega, by omega, fun v hv => (by cases hv; omega), fun m => ?_⟩
    rw [hf, if_neg (show ¬ nI (a * b) ≤ (0 : Int32) from nI_ge (a := 0) (b := a * b) (by omega) (by omega))]
    rfl
end
