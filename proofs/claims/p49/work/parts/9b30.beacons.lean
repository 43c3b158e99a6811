/-! stage B: all beacons grow, and read as told -/
def ASC (t : List Nat) : Prop := ∀ c, c ∈ t → c < 128
section
variable {n p i u L9 N m : Nat} {x Y Y' : St} {xs : Nat → Int32} {tN s l : List Nat} {Q Q' : St → St → Prop} {N9 : Int32}
theorem set_at {Z : St} {f : Nat} {o : Option Nat} : (∀ q, q ≤ n → gI (setO Z (n + 1) f o) q = gI Z q) ∧ (∀ j k, ¬ (j = 0 ∧ k = f) → gI (setO Z (n + 1) f o) (n + 1) j k = gI Z (n + 1) j k) ∧ ∀ w, gI Z (n + 1) 0 f = nI w → gI (setO Z (n + 1) f o) (n + 1) 0 f = nI (o.getD w) := by
  cases o with
  | none => exact ⟨fun _ _ => rfl, fun _ _ _ => rfl, fun w hw => hw⟩
  | some v =>
    refine ⟨fun q hq => funext fun j => funext fun k => ?_, fun j k hjk => ?_, fun w hw => ?_⟩
    · show gI (pI Z (n + 1) 0 f (nI v)) q j k = _
      rw [gI_pI, if_neg (by omega)]
    · show gI (pI Z (n + 1) 0 f (nI v)) (n + 1) j k = _
      rw [gI_pI, if_neg (by omega)]
    · show gI (pI Z (n + 1) 0 f (nI v)) (n + 1) 0 f = nI v
      rw [gI_pI, if_pos ⟨rfl, rfl, rfl⟩]
theorem ASC.app (h : ASC s) (h2 : ASC l) : ASC (s ++ l) := fun c hc => by
  rcases List.mem_append.mp hc with z | z
  · exact h c z
  · exact h2 c z
theorem asc_ok (h : okL s) : ASC s := fun c hc => by have := h.2.2 c hc; omega
theorem asc_dN {v : Nat} (hv : v < 1000) : ASC (dN v) := fun c hc => by
  have := lxD_of (List.all_eq_true.mp (dN_ok v hv).2.1 c hc)
  omega
theorem asc_1 {a : Nat} (h : a < 128) : ASC [a] := fun c hc => by rw [List.mem_singleton] at hc; omega
theorem asc_ptx : ∀ (r : List (List Nat × Nat)), PTOK r → ASC (PTX r [])
  | [], _ => asc_1 (by omega)
  | (w, v) :: r, hr => by
    obtain ⟨q1, q2⟩ := hr _ (List.mem_cons_self ..)
    exact (asc_1 (by omega)).app ((asc_ok q1).app ((asc_1 (by omega)).app ((asc_dN q2).app (asc_ptx r fun q hq => hr q (List.mem_cons_of_mem _ hq)))))
theorem ptp_l {w : List Nat} {o : Option Nat} : (PTP w o).length ≤ w.length + 5 := by
  cases o with
  | none => exact Nat.zero_le _
  | some v =>
    have := dN_l v
    have h32 : ([32] : List Nat).length = 1 := rfl
    simp only [PTP, List.length_append, h32]
    omega
/-- a whole beacon grows -/
theorem g_beacon (hL : L9 ≤ 260) (hn : n < N) (hN : N ≤ 5) (ht : tN.length ≤ 60 * n) (hu : u ≤ 4 + 15 * n) (h : GRT (QBe n Y) tN) : ∃ Y' tN' u', (∀ m, sX8_grown_b27 (m + 1) L9 xs n Y (tN.map nI) u (nI N) (nI n) = sX8_grown_b27 m L9 xs (n + 1) Y' (tN'.map nI) u' (nI N) (nI (n + 1))) ∧ tN'.length ≤ 60 * (n + 1) ∧ u' ≤ 4 + 15 * (n + 1) ∧ GRT (QBe (n + 1) Y') tN' ∧ gI Y' 0 = gI Y 0 ∧ (ASC tN → ASC tN') := by
  have h32 : ([32] : List Nat).length = 1 := rfl
  have h97 : ([97 + n] : List Nat).length = 1 := rfl
  have h59 : ([59] : List Nat).length = 1 := rfl
  obtain ⟨h6, h5, h2, hli, hse, hen, -⟩ := ln_ws
  have hfix : ∃ p og d, d ≤ 7 ∧ 2 ≤ p ∧ p ≤ 15 ∧ (∀ v, og = some v → 0 ≤ v ∧ v ≤ p - 1) ∧ ∀ m, sX8_grown_b27 (m + 1) L9 xs n Y (tN.map nI) u (nI N) (nI n) = sX8_grown_b142 (fun n' Y' t' u' a3' a4' => sX8_grown_b27 m L9 xs n' Y' t' u' a3' a4') L9 xs n (pI (pI (Yb Y n) (n + 1) 0 0 (nI p)) (n + 1) 0 1 (nI (og.getD 0))) ((tN ++ (hdT n p ++ PTP wAtw og)).map nI) (u + d) (nI N) (nI n) := s_27 hL hn hN (by omega) (by omega)
  obtain ⟨p, og, d, hd, hp, hp2, hog, e1⟩ := hfix
  have hl1 : (tN ++ (hdT n p ++ PTP wAtw og)).length ≤ tN.length + 25 := by
    have := ptp_l (w := wAtw) (o := og)
    have := dN_l p
    simp only [hdT, List.length_append, h32, h97, h6, h5]
    omega
  have hfix2 : ∃ ol d2, d2 ≤ 2 ∧ (∀ v, ol = some v → 1 ≤ v ∧ v ≤ 9) ∧ ∀ K, sX8_grown_b142 K L9 xs n (pI (pI (Yb Y n) (n + 1) 0 0 (nI p)) (n + 1) 0 1 (nI (og.getD 0))) ((tN ++ (hdT n p ++ PTP wAtw og)).map nI) (u + d) (nI N) (nI n) = sX8_grown_b187 K L9 xs n (setO (pI (pI (Yb Y n) (n + 1) 0 0 (nI p)) (n + 1) 0 1 (nI (og.getD 0))) (n + 1) 2 ol) ((tN ++ (hdT n p ++ PTP wAtw og) ++ PTP wLis ol).map nI) (u + d + d2) (nI N) (nI n) := s_142 hL (by omega) (by omega) (by omega)
  obtain ⟨ol, d2, hd2, hol, e2⟩ := hfix2
  have hl2 : (tN ++ (hdT n p ++ PTP wAtw og) ++ PTP wLis ol).length ≤ tN.length + 37 := by
    have := ptp_l (w := wLis) (o := ol)
    rw [List.length_append]
    omega
  generalize hZ1 : pI (pI (Yb Y n) (n + 1) 0 0 (nI p)) (n + 1) 0 1 (nI (og.getD 0)) = Z1 at e1 e2
  have hfix3 : ∃ os d3, d3 ≤ 2 ∧ (∀ v, os = some v → 1 ≤ v ∧ v ≤ 9) ∧ ∀ K, sX8_grown_b187 K L9 xs n (setO Z1 (n + 1) 2 ol) ((tN ++ (hdT n p ++ PTP wAtw og) ++ PTP wLis ol).map nI) (u + d + d2) (nI N) (nI n) = sX8_grown_b232 K L9 xs n (setO (setO Z1 (n + 1) 2 ol) (n + 1) 3 os) ((tN ++ (hdT n p ++ PTP wAtw og) ++ PTP wLis ol ++ PTP wSen os).map nI) (u + d + d2 + d3) (nI N) (nI n) := s_187 hL (by omega) (by omega) (by omega)
  obtain ⟨os, d3, hd3, hos, e3⟩ := hfix3
  have hl3 : (tN ++ (hdT n p ++ PTP wAtw og) ++ PTP wLis ol ++ PTP wSen os).length ≤ tN.length + 47 := by
    have := ptp_l (w := wSen) (o := os)
    rw [List.length_append]
    omega
  have hfix4 : ∃ oe d4, d4 ≤ 2 ∧ (∀ v, oe = some v → 1 ≤ v ∧ v ≤ 999) ∧ ∀ K, sX8_grown_b232 K L9 xs n (setO (setO Z1 (n + 1) 2 ol) (n + 1) 3 os) ((tN ++ (hdT n p ++ PTP wAtw og) ++ PTP wLis ol ++ PTP wSen os).map nI) (u + d + d2 + d3) (nI N) (nI n) = sX8_grown_b279 K L9 xs n (setO (setO (setO Z1 (n + 1) 2 ol) (n + 1) 3 os) (n + 1) 4 oe) ((tN ++ (hdT n p ++ PTP wAtw og) ++ PTP wLis ol ++ PTP wSen os ++ PTP wEne oe).map nI) (u + d + d2 + d3 + d4) (nI N) (nI n) := s_232 hL (by omega) (by omega) (by omega)
  obtain ⟨oe, d4, hd4, hoe, e4⟩ := hfix4
  have hl4 : (tN ++ (hdT n p ++ PTP wAtw og) ++ PTP wLis ol ++ PTP wSen os ++ PTP wEne oe).length ≤ tN.length + 58 := by
    have := ptp_l (w := wEne) (o := oe)
    rw [List.length_append]
    omega
  have htx : tN ++ (hdT n p ++ PTP wAtw og) ++ PTP wLis ol ++ PTP wSen os ++ PTP wEne oe ++ [59] = tN ++ bcT n p og ol os oe [] := by
    rw [← bcT_cat]
    simp only [List.append_assoc]
  obtain ⟨a1, a2, a3⟩ := set_at (n := n) (Z := Z1) (f := 2) (o := ol)
  obtain ⟨b1, b2, b3⟩ := set_at (n := n) (Z := setO Z1 (n + 1) 2 ol) (f := 3) (o := os)
  obtain ⟨c1, c2, c3⟩ := set_at (n := n) (Z := setO (setO Z1 (n + 1) 2 ol) (n + 1) 3 os) (f := 4) (o := oe)
  have z0 : ∀ q, q ≤ n → gI Z1 q = gI Y q := fun q hq => funext fun j => funext fun k => by
    rw [← hZ1, gI_pI, if_neg (by omega), gI_pI, if_neg (by omega), Yb_lt hq]
  have zk : ∀ j k, ¬ (j = 0 ∧ k ≤ 1) → gI Z1 (n + 1) j k = ybk j k := fun j k hjk => by
    rw [← hZ1, gI_pI, if_neg (by omega), gI_pI, if_neg (by omega), Yb_at]
  have zp : gI Z1 (n + 1) 0 0 = nI p := by rw [← hZ1, gI_pI, if_neg (by omega), gI_pI, if_pos ⟨rfl, rfl, rfl⟩]
  have zg : gI Z1 (n + 1) 0 1 = nI (og.getD 0) := by rw [← hZ1, gI_pI, if_pos ⟨rfl, rfl, rfl⟩]
  have y2 := a3 2 (zk 0 2 (by omega))
  have y3 := b3 2 ((a2 0 3 (by omega)).trans (zk 0 3 (by omega)))
  have y4 := c3 999 ((b2 0 4 (by omega)).trans ((a2 0 4 (by omega)).trans (zk 0 4 (by omega))))
  have hsq := sq_beacon (Y := Y) (Y' := setO (setO (setO Z1 (n + 1) 2 ol) (n + 1) 3 os) (n + 1) 4 oe) (show n < 8 by omega) hp (by omega) hog hol hos hoe rfl rfl rfl rfl (fun q hq => by rw [c1 q hq, b1 q hq, a1 q hq, z0 q hq]) (by rw [c2 _ _ (by omega), b2 _ _ (by omega), a2 _ _ (by omega)]; exact zp) (by rw [c2 _ _ (by omega), b2 _ _ (by omega), a2 _ _ (by omega)]; exact zg) (by rw [c2 _ _ (by omega), b2 _ _ (by omega)]; exact y2) (by rw [c2 _ _ (by omega)]; exact y3) y4 (fun j k hjk => by rw [c2 _ _ (by omega), b2 _ _ (by omega), a2 _ _ (by omega)]; exact zk j k (by omega))
  have hbl : 1 ≤ (bcT n p og ol os oe []).length := by
    unfold bcT
    rw [List.length_append, h6]
    omega
  refine ⟨_, tN ++ bcT n p og ol os oe [], u + d + d2 + d3 + d4 + 2, fun m => ?_, ?_, by omega, h.step hsq (by omega) hbl (fun l => rfl), by rw [c1 0 (by omega), b1 0 (by omega), a1 0 (by omega), z0 0 (by omega)], fun hA => hA.app ?_⟩
  · rw [e1, e2, e3, e4, s_279 (by omega) (by omega), htx]
  · rw [← htx, List.length_append, h59]
    omega
  · obtain ⟨o1, o2, o3, o4, o5, o6, -⟩ := ok_w
    have P1 := ptok_op (o := oe) o6 (fun v hv => by have := hoe v hv; omega) (show PTOK [] from fun q hq => by cases hq)
    have P2 := ptok_op (o := os) o5 (fun v hv => by have := hos v hv; omega) P1
    have P3 := ptok_op (o := ol) o4 (fun v hv => by have := hol v hv; omega) P2
    have P4 := ptok_op (o := og) o3 (fun v hv => by have := hog v hv; omega) P3
    exact (asc_ok o1).app ((asc_1 (by omega)).app ((asc_1 (by omega)).app ((asc_1 (by omega)).app ((asc_ok o2).app ((asc_dN (by omega)).app (asc_ptx _ P4))))))
/-- what is behind the beacons -/
def grE (L9 : Nat) (xs : Nat → Int32) (n : Nat) (Y : St) (t : List Int32) (u : Nat) (a3 : Int32) : Option (Nat × St × List Int32) :=
  bd (sL_pick L9 xs (2 : Int32) (2 : Int32)) fun q5 =>
  if ¬ q5 = 0 then sX8_grown_b377 L9 xs n Y t u a3
  else gd (ltN (t.length + lenJS.getD 13 0) 601) (gd (ltN u 200) (nm (t ++ bytJS.getD 13 []) fun t9 => sX8_grown_b323 FU L9 xs n Y t9 (u + 1) a3 (0 : Int32)))
theorem g_27 (hL : L9 ≤ 260) (hN : N ≤ 5) : ∀ (d i F : Nat) (Y : St) (tN : List Nat) (u : Nat), i + d = N → d < F → tN.length ≤ 60 * i → u ≤ 4 + 15 * i → GRT (QBe i Y) tN → ∃ Y' tN' u', sX8_grown_b27 F L9 xs i Y (tN.map nI) u (nI N) (nI i) = grE L9 xs N Y' (tN'.map nI) u' (nI N) ∧ tN'.length ≤ 60 * N ∧ u' ≤ 4 + 15 * N ∧ GRT (QBe N Y') tN' ∧ gI Y' 0 = gI Y 0 ∧ (ASC tN → ASC tN') := by
  intro d
  induction d with
  | zero =>
    intro i F Y tN u hi hF ht hu h
    obtain rfl : i = N := by omega
    obtain ⟨F, rfl⟩ : ∃ z, F = z + 1 := ⟨F - 1, by omega⟩
    refine ⟨Y, tN, u, ?_, ht, hu, h, rfl, fun z => z⟩
    simp only [sX8_grown_b27]
    rw [if_pos (nI_le (Nat.le_refl _) (by omega))]
    rfl
  | succ d ih =>
    intro i F Y tN u hi hF ht hu h
    obtain ⟨F, rfl⟩ : ∃ z, F = z + 1 := ⟨F - 1, by omega⟩
    obtain ⟨Y1, t1, u1, e1, e2, e3, e4, e5, e6⟩ := g_beacon (xs := xs) hL (show i < N by omega) hN ht hu h
    obtain ⟨Y2, t2, u2, f1, f2, f3, f4, f5, f6⟩ := ih (i + 1) F Y1 t1 u1 (by omega) (by omega) e2 e3 e4
    exact ⟨Y2, t2, u2, (e1 F).trans f1, f2, f3, f4, f5.trans e5, fun z => f6 (e6 z)⟩
end
