/-! the String constants -/
def nJS : Nat := 25
def lenJS : List Nat := [0, 7, 7, 5, 6, 4, 9, 5, 2, 7, 4, 8, 1, 5, 4, 5, 6, 6, 6, 1, 3, 5, 6, 7, 5]
def bytJS : List (List Int32) := [[], [108, 105, 115, 116, 101, 110, 115], [98, 101, 97, 99, 111, 110, 32], [115, 101, 110, 100, 115], [32, 101, 118, 101, 114, 121], [32, 97, 116, 32], [32, 108, 105, 115, 116, 101, 110, 115, 32], [101, 118, 101, 114, 121], [97, 116], [32, 115, 101, 110, 100, 115, 32], [110, 101, 97, 114], [32, 101, 110, 101, 114, 103, 121, 32], [59], [99, 111, 115, 116, 115], [115, 101, 101, 100], [116, 114, 105, 101, 115], [109, 101, 109, 111, 114, 121], [98, 101, 97, 99, 111, 110], [101, 110, 101, 114, 103, 121], [32], [32, 59, 10], [115, 101, 101, 100, 32], [116, 114, 105, 101, 115, 32], [109, 101, 109, 111, 114, 121, 32], [110, 101, 97, 114, 32]]
def SR : List (String × Nat × String × Nat) := [(RX3, 38, "costs", 13), (RX3, 51, "seed", 14), (RX3, 56, "tries", 15), (RX3, 61, "memory", 16), (RX3, 66, "beacon", 17), (RX3, 107, "every", 7), (RX3, 112, "at", 8), (RX3, 118, "listens", 1), (RX3, 120, "sends", 3), (RX3, 122, "energy", 18), (RX3, 71, "near", 10), (RX8, 39, "", 0), (RX8, 64, "beacon ", 2), (RX8, 73, " every", 4), (RX8, 78, " at ", 5), (RX8, 83, " listens ", 6), (RX8, 88, " sends ", 9), (RX8, 93, " energy ", 11), (RX8, 95, ";", 12), (RX8, 103, "costs", 13), (RX8, 105, " ", 19), (RX8, 107, " ;\n", 20), (RX8, 109, "seed ", 21), (RX8, 111, "tries ", 22), (RX8, 113, "memory ", 23), (RX8, 115, "near ", 24)]
abbrev vwCl : List vw_C := [(RX0, TX0, 18), (RX1, TX1, 2), (RX2, TX2, 9), (RX3, TX3, 2), (RX4, TX4, 10), (RX5, TX5, 11), (RX6, TX6, 13), (RX7, TX7, 16), (RX8, TX8, 12), (RJx4a65c, TJx4a65c, 3), (RJx35411, TJx35411, 4), (RJ4, TJ4, 4), (RJ0, TJ0, 4)]
/-! stores, regions, kinds of cells -/
abbrev St : Type := (Nat → Nat → Nat → Int32) × (Nat → Nat → Nat → Int64)
def gI (x : St) (o j k : Nat) : Int32 := x.1 o j k
def gL (x : St) (o j k : Nat) : Int64 := x.2 o j k
def pI (x : St) (o j k : Nat) (v : Int32) : St := (fun a b c => if a = o ∧ b = j ∧ c = k then v else x.1 a b c, x.2)
def pL (x : St) (o j k : Nat) (v : Int64) : St := (x.1, fun a b c => if a = o ∧ b = j ∧ c = k then v else x.2 a b c)
theorem gI_pI (x : St) (o j k o' j' k' : Nat) (v : Int32) : gI (pI x o j k v) o' j' k' = if o' = o ∧ j' = j ∧ k' = k then v else gI x o' j' k' := rfl
theorem gL_pL (x : St) (o j k o' j' k' : Nat) (v : Int64) : gL (pL x o j k v) o' j' k' = if o' = o ∧ j' = j ∧ k' = k then v else gL x o' j' k' := rfl
theorem gI_pL (x : St) (o j k o' j' k' : Nat) (v : Int64) : gI (pL x o j k v) o' j' k' = gI x o' j' k' := rfl
theorem gL_pI (x : St) (o j k o' j' k' : Nat) (v : Int32) : gL (pI x o j k v) o' j' k' = gL x o' j' k' := rfl
def uP (f : Nat → St) (k : Nat) (x : St) : Nat → St := fun i => if i = k then x else f i
abbrev TT : Type := St × St × St × (Nat → St) × St × St × St × St × St × St × St × St
/-- regions: 0 now, 1 trial, 2 kept, 3 reader's tokens, 4 script's tokens, 5 reader, 6 script, 7 page, 8 the object, 9 model, 10 out, 11+k past k -/
def rg (T : TT) : Nat → St
  | 0 => T.1
  | 1 => T.2.1
  | 2 => T.2.2.1
  | 3 => T.2.2.2.2.1
  | 4 => T.2.2.2.2.2.1
  | 5 => T.2.2.2.2.2.2.1
  | 6 => T.2.2.2.2.2.2.2.1
  | 7 => T.2.2.2.2.2.2.2.2.1
  | 8 => T.2.2.2.2.2.2.2.2.2.1
  | 9 => T.2.2.2.2.2.2.2.2.2.2.1
  | 10 => T.2.2.2.2.2.2.2.2.2.2.2
  | k + 11 => T.2.2.2.1 k
def rs (T : TT) (r : Nat) (x : St) : TT := match T, r with
  | (x0, x1, x2, ps, ta, tb, d, S, pg, c, m, ot), 0 => (x, x1, x2, ps, ta, tb, d, S, pg, c, m, ot)
  | (x0, x1, x2, ps, ta, tb, d, S, pg, c, m, ot), 1 => (x0, x, x2, ps, ta, tb, d, S, pg, c, m, ot)
  | (x0, x1, x2, ps, ta, tb, d, S, pg, c, m, ot), 2 => (x0, x1, x, ps, ta, tb, d, S, pg, c, m, ot)
  | (x0, x1, x2, ps, ta, tb, d, S, pg, c, m, ot), 3 => (x0, x1, x2, ps, x, tb, d, S, pg, c, m, ot)
  | (x0, x1, x2, ps, ta, tb, d, S, pg, c, m, ot), 4 => (x0, x1, x2, ps, ta, x, d, S, pg, c, m, ot)
  | (x0, x1, x2, ps, ta, tb, d, S, pg, c, m, ot), 5 => (x0, x1, x2, ps, ta, tb, x, S, pg, c, m, ot)
  | (x0, x1, x2, ps, ta, tb, d, S, pg, c, m, ot), 6 => (x0, x1, x2, ps, ta, tb, d, x, pg, c, m, ot)
  | (x0, x1, x2, ps, ta, tb, d, S, pg, c, m, ot), 7 => (x0, x1, x2, ps, ta, tb, d, S, x, c, m, ot)
  | (x0, x1, x2, ps, ta, tb, d, S, pg, c, m, ot), 8 => (x0, x1, x2, ps, ta, tb, d, S, pg, x, m, ot)
  | (x0, x1, x2, ps, ta, tb, d, S, pg, c, m, ot), 9 => (x0, x1, x2, ps, ta, tb, d, S, pg, c, x, ot)
  | (x0, x1, x2, ps, ta, tb, d, S, pg, c, m, ot), 10 => (x0, x1, x2, ps, ta, tb, d, S, pg, c, m, x)
  | (x0, x1, x2, ps, ta, tb, d, S, pg, c, m, ot), k + 11 => (x0, x1, x2, uP ps k x, ta, tb, d, S, pg, c, m, ot)
theorem r_cases (r : Nat) : r = 0 ∨ r = 1 ∨ r = 2 ∨ r = 3 ∨ r = 4 ∨ r = 5 ∨ r = 6 ∨ r = 7 ∨ r = 8 ∨ r = 9 ∨ r = 10 ∨ ∃ k, r = k + 11 := by
  by_cases h : r < 11
  · omega
  · exact Or.inr (Or.inr (Or.inr (Or.inr (Or.inr (Or.inr (Or.inr (Or.inr (Or.inr (Or.inr (Or.inr ⟨r - 11, by omega⟩))))))))))
theorem rg_rs (T : TT) (r : Nat) (x : St) : rg (rs T r x) r = x := by
  rcases r_cases r with rfl | rfl | rfl | rfl | rfl | rfl | rfl | rfl | rfl | rfl | rfl | ⟨k, rfl⟩ <;> first | rfl | exact if_pos rfl
theorem rs_rs (T : TT) (r : Nat) (x y : St) : rs (rs T r x) r y = rs T r y := by
  rcases r_cases r with rfl | rfl | rfl | rfl | rfl | rfl | rfl | rfl | rfl | rfl | rfl | ⟨k, rfl⟩ <;> first | rfl | skip
  show (T.1, T.2.1, T.2.2.1, uP (uP T.2.2.2.1 k x) k y, T.2.2.2.2) = (T.1, T.2.1, T.2.2.1, uP T.2.2.2.1 k y, T.2.2.2.2)
  rw [show uP (uP T.2.2.2.1 k x) k y = uP T.2.2.2.1 k y from funext fun i => by unfold uP; split <;> rfl]
theorem rs_rg (T : TT) (r : Nat) : rs T r (rg T r) = T := by
  rcases r_cases r with rfl | rfl | rfl | rfl | rfl | rfl | rfl | rfl | rfl | rfl | rfl | ⟨k, rfl⟩ <;> first | rfl | skip
  show (T.1, T.2.1, T.2.2.1, uP T.2.2.2.1 k (T.2.2.2.1 k), T.2.2.2.2) = T
  rw [show uP T.2.2.2.1 k (T.2.2.2.1 k) = T.2.2.2.1 from funext fun i => by unfold uP; split <;> simp_all]
theorem rs_self {T : TT} {r : Nat} {x : St} (h : rg T r = x) : rs T r x = T := by subst h; exact rs_rg T r
theorem rg_rs_ne (T : TT) (x : St) {r q : Nat} (h : q ≠ r) : rg (rs T r x) q = rg T q := by
  rcases r_cases r with rfl | rfl | rfl | rfl | rfl | rfl | rfl | rfl | rfl | rfl | rfl | ⟨k, rfl⟩ <;>
  rcases r_cases q with rfl | rfl | rfl | rfl | rfl | rfl | rfl | rfl | rfl | rfl | rfl | ⟨i, rfl⟩ <;>
  first | rfl | exact absurd rfl h | exact if_neg (fun e => h (by rw [e]))
/-- kinds: (0, class), (1, n) ints, (2, n) bytes, (3, n) longs, (4, n) beacons, (5, n) worlds -/
def kW : Nat → Nat → Option (Nat × Nat)
  | 0, 0 => some (0, 5)
  | 0, 1 => some (1, 4)
  | 0, 2 => some (4, 8)
  | 0, _ => none
  | o + 1, j => if o < 8 then (match j with
    | 0 => some (0, 0)
    | 1 => some (1, 4)
    | 2 => some (1, 8)
    | 3 => some (1, 8)
    | 4 => some (1, 8)
    | _ => none) else none
def kO (l : List (Nat × Nat)) : Nat → Nat → Option (Nat × Nat)
  | 0, j => l[j]?
  | _, _ => none
def kd : Nat → Nat → Nat → Option (Nat × Nat)
  | 0 => kW
  | 1 => kW
  | 2 => kW
  | 3 => kO [(0, 4), (1, 701), (1, 701), (3, 701)]
  | 4 => kO [(0, 4), (1, 701), (1, 701), (3, 701)]
  | 5 => kO [(0, 3)]
  | 6 => kO [(0, 2), (1, 60), (1, 60), (1, 60), (1, 2), (1, 2)]
  | 7 => kO [(0, 1), (2, 800)]
  | 8 => kO [(0, 6), (2, 700), (5, 6)]
  | 9 => fun _ _ => none
  | 10 => fun _ _ => none
  | k + 11 => if k < 6 then kW else fun _ _ => none
def isW (r : Nat) : Prop := r < 3 ∨ (11 ≤ r ∧ r < 17)
def isO (o : Nat) : Prop := 1 ≤ o ∧ o ≤ 8
theorem kd_W {r : Nat} (h : isW r) : kd r = kW := by
  rcases h with h | ⟨h1, h2⟩
  · rcases (by omega : r = 0 ∨ r = 1 ∨ r = 2) with rfl | rfl | rfl <;> rfl
  · obtain ⟨k, rfl⟩ : ∃ k, r = k + 11 := ⟨r - 11, by omega⟩
    exact if_pos (by omega)
theorem kd_o0 {r o : Nat} (h : isW r) (ho : isO o) : kd r o 0 = some (0, 0) := by
  rw [kd_W h]; obtain ⟨h1, h2⟩ := ho; obtain ⟨p, rfl⟩ : ∃ p, o = p + 1 := ⟨o - 1, by omega⟩; exact if_pos (by omega)
theorem kd_o1 {r o : Nat} (h : isW r) (ho : isO o) : kd r o 1 = some (1, 4) := by
  rw [kd_W h]; obtain ⟨h1, h2⟩ := ho; obtain ⟨p, rfl⟩ : ∃ p, o = p + 1 := ⟨o - 1, by omega⟩; exact if_pos (by omega)
theorem kd_o2 {r o : Nat} (h : isW r) (ho : isO o) : kd r o 2 = some (1, 8) := by
  rw [kd_W h]; obtain ⟨h1, h2⟩ := ho; obtain ⟨p, rfl⟩ : ∃ p, o = p + 1 := ⟨o - 1, by omega⟩; exact if_pos (by omega)
theorem kd_o3 {r o : Nat} (h : isW r) (ho : isO o) : kd r o 3 = some (1, 8) := by
  rw [kd_W h]; obtain ⟨h1, h2⟩ := ho; obtain ⟨p, rfl⟩ : ∃ p, o = p + 1 := ⟨o - 1, by omega⟩; exact if_pos (by omega)
theorem kd_o4 {r o : Nat} (h : isW r) (ho : isO o) : kd r o 4 = some (1, 8) := by
  rw [kd_W h]; obtain ⟨h1, h2⟩ := ho; obtain ⟨p, rfl⟩ : ∃ p, o = p + 1 := ⟨o - 1, by omega⟩; exact if_pos (by omega)
theorem kd_w0 {r : Nat} (h : isW r) : kd r 0 0 = some (0, 5) := by rw [kd_W h]; rfl
theorem kd_w1 {r : Nat} (h : isW r) : kd r 0 1 = some (1, 4) := by rw [kd_W h]; rfl
theorem kd_w2 {r : Nat} (h : isW r) : kd r 0 2 = some (4, 8) := by rw [kd_W h]; rfl
theorem kd_lt {r o j : Nat} {v : Nat × Nat} (h : kd r o j = some v) : r < 17 ∧ o < 9 ∧ j < 20 := by
  have hw : ∀ o j : Nat, kW o j = some v → o < 9 ∧ j < 20 := by
    intro o j h
    match o, j, h with
    | 0, 0, _ => omega
    | 0, 1, _ => omega
    | 0, 2, _ => omega
    | 0, j + 3, h => cases h
    | o + 1, j, h =>
      simp only [kW] at h
      split at h
      · rename_i q
        refine ⟨by omega, ?_⟩
        match j, h with
        | 0, _ => omega
        | 1, _ => omega
        | 2, _ => omega
        | 3, _ => omega
        | 4, _ => omega
        | j + 5, h => cases h
      · cases h
  have ho : ∀ l : List (Nat × Nat), l.length ≤ 20 → ∀ o j : Nat, kO l o j = some v → o < 9 ∧ j < 20 := by
    intro l hl o j h
    match o, h with
    | 0, h =>
      have := (List.getElem?_eq_some_iff.mp h).1
      omega
    | o + 1, h => cases h
  rcases r_cases r with rfl | rfl | rfl | rfl | rfl | rfl | rfl | rfl | rfl | rfl | rfl | ⟨k, rfl⟩
  · exact ⟨by omega, hw _ _ h⟩
  · exact ⟨by omega, hw _ _ h⟩
  · exact ⟨by omega, hw _ _ h⟩
  · exact ⟨by omega, ho _ (by decide) _ _ h⟩
  · exact ⟨by omega, ho _ (by decide) _ _ h⟩
  · exact ⟨by omega, ho _ (by decide) _ _ h⟩
  · exact ⟨by omega, ho _ (by decide) _ _ h⟩
  · exact ⟨by omega, ho _ (by decide) _ _ h⟩
  · exact ⟨by omega, ho _ (by decide) _ _ h⟩
  · cases h
  · cases h
  · simp only [kd] at h
    split at h
    · rename_i q
      exact ⟨by omega, hw _ _ h⟩
    · cases h
abbrev Pth : Type := Nat × Nat × Nat
def PL : List Pth := (List.range 17).flatMap fun r => (List.range 9).flatMap fun o => (List.range 20).filterMap fun j => if (kd r o j).isSome = true then some (r, o, j) else none
theorem PL_mem {r o j : Nat} {v : Nat × Nat} (h : kd r o j = some v) : (r, o, j) ∈ PL := by
  obtain ⟨h1, h2, h3⟩ := kd_lt h
  unfold PL
  refine List.mem_flatMap.mpr ⟨r, List.mem_range.mpr h1, List.mem_flatMap.mpr ⟨o, List.mem_range.mpr h2, List.mem_filterMap.mpr ⟨j, List.mem_range.mpr h3, ?_⟩⟩⟩
  rw [h]; rfl
theorem PL_nodup : PL.Nodup := by decide +kernel
/-- a class's fields: 0 an int, 1 a long, 2 a reference -/
def tgL : Nat → List Nat
  | 0 => [1, 0, 0, 0, 0, 0, 0, 0, 0, 0, 0, 0, 0, 0, 2, 2, 2, 2]
  | 1 => [2, 0]
  | 2 => [2, 2, 2, 2, 0, 0, 2, 2, 0]
  | 3 => [2, 0]
  | 4 => [2, 2, 2, 0, 0, 0, 0, 1, 0, 0]
  | 5 => [2, 2, 0, 0, 0, 0, 0, 0, 0, 0, 0]
  | 6 => [2, 0, 0, 0, 2, 2, 2, 0, 2, 0, 2, 2, 2]
  | _ => [0, 2, 0, 0, 0, 0, 0, 0, 0, 0, 0, 0, 1, 2, 2, 2, 2, 2, 2, 2, 2, 0, 0, 0, 2, 2, 2, 2, 2, 0, 0, 0, 2, 0, 0]
def tg (c k : Nat) : Nat := (tgL c).getD k 0
/-- where a reference field points -/
def rt (c r o k : Nat) : Pth := match c, k with
  | 0, k => (r, o, k - 13)
  | 1, _ => (r, 0, 1)
  | 2, 0 => (4, 0, 0)
  | 2, 6 => (r, 0, 4)
  | 2, 7 => (r, 0, 5)
  | 2, k => (r, 0, k)
  | 3, _ => (3, 0, 0)
  | 4, k => (r, 0, k + 1)
  | 5, 0 => (r, 0, 2)
  | 5, _ => (r, 0, 1)
  | 6, 0 => (r, 0, 1)
  | 6, 4 => (0, 0, 0)
  | 6, 5 => (1, 0, 0)
  | 6, 6 => (2, 0, 0)
  | 6, 8 => (r, 0, 2)
  | 6, 10 => (7, 0, 0)
  | 6, 11 => (5, 0, 0)
  | 6, _ => (6, 0, 0)
  | _, 1 => (r, 0, 1)
  | _, 32 => (r, 0, 15)
  | _, k => if k < 21 then (r, 0, k - 11) else (r, 0, k - 14)
abbrev ADt : Type := Nat → Nat → Nat → Nat
def fv (ad : ADt) (c r o : Nat) (x : St) (k : Nat) : Value := match tg c k with
  | 0 => .int (gI x o 0 k)
  | 1 => .long (gL x o 0 k)
  | _ => .ref (ad (rt c r o k).1 (rt c r o k).2.1 (rt c r o k).2.2)
abbrev KX : Type := va_G × (Nat → ClassId) × ADt × (Nat → Prop) × (Nat → Nat) × (Nat → Nat)
def cE (κ : KX) (T : TT) (r o j : Nat) : va_E := match kd r o j with
  | some (0, c) => .inr (c, (List.range (tgL c).length).map (fv κ.2.2.1 c r o (rg T r)))
  | some (1, n) => .inl (κ.2.1 1, n, .inl (fun k => gI (rg T r) o j k))
  | some (2, n) => .inl (κ.2.1 2, n, .inl (fun k => gI (rg T r) o j k))
  | some (3, n) => .inl (κ.2.1 3, n, .inr (.inl (fun k => gL (rg T r) o j k)))
  | some (4, n) => .inl (κ.2.1 4, n, .inr (.inr (.inr (.inr (fun k => some (κ.2.2.1 r (k + 1) 0))))))
  | some (_, n) => .inl (κ.2.1 5, n, .inr (.inr (.inr (.inr (fun k => some (κ.2.2.1 ((gI (rg T r) o j k).toNatClampNeg + 11) 0 0))))))
  | none => .inr (0, [])
def wsO (κ : KX) (T : TT) : va_W := PL.map fun p => (κ.2.2.1 p.1 p.2.1 p.2.2, cE κ T p.1 p.2.1 p.2.2)
theorem wsO_at (κ : KX) (T : TT) {r o j : Nat} {v : Nat × Nat} (h : kd r o j = some v) : ∃ i : Nat, PL[i]? = some (r, o, j) ∧ (wsO κ T)[i]? = some (κ.2.2.1 r o j, cE κ T r o j) := by
  obtain ⟨i, hi, e⟩ := List.getElem_of_mem (PL_mem h)
  have h1 : PL[i]? = some (r, o, j) := by rw [List.getElem?_eq_getElem hi, e]
  exact ⟨i, h1, by unfold wsO; rw [List.getElem?_map, h1]; rfl⟩
theorem L_inj {L : List Pth} (hL : L.Nodup) {i k : Nat} {p : Pth} (h1 : L[i]? = some p) (h2 : L[k]? = some p) : i = k := by
  obtain ⟨l1, e1⟩ := List.getElem?_eq_some_iff.mp h1
  obtain ⟨l2, e2⟩ := List.getElem?_eq_some_iff.mp h2
  have hp := List.pairwise_iff_getElem.mp hL
  rcases Nat.lt_trichotomy i k with h | h | h
  · exact absurd (e1.trans e2.symm) (hp i k l1 l2 h)
  · exact h
  · exact absurd (e2.trans e1.symm) (hp k i l2 l1 h)
/-- a change of one cell -/
theorem wsL_set {L : List Pth} (hL : L.Nodup) {κ : KX} {T T' : TT} {r o j i : Nat} {e : va_E} (hi : L[i]? = some (r, o, j)) (hs : cE κ T' r o j = e) (hn : ∀ r' o' j', (r', o', j') ≠ (r, o, j) → cE κ T' r' o' j' = cE κ T r' o' j') :
    (L.map fun p => (κ.2.2.1 p.1 p.2.1 p.2.2, cE κ T p.1 p.2.1 p.2.2)).set i (κ.2.2.1 r o j, e) = L.map fun p => (κ.2.2.1 p.1 p.2.1 p.2.2, cE κ T' p.1 p.2.1 p.2.2) := by
  refine List.ext_getElem? fun n => ?_
  rw [List.getElem?_set, List.length_map, List.getElem?_map, List.getElem?_map]
  have hl := (List.getElem?_eq_some_iff.mp hi).1
  by_cases h : i = n
  · subst h
    rw [if_pos rfl, if_pos hl, hi, Option.map_some, hs]
  · rw [if_neg h]
    cases hp : L[n]? with
    | none => rw [Option.map_none, Option.map_none]
    | some p =>
      rw [Option.map_some, Option.map_some, hn p.1 p.2.1 p.2.2 (fun e2 => h (L_inj hL hi (by rw [hp]; exact congrArg some e2)))]
theorem wsO_set {κ : KX} {T T' : TT} {r o j i : Nat} {e : va_E} (hi : PL[i]? = some (r, o, j)) (hs : cE κ T' r o j = e) (hn : ∀ r' o' j', (r', o', j') ≠ (r, o, j) → cE κ T' r' o' j' = cE κ T r' o' j') : (wsO κ T).set i (κ.2.2.1 r o j, e) = wsO κ T' :=
  wsL_set PL_nodup hi hs hn
theorem tgL_le (c : Nat) : (tgL c).length ≤ 40 := by
  match c with
  | 0 | 1 | 2 | 3 | 4 | 5 | 6 => decide
  | c + 7 => show (tgL (c + 7)).length ≤ 40; simp [tgL]
/-- a put of an int into a field or an array changes this cell alone -/
theorem cE_other {κ : KX} {T T' : TT} {r o j : Nat} (hT : ∀ q, q ≠ r → rg T' q = rg T q) (hI : ∀ a b k, (a, b) ≠ (o, j) → gI (rg T' r) a b k = gI (rg T r) a b k) (hL : ∀ a b k, (a, b) ≠ (o, j) → gL (rg T' r) a b k = gL (rg T r) a b k) :
    ∀ r' o' j', (r', o', j') ≠ (r, o, j) → cE κ T' r' o' j' = cE κ T r' o' j' := by
  intro r' o' j' hne
  by_cases hr : r' = r
  · subst hr
    have hj : (o', j') ≠ (o, j) := fun e => hne (by rw [Prod.mk.injEq] at e; rw [e.1, e.2])
    unfold cE
    split
    · rename_i c hk
      have hfv : fv κ.2.2.1 c r' o' (rg T' r') = fv κ.2.2.1 c r' o' (rg T r') := by
        have h0 : j' = 0 := by
          by_cases z : j' = 0
          · exact z
          · exfalso
            have hb := kd_lt hk
            have : ∀ r' : Nat, r' < 17 → ∀ o' : Nat, o' < 9 → ∀ j' : Nat, j' < 20 → j' ≠ 0 → (kd r' o' j').all (fun q => q.1 != 0) = true := by decide +kernel
            have h9 := this r' hb.1 o' hb.2.1 j' hb.2.2 z
            rw [hk] at h9
            cases h9
        subst h0
        funext k
        unfold fv
        split
        · rw [hI _ _ _ hj]
        · rw [hL _ _ _ hj]
        · rfl
      rw [hfv]
    · simp only [hI _ _ _ hj]
    · simp only [hI _ _ _ hj]
    · simp only [hL _ _ _ hj]
    · rfl
    · simp only [hI _ _ _ hj]
    · rfl
  · unfold cE
    rw [hT r' hr]
