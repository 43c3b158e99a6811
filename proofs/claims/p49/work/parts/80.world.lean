/-! the law's own world: its cells, over a store of whole numbers -/
/-- kinds: (0, class), (1, n) ints, (6, n) booleans, (7, n) rows, (8, n) Objects -/
def kb (n : Nat) : Nat → Nat → Option (Nat × Nat)
  | 0, 0 => some (0, 8)
  | 0, 1 => some (1, 4)
  | 0, 2 => some (7, 8)
  | 0, 3 => some (6, 8)
  | 0, 4 => some (0, 9)
  | 0, 5 => if 0 < n then some (8, 10) else none
  | 0, j + 6 => if j < 8 then some (6, 8) else none
  | b + 1, j => if b < n then (match j with
    | 0 => some (0, 7)
    | 1 => some (1, 4)
    | 2 => some (1, 8)
    | 3 => some (1, 8)
    | 4 => some (1, 8)
    | _ => none) else none
def PB (n : Nat) : List (Nat × Nat) := (List.range 9).flatMap fun o => (List.range 14).filterMap fun j => if (kb n o j).isSome = true then some (o, j) else none
theorem PB_nodup : ∀ n, n < 9 → (PB n).Nodup := by decide +kernel
theorem kb_lt {n o j : Nat} {v : Nat × Nat} (hn : n < 9) (h : kb n o j = some v) : o < 9 ∧ j < 14 := by
  match o, j, h with
  | 0, 0, _ => omega
  | 0, 1, _ => omega
  | 0, 2, _ => omega
  | 0, 3, _ => omega
  | 0, 4, _ => omega
  | 0, 5, _ => omega
  | 0, j + 6, h =>
    simp only [kb] at h
    split at h
    · omega
    · cases h
  | b + 1, j, h =>
    simp only [kb] at h
    split at h
    · refine ⟨by omega, ?_⟩
      match j, h with
      | 0, _ => omega
      | 1, _ => omega
      | 2, _ => omega
      | 3, _ => omega
      | 4, _ => omega
      | j + 5, h => cases h
    · cases h
theorem PB_mem {n o j : Nat} {v : Nat × Nat} (hn : n < 9) (h : kb n o j = some v) : (o, j) ∈ PB n := by
  obtain ⟨h1, h2⟩ := kb_lt hn h
  unfold PB
  refine List.mem_flatMap.mpr ⟨o, List.mem_range.mpr h1, List.mem_filterMap.mpr ⟨j, List.mem_range.mpr h2, ?_⟩⟩
  rw [h]; rfl
theorem PB_kb {n o j : Nat} (h : (o, j) ∈ PB n) : ∃ v, kb n o j = some v := by
  unfold PB at h
  obtain ⟨o', -, h⟩ := List.mem_flatMap.mp h
  obtain ⟨j', -, h⟩ := List.mem_filterMap.mp h
  split at h
  · rename_i hs
    cases h
    exact Option.isSome_iff_exists.mp hs
  · cases h
/-- addresses: all but the arrays 'why' keep theirs -/
def adB (β : Nat → Nat → Nat) (ω : Nat → Nat) : Nat → Nat → Nat
  | o + 1, 3 => ω (o + 1)
  | o, j => β o j
def nfB : Nat → Nat
  | 7 => 16
  | 8 => 12
  | _ => 3
def fvB (n : Nat) (β : Nat → Nat → Nat) (ω : Nat → Nat) (e0 tx : Nat) (c o : Nat) (Y : St) (k : Nat) : Value := match c, k with
  | 8, 7 => .ref (β 0 1)
  | 8, 8 => .ref (β 0 2)
  | 8, 9 => .ref (β 0 3)
  | 8, 10 => .ref (β 0 4)
  | 8, 11 => .ref tx
  | 7, 12 => .ref (β o 1)
  | 7, 13 => .ref (β o 2)
  | 7, 14 => .ref (ω o)
  | 7, 15 => .ref (β o 4)
  | 9, 0 => .int (nI n)
  | 9, 1 => .ref (if n = 0 then e0 else β 0 5)
  | 9, _ => .int (nI n)
  | _, k => .int (gI Y o 0 k)
def cB (κ : KX) (n : Nat) (β : Nat → Nat → Nat) (ω : Nat → Nat) (e0 tx : Nat) (Y : St) (o j : Nat) : va_E := match kb n o j with
  | some (0, c) => .inr (c, (List.range (nfB c)).map (fvB n β ω e0 tx c o Y))
  | some (7, m) => .inl (κ.2.1 7, m, .inr (.inr (.inr (.inr (fun k => some (β 0 (k + 6)))))))
  | some (8, m) => .inl (κ.2.1 8, m, .inr (.inr (.inr (.inr (fun k => if k < n then some (β (k + 1) 0) else none)))))
  | some (t, m) => .inl (κ.2.1 t, m, .inl (fun k => gI Y o j k))
  | none => .inr (0, [])
def wsB (κ : KX) (n : Nat) (β : Nat → Nat → Nat) (ω : Nat → Nat) (e0 tx : Nat) (Y : St) : va_W := (PB n).map fun p => (adB β ω p.1 p.2, cB κ n β ω e0 tx Y p.1 p.2)
section
variable {κ : KX} {n : Nat} {β : Nat → Nat → Nat} {ω : Nat → Nat} {e0 tx : Nat} {Y : St} {R : va_W}
theorem wsB_at (hn : n < 9) {o j : Nat} {v : Nat × Nat} (h : kb n o j = some v) : ∃ i : Nat, (PB n)[i]? = some (o, j) ∧ (wsB κ n β ω e0 tx Y ++ R)[i]? = some (adB β ω o j, cB κ n β ω e0 tx Y o j) := by
  obtain ⟨i, hi, e⟩ := List.getElem_of_mem (PB_mem hn h)
  have h1 : (PB n)[i]? = some (o, j) := by rw [List.getElem?_eq_getElem hi, e]
  refine ⟨i, h1, ?_⟩
  have h2 : (wsB κ n β ω e0 tx Y)[i]? = some (adB β ω o j, cB κ n β ω e0 tx Y o j) := by unfold wsB; rw [List.getElem?_map, h1]; rfl
  rw [List.getElem?_append_left (List.getElem?_eq_some_iff.mp h2).1]
  exact h2
theorem map_set {α : Type} {L : List α} (hN : L.Nodup) {f f' : α → Nat × va_E} {i : Nat} {p : α} (hi : L[i]? = some p) (hne : ∀ q ∈ L, q ≠ p → f' q = f q) : (L.map f).set i (f' p) = L.map f' := by
  refine List.ext_getElem? fun k => ?_
  rw [List.getElem?_set, List.length_map, List.getElem?_map, List.getElem?_map]
  have hl := (List.getElem?_eq_some_iff.mp hi).1
  by_cases h : i = k
  · subst h
    rw [if_pos rfl, if_pos hl, hi, Option.map_some]
  · rw [if_neg h]
    cases hp : L[k]? with
    | none => rw [Option.map_none, Option.map_none]
    | some q =>
      rw [Option.map_some, Option.map_some, hne q (List.mem_of_getElem? hp) (fun e => ?_)]
      subst e
      obtain ⟨l1, e1⟩ := List.getElem?_eq_some_iff.mp hi
      obtain ⟨l2, e2⟩ := List.getElem?_eq_some_iff.mp hp
      have hp2 := List.pairwise_iff_getElem.mp hN
      rcases Nat.lt_trichotomy i k with h3 | h3 | h3
      · exact absurd (e1.trans e2.symm) (hp2 i k l1 l2 h3)
      · exact h h3
      · exact absurd (e2.trans e1.symm) (hp2 k i l2 l1 h3)
theorem wsB_set (hn : n < 9) {ω' : Nat → Nat} {Y' : St} {o j i : Nat} {x : Nat × va_E} (hi : (PB n)[i]? = some (o, j)) (hx : x = (adB β ω' o j, cB κ n β ω' e0 tx Y' o j)) (hne : ∀ o' j', (o', j') ∈ PB n → (o', j') ≠ (o, j) → (adB β ω' o' j', cB κ n β ω' e0 tx Y' o' j') = (adB β ω o' j', cB κ n β ω e0 tx Y o' j')) :
    (wsB κ n β ω e0 tx Y ++ R).set i x = wsB κ n β ω' e0 tx Y' ++ R := by
  subst hx
  have hl := (List.getElem?_eq_some_iff.mp hi).1
  rw [List.set_append_left _ _ (by unfold wsB; rw [List.length_map]; exact hl)]
  have k := map_set (f := fun p => (adB β ω p.1 p.2, cB κ n β ω e0 tx Y p.1 p.2)) (f' := fun p => (adB β ω' p.1 p.2, cB κ n β ω' e0 tx Y' p.1 p.2)) (PB_nodup n hn) hi (fun q hq hne2 => hne q.1 q.2 hq hne2)
  unfold wsB
  rw [← k]
theorem fv_ext {c o : Nat} {Y' : St} (h : ∀ q, gI Y' o 0 q = gI Y o 0 q) (k : Nat) : fvB n β ω e0 tx c o Y' k = fvB n β ω e0 tx c o Y k := by
  unfold fvB
  split <;> first | rfl | rw [h]
theorem fv_list {Y' : St} (k : Nat) : fvB n β ω e0 tx 9 0 Y' k = fvB n β ω e0 tx 9 0 Y k := by
  match k with
  | 0 => rfl
  | 1 => rfl
  | k + 2 => rfl
theorem kb_obj {o j c : Nat} (h : kb n o j = some (0, c)) : (j = 0 ∧ (c = 7 ∨ c = 8)) ∨ (o = 0 ∧ j = 4 ∧ c = 9) := by
  match o, j, h with
  | 0, 0, h => cases h; exact Or.inl ⟨rfl, Or.inr rfl⟩
  | 0, 4, h => cases h; exact Or.inr ⟨rfl, rfl, rfl⟩
  | 0, 1, h => cases h
  | 0, 2, h => cases h
  | 0, 3, h => cases h
  | 0, 5, h => exact absurd h (by simp [kb])
  | 0, j + 6, h => exact absurd h (by simp [kb])
  | b + 1, 0, h =>
    simp only [kb] at h
    split at h
    · cases h; exact Or.inl ⟨rfl, Or.inl rfl⟩
    · cases h
  | b + 1, 1, h => exact absurd h (by simp [kb])
  | b + 1, 2, h => exact absurd h (by simp [kb])
  | b + 1, 3, h => exact absurd h (by simp [kb])
  | b + 1, 4, h => exact absurd h (by simp [kb])
  | b + 1, j + 5, h => exact absurd h (by simp [kb])
/-- a number put at (o, j, k) changes the cell (o, j) alone -/
theorem cB_other {o j k : Nat} {v : Int32} : ∀ o' j', (o', j') ≠ (o, j) → cB κ n β ω e0 tx (pI Y o j k v) o' j' = cB κ n β ω e0 tx Y o' j' := by
  intro o' j' h
  have hg : ∀ q, gI (pI Y o j k v) o' j' q = gI Y o' j' q := fun q => by
    rw [gI_pI, if_neg (fun e => h (by rw [e.1, e.2.1]))]
  unfold cB
  cases hk : kb n o' j' with
  | none => rfl
  | some w =>
    obtain ⟨t, m⟩ := w
    match t, hk with
    | 0, hk =>
      rcases kb_obj hk with ⟨rfl, -⟩ | ⟨rfl, rfl, rfl⟩
      · show (Sum.inr (m, List.map (fvB n β ω e0 tx m o' (pI Y o j k v)) (List.range (nfB m))) : va_E) = Sum.inr (m, List.map (fvB n β ω e0 tx m o' Y) (List.range (nfB m)))
        rw [show fvB n β ω e0 tx m o' (pI Y o j k v) = fvB n β ω e0 tx m o' Y from funext fun q => fv_ext hg q]
      · show (Sum.inr (9, List.map (fvB n β ω e0 tx 9 0 (pI Y o j k v)) (List.range (nfB 9))) : va_E) = Sum.inr (9, List.map (fvB n β ω e0 tx 9 0 Y) (List.range (nfB 9)))
        rw [show fvB n β ω e0 tx 9 0 (pI Y o j k v) = fvB n β ω e0 tx 9 0 Y from funext fun q => fv_list q]
    | 7, _ => rfl
    | 8, _ => rfl
    | 1, _ => simp only [hg]
    | 2, _ => simp only [hg]
    | 3, _ => simp only [hg]
    | 4, _ => simp only [hg]
    | 5, _ => simp only [hg]
    | 6, _ => simp only [hg]
    | t + 9, _ => simp only [hg]
theorem cB_obj {o j c : Nat} (h : kb n o j = some (0, c)) : cB κ n β ω e0 tx Y o j = .inr (c, (List.range (nfB c)).map (fvB n β ω e0 tx c o Y)) := by unfold cB; rw [h]; rfl
theorem cB_arr {o j t m : Nat} (h : kb n o j = some (t, m)) (ht : t = 1 ∨ t = 6) : cB κ n β ω e0 tx Y o j = .inl (κ.2.1 t, m, .inl (fun k => gI Y o j k)) := by
  unfold cB; rw [h]
  rcases ht with rfl | rfl <;> rfl
/-- the changed array cell -/
theorem cB_upd {o j t m k : Nat} {v : Int32} (h : kb n o j = some (t, m)) (ht : t = 1 ∨ t = 6) : cB κ n β ω e0 tx (pI Y o j k v) o j = .inl (κ.2.1 t, m, .inl (upd (fun k => gI Y o j k) k v)) := by
  rw [cB_arr h ht]
  have e : (fun q => gI (pI Y o j k v) o j q) = upd (fun q => gI Y o j q) k v := by
    funext q
    unfold upd
    rw [gI_pI]
    by_cases e : q = k
    · subst e; simp
    · simp [e]
  rw [e]
/-- the changed object -/
theorem cB_put {o c k : Nat} {v : Int32} (h : kb n o 0 = some (0, c)) (hk : (c = 8 ∧ k < 7) ∨ (c = 7 ∧ k < 12)) : cB κ n β ω e0 tx (pI Y o 0 k v) o 0 = .inr (c, ((List.range (nfB c)).map (fvB n β ω e0 tx c o Y)).set k (.int v)) := by
  rw [cB_obj h]
  refine congrArg (fun l => (Sum.inr (c, l) : va_E)) (List.ext_getElem? fun q => ?_)
  rw [List.getElem?_set, List.length_map, List.length_range, List.getElem?_map, List.getElem?_map]
  by_cases hq : q < nfB c
  · rw [List.getElem?_range hq, Option.map_some, Option.map_some]
    by_cases e : k = q
    · subst e
      rw [if_pos rfl, if_pos hq]
      refine congrArg some ?_
      have hg : gI (pI Y o 0 k v) o 0 k = v := by rw [gI_pI]; exact if_pos ⟨rfl, rfl, rfl⟩
      rcases hk with ⟨rfl, hk⟩ | ⟨rfl, hk⟩
      · match k, hk, hg with
        | 0, _, hg | 1, _, hg | 2, _, hg | 3, _, hg | 4, _, hg | 5, _, hg | 6, _, hg => exact congrArg Value.int hg
      · match k, hk, hg with
        | 0, _, hg | 1, _, hg | 2, _, hg | 3, _, hg | 4, _, hg | 5, _, hg | 6, _, hg | 7, _, hg | 8, _, hg | 9, _, hg | 10, _, hg | 11, _, hg => exact congrArg Value.int hg
    · rw [if_neg e]
      refine congrArg some ?_
      have hg : gI (pI Y o 0 k v) o 0 q = gI Y o 0 q := by rw [gI_pI]; exact if_neg (fun z => e z.2.2.symm)
      unfold fvB
      split <;> first | rfl | rw [hg]
  · rw [List.getElem?_eq_none (by rw [List.length_range]; omega), Option.map_none, Option.map_none]
    by_cases e : k = q
    · subst e; rw [if_pos rfl, if_neg hq]
    · rw [if_neg e]
end
/-- a new cell takes the place of an old one -/
theorem L_swapin {g : GX} {a b : Nat} {A : va_W} {c : Nat × va_E} {i pc : Nat} {lo : List (Nat × Value)} {st : List Value} (hi : i < A.length) (k : L g a b (A.set i c) pc lo st) : L g a b (c :: A) pc lo st := by
  intro H locs ls hP hS hl
  have tr : ∀ (j : Nat) (x : Nat × va_E), (A.set i c)[j]? = some x → (c :: A)[if j = i then 0 else j + 1]? = some x := by
    intro j x hx
    rw [List.getElem?_set] at hx
    by_cases e : i = j
    · subst e
      rw [if_pos rfl, if_pos hi] at hx
      rw [if_pos rfl]
      exact hx
    · rw [if_neg e] at hx
      rw [if_neg (fun z => e z.symm)]
      exact hx
  refine k H locs ls ⟨fun j x hx => hP.1 _ x (tr j x hx), fun j1 j2 x y hx hy e => ?_, fun j x hx => hP.2.2 _ x (tr j x hx)⟩ hS hl
  have h := hP.2.1 _ _ x y (tr j1 x hx) (tr j2 y hy) e
  by_cases e1 : j1 = i
  · by_cases e2 : j2 = i
    · rw [e1, e2]
    · rw [if_pos e1, if_neg e2] at h; omega
  · by_cases e2 : j2 = i
    · rw [if_neg e1, if_pos e2] at h; omega
    · rw [if_neg e1, if_neg e2] at h; omega
