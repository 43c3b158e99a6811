/-! guards and binds -/
def gd {α : Type} (c : Bool) (x : Option α) : Option α := if c = true then x else none
def bd {α β : Type} (o : Option α) (f : α → Option β) : Option β := match o with
  | none => none
  | some a => f a
theorem gd_some {α : Type} {c : Bool} {x : Option α} {r : α} (h : gd c x = some r) : c = true ∧ x = some r := by
  unfold gd at h
  split at h
  · rename_i e; exact ⟨e, h⟩
  · cases h
theorem gd_t {α : Type} {c : Bool} {x : Option α} (h : c = true) : gd c x = x := if_pos h
theorem bd_some {α β : Type} {o : Option α} {f : α → Option β} {r : β} (h : bd o f = some r) : ∃ a, o = some a ∧ f a = some r := by
  cases o with
  | none => cases h
  | some a => exact ⟨a, rfl, h⟩
def nm {α β : Type} (a : α) (f : α → β) : β := f a
theorem nm_some {α β : Type} {a : α} {f : α → Option β} {r : β} (h : nm a f = some r) : ∃ v, v = a ∧ f v = some r := ⟨a, rfl, h⟩
theorem bd_s {α β : Type} {a : α} {f : α → Option β} : bd (some a) f = f a := rfl
theorem it_t {α : Type} {c : Prop} [Decidable c] {x y : Option α} {r : α} (hc : c) (h : (if c then x else y) = some r) : x = some r := by rw [if_pos hc] at h; exact h
theorem it_f {α : Type} {c : Prop} [Decidable c] {x y : Option α} {r : α} (hc : ¬ c) (h : (if c then x else y) = some r) : y = some r := by rw [if_neg hc] at h; exact h
/-- an index within -/
def inb (i : Int32) (n : Nat) : Bool := decide (0 ≤ i.toInt ∧ i.toInt < n)
theorem inb_vp {i : Int32} {n : Nat} (h : inb i n = true) : vp_in i n := vp_in_iff.mpr (of_decide_eq_true h)
/-- the cell of an index -/
abbrev ix (i : Int32) : Nat := i.toNatClampNeg
theorem inb_lt {i : Int32} {n : Nat} (h : inb i n = true) : ix i < n := by
  have h1 := of_decide_eq_true h
  show i.toInt.toNat < n
  omega
theorem inb_isO {i : Int32} {n : Nat} (hn : n ≤ 8) (h : inb i n = true) : isO (ix i + 1) := by
  have := inb_lt h
  exact ⟨by omega, by omega⟩
def nz (y : Int32) : Bool := !(y == 0)
theorem nz_ne {y : Int32} (h : nz y = true) : ¬ y = 0 := by
  intro e; subst e; cases h
def isb (v : Int32) : Bool := v == 0 || v == 1
theorem isb_n {v : Int32} (h : isb v = true) : narrow .boolean (.int v) = .int v := by
  simp only [isb, Bool.or_eq_true, beq_iff_eq] at h
  rcases h with rfl | rfl <;> rfl
theorem isb_f {v : Int32} (h : isb v = true) : fits .boolean (.int v) = true := h
def ltN (a b : Nat) : Bool := decide (a < b)
section
variable {κ : KX} {T : TT} {r o j k c n : Nat} {x : St}
theorem cE_obj (hk : kd r o j = some (0, c)) (hx : rg T r = x) : cE κ T r o j = .inr (c, (List.range (tgL c).length).map (fv κ.2.2.1 c r o x)) := by
  subst hx; unfold cE; rw [hk]; rfl
theorem cE_i (hk : kd r o j = some (1, n)) (hx : rg T r = x) : cE κ T r o j = .inl (κ.2.1 1, n, .inl (fun k => gI x o j k)) := by
  subst hx; unfold cE; rw [hk]; rfl
theorem cE_b (hk : kd r o j = some (2, n)) (hx : rg T r = x) : cE κ T r o j = .inl (κ.2.1 2, n, .inl (fun k => gI x o j k)) := by
  subst hx; unfold cE; rw [hk]; rfl
theorem cE_l (hk : kd r o j = some (3, n)) (hx : rg T r = x) : cE κ T r o j = .inl (κ.2.1 3, n, .inr (.inl (fun k => gL x o j k))) := by
  subst hx; unfold cE; rw [hk]; rfl
theorem cE_q (hk : kd r o j = some (4, n)) : cE κ T r o j = .inl (κ.2.1 4, n, .inr (.inr (.inr (.inr (fun k => some (κ.2.2.1 r (k + 1) 0)))))) := by
  unfold cE; rw [hk]; rfl
theorem cE_p (hk : kd r o j = some (5, n)) (hx : rg T r = x) : cE κ T r o j = .inl (κ.2.1 5, n, .inr (.inr (.inr (.inr (fun k => some (κ.2.2.1 ((gI x o j k).toNatClampNeg + 11) 0 0)))))) := by
  subst hx; unfold cE; rw [hk]; rfl
theorem fl_at {N : Nat} {f : Nat → Value} (h : k < N) : ((List.range N).map f)[k]? = some (f k) := by
  rw [List.getElem?_map, List.getElem?_range h]; rfl
theorem fl_set {N : Nat} {f f' : Nat → Value} {v : Value} (h : ∀ i, i < N → f' i = if i = k then v else f i) : ((List.range N).map f).set k v = (List.range N).map f' := by
  refine List.ext_getElem? fun i => ?_
  rw [List.getElem?_set, List.getElem?_map, List.length_map, List.length_range, List.getElem?_map]
  by_cases hi : i < N
  · rw [List.getElem?_range hi, Option.map_some, Option.map_some, h i hi]
    by_cases e : k = i
    · subst e; rw [if_pos rfl, if_pos rfl, if_pos hi]
    · rw [if_neg e, if_neg (fun q => e q.symm)]
  · have hn : (List.range N)[i]? = none := List.getElem?_eq_none (by rw [List.length_range]; omega)
    rw [hn, Option.map_none, Option.map_none]
    by_cases e : k = i
    · subst e; rw [if_pos rfl, if_neg hi]
    · rw [if_neg e]
theorem fv_pI (ad : ADt) {v : Int32} (h : tg c k = 0) (i : Nat) : fv ad c r o (pI x o 0 k v) i = if i = k then .int v else fv ad c r o x i := by
  by_cases e : i = k
  · subst e
    rw [if_pos rfl]
    unfold fv
    rw [h]
    show Value.int (gI (pI x o 0 i v) o 0 i) = _
    rw [gI_pI, if_pos ⟨rfl, rfl, rfl⟩]
  · rw [if_neg e]
    unfold fv
    split
    · rw [gI_pI, if_neg (fun q => e q.2.2)]
    · rfl
    · rfl
theorem fv_pL (ad : ADt) {v : Int64} (h : tg c k = 1) (i : Nat) : fv ad c r o (pL x o 0 k v) i = if i = k then .long v else fv ad c r o x i := by
  by_cases e : i = k
  · subst e
    rw [if_pos rfl]
    unfold fv
    rw [h]
    show Value.long (gL (pL x o 0 i v) o 0 i) = _
    rw [gL_pL, if_pos ⟨rfl, rfl, rfl⟩]
  · rw [if_neg e]
    unfold fv
    split
    · rfl
    · rw [gL_pL, if_neg (fun q => e q.2.2)]
    · rfl
theorem cE_rs_pI (hx : rg T r = x) (v : Int32) : ∀ r' o' j', (r', o', j') ≠ (r, o, j) → cE κ (rs T r (pI x o j k v)) r' o' j' = cE κ T r' o' j' := by
  refine cE_other (fun q hq => rg_rs_ne T _ hq) (fun a b i h => ?_) (fun a b i h => ?_)
  · rw [rg_rs, gI_pI, if_neg (fun e => h (by rw [e.1, e.2.1])), hx]
  · rw [rg_rs, gL_pI, hx]
theorem cE_rs_pL (hx : rg T r = x) (v : Int64) : ∀ r' o' j', (r', o', j') ≠ (r, o, j) → cE κ (rs T r (pL x o j k v)) r' o' j' = cE κ T r' o' j' := by
  refine cE_other (fun q hq => rg_rs_ne T _ hq) (fun a b i h => ?_) (fun a b i h => ?_)
  · rw [rg_rs, gI_pL, hx]
  · rw [rg_rs, gL_pL, if_neg (fun e => h (by rw [e.1, e.2.1])), hx]
end
section
variable {g : GX} {a b : Nat} {T : TT} {pc : Nat} {lo : List (Nat × Value)} {st : List Value} {own : String} {cc : ByteArray} {nL FR LO : Nat}
theorem G_get (X : CX g own cc nL FR LO) {ref C : String} {Tf : u_T} {N c index k r o : Nat} {x : St} {v : Value} (hc : vwCl[c]? = some (C, Tf, N)) (hin : ∀ w ∈ u_ws C Tf N, w ∈ WG) (hN : (tgL c).length = N) (hk : k < N) (href : (Tf k).1 = ref) (hw : Cond.fieldLink own index ref (Tf k).2.1 (Tf k).2.2.1 ∈ WG)
    (hkd : kd r o 0 = some (0, c)) (hx : rg T r = x) (hv : fv (xE (gκ g)) c r o x k = v) (hd : decode cc pc = .ok (.getfield index, 3)) (kk : G g a b T (pc + 3) lo (v :: st)) : G g a b T pc lo (.ref (xE (gκ g) r o 0) :: st) := by
  intro H locs ls hP hS hl
  obtain ⟨i, hi, he⟩ := wsO_at (gκ g) T hkd
  rw [cE_obj hkd hx, hN] at he
  exact va_get X.1 X.2.1 X.2.2.2.2.1 hin X.2.2.2.1 X.2.2.2.2.2.1.1 hP i he hc k hk (X.2.2.2.2.1 _ hw) (fun _ h => by rw [← href]; exact h) (by rw [fl_at hk, hv]) hd (kk H locs ls hP hS hl)
theorem G_getN (X : CX g own cc nL FR LO) {ref C host : String} {Tf : u_T} {N c index k r o : Nat} {x : St} {v : Value} (hc : vwCl[c]? = some (C, Tf, N)) (hin : ∀ w ∈ u_ws C Tf N, w ∈ WG) (hN : (tgL c).length = N) (hk : k < N) (href : (Tf k).1 = ref) (hw : Cond.fieldLinkNest own index ref (Tf k).2.1 (Tf k).2.2.1 host ∈ NW)
    (hkd : kd r o 0 = some (0, c)) (hx : rg T r = x) (hv : fv (xE (gκ g)) c r o x k = v) (hd : decode cc pc = .ok (.getfield index, 3)) (kk : G g a b T (pc + 3) lo (v :: st)) : G g a b T pc lo (.ref (xE (gκ g) r o 0) :: st) := by
  intro H locs ls hP hS hl
  obtain ⟨i, hi, he⟩ := wsO_at (gκ g) T hkd
  rw [cE_obj hkd hx, hN] at he
  exact va_getN X.1 X.2.1 X.2.2.2.2.1 hin X.2.2.2.1 X.2.2.2.2.2.1.1 hP i he hc k hk (va_Nw.use rfl (X.2.2.2.2.2.1.2.1 _ hw)) (fun _ h => by rw [← href]; exact h) (by rw [fl_at hk, hv]) hd (kk H locs ls hP hS hl)
/-- what a put of an int leaves -/
theorem put_int {κ : KX} {r o c k i : Nat} {x : St} {v : Int32} {T' : TT} (hkd : kd r o 0 = some (0, c)) (hx : rg T r = x) (htg : tg c k = 0) (hi : PL[i]? = some (r, o, 0)) (hT : rs T r (pI x o 0 k v) = T') :
    (wsO κ T).set i (κ.2.2.1 r o 0, .inr (c, ((List.range (tgL c).length).map (fv κ.2.2.1 c r o x)).set k (.int v))) = wsO κ T' := by
  subst hT
  refine wsO_set hi ?_ (cE_rs_pI hx v)
  rw [cE_obj hkd (rg_rs T r _)]
  rw [fl_set (f' := fv κ.2.2.1 c r o (pI x o 0 k v)) (fun i _ => fv_pI _ htg i)]
theorem put_long {κ : KX} {r o c k i : Nat} {x : St} {v : Int64} {T' : TT} (hkd : kd r o 0 = some (0, c)) (hx : rg T r = x) (htg : tg c k = 1) (hi : PL[i]? = some (r, o, 0)) (hT : rs T r (pL x o 0 k v) = T') :
    (wsO κ T).set i (κ.2.2.1 r o 0, .inr (c, ((List.range (tgL c).length).map (fv κ.2.2.1 c r o x)).set k (.long v))) = wsO κ T' := by
  subst hT
  refine wsO_set hi ?_ (cE_rs_pL hx v)
  rw [cE_obj hkd (rg_rs T r _)]
  rw [fl_set (f' := fv κ.2.2.1 c r o (pL x o 0 k v)) (fun i _ => fv_pL _ htg i)]
theorem G_puti (X : CX g own cc nL FR LO) {ref C : String} {Tf : u_T} {N c index k r o : Nat} {x : St} {v : Int32} {ty : FieldType} {ty0 : Nat → FieldType} {T' : TT} (hc : vwCl[c]? = some (C, Tf, N)) (hin : ∀ w ∈ u_ws C Tf N, w ∈ WG) (hty : ∀ k, k < N → parseFieldDescriptor (Tf k).2.2.1 = some (ty0 k)) (hnm : ∀ a, a < N → ∀ b, b < N → a ≠ b → (Tf a).2.1 ≠ (Tf b).2.1) (hN : (tgL c).length = N) (hk : k < N) (href : (Tf k).1 = ref) (hfin : (Tf k).2.2.2 = false) (hd' : parseFieldDescriptor (Tf k).2.2.1 = some ty) (htg : tg c k = 0) (hw : Cond.fieldLink own index ref (Tf k).2.1 (Tf k).2.2.1 ∈ WG)
    (hkd : kd r o 0 = some (0, c)) (hx : rg T r = x) (hn : narrow ty (.int v) = .int v) (hf : fits ty (.int v) = true) (hT : rs T r (pI x o 0 k v) = T') (hd : decode cc pc = .ok (.putfield index, 3)) (kk : G g a b T' (pc + 3) lo st) : G g a b T pc lo (.int v :: .ref (xE (gκ g) r o 0) :: st) := by
  intro H locs ls hP hS hl
  obtain ⟨i, hi, he⟩ := wsO_at (gκ g) T hkd
  rw [cE_obj hkd hx] at he
  refine va_put X.1 X.2.1 X.2.2.2.2.1 hin ty0 hty hnm X.2.2.2.1 X.2.2.2.2.2.1.1 hP (X.2.2.2.2.2.2.1.D T) hS i he hc k hk (X.2.2.2.2.1 _ hw) (fun _ h => by rw [← href]; exact h) hfin hd' hn hf (by rw [List.length_map, List.length_range, hN]; exact hk) hd (fun H1 locs1 hP1 _ hS1 => ?_)
  rw [put_int hkd hx htg hi hT] at hP1
  exact kk H1 locs1 ls hP1 hS1 hl
theorem G_putiN (X : CX g own cc nL FR LO) {ref C host : String} {Tf : u_T} {N c index k r o : Nat} {x : St} {v : Int32} {ty : FieldType} {ty0 : Nat → FieldType} {T' : TT} (hc : vwCl[c]? = some (C, Tf, N)) (hin : ∀ w ∈ u_ws C Tf N, w ∈ WG) (hty : ∀ k, k < N → parseFieldDescriptor (Tf k).2.2.1 = some (ty0 k)) (hnm : ∀ a, a < N → ∀ b, b < N → a ≠ b → (Tf a).2.1 ≠ (Tf b).2.1) (hN : (tgL c).length = N) (hk : k < N) (href : (Tf k).1 = ref) (hfin : (Tf k).2.2.2 = false) (hd' : parseFieldDescriptor (Tf k).2.2.1 = some ty) (htg : tg c k = 0) (hw : Cond.fieldLinkNest own index ref (Tf k).2.1 (Tf k).2.2.1 host ∈ NW)
    (hkd : kd r o 0 = some (0, c)) (hx : rg T r = x) (hn : narrow ty (.int v) = .int v) (hf : fits ty (.int v) = true) (hT : rs T r (pI x o 0 k v) = T') (hd : decode cc pc = .ok (.putfield index, 3)) (kk : G g a b T' (pc + 3) lo st) : G g a b T pc lo (.int v :: .ref (xE (gκ g) r o 0) :: st) := by
  intro H locs ls hP hS hl
  obtain ⟨i, hi, he⟩ := wsO_at (gκ g) T hkd
  rw [cE_obj hkd hx] at he
  refine va_putN X.1 X.2.1 X.2.2.2.2.1 hin ty0 hty hnm X.2.2.2.1 X.2.2.2.2.2.1.1 hP (X.2.2.2.2.2.2.1.D T) hS i he hc k hk (va_Nw.use rfl (X.2.2.2.2.2.1.2.1 _ hw)) (fun _ h => by rw [← href]; exact h) hfin hd' hn hf (by rw [List.length_map, List.length_range, hN]; exact hk) hd (fun H1 locs1 hP1 _ hS1 => ?_)
  rw [put_int hkd hx htg hi hT] at hP1
  exact kk H1 locs1 ls hP1 hS1 hl
theorem G_putl (X : CX g own cc nL FR LO) {ref C : String} {Tf : u_T} {N c index k r o : Nat} {x : St} {v : Int64} {ty0 : Nat → FieldType} {T' : TT} (hc : vwCl[c]? = some (C, Tf, N)) (hin : ∀ w ∈ u_ws C Tf N, w ∈ WG) (hty : ∀ k, k < N → parseFieldDescriptor (Tf k).2.2.1 = some (ty0 k)) (hnm : ∀ a, a < N → ∀ b, b < N → a ≠ b → (Tf a).2.1 ≠ (Tf b).2.1) (hN : (tgL c).length = N) (hk : k < N) (href : (Tf k).1 = ref) (hfin : (Tf k).2.2.2 = false) (hd' : parseFieldDescriptor (Tf k).2.2.1 = some .long) (htg : tg c k = 1) (hw : Cond.fieldLink own index ref (Tf k).2.1 (Tf k).2.2.1 ∈ WG)
    (hkd : kd r o 0 = some (0, c)) (hx : rg T r = x) (hT : rs T r (pL x o 0 k v) = T') (hd : decode cc pc = .ok (.putfield index, 3)) (kk : G g a b T' (pc + 3) lo st) : G g a b T pc lo (.long v :: .ref (xE (gκ g) r o 0) :: st) := by
  intro H locs ls hP hS hl
  obtain ⟨i, hi, he⟩ := wsO_at (gκ g) T hkd
  rw [cE_obj hkd hx] at he
  refine va_put X.1 X.2.1 X.2.2.2.2.1 hin ty0 hty hnm X.2.2.2.1 X.2.2.2.2.2.1.1 hP (X.2.2.2.2.2.2.1.D T) hS i he hc k hk (X.2.2.2.2.1 _ hw) (fun _ h => by rw [← href]; exact h) hfin hd' rfl rfl (by rw [List.length_map, List.length_range, hN]; exact hk) hd (fun H1 locs1 hP1 _ hS1 => ?_)
  rw [put_long hkd hx htg hi hT] at hP1
  exact kk H1 locs1 ls hP1 hS1 hl
theorem G_iald (X : CX g own cc nL FR LO) {r o j n : Nat} {x : St} {i : Int32} (hkd : kd r o j = some (1, n)) (hx : rg T r = x) (hi : inb i n = true) (hd : decode cc pc = .ok (.iaload, 1)) (kk : G g a b T (pc + 1) lo (.int (gI x o j (ix i)) :: st)) : G g a b T pc lo (.int i :: .ref (xE (gκ g) r o j) :: st) := by
  intro H locs ls hP hS hl
  obtain ⟨q, hq, he⟩ := wsO_at (gκ g) T hkd
  rw [cE_i hkd hx] at he
  exact va_iald X.1 X.2.1 X.2.2.2.2.2.1.1 hP q 0 he rfl (inb_vp hi) hd (kk H locs ls hP hS hl)
theorem G_bald (X : CX g own cc nL FR LO) {r o j n : Nat} {x : St} {i : Int32} (hkd : kd r o j = some (2, n)) (hx : rg T r = x) (hi : inb i n = true) (hd : decode cc pc = .ok (.baload, 1)) (kk : G g a b T (pc + 1) lo (.int (gI x o j (ix i)) :: st)) : G g a b T pc lo (.int i :: .ref (xE (gκ g) r o j) :: st) := by
  intro H locs ls hP hS hl
  obtain ⟨q, hq, he⟩ := wsO_at (gκ g) T hkd
  rw [cE_b hkd hx] at he
  exact va_bald X.1 X.2.1 X.2.2.2.2.2.1.1 hP q 1 he rfl (inb_vp hi) hd (kk H locs ls hP hS hl)
theorem G_lald (X : CX g own cc nL FR LO) {r o j n : Nat} {x : St} {i : Int32} (hkd : kd r o j = some (3, n)) (hx : rg T r = x) (hi : inb i n = true) (hd : decode cc pc = .ok (.laload, 1)) (kk : G g a b T (pc + 1) lo (.long (gL x o j (ix i)) :: st)) : G g a b T pc lo (.int i :: .ref (xE (gκ g) r o j) :: st) := by
  intro H locs ls hP hS hl
  obtain ⟨q, hq, he⟩ := wsO_at (gκ g) T hkd
  rw [cE_l hkd hx] at he
  exact va_lald X.1 X.2.1 X.2.2.2.2.2.1.1 hP q 2 he rfl (inb_vp hi) hd (kk H locs ls hP hS hl)
theorem G_aaldB (X : CX g own cc nL FR LO) {r o j n : Nat} {i : Int32} (hkd : kd r o j = some (4, n)) (hi : inb i n = true) (hd : decode cc pc = .ok (.aaload, 1)) (kk : G g a b T (pc + 1) lo (.ref (xE (gκ g) r (ix i + 1) 0) :: st)) : G g a b T pc lo (.int i :: .ref (xE (gκ g) r o j) :: st) := by
  intro H locs ls hP hS hl
  obtain ⟨q, hq, he⟩ := wsO_at (gκ g) T hkd
  rw [cE_q hkd] at he
  exact va_aldq X.1 X.2.1 X.2.2.2.2.2.1.1 hP q 3 he rfl (inb_vp hi) hd (kk H locs ls hP hS hl)
theorem G_aaldW (X : CX g own cc nL FR LO) {r o j n : Nat} {x : St} {i : Int32} (hkd : kd r o j = some (5, n)) (hx : rg T r = x) (hi : inb i n = true) (hd : decode cc pc = .ok (.aaload, 1)) (kk : G g a b T (pc + 1) lo (.ref (xE (gκ g) (ix (gI x o j (ix i)) + 11) 0 0) :: st)) : G g a b T pc lo (.int i :: .ref (xE (gκ g) r o j) :: st) := by
  intro H locs ls hP hS hl
  obtain ⟨q, hq, he⟩ := wsO_at (gκ g) T hkd
  rw [cE_p hkd hx] at he
  exact va_aldq X.1 X.2.1 X.2.2.2.2.2.1.1 hP q 4 he rfl (inb_vp hi) hd (kk H locs ls hP hS hl)
theorem arr_int {κ : KX} {r o j k i n : Nat} {x : St} {v : Int32} {T' : TT} (hkd : kd r o j = some (1, n)) (hx : rg T r = x) (hi : PL[i]? = some (r, o, j)) (hT : rs T r (pI x o j k v) = T') :
    (wsO κ T).set i (κ.2.2.1 r o j, .inl (κ.2.1 1, n, .inl (upd (fun k => gI x o j k) k v))) = wsO κ T' := by
  subst hT
  refine wsO_set hi ?_ (cE_rs_pI hx v)
  rw [cE_i hkd (rg_rs T r _)]
  rw [show (fun q => gI (pI x o j k v) o j q) = upd (fun q => gI x o j q) k v from funext fun q => by
    rw [gI_pI]; unfold upd; by_cases e : q = k <;> simp [e]]
theorem arr_byte {κ : KX} {r o j k i n : Nat} {x : St} {v : Int32} {T' : TT} (hkd : kd r o j = some (2, n)) (hx : rg T r = x) (hi : PL[i]? = some (r, o, j)) (hT : rs T r (pI x o j k v) = T') :
    (wsO κ T).set i (κ.2.2.1 r o j, .inl (κ.2.1 2, n, .inl (upd (fun k => gI x o j k) k v))) = wsO κ T' := by
  subst hT
  refine wsO_set hi ?_ (cE_rs_pI hx v)
  rw [cE_b hkd (rg_rs T r _)]
  rw [show (fun q => gI (pI x o j k v) o j q) = upd (fun q => gI x o j q) k v from funext fun q => by
    rw [gI_pI]; unfold upd; by_cases e : q = k <;> simp [e]]
theorem arr_long {κ : KX} {r o j k i n : Nat} {x : St} {v : Int64} {T' : TT} (hkd : kd r o j = some (3, n)) (hx : rg T r = x) (hi : PL[i]? = some (r, o, j)) (hT : rs T r (pL x o j k v) = T') :
    (wsO κ T).set i (κ.2.2.1 r o j, .inl (κ.2.1 3, n, .inr (.inl (vp_updL (fun k => gL x o j k) k v)))) = wsO κ T' := by
  subst hT
  refine wsO_set hi ?_ (cE_rs_pL hx v)
  rw [cE_l hkd (rg_rs T r _)]
  rw [show (fun q => gL (pL x o j k v) o j q) = vp_updL (fun q => gL x o j q) k v from funext fun q => by
    rw [gL_pL]; unfold vp_updL; by_cases e : q = k <;> simp [e]]
theorem G_iast (X : CX g own cc nL FR LO) {r o j n : Nat} {x : St} {i v : Int32} {T' : TT} (hkd : kd r o j = some (1, n)) (hx : rg T r = x) (hi : inb i n = true) (hT : rs T r (pI x o j (ix i) v) = T') (hd : decode cc pc = .ok (.iastore, 1)) (kk : G g a b T' (pc + 1) lo st) : G g a b T pc lo (.int v :: .int i :: .ref (xE (gκ g) r o j) :: st) := by
  intro H locs ls hP hS hl
  obtain ⟨q, hq, he⟩ := wsO_at (gκ g) T hkd
  rw [cE_i hkd hx] at he
  refine va_iast X.1 X.2.1 X.2.2.2.2.2.1.1 hP (X.2.2.2.2.2.2.1.D T) hS q 0 he rfl (inb_vp hi) hd (fun H1 locs1 hP1 _ hS1 => ?_)
  rw [arr_int hkd hx hq hT] at hP1
  exact kk H1 locs1 ls hP1 hS1 hl
theorem G_bast (X : CX g own cc nL FR LO) {r o j n : Nat} {x : St} {i v : Int32} {T' : TT} (hkd : kd r o j = some (2, n)) (hx : rg T r = x) (hi : inb i n = true) (hT : rs T r (pI x o j (ix i) v.toInt8.toInt32) = T') (hd : decode cc pc = .ok (.bastore, 1)) (kk : G g a b T' (pc + 1) lo st) : G g a b T pc lo (.int v :: .int i :: .ref (xE (gκ g) r o j) :: st) := by
  intro H locs ls hP hS hl
  obtain ⟨q, hq, he⟩ := wsO_at (gκ g) T hkd
  rw [cE_b hkd hx] at he
  refine va_bast X.1 X.2.1 X.2.2.2.2.2.1.1 hP (X.2.2.2.2.2.2.1.D T) hS q 1 he rfl (inb_vp hi) hd (fun H1 locs1 hP1 _ hS1 => ?_)
  rw [vp_nar_byte, arr_byte hkd hx hq hT] at hP1
  exact kk H1 locs1 ls hP1 hS1 hl
theorem G_last (X : CX g own cc nL FR LO) {r o j n : Nat} {x : St} {i : Int32} {v : Int64} {T' : TT} (hkd : kd r o j = some (3, n)) (hx : rg T r = x) (hi : inb i n = true) (hT : rs T r (pL x o j (ix i) v) = T') (hd : decode cc pc = .ok (.lastore, 1)) (kk : G g a b T' (pc + 1) lo st) : G g a b T pc lo (.long v :: .int i :: .ref (xE (gκ g) r o j) :: st) := by
  intro H locs ls hP hS hl
  obtain ⟨q, hq, he⟩ := wsO_at (gκ g) T hkd
  rw [cE_l hkd hx] at he
  refine va_last X.1 X.2.1 X.2.2.2.2.2.1.1 hP (X.2.2.2.2.2.2.1.D T) hS q 2 he rfl (inb_vp hi) hd (fun H1 locs1 hP1 _ hS1 => ?_)
  rw [arr_long hkd hx hq hT] at hP1
  exact kk H1 locs1 ls hP1 hS1 hl
/-- a place of 'past': the world p + 11 -/
theorem G_aastW (X : CX g own cc nL FR LO) {r o j n p : Nat} {x : St} {i : Int32} {T' : TT} (hkd : kd r o j = some (5, n)) (hx : rg T r = x) (hp : p < 6) (hi : inb i n = true) (hT : rs T r (pI x o j (ix i) (nI p)) = T') (hd : decode cc pc = .ok (.aastore, 1)) (kk : G g a b T' (pc + 1) lo st) : G g a b T pc lo (.ref (xE (gκ g) (p + 11) 0 0) :: .int i :: .ref (xE (gκ g) r o j) :: st) := by
  intro H locs ls hP hS hl
  obtain ⟨q, hq, he⟩ := wsO_at (gκ g) T hkd
  have hkw : kd (p + 11) 0 0 = some (0, 5) := kd_w0 (Or.inr ⟨by omega, by omega⟩)
  obtain ⟨q2, hq2, he2⟩ := wsO_at (gκ g) T hkw
  rw [cE_p hkd hx] at he
  rw [cE_obj hkw rfl] at he2
  refine va_astq X.1 X.2.1 X.2.2.2.2.2.1.1 hP (X.2.2.2.2.2.2.1.D T) hS q 4 q2 5 (r := (RX5, TX5, 11)) he rfl he2 rfl (inb_vp hi) hd (fun H1 locs1 hP1 _ hS1 => ?_)
  have e : (wsO (gκ g) T).set q ((gκ g).2.2.1 r o j, .inl ((gκ g).2.1 5, n, .inr (.inr (.inr (.inr (va_up (fun k => some ((gκ g).2.2.1 ((gI x o j k).toNatClampNeg + 11) 0 0)) (ix i) (some ((gκ g).2.2.1 (p + 11) 0 0)))))))) = wsO (gκ g) T' := by
    subst hT
    refine wsO_set hq ?_ (cE_rs_pI hx _)
    rw [cE_p hkd (rg_rs T r _)]
    rw [show (fun q => some ((gκ g).2.2.1 ((gI (pI x o j (ix i) (nI p)) o j q).toNatClampNeg + 11) 0 0)) = va_up (fun k => some ((gκ g).2.2.1 ((gI x o j k).toNatClampNeg + 11) 0 0)) (ix i) (some ((gκ g).2.2.1 (p + 11) 0 0)) from funext fun q => by
      rw [gI_pI]; unfold va_up; by_cases e : q = ix i
      · rw [if_pos ⟨rfl, rfl, e⟩, if_pos e, nI_clamp (by omega)]
      · rw [if_neg (fun h => e h.2.2), if_neg e]]
  rw [e] at hP1
  exact kk H1 locs1 ls hP1 hS1 hl
theorem G_alen (X : CX g own cc nL FR LO) {r o j n t : Nat} {v : Int32} (hkd : kd r o j = some (t + 1, n)) (ht : t < 3) (hv : nI n = v) (hd : decode cc pc = .ok (.arraylength, 1)) (kk : G g a b T (pc + 1) lo (.int v :: st)) : G g a b T pc lo (.ref (xE (gκ g) r o j) :: st) := by
  intro H locs ls hP hS hl
  obtain ⟨q, hq, he⟩ := wsO_at (gκ g) T hkd
  rcases (by omega : t = 0 ∨ t = 1 ∨ t = 2) with rfl | rfl | rfl
  · rw [cE_i hkd rfl] at he
    exact va_alen X.1 X.2.1 X.2.2.2.2.2.1.1 hP q 0 he rfl hv hd (kk H locs ls hP hS hl)
  · rw [cE_b hkd rfl] at he
    exact va_alen X.1 X.2.1 X.2.2.2.2.2.1.1 hP q 1 he rfl hv hd (kk H locs ls hP hS hl)
  · rw [cE_l hkd rfl] at he
    exact va_alen X.1 X.2.1 X.2.2.2.2.2.1.1 hP q 2 he rfl hv hd (kk H locs ls hP hS hl)
end
