/-! rows of the walk over the law's world -/
theorem kb_b0 {n b : Nat} (h : b < n) : kb n (b + 1) 0 = some (0, 7) := if_pos h
theorem kb_b1 {n b : Nat} (h : b < n) : kb n (b + 1) 1 = some (1, 4) := if_pos h
theorem kb_b2 {n b : Nat} (h : b < n) : kb n (b + 1) 2 = some (1, 8) := if_pos h
theorem kb_b3 {n b : Nat} (h : b < n) : kb n (b + 1) 3 = some (1, 8) := if_pos h
theorem kb_b4 {n b : Nat} (h : b < n) : kb n (b + 1) 4 = some (1, 8) := if_pos h
theorem kb_r {n k : Nat} (h : k < 8) : kb n 0 (k + 6) = some (6, 8) := if_pos h
theorem kb_l {n : Nat} (h : 0 < n) : kb n 0 5 = some (8, 10) := if_pos h
theorem ix_lt {i : Int32} {n : Nat} (h : inb i n = true) : ix i < n := inb_lt h
theorem inb_pos {i : Int32} {n : Nat} (h : inb i n = true) : 0 < n := Nat.lt_of_le_of_lt (Nat.zero_le _) (inb_lt h)
theorem inb_nn {i : Int32} {n : Nat} (h : inb i n = true) : ¬ i < 0 := fun e => inb_vp h (Or.inl e)
theorem inb_li {i : Int32} {n : Nat} (hn : n < 9) (h : inb i n = true) : i < nI n := by
  have h1 := of_decide_eq_true h
  rw [Int32.lt_iff_toInt_lt, nI_toInt (by omega)]
  omega
theorem inb_mono {i : Int32} {n m : Nat} (h : inb i n = true) (hm : n ≤ m) : inb i m = true := by
  have h1 := of_decide_eq_true h
  exact decide_eq_true (by omega)
def zR (Y : St) (o j : Nat) : St := (fun a b c => if a = o ∧ b = j then 0 else Y.1 a b c, Y.2)
section
variable {g : GX} {ξ : XI} {a b n : Nat} {β : Nat → Nat → Nat} {ω : Nat → Nat} {e0 tx : Nat} {Y : St} {R : va_W} {pc : Nat} {lo : List (Nat × Value)} {st : List Value} {own : String} {cc : ByteArray} {nL FR LO RC RS : Nat}
theorem B_get (X : CL g own cc nL FR LO RC RS) (hn : n < 9) {C : String} {Tf : u_T} {N c index k o j x : Nat} {v : Value} (hkb : kb n o j = some (0, c)) (hx : adB β ω o j = x) (hc : vwCl[c]? = some (C, Tf, N)) (hin : ∀ w ∈ u_ws C Tf N, w ∈ WG) (hN : nfB c = N) (hk : k < N) (href : (Tf k).1 = C) (hw : Cond.fieldLink own index C (Tf k).2.1 (Tf k).2.2.1 ∈ WG) (hv : fvB n β ω e0 tx c o Y k = v) (hd : decode cc pc = .ok (.getfield index, 3)) (kk : L g a b (wsB (gκ g) n β ω e0 tx Y ++ R) (pc + 3) lo (v :: st)) : L g a b (wsB (gκ g) n β ω e0 tx Y ++ R) pc lo (.ref x :: st) := by
  obtain ⟨i, hi, he⟩ := wsB_at (κ := gκ g) (β := β) (ω := ω) (e0 := e0) (tx := tx) (Y := Y) (R := R) hn hkb
  rw [cB_obj hkb, hx] at he
  refine L_get X hc hin hk href hw i he ?_ hd kk
  rw [List.getElem?_map, List.getElem?_range (by rw [hN]; exact hk), Option.map_some, hv]
theorem B_put (X : CL g own cc nL FR LO RC RS) (hn : n < 9) {C : String} {Tf : u_T} {N c index k o x : Nat} {v : Int32} {Y' : St} {ty : FieldType} {ty0 : Nat → FieldType} (hkb : kb n o 0 = some (0, c)) (hx : adB β ω o 0 = x) (hc : vwCl[c]? = some (C, Tf, N)) (hin : ∀ w ∈ u_ws C Tf N, w ∈ WG) (hty : ∀ k, k < N → parseFieldDescriptor (Tf k).2.2.1 = some (ty0 k)) (hnm : ∀ a, a < N → ∀ b, b < N → a ≠ b → (Tf a).2.1 ≠ (Tf b).2.1) (hN : nfB c = N) (hk : k < N) (hk2 : (c = 8 ∧ k < 7) ∨ (c = 7 ∧ k < 12)) (href : (Tf k).1 = C) (hfin : (Tf k).2.2.2 = false) (hd' : parseFieldDescriptor (Tf k).2.2.1 = some ty) (hw : Cond.fieldLink own index C (Tf k).2.1 (Tf k).2.2.1 ∈ WG) (hnr : narrow ty (.int v) = .int v) (hft : fits ty (.int v) = true) (hY : pI Y o 0 k v = Y') (hd : decode cc pc = .ok (.putfield index, 3)) (kk : L g a b (wsB (gκ g) n β ω e0 tx Y' ++ R) (pc + 3) lo st) : L g a b (wsB (gκ g) n β ω e0 tx Y ++ R) pc lo (.int v :: .ref x :: st) := by
  obtain ⟨i, hi, he⟩ := wsB_at (κ := gκ g) (β := β) (ω := ω) (e0 := e0) (tx := tx) (Y := Y) (R := R) hn hkb
  rw [cB_obj hkb, hx] at he
  subst hY
  refine L_put X hc hin hty hnm hk href hfin hd' hw i he hnr hft (by rw [List.length_map, List.length_range, hN]; exact hk) ?_ hd kk
  refine wsB_set hn hi (by rw [cB_put hkb hk2, hx]) (fun o' j' _ h2 => ?_)
  rw [cB_other o' j' h2]
theorem B_iald (X : CL g own cc nL FR LO RC RS) (hn : n < 9) {o j m x : Nat} {i : Int32} (hkb : kb n o j = some (1, m)) (hx : adB β ω o j = x) (hi : inb i m = true) (hd : decode cc pc = .ok (.iaload, 1)) (kk : L g a b (wsB (gκ g) n β ω e0 tx Y ++ R) (pc + 1) lo (.int (gI Y o j (ix i)) :: st)) : L g a b (wsB (gκ g) n β ω e0 tx Y ++ R) pc lo (.int i :: .ref x :: st) := by
  obtain ⟨q, hq, he⟩ := wsB_at (κ := gκ g) (β := β) (ω := ω) (e0 := e0) (tx := tx) (Y := Y) (R := R) hn hkb
  rw [cB_arr hkb (Or.inl rfl), hx] at he
  exact L_iald X q he hi hd kk
theorem B_zald (X : CL g own cc nL FR LO RC RS) (hn : n < 9) {o j m x : Nat} {i : Int32} (hkb : kb n o j = some (6, m)) (hx : adB β ω o j = x) (hi : inb i m = true) (hd : decode cc pc = .ok (.baload, 1)) (kk : L g a b (wsB (gκ g) n β ω e0 tx Y ++ R) (pc + 1) lo (.int (gI Y o j (ix i)) :: st)) : L g a b (wsB (gκ g) n β ω e0 tx Y ++ R) pc lo (.int i :: .ref x :: st) := by
  obtain ⟨q, hq, he⟩ := wsB_at (κ := gκ g) (β := β) (ω := ω) (e0 := e0) (tx := tx) (Y := Y) (R := R) hn hkb
  rw [cB_arr hkb (Or.inr rfl), hx] at he
  exact L_zald X q he hi hd kk
theorem B_iast (X : CL g own cc nL FR LO RC RS) (hn : n < 9) {o j m x : Nat} {i v : Int32} {Y' : St} (hkb : kb n o j = some (1, m)) (hx : adB β ω o j = x) (hi : inb i m = true) (hY : pI Y o j (ix i) v = Y') (hd : decode cc pc = .ok (.iastore, 1)) (kk : L g a b (wsB (gκ g) n β ω e0 tx Y' ++ R) (pc + 1) lo st) : L g a b (wsB (gκ g) n β ω e0 tx Y ++ R) pc lo (.int v :: .int i :: .ref x :: st) := by
  obtain ⟨q, hq, he⟩ := wsB_at (κ := gκ g) (β := β) (ω := ω) (e0 := e0) (tx := tx) (Y := Y) (R := R) hn hkb
  rw [cB_arr hkb (Or.inl rfl), hx] at he
  subst hY
  refine L_iast X q he hi ?_ hd kk
  exact wsB_set hn hq (by rw [cB_upd hkb (Or.inl rfl), hx]) (fun o' j' _ h2 => by rw [cB_other o' j' h2])
theorem B_zast (X : CL g own cc nL FR LO RC RS) (hn : n < 9) {o j m x : Nat} {i v : Int32} {Y' : St} (hkb : kb n o j = some (6, m)) (hx : adB β ω o j = x) (hi : inb i m = true) (hv : isb v = true) (hY : pI Y o j (ix i) v = Y') (hd : decode cc pc = .ok (.bastore, 1)) (kk : L g a b (wsB (gκ g) n β ω e0 tx Y' ++ R) (pc + 1) lo st) : L g a b (wsB (gκ g) n β ω e0 tx Y ++ R) pc lo (.int v :: .int i :: .ref x :: st) := by
  obtain ⟨q, hq, he⟩ := wsB_at (κ := gκ g) (β := β) (ω := ω) (e0 := e0) (tx := tx) (Y := Y) (R := R) hn hkb
  rw [cB_arr hkb (Or.inr rfl), hx] at he
  subst hY
  refine L_zast X q he hi (by unfold isb at hv; simpa using hv) ?_ hd kk
  exact wsB_set hn hq (by rw [cB_upd hkb (Or.inr rfl), hx]) (fun o' j' _ h2 => by rw [cB_other o' j' h2])
/-- a row of 'near' -/
theorem B_row (X : CL g own cc nL FR LO RC RS) (hn : n < 9) {i : Int32} (hi : inb i 8 = true) (hd : decode cc pc = .ok (.aaload, 1)) (kk : L g a b (wsB (gκ g) n β ω e0 tx Y ++ R) (pc + 1) lo (.ref (β 0 (ix i + 6)) :: st)) : L g a b (wsB (gκ g) n β ω e0 tx Y ++ R) pc lo (.int i :: .ref (β 0 2) :: st) := by
  obtain ⟨q, hq, he⟩ := wsB_at (κ := gκ g) (β := β) (ω := ω) (e0 := e0) (tx := tx) (Y := Y) (R := R) (o := 0) (j := 2) (v := (7, 8)) hn rfl
  exact L_rald (n := 8) (f := fun k => some (β 0 (k + 6))) X q he hi rfl hd kk
theorem B_list {κ : KX} (hn : n < 9) : ∃ i : Nat, (wsB κ n β ω e0 tx Y ++ R)[i]? = some ((β 0 4, .inr (9, [.int (nI n), .ref (if n = 0 then e0 else β 0 5), .int (nI n)])) : Nat × va_E) := by
  obtain ⟨q, hq, he⟩ := wsB_at (κ := κ) (β := β) (ω := ω) (e0 := e0) (tx := tx) (Y := Y) (R := R) (o := 0) (j := 4) (v := (0, 9)) hn rfl
  exact ⟨q, he⟩
theorem B_elems {κ : KX} (hn : n < 9) (h0 : 0 < n) : ∃ i : Nat, (wsB κ n β ω e0 tx Y ++ R)[i]? = some ((if n = 0 then e0 else β 0 5, .inl (κ.2.1 8, 10, .inr (.inr (.inr (.inr (fun k => if k < n then some (β (k + 1) 0) else none)))))) : Nat × va_E) := by
  obtain ⟨q, hq, he⟩ := wsB_at (κ := κ) (β := β) (ω := ω) (e0 := e0) (tx := tx) (Y := Y) (R := R) (o := 0) (j := 5) (v := (8, 10)) hn (kb_l h0)
  refine ⟨q, ?_⟩
  rw [he, if_neg (by omega)]
  unfold cB
  rw [kb_l h0]
  rfl
/-- all.size() -/
theorem B_size (X : CL g own cc nL FR LO RC RS) (E : XE g ξ) (hn : n < 9) {index count : Nat} (hl : Cond.methodLink own index ⟨"java/util/List", "size", "()I"⟩ ∈ WG) (hR : (1 ≤ FR ∧ 20 ≤ LO) ∧ (a ≤ RC ∧ b ≤ RS)) (hc : (st.map fun v => v.category).sum ≤ 8) (hd : decode cc pc = .ok (.invokeinterface index count, 5)) (kk : L g a b (wsB (gκ g) n β ω e0 tx Y ++ R) (pc + 5) lo (.int (nI n) :: st)) : L g a b (wsB (gκ g) n β ω e0 tx Y ++ R) pc lo (.ref (β 0 4) :: st) := by
  obtain ⟨q, he⟩ := B_list (κ := gκ g) (β := β) (ω := ω) (e0 := e0) (tx := tx) (Y := Y) (R := R) hn
  refine L_cF X E (q := vcl 9) (As := []) (rest := st) (cm_Jx4a65c_size_8abf5 q he) cal_Jx4a65c_size_8abf5 hl wI_Jx4a65c_size_8abf5 wO_Jx4a65c_size_8abf5 FW_Jx4a65c_size_8abf5 rfl q he rfl ⟨⟨hR.1.1, hR.1.2⟩, hR.2⟩ rfl rfl hc hd (fun rv T hT => ?_)
  obtain ⟨rfl, hT⟩ := hT
  rw [hT]
  exact kk
theorem B_empty (X : CL g own cc nL FR LO RC RS) (E : XE g ξ) (hn : n < 9) {index count : Nat} (hl : Cond.methodLink own index ⟨"java/util/List", "isEmpty", "()Z"⟩ ∈ WG) (hR : (1 ≤ FR ∧ 20 ≤ LO) ∧ (a ≤ RC ∧ b ≤ RS)) (hc : (st.map fun v => v.category).sum ≤ 8) (hd : decode cc pc = .ok (.invokeinterface index count, 5)) (kk : L g a b (wsB (gκ g) n β ω e0 tx Y ++ R) (pc + 5) lo (.int (if nI n = 0 then 1 else 0) :: st)) : L g a b (wsB (gκ g) n β ω e0 tx Y ++ R) pc lo (.ref (β 0 4) :: st) := by
  obtain ⟨q, he⟩ := B_list (κ := gκ g) (β := β) (ω := ω) (e0 := e0) (tx := tx) (Y := Y) (R := R) hn
  refine L_cF X E (q := vcl 9) (As := []) (rest := st) (cm_Jx4a65c_isEmpty_aae02 q he) cal_Jx4a65c_isEmpty_aae02 hl wI_Jx4a65c_isEmpty_aae02 wO_Jx4a65c_isEmpty_aae02 FW_Jx4a65c_isEmpty_aae02 rfl q he rfl ⟨⟨hR.1.1, hR.1.2⟩, hR.2⟩ rfl rfl hc hd (fun rv T hT => ?_)
  obtain ⟨rfl, hT⟩ := hT
  rw [hT]
  exact kk
/-- all.get(i) -/
theorem B_lget (X : CL g own cc nL FR LO RC RS) (E : XE g ξ) (hn : n < 9) {index count : Nat} {i : Int32} (hi : inb i n = true) (hl : Cond.methodLink own index ⟨"java/util/List", "get", "(I)Ljava/lang/Object;"⟩ ∈ WG) (hR : (3 ≤ FR ∧ 64 ≤ LO) ∧ (a ≤ RC ∧ b ≤ RS)) (hc : (st.map fun v => v.category).sum ≤ 8) (hd : decode cc pc = .ok (.invokeinterface index count, 5)) (kk : L g a b (wsB (gκ g) n β ω e0 tx Y ++ R) (pc + 5) lo (.ref (β (ix i + 1) 0) :: st)) : L g a b (wsB (gκ g) n β ω e0 tx Y ++ R) pc lo (.int i :: .ref (β 0 4) :: st) := by
  obtain ⟨q, he⟩ := B_list (κ := gκ g) (β := β) (ω := ω) (e0 := e0) (tx := tx) (Y := Y) (R := R) hn
  obtain ⟨q2, he2⟩ := B_elems (κ := gκ g) (β := β) (ω := ω) (e0 := e0) (tx := tx) (Y := Y) (R := R) hn (inb_pos hi)
  refine L_cF X E (q := vcl 9) (As := [.int i]) (rest := st) (cm_Jx4a65c_get_915e3 (y := β (ix i + 1) 0) q he q2 he2 (inb_mono (m := 10) hi (by omega)) (if_pos (ix_lt hi)) (inb_nn hi) (inb_li hn hi)) cal_Jx4a65c_get_915e3 hl wI_Jx4a65c_get_915e3 wO_Jx4a65c_get_915e3 FW_Jx4a65c_get_915e3 rfl q he rfl ⟨⟨hR.1.1, hR.1.2⟩, hR.2⟩ rfl rfl hc hd (fun rv T hT => ?_)
  obtain ⟨rfl, hT⟩ := hT
  rw [hT]
  exact kk
/-- checkcast to Beacon -/
theorem B_cast (X : CL g own cc nL FR LO RC RS) (hn : n < 9) {index k : Nat} (hk : k < n) (hl : Cond.classLink own index RX7 ∈ WG) (hd : decode cc pc = .ok (.checkcast index, 3)) (kk : L g a b (wsB (gκ g) n β ω e0 tx Y ++ R) (pc + 3) lo (.ref (β (k + 1) 0) :: st)) : L g a b (wsB (gκ g) n β ω e0 tx Y ++ R) pc lo (.ref (β (k + 1) 0) :: st) := by
  obtain ⟨q, hq, he⟩ := wsB_at (κ := gκ g) (β := β) (ω := ω) (e0 := e0) (tx := tx) (Y := Y) (R := R) hn (kb_b0 hk)
  rw [cB_obj (kb_b0 hk)] at he
  exact L_castS X (q := vcl 7) hl q he rfl hd kk
/-- all.iterator() -/
theorem B_iter (X : CL g own cc nL FR LO RC RS) (E : XE g ξ) (hn : n < 9) {index count : Nat} (hl : Cond.methodLink own index ⟨"java/util/List", "iterator", "()Ljava/util/Iterator;"⟩ ∈ WG) (hR : (3 ≤ FR ∧ 53 ≤ LO) ∧ (a + 1 ≤ RC ∧ b + 16 ≤ RS)) (hc : (st.map fun v => v.category).sum ≤ 8) (hd : decode cc pc = .ok (.invokeinterface index count, 5)) (kk : ∀ z : Nat, L g (a + 1) (b + 16) (wsB (gκ g) n β ω e0 tx Y ++ (z, .inr (10, [.int 0, .int (-1), .int (nI n), .ref (β 0 4)])) :: R) (pc + 5) lo (.ref z :: st)) : L g a b (wsB (gκ g) n β ω e0 tx Y ++ R) pc lo (.ref (β 0 4) :: st) := by
  obtain ⟨q, he⟩ := B_list (κ := gκ g) (β := β) (ω := ω) (e0 := e0) (tx := tx) (Y := Y) (R := R) hn
  refine L_cF X E (q := vcl 9) (As := []) (rest := st) (cm_Jx4a65c_iterator_32c93 q he) cal_Jx4a65c_iterator_32c93 hl wI_Jx4a65c_iterator_32c93 wO_Jx4a65c_iterator_32c93 FW_Jx4a65c_iterator_32c93 rfl q he rfl ⟨⟨hR.1.1, hR.1.2⟩, ⟨hR.2.1, by omega⟩⟩ rfl rfl hc hd (fun rv T hT => ?_)
  obtain ⟨z, rfl, rfl⟩ := hT
  exact L_widen (Nat.le_refl _) (by omega) (L_perm List.perm_middle.symm (kk z))
theorem B_hasNext (X : CL g own cc nL FR LO RC RS) (E : XE g ξ) (hn : n < 9) {index count z : Nat} {u v : Int32} (hl : Cond.methodLink own index ⟨"java/util/Iterator", "hasNext", "()Z"⟩ ∈ WG) (hR : (1 ≤ FR ∧ 20 ≤ LO) ∧ (a ≤ RC ∧ b ≤ RS)) (hc : (st.map fun v => v.category).sum ≤ 8) (hd : decode cc pc = .ok (.invokeinterface index count, 5)) (kk : L g a b (wsB (gκ g) n β ω e0 tx Y ++ (z, .inr (10, [.int u, .int v, .int (nI n), .ref (β 0 4)])) :: R) (pc + 5) lo (.int (if u = nI n then 0 else 1) :: st)) : L g a b (wsB (gκ g) n β ω e0 tx Y ++ (z, .inr (10, [.int u, .int v, .int (nI n), .ref (β 0 4)])) :: R) pc lo (.ref z :: st) := by
  obtain ⟨q, he⟩ := B_list (κ := gκ g) (β := β) (ω := ω) (e0 := e0) (tx := tx) (Y := Y) (R := (z, .inr (10, [.int u, .int v, .int (nI n), .ref (β 0 4)])) :: R) hn
  have hz : (wsB (gκ g) n β ω e0 tx Y ++ (z, .inr (10, [.int u, .int v, .int (nI n), .ref (β 0 4)])) :: R)[(wsB (gκ g) n β ω e0 tx Y).length]? = some (z, .inr (10, [.int u, .int v, .int (nI n), .ref (β 0 4)])) := by
    rw [List.getElem?_append_right (Nat.le_refl _), Nat.sub_self]
    rfl
  refine L_cF X E (q := vcl 10) (As := []) (rest := st) (cm_Jx35411_hasNext_aae02 q he _ hz) cal_Jx35411_hasNext_aae02 hl wI_Jx35411_hasNext_aae02 wO_Jx35411_hasNext_aae02 FW_Jx35411_hasNext_aae02 rfl _ hz rfl ⟨⟨hR.1.1, hR.1.2⟩, hR.2⟩ rfl rfl hc hd (fun rv T hT => ?_)
  obtain ⟨rfl, hT⟩ := hT
  rw [hT]
  exact kk
theorem B_next (X : CL g own cc nL FR LO RC RS) (E : XE g ξ) (hn : n < 9) {index count z : Nat} {u v : Int32} (hi : inb u n = true) (hl : Cond.methodLink own index ⟨"java/util/Iterator", "next", "()Ljava/lang/Object;"⟩ ∈ WG) (hR : (2 ≤ FR ∧ 42 ≤ LO) ∧ (a ≤ RC ∧ b ≤ RS)) (hc : (st.map fun v => v.category).sum ≤ 8) (hd : decode cc pc = .ok (.invokeinterface index count, 5)) (kk : L g a b (wsB (gκ g) n β ω e0 tx Y ++ (z, .inr (10, [.int (u + 1), .int u, .int (nI n), .ref (β 0 4)])) :: R) (pc + 5) lo (.ref (β (ix u + 1) 0) :: st)) : L g a b (wsB (gκ g) n β ω e0 tx Y ++ (z, .inr (10, [.int u, .int v, .int (nI n), .ref (β 0 4)])) :: R) pc lo (.ref z :: st) := by
  obtain ⟨q, he⟩ := B_list (κ := gκ g) (β := β) (ω := ω) (e0 := e0) (tx := tx) (Y := Y) (R := R) hn
  obtain ⟨q2, he2⟩ := B_elems (κ := gκ g) (β := β) (ω := ω) (e0 := e0) (tx := tx) (Y := Y) (R := R) hn (inb_pos hi)
  refine L_perm List.perm_middle ?_
  refine L_cF X E (q := vcl 10) (As := []) (rest := st) (cm_Jx35411_next_0502b (y := β (ix u + 1) 0) q he q2 he2 (inb_li hn hi) (Int32.lt_trans (inb_li (n := n) hn hi) (nI_lt (by omega) (by omega))) (inb_mono (m := 10) hi (by omega)) (if_pos (ix_lt hi))) cal_Jx35411_next_0502b hl wI_Jx35411_next_0502b wO_Jx35411_next_0502b FW_Jx35411_next_0502b rfl 0 rfl rfl ⟨⟨hR.1.1, hR.1.2⟩, hR.2⟩ rfl rfl hc hd (fun rv T hT => ?_)
  obtain ⟨rfl, rfl⟩ := hT
  exact L_perm List.perm_middle.symm kk
/-- a cell behind the world is forgotten -/
theorem B_drop {c : Nat × va_E} (kk : L g a b (wsB (gκ g) n β ω e0 tx Y ++ R) pc lo st) : L g a b (wsB (gκ g) n β ω e0 tx Y ++ c :: R) pc lo st := L_perm List.perm_middle (L_tail kk)
/-- b.why = new int[8] -/
theorem B_why (X : CL g own cc nL FR LO RC RS) (hn : n < 9) {index k q : Nat} {Y' : St} (hk : k < n) (hw : Cond.fieldLink own index RX7 "why" "[I" ∈ WG) (hY : zR Y (k + 1) 3 = Y') (hd : decode cc pc = .ok (.putfield index, 3)) (kk : L g a b (wsB (gκ g) n β (fun x => if x = k + 1 then q else ω x) e0 tx Y' ++ R) (pc + 3) lo st) : L g a b ((q, .inl ((gκ g).2.1 1, 8, .inl (fun _ => 0))) :: (wsB (gκ g) n β ω e0 tx Y ++ R)) pc lo (.ref q :: .ref (β (k + 1) 0) :: st) := by
  subst hY
  obtain ⟨i, hi, he⟩ := wsB_at (κ := gκ g) (β := β) (ω := ω) (e0 := e0) (tx := tx) (Y := Y) (R := R) hn (kb_b0 hk)
  obtain ⟨i3, hi3, he3⟩ := wsB_at (κ := gκ g) (β := β) (ω := ω) (e0 := e0) (tx := tx) (Y := Y) (R := R) hn (kb_b3 hk)
  rw [cB_obj (kb_b0 hk)] at he
  refine L_put X (C := RX7) (Tf := TX7) (N := 16) (c := 7) (k := 14) (ty0 := tyX7) (T' := (q, .inl ((gκ g).2.1 1, 8, .inl (fun _ => 0))) :: (wsB (gκ g) n β ω e0 tx Y ++ R).set i (β (k + 1) 0, .inr (7, ((List.range (nfB 7)).map (fvB n β ω e0 tx 7 (k + 1) Y)).set 14 (.ref q)))) rfl iX7 tyX7_ok nmX7 (by decide) rfl rfl (tyX7_ok _ (by decide)) hw (i + 1) he rfl rfl (by rw [List.length_map, List.length_range]; decide) rfl hd ?_
  have hl3 : i3 < ((wsB (gκ g) n β ω e0 tx Y ++ R).set i (β (k + 1) 0, .inr (7, ((List.range (nfB 7)).map (fvB n β ω e0 tx 7 (k + 1) Y)).set 14 (.ref q)))).length := by
    rw [List.length_set]
    exact (List.getElem?_eq_some_iff.mp he3).1
  refine L_swapin hl3 ?_
  have e1 : (wsB (gκ g) n β ω e0 tx Y ++ R).set i (β (k + 1) 0, .inr (7, ((List.range (nfB 7)).map (fvB n β ω e0 tx 7 (k + 1) Y)).set 14 (.ref q))) = (wsB (gκ g) n β ω e0 tx Y).set i (β (k + 1) 0, .inr (7, ((List.range (nfB 7)).map (fvB n β ω e0 tx 7 (k + 1) Y)).set 14 (.ref q))) ++ R :=
    List.set_append_left _ _ (by unfold wsB; rw [List.length_map]; exact (List.getElem?_eq_some_iff.mp hi).1)
  have e2 : ((wsB (gκ g) n β ω e0 tx Y).set i (β (k + 1) 0, .inr (7, ((List.range (nfB 7)).map (fvB n β ω e0 tx 7 (k + 1) Y)).set 14 (.ref q))) ++ R).set i3 (q, .inl ((gκ g).2.1 1, 8, .inl (fun _ => 0))) = wsB (gκ g) n β (fun x => if x = k + 1 then q else ω x) e0 tx (zR Y (k + 1) 3) ++ R := by
    rw [List.set_append_left _ _ (by rw [List.length_set]; unfold wsB; rw [List.length_map]; exact (List.getElem?_eq_some_iff.mp hi3).1)]
    congr 1
    have hgz : ∀ o j, (o, j) ≠ (k + 1, 3) → ∀ r, gI (zR Y (k + 1) 3) o j r = gI Y o j r := fun o j h r => if_neg (fun e => h (by rw [e.1, e.2]))
    refine List.ext_getElem? fun r => ?_
    unfold wsB
    rw [List.getElem?_set, List.length_set, List.getElem?_set, List.length_map, List.getElem?_map, List.getElem?_map]
    have hL := (List.getElem?_eq_some_iff.mp hi).1
    have hL3 := (List.getElem?_eq_some_iff.mp hi3).1
    by_cases c3 : i3 = r
    · subst c3
      rw [if_pos rfl, if_pos hL3, hi3, Option.map_some]
      show some (q, _) = some (if k + 1 = k + 1 then q else ω (k + 1), cB (gκ g) n β _ e0 tx (zR Y (k + 1) 3) (k + 1) 3)
      rw [if_pos rfl, cB_arr (kb_b3 hk) (Or.inl rfl)]
      refine congrArg (fun f => some (q, (Sum.inl ((gκ g).2.1 1, 8, .inl f) : va_E))) (funext fun x => ?_)
      exact (if_pos ⟨rfl, rfl⟩ : (if k + 1 = k + 1 ∧ 3 = 3 then (0 : Int32) else _) = 0).symm
    · rw [if_neg c3]
      by_cases c0 : i = r
      · subst c0
        rw [if_pos rfl, if_pos hL, hi, Option.map_some]
        refine congrArg (fun x => some (β (k + 1) 0, x)) ?_
        rw [cB_obj (kb_b0 hk)]
        refine congrArg (fun l => (Sum.inr (7, l) : va_E)) (List.ext_getElem? fun x => ?_)
        rw [List.getElem?_set, List.length_map, List.length_range, List.getElem?_map, List.getElem?_map]
        by_cases hx : x < 16
        · rw [List.getElem?_range (show x < nfB 7 from hx), Option.map_some, Option.map_some]
          by_cases c14 : 14 = x
          · subst c14
            rw [if_pos rfl, if_pos (by decide)]
            show some (Value.ref q) = some (Value.ref (if k + 1 = k + 1 then q else ω (k + 1)))
            rw [if_pos rfl]
          · rw [if_neg c14]
            refine congrArg some ?_
            have hg := hgz (k + 1) 0 (by intro e; cases e) x
            match x, hx, c14, hg with
            | 0, _, _, hg | 1, _, _, hg | 2, _, _, hg | 3, _, _, hg | 4, _, _, hg | 5, _, _, hg | 6, _, _, hg | 7, _, _, hg | 8, _, _, hg | 9, _, _, hg | 10, _, _, hg | 11, _, _, hg => exact congrArg Value.int hg.symm
            | 12, _, _, _ | 13, _, _, _ | 15, _, _, _ => rfl
            | 14, _, c, _ => exact absurd rfl c
            | x + 16, h, _, _ => exact absurd h (by omega)
        · rw [List.getElem?_eq_none (by rw [List.length_range]; show 16 ≤ x; omega), Option.map_none, Option.map_none, if_neg (by omega)]
      · rw [if_neg c0]
        cases hp : (PB n)[r]? with
        | none => rfl
        | some p =>
          obtain ⟨o, j⟩ := p
          have ne3 : (o, j) ≠ (k + 1, 3) := fun e => by
            rw [e] at hp
            have := (List.getElem?_inj hL3 (PB_nodup n hn)).mp (hi3.trans hp.symm)
            exact c3 this
          have ne0 : (o, j) ≠ (k + 1, 0) := fun e => by
            rw [e] at hp
            have := (List.getElem?_inj hL (PB_nodup n hn)).mp (hi.trans hp.symm)
            exact c0 this
          rw [Option.map_some, Option.map_some]
          refine congrArg some (Prod.ext ?_ ?_)
          · show adB β ω o j = adB β (fun x => if x = k + 1 then q else ω x) o j
            match o, j, ne3 with
            | 0, j, _ => rfl
            | o + 1, 0, _ | o + 1, 1, _ | o + 1, 2, _ => rfl
            | o + 1, 3, h => exact (if_neg (fun e => h (by rw [e]))).symm
            | o + 1, j + 4, _ => rfl
          · show cB (gκ g) n β ω e0 tx Y o j = cB (gκ g) n β (fun x => if x = k + 1 then q else ω x) e0 tx (zR Y (k + 1) 3) o j
            have hg := hgz o j ne3
            unfold cB
            cases hk2 : kb n o j with
            | none => rfl
            | some w =>
              obtain ⟨t, m⟩ := w
              match t, hk2 with
              | 0, hk2 =>
                show (Sum.inr (m, List.map (fvB n β ω e0 tx m o Y) (List.range (nfB m))) : va_E) = Sum.inr (m, List.map (fvB n β (fun x => if x = k + 1 then q else ω x) e0 tx m o (zR Y (k + 1) 3)) (List.range (nfB m)))
                refine congrArg (fun f => (Sum.inr (m, List.map f (List.range (nfB m))) : va_E)) (funext fun x => ?_)
                rcases kb_obj hk2 with ⟨rfl, hm⟩ | ⟨rfl, rfl, rfl⟩
                · have ho : o ≠ k + 1 := fun e => ne0 (by rw [e])
                  have hw2 : (if o = k + 1 then q else ω o) = ω o := if_neg ho
                  unfold fvB
                  split <;> first | rfl | exact congrArg Value.ref hw2.symm | rw [hg]
                · match x with
                  | 0 => rfl
                  | 1 => rfl
                  | x + 2 => rfl
              | 7, _ => rfl
              | 8, _ => rfl
              | 1, _ | 2, _ | 3, _ | 4, _ | 5, _ | 6, _ => simp only [hg]
              | t + 9, _ => simp only [hg]
  rw [e1, e2]
  exact kk
end
