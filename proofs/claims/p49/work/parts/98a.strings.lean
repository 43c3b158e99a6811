/-! the String constants and the statics at the entry -/
def oJS : List (String × Nat) := [(RX8, 39), (RX3, 118), (RX8, 64), (RX3, 120), (RX8, 73), (RX8, 78), (RX8, 83), (RX3, 107), (RX3, 112), (RX8, 88), (RX3, 71), (RX8, 93), (RX8, 95), (RX3, 38), (RX3, 51), (RX3, 56), (RX3, 61), (RX3, 66), (RX3, 122), (RX8, 105), (RX8, 107), (RX8, 109), (RX8, 111), (RX8, 113), (RX8, 115)]
def tmJS (i : Nat) : Term := .string (oJS.getD i ("", 0)).1 (oJS.getD i ("", 0)).2
def FL : List Cond := flatC (Jvm.Cond.and given_1 narrow_1)
theorem st_ex : ∀ i, i < 25 → Cond.exactly (tmJS i) "java/lang/String" ∈ FL := by decide +kernel
theorem st_co : ∀ i, i < 25 → Cond.eq (.field (tmJS i) "java/lang/String" "coder" "B") (.int 0) ∈ FL := by decide +kernel
theorem st_ar : ∀ i, i < 25 → Cond.arrayOf (.field (tmJS i) "java/lang/String" "value" "[B") .byte ∈ FL := by decide +kernel
theorem st_le : ∀ i, i < 25 → Cond.eq (.length (.field (tmJS i) "java/lang/String" "value" "[B")) (.int (Int32.ofNat (lenJS.getD i 0))) ∈ FL := by decide +kernel
def isEl (c : Cond) : Bool := match c with | .eq (.elem (.field (.string _ _) _ _ _) _) _ => true | _ => false
def ELs : List (Bool × Nat × Nat) := [(false, 13, 0), (false, 13, 1), (false, 13, 2), (false, 13, 3), (false, 13, 4), (false, 14, 0), (false, 14, 1), (false, 14, 2), (false, 14, 3), (false, 15, 0), (false, 15, 1), (false, 15, 2), (false, 15, 3), (false, 15, 4), (false, 16, 0), (false, 16, 1), (false, 16, 2), (false, 16, 3), (false, 16, 4), (false, 16, 5), (false, 17, 0), (false, 17, 1), (false, 17, 2), (false, 17, 3), (false, 17, 4), (false, 17, 5), (false, 7, 0), (false, 7, 1), (false, 7, 2), (false, 7, 3), (false, 7, 4), (false, 8, 0), (false, 8, 1), (false, 1, 0), (false, 1, 1), (false, 1, 2), (false, 1, 3), (false, 1, 4), (false, 1, 5), (false, 1, 6), (false, 3, 0), (false, 3, 1), (false, 3, 2), (false, 3, 3), (false, 3, 4), (false, 18, 0), (false, 18, 1), (false, 18, 2), (false, 18, 3), (false, 18, 4), (false, 18, 5), (false, 10, 0), (false, 10, 1), (false, 10, 2), (false, 10, 3), (false, 2, 0), (false, 2, 1), (false, 2, 2), (false, 2, 3), (false, 2, 4), (false, 2, 5), (false, 2, 6), (false, 4, 0), (false, 4, 1), (false, 4, 2), (false, 4, 3), (false, 4, 4), (false, 4, 5), (false, 5, 0), (false, 5, 1), (false, 5, 2), (false, 5, 3), (false, 6, 0), (false, 6, 1), (false, 6, 2), (false, 6, 3), (false, 6, 4), (false, 6, 5), (false, 6, 6), (false, 6, 7), (false, 6, 8), (false, 9, 0), (false, 9, 1), (false, 9, 2), (false, 9, 3), (false, 9, 4), (false, 9, 5), (false, 9, 6), (false, 11, 0), (false, 11, 1), (false, 11, 2), (false, 11, 3), (false, 11, 4), (false, 11, 5), (false, 11, 6), (false, 11, 7), (false, 12, 0), (true, 13, 0), (true, 13, 1), (true, 13, 2), (true, 13, 3), (true, 13, 4), (false, 19, 0), (false, 20, 0), (false, 20, 1), (false, 20, 2), (false, 21, 0), (false, 21, 1), (false, 21, 2), (false, 21, 3), (false, 21, 4), (false, 22, 0), (false, 22, 1), (false, 22, 2), (false, 22, 3), (false, 22, 4), (false, 22, 5), (false, 23, 0), (false, 23, 1), (false, 23, 2), (false, 23, 3), (false, 23, 4), (false, 23, 5), (false, 23, 6), (false, 24, 0), (false, 24, 1), (false, 24, 2), (false, 24, 3), (false, 24, 4)]
def mkEl (q : Bool × Nat × Nat) : Cond := .eq (.elem (.field (if q.1 then .string RX8 103 else tmJS q.2.1) "java/lang/String" "value" "[B") (.int (Int32.ofNat q.2.2))) (.int ((bytJS.getD q.2.1 []).getD q.2.2 0))
theorem ELs_ok : FL.filter isEl = ELs.map mkEl := by decide +kernel
theorem ELs_in : ∀ i, i < 25 → ∀ j, j < lenJS.getD i 0 → (false, i, j) ∈ ELs := by decide +kernel
theorem st_el : ∀ i, i < 25 → ∀ j, j < lenJS.getD i 0 → Cond.eq (.elem (.field (tmJS i) "java/lang/String" "value" "[B") (.int (Int32.ofNat j))) (.int ((bytJS.getD i []).getD j 0)) ∈ FL := by
  intro i hi j hj
  have h1 : mkEl (false, i, j) ∈ FL.filter isEl := by rw [ELs_ok]; exact List.mem_map_of_mem (ELs_in i hi j hj)
  exact (List.mem_filter.mp h1).1
def isDg (n : String) (c : Cond) : Bool := match c with | .eq (.elem (.static _ m _) _) _ => m == n | _ => false
def mkDg (n : String) (f : Nat → Nat) (k : Nat) : Cond := .eq (.elem (.static "java/lang/Integer" n "[B") (.int (Int32.ofNat k))) (.int (Int32.ofNat (f k)))
theorem DO_ok : FL.filter (isDg "DigitOnes") = (List.range 100).map (mkDg "DigitOnes" fun k => 48 + k % 10) := by decide +kernel
theorem DT_ok : FL.filter (isDg "DigitTens") = (List.range 100).map (mkDg "DigitTens" fun k => 48 + k / 10) := by decide +kernel
theorem DO_in {k : Nat} (h : k < 100) : mkDg "DigitOnes" (fun k => 48 + k % 10) k ∈ FL := by
  have h1 : mkDg "DigitOnes" (fun k => 48 + k % 10) k ∈ FL.filter (isDg "DigitOnes") := by rw [DO_ok]; exact List.mem_map_of_mem (List.mem_range.mpr h)
  exact (List.mem_filter.mp h1).1
theorem DT_in {k : Nat} (h : k < 100) : mkDg "DigitTens" (fun k => 48 + k / 10) k ∈ FL := by
  have h1 : mkDg "DigitTens" (fun k => 48 + k / 10) k ∈ FL.filter (isDg "DigitTens") := by rw [DT_ok]; exact List.mem_map_of_mem (List.mem_range.mpr h)
  exact (List.mem_filter.mp h1).1
theorem tm_dif {args : Array Value} {s : State} {t1 t2 : Term} (h : t1.eval args s none [] s = t2.eval args s none [] s) : (Term.field t1 "java/lang/String" "value" "[B").eval args s none [] s = (Term.field t2 "java/lang/String" "value" "[B").eval args s none [] s := by
  simp only [Term.eval, h]
theorem tm_len {args : Array Value} {s : State} {t1 t2 : Term} (h : t1.eval args s none [] s = t2.eval args s none [] s) : (Term.length t1).eval args s none [] s = (Term.length t2).eval args s none [] s := by
  simp only [Term.eval, h]
theorem tm_elm {args : Array Value} {s : State} {t1 t2 t3 : Term} (h : t1.eval args s none [] s = t2.eval args s none [] s) : (Term.elem t1 t3).eval args s none [] s = (Term.elem t2 t3).eval args s none [] s := by
  simp only [Term.eval, h]
/-- two constants differ in their length or at one place -/
def difJS (i j : Nat) : Bool := (lenJS.getD i 0 != lenJS.getD j 0) || (List.range (lenJS.getD i 0)).any fun k => (bytJS.getD i []).getD k 0 != (bytJS.getD j []).getD k 0
theorem difJS_ok : ∀ i, i < 25 → ∀ j, j < 25 → i ≠ j → difJS i j = true := by decide +kernel
theorem len_in : ∀ i, i < 25 → ∀ j, j < 25 → (Int32.ofNat (lenJS.getD i 0) = Int32.ofNat (lenJS.getD j 0)) → lenJS.getD i 0 = lenJS.getD j 0 := by decide +kernel
theorem st_ne {args : Array Value} {s : State} (hs : ∀ c ∈ FL, c.before args s = true) : ∀ i j, i < 25 → j < 25 → i ≠ j → ¬ (tmJS i).eval args s none [] s = (tmJS j).eval args s none [] s := by
  intro i j hi hj hn e
  have e1 := tm_dif e
  have e2 := tm_len e1
  have a1 := va_eqt (hs _ (st_le i hi))
  have a2 := va_eqt (hs _ (st_le j hj))
  rw [a1, a2] at e2
  have e3 : lenJS.getD i 0 = lenJS.getD j 0 := len_in i hi j hj (by injection e2 with e2; injection e2)
  have hd := difJS_ok i hi j hj hn
  unfold difJS at hd
  rcases Bool.or_eq_true_iff.mp hd with h | h
  · rw [e3] at h
    simp at h
  · obtain ⟨k, hk, hne⟩ := List.any_eq_true.mp h
    have hk1 := List.mem_range.mp hk
    have b1 := va_eqt (hs _ (st_el i hi k hk1))
    have b2 := va_eqt (hs _ (st_el j hj k (by rw [← e3]; exact hk1)))
    have e4 := tm_elm (t3 := .int (Int32.ofNat k)) e1
    rw [b1, b2] at e4
    have e5 : (bytJS.getD i []).getD k 0 = (bytJS.getD j []).getD k 0 := by injection e4 with e4; injection e4
    rw [e5] at hne
    simp at hne
theorem st_nc {args : Array Value} {s : State} (hs : ∀ c ∈ FL, c.before args s = true) (i j : Nat) (hi : i < 25) (hj : j < 25) (hn : i ≠ j) : (Cond.not (Cond.eq (tmJS i) (tmJS j))).before args s = true := by
  have h := st_ne hs i j hi hj hn
  obtain ⟨a, c, cA, kA, q1, -⟩ := Cond.exactly_spec (args := args) (first := s) (o := none) (s := s) (idx := []) (t := tmJS i) (cls := "java/lang/String") (hs _ (st_ex i hi))
  obtain ⟨a2, c2, cA2, kA2, q2, -⟩ := Cond.exactly_spec (args := args) (first := s) (o := none) (s := s) (idx := []) (t := tmJS j) (cls := "java/lang/String") (hs _ (st_ex j hj))
  rw [q1, q2] at h
  simp [Cond.before, Cond.holds, Cond.value, q1, q2]
  intro e
  exact h (by rw [e])
theorem st_R : ∀ q ∈ SR, Term.string q.1 q.2.1 = tmJS q.2.2.2 ∨ Cond.eq (.string q.1 q.2.1) (tmJS q.2.2.2) ∈ FL ∨ Cond.eq (tmJS q.2.2.2) (.string q.1 q.2.1) ∈ FL := by decide +kernel
theorem st_W : ∀ q ∈ SR, Cond.stringRef q.1 q.2.1 q.2.2.1 ∈ lw_tbl ∧ q.2.2.2 < 25 := by decide +kernel
theorem st_ln : ∀ i, i < 25 → lenJS.getD i 0 < 2 ^ 31 := by decide +kernel
theorem eq_l {args : Array Value} {s : State} {t1 t2 : Term} (h : (Cond.eq t1 t2).before args s = true) {a : Nat} (h2 : t2.eval args s none [] s = some (.ref a)) : t1.eval args s none [] s = some (.ref a) := by
  cases hv : t1.eval args s none [] s with
  | none => simp [Cond.before, Cond.holds, Cond.value, hv] at h
  | some v => cases v <;> simp [Cond.before, Cond.holds, Cond.value, hv, h2] at h ⊢ <;> exact h
theorem eq_r {args : Array Value} {s : State} {t1 t2 : Term} (h : (Cond.eq t1 t2).before args s = true) {a : Nat} (h2 : t1.eval args s none [] s = some (.ref a)) : t2.eval args s none [] s = some (.ref a) := by
  cases hv : t2.eval args s none [] s with
  | none => simp [Cond.before, Cond.holds, Cond.value, hv, h2] at h
  | some v => cases v <;> simp [Cond.before, Cond.holds, Cond.value, hv, h2] at h ⊢ <;> exact h.symm
/-! strings and statics together -/
theorem w_cs1 : Cond.laysStatic "java/lang/String" "COMPACT_STRINGS" "Z" ∈ lw_tbl ∧ Cond.initialized "java/lang/String" ∈ lw_tbl := by decide +kernel
theorem w_cs2 : Cond.laysStatic Bundle.tN "UNASSIGNED_STACK" Bundle.steD ∈ lw_tbl ∧ Cond.laysStatic Bundle.tN "SUPPRESSED_SENTINEL" Bundle.listD ∈ lw_tbl ∧ Cond.initialized Bundle.tN ∈ lw_tbl := by decide +kernel
theorem w_cs3 : Cond.laysStatic "jdk/internal/util/Preconditions" "SIOOBE_FORMATTER" "Ljava/util/function/BiFunction;" ∈ lw_tbl ∧ Cond.initialized "jdk/internal/util/Preconditions" ∈ lw_tbl := by decide +kernel
theorem f_cs : Cond.eq (.static "java/lang/String" "COMPACT_STRINGS" "Z") (.int 1) ∈ FL ∧ Cond.isRef (.static Bundle.tN "UNASSIGNED_STACK" Bundle.steD) ∈ FL ∧ Cond.isRef (.static Bundle.tN "SUPPRESSED_SENTINEL" Bundle.listD) ∈ FL ∧ Cond.isRef (.static "jdk/internal/util/Preconditions" "SIOOBE_FORMATTER" "Ljava/util/function/BiFunction;") ∈ FL := by decide +kernel
theorem w_ao : Cond.arrayOver (.object RX0) ∈ lw_tbl ∧ Cond.arrayOver (.object RX5) ∈ lw_tbl ∧ Cond.arrayOver (.object "java/lang/Object") ∈ lw_tbl ∧ Cond.arrayOver (.array .boolean) ∈ lw_tbl := by decide +kernel
theorem str_all {s : State} {args : Array Value} (hts : ∀ w ∈ lw_tbl, w.before args s = true) (hn : (Jvm.Cond.and given_1 narrow_1).before args s = true) :
    ∃ adK adV : Nat → Nat, vk_S nJS lenJS bytJS adK adV (fun q => s.heap.size ≤ q) s s.heap ∧ va_Z "java/lang/String" "COMPACT_STRINGS" "Z" (.int 1) (fun q => s.heap.size ≤ q) s s.heap ∧ vx_Zq Bundle.tN "UNASSIGNED_STACK" Bundle.steD (fun q => s.heap.size ≤ q) s s.heap ∧ vx_Zq Bundle.tN "SUPPRESSED_SENTINEL" Bundle.listD (fun q => s.heap.size ≤ q) s s.heap ∧ va_Zq "jdk/internal/util/Preconditions" "SIOOBE_FORMATTER" "Ljava/util/function/BiFunction;" (fun q => s.heap.size ≤ q) s s.heap ∧ (∀ q ∈ SR, vk_R q.1 q.2.1 q.2.2.1 (adK q.2.2.2) s) := by
  have hs : ∀ c ∈ FL, c.before args s = true := flat_of_before _ hn
  have hA : ∀ a : Nat, a < s.heap.size → ¬ s.heap.size ≤ a := fun a h => by omega
  obtain ⟨adK, adV, hS, hE⟩ := vk_Sof (N := 25) (tm := tmJS) (len := lenJS) (byt := bytJS) (A := fun q => s.heap.size ≤ q) st_ln (fun i hi => hs _ (st_ex i hi)) (fun i hi => hs _ (st_co i hi)) (fun i hi => hs _ (st_ar i hi)) (fun i hi => hs _ (st_le i hi)) (fun i hi j hj => hs _ (st_el i hi j hj)) (fun i j hi hj hn => Or.inl (st_nc hs i j hi hj hn)) hA
  refine ⟨adK, adV, hS, va_Zof (hts _ w_cs1.1) (hts _ w_cs1.2) (va_eqi (hs _ f_cs.1)) hA, vx_Zqof (hts _ w_cs2.1) (hts _ w_cs2.2.2) (hs _ f_cs.2.1) hA, vx_Zqof (hts _ w_cs2.2.1) (hts _ w_cs2.2.2) (hs _ f_cs.2.2.1) hA, va_Zqof (hts _ w_cs3.1) (hts _ w_cs3.2) (hs _ f_cs.2.2.2) hA, fun q hq => ?_⟩
  · obtain ⟨h1, h2⟩ := st_W q hq
    refine vk_R.of (hts _ h1) ?_
    have he := hE q.2.2.2 h2
    rcases st_R q hq with h | h | h
    · rw [h]; exact he
    · exact eq_l (hs _ h) he
    · exact eq_r (hs _ h) he
