/-! strings and statics together -/
theorem w_cs1 : Cond.laysStatic "java/lang/String" "COMPACT_STRINGS" "Z" ∈ lw_tbl ∧ Cond.initialized "java/lang/String" ∈ lw_tbl := by decide +kernel
theorem w_cs2 : Cond.laysStatic Bundle.tN "UNASSIGNED_STACK" Bundle.steD ∈ lw_tbl ∧ Cond.laysStatic Bundle.tN "SUPPRESSED_SENTINEL" Bundle.listD ∈ lw_tbl ∧ Cond.initialized Bundle.tN ∈ lw_tbl := by decide +kernel
theorem w_cs3 : Cond.laysStatic "jdk/internal/util/Preconditions" "SIOOBE_FORMATTER" "Ljava/util/function/BiFunction;" ∈ lw_tbl ∧ Cond.initialized "jdk/internal/util/Preconditions" ∈ lw_tbl := by decide +kernel
theorem f_cs : Cond.eq (.static "java/lang/String" "COMPACT_STRINGS" "Z") (.int 1) ∈ FL ∧ Cond.isRef (.static Bundle.tN "UNASSIGNED_STACK" Bundle.steD) ∈ FL ∧ Cond.isRef (.static Bundle.tN "SUPPRESSED_SENTINEL" Bundle.listD) ∈ FL ∧ Cond.isRef (.static "jdk/internal/util/Preconditions" "SIOOBE_FORMATTER" "Ljava/util/function/BiFunction;") ∈ FL := by decide +kernel
theorem w_ao : Cond.arrayOver (.object RX0) ∈ lw_tbl ∧ Cond.arrayOver (.object RX5) ∈ lw_tbl := by decide +kernel
def castP : List (Nat × Nat) := [(1, 2), (1, 3), (2, 1), (2, 3), (3, 1), (3, 2)]
theorem f_nc : ∀ q ∈ castP, Cond.not (.castable (exN q.1) (exN q.2)) ∈ FL := by decide +kernel
theorem str_all {s : State} {args : Array Value} (hts : ∀ w ∈ lw_tbl, w.before args s = true) (hn : (Jvm.Cond.and given_1 narrow_1).before args s = true) :
    ∃ adK adV : Nat → Nat, vk_S nJS lenJS bytJS adK adV (fun q => s.heap.size ≤ q) s s.heap ∧ va_Z "java/lang/String" "COMPACT_STRINGS" "Z" (.int 1) (fun q => s.heap.size ≤ q) s s.heap ∧ vx_Zq Bundle.tN "UNASSIGNED_STACK" Bundle.steD (fun q => s.heap.size ≤ q) s s.heap ∧ vx_Zq Bundle.tN "SUPPRESSED_SENTINEL" Bundle.listD (fun q => s.heap.size ≤ q) s s.heap ∧ va_Zq "jdk/internal/util/Preconditions" "SIOOBE_FORMATTER" "Ljava/util/function/BiFunction;" (fun q => s.heap.size ≤ q) s s.heap ∧ (∀ q ∈ SR, vk_R q.1 q.2.1 q.2.2.1 (adK q.2.2.2) s) ∧ NCs s := by
  have hs : ∀ c ∈ FL, c.before args s = true := flat_of_before _ hn
  have hA : ∀ a : Nat, a < s.heap.size → ¬ s.heap.size ≤ a := fun a h => by omega
  obtain ⟨adK, adV, hS, hE⟩ := vk_Sof (N := 19) (tm := tmJS) (len := lenJS) (byt := bytJS) (A := fun q => s.heap.size ≤ q) st_ln (fun i hi => hs _ (st_ex i hi)) (fun i hi => hs _ (st_co i hi)) (fun i hi => hs _ (st_ar i hi)) (fun i hi => hs _ (st_le i hi)) (fun i hi j hj => hs _ (st_el i hi j hj)) (fun i j hi hj hn => (st_ne i hi j hj hn).imp (fun h => hs _ h) (fun h => hs _ h)) hA
  refine ⟨adK, adV, hS, va_Zof (hts _ w_cs1.1) (hts _ w_cs1.2) (va_eqi (hs _ f_cs.1)) hA, vx_Zqof (hts _ w_cs2.1) (hts _ w_cs2.2.2) (hs _ f_cs.2.1) hA, vx_Zqof (hts _ w_cs2.2.1) (hts _ w_cs2.2.2) (hs _ f_cs.2.2.1) hA, va_Zqof (hts _ w_cs3.1) (hts _ w_cs3.2) (hs _ f_cs.2.2.2) hA, fun q hq => ?_, ?_⟩
  · obtain ⟨h1, h2⟩ := st_W q hq
    refine vk_R.of (hts _ h1) ?_
    have he := hE q.2.2.2 h2
    rcases st_R q hq with h | h | h
    · rw [h]; exact he
    · exact eq_l (hs _ h) he
    · exact eq_r (hs _ h) he
  · intro x hx y hy hxy
    refine va_Nc.of (hs _ (f_nc (x, y) ?_))
    simp only [List.mem_cons, List.not_mem_nil, or_false] at hx hy
    rcases hx with rfl | rfl | rfl <;> rcases hy with rfl | rfl | rfl <;> first | exact absurd rfl hxy | decide
