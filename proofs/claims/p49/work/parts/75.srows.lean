/-! String constants in the walk over cells; clone and copies of bytes -/
section
variable {g : GX} {ξ : XI} {a b : Nat} {T : va_W} {pc : Nat} {lo : List (Nat × Value)} {st : List Value} {own : String} {cc : ByteArray} {nL FR LO RC RS : Nat}
abbrev kS (g : GX) (i : Nat) : Nat := (gκ g).2.2.2.2.1 i
abbrev kV (g : GX) (i : Nat) : Nat := (gκ g).2.2.2.2.2 i
theorem CL_S (X : CL g own cc nL FR LO RC RS) : vk_S nJS lenJS bytJS (gκ g).2.2.2.2.1 (gκ g).2.2.2.2.2 (kA (gκ g)) (gs g) (gs g).heap := X.2.2.2.2.2.2.2.1.1
theorem CL_cs (X : CL g own cc nL FR LO RC RS) : va_Z "java/lang/String" "COMPACT_STRINGS" "Z" (.int 1) (kA (gκ g)) (gs g) (gs g).heap := X.2.2.2.2.2.2.2.1.2.1
theorem L_scod (X : CL g RJ0 cc nL FR LO RC RS) {i : Nat} (hi : i < nJS) (hd : decode cc pc = .ok (.getfield 15, 3)) (k : L g a b T (pc + 3) lo (.int 0 :: st)) : L g a b T pc lo (.ref (kS g i) :: st) := by
  intro H locs ls hP hS hls
  exact vk_getf X.1 X.2.1 ((CL_S X).1 i hi).2.1 hS X.2.2.2.1 (X.2.2.2.2.1 _ wF_J0_15) (fun _ h => h) hd (k H locs ls hP hS hls)
theorem L_sval (X : CL g RJ0 cc nL FR LO RC RS) {i : Nat} (hi : i < nJS) (hd : decode cc pc = .ok (.getfield 9, 3)) (k : L g a b T (pc + 3) lo (.ref (kV g i) :: st)) : L g a b T pc lo (.ref (kS g i) :: st) := by
  intro H locs ls hP hS hls
  exact vk_getf X.1 X.2.1 ((CL_S X).1 i hi).2.2.1 hS X.2.2.2.1 (X.2.2.2.2.1 _ wF_J0_9) (fun _ h => h) hd (k H locs ls hP hS hls)
theorem L_svln (X : CL g own cc nL FR LO RC RS) {i : Nat} (hi : i < nJS) (hd : decode cc pc = .ok (.arraylength, 1)) (k : L g a b T (pc + 1) lo (.int (nI (lenJS.getD i 0)) :: st)) : L g a b T pc lo (.ref (kV g i) :: st) := by
  intro H locs ls hP hS hls
  exact va_tlen X.1 X.2.1 ((CL_S X).1 i hi).2.2.2 hS rfl hd (k H locs ls hP hS hls)
/-- a method of a String constant -/
theorem L_cK (X : CL g own cc nL FR LO RC RS) (E : XE g ξ) {index : Nat} {y : MethodName} {bytes : ByteArray} {mx fr lo2 dc ds n : Nat} {ret : Option FieldType} {As rest : List Value} {post : Option Value → va_W → Prop} {i : Nat} (hi9 : i < nJS) (hM : CtM g.2.1 (gκ g) ξ y bytes mx ret fr lo2 dc ds (.ref (kS g i) :: As) T post) (cal : Cal y bytes mx ret n) (hl : Cond.methodLink own index y ∈ WG) (hi : Cond.instanceMethod y ∈ WG) (hse : Cond.selects RJ0 y y ∈ WG) (hR : Rm FR LO RC RS fr mx lo2 a b dc ds) (hn : As.length = n) {st : List Value} (hst : st = As.reverse ++ .ref (kS g i) :: rest) (hc : (rest.map fun v => v.category).sum ≤ 8)
    (hd : decode cc pc = .ok (.invokevirtual index, 3)) (k : ∀ rv T1, post rv T1 → L g (a + dc) (b + ds) T1 (pc + 3) lo (rv.toList ++ rest)) : L g a b T pc lo st := by
  intro H locs ls hP hS hls
  exact run_M (va_runV (CL_fix X) (hM X.2.2.2.2.2.2.2.2.2.2.2.1) ⟨callB_of n X.2.2.2.2.1 (wsK_in cal.1) rfl rfl rfl (X.2.2.2.2.1 _ cal.2.1) (X.2.2.2.2.1 _ hl) cal.2.2 (by rw [X.2.2.2.2.2.2.2.2.1, X.2.2.2.2.2.2.2.2.2.1]; exact hR.1), X.2.2.2.2.1 _ hi, X.2.2.2.2.1 _ hse⟩ ⟨PreM.blind, vk_recv (CL_S X) hi9 hS, fun U hU hW => ⟨rfl, XE_pre X E hP hS hU hW⟩⟩ rfl hn (hls.1.trans X.2.2.1) hst (lv_room hc) hd (by rw [X.2.2.2.2.2.2.1.1, X.2.2.2.2.2.2.1.2.1]; exact hR.2)) hS (fun rv T1 H1 locs1 hp hP1 hS1 => k rv T1 hp H1 locs1 ls hP1 hS1 hls)
theorem js_fit : ∀ i, i < nJS → ∀ k, k < lenJS.getD i 0 → fits .byte (.int ((bytJS.getD i []).getD k 0)) = true := by decide +kernel
theorem js_lt : ∀ i, i < nJS → lenJS.getD i 0 ≤ 9 := by decide +kernel
/-- System.arraycopy out of a constant's bytes, from its first -/
theorem L_copyK (X : CL g own cc nL FR LO RC RS) {index i x n1 : Nat} {h : Nat → Int32} {dp : Int32} {T' : va_W} (hi : i < nJS) (hl : Cond.methodLink own index arraycopyName ∈ WG) (q1 : Nat) (he1 : T[q1]? = some (x, .inl ((gκ g).2.1 2, n1, .inl h))) (h2 : ¬ dp < 0) (h5 : ix dp + lenJS.getD i 0 ≤ n1)
    (hR : 1 ≤ FR ∧ (st.map fun v => v.category).sum + (nativeFrameWords "java/lang/System" "arraycopy" 5 + 11) ≤ LO) (hT : T.set q1 (x, .inl ((gκ g).2.1 2, n1, .inl (va_cpy (fun k => (bytJS.getD i []).getD k 0) h 0 (ix dp) (lenJS.getD i 0)))) = T') (hd : decode cc pc = .ok (.invokestatic index, 3)) (k : L g a b T' (pc + 3) lo st) : L g a b T pc lo (.int (nI (lenJS.getD i 0)) :: .int dp :: .ref x :: .int 0 :: .ref (kV g i) :: st) := by
  intro H locs ls hP hS hls
  subst hT
  have hl9 := js_lt i hi
  have e0 : (0 : Int32).toNatClampNeg = 0 := rfl
  have e1 : (nI (lenJS.getD i 0)).toNatClampNeg = lenJS.getD i 0 := nI_clamp (by omega)
  refine vk_copyt X.1 X.2.1 (X.2.2.1.trans (hls.1.trans X.2.2.1).symm) X.2.2.2.1 (X.2.2.2.2.1 _ hl) (X.2.2.2.2.1 _ wV_acopy) (X.2.2.2.2.1 _ wT_acopy) (X.2.2.2.2.1 _ w0_J10) X.2.2.2.2.2.1.1 hP.1 hP.2 hS ((CL_S X).1 i hi).2.2.2 q1 1 he1 rfl (by decide) h2 (nI_pos (by omega)) (by rw [e0, e1]; omega) (by rw [e1]; exact h5) (fun k hk => by rw [e1] at hk; rw [e0, Nat.zero_add]; exact js_fit i hi k hk) (by rw [X.2.2.2.2.2.2.2.2.1]; exact hR.1) (by rw [X.2.2.2.2.2.2.2.2.2.1]; exact hR.2) hd (fun H1 locs1 hP1 hD1 hS1 => ?_)
  rw [e0, e1] at hP1 hD1
  exact k H1 locs1 ls ⟨hP1, hD1⟩ hS1 hls
/-- clone of an array of bytes -/
theorem L_clone (X : CL g own cc nL FR LO RC RS) (E : XE g ξ) {index x n : Nat} {f : Nat → Int32} (hl : Cond.methodLink own index ⟨"[B", "clone", "()Ljava/lang/Object;"⟩ ∈ WG) (q0 : Nat) (he : T[q0]? = some (x, .inl ((gκ g).2.1 2, n, .inl f))) (hfit : ∀ i, i < n → fits .byte (.int (f i)) = true) (hR : 1 ≤ FR ∧ (st.map fun v => v.category).sum + 14 ≤ LO) (hC : a + 1 ≤ RC) (hSl : b + n ≤ RS) (hd : decode cc pc = .ok (.invokevirtual index, 3))
    (k : ∀ q : Nat, L g (a + 1) (b + n) ((q, .inl ((gκ g).2.1 2, n, .inl f)) :: T) (pc + 3) lo (.ref q :: st)) : L g a b T pc lo (.ref x :: st) := by
  intro H locs ls hP hS hls
  have hw := fun (w : Cond) (h : w ∈ SPw) => (show w.before g.2.2.2.2.2.2.1 (gs g) = true from by
    have hg := SPw_good w h
    simp only [Bool.and_eq_true] at hg
    exact va_any hg.1 (E.2.2.2.2.2.2.2.1 w h))
  exact va_clone X.1 X.2.1 (X.2.2.1.trans (hls.1.trans X.2.2.1).symm) X.2.2.2.1 (X.2.2.2.2.1 _ hl) (hw _ (List.mem_of_getElem? (i := 5) rfl)) (hw _ (List.mem_of_getElem? (i := 6) rfl)) (hw _ (List.mem_of_getElem? (i := 7) rfl)) (hw _ (List.mem_of_getElem? (i := 8) rfl)) E.2.2.2.2.2.2.2.2.2 X.2.2.2.2.2.1.1 hP.1 hP.2 hS (CL_A X) q0 1 he rfl (X.2.2.2.2.2.1.1.2 1 _ rfl).2 (va_fit (F := fun k => .int (f k)) hfit) (by rw [X.2.2.2.2.2.2.2.2.1]; exact hR.1) (by rw [X.2.2.2.2.2.2.2.2.2.1]; exact hR.2) (by rw [X.2.2.2.2.2.2.1.1]; exact hC) (by rw [X.2.2.2.2.2.2.1.2.1]; exact hSl) hd
    (fun q H1 hK1 hP1 hD1 hS1 => k q H1 locs ls (WDs.perm ⟨hP1, hD1⟩ (List.perm_append_singleton _ _)) hS1 hls)
end
