/-! rows: the law's own calls, the script, a local array -/
section
variable {g : GX} {ξ : XI} {a b n : Nat} {β : Nat → Nat → Nat} {ω : Nat → Nat} {e0 tx : Nat} {Y : St} {R : va_W} {pc : Nat} {lo : List (Nat × Value)} {st : List Value} {own : String} {cc : ByteArray} {nL FR LO RC RS : Nat}
theorem L_cW (X : CL g own cc nL FR LO RC RS) (E : XE g ξ) (hn : n < 9) {index : Nat} {y : MethodName} {bytes : ByteArray} {mx fr lo2 dc ds k : Nat} {ret : Option FieldType} {As rest : List Value} {post : Option Value → va_W → Prop} (hM : CtM g.2.1 (gκ g) ξ y bytes mx ret fr lo2 dc ds (.ref (β 0 0) :: As) (wsB (gκ g) n β ω e0 tx Y ++ R) post) (cal : Cal y bytes mx ret k) (hl : Cond.methodLink own index y ∈ WG) (hi : Cond.instanceMethod y ∈ WG) (hse : Cond.selects RX8 y y ∈ WG) (hR : Rm FR LO RC RS fr mx lo2 a b dc ds) (hk : As.length = k) {st : List Value} (hst : st = As.reverse ++ .ref (β 0 0) :: rest) (hc : (rest.map fun v => v.category).sum ≤ 8)
    (hd : decode cc pc = .ok (.invokevirtual index, 3)) (kk : ∀ rv T1, post rv T1 → L g (a + dc) (b + ds) T1 (pc + 3) lo (rv.toList ++ rest)) : L g a b (wsB (gκ g) n β ω e0 tx Y ++ R) pc lo st := by
  obtain ⟨i, hi2, he⟩ := wsB_at (κ := gκ g) (β := β) (ω := ω) (e0 := e0) (tx := tx) (Y := Y) (R := R) hn (o := 0) (j := 0) (v := (0, 8)) rfl
  rw [cB_obj (n := n) (o := 0) (j := 0) (c := 8) rfl] at he
  exact L_cV X E (q := vcl 8) hM cal hl hi hse i he rfl hR hk hst hc hd kk
theorem L_sldx (X : CL g own cc nL FR LO RC RS) (E : XE g ξ) {M : Nat} {xs : Nat → Int32} (hξ : ξ.1.2 = (M, xs)) {i : Int32} (hi : inb i M = true) (hd : decode cc pc = .ok (.iaload, 1)) {T : va_W} (k : L g a b T (pc + 1) lo (.int (xs (ix i)) :: st)) : L g a b T pc lo (.int i :: .ref ξ.1.1 :: st) := by
  refine L_sld X E (by rw [hξ]; exact hi) hd ?_
  rw [show ξ.1.2.2 = xs by rw [hξ]]
  exact k
theorem L_slenx (X : CL g own cc nL FR LO RC RS) (E : XE g ξ) {M : Nat} {xs : Nat → Int32} (hξ : ξ.1.2 = (M, xs)) (hd : decode cc pc = .ok (.arraylength, 1)) {T : va_W} (k : L g a b T (pc + 1) lo (.int (nI M) :: st)) : L g a b T pc lo (.ref ξ.1.1 :: st) := by
  refine L_slen X E hd ?_
  rw [show ξ.1.2.1 = M by rw [hξ]]
  exact k
theorem B_tin {c : Nat × va_E} (k : L g a b (wsB (gκ g) n β ω e0 tx Y ++ c :: R) pc lo st) : L g a b (c :: (wsB (gκ g) n β ω e0 tx Y ++ R)) pc lo st := L_perm List.perm_middle.symm k
theorem B_tat {c : Nat × va_E} : (wsB (gκ g) n β ω e0 tx Y ++ c :: R)[(wsB (gκ g) n β ω e0 tx Y).length]? = some c := by
  rw [List.getElem?_append_right (Nat.le_refl _), Nat.sub_self]
  rfl
theorem B_tld (X : CL g own cc nL FR LO RC RS) {q m : Nat} {f : Nat → Int32} {i : Int32} (hi : inb i m = true) (hd : decode cc pc = .ok (.iaload, 1)) (kk : L g a b (wsB (gκ g) n β ω e0 tx Y ++ (q, .inl ((gκ g).2.1 1, m, .inl f)) :: R) (pc + 1) lo (.int (f (ix i)) :: st)) : L g a b (wsB (gκ g) n β ω e0 tx Y ++ (q, .inl ((gκ g).2.1 1, m, .inl f)) :: R) pc lo (.int i :: .ref q :: st) :=
  L_iald X _ B_tat hi hd kk
theorem B_tst (X : CL g own cc nL FR LO RC RS) {q m : Nat} {f f' : Nat → Int32} {i v : Int32} (hi : inb i m = true) (hf : upd f (ix i) v = f') (hd : decode cc pc = .ok (.iastore, 1)) (kk : L g a b (wsB (gκ g) n β ω e0 tx Y ++ (q, .inl ((gκ g).2.1 1, m, .inl f')) :: R) (pc + 1) lo st) : L g a b (wsB (gκ g) n β ω e0 tx Y ++ (q, .inl ((gκ g).2.1 1, m, .inl f)) :: R) pc lo (.int v :: .int i :: .ref q :: st) := by
  subst hf
  refine L_iast X _ B_tat hi ?_ hd kk
  rw [List.set_append_right _ _ (Nat.le_refl _), Nat.sub_self]
  rfl
end
