/-! what the printed walks use beside the rows -/
def FU : Nat := 1000000
def chJ (i k : Nat) : Int32 := (bytJS.getD i []).getD k 0
def lenM (j : Nat) : Nat := [0, 700, 365, 365, 365, 365, 2190, 8, 8, 8, 60, 60, 60, 2, 2, 900].getD j 0
theorem sw_out {x : Int32} (lo hi : Int) (l : List Int32) (hc : l.map Int32.toInt = (List.range l.length).map (fun (i : Nat) => lo + (i : Int)) ∧ hi + 1 = lo + (l.length : Int)) (hx : ∀ c ∈ l, ¬ x = c) : x.toInt < lo ∨ hi < x.toInt := by
  rcases (by omega : x.toInt < lo ∨ lo ≤ x.toInt) with h | h
  · exact Or.inl h
  · rcases (by omega : hi < x.toInt ∨ x.toInt ≤ hi) with h2 | h2
    · exact Or.inr h2
    · exfalso
      obtain ⟨i, hi'⟩ : ∃ i : Nat, x.toInt = lo + (i : Int) := ⟨(x.toInt - lo).toNat, by omega⟩
      have hl : i < l.length := by omega
      have h3 : (l.map Int32.toInt)[i]? = some (lo + (i : Int)) := by
        rw [hc.1, List.getElem?_map, List.getElem?_range hl]; rfl
      rw [List.getElem?_map, List.getElem?_eq_getElem hl, Option.map_some] at h3
      exact hx l[i] (List.getElem_mem hl) (Int32.toInt_inj.mp (by rw [hi']; exact (Option.some.inj h3).symm))
theorem lk_out {x : Int32} {dflt : Int} : ∀ {ps : List (Int × Int)} (l : List Int32) (_ : ps.map Prod.fst = l.map Int32.toInt) (_ : ∀ c ∈ l, ¬ x = c), Op.lookupswitch.offset ps dflt x.toInt = dflt
  | [], _, _, _ => rfl
  | (p, o) :: r, [], hc, _ => by cases hc
  | (p, o) :: r, c :: l, hc, hx => by
    rw [List.map_cons, List.map_cons, List.cons.injEq] at hc
    show (if p = x.toInt then o else Op.lookupswitch.offset r dflt x.toInt) = dflt
    rw [if_neg (fun e => hx c List.mem_cons_self (Int32.toInt_inj.mp (by rw [← hc.1]; exact e.symm)))]
    exact lk_out l hc.2 (fun d hd => hx d (List.mem_cons_of_mem _ hd))
theorem wmin : Cond.code Lib.Math.min.name Lib.Math.min.code 2 (some .int) ∈ WG := wC_J9_min_7cf53
theorem wmax : Cond.code Lib.Math.max.name Lib.Math.max.code 2 (some .int) ∈ WG := wC_J9_max_7cf53
section
variable {g : GX} {a b : Nat} {T : TT} {pc : Nat} {lo : List (Nat × Value)} {st : List Value} {own : String} {cc : ByteArray} {nL FR LO : Nat}
theorem G_nmi {v e : Int32} (hv : v = e) (k : G g a b T pc lo (.int v :: st)) : G g a b T pc lo (.int e :: st) := hv ▸ k
theorem G_nml {v e : Int64} (hv : v = e) (k : G g a b T pc lo (.long v :: st)) : G g a b T pc lo (.long e :: st) := hv ▸ k
theorem G_mmin (X : CX g own cc nL FR LO) {index : Nat} {x y : Int32} (hl : Cond.methodLink own index Lib.Math.min.name ∈ WG) (hR : 1 ≤ FR ∧ 21 ≤ LO) (hc : (st.map fun v => v.category).sum ≤ 8) (hab : a ≤ g.2.2.2.1.cells ∧ b ≤ g.2.2.2.1.slots) (hd : decode cc pc = .ok (.invokestatic index, 3)) (k : G g a b T (pc + 3) lo (.int (if y < x then y else x) :: st)) : G g a b T pc lo (.int y :: .int x :: st) := by
  intro H locs ls hP hS hls
  exact va_mmin X.1 X.2.1 hls.1.symm X.2.2.2.1 (X.2.2.2.2.1 _ hl) (X.2.2.2.2.1 _ wT_J9_min_7cf53) (X.2.2.2.2.1 _ w0_J9) (X.2.2.2.2.1 _ wmin) (by rw [X.2.2.2.2.2.2.2.2.1]; exact hR.1) (by rw [X.2.2.2.2.2.2.2.2.2.1]; omega) hab.1 hab.2 hd (k H locs ls hP hS hls)
theorem G_mmax (X : CX g own cc nL FR LO) {index : Nat} {x y : Int32} (hl : Cond.methodLink own index Lib.Math.max.name ∈ WG) (hR : 1 ≤ FR ∧ 21 ≤ LO) (hc : (st.map fun v => v.category).sum ≤ 8) (hab : a ≤ g.2.2.2.1.cells ∧ b ≤ g.2.2.2.1.slots) (hd : decode cc pc = .ok (.invokestatic index, 3)) (k : G g a b T (pc + 3) lo (.int (if x < y then y else x) :: st)) : G g a b T pc lo (.int y :: .int x :: st) := by
  intro H locs ls hP hS hls
  exact va_mmax X.1 X.2.1 hls.1.symm X.2.2.2.1 (X.2.2.2.2.1 _ hl) (X.2.2.2.2.1 _ wT_J9_max_7cf53) (X.2.2.2.2.1 _ w0_J9) (X.2.2.2.2.1 _ wmax) (by rw [X.2.2.2.2.2.2.2.2.1]; exact hR.1) (by rw [X.2.2.2.2.2.2.2.2.2.1]; omega) hab.1 hab.2 hd (k H locs ls hP hS hls)
theorem G_ldcS (X : CX g own cc nL FR LO) {index i : Nat} {tx : String} (hm : (own, index, tx, i) ∈ SR) (hd : decode cc pc = .ok (.ldc index, 2)) (k : G g a b T (pc + 2) lo (.ref ((gκ g).2.2.2.2.1 i) :: st)) : G g a b T pc lo st := by
  intro H locs ls hP hS hls
  exact va_ldcS X.1 X.2.1 X.2.2.2.1 (X.2.2.2.2.2.1.2.2 _ hm) hd (k H locs ls hP hS hls)
end
