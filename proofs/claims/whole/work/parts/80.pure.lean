/-! stage B: the two sides answer alike. errorCode and errorPosition -/
section
variable {k : TT → Option Int32} {xs : Nat → Int32} {L : Nat} {a4 : Int32} {x0 x1 x2 ta tb d S pg c m ot : St} {ps : Nat → St}
theorem bL_c4 (h : gI c 0 0 2 = gI m 0 0 10) : sL_c4 k xs L (x0, x1, x2, ps, ta, tb, d, S, pg, c, m, ot) a4 = k (x0, x1, x2, ps, ta, tb, d, S, pg, c, pI m 0 0 0 0, ot) := by
  show (if gI c 0 0 2 = gI (pI m 0 0 0 0) 0 0 10 then k (x0, x1, x2, ps, ta, tb, d, S, pg, c, pI m 0 0 0 0, ot) else some 0) = _
  exact if_pos (h.trans (gI_pI m 0 0 0 0 0 10 0).symm)
theorem bL_c5 (h : gI c 0 0 3 = gI m 0 0 11) : sL_c5 k xs L (x0, x1, x2, ps, ta, tb, d, S, pg, c, m, ot) a4 = k (x0, x1, x2, ps, ta, tb, d, S, pg, c, pI m 0 0 0 0, ot) := by
  show (if gI c 0 0 3 = gI (pI m 0 0 0 0) 0 0 11 then k (x0, x1, x2, ps, ta, tb, d, S, pg, c, pI m 0 0 0 0, ot) else some 0) = _
  exact if_pos (h.trans (gI_pI m 0 0 0 0 0 11 0).symm)
end
