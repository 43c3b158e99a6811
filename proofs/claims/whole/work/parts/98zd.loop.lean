/-! stage B: the whole law -/
section
variable {k : TT → Option Int32} {xs : Nat → Int32} {L i : Nat}
theorem b_sw {T : TT} (h : RT T) (hi : i + 5 < L) (hL : L ≤ 3072) (hk : ∀ T', RT T' → k T' = some 1) (v : Int32) : sL_sw k xs L T (nI i) v = some 1 := by
  obtain ⟨y0, y1, y2, ps, ta, tb, d, S, pg, c, m, ot⟩ := T
  have h : RG y0 y2 ps pg c m := h
  unfold sL_sw
  by_cases v0 : v = (0 : Int32)
  · rw [if_pos v0]; exact bL_c0 h hi hL hk
  rw [if_neg v0]
  by_cases v1 : v = (1 : Int32)
  · rw [if_pos v1]; exact bL_c1 h hi hL hk
  rw [if_neg v1]
  by_cases v2 : v = (2 : Int32)
  · rw [if_pos v2]; exact bL_c2 h hi hL hk
  rw [if_neg v2]
  by_cases v3 : v = (3 : Int32)
  · rw [if_pos v3]; exact bL_c3 h hi hL hk
  rw [if_neg v3]
  by_cases v4 : v = (4 : Int32)
  · rw [if_pos v4]; exact bL_r4 h hk
  rw [if_neg v4]
  by_cases v5 : v = (5 : Int32)
  · rw [if_pos v5]; exact bL_r5 h hk
  rw [if_neg v5]
  by_cases v6 : v = (6 : Int32)
  · rw [if_pos v6]; exact bL_c6 h hi hL hk
  rw [if_neg v6]
  by_cases v7 : v = (7 : Int32)
  · rw [if_pos v7]; exact bL_c7 h hi hL hk
  rw [if_neg v7]
  by_cases v8 : v = (8 : Int32)
  · rw [if_pos v8]; exact bL_c8 h hi hL hk
  rw [if_neg v8]
  by_cases v9 : v = (9 : Int32)
  · rw [if_pos v9]; exact bL_c9 h hi hL hk
  rw [if_neg v9]
  by_cases v10 : v = (10 : Int32)
  · rw [if_pos v10]; exact bL_c10 h hi hL hk
  rw [if_neg v10]
  by_cases v11 : v = (11 : Int32)
  · rw [if_pos v11]; exact bL_c11 h hi hL hk
  rw [if_neg v11]
  by_cases v12 : v = (12 : Int32)
  · rw [if_pos v12]; exact bL_c12 h hi hL hk
  rw [if_neg v12]
  by_cases v13 : v = (13 : Int32)
  · rw [if_pos v13]; exact bL_c13 h hk
  rw [if_neg v13]
  by_cases v14 : v = (14 : Int32)
  · rw [if_pos v14]; exact bL_c14 h hk
  rw [if_neg v14]
  by_cases v15 : v = (15 : Int32)
  · rw [if_pos v15]; exact bL_c15 h hi hL hk
  rw [if_neg v15]
  by_cases v16 : v = (16 : Int32)
  · rw [if_pos v16]; exact bL_c16 h hi hL hk
  rw [if_neg v16]
  by_cases v17 : v = (17 : Int32)
  · rw [if_pos v17]; exact bL_c17 h hi hL hk
  rw [if_neg v17]
  by_cases v18 : v = (18 : Int32)
  · rw [if_pos v18]; exact bL_c18 h hi hL hk
  rw [if_neg v18]
  by_cases v19 : v = (19 : Int32)
  · rw [if_pos v19]; exact bL_c19 h hi hL hk
  rw [if_neg v19]
  by_cases v20 : v = (20 : Int32)
  · rw [if_pos v20]; exact bL_c20 h hi hL hk
  rw [if_neg v20]
  by_cases v21 : v = (21 : Int32)
  · rw [if_pos v21]; exact bL_c21 h hi hL hk
  rw [if_neg v21]
  by_cases v22 : v = (22 : Int32)
  · rw [if_pos v22]; exact bL_c22 h hi hL hk
  rw [if_neg v22]
  by_cases v23 : v = (23 : Int32)
  · rw [if_pos v23]; exact bL_c23 h hi hL hk
  rw [if_neg v23]
  by_cases v24 : v = (24 : Int32)
  · rw [if_pos v24]; exact bL_c24 h hi hL hk
  rw [if_neg v24]
  by_cases v25 : v = (25 : Int32)
  · rw [if_pos v25]; exact bL_c25 h hi hL hk
  rw [if_neg v25]
  by_cases v26 : v = (26 : Int32)
  · rw [if_pos v26]; exact bL_c26 h hi hL hk
  rw [if_neg v26]
  by_cases v27 : v = (27 : Int32)
  · rw [if_pos v27]; exact bL_c27 h hi hL hk
  rw [if_neg v27]
  by_cases v28 : v = (28 : Int32)
  · rw [if_pos v28]; exact bL_c28 h hi hL hk
  rw [if_neg v28]
  by_cases v29 : v = (29 : Int32)
  · rw [if_pos v29]; exact bL_c29 h hi hL hk
  rw [if_neg v29]
  by_cases v30 : v = (30 : Int32)
  · rw [if_pos v30]; exact bL_c30 h hi hL hk
  rw [if_neg v30]
  by_cases v31 : v = (31 : Int32)
  · rw [if_pos v31]; exact bL_c31 h hi hL hk
  rw [if_neg v31]
  by_cases v32 : v = (32 : Int32)
  · rw [if_pos v32]; exact bL_c32 h hi hL hk
  rw [if_neg v32]
  by_cases v33 : v = (33 : Int32)
  · rw [if_pos v33]; exact bL_c33 h hi hL hk
  rw [if_neg v33]
  by_cases v34 : v = (34 : Int32)
  · rw [if_pos v34]; exact bL_c34 h hi hL hk
  rw [if_neg v34]
  by_cases v35 : v = (35 : Int32)
  · rw [if_pos v35]; exact bL_c35 h hi hL hk
  rw [if_neg v35]
  by_cases v36 : v = (36 : Int32)
  · rw [if_pos v36]; exact bL_c36 h hi hL hk
  rw [if_neg v36]
  by_cases v37 : v = (37 : Int32)
  · rw [if_pos v37]; exact bL_c37 h hi hL hk
  rw [if_neg v37]
  by_cases v38 : v = (38 : Int32)
  · rw [if_pos v38]; exact bL_c38 h hi hL hk
  rw [if_neg v38]
  by_cases v39 : v = (39 : Int32)
  · rw [if_pos v39]; exact bL_c39 h hi hL hk
  rw [if_neg v39]
  by_cases v40 : v = (40 : Int32)
  · rw [if_pos v40]; exact bL_c40 h hi hL hk
  rw [if_neg v40]
  by_cases v41 : v = (41 : Int32)
  · rw [if_pos v41]; exact bL_c41 h hi hL hk
  rw [if_neg v41]
  by_cases v42 : v = (42 : Int32)
  · rw [if_pos v42]; exact bL_c42 h hi hL hk
  rw [if_neg v42]
  by_cases v43 : v = (43 : Int32)
  · rw [if_pos v43]; exact bL_c43 h hi hL hk
  rw [if_neg v43]
  by_cases v44 : v = (44 : Int32)
  · rw [if_pos v44]; exact bL_c44 h hi hL hk
  rw [if_neg v44]
  by_cases v45 : v = (45 : Int32)
  · rw [if_pos v45]; exact bL_c45 h hi hL hk
  rw [if_neg v45]
  exact hk _ h
theorem all_loop (hL : L ≤ 3072) : ∀ (F : Nat) (T : TT) (i : Nat), RT T → i ≤ L → L < i + 6 * F → sL_loop xs L F T (nI i) = some 1
  | 0, T, i, _, h1, h2 => absurd h2 (by omega)
  | F + 1, T, i, h, h1, h2 => by
    have e : (nI L - nI 6).toInt = (L : Int) - 6 := pk_sub_toInt (a := L) (b := 6) (by omega) (by decide)
    have ei : (nI i).toInt = (i : Int) := nI_toInt (by omega)
    simp only [sL_loop, zl]
    by_cases hc : L < i + 6
    · rw [if_pos (by rw [Int32.lt_iff_toInt_lt, e, ei]; omega)]
    · rw [if_neg (by rw [Int32.lt_iff_toInt_lt, e, ei]; omega), inb_t (by omega) (by omega), gd_tt]
      refine b_sw h (by omega) hL (fun T' hT => ?_) _
      rw [nI_add]
      exact all_loop hL F T' (i + 6) hT (by omega) (by omega)
theorem all_well (xs : Nat → Int32) (L : Nat) (hL : L ≤ 3072) : sL_loop xs L FU T0 0 = some 1 := all_loop hL FU T0 0 rt_start (Nat.zero_le _) (by have : FU = 1000000 := rfl; omega)
end
