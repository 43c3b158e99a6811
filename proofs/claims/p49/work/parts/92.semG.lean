/-! a world grown from numbers: what it is -/
theorem bN_00 {β : Nat → Nat → Nat} {n q s h l : Nat} : bN β n q s h l 0 0 = β 0 0 := if_neg (by omega)
theorem bN_q {β : Nat → Nat → Nat} {n q s h l : Nat} : bN β n q s h l (n + 1) 0 = q := if_pos rfl
theorem sbt_nil : SBt [] 16 (fun _ => 0) := ⟨by decide, by decide, sb_fit0, fun i hi => absurd hi (Nat.not_lt_zero _)⟩
def sX8_grown_b516 (fuel : Nat) (k504 : Nat → St → (List Int32) → Nat → Int32 → Int32 → Option (Nat × St × List Int32)) (Ln : Nat) (xs : Nat → Int32) (n : Nat) (Y : St) (t : List Int32) (u : Nat) (a3 : Int32) (a4 : Int32) (a5 : Int32) : Option (Nat × St × List Int32) := match fuel with
  | 0 => none
  | m + 1 =>
  if a3 ≤ a5 then
  nm (a4 + (1 : Int32)) fun v171 =>
  k504 n Y t u a3 v171
  else
  bd (sL_pick Ln xs (((120 : Int32) + ((8 : Int32) * a4)) + a5) (3 : Int32)) fun q172 =>
  if ¬ q172 = 0 then
  gd (inb a4 8) (gd (inb a5 8) (nm (pI Y 0 (ix a4 + 6) (ix a5) (1 : Int32)) fun z176 =>
  gd (inb a5 8) (gd (inb a4 8) (nm (pI z176 0 (ix a5 + 6) (ix a4) (1 : Int32)) fun z179 =>
  gd (ltN (t.length + lenJS.getD 24 0) 601) (gd (ltN u 200) (nm (t ++ bytJS.getD 24 []) fun t182 =>
  nm ((((97 : Int32) + a5).toUInt32 % 65536).toInt32) fun v184 =>
  gd (inb v184 128) (gd (ltN t182.length 600) (gd (ltN (u + 1) 200) (nm (t182 ++ [v184]) fun t188 =>
  gd (ltN (t188.length + lenJS.getD 19 0) 601) (gd (ltN (u + 1 + 1) 200) (nm (t188 ++ bytJS.getD 19 []) fun t192 =>
  nm ((((97 : Int32) + a4).toUInt32 % 65536).toInt32) fun v194 =>
  gd (inb v194 128) (gd (ltN t192.length 600) (gd (ltN (u + 1 + 1 + 1) 200) (nm (t192 ++ [v194]) fun t198 =>
  gd (ltN (t198.length + lenJS.getD 12 0) 601) (gd (ltN (u + 1 + 1 + 1 + 1) 200) (nm (t198 ++ bytJS.getD 12 []) fun t202 =>
  nm (a5 + (1 : Int32)) fun v204 =>
  sX8_grown_b516 m k504 Ln xs n z179 t202 (u + 1 + 1 + 1 + 1 + 1) a3 a4 v204))))))))))))))))
  else
  nm (a5 + (1 : Int32)) fun v205 =>
  sX8_grown_b516 m k504 Ln xs n Y t u a3 a4 v205
def sX8_grown_b504 (fuel : Nat) (Ln : Nat) (xs : Nat → Int32) (n : Nat) (Y : St) (t : List Int32) (u : Nat) (a3 : Int32) (a4 : Int32) : Option (Nat × St × List Int32) := match fuel with
  | 0 => none
  | m + 1 =>
  if a3 ≤ a4 then
  gd (ltN u 200) (some (n, Y, t))
  else
  sX8_grown_b516 FU (fun n' Y' t' u' a3' a4' => sX8_grown_b504 m Ln xs n' Y' t' u' a3' a4') Ln xs n Y t u a3 a4 (a4 + (1 : Int32))
def sX8_grown_b458 (Ln : Nat) (xs : Nat → Int32) (n : Nat) (Y : St) (t : List Int32) (u : Nat) (a3 : Int32) : Option (Nat × St × List Int32) :=
  bd (sL_pick Ln xs (7 : Int32) (2 : Int32)) fun q130 =>
  if ¬ q130 = 0 then
  sX8_grown_b504 FU Ln xs n Y t u a3 (0 : Int32)
  else
  bd (sL_pick Ln xs (8 : Int32) (60 : Int32)) fun q132 =>
  nm (pI Y 0 0 3 ((1 : Int32) + q132)) fun z133 =>
  gd (ltN (t.length + lenJS.getD 23 0) 601) (gd (ltN u 200) (nm (t ++ bytJS.getD 23 []) fun t136 =>
  gd (inb (gI z133 0 0 3) 1000) (gd (ltN (t136.length + 2) 600) (gd (ltN (u + 1) 200) (nm (t136 ++ dgs (ix (gI z133 0 0 3))) fun t141 =>
  gd (ltN (t141.length + lenJS.getD 12 0) 601) (gd (ltN (u + 1 + 1) 200) (nm (t141 ++ bytJS.getD 12 []) fun t145 =>
  sX8_grown_b504 FU Ln xs n z133 t145 (u + 1 + 1 + 1) a3 (0 : Int32))))))))
def sX8_grown_b417 (Ln : Nat) (xs : Nat → Int32) (n : Nat) (Y : St) (t : List Int32) (u : Nat) (a3 : Int32) : Option (Nat × St × List Int32) :=
  bd (sL_pick Ln xs (5 : Int32) (2 : Int32)) fun q100 =>
  if ¬ q100 = 0 then
  sX8_grown_b458 Ln xs n Y t u a3
  else
  bd (sL_pick Ln xs (6 : Int32) (4 : Int32)) fun q102 =>
  nm (pI Y 0 0 2 ((1 : Int32) + q102)) fun z103 =>
  gd (ltN (t.length + lenJS.getD 22 0) 601) (gd (ltN u 200) (nm (t ++ bytJS.getD 22 []) fun t106 =>
  gd (inb (gI z103 0 0 2) 1000) (gd (ltN (t106.length + 2) 600) (gd (ltN (u + 1) 200) (nm (t106 ++ dgs (ix (gI z103 0 0 2))) fun t111 =>
  gd (ltN (t111.length + lenJS.getD 12 0) 601) (gd (ltN (u + 1 + 1) 200) (nm (t111 ++ bytJS.getD 12 []) fun t115 =>
  sX8_grown_b458 Ln xs n z103 t115 (u + 1 + 1 + 1) a3)))))))
def sX8_grown_b377 (Ln : Nat) (xs : Nat → Int32) (n : Nat) (Y : St) (t : List Int32) (u : Nat) (a3 : Int32) : Option (Nat × St × List Int32) :=
  bd (sL_pick Ln xs (3 : Int32) (2 : Int32)) fun q51 =>
  if ¬ q51 = 0 then
  sX8_grown_b417 Ln xs n Y t u a3
  else
  bd (sL_pick Ln xs (4 : Int32) (1000 : Int32)) fun q53 =>
  nm (pI Y 0 0 1 q53) fun z54 =>
  gd (ltN (t.length + lenJS.getD 21 0) 601) (gd (ltN u 200) (nm (t ++ bytJS.getD 21 []) fun t57 =>
  gd (inb (gI z54 0 0 1) 1000) (gd (ltN (t57.length + 2) 600) (gd (ltN (u + 1) 200) (nm (t57 ++ dgs (ix (gI z54 0 0 1))) fun t62 =>
  gd (ltN (t62.length + lenJS.getD 12 0) 601) (gd (ltN (u + 1 + 1) 200) (nm (t62 ++ bytJS.getD 12 []) fun t66 =>
  sX8_grown_b417 Ln xs n z54 t66 (u + 1 + 1 + 1) a3)))))))
def sX8_grown_b323 (fuel : Nat) (Ln : Nat) (xs : Nat → Int32) (n : Nat) (Y : St) (t : List Int32) (u : Nat) (a3 : Int32) (a4 : Int32) : Option (Nat × St × List Int32) := match fuel with
  | 0 => none
  | m + 1 =>
  if (4 : Int32) ≤ a4 then
  gd (ltN (t.length + lenJS.getD 20 0) 601) (gd (ltN u 200) (nm (t ++ bytJS.getD 20 []) fun t71 =>
  sX8_grown_b377 Ln xs n Y t71 (u + 1) a3))
  else
  bd (sL_pick Ln xs ((110 : Int32) + a4) (8 : Int32)) fun q73 =>
  gd (inb a4 4) (nm (pI Y 0 1 (ix a4) q73) fun z75 =>
  gd (ltN (t.length + lenJS.getD 19 0) 601) (gd (ltN u 200) (nm (t ++ bytJS.getD 19 []) fun t78 =>
  gd (inb a4 4) (gd (inb (gI z75 0 1 (ix a4)) 1000) (gd (ltN (t78.length + 2) 600) (gd (ltN (u + 1) 200) (nm (t78 ++ dgs (ix (gI z75 0 1 (ix a4)))) fun t84 =>
  nm (a4 + (1 : Int32)) fun v86 =>
  sX8_grown_b323 m Ln xs n z75 t84 (u + 1 + 1) a3 v86)))))))
def sX8_grown_b279 (k27 : Nat → St → (List Int32) → Nat → Int32 → Int32 → Option (Nat × St × List Int32)) (Ln : Nat) (xs : Nat → Int32) (n : Nat) (Y : St) (t : List Int32) (u : Nat) (a3 : Int32) (a4 : Int32) : Option (Nat × St × List Int32) :=
  gd (ltN (t.length + lenJS.getD 12 0) 601) (gd (ltN u 200) (nm (t ++ bytJS.getD 12 []) fun t164 =>
  gd (ltN (u + 1) 200) (nm (a4 + (1 : Int32)) fun v169 =>
  k27 (n + 1) Y t164 (u + 1 + 1) a3 v169)))
def sX8_grown_b232 (k27 : Nat → St → (List Int32) → Nat → Int32 → Int32 → Option (Nat × St × List Int32)) (Ln : Nat) (xs : Nat → Int32) (n : Nat) (Y : St) (t : List Int32) (u : Nat) (a3 : Int32) (a4 : Int32) : Option (Nat × St × List Int32) :=
  bd (sL_pick Ln xs ((80 : Int32) + a4) (2 : Int32)) fun q147 =>
  if ¬ q147 = 0 then
  sX8_grown_b279 k27 Ln xs n Y t u a3 a4
  else
  bd (sL_pick Ln xs ((90 : Int32) + a4) (300 : Int32)) fun q149 =>
  nm (pI Y (n + 1) 0 4 ((1 : Int32) + q149)) fun z150 =>
  gd (ltN (t.length + lenJS.getD 11 0) 601) (gd (ltN u 200) (nm (t ++ bytJS.getD 11 []) fun t153 =>
  gd (inb (gI z150 (n + 1) 0 4) 1000) (gd (ltN (t153.length + 2) 600) (gd (ltN (u + 1) 200) (nm (t153 ++ dgs (ix (gI z150 (n + 1) 0 4))) fun t158 =>
  sX8_grown_b279 k27 Ln xs n z150 t158 (u + 1 + 1) a3 a4)))))
def sX8_grown_b187 (k27 : Nat → St → (List Int32) → Nat → Int32 → Int32 → Option (Nat × St × List Int32)) (Ln : Nat) (xs : Nat → Int32) (n : Nat) (Y : St) (t : List Int32) (u : Nat) (a3 : Int32) (a4 : Int32) : Option (Nat × St × List Int32) :=
  bd (sL_pick Ln xs ((60 : Int32) + a4) (2 : Int32)) fun q117 =>
  if ¬ q117 = 0 then
  sX8_grown_b232 k27 Ln xs n Y t u a3 a4
  else
  bd (sL_pick Ln xs ((70 : Int32) + a4) (3 : Int32)) fun q119 =>
  nm (pI Y (n + 1) 0 3 ((1 : Int32) + q119)) fun z120 =>
  gd (ltN (t.length + lenJS.getD 9 0) 601) (gd (ltN u 200) (nm (t ++ bytJS.getD 9 []) fun t123 =>
  gd (inb (gI z120 (n + 1) 0 3) 1000) (gd (ltN (t123.length + 2) 600) (gd (ltN (u + 1) 200) (nm (t123 ++ dgs (ix (gI z120 (n + 1) 0 3))) fun t128 =>
  sX8_grown_b232 k27 Ln xs n z120 t128 (u + 1 + 1) a3 a4)))))
def sX8_grown_b142 (k27 : Nat → St → (List Int32) → Nat → Int32 → Int32 → Option (Nat × St × List Int32)) (Ln : Nat) (xs : Nat → Int32) (n : Nat) (Y : St) (t : List Int32) (u : Nat) (a3 : Int32) (a4 : Int32) : Option (Nat × St × List Int32) :=
  bd (sL_pick Ln xs ((40 : Int32) + a4) (2 : Int32)) fun q87 =>
  if ¬ q87 = 0 then
  sX8_grown_b187 k27 Ln xs n Y t u a3 a4
  else
  bd (sL_pick Ln xs ((50 : Int32) + a4) (3 : Int32)) fun q89 =>
  nm (pI Y (n + 1) 0 2 ((1 : Int32) + q89)) fun z90 =>
  gd (ltN (t.length + lenJS.getD 6 0) 601) (gd (ltN u 200) (nm (t ++ bytJS.getD 6 []) fun t93 =>
  gd (inb (gI z90 (n + 1) 0 2) 1000) (gd (ltN (t93.length + 2) 600) (gd (ltN (u + 1) 200) (nm (t93 ++ dgs (ix (gI z90 (n + 1) 0 2))) fun t98 =>
  sX8_grown_b187 k27 Ln xs n z90 t98 (u + 1 + 1) a3 a4)))))
def sX8_grown_b27 (fuel : Nat) (Ln : Nat) (xs : Nat → Int32) (n : Nat) (Y : St) (t : List Int32) (u : Nat) (a3 : Int32) (a4 : Int32) : Option (Nat × St × List Int32) := match fuel with
  | 0 => none
  | m + 1 =>
  if a3 ≤ a4 then
  bd (sL_pick Ln xs (2 : Int32) (2 : Int32)) fun q5 =>
  if ¬ q5 = 0 then
  sX8_grown_b377 Ln xs n Y t u a3
  else
  gd (ltN (t.length + lenJS.getD 13 0) 601) (gd (ltN u 200) (nm (t ++ bytJS.getD 13 []) fun t9 =>
  sX8_grown_b323 FU Ln xs n Y t9 (u + 1) a3 (0 : Int32)))
  else
  gd (ltN u 200) (gd (ltN n 5) (nm (Yb Y n) fun z16 =>
  bd (sL_pick Ln xs ((10 : Int32) + a4) (14 : Int32)) fun q17 =>
  nm (pI z16 (n + 1) 0 0 ((2 : Int32) + q17)) fun z18 =>
  bd (sL_pick Ln xs ((20 : Int32) + a4) (2 : Int32)) fun q19 =>
  bd (sL_pick Ln xs ((30 : Int32) + a4) (gI z18 (n + 1) 0 0)) fun q20 =>
  nm (pI z18 (n + 1) 0 1 (q19 * q20)) fun z21 =>
  gd (ltN (t.length + lenJS.getD 2 0) 601) (gd (ltN (u + 1) 200) (nm (t ++ bytJS.getD 2 []) fun t24 =>
  nm ((((97 : Int32) + a4).toUInt32 % 65536).toInt32) fun v26 =>
  gd (inb v26 128) (gd (ltN t24.length 600) (gd (ltN (u + 1 + 1) 200) (nm (t24 ++ [v26]) fun t30 =>
  gd (ltN (t30.length + lenJS.getD 4 0) 601) (gd (ltN (u + 1 + 1 + 1) 200) (nm (t30 ++ bytJS.getD 4 []) fun t34 =>
  gd (inb (gI z21 (n + 1) 0 0) 1000) (gd (ltN (t34.length + 2) 600) (gd (ltN (u + 1 + 1 + 1 + 1) 200) (nm (t34 ++ dgs (ix (gI z21 (n + 1) 0 0))) fun t39 =>
  if (gI z21 (n + 1) 0 1) ≤ 0 then
  sX8_grown_b142 (fun n' Y' t' u' a3' a4' => sX8_grown_b27 m Ln xs n' Y' t' u' a3' a4') Ln xs n z21 t39 (u + 1 + 1 + 1 + 1 + 1) a3 a4
  else
  gd (ltN (t39.length + lenJS.getD 5 0) 601) (gd (ltN (u + 1 + 1 + 1 + 1 + 1) 200) (nm (t39 ++ bytJS.getD 5 []) fun t44 =>
  gd (inb (gI z21 (n + 1) 0 1) 1000) (gd (ltN (t44.length + 2) 600) (gd (ltN (u + 1 + 1 + 1 + 1 + 1 + 1) 200) (nm (t44 ++ dgs (ix (gI z21 (n + 1) 0 1))) fun t49 =>
  sX8_grown_b142 (fun n' Y' t' u' a3' a4' => sX8_grown_b27 m Ln xs n' Y' t' u' a3' a4') Ln xs n z21 t49 (u + 1 + 1 + 1 + 1 + 1 + 1 + 1) a3 a4)))))))))))))))))
def sX8_grown (Ln : Nat) (xs : Nat → Int32) : Option (Nat × St × List Int32) :=
  bd (sL_pick Ln xs (1 : Int32) (6 : Int32)) fun q3 =>
  sX8_grown_b27 FU Ln xs 0 Yw ([]) 4 q3 (0 : Int32)
