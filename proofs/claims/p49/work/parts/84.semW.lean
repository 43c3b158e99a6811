def sL_cell (Ln : Nat) (xs : Nat → Int32)  (a1 : Int32) : Option (Int32) :=
  if (nI Ln) ≤ a1 then
  some (((1664525 : Int32) * a1) + (40462 : Int32))
  else
  gd (inb a1 Ln) (some (xs (ix a1)))
def sL_pick (Ln : Nat) (xs : Nat → Int32)  (a1 : Int32) (a2 : Int32) : Option (Int32) :=
  bd (sL_cell Ln xs a1) fun q1 =>
  gd (nz a2) (some ((q1 &&& (2147483647 : Int32)) - (q1 &&& (2147483647 : Int32)) / a2 * a2))
def sX8_knows (n : Nat) (Y : St) (a1 : Int32) (a2 : Int32) : Option (Int32) :=
  gd (inb a1 n) (gd (inb a2 8) (if (gI Y (ix a1 + 1) 2 (ix a2)) < 0 then
  some (0 : Int32)
  else
  gd (inb a1 n) (gd (inb a2 8) (if (gI Y 0 0 3) < ((gI Y 0 0 0) - (gI Y (ix a1 + 1) 2 (ix a2))) then
  some (0 : Int32)
  else
  some (1 : Int32)))))
def sX8_window (n : Nat) (Y : St) (a1 : Int32) : Option (Int32) :=
  gd (inb a1 n) (some (if ((2 : Int32) <<< ((gI Y (ix a1 + 1) 0 7) &&& (31 : Int32))) < (32 : Int32) then ((2 : Int32) <<< ((gI Y (ix a1 + 1) 0 7) &&& (31 : Int32))) else (32 : Int32)))
def sX8_draw (n : Nat) (Y : St) (a1 : Int32) : Option (St × Int32) :=
  nm (((gI Y 0 0 1) * (1103515245 : Int32)) + (12345 : Int32)) fun v1 =>
  nm (pI Y 0 0 1 v1) fun z2 =>
  gd (nz a1) (some (z2, (((gI z2 0 0 1).toUInt32 >>> ((16 : Int32).toUInt32 &&& Int32.toUInt32 31)).toInt32) - (((gI z2 0 0 1).toUInt32 >>> ((16 : Int32).toUInt32 &&& Int32.toUInt32 31)).toInt32) / a1 * a1))
def sX8_isDue (n : Nat) (Y : St) (a1 : Int32) (a2 : Int32) : Option (Int32) :=
  gd (inb a1 n) (if a2 < (gI Y (ix a1 + 1) 0 1) then
  some (0 : Int32)
  else
  gd (inb a1 n) (gd (inb a1 n) (gd (nz (gI Y (ix a1 + 1) 0 0)) (if ¬ ((a2 - (gI Y (ix a1 + 1) 0 1)) - (a2 - (gI Y (ix a1 + 1) 0 1)) / (gI Y (ix a1 + 1) 0 0) * (gI Y (ix a1 + 1) 0 0)) = 0 then
  some (0 : Int32)
  else
  some (1 : Int32)))))
def sX8_knowsAll_b2 (fuel : Nat) (n : Nat) (Y : St) (a1 : Int32) (a2 : Int32) : Option (Int32) := match fuel with
  | 0 => none
  | m + 1 =>
  if (nI n) ≤ a2 then
  some (1 : Int32)
  else
  gd (inb a1 8) (gd (inb a2 8) (if (gI Y 0 (ix a1 + 6) (ix a2)) = 0 then
  nm (a2 + (1 : Int32)) fun v5 =>
  sX8_knowsAll_b2 m n Y a1 v5
  else
  bd (sX8_knows n Y a1 a2) fun q6 =>
  if ¬ q6 = 0 then
  nm (a2 + (1 : Int32)) fun v8 =>
  sX8_knowsAll_b2 m n Y a1 v8
  else
  some (0 : Int32)))
def sX8_knowsAll (n : Nat) (Y : St) (a1 : Int32) : Option (Int32) :=
  sX8_knowsAll_b2 FU n Y a1 (0 : Int32)
def sX8_near_b4 (fuel : Nat) (n : Nat) (Y : St) (a1 : Int32) (a2 : Int32) (a3 : Int32) : Option (Int32) := match fuel with
  | 0 => none
  | m + 1 =>
  if (nI n) ≤ a3 then
  some a2
  else
  gd (inb a1 8) (gd (inb a3 8) (if (gI Y 0 (ix a1 + 6) (ix a3)) = 0 then
  nm (a3 + (1 : Int32)) fun v5 =>
  sX8_near_b4 m n Y a1 (a2 + (0 : Int32)) v5
  else
  nm (a3 + (1 : Int32)) fun v6 =>
  sX8_near_b4 m n Y a1 (a2 + (1 : Int32)) v6))
def sX8_near (n : Nat) (Y : St) (a1 : Int32) : Option (Int32) :=
  sX8_near_b4 FU n Y a1 (0 : Int32) (0 : Int32)
def sX8_waits (n : Nat) (Y : St) (a1 : Int32) : Option (St) :=
  gd (inb a1 n) (nm (pI Y (ix a1 + 1) 0 5 (2 : Int32)) fun z2 =>
  gd (inb a1 n) (bd (sX8_window n z2 a1) fun q4 =>
  bd (sX8_draw n z2 q4) fun q5 =>
  nm (pI q5.1 (ix a1 + 1) 0 6 ((1 : Int32) + q5.2)) fun z6 =>
  some z6))
def sX8_sendersNear_b4 (fuel : Nat) (n : Nat) (Y : St) (a1 : Int32) (a2 : Int32) (a3 : Int32) : Option (Int32) := match fuel with
  | 0 => none
  | m + 1 =>
  if (nI n) ≤ a3 then
  some a2
  else
  gd (inb a1 8) (gd (inb a3 8) (if (gI Y 0 (ix a1 + 6) (ix a3)) = 0 then
  nm (a3 + (1 : Int32)) fun v5 =>
  sX8_sendersNear_b4 m n Y a1 (a2 + (0 : Int32)) v5
  else
  gd (inb a3 n) (if ¬ (gI Y (ix a3 + 1) 0 5) = (3 : Int32) then
  nm (a3 + (1 : Int32)) fun v8 =>
  sX8_sendersNear_b4 m n Y a1 (a2 + (0 : Int32)) v8
  else
  nm (a3 + (1 : Int32)) fun v9 =>
  sX8_sendersNear_b4 m n Y a1 (a2 + (1 : Int32)) v9)))
def sX8_sendersNear (n : Nat) (Y : St) (a1 : Int32) : Option (Int32) :=
  sX8_sendersNear_b4 FU n Y a1 (0 : Int32) (0 : Int32)
def sX8_deaf (n : Nat) (Y : St) (a1 : Int32) (a2 : Int32) : Option (Int32) :=
  gd (inb a1 n) (gd (inb a1 8) (gd (inb a2 8) (if ¬ (gI Y 0 (ix a1 + 6) (ix a2)) = 0 then
  if (gI Y (ix a1 + 1) 0 5) = 0 then
  some (2 : Int32)
  else
  if ¬ (gI Y (ix a1 + 1) 0 5) = (4 : Int32) then
  if ¬ (gI Y (ix a1 + 1) 0 5) = (3 : Int32) then
  bd (sX8_sendersNear n Y a1) fun q8 =>
  if q8 ≤ (1 : Int32) then
  some (0 : Int32)
  else
  some (4 : Int32)
  else
  some (3 : Int32)
  else
  some (2 : Int32)
  else
  some (1 : Int32))))
def sX8_changes_b93 (fuel : Nat) (n : Nat) (Y : St) (u : Nat) (a1 : Int32) (b2 : Nat) (a3 : Int32) (a4 : Int32) : Option (St) := match fuel with
  | 0 => none
  | m + 1 =>
  if (nI n) ≤ a4 then
  if (gI Y (b2 + 1) 0 5) = (3 : Int32) then
  some Y
  else
  if ¬ a3 = 0 then
  some Y
  else
  nm ((gI Y (b2 + 1) 0 6) - (1 : Int32)) fun v13 =>
  nm (pI Y (b2 + 1) 0 6 v13) fun z14 =>
  if v13 ≤ 0 then
  if ¬ (gI z14 (b2 + 1) 0 5) = (1 : Int32) then
  nm (pI z14 (b2 + 1) 0 5 (3 : Int32)) fun z17 =>
  nm (pI z17 (b2 + 1) 0 6 (gI z17 (b2 + 1) 0 3)) fun z18 =>
  gd (ltN u 1) (nm (zR z18 (b2 + 1) 3) fun z21 =>
  some z21)
  else
  bd (sX8_waits n z14 a1) fun q22 =>
  some q22
  else
  some z14
  else
  if ¬ (gI Y (b2 + 1) 0 5) = (2 : Int32) then
  nm (a4 + (1 : Int32)) fun v24 =>
  sX8_changes_b93 m n Y u a1 b2 (a3 ||| (0 : Int32)) v24
  else
  gd (inb a1 8) (gd (inb a4 8) (if (gI Y 0 (ix a1 + 6) (ix a4)) = 0 then
  nm (a4 + (1 : Int32)) fun v28 =>
  sX8_changes_b93 m n Y u a1 b2 (a3 ||| (0 : Int32)) v28
  else
  gd (inb a4 8) (if (gI Y 0 3 (ix a4)) = 0 then
  nm (a4 + (1 : Int32)) fun v31 =>
  sX8_changes_b93 m n Y u a1 b2 (a3 ||| (0 : Int32)) v31
  else
  nm (a4 + (1 : Int32)) fun v32 =>
  sX8_changes_b93 m n Y u a1 b2 (a3 ||| (1 : Int32)) v32)))
def sX8_changes_b63 (n : Nat) (Y : St) (u : Nat) (b2 : Nat) (as0 : Int32) (bs1 : Nat) : Option (St) :=
  gd (isb as0) (nm (pI Y (bs1 + 1) 0 11 as0) fun z34 =>
  if (gI z34 (b2 + 1) 0 11) = 0 then
  nm (pI z34 (b2 + 1) 0 5 (1 : Int32)) fun z36 =>
  nm (pI z36 (b2 + 1) 0 6 (gI z36 (b2 + 1) 0 2)) fun z37 =>
  some z37
  else
  some z34)
def sX8_changes (n : Nat) (Y : St) (_u : Nat) (a1 : Int32) : Option (St) :=
  gd (inb a1 n) (if ¬ (gI Y (ix a1 + 1) 0 5) = 0 then
  sX8_changes_b93 FU n Y 0 a1 (ix a1) (0 : Int32) (0 : Int32)
  else
  bd (sX8_isDue n Y a1 (gI Y 0 0 0)) fun q3 =>
  if ¬ q3 = 0 then
  bd (sX8_near n Y a1) fun q5 =>
  if q5 ≤ 0 then
  sX8_changes_b63 n Y 0 (ix a1) (0 : Int32) (ix a1)
  else
  bd (sX8_knowsAll n Y a1) fun q7 =>
  if q7 = 0 then
  sX8_changes_b63 n Y 0 (ix a1) (0 : Int32) (ix a1)
  else
  if ¬ (gI Y (ix a1 + 1) 0 11) = 0 then
  sX8_changes_b63 n Y 0 (ix a1) (0 : Int32) (ix a1)
  else
  sX8_changes_b63 n Y 0 (ix a1) (1 : Int32) (ix a1)
  else
  some Y)
def sX8_ends_b214 (n : Nat) (Y : St) (b2 : Nat) (as0 : Int32) (as1 : Int32) : Option (St) :=
  nm (pI Y 0 0 5 (as1 + as0)) fun z28 =>
  nm (pI z28 (b2 + 1) 0 7 (0 : Int32)) fun z29 =>
  nm (pI z29 (b2 + 1) 0 5 (0 : Int32)) fun z30 =>
  nm (pI z30 (b2 + 1) 0 6 (0 : Int32)) fun z31 =>
  some z31
def sX8_ends_b196 (n : Nat) (Y : St) (b2 : Nat) (a3 : Int32) (as0 : Int32) (as1 : Int32) (bs2 : Nat) : Option (St) :=
  nm (pI Y (bs2 + 1) 0 9 (as1 + as0)) fun z26 =>
  if a3 = 0 then
  sX8_ends_b214 n z26 b2 (1 : Int32) (gI z26 0 0 5)
  else
  sX8_ends_b214 n z26 b2 (0 : Int32) (gI z26 0 0 5)
def sX8_ends_b178 (n : Nat) (Y : St) (b2 : Nat) (a3 : Int32) (as0 : Int32) (as1 : Int32) : Option (St) :=
  nm (pI Y 0 0 4 (as1 + as0)) fun z24 =>
  if a3 = 0 then
  sX8_ends_b196 n z24 b2 a3 (1 : Int32) (gI z24 (b2 + 1) 0 9) b2
  else
  sX8_ends_b196 n z24 b2 a3 (0 : Int32) (gI z24 (b2 + 1) 0 9) b2
def sX8_ends_b160 (n : Nat) (Y : St) (b2 : Nat) (a3 : Int32) (as0 : Int32) (as1 : Int32) (bs2 : Nat) : Option (St) :=
  nm (pI Y (bs2 + 1) 0 8 (as1 + as0)) fun z22 =>
  if a3 = 0 then
  sX8_ends_b178 n z22 b2 a3 (0 : Int32) (gI z22 0 0 4)
  else
  sX8_ends_b178 n z22 b2 a3 (1 : Int32) (gI z22 0 0 4)
def sX8_ends_b146 (n : Nat) (Y : St) (b2 : Nat) (a3 : Int32) : Option (St) :=
  if a3 = 0 then
  sX8_ends_b160 n Y b2 a3 (0 : Int32) (gI Y (b2 + 1) 0 8) b2
  else
  sX8_ends_b160 n Y b2 a3 (1 : Int32) (gI Y (b2 + 1) 0 8) b2
def sX8_ends_b122 (n : Nat) (Y : St) (a1 : Int32) (b2 : Nat) (a3 : Int32) (as0 : Int32) (bs1 : Nat) : Option (St) :=
  nm (pI Y (bs1 + 1) 0 7 as0) fun z6 =>
  if ¬ a3 = 0 then
  sX8_ends_b146 n z6 b2 a3
  else
  if (gI z6 0 0 2) ≤ (gI z6 (b2 + 1) 0 7) then
  sX8_ends_b146 n z6 b2 a3
  else
  bd (sX8_waits n z6 a1) fun q9 =>
  some q9
def sX8_ends_b56 (k19 : St → Int32 → Nat → Int32 → Int32 → Option (St)) (n : Nat) (Y : St) (a1 : Int32) (b2 : Nat) (a3 : Int32) (a4 : Int32) (as0 : Int32) (as1 : Int32) (bs2 : Nat) : Option (St) :=
  gd (inb as1 8) (nm (pI Y (bs2 + 1) 4 (ix as1) as0) fun z11 =>
  if a4 = a1 then
  nm (a4 + (1 : Int32)) fun v13 =>
  k19 z11 a1 b2 a3 v13
  else
  gd (inb a4 8) (if (gI z11 (b2 + 1) 3 (ix a4)) = 0 then
  gd (inb a4 n) (gd (inb a1 8) (nm (pI z11 (ix a4 + 1) 2 (ix a1) (gI z11 0 0 0)) fun z18 =>
  nm (a4 + (1 : Int32)) fun v19 =>
  k19 z18 a1 b2 (1 : Int32) v19))
  else
  nm (a4 + (1 : Int32)) fun v20 =>
  k19 z11 a1 b2 a3 v20))
def sX8_ends_b19 (fuel : Nat) (n : Nat) (Y : St) (a1 : Int32) (b2 : Nat) (a3 : Int32) (a4 : Int32) : Option (St) := match fuel with
  | 0 => none
  | m + 1 =>
  if (nI n) ≤ a4 then
  if a3 = 0 then
  sX8_ends_b122 n Y a1 b2 a3 ((gI Y (b2 + 1) 0 7) + (1 : Int32)) b2
  else
  sX8_ends_b122 n Y a1 b2 a3 (0 : Int32) b2
  else
  if ¬ a4 = a1 then
  gd (inb a4 8) (sX8_ends_b56 (fun Y' a1' b2' a3' a4' => sX8_ends_b19 m n Y' a1' b2' a3' a4') n Y a1 b2 a3 a4 (gI Y (b2 + 1) 3 (ix a4)) a4 b2)
  else
  sX8_ends_b56 (fun Y' a1' b2' a3' a4' => sX8_ends_b19 m n Y' a1' b2' a3' a4') n Y a1 b2 a3 a4 (5 : Int32) a4 b2
def sX8_ends (n : Nat) (Y : St) (a1 : Int32) : Option (St) :=
  gd (inb a1 n) (sX8_ends_b19 FU n Y a1 (ix a1) (0 : Int32) (0 : Int32))
def sX8_slot_b365 (fuel : Nat) (n : Nat) (Y : St) (u : Nat) (a1 : Int32) (a2 : Int32) : Option (St × Int32) := match fuel with
  | 0 => none
  | m + 1 =>
  if (nI n) ≤ a2 then
  some (Y, (gI Y 0 0 4) - a1)
  else
  gd (inb a2 8) (if (gI Y 0 3 (ix a2)) = 0 then
  nm (a2 + (1 : Int32)) fun v49 =>
  sX8_slot_b365 m n Y u a1 v49
  else
  gd (inb a2 n) (nm ((gI Y (ix a2 + 1) 0 6) - (1 : Int32)) fun v51 =>
  nm (pI Y (ix a2 + 1) 0 6 v51) fun z52 =>
  if ¬ v51 = 0 then
  nm (a2 + (1 : Int32)) fun v54 =>
  sX8_slot_b365 m n z52 u a1 v54
  else
  bd (sX8_ends n z52 a2) fun q55 =>
  nm (a2 + (1 : Int32)) fun v56 =>
  sX8_slot_b365 m n q55 u a1 v56))
def sX8_slot_b313 (fuel : Nat) (n : Nat) (Y : St) (u : Nat) (a1 : Int32) (a2 : Int32) : Option (St × Int32) := match fuel with
  | 0 => none
  | m + 1 =>
  if (nI n) ≤ a2 then
  sX8_slot_b365 FU n Y u a1 (0 : Int32)
  else
  gd (inb a2 n) (if ¬ (gI Y (ix a2 + 1) 0 5) = (3 : Int32) then
  gd (inb a2 8) (nm (pI Y 0 3 (ix a2) (0 : Int32)) fun z36 =>
  nm (a2 + (1 : Int32)) fun v37 =>
  sX8_slot_b313 m n z36 u a1 v37)
  else
  gd (inb a2 8) (nm (pI Y 0 3 (ix a2) (1 : Int32)) fun z39 =>
  nm (a2 + (1 : Int32)) fun v40 =>
  sX8_slot_b313 m n z39 u a1 v40))
def sX8_slot_b255 (fuel : Nat) (k179 : St → Nat → Int32 → Int32 → Option (St × Int32)) (n : Nat) (Y : St) (u : Nat) (a1 : Int32) (a2 : Int32) (b3 : Nat) (a4 : Int32) : Option (St × Int32) := match fuel with
  | 0 => none
  | m + 1 =>
  if (nI n) ≤ a4 then
  nm (a2 + (1 : Int32)) fun v58 =>
  k179 Y u a1 v58
  else
  if a4 = a2 then
  nm (a4 + (1 : Int32)) fun v60 =>
  sX8_slot_b255 m k179 n Y u a1 a2 b3 v60
  else
  gd (inb a4 8) (if ¬ (gI Y (b3 + 1) 3 (ix a4)) = 0 then
  nm (a4 + (1 : Int32)) fun v63 =>
  sX8_slot_b255 m k179 n Y u a1 a2 b3 v63
  else
  bd (sX8_deaf n Y a4 a2) fun q64 =>
  gd (inb a4 8) (nm (pI Y (b3 + 1) 3 (ix a4) q64) fun z66 =>
  nm (a4 + (1 : Int32)) fun v67 =>
  sX8_slot_b255 m k179 n z66 u a1 a2 b3 v67))
def sX8_slot_b241 (k179 : St → Nat → Int32 → Int32 → Option (St × Int32)) (n : Nat) (Y : St) (u : Nat) (a1 : Int32) (a2 : Int32) (b3 : Nat) : Option (St × Int32) :=
  if (gI Y (b3 + 1) 0 5) = (3 : Int32) then
  sX8_slot_b255 FU k179 n Y u a1 a2 b3 (0 : Int32)
  else
  nm (a2 + (1 : Int32)) fun v45 =>
  k179 Y u a1 v45
def sX8_slot_b222 (k179 : St → Nat → Int32 → Int32 → Option (St × Int32)) (n : Nat) (Y : St) (u : Nat) (a1 : Int32) (a2 : Int32) (b3 : Nat) : Option (St × Int32) :=
  bd (sX8_sendersNear n Y a2) fun q41 =>
  if q41 ≤ (1 : Int32) then
  sX8_slot_b241 k179 n Y u a1 a2 b3
  else
  nm (pI Y 0 0 6 ((gI Y 0 0 6) + (1 : Int32))) fun z43 =>
  sX8_slot_b241 k179 n z43 u a1 a2 b3
def sX8_slot_b179 (fuel : Nat) (n : Nat) (Y : St) (u : Nat) (a1 : Int32) (a2 : Int32) : Option (St × Int32) := match fuel with
  | 0 => none
  | m + 1 =>
  if (nI n) ≤ a2 then
  sX8_slot_b313 FU n Y u a1 (0 : Int32)
  else
  gd (inb a2 n) (if (gI Y (ix a2 + 1) 0 5) = (1 : Int32) then
  sX8_slot_b222 (fun Y' u' a1' a2' => sX8_slot_b179 m n Y' u' a1' a2') n Y u a1 a2 (ix a2)
  else
  if ¬ (gI Y (ix a2 + 1) 0 5) = (2 : Int32) then
  sX8_slot_b241 (fun Y' u' a1' a2' => sX8_slot_b179 m n Y' u' a1' a2') n Y u a1 a2 (ix a2)
  else
  sX8_slot_b222 (fun Y' u' a1' a2' => sX8_slot_b179 m n Y' u' a1' a2') n Y u a1 a2 (ix a2))
def sX8_slot_b71 (fuel : Nat) (n : Nat) (Y : St) (u : Nat) (a1 : Int32) (u9 : Int32) : Option (St × Int32) := match fuel with
  | 0 => none
  | m + 1 =>
  if (if u9 = nI n then (0 : Int32) else (1 : Int32)) = 0 then
  sX8_slot_b179 FU n Y u a1 (0 : Int32)
  else
  gd (inb u9 n) (nm (u9 + 1) fun v14 =>
  if ¬ (gI Y (ix u9 + 1) 0 5) = (4 : Int32) then
  gd (inb (gI Y (ix u9 + 1) 0 5) 4) (nm (if (gI Y 0 1 (ix (gI Y (ix u9 + 1) 0 5))) < (gI Y (ix u9 + 1) 0 4) then (gI Y 0 1 (ix (gI Y (ix u9 + 1) 0 5))) else (gI Y (ix u9 + 1) 0 4)) fun v17 =>
  gd (inb (gI Y (ix u9 + 1) 0 5) 4) (nm ((gI Y (ix u9 + 1) 1 (ix (gI Y (ix u9 + 1) 0 5))) + (1 : Int32)) fun v19 =>
  gd (inb (gI Y (ix u9 + 1) 0 5) 4) (nm (pI Y (ix u9 + 1) 1 (ix (gI Y (ix u9 + 1) 0 5)) v19) fun z21 =>
  nm (pI z21 (ix u9 + 1) 0 4 ((gI z21 (ix u9 + 1) 0 4) - v17)) fun z22 =>
  nm ((gI z22 (ix u9 + 1) 0 10) + v17) fun v23 =>
  nm (pI z22 (ix u9 + 1) 0 10 v23) fun z24 =>
  if (gI z24 (ix u9 + 1) 0 4) ≤ 0 then
  nm (pI z24 (ix u9 + 1) 0 5 (4 : Int32)) fun z26 =>
  nm (pI z26 (ix u9 + 1) 0 6 (0 : Int32)) fun z27 =>
  sX8_slot_b71 m n z27 u a1 v14
  else
  sX8_slot_b71 m n z24 u a1 v14)))
  else
  sX8_slot_b71 m n Y u a1 v14)
def sX8_slot_b17 (fuel : Nat) (n : Nat) (Y : St) (u : Nat) (a1 : Int32) (a2 : Int32) : Option (St × Int32) := match fuel with
  | 0 => none
  | m + 1 =>
  if (nI n) ≤ a2 then
  gd (ltN u 9) (sX8_slot_b71 FU n Y (u + 1) a1 (0 : Int32))
  else
  gd (inb a2 n) (if (4 : Int32) ≤ (gI Y (ix a2 + 1) 0 5) then
  nm (a2 + (1 : Int32)) fun v7 =>
  sX8_slot_b17 m n Y u a1 v7
  else
  gd (ltN (u + 0) 9) (bd (sX8_changes n Y 0 a2) fun q8 =>
  nm (a2 + (1 : Int32)) fun v11 =>
  sX8_slot_b17 m n q8 (u + 1) a1 v11))
def sX8_slot (n : Nat) (Y : St) (_u : Nat)  : Option (St × Int32) :=
  nm (pI Y 0 0 0 ((gI Y 0 0 0) + (1 : Int32))) fun z1 =>
  sX8_slot_b17 FU n z1 0 (gI Y 0 0 4) (0 : Int32)
def sX8_run_b4 (fuel : Nat) (n : Nat) (Y : St) (u : Nat) (a1 : Int32) (a2 : Int32) (a3 : Int32) : Option (St × Int32) := match fuel with
  | 0 => none
  | m + 1 =>
  if a1 ≤ a3 then
  some (Y, a2)
  else
  gd (ltN (u + 8) 225) (bd (sX8_slot n Y 0) fun q2 =>
  nm (a3 + (1 : Int32)) fun v5 =>
  sX8_run_b4 m n q2.1 (u + 9) a1 (a2 + q2.2) v5)
def sX8_run (n : Nat) (Y : St) (_u : Nat) (a1 : Int32) : Option (St × Int32) :=
  sX8_run_b4 FU n Y 0 a1 (0 : Int32) (0 : Int32)
def sX8_due_b2 (fuel : Nat) (n : Nat) (Y : St) (a1 : Int32) (a2 : Int32) : Option (Int32) := match fuel with
  | 0 => none
  | m + 1 =>
  bd (sX8_isDue n Y a1 ((gI Y 0 0 0) + a2)) fun q1 =>
  if ¬ q1 = 0 then
  some a2
  else
  nm (a2 + (1 : Int32)) fun v3 =>
  sX8_due_b2 m n Y a1 v3
def sX8_due (n : Nat) (Y : St) (a1 : Int32) : Option (Int32) :=
  sX8_due_b2 FU n Y a1 (1 : Int32)
