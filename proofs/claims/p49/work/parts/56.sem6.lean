def sX6_append_b3 (fuel : Nat)   (c : St) (a1 : Int32) (a2 : Int32) : Option (St) := match fuel with
  | 0 => none
  | n + 1 =>
  if a2 < 0 then
  some (c)
  else
  if ((700 : Int32)) ≤ (gI c 0 0 1) then
  some (c)
  else
  nm (((a1.toUInt32 >>> (a2.toUInt32 &&& Int32.toUInt32 31)).toInt32).toInt8.toInt32) fun v3 =>
  gd (inb (gI c 0 0 1) 700) (nm (pI c 0 1 (ix (gI c 0 0 1)) (v3.toInt8.toInt32)) fun z5 =>
  nm (pI z5 0 0 1 ((gI z5 0 0 1) + ((1 : Int32)))) fun z6 =>
  nm (a2 + (-8 : Int32)) fun v7 =>
  sX6_append_b3 n z6 a1 v7)
def sX6_append  (c : St) (a1 : Int32) : Option (St) :=
  sX6_append_b3 FU c a1 ((24 : Int32))
def sX6_feed  (c : St) (a1 : Int32) (a2 : Int32) (a3 : Int32) (a4 : Int32) (a5 : Int32) : Option (St × (Int32 ⊕ Nat)) :=
  if ((gI c 0 0 1) + ((20 : Int32))) ≤ ((700 : Int32)) then
  bd (sX6_append c a1) fun q2 =>
  bd (sX6_append q2 a2) fun q3 =>
  bd (sX6_append q3 a3) fun q4 =>
  bd (sX6_append q4 a4) fun q5 =>
  bd (sX6_append q5 a5) fun q6 =>
  some (q6, .inl (gI q6 0 0 1))
  else
  some (c, .inr 1)
def sX6_truncate_b12   (c : St)  : Option (St × (Int32 ⊕ Nat)) :=
  some (c, .inr 2)
def sX6_truncate  (c : St) (a1 : Int32) : Option (St × (Int32 ⊕ Nat)) :=
  if a1 < 0 then
  sX6_truncate_b12 c
  else
  if a1 ≤ (gI c 0 0 1) then
  nm (pI c 0 0 1 a1) fun z3 =>
  some (z3, .inl a1)
  else
  sX6_truncate_b12 c
def sX6_endReading (y : St) (t1 : Nat) (c : St)  : Option (St) :=
  nm (pI c 0 0 1 ((0 : Int32))) fun z1 =>
  nm (pI z1 0 0 2 (gI y 0 0 8)) fun z2 =>
  nm (pI z2 0 0 3 (gI y 0 0 9)) fun z3 =>
  some (z3)
def sX6_readText  (x0 : St) (x1 : St) (ta : St) (d : St) (c : St)  : Option (St × St × St × St × St × (Int32 ⊕ Nat)) :=
  bd (sX4_begin c ta (gI c 0 0 1)) fun q1 =>
  bd (sX3_readAll x1 q1 d) fun q2 =>
  bd (sX6_endReading q2.2.1 3 c) fun q3 =>
  if ¬ q2.2.2.2 = 0 then
  bd (sX5_copyFrom q2.1 x0) fun q5 =>
  nm (pI q3 0 0 9 ((0 : Int32))) fun z6 =>
  some (q5, q2.1, q2.2.1, q2.2.2.1, z6, .inl (gI q5 0 0 2))
  else
  some (x0, q2.1, q2.2.1, q2.2.2.1, q3, .inr 2)
def sX6_keepForUndo_b56   (x0 : St) (ps : Nat → St) (c : St)  : Option ((Nat → St) × St) :=
  gd (inb (gI c 0 0 9) 6) (gd (ltN (ix (gI c 0 2 (ix (gI c 0 0 9)))) 6) (bd (sX5_copyFrom x0 (ps (ix (gI c 0 2 (ix (gI c 0 0 9)))))) fun q6 =>
  nm (pI c 0 0 9 ((gI c 0 0 9) + ((1 : Int32)))) fun z8 =>
  some (uP ps (ix (gI c 0 2 (ix (gI c 0 0 9)))) q6, z8)))
def sX6_keepForUndo_b18 (fuel : Nat)   (x0 : St) (ps : Nat → St) (c : St) (p1 : Nat) (a2 : Int32) : Option ((Nat → St) × St) := match fuel with
  | 0 => none
  | n + 1 =>
  if ((6 : Int32)) ≤ a2 then
  gd (inb ((5 : Int32)) 6) (nm (pI c 0 2 (ix ((5 : Int32))) (nI p1)) fun z11 =>
  nm (pI z11 0 0 9 ((5 : Int32))) fun z12 =>
  sX6_keepForUndo_b56 x0 ps z12)
  else
  gd (inb a2 6) (gd (ltN (ix (gI c 0 2 (ix a2))) 6) (gd (inb (a2 - ((1 : Int32))) 6) (nm (pI c 0 2 (ix (a2 - ((1 : Int32)))) (nI (ix (gI c 0 2 (ix a2))))) fun z16 =>
  nm (a2 + (1 : Int32)) fun v17 =>
  sX6_keepForUndo_b18 n x0 ps z16 p1 v17)))
def sX6_keepForUndo  (x0 : St) (ps : Nat → St) (c : St)  : Option ((Nat → St) × St) :=
  if (gI c 0 0 9) < ((6 : Int32)) then
  sX6_keepForUndo_b56 x0 ps c
  else
  gd (inb ((0 : Int32)) 6) (gd (ltN (ix (gI c 0 2 (ix ((0 : Int32))))) 6) (sX6_keepForUndo_b18 FU x0 ps c (ix (gI c 0 2 (ix ((0 : Int32))))) ((1 : Int32))))
def sX6_runScript  (x0 : St) (ps : Nat → St) (tb : St) (S : St) (c : St)  : Option (St × (Nat → St) × St × St × St × (Int32 ⊕ Nat)) :=
  bd (sX4_begin c tb (gI c 0 0 1)) fun q1 =>
  bd (sX2_readAll x0 q1 S) fun q2 =>
  bd (sX6_endReading q2.1 4 c) fun q3 =>
  if ¬ q2.2.2 = 0 then
  bd (sX6_keepForUndo x0 ps q3) fun q5 =>
  bd (sX2_runCommands x0 q2.2.1) fun q6 =>
  some (q6.1, q5.1, q2.1, q6.2.1, q5.2, .inl q6.2.2)
  else
  some (x0, ps, q2.1, q2.2.1, q3, .inr 2)
def sX6_errorCode  (c : St)  : Option (Int32) :=
  some (gI c 0 0 2)
def sX6_errorPosition  (c : St)  : Option (Int32) :=
  some (gI c 0 0 3)
def sX6_setting  (x0 : St) (c : St) (a1 : Int32) : Option ((Int32 ⊕ Nat)) :=
  if a1 = (0 : Int32) then
  some (.inl (gI x0 0 0 2))
  else
  if a1 = (1 : Int32) then
  bd (sX5_nearPairs x0) fun q3 =>
  some (.inl (q3 / ((2 : Int32))))
  else
  if a1 = (2 : Int32) then
  some (.inl (gI x0 0 0 5))
  else
  if a1 = (3 : Int32) then
  some (.inl (gI x0 0 0 3))
  else
  if a1 = (4 : Int32) then
  some (.inl (gI x0 0 0 4))
  else
  if a1 = (5 : Int32) then
  some (.inl (gI x0 0 0 7))
  else
  if a1 = (6 : Int32) then
  some (.inl (gI x0 0 0 8))
  else
  if a1 = (7 : Int32) then
  some (.inl (gI x0 0 0 9))
  else
  if a1 = (8 : Int32) then
  bd (sX5_outCount x0) fun q11 =>
  some (.inl q11)
  else
  if a1 = (9 : Int32) then
  some (.inl (gI x0 0 0 6))
  else
  if a1 = (10 : Int32) then
  some (.inl (gI c 0 0 9))
  else
  some (.inr 2)
def sX6_requireBeacon_b15   (x0 : St)  : Option ((Unit ⊕ Nat)) :=
  some (.inr 3)
def sX6_requireBeacon  (x0 : St) (a1 : Int32) : Option ((Unit ⊕ Nat)) :=
  if a1 < 0 then
  sX6_requireBeacon_b15 x0
  else
  if a1 < (gI x0 0 0 2) then
  some (.inl ())
  else
  sX6_requireBeacon_b15 x0
def sX6_beacon  (x0 : St) (a1 : Int32) (a2 : Int32) : Option ((Int32 ⊕ Nat)) :=
  bd (sX6_requireBeacon x0 a1) fun q1 => sm q1 (fun uq1 =>
  gd (inb a1 8) (if a2 = (0 : Int32) then
  some (.inl (gI x0 (ix a1 + 1) 0 1))
  else
  if a2 = (1 : Int32) then
  some (.inl (gI x0 (ix a1 + 1) 0 2))
  else
  if a2 = (2 : Int32) then
  some (.inl (gI x0 (ix a1 + 1) 0 3))
  else
  if a2 = (3 : Int32) then
  some (.inl (gI x0 (ix a1 + 1) 0 4))
  else
  if a2 = (4 : Int32) then
  some (.inl (gI x0 (ix a1 + 1) 0 5))
  else
  if a2 = (5 : Int32) then
  some (.inl (gI x0 (ix a1 + 1) 0 6))
  else
  if a2 = (6 : Int32) then
  some (.inl (gI x0 (ix a1 + 1) 0 7))
  else
  if a2 = (7 : Int32) then
  some (.inl (gI x0 (ix a1 + 1) 0 8))
  else
  if a2 = (8 : Int32) then
  if (gI x0 (ix a1 + 1) 0 9) = 0 then
  some (.inl ((0 : Int32)))
  else
  some (.inl ((1 : Int32)))
  else
  if a2 = (9 : Int32) then
  some (.inl (gI x0 (ix a1 + 1) 0 10))
  else
  if a2 = (10 : Int32) then
  bd (sX5_knownTo (ix a1 + 1) x0) fun q15 =>
  some (.inl q15)
  else
  if a2 = (11 : Int32) then
  some (.inl (gI x0 (ix a1 + 1) 0 11))
  else
  if a2 = (12 : Int32) then
  some (.inl (gI x0 (ix a1 + 1) 0 12))
  else
  if a2 = (13 : Int32) then
  some (.inl (gI x0 (ix a1 + 1) 0 13))
  else
  some (.inr 2))) (fun xq1 => some (.inr xq1))
def sX6_slots_b14   (x0 : St)  : Option ((Int32 ⊕ Nat)) :=
  some (.inr 2)
def sX6_slots  (x0 : St) (a1 : Int32) (a2 : Int32) : Option ((Int32 ⊕ Nat)) :=
  bd (sX6_requireBeacon x0 a1) fun q1 => sm q1 (fun uq1 =>
  if a2 < 0 then
  sX6_slots_b14 x0
  else
  if a2 < ((4 : Int32)) then
  gd (inb a1 8) (gd (inb a2 4) (some (.inl (gI x0 (ix a1 + 1) 1 (ix a2)))))
  else
  sX6_slots_b14 x0) (fun xq1 => some (.inr xq1))
def sX6_reckoned_b9 (fuel : Nat)   (x0 : St) (a1 : Int32) (a2 : Int32) (a3 : Int32) : Option ((Int32 ⊕ Nat)) := match fuel with
  | 0 => none
  | n + 1 =>
  if ((4 : Int32)) ≤ a3 then
  some (.inl a2)
  else
  gd (inb a1 8) (gd (inb a3 4) (gd (inb a3 4) (nm (a2 + ((gI x0 (ix a1 + 1) 1 (ix a3)) * (gI x0 0 1 (ix a3)))) fun v6 =>
  nm (a3 + (1 : Int32)) fun v7 =>
  sX6_reckoned_b9 n x0 a1 v6 v7)))
def sX6_reckoned  (x0 : St) (a1 : Int32) : Option ((Int32 ⊕ Nat)) :=
  bd (sX6_requireBeacon x0 a1) fun q1 => sm q1 (fun uq1 =>
  sX6_reckoned_b9 FU x0 a1 ((0 : Int32)) ((0 : Int32))) (fun xq1 => some (.inr xq1))
def sX6_letter  (x0 : St) (a1 : Int32) (a2 : Int32) : Option ((Int32 ⊕ Nat)) :=
  bd (sX6_requireBeacon x0 a1) fun q1 => sm q1 (fun uq1 =>
  gd (inb a1 8) (bd (sX6_letterOf (gL x0 (ix a1 + 1) 0 0) a2) fun q3 =>
  some (.inl q3))) (fun xq1 => some (.inr xq1))
def sX6_heard  (x0 : St) (a1 : Int32) (a2 : Int32) : Option ((Int32 ⊕ Nat)) :=
  bd (sX6_requireBeacon x0 a1) fun q1 => sm q1 (fun uq1 =>
  bd (sX6_requireBeacon x0 a2) fun q2 => sm q2 (fun uq2 =>
  gd (inb a1 8) (gd (inb a2 8) (some (.inl (gI x0 (ix a1 + 1) 2 (ix a2)))))) (fun xq2 => some (.inr xq2))) (fun xq1 => some (.inr xq1))
def sX6_knows  (x0 : St) (a1 : Int32) (a2 : Int32) : Option ((Int32 ⊕ Nat)) :=
  bd (sX6_requireBeacon x0 a1) fun q1 => sm q1 (fun uq1 =>
  bd (sX6_requireBeacon x0 a2) fun q2 => sm q2 (fun uq2 =>
  gd (inb a1 8) (bd (sX5_knownTo (ix a1 + 1) x0) fun q4 =>
  bd (sX6_isIn q4 a2) fun q5 =>
  gd (isb q5) (some (.inl q5)))) (fun xq2 => some (.inr xq2))) (fun xq1 => some (.inr xq1))
def sX6_why_b60   (x0 : St) (o2 : Nat) : Option ((Int32 ⊕ Nat)) :=
  bd (sX5_inState x0 ((3 : Int32))) fun q9 =>
  if ((gI x0 o2 0 10) &&& q9) = 0 then
  some (.inl ((5 : Int32)))
  else
  some (.inl ((4 : Int32)))
def sX6_why  (x0 : St) (a1 : Int32) : Option ((Int32 ⊕ Nat)) :=
  bd (sX6_requireBeacon x0 a1) fun q1 => sm q1 (fun uq1 =>
  gd (inb a1 8) (nm (gI x0 (ix a1 + 1) 0 6) fun v3 =>
  if v3 = (0 : Int32) then
  some (.inl ((2 : Int32)))
  else
  if v3 = (1 : Int32) then
  some (.inl ((3 : Int32)))
  else
  if v3 = (2 : Int32) then
  sX6_why_b60 x0 (ix a1 + 1)
  else
  if v3 = (3 : Int32) then
  some (.inl ((0 : Int32)))
  else
  if v3 = (4 : Int32) then
  some (.inl ((1 : Int32)))
  else
  sX6_why_b60 x0 (ix a1 + 1))) (fun xq1 => some (.inr xq1))
def sX6_whyNot  (x0 : St) (a1 : Int32) (a2 : Int32) : Option ((Int32 ⊕ Nat)) :=
  bd (sX6_requireBeacon x0 a1) fun q1 => sm q1 (fun uq1 =>
  bd (sX6_requireBeacon x0 a2) fun q2 => sm q2 (fun uq2 =>
  if ¬ a1 = a2 then
  gd (inb a1 8) (gd (inb a2 8) (some (.inl (gI x0 (ix a1 + 1) 4 (ix a2)))))
  else
  some (.inl ((5 : Int32)))) (fun xq2 => some (.inr xq2))) (fun xq1 => some (.inr xq1))
def sX6_dueIn  (x0 : St) (a1 : Int32) : Option ((Int32 ⊕ Nat)) :=
  bd (sX6_requireBeacon x0 a1) fun q1 => sm q1 (fun uq1 =>
  gd (inb a1 8) (bd (sX0_slotsUntilDue (ix a1 + 1) x0 (gI x0 0 0 5)) fun q3 =>
  some (.inl q3))) (fun xq1 => some (.inr xq1))
def sX6_hidden_b23 (fuel : Nat)   (x0 : St) (a2 : Int32) (a3 : Int32) (a4 : Int32) : Option ((Int32 ⊕ Nat)) := match fuel with
  | 0 => none
  | n + 1 =>
  if (gI x0 0 0 2) ≤ a4 then
  some (.inl (a3 / ((2 : Int32))))
  else
  bd (sX6_isIn a2 a4) fun q4 =>
  if q4 = 0 then
  nm (a4 + (1 : Int32)) fun v6 =>
  sX6_hidden_b23 n x0 a2 a3 v6
  else
  nm (a2 &&& ((((1 : Int32)) <<< (a4 &&& (31 : Int32))) ^^^ ((-1 : Int32)))) fun v7 =>
  gd (inb a4 8) (bd (sJ6_bitCount_0f7a4 (v7 &&& ((gI x0 (ix a4 + 1) 0 10) ^^^ ((-1 : Int32))))) fun q9 =>
  nm (a4 + (1 : Int32)) fun v10 =>
  sX6_hidden_b23 n x0 a2 (a3 + q9) v10)
def sX6_hidden  (x0 : St) (a1 : Int32) : Option ((Int32 ⊕ Nat)) :=
  bd (sX6_requireBeacon x0 a1) fun q1 => sm q1 (fun uq1 =>
  gd (inb a1 8) (sX6_hidden_b23 FU x0 (gI x0 (ix a1 + 1) 0 10) ((0 : Int32)) ((0 : Int32)))) (fun xq1 => some (.inr xq1))
def sX6_hops_b17 (fuel : Nat)   (x0 : St) (a2 : Int32) (a3 : Int32) (a4 : Int32) : Option ((Int32 ⊕ Nat)) := match fuel with
  | 0 => none
  | n + 1 =>
  if ((8 : Int32)) ≤ a4 then
  some (.inl ((-1 : Int32)))
  else
  bd (sX6_isIn a3 a2) fun q5 =>
  if q5 = 0 then
  bd (sX5_withNear x0 a3) fun q7 =>
  nm (a4 + (1 : Int32)) fun v8 =>
  sX6_hops_b17 n x0 a2 q7 v8
  else
  some (.inl a4)
def sX6_hops  (x0 : St) (a1 : Int32) (a2 : Int32) : Option ((Int32 ⊕ Nat)) :=
  bd (sX6_requireBeacon x0 a1) fun q1 => sm q1 (fun uq1 =>
  bd (sX6_requireBeacon x0 a2) fun q2 => sm q2 (fun uq2 =>
  nm (((1 : Int32)) <<< (a1 &&& (31 : Int32))) fun v3 =>
  sX6_hops_b17 FU x0 a2 v3 ((0 : Int32))) (fun xq2 => some (.inr xq2))) (fun xq1 => some (.inr xq1))
def sX6_groups_b6 (fuel : Nat)   (x0 : St) (a1 : Int32) (a2 : Int32) (a3 : Int32) : Option (Int32) := match fuel with
  | 0 => none
  | n + 1 =>
  if (gI x0 0 0 2) ≤ a3 then
  some (a1)
  else
  bd (sX6_isIn a2 a3) fun q2 =>
  if ¬ q2 = 0 then
  nm (a3 + (1 : Int32)) fun v4 =>
  sX6_groups_b6 n x0 a1 a2 v4
  else
  nm (a1 + (1 : Int32)) fun v5 =>
  bd (sX5_withAllReached x0 (a2 ||| (((1 : Int32)) <<< (a3 &&& (31 : Int32))))) fun q6 =>
  nm (a3 + (1 : Int32)) fun v7 =>
  sX6_groups_b6 n x0 v5 q6 v7
def sX6_groups  (x0 : St)  : Option (Int32) :=
  sX6_groups_b6 FU x0 ((0 : Int32)) ((0 : Int32)) ((0 : Int32))
def sX6_ears_b25 (fuel : Nat)   (x0 : St) (a1 : Int32) (a2 : Int32) (a3 : Int32) (a4 : Int32) : Option ((Int32 ⊕ Nat)) := match fuel with
  | 0 => none
  | n + 1 =>
  if (gI x0 0 0 2) ≤ a4 then
  some (.inl a3)
  else
  gd (inb a4 8) (bd (sX0_hasOpenEars (ix a4 + 1) x0) fun q6 =>
  if q6 = 0 then
  nm (a4 + (1 : Int32)) fun v8 =>
  sX6_ears_b25 n x0 a1 a2 a3 v8
  else
  bd (sX6_isIn (gI x0 (ix a4 + 1) 0 10) a1) fun q9 =>
  if q9 = 0 then
  nm (a4 + (1 : Int32)) fun v11 =>
  sX6_ears_b25 n x0 a1 a2 a3 v11
  else
  if ¬ ((gI x0 (ix a4 + 1) 0 10) &&& a2) = 0 then
  nm (a4 + (1 : Int32)) fun v13 =>
  sX6_ears_b25 n x0 a1 a2 a3 v13
  else
  nm (a3 ||| (((1 : Int32)) <<< (a4 &&& (31 : Int32)))) fun v14 =>
  nm (a4 + (1 : Int32)) fun v15 =>
  sX6_ears_b25 n x0 a1 a2 v14 v15)
def sX6_ears  (x0 : St) (a1 : Int32) : Option ((Int32 ⊕ Nat)) :=
  bd (sX6_requireBeacon x0 a1) fun q1 => sm q1 (fun uq1 =>
  bd (sX5_inState x0 ((3 : Int32))) fun q2 =>
  nm (q2 &&& ((((1 : Int32)) <<< (a1 &&& (31 : Int32))) ^^^ ((-1 : Int32)))) fun v3 =>
  sX6_ears_b25 FU x0 a1 v3 ((0 : Int32)) ((0 : Int32))) (fun xq1 => some (.inr xq1))
def sX6_earliest_b7 (fuel : Nat)   (x0 : St) (a1 : Int32) (a2 : Int32) (a3 : Int32) : Option (Int32) := match fuel with
  | 0 => none
  | n + 1 =>
  if (gI x0 0 0 2) ≤ a3 then
  some (a1)
  else
  gd (inb a3 8) (bd (sX0_slotsUntilDue (ix a3 + 1) x0 (gI x0 0 0 5)) fun q3 =>
  if a2 ≤ q3 then
  nm (a3 + (1 : Int32)) fun v5 =>
  sX6_earliest_b7 n x0 a1 a2 v5
  else
  nm (a3 + (1 : Int32)) fun v6 =>
  sX6_earliest_b7 n x0 a3 q3 v6)
def sX6_earliest  (x0 : St)  : Option (Int32) :=
  sX6_earliest_b7 FU x0 ((-1 : Int32)) ((100 : Int32)) ((0 : Int32))
def sX6_window  (x0 : St) (a1 : Int32) : Option ((Int32 ⊕ Nat)) :=
  bd (sX6_requireBeacon x0 a1) fun q1 => sm q1 (fun uq1 =>
  gd (inb a1 8) (bd (sX0_windowSize (ix a1 + 1) x0) fun q3 =>
  some (.inl q3))) (fun xq1 => some (.inr xq1))
def sX6_requireAhead_b11     : Option ((Unit ⊕ Nat)) :=
  some (.inr 2)
def sX6_requireAhead   (a0 : Int32) : Option ((Unit ⊕ Nat)) :=
  if a0 < 0 then
  sX6_requireAhead_b11
  else
  if a0 ≤ ((200 : Int32)) then
  some (.inl ())
  else
  sX6_requireAhead_b11
def sX6_tryAhead  (x0 : St) (x1 : St) (a1 : Int32) : Option (St) :=
  bd (sX5_copyFrom x0 x1) fun q1 =>
  bd (sX5_pass q1 a1) fun q2 =>
  some (q2)
def sX6_stateIn  (x0 : St) (x1 : St) (a1 : Int32) (a2 : Int32) : Option (St × (Int32 ⊕ Nat)) :=
  bd (sX6_requireBeacon x0 a1) fun q1 => sm q1 (fun uq1 =>
  bd (sX6_requireAhead a2) fun q2 => sm q2 (fun uq2 =>
  bd (sX6_tryAhead x0 x1 a2) fun q3 =>
  gd (inb a1 8) (some (q3, .inl (gI q3 (ix a1 + 1) 0 6)))) (fun xq2 => some (x1, .inr xq2))) (fun xq1 => some (x1, .inr xq1))
def sX6_energyIn  (x0 : St) (x1 : St) (a1 : Int32) (a2 : Int32) : Option (St × (Int32 ⊕ Nat)) :=
  bd (sX6_requireBeacon x0 a1) fun q1 => sm q1 (fun uq1 =>
  bd (sX6_requireAhead a2) fun q2 => sm q2 (fun uq2 =>
  bd (sX6_tryAhead x0 x1 a2) fun q3 =>
  gd (inb a1 8) (some (q3, .inl (gI q3 (ix a1 + 1) 0 5)))) (fun xq2 => some (x1, .inr xq2))) (fun xq1 => some (x1, .inr xq1))
def sX6_collisionsIn  (x0 : St) (x1 : St) (a1 : Int32) : Option (St × (Int32 ⊕ Nat)) :=
  bd (sX6_requireAhead a1) fun q1 => sm q1 (fun uq1 =>
  bd (sX6_tryAhead x0 x1 a1) fun q2 =>
  some (q2, .inl ((gI q2 0 0 9) - (gI x0 0 0 9)))) (fun xq1 => some (x1, .inr xq1))
def sX6_hasCome  (x1 : St) (a1 : Int32) (a2 : Int32) (a3 : Int32) : Option (Int32) :=
  gd (inb a2 8) (if a1 = (0 : Int32) then
  bd (sX5_knownTo (ix a2 + 1) x1) fun q3 =>
  bd (sX6_isIn q3 a3) fun q4 =>
  gd (isb q4) (some (q4))
  else
  if a1 = (1 : Int32) then
  bd (sX5_isAllKnown x1) fun q7 =>
  gd (isb q7) (some (q7))
  else
  if a1 = (2 : Int32) then
  if ¬ (gI x1 (ix a2 + 1) 0 6) = ((4 : Int32)) then
  some ((0 : Int32))
  else
  some ((1 : Int32))
  else
  if a1 = (3 : Int32) then
  bd (sX6_isIn (gI x1 0 0 10) a2) fun q12 =>
  gd (isb q12) (some (q12))
  else
  if (gI x1 (ix a2 + 1) 0 11) ≤ a3 then
  some ((0 : Int32))
  else
  some ((1 : Int32)))
def sX6_slotsUntil_b8 (fuel : Nat)   (x0 : St) (x1 : St) (a1 : Int32) (a3 : Int32) (a4 : Int32) (a5 : Int32) : Option (St × Int32) := match fuel with
  | 0 => none
  | n + 1 =>
  if ((300 : Int32)) < a5 then
  some (x1, (-1 : Int32))
  else
  bd (sX6_hasCome x1 a1 a3 a4) fun q3 =>
  if q3 = 0 then
  bd (sX5_pass x1 ((1 : Int32))) fun q5 =>
  nm (a5 + (1 : Int32)) fun v6 =>
  sX6_slotsUntil_b8 n x0 q5 a1 a3 a4 v6
  else
  some (x1, a5)
def sX6_slotsUntil  (x0 : St) (x1 : St) (a1 : Int32) (a2 : Int32) (a3 : Int32) (a4 : Int32) : Option (St × Int32) :=
  bd (sX6_tryAhead x0 x1 a2) fun q1 =>
  sX6_slotsUntil_b8 FU x0 q1 a1 a3 a4 a2
def sX6_knowsIn  (x0 : St) (x1 : St) (a1 : Int32) (a2 : Int32) : Option (St × (Int32 ⊕ Nat)) :=
  bd (sX6_requireBeacon x0 a1) fun q1 => sm q1 (fun uq1 =>
  bd (sX6_requireBeacon x0 a2) fun q2 => sm q2 (fun uq2 =>
  bd (sX6_slotsUntil x0 x1 ((0 : Int32)) ((0 : Int32)) a1 a2) fun q3 =>
  some (q3.1, .inl q3.2)) (fun xq2 => some (x1, .inr xq2))) (fun xq1 => some (x1, .inr xq1))
def sX6_allKnownIn  (x0 : St) (x1 : St)  : Option (St × Int32) :=
  bd (sX6_slotsUntil x0 x1 ((1 : Int32)) ((0 : Int32)) ((0 : Int32)) ((0 : Int32))) fun q1 =>
  some (q1.1, q1.2)
def sX6_outIn  (x0 : St) (x1 : St) (a1 : Int32) : Option (St × (Int32 ⊕ Nat)) :=
  bd (sX6_requireBeacon x0 a1) fun q1 => sm q1 (fun uq1 =>
  bd (sX6_slotsUntil x0 x1 ((2 : Int32)) ((0 : Int32)) a1 ((0 : Int32))) fun q2 =>
  some (q2.1, .inl q2.2)) (fun xq1 => some (x1, .inr xq1))
def sX6_sendsIn  (x0 : St) (x1 : St) (a1 : Int32) : Option (St × (Int32 ⊕ Nat)) :=
  bd (sX6_requireBeacon x0 a1) fun q1 => sm q1 (fun uq1 =>
  gd (inb a1 8) (if ¬ (gI x0 (ix a1 + 1) 0 6) = ((3 : Int32)) then
  bd (sX6_slotsUntil x0 x1 ((3 : Int32)) ((1 : Int32)) a1 ((0 : Int32))) fun q4 =>
  some (q4.1, .inl q4.2)
  else
  some (x1, .inl ((0 : Int32))))) (fun xq1 => some (x1, .inr xq1))
def sX6_wellIn  (x0 : St) (x1 : St) (a1 : Int32) : Option (St × (Int32 ⊕ Nat)) :=
  bd (sX6_requireBeacon x0 a1) fun q1 => sm q1 (fun uq1 =>
  gd (inb a1 8) (bd (sX6_slotsUntil x0 x1 ((4 : Int32)) ((1 : Int32)) a1 (gI x0 (ix a1 + 1) 0 11)) fun q3 =>
  some (q3.1, .inl q3.2))) (fun xq1 => some (x1, .inr xq1))
def sX6_bestAt_b83 (k26 : St → Int32 → Int32 → Int32 → Int32 → Int32 → Option (St × (Int32 ⊕ Nat)))  (x0 : St) (x1 : St) (a1 : Int32) (a2 : Int32) (a5 : Int32) : Option (St × (Int32 ⊕ Nat)) :=
  nm (a5 + (1 : Int32)) fun v11 =>
  k26 x1 a1 a2 a5 (gI x1 0 0 9) v11
def sX6_bestAt_b26 (fuel : Nat)   (x0 : St) (x1 : St) (a1 : Int32) (a2 : Int32) (a3 : Int32) (a4 : Int32) (a5 : Int32) : Option (St × (Int32 ⊕ Nat)) := match fuel with
  | 0 => none
  | n + 1 =>
  if a2 ≤ a5 then
  some (x1, .inl a3)
  else
  bd (sX5_copyFrom x0 x1) fun q4 =>
  gd (inb a1 8) (nm (pI q4 (ix a1 + 1) 0 2 a5) fun z6 =>
  bd (sX5_pass z6 ((100 : Int32))) fun q7 =>
  if a3 = ((-1 : Int32)) then
  sX6_bestAt_b83 (fun x1' a1' a2' a3' a4' a5' => sX6_bestAt_b26 n x0 x1' a1' a2' a3' a4' a5') x0 q7 a1 a2 a5
  else
  if a4 ≤ (gI q7 0 0 9) then
  nm (a5 + (1 : Int32)) fun v10 =>
  sX6_bestAt_b26 n x0 q7 a1 a2 a3 a4 v10
  else
  sX6_bestAt_b83 (fun x1' a1' a2' a3' a4' a5' => sX6_bestAt_b26 n x0 x1' a1' a2' a3' a4' a5') x0 q7 a1 a2 a5)
def sX6_bestAt  (x0 : St) (x1 : St) (a1 : Int32) : Option (St × (Int32 ⊕ Nat)) :=
  bd (sX6_requireBeacon x0 a1) fun q1 => sm q1 (fun uq1 =>
  gd (inb a1 8) (sX6_bestAt_b26 FU x0 x1 a1 (gI x0 (ix a1 + 1) 0 1) ((-1 : Int32)) ((0 : Int32)) ((0 : Int32)))) (fun xq1 => some (x1, .inr xq1))
def sX6_bestEvery_b90 (k33 : St → Int32 → Int32 → Int32 → Int32 → Int32 → Option (St × (Int32 ⊕ Nat)))  (x0 : St) (x1 : St) (a1 : Int32) (a2 : Int32) (a5 : Int32) : Option (St × (Int32 ⊕ Nat)) :=
  nm (a5 + (-1 : Int32)) fun v12 =>
  k33 x1 a1 a2 a5 (gI x1 0 0 7) v12
def sX6_bestEvery_b33 (fuel : Nat)   (x0 : St) (x1 : St) (a1 : Int32) (a2 : Int32) (a3 : Int32) (a4 : Int32) (a5 : Int32) : Option (St × (Int32 ⊕ Nat)) := match fuel with
  | 0 => none
  | n + 1 =>
  if a5 < a2 then
  some (x1, .inl a3)
  else
  bd (sX5_copyFrom x0 x1) fun q5 =>
  gd (inb a1 8) (nm (pI q5 (ix a1 + 1) 0 1 a5) fun z7 =>
  bd (sX5_pass z7 ((100 : Int32))) fun q8 =>
  if a3 = ((-1 : Int32)) then
  sX6_bestEvery_b90 (fun x1' a1' a2' a3' a4' a5' => sX6_bestEvery_b33 n x0 x1' a1' a2' a3' a4' a5') x0 q8 a1 a2 a5
  else
  if (gI q8 0 0 7) ≤ a4 then
  nm (a5 + (-1 : Int32)) fun v11 =>
  sX6_bestEvery_b33 n x0 q8 a1 a2 a3 a4 v11
  else
  sX6_bestEvery_b90 (fun x1' a1' a2' a3' a4' a5' => sX6_bestEvery_b33 n x0 x1' a1' a2' a3' a4' a5') x0 q8 a1 a2 a5)
def sX6_bestEvery  (x0 : St) (x1 : St) (a1 : Int32) : Option (St × (Int32 ⊕ Nat)) :=
  bd (sX6_requireBeacon x0 a1) fun q1 => sm q1 (fun uq1 =>
  gd (inb a1 8) (nm ((if ((2 : Int32)) < ((gI x0 (ix a1 + 1) 0 2) + ((1 : Int32))) then ((gI x0 (ix a1 + 1) 0 2) + ((1 : Int32))) else ((2 : Int32)))) fun v3 =>
  sX6_bestEvery_b33 FU x0 x1 a1 v3 ((-1 : Int32)) ((0 : Int32)) ((99 : Int32)))) (fun xq1 => some (x1, .inr xq1))
def sX6_run_b11   (x0 : St) (ps : Nat → St) (c : St)  : Option (St × (Nat → St) × St × (Int32 ⊕ Nat)) :=
  some (x0, ps, c, .inr 2)
def sX6_run  (x0 : St) (ps : Nat → St) (c : St) (a1 : Int32) : Option (St × (Nat → St) × St × (Int32 ⊕ Nat)) :=
  if a1 < ((1 : Int32)) then
  sX6_run_b11 x0 ps c
  else
  if a1 ≤ ((99 : Int32)) then
  bd (sX5_mayPass x0 a1) fun q3 =>
  if ¬ q3 = 0 then
  bd (sX6_keepForUndo x0 ps c) fun q5 =>
  bd (sX5_pass x0 a1) fun q6 =>
  some (q6, q5.1, q5.2, .inl ((gI q6 0 0 7) - (gI x0 0 0 7)))
  else
  some (x0, ps, c, .inr 1)
  else
  sX6_run_b11 x0 ps c
def sX6_wake  (x0 : St) (ps : Nat → St) (c : St) (a1 : Int32) : Option (St × (Nat → St) × St × (Int32 ⊕ Nat)) :=
  bd (sX6_requireBeacon x0 a1) fun q1 => sm q1 (fun uq1 =>
  gd (inb a1 8) (if (gI x0 (ix a1 + 1) 0 6) = 0 then
  bd (sX6_keepForUndo x0 ps c) fun q4 =>
  gd (inb a1 8) (bd (sX0_startListening (ix a1 + 1) x0) fun q6 =>
  some (q6, q4.1, q4.2, .inl (gI q6 0 0 5)))
  else
  some (x0, ps, c, .inr 1))) (fun xq1 => some (x0, ps, c, .inr xq1))
def sX6_setEvery  (x0 : St) (ps : Nat → St) (c : St) (a1 : Int32) (a2 : Int32) : Option (St × (Nat → St) × St × (Int32 ⊕ Nat)) :=
  bd (sX6_requireBeacon x0 a1) fun q1 => sm q1 (fun uq1 =>
  gd (inb a1 8) (bd (sX0_allowsPeriod (ix a1 + 1) x0 a2) fun q3 =>
  if ¬ q3 = 0 then
  bd (sX6_keepForUndo x0 ps c) fun q5 =>
  nm (pI x0 (ix a1 + 1) 0 1 a2) fun z6 =>
  some (z6, q5.1, q5.2, .inl (gI x0 (ix a1 + 1) 0 1))
  else
  some (x0, ps, c, .inr 2))) (fun xq1 => some (x0, ps, c, .inr xq1))
def sX6_setAt  (x0 : St) (ps : Nat → St) (c : St) (a1 : Int32) (a2 : Int32) : Option (St × (Nat → St) × St × (Int32 ⊕ Nat)) :=
  bd (sX6_requireBeacon x0 a1) fun q1 => sm q1 (fun uq1 =>
  gd (inb a1 8) (bd (sX0_allowsFirstWake (ix a1 + 1) x0 a2) fun q3 =>
  if ¬ q3 = 0 then
  bd (sX6_keepForUndo x0 ps c) fun q5 =>
  nm (pI x0 (ix a1 + 1) 0 2 a2) fun z6 =>
  some (z6, q5.1, q5.2, .inl (gI x0 (ix a1 + 1) 0 2))
  else
  some (x0, ps, c, .inr 2))) (fun xq1 => some (x0, ps, c, .inr xq1))
def sX6_charge  (x0 : St) (ps : Nat → St) (c : St) (a1 : Int32) (a2 : Int32) : Option (St × (Nat → St) × St × (Int32 ⊕ Nat)) :=
  bd (sX6_requireBeacon x0 a1) fun q1 => sm q1 (fun uq1 =>
  bd (sX6_isCharge a2) fun q2 =>
  if ¬ q2 = 0 then
  bd (sX6_keepForUndo x0 ps c) fun q4 =>
  gd (inb a1 8) (bd (sX0_takeEnergy (ix a1 + 1) x0 a2) fun q6 =>
  gd (inb a1 8) (some (q6, q4.1, q4.2, .inl (gI q6 (ix a1 + 1) 0 5))))
  else
  some (x0, ps, c, .inr 2)) (fun xq1 => some (x0, ps, c, .inr xq1))
def sX6_setNear  (x0 : St) (ps : Nat → St) (c : St) (a1 : Int32) (a2 : Int32) (a3 : Int32) : Option (St × (Nat → St) × St × (Int32 ⊕ Nat)) :=
  bd (sX6_requireBeacon x0 a1) fun q1 => sm q1 (fun uq1 =>
  bd (sX6_requireBeacon x0 a2) fun q2 => sm q2 (fun uq2 =>
  if ¬ a1 = a2 then
  gd (inb a1 8) (bd (sX6_isIn (gI x0 (ix a1 + 1) 0 10) a2) fun q5 =>
  if ¬ q5 = a3 then
  bd (sX6_keepForUndo x0 ps c) fun q7 =>
  bd (sX5_switchNear x0 a1 a2) fun q8 =>
  some (q8, q7.1, q7.2, .inl ((1 : Int32)))
  else
  some (x0, ps, c, .inl ((0 : Int32))))
  else
  some (x0, ps, c, .inr 2)) (fun xq2 => some (x0, ps, c, .inr xq2))) (fun xq1 => some (x0, ps, c, .inr xq1))
def sX6_setTries_b11   (x0 : St) (ps : Nat → St) (c : St)  : Option (St × (Nat → St) × St × (Int32 ⊕ Nat)) :=
  some (x0, ps, c, .inr 2)
def sX6_setTries  (x0 : St) (ps : Nat → St) (c : St) (a1 : Int32) : Option (St × (Nat → St) × St × (Int32 ⊕ Nat)) :=
  if a1 < ((1 : Int32)) then
  sX6_setTries_b11 x0 ps c
  else
  if a1 ≤ ((9 : Int32)) then
  bd (sX6_keepForUndo x0 ps c) fun q3 =>
  nm (pI x0 0 0 3 a1) fun z4 =>
  some (z4, q3.1, q3.2, .inl (gI x0 0 0 3))
  else
  sX6_setTries_b11 x0 ps c
def sX6_report_b9 (fuel : Nat)   (x0 : St) (pg : St) (a1 : Int32) : Option (St × Int32) := match fuel with
  | 0 => none
  | n + 1 =>
  if (gI x0 0 0 2) ≤ a1 then
  some (pg, gI pg 0 0 1)
  else
  gd (inb a1 8) (bd (sX1_writeLine (ix a1 + 1) x0 pg) fun q4 =>
  nm (a1 + (1 : Int32)) fun v5 =>
  sX6_report_b9 n x0 q4 v5)
def sX6_report  (x0 : St) (pg : St)  : Option (St × Int32) :=
  bd (sX1_clear pg) fun q1 =>
  sX6_report_b9 FU x0 q1 ((0 : Int32))
def sX6_reportByte_b15   (pg : St)  : Option ((Int32 ⊕ Nat)) :=
  some (.inr 3)
def sX6_reportByte  (pg : St) (a1 : Int32) : Option ((Int32 ⊕ Nat)) :=
  if a1 < 0 then
  sX6_reportByte_b15 pg
  else
  if a1 < (gI pg 0 0 1) then
  gd (inb a1 800) (some (.inl (gI pg 0 1 (ix a1))))
  else
  sX6_reportByte_b15 pg
def sX6_undo  (x0 : St) (ps : Nat → St) (c : St)  : Option (St × St × Int32) :=
  if ((1 : Int32)) ≤ (gI c 0 0 9) then
  nm (pI c 0 0 9 ((gI c 0 0 9) - ((1 : Int32)))) fun z2 =>
  gd (inb (gI z2 0 0 9) 6) (gd (ltN (ix (gI z2 0 2 (ix (gI z2 0 0 9)))) 6) (bd (sX5_copyFrom (ps (ix (gI z2 0 2 (ix (gI z2 0 0 9))))) x0) fun q5 =>
  some (q5, z2, gI z2 0 0 9)))
  else
  some (x0, c, (-1 : Int32))
def sX6_save  (x0 : St) (x2 : St) (c : St)  : Option (St × St × Int32) :=
  bd (sX5_copyFrom x0 x2) fun q1 =>
  nm (pI c 0 0 7 ((1 : Int32))) fun z2 =>
  some (q1, z2, gI x0 0 0 5)
def sX6_restore  (x0 : St) (x2 : St) (c : St)  : Option (St × St × (Int32 ⊕ Nat)) :=
  if ¬ (gI c 0 0 7) = 0 then
  bd (sX5_copyFrom x2 x0) fun q2 =>
  nm (pI c 0 0 9 ((0 : Int32))) fun z3 =>
  some (q2, z3, .inl (gI q2 0 0 5))
  else
  some (x0, c, .inr 1)
