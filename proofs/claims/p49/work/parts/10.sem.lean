def sX0_fallAsleep (o : Nat) (x : St)  : Option (St) :=
  nm (pI x o 0 6 ((0 : Int32))) fun z1 =>
  nm (pI z1 o 0 7 ((0 : Int32))) fun z2 =>
  nm (pI z2 o 0 8 ((0 : Int32))) fun z3 =>
  some z3
def sX0_begin_b81 (fuel : Nat)  (o : Nat) (x : St) (a3 : Int32) : Option (St) := match fuel with
  | 0 => none
  | n + 1 =>
  if ((8 : Int32)) ≤ a3 then
  some x
  else
  gd (inb a3 8) (nm (pI x o 2 (ix a3) ((-1 : Int32))) fun z19 =>
  gd (inb a3 8) (nm (pI z19 o 3 (ix a3) ((0 : Int32))) fun z21 =>
  gd (inb a3 8) (nm (pI z21 o 4 (ix a3) ((5 : Int32))) fun z23 =>
  nm (a3 + (1 : Int32)) fun v24 =>
  sX0_begin_b81 n o z23 v24)))
def sX0_begin_b61 (fuel : Nat)  (o : Nat) (x : St) (a3 : Int32) : Option (St) := match fuel with
  | 0 => none
  | n + 1 =>
  if ((4 : Int32)) ≤ a3 then
  sX0_begin_b81 FU o x ((0 : Int32))
  else
  gd (inb a3 4) (nm (pI x o 1 (ix a3) ((0 : Int32))) fun z15 =>
  nm (a3 + (1 : Int32)) fun v16 =>
  sX0_begin_b61 n o z15 v16)
def sX0_begin (o : Nat) (x : St) (a1 : Int64) : Option (St) :=
  nm (pL x o 0 0 a1) fun z1 =>
  nm (pI z1 o 0 1 ((2 : Int32))) fun z2 =>
  nm (pI z2 o 0 2 ((0 : Int32))) fun z3 =>
  nm (pI z3 o 0 3 ((0 : Int32))) fun z4 =>
  nm (pI z4 o 0 4 ((0 : Int32))) fun z5 =>
  nm (pI z5 o 0 5 ((0 : Int32))) fun z6 =>
  nm (pI z6 o 0 9 ((0 : Int32))) fun z7 =>
  nm (pI z7 o 0 10 ((0 : Int32))) fun z8 =>
  nm (pI z8 o 0 11 ((0 : Int32))) fun z9 =>
  nm (pI z9 o 0 12 ((0 : Int32))) fun z10 =>
  nm (pI z10 o 0 13 ((0 : Int32))) fun z11 =>
  bd (sX0_fallAsleep o z11) fun q12 =>
  sX0_begin_b61 FU o q12 ((0 : Int32))
def sX0_copyFrom_b139 (fuel : Nat)  (y : St) (o : Nat) (oo : Nat) (x : St) (a2 : Int32) : Option (St) := match fuel with
  | 0 => none
  | n + 1 =>
  if ((8 : Int32)) ≤ a2 then
  some x
  else
  gd (inb a2 8) (gd (inb a2 8) (nm (pI x o 2 (ix a2) (gI y oo 2 (ix a2))) fun z24 =>
  gd (inb a2 8) (gd (inb a2 8) (nm (pI z24 o 3 (ix a2) (gI y oo 3 (ix a2))) fun z27 =>
  gd (inb a2 8) (gd (inb a2 8) (nm (pI z27 o 4 (ix a2) (gI y oo 4 (ix a2))) fun z30 =>
  nm (a2 + (1 : Int32)) fun v31 =>
  sX0_copyFrom_b139 n y o oo z30 v31))))))
def sX0_copyFrom_b114 (fuel : Nat)  (y : St) (o : Nat) (oo : Nat) (x : St) (a2 : Int32) : Option (St) := match fuel with
  | 0 => none
  | n + 1 =>
  if ((4 : Int32)) ≤ a2 then
  sX0_copyFrom_b139 FU y o oo x ((0 : Int32))
  else
  gd (inb a2 4) (gd (inb a2 4) (nm (pI x o 1 (ix a2) (gI y oo 1 (ix a2))) fun z19 =>
  nm (a2 + (1 : Int32)) fun v20 =>
  sX0_copyFrom_b114 n y o oo z19 v20))
def sX0_copyFrom (y : St) (o : Nat) (oo : Nat) (x : St)  : Option (St) :=
  nm (pL x o 0 0 (gL y oo 0 0)) fun z1 =>
  nm (pI z1 o 0 1 (gI y oo 0 1)) fun z2 =>
  nm (pI z2 o 0 2 (gI y oo 0 2)) fun z3 =>
  nm (pI z3 o 0 3 (gI y oo 0 3)) fun z4 =>
  nm (pI z4 o 0 4 (gI y oo 0 4)) fun z5 =>
  nm (pI z5 o 0 5 (gI y oo 0 5)) fun z6 =>
  nm (pI z6 o 0 6 (gI y oo 0 6)) fun z7 =>
  nm (pI z7 o 0 7 (gI y oo 0 7)) fun z8 =>
  nm (pI z8 o 0 8 (gI y oo 0 8)) fun z9 =>
  gd (isb (gI y oo 0 9)) (nm (pI z9 o 0 9 (gI y oo 0 9)) fun z11 =>
  nm (pI z11 o 0 10 (gI y oo 0 10)) fun z12 =>
  nm (pI z12 o 0 11 (gI y oo 0 11)) fun z13 =>
  nm (pI z13 o 0 12 (gI y oo 0 12)) fun z14 =>
  nm (pI z14 o 0 13 (gI y oo 0 13)) fun z15 =>
  sX0_copyFrom_b114 FU y o oo z15 ((0 : Int32)))
def sX0_allowsPeriod (o : Nat) (x : St) (a1 : Int32) : Option (Int32) :=
  if a1 < ((2 : Int32)) then
  some ((0 : Int32))
  else
  if ((99 : Int32)) < a1 then
  some ((0 : Int32))
  else
  if a1 ≤ (gI x o 0 2) then
  some ((0 : Int32))
  else
  some ((1 : Int32))
def sX0_allowsFirstWake (o : Nat) (x : St) (a1 : Int32) : Option (Int32) :=
  if a1 < 0 then
  some ((0 : Int32))
  else
  if (gI x o 0 1) ≤ a1 then
  some ((0 : Int32))
  else
  some ((1 : Int32))
def sX0_isDueAt (o : Nat) (x : St) (a1 : Int32) : Option (Int32) :=
  if (a1 - (gI x o 0 2)) < 0 then
  some ((0 : Int32))
  else
  if (gI x o 0 1) ≤ 0 then
  some ((0 : Int32))
  else
  gd (nz (gI x o 0 1)) (if ¬ ((a1 - (gI x o 0 2)) - (a1 - (gI x o 0 2)) / (gI x o 0 1) * (gI x o 0 1)) = 0 then
  some ((0 : Int32))
  else
  some ((1 : Int32)))
def sX0_slotsUntilDue_b2 (fuel : Nat)  (o : Nat) (x : St) (a1 : Int32) (a2 : Int32) : Option (Int32) := match fuel with
  | 0 => none
  | n + 1 =>
  if ((99 : Int32)) ≤ a2 then
  some a2
  else
  bd (sX0_isDueAt o x (a1 + a2)) fun q2 =>
  if ¬ q2 = 0 then
  some a2
  else
  nm (a2 + (1 : Int32)) fun v4 =>
  sX0_slotsUntilDue_b2 n o x a1 v4
def sX0_slotsUntilDue (o : Nat) (x : St) (a1 : Int32) : Option (Int32) :=
  sX0_slotsUntilDue_b2 FU o x a1 ((1 : Int32))
def sX0_windowSize (o : Nat) (x : St)  : Option (Int32) :=
  some ((if (((2 : Int32)) <<< ((gI x o 0 8) &&& (31 : Int32))) < ((32 : Int32)) then (((2 : Int32)) <<< ((gI x o 0 8) &&& (31 : Int32))) else ((32 : Int32))))
def sX0_hasOpenEars (o : Nat) (x : St)  : Option (Int32) :=
  if (gI x o 0 6) = ((1 : Int32)) then
  some ((1 : Int32))
  else
  if ¬ (gI x o 0 6) = ((2 : Int32)) then
  some ((0 : Int32))
  else
  some ((1 : Int32))
def sX0_startListening (o : Nat) (x : St)  : Option (St) :=
  nm (pI x o 0 6 ((1 : Int32))) fun z1 =>
  nm (pI z1 o 0 7 (gI z1 o 0 3)) fun z2 =>
  nm (pI z2 o 0 9 ((0 : Int32))) fun z3 =>
  some z3
def sX0_startSending_b15 (fuel : Nat)  (o : Nat) (x : St) (a1 : Int32) : Option (St) := match fuel with
  | 0 => none
  | n + 1 =>
  if ((8 : Int32)) ≤ a1 then
  some x
  else
  gd (inb a1 8) (nm (pI x o 3 (ix a1) ((0 : Int32))) fun z5 =>
  nm (a1 + (1 : Int32)) fun v6 =>
  sX0_startSending_b15 n o z5 v6)
def sX0_startSending (o : Nat) (x : St)  : Option (St) :=
  nm (pI x o 0 6 ((3 : Int32))) fun z1 =>
  nm (pI z1 o 0 7 (gI z1 o 0 4)) fun z2 =>
  sX0_startSending_b15 FU o z2 ((0 : Int32))
def sX0_payForSlot (o : Nat) (x : St) (a1 : Int32) : Option (St) :=
  nm ((if (gI x o 0 5) < a1 then (gI x o 0 5) else a1)) fun v1 =>
  nm (pI x o 0 5 ((gI x o 0 5) - v1)) fun z2 =>
  nm (pI z2 o 0 13 ((gI z2 o 0 13) + v1)) fun z3 =>
  if ¬ (gI z3 o 0 5) = 0 then
  some z3
  else
  nm (pI z3 o 0 6 ((4 : Int32))) fun z5 =>
  nm (pI z5 o 0 7 ((0 : Int32))) fun z6 =>
  some z6
def sX0_takeEnergy (o : Nat) (x : St) (a1 : Int32) : Option (St) :=
  nm ((if ((gI x o 0 5) + a1) < ((9999 : Int32)) then ((gI x o 0 5) + a1) else ((9999 : Int32)))) fun v1 =>
  nm (pI x o 0 5 v1) fun z2 =>
  if ¬ (gI z2 o 0 6) = ((4 : Int32)) then
  some z2
  else
  bd (sX0_fallAsleep o z2) fun q4 =>
  some q4
def sX1_clear  (pg : St)  : Option (St) :=
  nm (pI pg 0 0 1 ((0 : Int32))) fun z1 =>
  some z1
def sX6_letterOf   (a0 : Int64) (a2 : Int32) : Option (Int32) :=
  if a2 < 0 then
  some ((0 : Int32))
  else
  if a2 < ((8 : Int32)) then
  some ((((a0.toUInt64 >>> ((((8 : Int32)) * a2).toInt64.toUInt64 &&& Int64.toUInt64 63)).toInt64).toInt32) &&& ((255 : Int32)))
  else
  some ((0 : Int32))
def sX1_write  (pg : St) (a1 : Int32) : Option (St) :=
  if ((800 : Int32)) ≤ (gI pg 0 0 1) then
  some pg
  else
  gd (inb (gI pg 0 0 1) 800) (nm (pI pg 0 1 (ix (gI pg 0 0 1)) (a1.toInt8.toInt32.toInt8.toInt32)) fun z3 =>
  nm (pI z3 0 0 1 ((gI z3 0 0 1) + ((1 : Int32)))) fun z4 =>
  some z4)
def sX1_writeName_b2 (fuel : Nat)   (pg : St) (a1 : Int64) (a3 : Int32) : Option (St) := match fuel with
  | 0 => none
  | n + 1 =>
  if ((8 : Int32)) ≤ a3 then
  some pg
  else
  bd (sX6_letterOf a1 a3) fun q2 =>
  if q2 = 0 then
  some pg
  else
  bd (sX6_letterOf a1 a3) fun q4 =>
  bd (sX1_write pg q4) fun q5 =>
  nm (a3 + (1 : Int32)) fun v6 =>
  sX1_writeName_b2 n q5 a1 v6
def sX1_writeName  (pg : St) (a1 : Int64) : Option (St) :=
  sX1_writeName_b2 FU pg a1 ((0 : Int32))
def sX1_stateWord   (a0 : Int32) : Option (Nat) :=
  if a0 = (0 : Int32) then
  some 0
  else
  if a0 = (1 : Int32) then
  some 1
  else
  if a0 = (2 : Int32) then
  some 2
  else
  if a0 = (3 : Int32) then
  some 3
  else
  some 4
def sX1_writeWord_b2 (fuel : Nat)  (w1 : Nat) (pg : St) (a2 : Int32) : Option (St) := match fuel with
  | 0 => none
  | n + 1 =>
  if (nI (lenJS.getD w1 0)) ≤ a2 then
  some pg
  else
  gd (inb a2 (lenJS.getD w1 0)) (bd (sX1_write pg (chJ w1 (ix a2))) fun q3 =>
  nm (a2 + (1 : Int32)) fun v4 =>
  sX1_writeWord_b2 n w1 q3 v4)
def sX1_writeWord (w1 : Nat) (pg : St)  : Option (St) :=
  sX1_writeWord_b2 FU w1 pg ((0 : Int32))
def sX1_writeNumber_b48 (k9 : St → Int32 → Int32 → Int32 → Option (St))  (pg : St) (a2 : Int32) (a4 : Int32) (a5 : Int32) (s0 : Int32) : Option (St) :=
  if s0 = 0 then
  k9 pg a2 s0 (a4 / ((10 : Int32)))
  else
  bd (sX1_write pg (((48 : Int32)) + a5)) fun q7 =>
  k9 q7 a2 s0 (a4 / ((10 : Int32)))
def sX1_writeNumber_b9 (fuel : Nat)   (pg : St) (a2 : Int32) (a3 : Int32) (a4 : Int32) : Option (St) := match fuel with
  | 0 => none
  | n + 1 =>
  if a4 ≤ 0 then
  some pg
  else
  gd (nz a4) (if ¬ a3 = 0 then
  sX1_writeNumber_b48 (fun pg' a2' a3' a4' => sX1_writeNumber_b9 n pg' a2' a3' a4') pg (a2 - ((a2 / a4) * a4)) a4 (a2 / a4) ((1 : Int32))
  else
  if 0 < (a2 / a4) then
  sX1_writeNumber_b48 (fun pg' a2' a3' a4' => sX1_writeNumber_b9 n pg' a2' a3' a4') pg (a2 - ((a2 / a4) * a4)) a4 (a2 / a4) ((1 : Int32))
  else
  if ¬ a4 = ((1 : Int32)) then
  sX1_writeNumber_b48 (fun pg' a2' a3' a4' => sX1_writeNumber_b9 n pg' a2' a3' a4') pg (a2 - ((a2 / a4) * a4)) a4 (a2 / a4) ((0 : Int32))
  else
  sX1_writeNumber_b48 (fun pg' a2' a3' a4' => sX1_writeNumber_b9 n pg' a2' a3' a4') pg (a2 - ((a2 / a4) * a4)) a4 (a2 / a4) ((1 : Int32)))
def sX1_writeNumber  (pg : St) (a1 : Int32) : Option (St) :=
  sX1_writeNumber_b9 FU pg a1 ((0 : Int32)) ((1000 : Int32))
def sX5_knownTo_b4 (fuel : Nat)  (o1 : Nat) (x : St) (a2 : Int32) (a3 : Int32) : Option (Int32) := match fuel with
  | 0 => none
  | n + 1 =>
  if (gI x 0 0 2) ≤ a3 then
  some a2
  else
  gd (inb a3 8) (if (gI x o1 2 (ix a3)) = ((-1 : Int32)) then
  nm (a3 + (1 : Int32)) fun v4 =>
  sX5_knownTo_b4 n o1 x a2 v4
  else
  if (gI x 0 0 4) < ((gI x 0 0 5) - (gI x o1 2 (ix a3))) then
  nm (a3 + (1 : Int32)) fun v6 =>
  sX5_knownTo_b4 n o1 x a2 v6
  else
  nm (a2 ||| (((1 : Int32)) <<< (a3 &&& (31 : Int32)))) fun v7 =>
  nm (a3 + (1 : Int32)) fun v8 =>
  sX5_knownTo_b4 n o1 x v7 v8)
def sX5_knownTo (o1 : Nat) (x : St)  : Option (Int32) :=
  sX5_knownTo_b4 FU o1 x ((0 : Int32)) ((0 : Int32))
def sX6_isIn   (a0 : Int32) (a1 : Int32) : Option (Int32) :=
  if ((a0 >>> (a1 &&& (31 : Int32))) &&& ((1 : Int32))) = 0 then
  some ((0 : Int32))
  else
  some ((1 : Int32))
def sX1_writeLine_b62 (fuel : Nat)  (o2 : Nat) (x0 : St) (pg : St) (a3 : Int32) (a4 : Int32) : Option (St) := match fuel with
  | 0 => none
  | n + 1 =>
  if (gI x0 0 0 2) ≤ a4 then
  bd (sX1_write pg ((10 : Int32))) fun q12 =>
  some q12
  else
  bd (sX6_isIn a3 a4) fun q13 =>
  if q13 = 0 then
  nm (a4 + (1 : Int32)) fun v15 =>
  sX1_writeLine_b62 n o2 x0 pg a3 v15
  else
  bd (sX1_write pg ((32 : Int32))) fun q16 =>
  bd (sX1_write q16 ((43 : Int32))) fun q17 =>
  gd (inb a4 8) (bd (sX1_writeName q17 (gL x0 (ix a4 + 1) 0 0)) fun q19 =>
  nm (a4 + (1 : Int32)) fun v20 =>
  sX1_writeLine_b62 n o2 x0 q19 a3 v20)
def sX1_writeLine (o2 : Nat) (x0 : St) (pg : St)  : Option (St) :=
  bd (sX1_writeName pg (gL x0 o2 0 0)) fun q1 =>
  bd (sX1_write q1 ((32 : Int32))) fun q2 =>
  bd (sX1_stateWord (gI x0 o2 0 6)) fun q3 =>
  gd (ltN q3 nJS) (bd (sX1_writeWord q3 q2) fun q5 =>
  bd (sX1_write q5 ((32 : Int32))) fun q6 =>
  bd (sX1_writeNumber q6 (gI x0 o2 0 7)) fun q7 =>
  bd (sX1_write q7 ((32 : Int32))) fun q8 =>
  bd (sX1_writeNumber q8 (gI x0 o2 0 5)) fun q9 =>
  bd (sX5_knownTo o2 x0) fun q10 =>
  sX1_writeLine_b62 FU o2 x0 q9 q10 ((0 : Int32)))
def sX4_advance  (t : St)  : Option (St) :=
  if (gI t 0 0 3) ≤ (gI t 0 0 4) then
  some t
  else
  gd (inb (gI t 0 0 4) 701) (nm (pI t 0 0 5 (gI t 0 1 (ix (gI t 0 0 4)))) fun z3 =>
  gd (inb (gI z3 0 0 4) 701) (nm (pI z3 0 0 6 (gI z3 0 2 (ix (gI z3 0 0 4)))) fun z5 =>
  gd (inb (gI z5 0 0 4) 701) (nm (pL z5 0 0 7 (gL z5 0 3 (ix (gI z5 0 0 4)))) fun z7 =>
  nm (pI z7 0 0 4 ((gI z7 0 0 4) + ((1 : Int32)))) fun z8 =>
  some z8)))
def sX4_fail  (t : St) (a1 : Int32) : Option (St × Int32) :=
  nm (pI t 0 0 8 a1) fun z1 =>
  nm (pI z1 0 0 9 (gI z1 0 0 6)) fun z2 =>
  some (z2, (0 : Int32))
def sX4_takeSign  (t : St) (a1 : Int32) : Option (St × Int32) :=
  if (gI t 0 0 5) = a1 then
  bd (sX4_advance t) fun q2 =>
  some (q2, (1 : Int32))
  else
  bd (sX4_fail t ((1 : Int32))) fun q3 =>
  gd (isb q3.2) (some (q3.1, q3.2))
def sX2_add  (S : St) (a1 : Int32) (a2 : Int32) (a3 : Int32) : Option (St) :=
  if ((60 : Int32)) ≤ (gI S 0 0 4) then
  some S
  else
  gd (inb (gI S 0 0 4) 60) (nm (pI S 0 1 (ix (gI S 0 0 4)) a1) fun z3 =>
  gd (inb (gI z3 0 0 4) 60) (nm (pI z3 0 2 (ix (gI z3 0 0 4)) a2) fun z5 =>
  gd (inb (gI z5 0 0 4) 60) (nm (pI z5 0 3 (ix (gI z5 0 0 4)) a3) fun z7 =>
  nm (pI z7 0 0 4 ((gI z7 0 0 4) + ((1 : Int32)))) fun z8 =>
  some z8)))
def sX2_readClose  (tb : St) (S : St)  : Option (St × St × Int32) :=
  bd (sX4_advance tb) fun q1 =>
  bd (sX4_takeSign q1 ((59 : Int32))) fun q2 =>
  if q2.2 = 0 then
  some (q2.1, S, (0 : Int32))
  else
  if (gI S 0 0 8) < ((1 : Int32)) then
  some (q2.1, S, (0 : Int32))
  else
  if (gI S 0 0 8) ≤ ((2 : Int32)) then
  nm (pI S 0 0 8 ((gI S 0 0 8) - ((1 : Int32)))) fun z6 =>
  gd (inb (gI z6 0 0 8) 2) (bd (sX2_add z6 ((8 : Int32)) (gI z6 0 4 (ix (gI z6 0 0 8))) ((0 : Int32))) fun q8 =>
  some (q2.1, q8, (1 : Int32)))
  else
  some (q2.1, S, (0 : Int32))
def sX4_isWord_b26 (fuel : Nat)  (w1 : Nat) (t : St) (a2 : Int32) : Option (Int32) := match fuel with
  | 0 => none
  | n + 1 =>
  if (nI (lenJS.getD w1 0)) ≤ a2 then
  some ((1 : Int32))
  else
  bd (sX6_letterOf (gL t 0 0 7) a2) fun q5 =>
  gd (inb a2 (lenJS.getD w1 0)) (if q5 = (chJ w1 (ix a2)) then
  nm (a2 + (1 : Int32)) fun v8 =>
  sX4_isWord_b26 n w1 t v8
  else
  some ((0 : Int32)))
def sX4_isWord (w1 : Nat) (t : St)  : Option (Int32) :=
  if ¬ (gI t 0 0 5) = ((1 : Int32)) then
  some ((0 : Int32))
  else
  bd (sX6_letterOf (gL t 0 0 7) (nI (lenJS.getD w1 0))) fun q2 =>
  if q2 = 0 then
  sX4_isWord_b26 FU w1 t ((0 : Int32))
  else
  some ((0 : Int32))
def sX2_kindHere  (tb : St)  : Option (Int32) :=
  bd (sX4_isWord 5 tb) fun q1 =>
  if q1 = 0 then
  bd (sX4_isWord 6 tb) fun q3 =>
  if q3 = 0 then
  bd (sX4_isWord 7 tb) fun q5 =>
  if q5 = 0 then
  bd (sX4_isWord 8 tb) fun q7 =>
  if q7 = 0 then
  bd (sX4_isWord 9 tb) fun q9 =>
  if q9 = 0 then
  bd (sX4_isWord 10 tb) fun q11 =>
  if q11 = 0 then
  bd (sX4_isWord 11 tb) fun q13 =>
  if q13 = 0 then
  bd (sX4_isWord 12 tb) fun q15 =>
  if q15 = 0 then
  some ((-1 : Int32))
  else
  some ((7 : Int32))
  else
  some ((6 : Int32))
  else
  some ((5 : Int32))
  else
  some ((4 : Int32))
  else
  some ((3 : Int32))
  else
  some ((2 : Int32))
  else
  some ((1 : Int32))
  else
  some ((0 : Int32))
def sX4_takeNumber_b36   (t : St)  : Option (St × Int32) :=
  bd (sX4_fail t ((2 : Int32))) fun q6 =>
  some (q6.1, (-1 : Int32))
def sX4_takeNumber  (t : St) (a1 : Int32) (a2 : Int32) : Option (St × Int32) :=
  if (gI t 0 0 5) = ((2 : Int32)) then
  if (lg_cmp (gL t 0 0 7) a1.toInt64) < 0 then
  sX4_takeNumber_b36 t
  else
  if (lg_cmp (gL t 0 0 7) a2.toInt64) ≤ 0 then
  bd (sX4_advance t) fun q4 =>
  some (q4, (gL t 0 0 7).toInt32)
  else
  sX4_takeNumber_b36 t
  else
  bd (sX4_fail t ((1 : Int32))) fun q5 =>
  some (q5.1, (-1 : Int32))
def sX2_readRepeat  (tb : St) (S : St)  : Option (St × St × Int32) :=
  bd (sX4_takeNumber tb ((1 : Int32)) ((20 : Int32))) fun q1 =>
  if q1.2 = ((-1 : Int32)) then
  some (q1.1, S, (0 : Int32))
  else
  bd (sX4_takeSign q1.1 ((40 : Int32))) fun q3 =>
  if q3.2 = 0 then
  some (q3.1, S, (0 : Int32))
  else
  if (gI S 0 0 8) < ((2 : Int32)) then
  gd (inb (gI S 0 0 8) 2) (nm (pI S 0 4 (ix (gI S 0 0 8)) (gI S 0 0 4)) fun z7 =>
  nm (pI z7 0 0 8 ((gI z7 0 0 8) + ((1 : Int32)))) fun z8 =>
  bd (sX2_add z8 ((7 : Int32)) q1.2 ((0 : Int32))) fun q9 =>
  some (q3.1, q9, (1 : Int32)))
  else
  some (q3.1, S, (0 : Int32))
def sX5_find_b2 (fuel : Nat)   (x : St) (a1 : Int64) (a3 : Int32) : Option (Int32) := match fuel with
  | 0 => none
  | n + 1 =>
  if (gI x 0 0 2) ≤ a3 then
  some ((-1 : Int32))
  else
  gd (inb a3 8) (if ¬ (lg_cmp (gL x (ix a3 + 1) 0 0) a1) = 0 then
  nm (a3 + (1 : Int32)) fun v4 =>
  sX5_find_b2 n x a1 v4
  else
  some a3)
def sX5_find  (x : St) (a1 : Int64) : Option (Int32) :=
  sX5_find_b2 FU x a1 ((0 : Int32))
def sX4_beaconHere (y : St) (t : St)  : Option (St × Int32) :=
  if (gI t 0 0 5) = ((1 : Int32)) then
  bd (sX5_find y (gL t 0 0 7)) fun q2 =>
  if ¬ q2 = ((-1 : Int32)) then
  some (t, q2)
  else
  bd (sX4_fail t ((4 : Int32))) fun q6 =>
  some (q6.1, q2)
  else
  bd (sX4_fail t ((1 : Int32))) fun q7 =>
  some (q7.1, (-1 : Int32))
def sX2_readBehindName_b30   (x0 : St) (tb : St) (a3 : Int32) : Option (St × Int32) :=
  bd (sX4_beaconHere x0 tb) fun q5 =>
  if ¬ q5.2 = a3 then
  if q5.2 = ((-1 : Int32)) then
  some (q5.1, q5.2)
  else
  bd (sX4_advance q5.1) fun q8 =>
  some (q8, q5.2)
  else
  bd (sX4_fail q5.1 ((3 : Int32))) fun q9 =>
  some (q9.1, (-1 : Int32))
def sX2_readBehindName  (x0 : St) (tb : St) (a2 : Int32) (a3 : Int32) : Option (St × Int32) :=
  if ¬ a2 = ((1 : Int32)) then
  if a2 = ((5 : Int32)) then
  sX2_readBehindName_b30 x0 tb a3
  else
  if a2 = ((6 : Int32)) then
  sX2_readBehindName_b30 x0 tb a3
  else
  bd (sX4_takeNumber tb ((0 : Int32)) ((999 : Int32))) fun q4 =>
  some (q4.1, q4.2)
  else
  some (tb, (0 : Int32))
def sX2_readCommand  (x0 : St) (tb : St) (S : St) (a2 : Int32) : Option (St × St × Int32) :=
  if ¬ a2 = 0 then
  bd (sX4_beaconHere x0 tb) fun q2 =>
  if ¬ q2.2 = ((-1 : Int32)) then
  bd (sX4_advance q2.1) fun q4 =>
  bd (sX2_readBehindName x0 q4 a2 q2.2) fun q5 =>
  bd (sX2_add S a2 q2.2 q5.2) fun q6 =>
  if q5.2 = ((-1 : Int32)) then
  some (q5.1, q6, (0 : Int32))
  else
  some (q5.1, q6, (1 : Int32))
  else
  some (q2.1, S, (0 : Int32))
  else
  bd (sX4_takeNumber tb ((0 : Int32)) ((999 : Int32))) fun q8 =>
  bd (sX2_add S a2 q8.2 ((0 : Int32))) fun q9 =>
  if q8.2 = ((-1 : Int32)) then
  some (q8.1, q9, (0 : Int32))
  else
  some (q8.1, q9, (1 : Int32))
def sX2_readStep_b66   (x0 : St) (tb : St) (S : St) (a2 : Int32) : Option (St × St × Int32) :=
  if (gI S 0 0 5) < ((30 : Int32)) then
  nm (pI S 0 0 5 ((gI S 0 0 5) + ((1 : Int32)))) fun z14 =>
  bd (sX4_advance tb) fun q15 =>
  if ¬ a2 = ((7 : Int32)) then
  bd (sX2_readCommand x0 q15 z14 a2) fun q17 =>
  if q17.2.2 = 0 then
  some (q17.1, q17.2.1, (0 : Int32))
  else
  bd (sX4_takeSign q17.1 ((59 : Int32))) fun q19 =>
  if q19.2 = 0 then
  some (q19.1, q17.2.1, (0 : Int32))
  else
  some (q19.1, q17.2.1, (1 : Int32))
  else
  bd (sX2_readRepeat q15 z14) fun q21 =>
  gd (isb q21.2.2) (some (q21.1, q21.2.1, q21.2.2))
  else
  bd (sX4_fail tb ((5 : Int32))) fun q23 =>
  gd (isb q23.2) (some (q23.1, S, q23.2))
def sX2_readStep_b24   (x0 : St) (tb : St) (S : St)  : Option (St × St × Int32) :=
  bd (sX2_kindHere tb) fun q5 =>
  if ¬ q5 = ((-1 : Int32)) then
  if ¬ q5 = ((7 : Int32)) then
  sX2_readStep_b66 x0 tb S q5
  else
  if (gI S 0 0 8) < ((2 : Int32)) then
  sX2_readStep_b66 x0 tb S q5
  else
  bd (sX4_fail tb ((3 : Int32))) fun q9 =>
  gd (isb q9.2) (some (q9.1, S, q9.2))
  else
  bd (sX4_fail tb ((1 : Int32))) fun q11 =>
  gd (isb q11.2) (some (q11.1, S, q11.2))
def sX2_readStep  (x0 : St) (tb : St) (S : St)  : Option (St × St × Int32) :=
  if (gI S 0 0 8) ≤ 0 then
  sX2_readStep_b24 x0 tb S
  else
  if ¬ (gI tb 0 0 5) = ((41 : Int32)) then
  sX2_readStep_b24 x0 tb S
  else
  bd (sX2_readClose tb S) fun q3 =>
  gd (isb q3.2.2) (some (q3.1, q3.2.1, q3.2.2))
def sX2_readAll_b41 (k17 : St → St → Int32 → Option (St × St × Int32))  (x0 : St) (tb : St) (S : St) (a2 : Int32) : Option (St × St × Int32) :=
  bd (sX2_readStep x0 tb S) fun q7 =>
  if ¬ q7.2.2 = 0 then
  nm (a2 + (1 : Int32)) fun v9 =>
  k17 q7.1 q7.2.1 v9
  else
  some (q7.1, q7.2.1, (0 : Int32))
def sX2_readAll_b17 (fuel : Nat)   (x0 : St) (tb : St) (S : St) (a2 : Int32) : Option (St × St × Int32) := match fuel with
  | 0 => none
  | n + 1 =>
  if ((700 : Int32)) < a2 then
  some (tb, S, (1 : Int32))
  else
  if 0 < (gI S 0 0 8) then
  sX2_readAll_b41 (fun tb' S' a2' => sX2_readAll_b17 n x0 tb' S' a2') x0 tb S a2
  else
  if (gI tb 0 0 5) = 0 then
  some (tb, S, (1 : Int32))
  else
  sX2_readAll_b41 (fun tb' S' a2' => sX2_readAll_b17 n x0 tb' S' a2') x0 tb S a2
def sX2_readAll  (x0 : St) (tb : St) (S : St)  : Option (St × St × Int32) :=
  nm (pI S 0 0 4 ((0 : Int32))) fun z1 =>
  nm (pI z1 0 0 5 ((0 : Int32))) fun z2 =>
  nm (pI z2 0 0 8 ((0 : Int32))) fun z3 =>
  sX2_readAll_b17 FU x0 tb z3 ((0 : Int32))
def sX2_openRepeat  (S : St) (a1 : Int32) : Option (St) :=
  if ((2 : Int32)) ≤ (gI S 0 0 8) then
  some S
  else
  gd (inb (gI S 0 0 8) 2) (nm (pI S 0 5 (ix (gI S 0 0 8)) a1) fun z3 =>
  nm (pI z3 0 0 8 ((gI z3 0 0 8) + ((1 : Int32)))) fun z4 =>
  some z4)
def sX2_closeRepeat  (S : St) (a1 : Int32) : Option (St × Int32) :=
  if (gI S 0 0 8) < ((1 : Int32)) then
  some (S, a1)
  else
  if (gI S 0 0 8) ≤ ((2 : Int32)) then
  gd (inb ((gI S 0 0 8) - ((1 : Int32))) 2) (nm ((gI S 0 5 (ix ((gI S 0 0 8) - ((1 : Int32))))) - ((1 : Int32))) fun v4 =>
  gd (inb ((gI S 0 0 8) - ((1 : Int32))) 2) (nm (pI S 0 5 (ix ((gI S 0 0 8) - ((1 : Int32)))) v4) fun z6 =>
  gd (inb ((gI z6 0 0 8) - ((1 : Int32))) 2) (if (gI z6 0 5 (ix ((gI z6 0 0 8) - ((1 : Int32))))) ≤ 0 then
  nm (pI z6 0 0 8 ((gI z6 0 0 8) - ((1 : Int32)))) fun z9 =>
  some (z9, a1)
  else
  gd (inb a1 60) (some (z6, gI z6 0 2 (ix a1))))))
  else
  some (S, a1)
def sX5_mayPass  (x : St) (a1 : Int32) : Option (Int32) :=
  if a1 < ((1 : Int32)) then
  some ((0 : Int32))
  else
  if ((99 : Int32)) < a1 then
  some ((0 : Int32))
  else
  if ((99999 : Int32)) < ((gI x 0 0 5) + a1) then
  some ((0 : Int32))
  else
  some ((1 : Int32))
def sX5_wakeOrSkip_b37  (o1 : Nat) (x : St)  : Option (St) :=
  bd (sX0_startListening o1 x) fun q6 =>
  some q6
def sX5_wakeOrSkip (o1 : Nat) (x : St)  : Option (St) :=
  if ¬ (gI x o1 0 9) = 0 then
  sX5_wakeOrSkip_b37 o1 x
  else
  if (gI x o1 0 10) = 0 then
  sX5_wakeOrSkip_b37 o1 x
  else
  bd (sX5_knownTo o1 x) fun q3 =>
  if ¬ ((gI x o1 0 10) &&& (q3 ^^^ ((-1 : Int32)))) = 0 then
  sX5_wakeOrSkip_b37 o1 x
  else
  nm (pI x o1 0 9 ((1 : Int32))) fun z5 =>
  some z5
def sX5_waitByDraw (o1 : Nat) (x : St)  : Option (St) :=
  bd (sX0_windowSize o1 x) fun q1 =>
  nm (((gI x 0 0 6) * ((1103515245 : Int32))) + ((12345 : Int32))) fun v2 =>
  nm (pI x 0 0 6 v2) fun z3 =>
  nm (pI z3 o1 0 6 ((2 : Int32))) fun z4 =>
  if ((1 : Int32)) ≤ q1 then
  gd (nz q1) (nm (((1 : Int32)) + ((((gI z4 0 0 6).toUInt32 >>> (((16 : Int32)).toUInt32 &&& Int32.toUInt32 31)).toInt32) - (((gI z4 0 0 6).toUInt32 >>> (((16 : Int32)).toUInt32 &&& Int32.toUInt32 31)).toInt32) / q1 * q1)) fun v7 =>
  nm (pI z4 o1 0 7 v7) fun z8 =>
  some z8)
  else
  nm (pI z4 o1 0 7 ((1 : Int32))) fun z9 =>
  some z9
def sX5_waitOn (o1 : Nat) (x : St)  : Option (St) :=
  nm (pI x o1 0 7 ((gI x o1 0 7) - ((1 : Int32)))) fun z1 =>
  if ¬ (gI z1 o1 0 7) = 0 then
  some z1
  else
  bd (sX0_startSending o1 z1) fun q3 =>
  some q3
def sX5_changeStates_b2 (fuel : Nat)   (x : St) (a1 : Int32) : Option (St) := match fuel with
  | 0 => none
  | n + 1 =>
  if (gI x 0 0 2) ≤ a1 then
  some x
  else
  gd (inb a1 8) (nm (gI x (ix a1 + 1) 0 6) fun v3 =>
  if v3 = (0 : Int32) then
  bd (sX0_isDueAt (ix a1 + 1) x (gI x 0 0 5)) fun q5 =>
  if q5 = 0 then
  nm (a1 + (1 : Int32)) fun v7 =>
  sX5_changeStates_b2 n x v7
  else
  bd (sX5_wakeOrSkip (ix a1 + 1) x) fun q8 =>
  nm (a1 + (1 : Int32)) fun v9 =>
  sX5_changeStates_b2 n q8 v9
  else
  if v3 = (1 : Int32) then
  nm ((gI x (ix a1 + 1) 0 7) - ((1 : Int32))) fun v11 =>
  nm (pI x (ix a1 + 1) 0 7 v11) fun z12 =>
  if ¬ (gI z12 (ix a1 + 1) 0 7) = 0 then
  nm (a1 + (1 : Int32)) fun v14 =>
  sX5_changeStates_b2 n z12 v14
  else
  bd (sX5_waitByDraw (ix a1 + 1) z12) fun q15 =>
  nm (a1 + (1 : Int32)) fun v16 =>
  sX5_changeStates_b2 n q15 v16
  else
  if v3 = (2 : Int32) then
  if ¬ ((gI x (ix a1 + 1) 0 10) &&& (gI x 0 0 10)) = 0 then
  nm (a1 + (1 : Int32)) fun v19 =>
  sX5_changeStates_b2 n x v19
  else
  bd (sX5_waitOn (ix a1 + 1) x) fun q20 =>
  nm (a1 + (1 : Int32)) fun v21 =>
  sX5_changeStates_b2 n q20 v21
  else
  nm (a1 + (1 : Int32)) fun v22 =>
  sX5_changeStates_b2 n x v22)
def sX5_changeStates  (x : St)  : Option (St) :=
  sX5_changeStates_b2 FU x ((0 : Int32))
def sX5_payForStates_b2 (fuel : Nat)   (x : St) (a1 : Int32) : Option (St) := match fuel with
  | 0 => none
  | n + 1 =>
  if (gI x 0 0 2) ≤ a1 then
  some x
  else
  gd (inb a1 8) (if (gI x (ix a1 + 1) 0 6) = ((4 : Int32)) then
  nm (a1 + (1 : Int32)) fun v4 =>
  sX5_payForStates_b2 n x v4
  else
  gd (inb (gI x (ix a1 + 1) 0 6) 4) (nm ((gI x (ix a1 + 1) 1 (ix (gI x (ix a1 + 1) 0 6))) + ((1 : Int32))) fun v6 =>
  gd (inb (gI x (ix a1 + 1) 0 6) 4) (nm (pI x (ix a1 + 1) 1 (ix (gI x (ix a1 + 1) 0 6)) v6) fun z8 =>
  gd (inb (gI z8 (ix a1 + 1) 0 6) 4) (bd (sX0_payForSlot (ix a1 + 1) z8 (gI z8 0 1 (ix (gI z8 (ix a1 + 1) 0 6)))) fun q10 =>
  nm (a1 + (1 : Int32)) fun v11 =>
  sX5_payForStates_b2 n q10 v11))))
def sX5_payForStates  (x : St)  : Option (St) :=
  sX5_payForStates_b2 FU x ((0 : Int32))
def sX5_inState_b4 (fuel : Nat)   (x : St) (a1 : Int32) (a2 : Int32) (a3 : Int32) : Option (Int32) := match fuel with
  | 0 => none
  | n + 1 =>
  if (gI x 0 0 2) ≤ a3 then
  some a2
  else
  gd (inb a3 8) (if ¬ (gI x (ix a3 + 1) 0 6) = a1 then
  nm (a3 + (1 : Int32)) fun v4 =>
  sX5_inState_b4 n x a1 a2 v4
  else
  nm (a2 ||| (((1 : Int32)) <<< (a3 &&& (31 : Int32)))) fun v5 =>
  nm (a3 + (1 : Int32)) fun v6 =>
  sX5_inState_b4 n x a1 v5 v6)
def sX5_inState  (x : St) (a1 : Int32) : Option (Int32) :=
  sX5_inState_b4 FU x a1 ((0 : Int32)) ((0 : Int32))
def sJ6_bitCount_0f7a4   (a0 : Int32) : Option (Int32) :=
  nm (a0 - (((a0.toUInt32 >>> (((1 : Int32)).toUInt32 &&& Int32.toUInt32 31)).toInt32) &&& ((1431655765 : Int32)))) fun v1 =>
  nm ((v1 &&& ((858993459 : Int32))) + (((v1.toUInt32 >>> (((2 : Int32)).toUInt32 &&& Int32.toUInt32 31)).toInt32) &&& ((858993459 : Int32)))) fun v2 =>
  nm ((v2 + ((v2.toUInt32 >>> (((4 : Int32)).toUInt32 &&& Int32.toUInt32 31)).toInt32)) &&& ((252645135 : Int32))) fun v3 =>
  nm (v3 + ((v3.toUInt32 >>> (((8 : Int32)).toUInt32 &&& Int32.toUInt32 31)).toInt32)) fun v4 =>
  nm (v4 + ((v4.toUInt32 >>> (((16 : Int32)).toUInt32 &&& Int32.toUInt32 31)).toInt32)) fun v5 =>
  some (v5 &&& ((63 : Int32)))
def sX5_reasonAgainst (o1 : Nat) (x : St) (a2 : Int32) (a3 : Int32) : Option (Int32) :=
  bd (sX6_isIn (gI x o1 0 10) a2) fun q1 =>
  if ¬ q1 = 0 then
  if ¬ (gI x o1 0 6) = ((3 : Int32)) then
  bd (sX0_hasOpenEars o1 x) fun q4 =>
  if ¬ q4 = 0 then
  if a3 = 0 then
  some ((0 : Int32))
  else
  some ((4 : Int32))
  else
  some ((2 : Int32))
  else
  some ((3 : Int32))
  else
  some ((1 : Int32))
def sX5_listenToSenders_b80 (fuel : Nat) (k19 : St → Int32 → Option (St))  (x : St) (a1 : Int32) (o2 : Nat) (a3 : Int32) (a4 : Int32) : Option (St) := match fuel with
  | 0 => none
  | n + 1 =>
  if (gI x 0 0 2) ≤ a4 then
  nm (a1 + (1 : Int32)) fun v13 =>
  k19 x v13
  else
  bd (sX6_isIn (gI x 0 0 10) a4) fun q14 =>
  if q14 = 0 then
  nm (a4 + (1 : Int32)) fun v16 =>
  sX5_listenToSenders_b80 n k19 x a1 o2 a3 v16
  else
  gd (inb a4 8) (gd (inb a1 8) (if ¬ (gI x (ix a4 + 1) 3 (ix a1)) = 0 then
  nm (a4 + (1 : Int32)) fun v20 =>
  sX5_listenToSenders_b80 n k19 x a1 o2 a3 v20
  else
  gd (inb a4 8) (bd (sX5_reasonAgainst o2 x a4 a3) fun q22 =>
  gd (inb a1 8) (nm (pI x (ix a4 + 1) 3 (ix a1) q22) fun z24 =>
  nm (a4 + (1 : Int32)) fun v25 =>
  sX5_listenToSenders_b80 n k19 z24 a1 o2 a3 v25))))
def sX5_listenToSenders_b55 (k19 : St → Int32 → Option (St))  (x : St) (a1 : Int32) (o2 : Nat) (s0 : Int32) : Option (St) :=
  if s0 = 0 then
  sX5_listenToSenders_b80 FU k19 x a1 o2 s0 ((0 : Int32))
  else
  bd (sX0_hasOpenEars o2 x) fun q9 =>
  if q9 = 0 then
  sX5_listenToSenders_b80 FU k19 x a1 o2 s0 ((0 : Int32))
  else
  nm (pI x 0 0 9 ((gI x 0 0 9) + ((1 : Int32)))) fun z11 =>
  sX5_listenToSenders_b80 FU k19 z11 a1 o2 s0 ((0 : Int32))
def sX5_listenToSenders_b19 (fuel : Nat)   (x : St) (a1 : Int32) : Option (St) := match fuel with
  | 0 => none
  | n + 1 =>
  if (gI x 0 0 2) ≤ a1 then
  some x
  else
  gd (inb a1 8) (bd (sJ6_bitCount_0f7a4 ((gI x (ix a1 + 1) 0 10) &&& (gI x 0 0 10))) fun q6 =>
  if q6 ≤ ((1 : Int32)) then
  sX5_listenToSenders_b55 (fun x' a1' => sX5_listenToSenders_b19 n x' a1') x a1 (ix a1 + 1) ((0 : Int32))
  else
  sX5_listenToSenders_b55 (fun x' a1' => sX5_listenToSenders_b19 n x' a1') x a1 (ix a1 + 1) ((1 : Int32)))
def sX5_listenToSenders  (x : St)  : Option (St) :=
  bd (sX5_inState x ((3 : Int32))) fun q1 =>
  nm (pI x 0 0 10 q1) fun z2 =>
  if ¬ (gI z2 0 0 10) = 0 then
  sX5_listenToSenders_b19 FU z2 ((0 : Int32))
  else
  some z2
def sX5_tellEars_b5 (fuel : Nat)  (o1 : Nat) (x : St) (a2 : Int32) (a3 : Int32) (a4 : Int32) : Option (St × Int32) := match fuel with
  | 0 => none
  | n + 1 =>
  if (gI x 0 0 2) ≤ a4 then
  gd (isb a3) (some (x, a3))
  else
  gd (inb a4 8) (gd (inb a4 8) (nm (pI x o1 4 (ix a4) (gI x o1 3 (ix a4))) fun z5 =>
  gd (inb a4 8) (if ¬ (gI z5 o1 3 (ix a4)) = 0 then
  nm (a4 + (1 : Int32)) fun v8 =>
  sX5_tellEars_b5 n o1 z5 a2 a3 v8
  else
  gd (inb a4 8) (gd (inb a2 8) (nm (pI z5 (ix a4 + 1) 2 (ix a2) (gI z5 0 0 5)) fun z11 =>
  nm (a4 + (1 : Int32)) fun v12 =>
  sX5_tellEars_b5 n o1 z11 a2 ((1 : Int32)) v12)))))
def sX5_tellEars (o1 : Nat) (x : St) (a2 : Int32) : Option (St × Int32) :=
  sX5_tellEars_b5 FU o1 x a2 ((0 : Int32)) ((0 : Int32))
def sX5_endSending (o1 : Nat) (x : St) (a2 : Int32) : Option (St × Int32) :=
  bd (sX5_tellEars o1 x a2) fun q1 =>
  if q1.2 = 0 then
  nm (pI q1.1 o1 0 8 ((gI q1.1 o1 0 8) + ((1 : Int32)))) fun z3 =>
  if (gI z3 o1 0 8) < (gI z3 0 0 3) then
  some (z3, (0 : Int32))
  else
  nm (pI z3 o1 0 12 ((gI z3 o1 0 12) + ((1 : Int32)))) fun z5 =>
  nm (pI z5 0 0 8 ((gI z5 0 0 8) + ((1 : Int32)))) fun z6 =>
  bd (sX0_fallAsleep o1 z6) fun q7 =>
  some (q7, (1 : Int32))
  else
  nm (pI q1.1 o1 0 11 ((gI q1.1 o1 0 11) + ((1 : Int32)))) fun z8 =>
  nm (pI z8 0 0 7 ((gI z8 0 0 7) + ((1 : Int32)))) fun z9 =>
  bd (sX0_fallAsleep o1 z9) fun q10 =>
  some (q10, (1 : Int32))
def sX5_endSendings_b2 (fuel : Nat)   (x : St) (a1 : Int32) : Option (St) := match fuel with
  | 0 => none
  | n + 1 =>
  if (gI x 0 0 2) ≤ a1 then
  some x
  else
  gd (inb a1 8) (if ¬ (gI x (ix a1 + 1) 0 6) = ((3 : Int32)) then
  nm (a1 + (1 : Int32)) fun v4 =>
  sX5_endSendings_b2 n x v4
  else
  nm ((gI x (ix a1 + 1) 0 7) - ((1 : Int32))) fun v5 =>
  nm (pI x (ix a1 + 1) 0 7 v5) fun z6 =>
  if ¬ (gI z6 (ix a1 + 1) 0 7) = 0 then
  nm (a1 + (1 : Int32)) fun v8 =>
  sX5_endSendings_b2 n z6 v8
  else
  bd (sX5_endSending (ix a1 + 1) z6 a1) fun q9 =>
  if ¬ q9.2 = 0 then
  nm (a1 + (1 : Int32)) fun v11 =>
  sX5_endSendings_b2 n q9.1 v11
  else
  bd (sX5_waitByDraw (ix a1 + 1) q9.1) fun q12 =>
  nm (a1 + (1 : Int32)) fun v13 =>
  sX5_endSendings_b2 n q12 v13)
def sX5_endSendings  (x : St)  : Option (St) :=
  sX5_endSendings_b2 FU x ((0 : Int32))
def sX5_pass_b2 (fuel : Nat)   (x : St) (a1 : Int32) (a2 : Int32) : Option (St) := match fuel with
  | 0 => none
  | n + 1 =>
  if a1 ≤ a2 then
  some x
  else
  nm (pI x 0 0 5 ((gI x 0 0 5) + ((1 : Int32)))) fun z2 =>
  bd (sX5_changeStates z2) fun q3 =>
  bd (sX5_payForStates q3) fun q4 =>
  bd (sX5_listenToSenders q4) fun q5 =>
  bd (sX5_endSendings q5) fun q6 =>
  nm (a2 + (1 : Int32)) fun v7 =>
  sX5_pass_b2 n q6 a1 v7
def sX5_pass  (x : St) (a1 : Int32) : Option (St) :=
  sX5_pass_b2 FU x a1 ((0 : Int32))
def sX2_performWake (o0 : Nat) (x : St)  : Option (St × Int32) :=
  if (gI x o0 0 6) = 0 then
  bd (sX0_startListening o0 x) fun q2 =>
  some (q2, (1 : Int32))
  else
  some (x, (0 : Int32))
def sX2_performEvery (o0 : Nat) (x : St) (a1 : Int32) : Option (St × Int32) :=
  bd (sX0_allowsPeriod o0 x a1) fun q1 =>
  if ¬ q1 = 0 then
  nm (pI x o0 0 1 a1) fun z3 =>
  some (z3, (1 : Int32))
  else
  some (x, (0 : Int32))
def sX2_performAt (o0 : Nat) (x : St) (a1 : Int32) : Option (St × Int32) :=
  bd (sX0_allowsFirstWake o0 x a1) fun q1 =>
  if ¬ q1 = 0 then
  nm (pI x o0 0 2 a1) fun z3 =>
  some (z3, (1 : Int32))
  else
  some (x, (0 : Int32))
def sX6_isCharge   (a0 : Int32) : Option (Int32) :=
  if a0 < ((1 : Int32)) then
  some ((0 : Int32))
  else
  if ((999 : Int32)) < a0 then
  some ((0 : Int32))
  else
  some ((1 : Int32))
def sX2_performCharge (o0 : Nat) (x : St) (a1 : Int32) : Option (St × Int32) :=
  bd (sX6_isCharge a1) fun q1 =>
  if ¬ q1 = 0 then
  bd (sX0_takeEnergy o0 x a1) fun q3 =>
  some (q3, (1 : Int32))
  else
  some (x, (0 : Int32))
def sX5_switchNear  (x : St) (a1 : Int32) (a2 : Int32) : Option (St) :=
  gd (inb a1 8) (nm ((gI x (ix a1 + 1) 0 10) ^^^ (((1 : Int32)) <<< (a2 &&& (31 : Int32)))) fun v2 =>
  nm (pI x (ix a1 + 1) 0 10 v2) fun z3 =>
  gd (inb a2 8) (nm ((gI z3 (ix a2 + 1) 0 10) ^^^ (((1 : Int32)) <<< (a1 &&& (31 : Int32)))) fun v5 =>
  nm (pI z3 (ix a2 + 1) 0 10 v5) fun z6 =>
  some z6))
def sX2_performNear  (x : St) (a1 : Int32) (a2 : Int32) (a3 : Int32) : Option (St × Int32) :=
  if a2 < 0 then
  some (x, (0 : Int32))
  else
  if (gI x 0 0 2) ≤ a2 then
  some (x, (0 : Int32))
  else
  gd (inb a1 8) (bd (sX6_isIn (gI x (ix a1 + 1) 0 10) a2) fun q4 =>
  if ¬ q4 = a3 then
  bd (sX5_switchNear x a1 a2) fun q6 =>
  some (q6, (1 : Int32))
  else
  some (x, (0 : Int32)))
def sX2_perform_b116   (x : St) (s0 : Int32) (s1 : Int32) (s2 : Int32) : Option (St × Int32) :=
  bd (sX2_performNear x s2 s1 s0) fun q23 =>
  gd (isb q23.2) (some (q23.1, q23.2))
def sX2_perform  (x : St) (a1 : Int32) (a2 : Int32) (a3 : Int32) : Option (St × Int32) :=
  if ¬ a1 = 0 then
  if a2 < 0 then
  some (x, (0 : Int32))
  else
  if a2 < (gI x 0 0 2) then
  gd (inb a2 8) (if a1 = (1 : Int32) then
  bd (sX2_performWake (ix a2 + 1) x) fun q6 =>
  gd (isb q6.2) (some (q6.1, q6.2))
  else
  if a1 = (2 : Int32) then
  bd (sX2_performEvery (ix a2 + 1) x a3) fun q9 =>
  gd (isb q9.2) (some (q9.1, q9.2))
  else
  if a1 = (3 : Int32) then
  bd (sX2_performAt (ix a2 + 1) x a3) fun q12 =>
  gd (isb q12.2) (some (q12.1, q12.2))
  else
  if a1 = (4 : Int32) then
  bd (sX2_performCharge (ix a2 + 1) x a3) fun q15 =>
  gd (isb q15.2) (some (q15.1, q15.2))
  else
  if ¬ a1 = ((5 : Int32)) then
  sX2_perform_b116 x ((0 : Int32)) a3 a2
  else
  sX2_perform_b116 x ((1 : Int32)) a3 a2)
  else
  some (x, (0 : Int32))
  else
  bd (sX5_mayPass x a2) fun q18 =>
  if q18 = 0 then
  gd (isb q18) (some (x, q18))
  else
  bd (sX5_pass x a2) fun q21 =>
  gd (isb q18) (some (q21, q18))
def sX2_runCommands_b12 (fuel : Nat)   (x0 : St) (S : St) (a2 : Int32) (a3 : Int32) (a4 : Int32) : Option (St × St × Int32) := match fuel with
  | 0 => none
  | n + 1 =>
  if ((1000000 : Int32)) ≤ a4 then
  some (x0, S, a2)
  else
  if a3 < 0 then
  some (x0, S, a2)
  else
  if (gI S 0 0 4) ≤ a3 then
  some (x0, S, a2)
  else
  if ((40 : Int32)) ≤ a2 then
  some (x0, S, a2)
  else
  gd (inb a3 60) (if ¬ (gI S 0 1 (ix a3)) = ((7 : Int32)) then
  gd (inb a3 60) (if ¬ (gI S 0 1 (ix a3)) = ((8 : Int32)) then
  gd (inb a3 60) (gd (inb a3 60) (gd (inb a3 60) (bd (sX2_perform x0 (gI S 0 1 (ix a3)) (gI S 0 2 (ix a3)) (gI S 0 3 (ix a3))) fun q13 =>
  if q13.2 = 0 then
  some (q13.1, S, a2)
  else
  nm (a2 + (1 : Int32)) fun v15 =>
  nm (a3 + (1 : Int32)) fun v16 =>
  nm (a4 + (1 : Int32)) fun v17 =>
  sX2_runCommands_b12 n q13.1 S v15 v16 v17)))
  else
  bd (sX2_closeRepeat S a3) fun q18 =>
  nm (q18.2 + (1 : Int32)) fun v19 =>
  nm (a4 + (1 : Int32)) fun v20 =>
  sX2_runCommands_b12 n x0 q18.1 a2 v19 v20)
  else
  gd (inb a3 60) (bd (sX2_openRepeat S (gI S 0 2 (ix a3))) fun q22 =>
  nm (a3 + (1 : Int32)) fun v23 =>
  nm (a4 + (1 : Int32)) fun v24 =>
  sX2_runCommands_b12 n x0 q22 a2 v23 v24))
def sX2_runCommands  (x0 : St) (S : St)  : Option (St × St × Int32) :=
  nm (pI S 0 0 8 ((0 : Int32))) fun z1 =>
  sX2_runCommands_b12 FU x0 z1 ((0 : Int32)) ((0 : Int32)) ((0 : Int32))
def sX5_clear  (x : St)  : Option (St) :=
  nm (pI x 0 0 2 ((0 : Int32))) fun z1 =>
  gd (inb ((0 : Int32)) 4) (nm (pI z1 0 1 (ix ((0 : Int32))) ((1 : Int32))) fun z3 =>
  gd (inb ((1 : Int32)) 4) (nm (pI z3 0 1 (ix ((1 : Int32))) ((5 : Int32))) fun z5 =>
  gd (inb ((2 : Int32)) 4) (nm (pI z5 0 1 (ix ((2 : Int32))) ((3 : Int32))) fun z7 =>
  gd (inb ((3 : Int32)) 4) (nm (pI z7 0 1 (ix ((3 : Int32))) ((9 : Int32))) fun z9 =>
  nm (pI z9 0 0 6 ((1 : Int32))) fun z10 =>
  nm (pI z10 0 0 3 ((3 : Int32))) fun z11 =>
  nm (pI z11 0 0 4 ((99 : Int32))) fun z12 =>
  nm (pI z12 0 0 5 ((0 : Int32))) fun z13 =>
  nm (pI z13 0 0 7 ((0 : Int32))) fun z14 =>
  nm (pI z14 0 0 8 ((0 : Int32))) fun z15 =>
  nm (pI z15 0 0 9 ((0 : Int32))) fun z16 =>
  nm (pI z16 0 0 10 ((0 : Int32))) fun z17 =>
  some z17))))
def sX3_tellOnce  (ta : St) (d : St) (a1 : Int32) : Option (St × St × Int32) :=
  if ((gI d 0 0 1) &&& a1) = 0 then
  nm (pI d 0 0 1 ((gI d 0 0 1) ||| a1)) fun z2 =>
  bd (sX4_advance ta) fun q3 =>
  some (q3, z2, (1 : Int32))
  else
  bd (sX4_fail ta ((3 : Int32))) fun q4 =>
  gd (isb q4.2) (some (q4.1, d, q4.2))
def sX3_readCosts_b2 (fuel : Nat)   (x1 : St) (ta : St) (a2 : Int32) : Option (St × St × Int32) := match fuel with
  | 0 => none
  | n + 1 =>
  if ((4 : Int32)) ≤ a2 then
  some (x1, ta, (1 : Int32))
  else
  bd (sX4_takeNumber ta ((0 : Int32)) ((99 : Int32))) fun q2 =>
  if ¬ q2.2 = ((-1 : Int32)) then
  gd (inb a2 4) (nm (pI x1 0 1 (ix a2) q2.2) fun z5 =>
  nm (a2 + (1 : Int32)) fun v6 =>
  sX3_readCosts_b2 n z5 q2.1 v6)
  else
  some (x1, q2.1, (0 : Int32))
def sX3_readCosts  (x1 : St) (ta : St)  : Option (St × St × Int32) :=
  sX3_readCosts_b2 FU x1 ta ((0 : Int32))
def sX3_readSeed  (x1 : St) (ta : St)  : Option (St × St × Int32) :=
  bd (sX4_takeNumber ta ((0 : Int32)) ((999 : Int32))) fun q1 =>
  nm (pI x1 0 0 6 q1.2) fun z2 =>
  if (gI z2 0 0 6) = ((-1 : Int32)) then
  some (z2, q1.1, (0 : Int32))
  else
  some (z2, q1.1, (1 : Int32))
def sX3_readTries  (x1 : St) (ta : St)  : Option (St × St × Int32) :=
  bd (sX4_takeNumber ta ((1 : Int32)) ((9 : Int32))) fun q1 =>
  nm (pI x1 0 0 3 q1.2) fun z2 =>
  if (gI z2 0 0 3) = ((-1 : Int32)) then
  some (z2, q1.1, (0 : Int32))
  else
  some (z2, q1.1, (1 : Int32))
def sX3_readMemory  (x1 : St) (ta : St)  : Option (St × St × Int32) :=
  bd (sX4_takeNumber ta ((1 : Int32)) ((999 : Int32))) fun q1 =>
  nm (pI x1 0 0 4 q1.2) fun z2 =>
  if (gI z2 0 0 4) = ((-1 : Int32)) then
  some (z2, q1.1, (0 : Int32))
  else
  some (z2, q1.1, (1 : Int32))
def sX3_takeNewName (o2 : Nat) (x1 : St) (ta : St)  : Option (St × St × Int32) :=
  if (gI ta 0 0 5) = ((1 : Int32)) then
  bd (sX5_find x1 (gL ta 0 0 7)) fun q2 =>
  if q2 = ((-1 : Int32)) then
  bd (sX0_begin o2 x1 (gL ta 0 0 7)) fun q4 =>
  bd (sX4_advance ta) fun q5 =>
  some (q4, q5, (1 : Int32))
  else
  bd (sX4_fail ta ((3 : Int32))) fun q6 =>
  gd (isb q6.2) (some (x1, q6.1, q6.2))
  else
  bd (sX4_fail ta ((1 : Int32))) fun q8 =>
  gd (isb q8.2) (some (x1, q8.1, q8.2))
def sX4_takeWord (w1 : Nat) (t : St)  : Option (St × Int32) :=
  bd (sX4_isWord w1 t) fun q1 =>
  if ¬ q1 = 0 then
  bd (sX4_advance t) fun q3 =>
  some (q3, (1 : Int32))
  else
  bd (sX4_fail t ((1 : Int32))) fun q4 =>
  gd (isb q4.2) (some (q4.1, q4.2))
def sX3_readPart (w1 : Nat) (ta : St) (a2 : Int32) (a3 : Int32) (a4 : Int32) : Option (St × Int32) :=
  bd (sX4_isWord w1 ta) fun q1 =>
  if ¬ q1 = 0 then
  bd (sX4_advance ta) fun q3 =>
  bd (sX4_takeNumber q3 a2 a3) fun q4 =>
  some (q4.1, q4.2)
  else
  some (ta, a4)
def sX3_readBeacon_b158   (x1 : St) (ta : St) (o2 : Nat) (a3 : Int32) (a4 : Int32) (a5 : Int32) (a6 : Int32) (s0 : Int32) : Option (St × St × Int32) :=
  if ¬ s0 = ((-1 : Int32)) then
  nm (pI x1 o2 0 1 a3) fun z20 =>
  nm (pI z20 o2 0 2 a4) fun z21 =>
  nm (pI z21 o2 0 3 a5) fun z22 =>
  nm (pI z22 o2 0 4 a6) fun z23 =>
  nm (pI z23 o2 0 5 s0) fun z24 =>
  nm (pI z24 0 0 2 ((gI z24 0 0 2) + ((1 : Int32)))) fun z25 =>
  some (z25, ta, (1 : Int32))
  else
  some (x1, ta, (0 : Int32))
def sX3_readBeacon_b133   (x1 : St) (ta : St) (o2 : Nat) (a3 : Int32) (a4 : Int32) (a5 : Int32) (s0 : Int32) : Option (St × St × Int32) :=
  if ¬ s0 = ((-1 : Int32)) then
  bd (sX3_readPart 18 ta ((1 : Int32)) ((999 : Int32)) ((999 : Int32))) fun q18 =>
  sX3_readBeacon_b158 x1 q18.1 o2 a3 a4 a5 s0 q18.2
  else
  sX3_readBeacon_b158 x1 ta o2 a3 a4 a5 s0 ((-1 : Int32))
def sX3_readBeacon_b111   (x1 : St) (ta : St) (o2 : Nat) (a3 : Int32) (a4 : Int32) (s0 : Int32) : Option (St × St × Int32) :=
  if ¬ s0 = ((-1 : Int32)) then
  bd (sX3_readPart 3 ta ((1 : Int32)) ((9 : Int32)) ((2 : Int32))) fun q16 =>
  sX3_readBeacon_b133 x1 q16.1 o2 a3 a4 s0 q16.2
  else
  sX3_readBeacon_b133 x1 ta o2 a3 a4 s0 ((-1 : Int32))
def sX3_readBeacon_b89   (x1 : St) (ta : St) (o2 : Nat) (a3 : Int32) (s0 : Int32) : Option (St × St × Int32) :=
  if ¬ s0 = ((-1 : Int32)) then
  bd (sX3_readPart 1 ta ((1 : Int32)) ((9 : Int32)) ((2 : Int32))) fun q14 =>
  sX3_readBeacon_b111 x1 q14.1 o2 a3 s0 q14.2
  else
  sX3_readBeacon_b111 x1 ta o2 a3 s0 ((-1 : Int32))
def sX3_readBeacon  (x1 : St) (ta : St)  : Option (St × St × Int32) :=
  if (gI x1 0 0 2) < ((8 : Int32)) then
  gd (inb (gI x1 0 0 2) 8) (bd (sX4_advance ta) fun q3 =>
  bd (sX3_takeNewName (ix (gI x1 0 0 2) + 1) x1 q3) fun q4 =>
  if q4.2.2 = 0 then
  some (q4.1, q4.2.1, (0 : Int32))
  else
  bd (sX4_takeWord 7 q4.2.1) fun q6 =>
  if ¬ q6.2 = 0 then
  bd (sX4_takeNumber q6.1 ((2 : Int32)) ((99 : Int32))) fun q8 =>
  if ¬ q8.2 = ((-1 : Int32)) then
  bd (sX3_readPart 8 q8.1 ((0 : Int32)) (q8.2 - ((1 : Int32))) ((0 : Int32))) fun q10 =>
  sX3_readBeacon_b89 q4.1 q10.1 (ix (gI x1 0 0 2) + 1) q8.2 q10.2
  else
  sX3_readBeacon_b89 q4.1 q8.1 (ix (gI x1 0 0 2) + 1) q8.2 ((-1 : Int32))
  else
  some (q4.1, q6.1, (0 : Int32)))
  else
  bd (sX4_fail ta ((5 : Int32))) fun q11 =>
  gd (isb q11.2) (some (x1, q11.1, q11.2))
def sX3_readNear_b67   (x1 : St) (ta : St)  : Option (St × St × Int32) :=
  bd (sX4_fail ta ((3 : Int32))) fun q13 =>
  gd (isb q13.2) (some (x1, q13.1, q13.2))
def sX3_readNear  (x1 : St) (ta : St)  : Option (St × St × Int32) :=
  bd (sX4_advance ta) fun q1 =>
  bd (sX4_beaconHere x1 q1) fun q2 =>
  if ¬ q2.2 = ((-1 : Int32)) then
  bd (sX4_advance q2.1) fun q4 =>
  bd (sX4_beaconHere x1 q4) fun q5 =>
  if ¬ q5.2 = ((-1 : Int32)) then
  if q5.2 = q2.2 then
  sX3_readNear_b67 x1 q5.1
  else
  gd (inb q2.2 8) (bd (sX6_isIn (gI x1 (ix q2.2 + 1) 0 10) q5.2) fun q9 =>
  if q9 = 0 then
  bd (sX5_switchNear x1 q2.2 q5.2) fun q11 =>
  bd (sX4_advance q5.1) fun q12 =>
  some (q11, q12, (1 : Int32))
  else
  sX3_readNear_b67 x1 q5.1)
  else
  some (x1, q5.1, (0 : Int32))
  else
  some (x1, q2.1, (0 : Int32))
def sX3_readStatement  (x1 : St) (ta : St) (d : St)  : Option (St × St × St × Int32) :=
  bd (sX4_isWord 13 ta) fun q1 =>
  if q1 = 0 then
  bd (sX4_isWord 14 ta) fun q3 =>
  if q3 = 0 then
  bd (sX4_isWord 15 ta) fun q5 =>
  if q5 = 0 then
  bd (sX4_isWord 16 ta) fun q7 =>
  if q7 = 0 then
  bd (sX4_isWord 17 ta) fun q9 =>
  if q9 = 0 then
  bd (sX4_isWord 10 ta) fun q11 =>
  if q11 = 0 then
  bd (sX4_fail ta ((1 : Int32))) fun q13 =>
  gd (isb q13.2) (some (x1, q13.1, d, q13.2))
  else
  bd (sX3_readNear x1 ta) fun q15 =>
  gd (isb q15.2.2) (some (q15.1, q15.2.1, d, q15.2.2))
  else
  bd (sX3_readBeacon x1 ta) fun q17 =>
  gd (isb q17.2.2) (some (q17.1, q17.2.1, d, q17.2.2))
  else
  bd (sX3_tellOnce ta d ((8 : Int32))) fun q19 =>
  if q19.2.2 = 0 then
  some (x1, q19.1, q19.2.1, (0 : Int32))
  else
  bd (sX3_readMemory x1 q19.1) fun q21 =>
  if q21.2.2 = 0 then
  some (q21.1, q21.2.1, q19.2.1, (0 : Int32))
  else
  some (q21.1, q21.2.1, q19.2.1, (1 : Int32))
  else
  bd (sX3_tellOnce ta d ((4 : Int32))) fun q23 =>
  if q23.2.2 = 0 then
  some (x1, q23.1, q23.2.1, (0 : Int32))
  else
  bd (sX3_readTries x1 q23.1) fun q25 =>
  if q25.2.2 = 0 then
  some (q25.1, q25.2.1, q23.2.1, (0 : Int32))
  else
  some (q25.1, q25.2.1, q23.2.1, (1 : Int32))
  else
  bd (sX3_tellOnce ta d ((2 : Int32))) fun q27 =>
  if q27.2.2 = 0 then
  some (x1, q27.1, q27.2.1, (0 : Int32))
  else
  bd (sX3_readSeed x1 q27.1) fun q29 =>
  if q29.2.2 = 0 then
  some (q29.1, q29.2.1, q27.2.1, (0 : Int32))
  else
  some (q29.1, q29.2.1, q27.2.1, (1 : Int32))
  else
  bd (sX3_tellOnce ta d ((1 : Int32))) fun q31 =>
  if q31.2.2 = 0 then
  some (x1, q31.1, q31.2.1, (0 : Int32))
  else
  bd (sX3_readCosts x1 q31.1) fun q33 =>
  if q33.2.2 = 0 then
  some (q33.1, q33.2.1, q31.2.1, (0 : Int32))
  else
  some (q33.1, q33.2.1, q31.2.1, (1 : Int32))
def sX3_readAll_b11 (fuel : Nat)   (x1 : St) (ta : St) (d : St) (a2 : Int32) : Option (St × St × St × Int32) := match fuel with
  | 0 => none
  | n + 1 =>
  if ((700 : Int32)) ≤ a2 then
  some (x1, ta, d, (1 : Int32))
  else
  if (gI ta 0 0 5) = 0 then
  some (x1, ta, d, (1 : Int32))
  else
  bd (sX3_readStatement x1 ta d) fun q5 =>
  if q5.2.2.2 = 0 then
  some (q5.1, q5.2.1, q5.2.2.1, (0 : Int32))
  else
  bd (sX4_takeSign q5.2.1 ((59 : Int32))) fun q7 =>
  if ¬ q7.2 = 0 then
  nm (a2 + (1 : Int32)) fun v9 =>
  sX3_readAll_b11 n q5.1 q7.1 q5.2.2.1 v9
  else
  some (q5.1, q7.1, q5.2.2.1, (0 : Int32))
def sX3_readAll  (x1 : St) (ta : St) (d : St)  : Option (St × St × St × Int32) :=
  bd (sX5_clear x1) fun q1 =>
  nm (pI d 0 0 1 ((0 : Int32))) fun z2 =>
  sX3_readAll_b11 FU q1 ta z2 ((0 : Int32))
def sX4_isLetter   (a0 : Int32) : Option (Int32) :=
  if a0 < ((97 : Int32)) then
  some ((0 : Int32))
  else
  if ((122 : Int32)) < a0 then
  some ((0 : Int32))
  else
  some ((1 : Int32))
def sX4_add  (t : St) (a1 : Int32) (a2 : Int32) (a3 : Int64) : Option (St) :=
  if ((700 : Int32)) < (gI t 0 0 3) then
  some t
  else
  gd (inb (gI t 0 0 3) 701) (nm (pI t 0 1 (ix (gI t 0 0 3)) a1) fun z3 =>
  gd (inb (gI z3 0 0 3) 701) (nm (pI z3 0 2 (ix (gI z3 0 0 3)) a2) fun z5 =>
  gd (inb (gI z5 0 0 3) 701) (nm (pL z5 0 3 (ix (gI z5 0 0 3)) a3) fun z7 =>
  nm (pI z7 0 0 3 ((gI z7 0 0 3) + ((1 : Int32)))) fun z8 =>
  some z8)))
def sX4_addWord_b70  (y : St) (t : St) (a2 : Int32) (a4 : Int64) (a6 : Int32) (s0 : Int32) : Option (St × Int32) :=
  bd (sX4_add t s0 a2 a4) fun q11 =>
  some (q11, a6)
def sX4_addWord_b55  (y : St) (t : St) (a2 : Int32) (a4 : Int64) (a6 : Int32) : Option (St × Int32) :=
  if (a6 - a2) ≤ ((8 : Int32)) then
  sX4_addWord_b70 y t a2 a4 a6 ((1 : Int32))
  else
  sX4_addWord_b70 y t a2 a4 a6 ((3 : Int32))
def sX4_addWord_b6 (fuel : Nat)  (y : St) (t : St) (a2 : Int32) (a3 : Int32) (a4 : Int64) (a6 : Int32) : Option (St × Int32) := match fuel with
  | 0 => none
  | n + 1 =>
  if a3 ≤ a6 then
  sX4_addWord_b55 y t a2 a4 a6
  else
  gd (inb a6 700) (bd (sX4_isLetter (gI y 0 1 (ix a6))) fun q3 =>
  if q3 = 0 then
  sX4_addWord_b55 y t a2 a4 a6
  else
  if ((8 : Int32)) ≤ (a6 - a2) then
  nm (a6 + (1 : Int32)) fun v6 =>
  sX4_addWord_b6 n y t a2 a3 a4 v6
  else
  gd (inb a6 700) (nm (a4 ||| (((gI y 0 1 (ix a6)).toInt64) <<< ((((8 : Int32)) * (a6 - a2)).toInt64 &&& (63 : Int64)))) fun v8 =>
  nm (a6 + (1 : Int32)) fun v9 =>
  sX4_addWord_b6 n y t a2 a3 v8 v9))
def sX4_addWord (y : St) (t : St) (a2 : Int32) (a3 : Int32) : Option (St × Int32) :=
  sX4_addWord_b6 FU y t a2 a3 ((0 : Int64)) a2
def sX4_isDigit   (a0 : Int32) : Option (Int32) :=
  if a0 < ((48 : Int32)) then
  some ((0 : Int32))
  else
  if ((57 : Int32)) < a0 then
  some ((0 : Int32))
  else
  some ((1 : Int32))
def sX4_addNumber_b65  (y : St) (t : St) (a2 : Int32) (a4 : Int32) (a5 : Int32) (s0 : Int32) : Option (St × Int32) :=
  bd (sX4_add t s0 a2 a4.toInt64) fun q11 =>
  some (q11, a5)
def sX4_addNumber_b51  (y : St) (t : St) (a2 : Int32) (a4 : Int32) (a5 : Int32) : Option (St × Int32) :=
  if (a5 - a2) ≤ ((3 : Int32)) then
  sX4_addNumber_b65 y t a2 a4 a5 ((2 : Int32))
  else
  sX4_addNumber_b65 y t a2 a4 a5 ((3 : Int32))
def sX4_addNumber_b6 (fuel : Nat)  (y : St) (t : St) (a2 : Int32) (a3 : Int32) (a4 : Int32) (a5 : Int32) : Option (St × Int32) := match fuel with
  | 0 => none
  | n + 1 =>
  if a3 ≤ a5 then
  sX4_addNumber_b51 y t a2 a4 a5
  else
  gd (inb a5 700) (bd (sX4_isDigit (gI y 0 1 (ix a5))) fun q3 =>
  if q3 = 0 then
  sX4_addNumber_b51 y t a2 a4 a5
  else
  if ((3 : Int32)) ≤ (a5 - a2) then
  nm (a5 + (1 : Int32)) fun v6 =>
  sX4_addNumber_b6 n y t a2 a3 a4 v6
  else
  gd (inb a5 700) (nm (((a4 * ((10 : Int32))) + (gI y 0 1 (ix a5))) - ((48 : Int32))) fun v8 =>
  nm (a5 + (1 : Int32)) fun v9 =>
  sX4_addNumber_b6 n y t a2 a3 v8 v9))
def sX4_addNumber (y : St) (t : St) (a2 : Int32) (a3 : Int32) : Option (St × Int32) :=
  sX4_addNumber_b6 FU y t a2 a3 ((0 : Int32)) a2
def sX4_addSign_b18   (t : St) (a1 : Int32) (a2 : Int32) : Option (St) :=
  bd (sX4_add t a1 a2 ((0 : Int64))) fun q7 =>
  some q7
def sX4_addSign  (t : St) (a1 : Int32) (a2 : Int32) : Option (St) :=
  if a1 = ((59 : Int32)) then
  sX4_addSign_b18 t a1 a2
  else
  if a1 = ((40 : Int32)) then
  sX4_addSign_b18 t a1 a2
  else
  if ¬ a1 = ((41 : Int32)) then
  if a1 = ((32 : Int32)) then
  some t
  else
  if a1 = ((10 : Int32)) then
  some t
  else
  bd (sX4_add t ((3 : Int32)) a2 ((0 : Int64))) fun q6 =>
  some q6
  else
  sX4_addSign_b18 t a1 a2
def sX4_begin_b112  (y : St) (t : St) (a3 : Int32) : Option (St) :=
  bd (sX4_add t ((0 : Int32)) a3 ((0 : Int64))) fun q22 =>
  bd (sX4_advance q22) fun q23 =>
  some q23
def sX4_begin_b33 (fuel : Nat)  (y : St) (t : St) (a3 : Int32) (a4 : Int32) (a5 : Int32) : Option (St) := match fuel with
  | 0 => none
  | n + 1 =>
  if ((700 : Int32)) ≤ a5 then
  sX4_begin_b112 y t a3
  else
  if a3 ≤ a4 then
  sX4_begin_b112 y t a3
  else
  gd (inb a4 700) (bd (sX4_isLetter (gI y 0 1 (ix a4))) fun q9 =>
  if q9 = 0 then
  gd (inb a4 700) (bd (sX4_isDigit (gI y 0 1 (ix a4))) fun q12 =>
  if q12 = 0 then
  gd (inb a4 700) (bd (sX4_addSign t (gI y 0 1 (ix a4)) a4) fun q15 =>
  nm (a4 + (1 : Int32)) fun v16 =>
  nm (a5 + (1 : Int32)) fun v17 =>
  sX4_begin_b33 n y q15 a3 v16 v17)
  else
  bd (sX4_addNumber y t a4 a3) fun q18 =>
  nm (a5 + (1 : Int32)) fun v19 =>
  sX4_begin_b33 n y q18.1 a3 q18.2 v19)
  else
  bd (sX4_addWord y t a4 a3) fun q20 =>
  nm (a5 + (1 : Int32)) fun v21 =>
  sX4_begin_b33 n y q20.1 a3 q20.2 v21)
def sX4_begin (y : St) (t : St) (a2 : Int32) : Option (St) :=
  nm ((if ((700 : Int32)) < a2 then ((700 : Int32)) else a2)) fun v1 =>
  nm (pI t 0 0 3 ((0 : Int32))) fun z2 =>
  nm (pI z2 0 0 4 ((0 : Int32))) fun z3 =>
  nm (pI z3 0 0 8 ((0 : Int32))) fun z4 =>
  nm (pI z4 0 0 9 ((-1 : Int32))) fun z5 =>
  sX4_begin_b33 FU y z5 v1 ((0 : Int32)) ((0 : Int32))
def sX5_copyFrom_b99 (fuel : Nat)  (y : St) (x : St) (a2 : Int32) : Option (St) := match fuel with
  | 0 => none
  | n + 1 =>
  if (gI x 0 0 2) ≤ a2 then
  some x
  else
  gd (inb a2 8) (gd (inb a2 8) (bd (sX0_copyFrom y (ix a2 + 1) (ix a2 + 1) x) fun q18 =>
  nm (a2 + (1 : Int32)) fun v19 =>
  sX5_copyFrom_b99 n y q18 v19))
def sX5_copyFrom_b74 (fuel : Nat)  (y : St) (x : St) (a2 : Int32) : Option (St) := match fuel with
  | 0 => none
  | n + 1 =>
  if ((4 : Int32)) ≤ a2 then
  sX5_copyFrom_b99 FU y x ((0 : Int32))
  else
  gd (inb a2 4) (gd (inb a2 4) (nm (pI x 0 1 (ix a2) (gI y 0 1 (ix a2))) fun z13 =>
  nm (a2 + (1 : Int32)) fun v14 =>
  sX5_copyFrom_b74 n y z13 v14))
def sX5_copyFrom (y : St) (x : St)  : Option (St) :=
  nm (pI x 0 0 2 (gI y 0 0 2)) fun z1 =>
  nm (pI z1 0 0 3 (gI y 0 0 3)) fun z2 =>
  nm (pI z2 0 0 4 (gI y 0 0 4)) fun z3 =>
  nm (pI z3 0 0 5 (gI y 0 0 5)) fun z4 =>
  nm (pI z4 0 0 6 (gI y 0 0 6)) fun z5 =>
  nm (pI z5 0 0 7 (gI y 0 0 7)) fun z6 =>
  nm (pI z6 0 0 8 (gI y 0 0 8)) fun z7 =>
  nm (pI z7 0 0 9 (gI y 0 0 9)) fun z8 =>
  nm (pI z8 0 0 10 (gI y 0 0 10)) fun z9 =>
  sX5_copyFrom_b74 FU y z9 ((0 : Int32))
def sX5_nearPairs_b4 (fuel : Nat)   (x : St) (a1 : Int32) (a2 : Int32) : Option (Int32) := match fuel with
  | 0 => none
  | n + 1 =>
  if (gI x 0 0 2) ≤ a2 then
  some a1
  else
  gd (inb a2 8) (bd (sJ6_bitCount_0f7a4 (gI x (ix a2 + 1) 0 10)) fun q3 =>
  nm (a2 + (1 : Int32)) fun v4 =>
  sX5_nearPairs_b4 n x (a1 + q3) v4)
def sX5_nearPairs  (x : St)  : Option (Int32) :=
  sX5_nearPairs_b4 FU x ((0 : Int32)) ((0 : Int32))
def sX5_outCount  (x : St)  : Option (Int32) :=
  bd (sX5_inState x ((4 : Int32))) fun q1 =>
  bd (sJ6_bitCount_0f7a4 q1) fun q2 =>
  some q2
def sX5_isAllKnown_b2 (fuel : Nat)   (x : St) (a1 : Int32) : Option (Int32) := match fuel with
  | 0 => none
  | n + 1 =>
  if (gI x 0 0 2) ≤ a1 then
  some ((1 : Int32))
  else
  gd (inb a1 8) (gd (inb a1 8) (bd (sX5_knownTo (ix a1 + 1) x) fun q4 =>
  if ((gI x (ix a1 + 1) 0 10) &&& (q4 ^^^ ((-1 : Int32)))) = 0 then
  nm (a1 + (1 : Int32)) fun v6 =>
  sX5_isAllKnown_b2 n x v6
  else
  some ((0 : Int32))))
def sX5_isAllKnown  (x : St)  : Option (Int32) :=
  sX5_isAllKnown_b2 FU x ((0 : Int32))
def sX5_withNear_b4 (fuel : Nat)   (x : St) (a1 : Int32) (a2 : Int32) (a3 : Int32) : Option (Int32) := match fuel with
  | 0 => none
  | n + 1 =>
  if (gI x 0 0 2) ≤ a3 then
  some a2
  else
  bd (sX6_isIn a1 a3) fun q2 =>
  if q2 = 0 then
  nm (a3 + (1 : Int32)) fun v4 =>
  sX5_withNear_b4 n x a1 a2 v4
  else
  gd (inb a3 8) (nm (a3 + (1 : Int32)) fun v6 =>
  sX5_withNear_b4 n x a1 (a2 ||| (gI x (ix a3 + 1) 0 10)) v6)
def sX5_withNear  (x : St) (a1 : Int32) : Option (Int32) :=
  sX5_withNear_b4 FU x a1 a1 ((0 : Int32))
def sX5_withAllReached_b4 (fuel : Nat)   (x : St) (a2 : Int32) (a3 : Int32) : Option (Int32) := match fuel with
  | 0 => none
  | n + 1 =>
  if ((8 : Int32)) ≤ a3 then
  some a2
  else
  bd (sX5_withNear x a2) fun q2 =>
  nm (a3 + (1 : Int32)) fun v3 =>
  sX5_withAllReached_b4 n x q2 v3
def sX5_withAllReached  (x : St) (a1 : Int32) : Option (Int32) :=
  sX5_withAllReached_b4 FU x a1 ((1 : Int32))
def sX7_thrown  (m : St)  : Option (Int32) :=
  some (gI m 0 0 0)
def sX7_isIn   (a0 : Int64) (a2 : Int64) (a4 : Int64) : Option (Int32) :=
  if (lg_cmp a0 a2) < 0 then
  some ((0 : Int32))
  else
  if 0 < (lg_cmp a0 a4) then
  some ((0 : Int32))
  else
  some ((1 : Int32))
def sX7_truth   (a0 : Int32) : Option (Int32) :=
  if a0 = 0 then
  some ((0 : Int32))
  else
  some ((1 : Int32))
def sX7_has   (a0 : Int32) (a1 : Int32) : Option (Int32) :=
  if ¬ ((a0 >>> (a1 &&& (31 : Int32))) &&& ((1 : Int32))) = ((1 : Int32)) then
  some ((0 : Int32))
  else
  some ((1 : Int32))
def sX7_goes_b10   (m : St) (a1 : Int32) (s0 : Int32) : Option (St × Int32) :=
  bd (sX7_truth s0) fun q2 =>
  nm (pI m 0 0 0 q2) fun z3 =>
  gd (isb a1) (some (z3, a1))
def sX7_goes  (m : St) (a1 : Int32) : Option (St × Int32) :=
  if ¬ a1 = 0 then
  sX7_goes_b10 m a1 ((0 : Int32))
  else
  sX7_goes_b10 m a1 ((1 : Int32))
def sX7_goesBoth_b18   (m : St) (s0 : Int32) : Option (St × Int32) :=
  nm (pI m 0 0 0 s0) fun z3 =>
  if ¬ (gI z3 0 0 0) = 0 then
  some (z3, (0 : Int32))
  else
  some (z3, (1 : Int32))
def sX7_goesBoth  (m : St) (a1 : Int32) (a2 : Int32) : Option (St × Int32) :=
  if ¬ a1 = 0 then
  if ¬ a2 = 0 then
  sX7_goesBoth_b18 m ((0 : Int32))
  else
  sX7_goesBoth_b18 m ((2 : Int32))
  else
  sX7_goesBoth_b18 m ((1 : Int32))
def sX7_four_b3 (fuel : Nat)   (m : St) (a1 : Int32) (a2 : Int32) : Option (St) := match fuel with
  | 0 => none
  | n + 1 =>
  if a2 < 0 then
  some m
  else
  nm ((a1 >>> (a2 &&& (31 : Int32))) &&& ((255 : Int32))) fun v2 =>
  gd (inb (gI m 0 0 2) 700) (nm (pI m 0 1 (ix (gI m 0 0 2)) v2) fun z4 =>
  nm (pI z4 0 0 2 ((gI z4 0 0 2) + ((1 : Int32)))) fun z5 =>
  nm (a2 + (-8 : Int32)) fun v6 =>
  sX7_four_b3 n z5 a1 v6)
def sX7_four  (m : St) (a1 : Int32) : Option (St) :=
  sX7_four_b3 FU m a1 ((24 : Int32))
def sX7_feed_b19   (m : St) (a1 : Int32) (a2 : Int32) (a3 : Int32) (a4 : Int32) (a5 : Int32) (s0 : Int32) : Option (St × Int32) :=
  bd (sX7_goes m s0) fun q2 =>
  if ¬ q2.2 = 0 then
  bd (sX7_four q2.1 a1) fun q4 =>
  bd (sX7_four q4 a2) fun q5 =>
  bd (sX7_four q5 a3) fun q6 =>
  bd (sX7_four q6 a4) fun q7 =>
  bd (sX7_four q7 a5) fun q8 =>
  some (q8, gI q8 0 0 2)
  else
  some (q2.1, (0 : Int32))
def sX7_feed  (m : St) (a1 : Int32) (a2 : Int32) (a3 : Int32) (a4 : Int32) (a5 : Int32) : Option (St × Int32) :=
  if ((700 : Int32)) < ((gI m 0 0 2) + ((20 : Int32))) then
  sX7_feed_b19 m a1 a2 a3 a4 a5 ((0 : Int32))
  else
  sX7_feed_b19 m a1 a2 a3 a4 a5 ((1 : Int32))
def sX7_truncate  (m : St) (a1 : Int32) : Option (St × Int32) :=
  bd (sX7_isIn a1.toInt64 ((0 : Int64)) ((gI m 0 0 2).toInt64)) fun q1 =>
  bd (sX7_goes m q1) fun q2 =>
  if ¬ q2.2 = 0 then
  nm (pI q2.1 0 0 2 a1) fun z4 =>
  some (z4, a1)
  else
  some (q2.1, (0 : Int32))
def sX7_here  (m : St) (a1 : Int32) : Option (Int32) :=
  if (gI m 0 0 3) ≤ ((gI m 0 0 4) + a1) then
  some ((-1 : Int32))
  else
  gd (inb ((gI m 0 0 4) + a1) 700) (some (gI m 0 1 (ix ((gI m 0 0 4) + a1))))
def sX7_isLetter   (a0 : Int32) : Option (Int32) :=
  if a0 < ((97 : Int32)) then
  some ((0 : Int32))
  else
  if ((122 : Int32)) < a0 then
  some ((0 : Int32))
  else
  some ((1 : Int32))
def sX7_isDigit   (a0 : Int32) : Option (Int32) :=
  if a0 < ((48 : Int32)) then
  some ((0 : Int32))
  else
  if ((57 : Int32)) < a0 then
  some ((0 : Int32))
  else
  some ((1 : Int32))
def sX7_goOn_b229   (m : St) (a1 : Int32) (s0 : Int32) : Option (St) :=
  nm (pI m 0 0 6 s0) fun z20 =>
  nm (pI z20 0 0 7 a1) fun z21 =>
  nm (pI z21 0 0 4 ((gI z21 0 0 4) + ((1 : Int32)))) fun z22 =>
  some z22
def sX7_goOn_b199   (m : St) (a2 : Int32) (s0 : Int32) : Option (St) :=
  nm (pI m 0 0 6 s0) fun z43 =>
  nm (pI z43 0 0 4 ((gI z43 0 0 4) + a2)) fun z44 =>
  some z44
def sX7_goOn_b146 (fuel : Nat)   (m : St) (a2 : Int32) : Option (St) := match fuel with
  | 0 => none
  | n + 1 =>
  bd (sX7_here m a2) fun q23 =>
  bd (sX7_isDigit q23) fun q24 =>
  if q24 = 0 then
  if a2 ≤ ((3 : Int32)) then
  sX7_goOn_b199 m a2 ((2 : Int32))
  else
  sX7_goOn_b199 m a2 ((4 : Int32))
  else
  if ((3 : Int32)) ≤ a2 then
  nm (a2 + (1 : Int32)) fun v28 =>
  sX7_goOn_b146 n m v28
  else
  bd (sX7_here m a2) fun q29 =>
  nm (((((10 : Int32)) * (gI m 0 0 7)) + q29) - ((48 : Int32))) fun v30 =>
  nm (pI m 0 0 7 v30) fun z31 =>
  nm (a2 + (1 : Int32)) fun v32 =>
  sX7_goOn_b146 n z31 v32
def sX7_goOn_b133   (m : St) (a2 : Int32) (s0 : Int32) : Option (St) :=
  nm (pI m 0 0 6 s0) fun z45 =>
  nm (pI z45 0 0 4 ((gI z45 0 0 4) + a2)) fun z46 =>
  some z46
def sX7_goOn_b76 (fuel : Nat)   (m : St) (a2 : Int32) : Option (St) := match fuel with
  | 0 => none
  | n + 1 =>
  bd (sX7_here m a2) fun q33 =>
  bd (sX7_isLetter q33) fun q34 =>
  if q34 = 0 then
  if a2 ≤ ((8 : Int32)) then
  sX7_goOn_b133 m a2 ((1 : Int32))
  else
  sX7_goOn_b133 m a2 ((4 : Int32))
  else
  if ((8 : Int32)) ≤ a2 then
  nm (a2 + (1 : Int32)) fun v38 =>
  sX7_goOn_b76 n m v38
  else
  bd (sX7_here m a2) fun q39 =>
  nm (((gL m 0 0 12) <<< (((5 : Int32)).toInt64 &&& (63 : Int64))) ||| (((q39 - ((97 : Int32))) + ((1 : Int32))).toInt64)) fun v40 =>
  nm (pL m 0 0 12 v40) fun z41 =>
  nm (a2 + (1 : Int32)) fun v42 =>
  sX7_goOn_b76 n z41 v42
def sX7_goOn_b0 (fuel : Nat)   (m : St)  : Option (St) := match fuel with
  | 0 => none
  | n + 1 =>
  bd (sX7_here m ((0 : Int32))) fun q1 =>
  if q1 = ((32 : Int32)) then
  nm (pI m 0 0 4 ((gI m 0 0 4) + ((1 : Int32)))) fun z3 =>
  sX7_goOn_b0 n z3
  else
  bd (sX7_here m ((0 : Int32))) fun q4 =>
  if ¬ q4 = ((10 : Int32)) then
  nm (pI m 0 0 5 (gI m 0 0 4)) fun z6 =>
  nm (pL z6 0 0 12 ((0 : Int64))) fun z7 =>
  nm (pI z7 0 0 7 ((0 : Int32))) fun z8 =>
  bd (sX7_here z8 ((0 : Int32))) fun q9 =>
  if 0 ≤ q9 then
  bd (sX7_isLetter q9) fun q11 =>
  if q11 = 0 then
  bd (sX7_isDigit q9) fun q13 =>
  if q13 = 0 then
  if q9 = ((59 : Int32)) then
  sX7_goOn_b229 z8 q9 ((3 : Int32))
  else
  if q9 = ((40 : Int32)) then
  sX7_goOn_b229 z8 q9 ((3 : Int32))
  else
  if ¬ q9 = ((41 : Int32)) then
  sX7_goOn_b229 z8 q9 ((4 : Int32))
  else
  sX7_goOn_b229 z8 q9 ((3 : Int32))
  else
  sX7_goOn_b146 FU z8 ((0 : Int32))
  else
  sX7_goOn_b76 FU z8 ((0 : Int32))
  else
  nm (pI z8 0 0 6 ((0 : Int32))) fun z18 =>
  some z18
  else
  nm (pI m 0 0 4 ((gI m 0 0 4) + ((1 : Int32)))) fun z19 =>
  sX7_goOn_b0 n z19
def sX7_goOn  (m : St)  : Option (St) :=
  sX7_goOn_b0 FU m
def sX7_wrong  (m : St) (a1 : Int32) : Option (St) :=
  if (gI m 0 0 8) ≤ 0 then
  if ¬ (gI m 0 0 6) = ((4 : Int32)) then
  nm (pI m 0 0 8 a1) fun z3 =>
  nm (pI z3 0 0 9 (gI z3 0 0 5)) fun z4 =>
  some z4
  else
  nm (pI m 0 0 8 ((1 : Int32))) fun z5 =>
  nm (pI z5 0 0 9 (gI z5 0 0 5)) fun z6 =>
  some z6
  else
  some m
def sX7_isGood  (m : St)  : Option (Int32) :=
  if ¬ (gI m 0 0 8) = 0 then
  some ((0 : Int32))
  else
  some ((1 : Int32))
def sX7_isWord  (m : St) (a1 : Int64) : Option (Int32) :=
  if ¬ (gI m 0 0 8) = 0 then
  some ((0 : Int32))
  else
  if ¬ (gI m 0 0 6) = ((1 : Int32)) then
  some ((0 : Int32))
  else
  if ¬ (lg_cmp (gL m 0 0 12) a1) = 0 then
  some ((0 : Int32))
  else
  some ((1 : Int32))
def sX7_isSign  (m : St) (a1 : Int32) : Option (Int32) :=
  if ¬ (gI m 0 0 8) = 0 then
  some ((0 : Int32))
  else
  if ¬ (gI m 0 0 6) = ((3 : Int32)) then
  some ((0 : Int32))
  else
  if ¬ (gI m 0 0 7) = a1 then
  some ((0 : Int32))
  else
  some ((1 : Int32))
def sX7_mustSign_b20   (m : St)  : Option (St) :=
  bd (sX7_isGood m) fun q6 =>
  if q6 = 0 then
  some m
  else
  bd (sX7_goOn m) fun q8 =>
  some q8
def sX7_mustSign  (m : St) (a1 : Int32) : Option (St) :=
  bd (sX7_isGood m) fun q1 =>
  if q1 = 0 then
  sX7_mustSign_b20 m
  else
  bd (sX7_isSign m a1) fun q3 =>
  if ¬ q3 = 0 then
  sX7_mustSign_b20 m
  else
  bd (sX7_wrong m ((1 : Int32))) fun q5 =>
  sX7_mustSign_b20 q5
def sX7_mustWord_b20   (m : St)  : Option (St) :=
  bd (sX7_isGood m) fun q6 =>
  if q6 = 0 then
  some m
  else
  bd (sX7_goOn m) fun q8 =>
  some q8
def sX7_mustWord  (m : St) (a1 : Int64) : Option (St) :=
  bd (sX7_isGood m) fun q1 =>
  if q1 = 0 then
  sX7_mustWord_b20 m
  else
  bd (sX7_isWord m a1) fun q3 =>
  if ¬ q3 = 0 then
  sX7_mustWord_b20 m
  else
  bd (sX7_wrong m ((1 : Int32))) fun q5 =>
  sX7_mustWord_b20 q5
def sX7_looks_b20   (m : St) (a1 : Int32) (a2 : Int32) : Option (St × Int32) :=
  bd (sX7_isGood m) fun q5 =>
  if q5 = 0 then
  some (m, gI m 0 0 7)
  else
  bd (sX7_isIn ((gI m 0 0 7).toInt64) a1.toInt64 a2.toInt64) fun q7 =>
  if ¬ q7 = 0 then
  some (m, gI m 0 0 7)
  else
  bd (sX7_wrong m ((2 : Int32))) fun q9 =>
  some (q9, gI q9 0 0 7)
def sX7_looks  (m : St) (a1 : Int32) (a2 : Int32) : Option (St × Int32) :=
  bd (sX7_isGood m) fun q1 =>
  if q1 = 0 then
  sX7_looks_b20 m a1 a2
  else
  if (gI m 0 0 6) = ((2 : Int32)) then
  sX7_looks_b20 m a1 a2
  else
  bd (sX7_wrong m ((1 : Int32))) fun q4 =>
  sX7_looks_b20 q4 a1 a2
def sX7_number  (m : St) (a1 : Int32) (a2 : Int32) : Option (St × Int32) :=
  bd (sX7_looks m a1 a2) fun q1 =>
  bd (sX7_isGood q1.1) fun q2 =>
  if q2 = 0 then
  some (q1.1, q1.2)
  else
  bd (sX7_goOn q1.1) fun q4 =>
  some (q4, q1.2)
def sX7_beginsText  (m : St)  : Option (St) :=
  nm (pI m 0 0 3 (gI m 0 0 2)) fun z1 =>
  nm (pI z1 0 0 2 ((0 : Int32))) fun z2 =>
  nm (pI z2 0 0 4 ((0 : Int32))) fun z3 =>
  nm (pI z3 0 0 8 ((0 : Int32))) fun z4 =>
  nm (pI z4 0 0 9 ((-1 : Int32))) fun z5 =>
  bd (sX7_goOn z5) fun q6 =>
  some q6
def sX7_endsText_b29   (m : St) (s0 : Int32) : Option (St × Int32) :=
  bd (sX7_goes m s0) fun q4 =>
  gd (isb q4.2) (some (q4.1, q4.2))
def sX7_endsText  (m : St)  : Option (St × Int32) :=
  nm (pI m 0 0 10 (gI m 0 0 8)) fun z1 =>
  nm (pI z1 0 0 11 (gI z1 0 0 9)) fun z2 =>
  if ¬ (gI z2 0 0 8) = 0 then
  sX7_endsText_b29 z2 ((0 : Int32))
  else
  sX7_endsText_b29 z2 ((1 : Int32))
def sX7_errorCode  (m : St)  : Option (St × Int32) :=
  nm (pI m 0 0 0 ((0 : Int32))) fun z1 =>
  some (z1, gI z1 0 0 10)
def sX7_errorPosition  (m : St)  : Option (St × Int32) :=
  nm (pI m 0 0 0 ((0 : Int32))) fun z1 =>
  some (z1, gI z1 0 0 11)
def sX7_copiesRow_b3 (fuel : Nat)  (j0 : Nat) (j2 : Nat) (m : St) (a1 : Int32) (a3 : Int32) (a4 : Int32) : Option (St) := match fuel with
  | 0 => none
  | n + 1 =>
  if ((365 : Int32)) ≤ a4 then
  some m
  else
  gd (inb (a1 + a4) (lenM j0)) (gd (inb (a3 + a4) (lenM j2)) (nm (pI m 0 j2 (ix (a3 + a4)) (gI m 0 j0 (ix (a1 + a4)))) fun z4 =>
  nm (a4 + (1 : Int32)) fun v5 =>
  sX7_copiesRow_b3 n j0 j2 z4 a1 a3 v5))
def sX7_copiesRow (j0 : Nat) (j2 : Nat) (m : St) (a1 : Int32) (a3 : Int32) : Option (St) :=
  sX7_copiesRow_b3 FU j0 j2 m a1 a3 ((0 : Int32))
def sX7_copiesNames_b2 (fuel : Nat)  (j0 : Nat) (j1 : Nat) (m : St) (a2 : Int32) : Option (St) := match fuel with
  | 0 => none
  | n + 1 =>
  if ((8 : Int32)) ≤ a2 then
  some m
  else
  gd (inb a2 (lenM j0)) (gd (inb a2 (lenM j1)) (nm (pL m 0 j1 (ix a2) (gL m 0 j0 (ix a2))) fun z4 =>
  nm (a2 + (1 : Int32)) fun v5 =>
  sX7_copiesNames_b2 n j0 j1 z4 v5))
def sX7_copiesNames (j0 : Nat) (j1 : Nat) (m : St)  : Option (St) :=
  sX7_copiesNames_b2 FU j0 j1 m ((0 : Int32))
def sX7_cellOf   (a0 : Int32) (a1 : Int32) : Option (Int32) :=
  some ((((21 : Int32)) + (((43 : Int32)) * a0)) + a1)
def sX7_of  (m : St) (a1 : Int32) (a2 : Int32) : Option (Int32) :=
  bd (sX7_cellOf a1 a2) fun q1 =>
  gd (inb q1 365) (some (gI m 0 2 (ix q1)))
def sX7_sets  (m : St) (a1 : Int32) (a2 : Int32) (a3 : Int32) : Option (St) :=
  bd (sX7_cellOf a1 a2) fun q1 =>
  gd (inb q1 365) (nm (pI m 0 2 (ix q1) a3) fun z3 =>
  some z3)
def sX7_adds  (m : St) (a1 : Int32) (a2 : Int32) (a3 : Int32) : Option (St) :=
  bd (sX7_cellOf a1 a2) fun q1 =>
  gd (inb q1 365) (gd (inb q1 365) (nm (pI m 0 2 (ix q1) ((gI m 0 2 (ix q1)) + a3)) fun z4 =>
  some z4))
def sX7_clears_b39 (fuel : Nat) (k24 : St → Int32 → Option (St))  (m : St) (a1 : Int32) (a2 : Int32) : Option (St) := match fuel with
  | 0 => none
  | n + 1 =>
  if ((8 : Int32)) ≤ a2 then
  nm (a1 + (1 : Int32)) fun v23 =>
  k24 m v23
  else
  bd (sX7_sets m a1 (((19 : Int32)) + a2) ((-1 : Int32))) fun q24 =>
  bd (sX7_sets q24 a1 (((35 : Int32)) + a2) ((5 : Int32))) fun q25 =>
  nm (a2 + (1 : Int32)) fun v26 =>
  sX7_clears_b39 n k24 q25 a1 v26
def sX7_clears_b24 (fuel : Nat)   (m : St) (a1 : Int32) : Option (St) := match fuel with
  | 0 => none
  | n + 1 =>
  if ((8 : Int32)) ≤ a1 then
  gd (inb ((7 : Int32)) 365) (nm (pI m 0 2 (ix ((7 : Int32))) ((1 : Int32))) fun z7 =>
  gd (inb ((2 : Int32)) 365) (nm (pI z7 0 2 (ix ((2 : Int32))) ((3 : Int32))) fun z9 =>
  gd (inb ((3 : Int32)) 365) (nm (pI z9 0 2 (ix ((3 : Int32))) ((99 : Int32))) fun z11 =>
  gd (inb ((8 : Int32)) 365) (nm (pI z11 0 2 (ix ((8 : Int32))) ((1 : Int32))) fun z13 =>
  gd (inb ((9 : Int32)) 365) (nm (pI z13 0 2 (ix ((9 : Int32))) ((5 : Int32))) fun z15 =>
  gd (inb ((10 : Int32)) 365) (nm (pI z15 0 2 (ix ((10 : Int32))) ((3 : Int32))) fun z17 =>
  gd (inb ((11 : Int32)) 365) (nm (pI z17 0 2 (ix ((11 : Int32))) ((9 : Int32))) fun z19 =>
  some z19)))))))
  else
  gd (inb a1 8) (nm (pL m 0 7 (ix a1) ((0 : Int64))) fun z21 =>
  sX7_clears_b39 FU (fun m' a1' => sX7_clears_b24 n m' a1') z21 a1 ((0 : Int32)))
def sX7_clears_b2 (fuel : Nat)   (m : St) (a1 : Int32) : Option (St) := match fuel with
  | 0 => none
  | n + 1 =>
  if ((365 : Int32)) ≤ a1 then
  sX7_clears_b24 FU m ((0 : Int32))
  else
  gd (inb a1 365) (nm (pI m 0 2 (ix a1) ((0 : Int32))) fun z3 =>
  nm (a1 + (1 : Int32)) fun v4 =>
  sX7_clears_b2 n z3 v4)
def sX7_clears  (m : St)  : Option (St) :=
  sX7_clears_b2 FU m ((0 : Int32))
def sX7_laysAside  (m : St)  : Option (St) :=
  bd (sX7_copiesRow 2 4 m ((0 : Int32)) ((0 : Int32))) fun q1 =>
  some q1
def sX7_keeps_b55   (m : St)  : Option (St) :=
  bd (sX7_copiesRow 4 6 m ((0 : Int32)) (((365 : Int32)) * (gI m 0 0 21))) fun q3 =>
  nm (pI q3 0 0 21 ((gI q3 0 0 21) + ((1 : Int32)))) fun z4 =>
  some z4
def sX7_keeps_b21 (fuel : Nat)   (m : St) (a1 : Int32) : Option (St) := match fuel with
  | 0 => none
  | n + 1 =>
  if (((365 : Int32)) * (gI m 0 0 21)) ≤ a1 then
  sX7_keeps_b55 m
  else
  gd (inb (a1 + ((365 : Int32))) 2190) (nm (gI m 0 6 (ix (a1 + ((365 : Int32))))) fun v7 =>
  gd (inb a1 2190) (nm (pI m 0 6 (ix a1) v7) fun z9 =>
  nm (a1 + (1 : Int32)) fun v10 =>
  sX7_keeps_b21 n z9 v10))
def sX7_keeps  (m : St)  : Option (St) :=
  if ¬ (gI m 0 0 21) = ((6 : Int32)) then
  sX7_keeps_b55 m
  else
  nm (pI m 0 0 21 ((gI m 0 0 21) - ((1 : Int32)))) fun z2 =>
  sX7_keeps_b21 FU z2 ((0 : Int32))
def sX7_kept  (m : St) (a1 : Int32) : Option (St × Int32) :=
  bd (sX7_keeps m) fun q1 =>
  some (q1, a1)
def sX7_undo  (m : St)  : Option (St × Int32) :=
  nm (pI m 0 0 0 ((0 : Int32))) fun z1 =>
  if ¬ (gI z1 0 0 21) = 0 then
  nm (pI z1 0 0 21 ((gI z1 0 0 21) - ((1 : Int32)))) fun z3 =>
  bd (sX7_copiesRow 6 2 z3 (((365 : Int32)) * (gI z3 0 0 21)) ((0 : Int32))) fun q4 =>
  some (q4, gI q4 0 0 21)
  else
  some (z1, (-1 : Int32))
def sX7_save  (m : St)  : Option (St × Int32) :=
  nm (pI m 0 0 0 ((0 : Int32))) fun z1 =>
  bd (sX7_copiesRow 2 3 z1 ((0 : Int32)) ((0 : Int32))) fun q2 =>
  bd (sX7_copiesNames 7 8 q2) fun q3 =>
  nm (pI q3 0 0 22 ((1 : Int32))) fun z4 =>
  gd (inb ((1 : Int32)) 365) (some (z4, gI z4 0 2 (ix ((1 : Int32)))))
def sX7_restore  (m : St)  : Option (St × Int32) :=
  bd (sX7_goes m (gI m 0 0 22)) fun q1 =>
  if ¬ q1.2 = 0 then
  bd (sX7_copiesRow 3 2 q1.1 ((0 : Int32)) ((0 : Int32))) fun q3 =>
  bd (sX7_copiesNames 8 7 q3) fun q4 =>
  nm (pI q4 0 0 21 ((0 : Int32))) fun z5 =>
  gd (inb ((1 : Int32)) 365) (some (z5, gI z5 0 2 (ix ((1 : Int32)))))
  else
  some (q1.1, (0 : Int32))
def sX7_mustBeWord  (m : St)  : Option (St) :=
  bd (sX7_isGood m) fun q1 =>
  if q1 = 0 then
  some m
  else
  if (gI m 0 0 6) = ((1 : Int32)) then
  some m
  else
  bd (sX7_wrong m ((1 : Int32))) fun q4 =>
  some q4
def sX7_named_b4 (fuel : Nat)   (m : St) (a1 : Int32) (a2 : Int32) : Option (Int32) := match fuel with
  | 0 => none
  | n + 1 =>
  gd (inb ((0 : Int32)) 365) (if (gI m 0 2 (ix ((0 : Int32)))) ≤ a2 then
  some a1
  else
  gd (inb a2 8) (if ¬ (lg_cmp (gL m 0 7 (ix a2)) (gL m 0 0 12)) = 0 then
  nm (a2 + (1 : Int32)) fun v5 =>
  sX7_named_b4 n m a1 v5
  else
  nm (a2 + (1 : Int32)) fun v6 =>
  sX7_named_b4 n m a2 v6))
def sX7_named  (m : St)  : Option (Int32) :=
  sX7_named_b4 FU m ((-1 : Int32)) ((0 : Int32))
def sX7_told_b37   (m : St) (a1 : Int32) : Option (St × Int32) :=
  bd (sX7_isGood m) fun q9 =>
  if q9 = 0 then
  some (m, a1)
  else
  bd (sX7_goOn m) fun q11 =>
  some (q11, a1)
def sX7_told_b19   (m : St) (s0 : Int32) : Option (St × Int32) :=
  bd (sX7_isGood m) fun q5 =>
  if q5 = 0 then
  sX7_told_b37 m s0
  else
  if ¬ s0 = ((-1 : Int32)) then
  sX7_told_b37 m s0
  else
  bd (sX7_wrong m ((4 : Int32))) fun q8 =>
  sX7_told_b37 q8 s0
def sX7_told  (m : St)  : Option (St × Int32) :=
  bd (sX7_mustBeWord m) fun q1 =>
  bd (sX7_isGood q1) fun q2 =>
  if q2 = 0 then
  sX7_told_b19 q1 ((-1 : Int32))
  else
  bd (sX7_named q1) fun q4 =>
  sX7_told_b19 q1 q4
def sX7_once_b16   (m : St) (a1 : Int32) : Option (St) :=
  nm ((gI m 0 0 23) ||| (((1 : Int32)) <<< (a1 &&& (31 : Int32)))) fun v4 =>
  nm (pI m 0 0 23 v4) fun z5 =>
  bd (sX7_isGood z5) fun q6 =>
  if q6 = 0 then
  some z5
  else
  bd (sX7_goOn z5) fun q8 =>
  some q8
def sX7_once  (m : St) (a1 : Int32) : Option (St) :=
  bd (sX7_has (gI m 0 0 23) a1) fun q1 =>
  if q1 = 0 then
  sX7_once_b16 m a1
  else
  bd (sX7_wrong m ((3 : Int32))) fun q3 =>
  sX7_once_b16 q3 a1
def sX7_perhaps  (m : St) (a1 : Int64) (a3 : Int32) (a4 : Int32) (a5 : Int32) : Option (St × Int32) :=
  bd (sX7_isWord m a1) fun q1 =>
  if ¬ q1 = 0 then
  bd (sX7_goOn m) fun q3 =>
  bd (sX7_number q3 a3 a4) fun q4 =>
  some (q4.1, q4.2)
  else
  some (m, a5)
def sX7_readsBeacon_b53   (m : St) (a1 : Int32) : Option (St) :=
  bd (sX7_isGood m) fun q13 =>
  if ¬ q13 = 0 then
  gd (inb a1 8) (nm (pL m 0 7 (ix a1) (gL m 0 0 12)) fun z16 =>
  bd (sX7_goOn z16) fun q17 =>
  bd (sX7_mustWord q17 ((5969497 : Int64))) fun q18 =>
  bd (sX7_number q18 ((2 : Int32)) ((99 : Int32))) fun q19 =>
  bd (sX7_sets q19.1 a1 ((0 : Int32)) q19.2) fun q20 =>
  bd (sX7_perhaps q20 ((52 : Int64)) ((0 : Int32)) (q19.2 - ((1 : Int32))) ((0 : Int32))) fun q21 =>
  bd (sX7_sets q21.1 a1 ((1 : Int32)) q21.2) fun q22 =>
  bd (sX7_perhaps q22 ((13207475667 : Int64)) ((1 : Int32)) ((9 : Int32)) ((2 : Int32))) fun q23 =>
  bd (sX7_sets q23.1 a1 ((2 : Int32)) q23.2) fun q24 =>
  bd (sX7_perhaps q24 ((20101267 : Int64)) ((1 : Int32)) ((9 : Int32)) ((2 : Int32))) fun q25 =>
  bd (sX7_sets q25.1 a1 ((3 : Int32)) q25.2) fun q26 =>
  bd (sX7_perhaps q26 ((182634745 : Int64)) ((1 : Int32)) ((999 : Int32)) ((999 : Int32))) fun q27 =>
  bd (sX7_sets q27.1 a1 ((4 : Int32)) q27.2) fun q28 =>
  bd (sX7_isGood q28) fun q29 =>
  if q29 = 0 then
  some q28
  else
  gd (inb ((0 : Int32)) 365) (nm ((gI q28 0 2 (ix ((0 : Int32)))) + ((1 : Int32))) fun v32 =>
  gd (inb ((0 : Int32)) 365) (nm (pI q28 0 2 (ix ((0 : Int32))) v32) fun z34 =>
  some z34)))
  else
  some m
def sX7_readsBeacon_b29   (m : St) (a1 : Int32) : Option (St) :=
  bd (sX7_mustBeWord m) fun q7 =>
  bd (sX7_isGood q7) fun q8 =>
  if q8 = 0 then
  sX7_readsBeacon_b53 q7 a1
  else
  bd (sX7_named q7) fun q10 =>
  if q10 = ((-1 : Int32)) then
  sX7_readsBeacon_b53 q7 a1
  else
  bd (sX7_wrong q7 ((3 : Int32))) fun q12 =>
  sX7_readsBeacon_b53 q12 a1
def sX7_readsBeacon_b18   (m : St) (a1 : Int32) : Option (St) :=
  bd (sX7_isGood m) fun q4 =>
  if q4 = 0 then
  sX7_readsBeacon_b29 m a1
  else
  bd (sX7_goOn m) fun q6 =>
  sX7_readsBeacon_b29 q6 a1
def sX7_readsBeacon  (m : St)  : Option (St) :=
  gd (inb ((0 : Int32)) 365) (if ¬ (gI m 0 2 (ix ((0 : Int32)))) = ((8 : Int32)) then
  sX7_readsBeacon_b18 m (gI m 0 2 (ix ((0 : Int32))))
  else
  bd (sX7_wrong m ((5 : Int32))) fun q3 =>
  sX7_readsBeacon_b18 q3 (gI m 0 2 (ix ((0 : Int32)))))
def sX7_areNear  (m : St) (a1 : Int32) (a2 : Int32) : Option (Int32) :=
  gd (inb (((13 : Int32)) + a1) 365) (bd (sX7_has (gI m 0 2 (ix (((13 : Int32)) + a1))) a2) fun q2 =>
  gd (isb q2) (some q2))
def sX7_nears_b51   (m : St) (a2 : Int32) (a3 : Int32) (a5 : Int32) (s0 : Int32) (s1 : Int32) : Option (St) :=
  gd (inb s1 365) (nm (pI m 0 2 (ix s1) s0) fun z7 =>
  if a3 = 0 then
  gd (inb (((13 : Int32)) + a2) 365) (nm ((gI z7 0 2 (ix (((13 : Int32)) + a2))) &&& (a5 ^^^ ((-1 : Int32)))) fun v10 =>
  gd (inb (((13 : Int32)) + a2) 365) (nm (pI z7 0 2 (ix (((13 : Int32)) + a2)) v10) fun z12 =>
  some z12))
  else
  gd (inb (((13 : Int32)) + a2) 365) (nm ((gI z7 0 2 (ix (((13 : Int32)) + a2))) ||| a5) fun v14 =>
  gd (inb (((13 : Int32)) + a2) 365) (nm (pI z7 0 2 (ix (((13 : Int32)) + a2)) v14) fun z16 =>
  some z16)))
def sX7_nears  (m : St) (a1 : Int32) (a2 : Int32) (a3 : Int32) : Option (St) :=
  nm (((1 : Int32)) <<< (a2 &&& (31 : Int32))) fun v1 =>
  nm (((1 : Int32)) <<< (a1 &&& (31 : Int32))) fun v2 =>
  if a3 = 0 then
  gd (inb (((13 : Int32)) + a1) 365) (sX7_nears_b51 m a2 a3 v2 ((gI m 0 2 (ix (((13 : Int32)) + a1))) &&& (v1 ^^^ ((-1 : Int32)))) (((13 : Int32)) + a1))
  else
  gd (inb (((13 : Int32)) + a1) 365) (sX7_nears_b51 m a2 a3 v2 ((gI m 0 2 (ix (((13 : Int32)) + a1))) ||| v1) (((13 : Int32)) + a1))
def sX7_readsNear_b77   (m : St) (a1 : Int32) (a2 : Int32) : Option (St) :=
  bd (sX7_isGood m) fun q18 =>
  if ¬ q18 = 0 then
  bd (sX7_goOn m) fun q20 =>
  bd (sX7_nears q20 a1 a2 ((1 : Int32))) fun q21 =>
  some q21
  else
  some m
def sX7_readsNear_b60   (m : St) (a1 : Int32) (a2 : Int32) : Option (St) :=
  bd (sX7_isGood m) fun q13 =>
  if q13 = 0 then
  sX7_readsNear_b77 m a1 a2
  else
  if ¬ a2 = ((-1 : Int32)) then
  sX7_readsNear_b77 m a1 a2
  else
  bd (sX7_wrong m ((4 : Int32))) fun q16 =>
  sX7_readsNear_b77 q16 a1 a2
def sX7_readsNear_b55   (m : St) (a1 : Int32) (a2 : Int32) : Option (St) :=
  bd (sX7_wrong m ((3 : Int32))) fun q17 =>
  sX7_readsNear_b60 q17 a1 a2
def sX7_readsNear_b28   (m : St) (a1 : Int32) (s0 : Int32) : Option (St) :=
  bd (sX7_isGood m) fun q7 =>
  if q7 = 0 then
  sX7_readsNear_b60 m a1 s0
  else
  if s0 = ((-1 : Int32)) then
  sX7_readsNear_b60 m a1 s0
  else
  if s0 = a1 then
  sX7_readsNear_b55 m a1 s0
  else
  bd (sX7_areNear m a1 s0) fun q11 =>
  if q11 = 0 then
  sX7_readsNear_b60 m a1 s0
  else
  sX7_readsNear_b55 m a1 s0
def sX7_readsNear  (m : St)  : Option (St) :=
  bd (sX7_goOn m) fun q1 =>
  bd (sX7_told q1) fun q2 =>
  bd (sX7_mustBeWord q2.1) fun q3 =>
  bd (sX7_isGood q3) fun q4 =>
  if q4 = 0 then
  sX7_readsNear_b28 q3 q2.2 ((-1 : Int32))
  else
  bd (sX7_named q3) fun q6 =>
  sX7_readsNear_b28 q3 q2.2 q6
def sX7_statement_b182   (m : St)  : Option (St) :=
  bd (sX7_mustSign m ((59 : Int32))) fun q29 =>
  some q29
def sX7_statement_b17 (fuel : Nat)   (m : St) (a1 : Int32) : Option (St) := match fuel with
  | 0 => none
  | n + 1 =>
  if ((4 : Int32)) ≤ a1 then
  sX7_statement_b182 m
  else
  bd (sX7_number m ((0 : Int32)) ((99 : Int32))) fun q31 =>
  gd (inb (((8 : Int32)) + a1) 365) (nm (pI q31.1 0 2 (ix (((8 : Int32)) + a1)) q31.2) fun z33 =>
  nm (a1 + (1 : Int32)) fun v34 =>
  sX7_statement_b17 n z33 v34)
def sX7_statement  (m : St)  : Option (St) :=
  bd (sX7_isWord m ((3657363 : Int64))) fun q1 =>
  if q1 = 0 then
  bd (sX7_isWord m ((627876 : Int64))) fun q3 =>
  if q3 = 0 then
  bd (sX7_isWord m ((21570739 : Int64))) fun q5 =>
  if q5 = 0 then
  bd (sX7_isWord m ((441892441 : Int64))) fun q7 =>
  if q7 = 0 then
  bd (sX7_isWord m ((72388078 : Int64))) fun q9 =>
  if q9 = 0 then
  bd (sX7_isWord m ((463922 : Int64))) fun q11 =>
  if q11 = 0 then
  bd (sX7_wrong m ((1 : Int32))) fun q13 =>
  sX7_statement_b182 q13
  else
  bd (sX7_readsNear m) fun q14 =>
  sX7_statement_b182 q14
  else
  bd (sX7_readsBeacon m) fun q15 =>
  sX7_statement_b182 q15
  else
  bd (sX7_once m ((3 : Int32))) fun q16 =>
  bd (sX7_number q16 ((1 : Int32)) ((999 : Int32))) fun q17 =>
  gd (inb ((3 : Int32)) 365) (nm (pI q17.1 0 2 (ix ((3 : Int32))) q17.2) fun z19 =>
  sX7_statement_b182 z19)
  else
  bd (sX7_once m ((2 : Int32))) fun q20 =>
  bd (sX7_number q20 ((1 : Int32)) ((9 : Int32))) fun q21 =>
  gd (inb ((2 : Int32)) 365) (nm (pI q21.1 0 2 (ix ((2 : Int32))) q21.2) fun z23 =>
  sX7_statement_b182 z23)
  else
  bd (sX7_once m ((1 : Int32))) fun q24 =>
  bd (sX7_number q24 ((0 : Int32)) ((999 : Int32))) fun q25 =>
  gd (inb ((7 : Int32)) 365) (nm (pI q25.1 0 2 (ix ((7 : Int32))) q25.2) fun z27 =>
  sX7_statement_b182 z27)
  else
  bd (sX7_once m ((0 : Int32))) fun q28 =>
  sX7_statement_b17 FU q28 ((0 : Int32))
def sX7_readText_b49   (m : St)  : Option (St × Int32) :=
  bd (sX7_endsText m) fun q10 =>
  if ¬ q10.2 = 0 then
  nm (pI q10.1 0 0 21 ((0 : Int32))) fun z12 =>
  gd (inb ((0 : Int32)) 365) (some (z12, gI z12 0 2 (ix ((0 : Int32)))))
  else
  bd (sX7_copiesRow 4 2 q10.1 ((0 : Int32)) ((0 : Int32))) fun q14 =>
  bd (sX7_copiesNames 9 7 q14) fun q15 =>
  some (q15, (0 : Int32))
def sX7_readText_b28 (fuel : Nat)   (m : St)  : Option (St × Int32) := match fuel with
  | 0 => none
  | n + 1 =>
  bd (sX7_isGood m) fun q6 =>
  if q6 = 0 then
  sX7_readText_b49 m
  else
  if (gI m 0 0 6) = 0 then
  sX7_readText_b49 m
  else
  bd (sX7_statement m) fun q9 =>
  sX7_readText_b28 n q9
def sX7_readText  (m : St)  : Option (St × Int32) :=
  bd (sX7_beginsText m) fun q1 =>
  bd (sX7_laysAside q1) fun q2 =>
  bd (sX7_copiesNames 7 9 q2) fun q3 =>
  bd (sX7_clears q3) fun q4 =>
  nm (pI q4 0 0 23 ((0 : Int32))) fun z5 =>
  sX7_readText_b28 FU z5
def sX7_lesser   (a0 : Int32) (a1 : Int32) : Option (Int32) :=
  if a1 ≤ a0 then
  some a1
  else
  some a0
def sX7_greater   (a0 : Int32) (a1 : Int32) : Option (Int32) :=
  if a0 ≤ a1 then
  some a1
  else
  some a0
def sX7_bits_b4 (fuel : Nat)    (a0 : Int32) (a1 : Int32) (a2 : Int32) : Option (Int32) := match fuel with
  | 0 => none
  | n + 1 =>
  if ((8 : Int32)) ≤ a2 then
  some a1
  else
  nm (a1 + ((a0 >>> (a2 &&& (31 : Int32))) &&& ((1 : Int32)))) fun v2 =>
  nm (a2 + (1 : Int32)) fun v3 =>
  sX7_bits_b4 n a0 v2 v3
def sX7_bits   (a0 : Int32) : Option (Int32) :=
  sX7_bits_b4 FU a0 ((0 : Int32)) ((0 : Int32))
def sX7_isAt  (m : St) (a1 : Int32) (a2 : Int32) : Option (Int32) :=
  bd (sX7_of m a1 ((5 : Int32))) fun q1 =>
  if ¬ q1 = a2 then
  some ((0 : Int32))
  else
  some ((1 : Int32))
def sX7_isKnown  (m : St) (a1 : Int32) (a2 : Int32) : Option (Int32) :=
  bd (sX7_of m a1 (((19 : Int32)) + a2)) fun q1 =>
  if q1 = ((-1 : Int32)) then
  some ((0 : Int32))
  else
  gd (inb ((1 : Int32)) 365) (gd (inb ((3 : Int32)) 365) (if (gI m 0 2 (ix ((3 : Int32)))) < ((gI m 0 2 (ix ((1 : Int32)))) - q1) then
  some ((0 : Int32))
  else
  some ((1 : Int32))))
def sX7_knownSet_b4 (fuel : Nat)   (m : St) (a1 : Int32) (a2 : Int32) (a3 : Int32) : Option (Int32) := match fuel with
  | 0 => none
  | n + 1 =>
  gd (inb ((0 : Int32)) 365) (if (gI m 0 2 (ix ((0 : Int32)))) ≤ a3 then
  some a2
  else
  bd (sX7_isKnown m a1 a3) fun q3 =>
  if q3 = 0 then
  nm (a3 + (1 : Int32)) fun v5 =>
  sX7_knownSet_b4 n m a1 (a2 ||| ((0 : Int32))) v5
  else
  nm (a2 ||| (((1 : Int32)) <<< (a3 &&& (31 : Int32)))) fun v6 =>
  nm (a3 + (1 : Int32)) fun v7 =>
  sX7_knownSet_b4 n m a1 v6 v7)
def sX7_knownSet  (m : St) (a1 : Int32) : Option (Int32) :=
  sX7_knownSet_b4 FU m a1 ((0 : Int32)) ((0 : Int32))
def sX7_knowsAll  (m : St) (a1 : Int32) : Option (Int32) :=
  gd (inb (((13 : Int32)) + a1) 365) (bd (sX7_knownSet m a1) fun q2 =>
  if ¬ ((gI m 0 2 (ix (((13 : Int32)) + a1))) &&& (q2 ^^^ ((-1 : Int32)))) = 0 then
  some ((0 : Int32))
  else
  some ((1 : Int32)))
def sX7_windowOf  (m : St) (a1 : Int32) : Option (Int32) :=
  bd (sX7_of m a1 ((7 : Int32))) fun q1 =>
  bd (sX7_lesser ((4 : Int32)) q1) fun q2 =>
  bd (sX7_lesser ((32 : Int32)) (((2 : Int32)) <<< (q2 &&& (31 : Int32)))) fun q3 =>
  some q3
def sX7_draws  (m : St) (a1 : Int32) : Option (St × Int32) :=
  gd (inb ((7 : Int32)) 365) (nm (((gI m 0 2 (ix ((7 : Int32)))) * ((1103515245 : Int32))) + ((12345 : Int32))) fun v2 =>
  gd (inb ((7 : Int32)) 365) (nm (pI m 0 2 (ix ((7 : Int32))) v2) fun z4 =>
  gd (inb ((7 : Int32)) 365) (gd (nz a1) (some (z4, (((gI z4 0 2 (ix ((7 : Int32)))).toUInt32 >>> (((16 : Int32)).toUInt32 &&& Int32.toUInt32 31)).toInt32) - (((gI z4 0 2 (ix ((7 : Int32)))).toUInt32 >>> (((16 : Int32)).toUInt32 &&& Int32.toUInt32 31)).toInt32) / a1 * a1)))))
def sX7_isDueAt  (m : St) (a1 : Int32) (a2 : Int32) : Option (Int32) :=
  bd (sX7_of m a1 ((1 : Int32))) fun q1 =>
  if (a2 - q1) < 0 then
  some ((0 : Int32))
  else
  bd (sX7_of m a1 ((0 : Int32))) fun q3 =>
  gd (nz q3) (if ¬ ((a2 - q1) - (a2 - q1) / q3 * q3) = 0 then
  some ((0 : Int32))
  else
  some ((1 : Int32)))
def sX7_enters  (m : St) (a1 : Int32) (a2 : Int32) (a3 : Int32) : Option (St) :=
  bd (sX7_sets m a1 ((5 : Int32)) a2) fun q1 =>
  bd (sX7_sets q1 a1 ((6 : Int32)) a3) fun q2 =>
  some q2
def sX7_listens  (m : St) (a1 : Int32) : Option (St) :=
  bd (sX7_sets m a1 ((8 : Int32)) ((0 : Int32))) fun q1 =>
  bd (sX7_of q1 a1 ((2 : Int32))) fun q2 =>
  bd (sX7_enters q1 a1 ((1 : Int32)) q2) fun q3 =>
  some q3
def sX7_waits  (m : St) (a1 : Int32) : Option (St) :=
  bd (sX7_windowOf m a1) fun q1 =>
  bd (sX7_draws m q1) fun q2 =>
  bd (sX7_enters q2.1 a1 ((2 : Int32)) (q2.2 + ((1 : Int32)))) fun q3 =>
  some q3
def sX7_begins_b30 (fuel : Nat)   (m : St) (a1 : Int32) (a2 : Int32) : Option (St) := match fuel with
  | 0 => none
  | n + 1 =>
  if ((8 : Int32)) ≤ a2 then
  some m
  else
  bd (sX7_sets m a1 (((27 : Int32)) + a2) ((0 : Int32))) fun q5 =>
  nm (a2 + (1 : Int32)) fun v6 =>
  sX7_begins_b30 n q5 a1 v6
def sX7_begins  (m : St) (a1 : Int32) : Option (St) :=
  bd (sX7_of m a1 ((3 : Int32))) fun q1 =>
  bd (sX7_enters m a1 ((3 : Int32)) q1) fun q2 =>
  bd (sX7_sets q2 a1 ((9 : Int32)) (((255 : Int32)) &&& ((((1 : Int32)) <<< (a1 &&& (31 : Int32))) ^^^ ((-1 : Int32))))) fun q3 =>
  sX7_begins_b30 FU q3 a1 ((0 : Int32))
def sX7_isThrough  (m : St) (a1 : Int32) : Option (St × Int32) :=
  bd (sX7_adds m a1 ((6 : Int32)) ((-1 : Int32))) fun q1 =>
  bd (sX7_of q1 a1 ((6 : Int32))) fun q2 =>
  if ¬ q2 = 0 then
  some (q1, (0 : Int32))
  else
  some (q1, (1 : Int32))
def sX7_wakes_b50   (m : St) (a1 : Int32) (s0 : Int32) : Option (St) :=
  if s0 = 0 then
  bd (sX7_listens m a1) fun q11 =>
  some q11
  else
  bd (sX7_sets m a1 ((8 : Int32)) ((1 : Int32))) fun q12 =>
  some q12
def sX7_wakes  (m : St) (a1 : Int32) : Option (St) :=
  gd (inb ((1 : Int32)) 365) (bd (sX7_isDueAt m a1 (gI m 0 2 (ix ((1 : Int32))))) fun q2 =>
  if ¬ q2 = 0 then
  gd (inb (((13 : Int32)) + a1) 365) (if (gI m 0 2 (ix (((13 : Int32)) + a1))) = 0 then
  sX7_wakes_b50 m a1 ((0 : Int32))
  else
  bd (sX7_of m a1 ((8 : Int32))) fun q6 =>
  if ¬ q6 = 0 then
  sX7_wakes_b50 m a1 ((0 : Int32))
  else
  bd (sX7_knowsAll m a1) fun q8 =>
  if q8 = 0 then
  sX7_wakes_b50 m a1 ((0 : Int32))
  else
  sX7_wakes_b50 m a1 ((1 : Int32)))
  else
  some m)
def sX7_changes  (m : St) (a1 : Int32) : Option (St) :=
  bd (sX7_of m a1 ((5 : Int32))) fun q1 =>
  if ¬ q1 = 0 then
  if ¬ q1 = ((1 : Int32)) then
  if ¬ q1 = ((2 : Int32)) then
  some m
  else
  gd (inb (((13 : Int32)) + a1) 365) (gd (inb ((12 : Int32)) 365) (if ¬ ((gI m 0 2 (ix (((13 : Int32)) + a1))) &&& (gI m 0 2 (ix ((12 : Int32))))) = 0 then
  some m
  else
  bd (sX7_isThrough m a1) fun q8 =>
  if q8.2 = 0 then
  some q8.1
  else
  bd (sX7_begins q8.1 a1) fun q10 =>
  some q10))
  else
  bd (sX7_isThrough m a1) fun q11 =>
  if q11.2 = 0 then
  some q11.1
  else
  bd (sX7_waits q11.1 a1) fun q13 =>
  some q13
  else
  bd (sX7_wakes m a1) fun q14 =>
  some q14
def sX7_pays  (m : St) (a1 : Int32) : Option (St) :=
  bd (sX7_of m a1 ((5 : Int32))) fun q1 =>
  bd (sX7_of m a1 ((4 : Int32))) fun q2 =>
  gd (inb (((8 : Int32)) + q1) 365) (bd (sX7_lesser q2 (gI m 0 2 (ix (((8 : Int32)) + q1)))) fun q4 =>
  bd (sX7_adds m a1 ((4 : Int32)) (-q4)) fun q5 =>
  bd (sX7_adds q5 a1 ((13 : Int32)) q4) fun q6 =>
  bd (sX7_adds q6 a1 (((14 : Int32)) + q1) ((1 : Int32))) fun q7 =>
  bd (sX7_of q7 a1 ((4 : Int32))) fun q8 =>
  if ¬ q8 = 0 then
  some q7
  else
  bd (sX7_enters q7 a1 ((4 : Int32)) ((0 : Int32))) fun q10 =>
  some q10)
def sX7_senders_b4 (fuel : Nat)   (m : St) (a1 : Int32) (a2 : Int32) : Option (Int32) := match fuel with
  | 0 => none
  | n + 1 =>
  gd (inb ((0 : Int32)) 365) (if (gI m 0 2 (ix ((0 : Int32)))) ≤ a2 then
  some a1
  else
  bd (sX7_isAt m a2 ((3 : Int32))) fun q3 =>
  if q3 = 0 then
  nm (a2 + (1 : Int32)) fun v5 =>
  sX7_senders_b4 n m (a1 ||| ((0 : Int32))) v5
  else
  nm (a1 ||| (((1 : Int32)) <<< (a2 &&& (31 : Int32)))) fun v6 =>
  nm (a2 + (1 : Int32)) fun v7 =>
  sX7_senders_b4 n m v6 v7)
def sX7_senders  (m : St)  : Option (Int32) :=
  sX7_senders_b4 FU m ((0 : Int32)) ((0 : Int32))
def sX7_hasEars  (m : St) (a1 : Int32) : Option (Int32) :=
  bd (sX7_isAt m a1 ((1 : Int32))) fun q1 =>
  if ¬ q1 = 0 then
  some ((1 : Int32))
  else
  bd (sX7_isAt m a1 ((2 : Int32))) fun q3 =>
  if q3 = 0 then
  some ((0 : Int32))
  else
  some ((1 : Int32))
def sX7_deafness  (m : St) (a1 : Int32) (a2 : Int32) (a3 : Int32) : Option (Int32) :=
  bd (sX7_areNear m a1 a2) fun q1 =>
  if ¬ q1 = 0 then
  bd (sX7_isAt m a1 ((0 : Int32))) fun q3 =>
  if ¬ q3 = 0 then
  some ((2 : Int32))
  else
  bd (sX7_isAt m a1 ((4 : Int32))) fun q5 =>
  if q5 = 0 then
  bd (sX7_isAt m a1 ((3 : Int32))) fun q7 =>
  if q7 = 0 then
  gd (inb (((13 : Int32)) + a1) 365) (bd (sX7_bits ((gI m 0 2 (ix (((13 : Int32)) + a1))) &&& a3)) fun q10 =>
  if q10 ≤ ((1 : Int32)) then
  some ((0 : Int32))
  else
  some ((4 : Int32)))
  else
  some ((3 : Int32))
  else
  some ((2 : Int32))
  else
  some ((1 : Int32))
def sX7_hears_b28 (k2 : St → Int32 → Int32 → Int32 → Option (St))  (m : St) (a1 : Int32) (a2 : Int32) (a3 : Int32) (s0 : Int32) : Option (St) :=
  if ¬ s0 = 0 then
  bd (sX7_of m a1 ((9 : Int32))) fun q6 =>
  bd (sX7_sets m a1 ((9 : Int32)) (q6 &&& ((((1 : Int32)) <<< (a3 &&& (31 : Int32))) ^^^ ((-1 : Int32))))) fun q7 =>
  bd (sX7_of q7 a1 (((27 : Int32)) + a3)) fun q8 =>
  if ¬ q8 = 0 then
  nm (a3 + (1 : Int32)) fun v10 =>
  k2 q7 a1 a2 v10
  else
  bd (sX7_sets q7 a1 (((27 : Int32)) + a3) s0) fun q11 =>
  nm (a3 + (1 : Int32)) fun v12 =>
  k2 q11 a1 a2 v12
  else
  nm (a3 + (1 : Int32)) fun v13 =>
  k2 m a1 a2 v13
def sX7_hears_b2 (fuel : Nat)   (m : St) (a1 : Int32) (a2 : Int32) (a3 : Int32) : Option (St) := match fuel with
  | 0 => none
  | n + 1 =>
  gd (inb ((0 : Int32)) 365) (if (gI m 0 2 (ix ((0 : Int32)))) ≤ a3 then
  some m
  else
  if ¬ a3 = a1 then
  bd (sX7_deafness m a3 a1 a2) fun q4 =>
  sX7_hears_b28 (fun m' a1' a2' a3' => sX7_hears_b2 n m' a1' a2' a3') m a1 a2 a3 q4
  else
  sX7_hears_b28 (fun m' a1' a2' a3' => sX7_hears_b2 n m' a1' a2' a3') m a1 a2 a3 ((0 : Int32)))
def sX7_hears  (m : St) (a1 : Int32) (a2 : Int32) : Option (St) :=
  sX7_hears_b2 FU m a1 a2 ((0 : Int32))
def sX7_collides_b51 (k2 : St → Int32 → Int32 → Option (St))  (m : St) (a1 : Int32) (a2 : Int32) (s0 : Int32) (s1 : Int32) (s2 : Int32) : Option (St) :=
  bd (sX7_truth s0) fun q9 =>
  gd (inb s2 365) (nm (pI m 0 2 (ix s2) (s1 + q9)) fun z11 =>
  nm (a2 + (1 : Int32)) fun v12 =>
  k2 z11 a1 v12)
def sX7_collides_b2 (fuel : Nat)   (m : St) (a1 : Int32) (a2 : Int32) : Option (St) := match fuel with
  | 0 => none
  | n + 1 =>
  gd (inb ((0 : Int32)) 365) (if (gI m 0 2 (ix ((0 : Int32)))) ≤ a2 then
  some m
  else
  gd (inb ((6 : Int32)) 365) (bd (sX7_hasEars m a2) fun q4 =>
  if q4 = 0 then
  sX7_collides_b51 (fun m' a1' a2' => sX7_collides_b2 n m' a1' a2') m a1 a2 ((0 : Int32)) (gI m 0 2 (ix ((6 : Int32)))) ((6 : Int32))
  else
  gd (inb (((13 : Int32)) + a2) 365) (bd (sX7_bits ((gI m 0 2 (ix (((13 : Int32)) + a2))) &&& a1)) fun q7 =>
  if q7 ≤ ((1 : Int32)) then
  sX7_collides_b51 (fun m' a1' a2' => sX7_collides_b2 n m' a1' a2') m a1 a2 ((0 : Int32)) (gI m 0 2 (ix ((6 : Int32)))) ((6 : Int32))
  else
  sX7_collides_b51 (fun m' a1' a2' => sX7_collides_b2 n m' a1' a2') m a1 a2 ((1 : Int32)) (gI m 0 2 (ix ((6 : Int32)))) ((6 : Int32)))))
def sX7_collides  (m : St) (a1 : Int32) : Option (St) :=
  sX7_collides_b2 FU m a1 ((0 : Int32))
def sX7_earsOf  (m : St) (a1 : Int32) : Option (Int32) :=
  bd (sX7_of m a1 ((9 : Int32))) fun q1 =>
  gd (inb ((0 : Int32)) 365) (some (q1 &&& ((((1 : Int32)) <<< ((gI m 0 2 (ix ((0 : Int32)))) &&& (31 : Int32))) - ((1 : Int32)))))
def sX7_goesWell_b2 (fuel : Nat)   (m : St) (a1 : Int32) (a2 : Int32) : Option (St) := match fuel with
  | 0 => none
  | n + 1 =>
  gd (inb ((0 : Int32)) 365) (if (gI m 0 2 (ix ((0 : Int32)))) ≤ a2 then
  bd (sX7_sets m a1 ((7 : Int32)) ((0 : Int32))) fun q3 =>
  bd (sX7_adds q3 a1 ((11 : Int32)) ((1 : Int32))) fun q4 =>
  gd (inb ((4 : Int32)) 365) (nm ((gI q4 0 2 (ix ((4 : Int32)))) + ((1 : Int32))) fun v6 =>
  gd (inb ((4 : Int32)) 365) (nm (pI q4 0 2 (ix ((4 : Int32))) v6) fun z8 =>
  bd (sX7_enters z8 a1 ((0 : Int32)) ((0 : Int32))) fun q9 =>
  some q9))
  else
  bd (sX7_earsOf m a1) fun q10 =>
  bd (sX7_has q10 a2) fun q11 =>
  if q11 = 0 then
  nm (a2 + (1 : Int32)) fun v13 =>
  sX7_goesWell_b2 n m a1 v13
  else
  gd (inb ((1 : Int32)) 365) (bd (sX7_sets m a2 (((19 : Int32)) + a1) (gI m 0 2 (ix ((1 : Int32))))) fun q15 =>
  nm (a2 + (1 : Int32)) fun v16 =>
  sX7_goesWell_b2 n q15 a1 v16))
def sX7_goesWell  (m : St) (a1 : Int32) : Option (St) :=
  sX7_goesWell_b2 FU m a1 ((0 : Int32))
def sX7_givesUp  (m : St) (a1 : Int32) : Option (St) :=
  bd (sX7_sets m a1 ((7 : Int32)) ((0 : Int32))) fun q1 =>
  bd (sX7_adds q1 a1 ((12 : Int32)) ((1 : Int32))) fun q2 =>
  gd (inb ((5 : Int32)) 365) (nm ((gI q2 0 2 (ix ((5 : Int32)))) + ((1 : Int32))) fun v4 =>
  gd (inb ((5 : Int32)) 365) (nm (pI q2 0 2 (ix ((5 : Int32))) v4) fun z6 =>
  bd (sX7_enters z6 a1 ((0 : Int32)) ((0 : Int32))) fun q7 =>
  some q7))
def sX7_ends_b36 (k2 : St → Int32 → Int32 → Option (St))  (m : St) (a1 : Int32) (a2 : Int32) (s0 : Int32) (s1 : Int32) (s2 : Int32) : Option (St) :=
  bd (sX7_sets m s2 s1 s0) fun q14 =>
  nm (a2 + (1 : Int32)) fun v15 =>
  k2 q14 a1 v15
def sX7_ends_b2 (fuel : Nat)   (m : St) (a1 : Int32) (a2 : Int32) : Option (St) := match fuel with
  | 0 => none
  | n + 1 =>
  gd (inb ((0 : Int32)) 365) (if (gI m 0 2 (ix ((0 : Int32)))) ≤ a2 then
  bd (sX7_earsOf m a1) fun q3 =>
  if q3 = 0 then
  bd (sX7_adds m a1 ((7 : Int32)) ((1 : Int32))) fun q5 =>
  bd (sX7_of q5 a1 ((7 : Int32))) fun q6 =>
  gd (inb ((2 : Int32)) 365) (if q6 < (gI q5 0 2 (ix ((2 : Int32)))) then
  bd (sX7_waits q5 a1) fun q9 =>
  some q9
  else
  bd (sX7_givesUp q5 a1) fun q10 =>
  some q10)
  else
  bd (sX7_goesWell m a1) fun q11 =>
  some q11
  else
  if ¬ a2 = a1 then
  bd (sX7_of m a1 (((27 : Int32)) + a2)) fun q13 =>
  sX7_ends_b36 (fun m' a1' a2' => sX7_ends_b2 n m' a1' a2') m a1 a2 q13 (((35 : Int32)) + a2) a1
  else
  sX7_ends_b36 (fun m' a1' a2' => sX7_ends_b2 n m' a1' a2') m a1 a2 ((5 : Int32)) (((35 : Int32)) + a2) a1)
def sX7_ends  (m : St) (a1 : Int32) : Option (St) :=
  sX7_ends_b2 FU m a1 ((0 : Int32))
def sX7_slot_b126 (fuel : Nat)   (m : St) (a1 : Int32) (a2 : Int32) : Option (St) := match fuel with
  | 0 => none
  | n + 1 =>
  gd (inb ((0 : Int32)) 365) (if (gI m 0 2 (ix ((0 : Int32)))) ≤ a2 then
  some m
  else
  bd (sX7_has a1 a2) fun q32 =>
  if q32 = 0 then
  nm (a2 + (1 : Int32)) fun v34 =>
  sX7_slot_b126 n m a1 v34
  else
  bd (sX7_isThrough m a2) fun q35 =>
  if q35.2 = 0 then
  nm (a2 + (1 : Int32)) fun v37 =>
  sX7_slot_b126 n q35.1 a1 v37
  else
  bd (sX7_ends q35.1 a2) fun q38 =>
  nm (a2 + (1 : Int32)) fun v39 =>
  sX7_slot_b126 n q38 a1 v39)
def sX7_slot_b86 (fuel : Nat)   (m : St) (a1 : Int32) (a2 : Int32) : Option (St) := match fuel with
  | 0 => none
  | n + 1 =>
  gd (inb ((0 : Int32)) 365) (if (gI m 0 2 (ix ((0 : Int32)))) ≤ a2 then
  gd (inb ((12 : Int32)) 365) (nm (pI m 0 2 (ix ((12 : Int32))) a1) fun z24 =>
  sX7_slot_b126 FU z24 a1 ((0 : Int32)))
  else
  bd (sX7_has a1 a2) fun q25 =>
  if q25 = 0 then
  nm (a2 + (1 : Int32)) fun v27 =>
  sX7_slot_b86 n m a1 v27
  else
  bd (sX7_hears m a2 a1) fun q28 =>
  nm (a2 + (1 : Int32)) fun v29 =>
  sX7_slot_b86 n q28 a1 v29)
def sX7_slot_b44 (fuel : Nat)   (m : St) (a1 : Int32) : Option (St) := match fuel with
  | 0 => none
  | n + 1 =>
  gd (inb ((0 : Int32)) 365) (if (gI m 0 2 (ix ((0 : Int32)))) ≤ a1 then
  bd (sX7_senders m) fun q14 =>
  bd (sX7_collides m q14) fun q15 =>
  sX7_slot_b86 FU q15 q14 ((0 : Int32))
  else
  bd (sX7_isAt m a1 ((4 : Int32))) fun q16 =>
  if ¬ q16 = 0 then
  nm (a1 + (1 : Int32)) fun v18 =>
  sX7_slot_b44 n m v18
  else
  bd (sX7_pays m a1) fun q19 =>
  nm (a1 + (1 : Int32)) fun v20 =>
  sX7_slot_b44 n q19 v20)
def sX7_slot_b12 (fuel : Nat)   (m : St) (a1 : Int32) : Option (St) := match fuel with
  | 0 => none
  | n + 1 =>
  gd (inb ((0 : Int32)) 365) (if (gI m 0 2 (ix ((0 : Int32)))) ≤ a1 then
  sX7_slot_b44 FU m ((0 : Int32))
  else
  bd (sX7_isAt m a1 ((4 : Int32))) fun q7 =>
  if ¬ q7 = 0 then
  nm (a1 + (1 : Int32)) fun v9 =>
  sX7_slot_b12 n m v9
  else
  bd (sX7_changes m a1) fun q10 =>
  nm (a1 + (1 : Int32)) fun v11 =>
  sX7_slot_b12 n q10 v11)
def sX7_slot  (m : St)  : Option (St) :=
  gd (inb ((1 : Int32)) 365) (nm ((gI m 0 2 (ix ((1 : Int32)))) + ((1 : Int32))) fun v2 =>
  gd (inb ((1 : Int32)) 365) (nm (pI m 0 2 (ix ((1 : Int32))) v2) fun z4 =>
  sX7_slot_b12 FU z4 ((0 : Int32))))
def sX7_runs_b9 (fuel : Nat)   (m : St) (a1 : Int32) (a2 : Int32) (a3 : Int32) : Option (St × Int32) := match fuel with
  | 0 => none
  | n + 1 =>
  if a1 ≤ a3 then
  gd (inb ((4 : Int32)) 365) (some (m, (gI m 0 2 (ix ((4 : Int32)))) - a2))
  else
  bd (sX7_slot m) fun q4 =>
  nm (a3 + (1 : Int32)) fun v5 =>
  sX7_runs_b9 n q4 a1 a2 v5
def sX7_runs  (m : St) (a1 : Int32) : Option (St × Int32) :=
  gd (inb ((4 : Int32)) 365) (sX7_runs_b9 FU m a1 (gI m 0 2 (ix ((4 : Int32)))) ((0 : Int32)))
def sX7_isBeacon  (m : St) (a1 : Int32) : Option (Int32) :=
  gd (inb ((0 : Int32)) 365) (bd (sX7_isIn a1.toInt64 ((0 : Int64)) (((gI m 0 2 (ix ((0 : Int32)))) - ((1 : Int32))).toInt64)) fun q2 =>
  gd (isb q2) (some q2))
def sX7_areBeacons  (m : St) (a1 : Int32) (a2 : Int32) : Option (Int32) :=
  bd (sX7_isBeacon m a1) fun q1 =>
  if q1 = 0 then
  some ((0 : Int32))
  else
  bd (sX7_isBeacon m a2) fun q3 =>
  if q3 = 0 then
  some ((0 : Int32))
  else
  some ((1 : Int32))
def sX7_pairs_b4 (fuel : Nat)   (m : St) (a1 : Int32) (a2 : Int32) : Option (Int32) := match fuel with
  | 0 => none
  | n + 1 =>
  gd (inb ((0 : Int32)) 365) (if (gI m 0 2 (ix ((0 : Int32)))) ≤ a2 then
  some a1
  else
  gd (inb (((13 : Int32)) + a2) 365) (bd (sX7_bits (gI m 0 2 (ix (((13 : Int32)) + a2)))) fun q4 =>
  nm (a2 + (1 : Int32)) fun v5 =>
  sX7_pairs_b4 n m (a1 + q4) v5))
def sX7_pairs  (m : St)  : Option (Int32) :=
  sX7_pairs_b4 FU m ((0 : Int32)) ((0 : Int32))
def sX7_outMany_b4 (fuel : Nat)   (m : St) (a1 : Int32) (a2 : Int32) : Option (Int32) := match fuel with
  | 0 => none
  | n + 1 =>
  gd (inb ((0 : Int32)) 365) (if (gI m 0 2 (ix ((0 : Int32)))) ≤ a2 then
  some a1
  else
  bd (sX7_isAt m a2 ((4 : Int32))) fun q3 =>
  bd (sX7_truth q3) fun q4 =>
  nm (a2 + (1 : Int32)) fun v5 =>
  sX7_outMany_b4 n m (a1 + q4) v5)
def sX7_outMany  (m : St)  : Option (Int32) :=
  sX7_outMany_b4 FU m ((0 : Int32)) ((0 : Int32))
def sX7_setting  (m : St) (a1 : Int32) : Option (St × Int32) :=
  bd (sX7_isIn a1.toInt64 ((0 : Int64)) ((10 : Int64))) fun q1 =>
  bd (sX7_goes m q1) fun q2 =>
  if ¬ q2.2 = 0 then
  if a1 = (0 : Int32) then
  gd (inb ((0 : Int32)) 365) (some (q2.1, gI q2.1 0 2 (ix ((0 : Int32)))))
  else
  if a1 = (1 : Int32) then
  bd (sX7_pairs q2.1) fun q7 =>
  some (q2.1, q7 / ((2 : Int32)))
  else
  if a1 = (2 : Int32) then
  gd (inb ((1 : Int32)) 365) (some (q2.1, gI q2.1 0 2 (ix ((1 : Int32)))))
  else
  if a1 = (3 : Int32) then
  gd (inb ((2 : Int32)) 365) (some (q2.1, gI q2.1 0 2 (ix ((2 : Int32)))))
  else
  if a1 = (4 : Int32) then
  gd (inb ((3 : Int32)) 365) (some (q2.1, gI q2.1 0 2 (ix ((3 : Int32)))))
  else
  if a1 = (5 : Int32) then
  gd (inb ((4 : Int32)) 365) (some (q2.1, gI q2.1 0 2 (ix ((4 : Int32)))))
  else
  if a1 = (6 : Int32) then
  gd (inb ((5 : Int32)) 365) (some (q2.1, gI q2.1 0 2 (ix ((5 : Int32)))))
  else
  if a1 = (7 : Int32) then
  gd (inb ((6 : Int32)) 365) (some (q2.1, gI q2.1 0 2 (ix ((6 : Int32)))))
  else
  if a1 = (8 : Int32) then
  bd (sX7_outMany q2.1) fun q21 =>
  some (q2.1, q21)
  else
  if a1 = (9 : Int32) then
  gd (inb ((7 : Int32)) 365) (some (q2.1, gI q2.1 0 2 (ix ((7 : Int32)))))
  else
  some (q2.1, gI q2.1 0 0 21)
  else
  some (q2.1, (0 : Int32))
def sX7_beacon  (m : St) (a1 : Int32) (a2 : Int32) : Option (St × Int32) :=
  bd (sX7_isBeacon m a1) fun q1 =>
  bd (sX7_isIn a2.toInt64 ((0 : Int64)) ((13 : Int64))) fun q2 =>
  bd (sX7_goesBoth m q1 q2) fun q3 =>
  if ¬ q3.2 = 0 then
  if a2 = (9 : Int32) then
  gd (inb (((13 : Int32)) + a1) 365) (some (q3.1, gI q3.1 0 2 (ix (((13 : Int32)) + a1))))
  else
  if a2 = (10 : Int32) then
  bd (sX7_knownSet q3.1 a1) fun q8 =>
  some (q3.1, q8)
  else
  bd (sX7_of q3.1 a1 a2) fun q9 =>
  some (q3.1, q9)
  else
  some (q3.1, (0 : Int32))
def sX7_slots  (m : St) (a1 : Int32) (a2 : Int32) : Option (St × Int32) :=
  bd (sX7_isBeacon m a1) fun q1 =>
  bd (sX7_isIn a2.toInt64 ((0 : Int64)) ((3 : Int64))) fun q2 =>
  bd (sX7_goesBoth m q1 q2) fun q3 =>
  if q3.2 = 0 then
  some (q3.1, (0 : Int32))
  else
  bd (sX7_of q3.1 a1 (((14 : Int32)) + a2)) fun q5 =>
  some (q3.1, q5)
def sX7_reckoned_b18 (fuel : Nat)   (m : St) (a1 : Int32) (a2 : Int32) (a3 : Int32) : Option (St × Int32) := match fuel with
  | 0 => none
  | n + 1 =>
  if ((4 : Int32)) ≤ a3 then
  some (m, a2)
  else
  bd (sX7_of m a1 (((14 : Int32)) + a3)) fun q5 =>
  gd (inb (((8 : Int32)) + a3) 365) (nm (a2 + (q5 * (gI m 0 2 (ix (((8 : Int32)) + a3))))) fun v7 =>
  nm (a3 + (1 : Int32)) fun v8 =>
  sX7_reckoned_b18 n m a1 v7 v8)
def sX7_reckoned  (m : St) (a1 : Int32) : Option (St × Int32) :=
  bd (sX7_isBeacon m a1) fun q1 =>
  bd (sX7_goes m q1) fun q2 =>
  if ¬ q2.2 = 0 then
  sX7_reckoned_b18 FU q2.1 a1 ((0 : Int32)) ((0 : Int32))
  else
  some (q2.1, (0 : Int32))
def sX7_lettersOf_b4 (fuel : Nat)    (a2 : Int32) (a3 : Int64) : Option (Int32) := match fuel with
  | 0 => none
  | n + 1 =>
  if (lg_cmp a3 ((0 : Int64))) ≤ 0 then
  some a2
  else
  nm (a2 + (1 : Int32)) fun v2 =>
  nm (a3 >>> (((5 : Int32)).toInt64 &&& (63 : Int64))) fun v3 =>
  sX7_lettersOf_b4 n v2 v3
def sX7_lettersOf   (a0 : Int64) : Option (Int32) :=
  sX7_lettersOf_b4 FU ((0 : Int32)) a0
def sX7_letterOf   (a0 : Int64) (a2 : Int32) : Option (Int32) :=
  bd (sX7_lettersOf a0) fun q1 =>
  bd (sX7_isIn a2.toInt64 ((0 : Int64)) ((q1 - ((1 : Int32))).toInt64)) fun q2 =>
  if q2 = 0 then
  some ((0 : Int32))
  else
  some ((((a0 >>> ((((5 : Int32)) * ((q1 - ((1 : Int32))) - a2)).toInt64 &&& (63 : Int64))) &&& ((31 : Int64))).toInt32) + ((96 : Int32)))
def sX7_letter  (m : St) (a1 : Int32) (a2 : Int32) : Option (St × Int32) :=
  bd (sX7_isBeacon m a1) fun q1 =>
  bd (sX7_goes m q1) fun q2 =>
  if q2.2 = 0 then
  some (q2.1, (0 : Int32))
  else
  gd (inb a1 8) (bd (sX7_letterOf (gL q2.1 0 7 (ix a1)) a2) fun q5 =>
  some (q2.1, q5))
def sX7_heard  (m : St) (a1 : Int32) (a2 : Int32) : Option (St × Int32) :=
  bd (sX7_areBeacons m a1 a2) fun q1 =>
  bd (sX7_goes m q1) fun q2 =>
  if q2.2 = 0 then
  some (q2.1, (0 : Int32))
  else
  bd (sX7_of q2.1 a1 (((19 : Int32)) + a2)) fun q4 =>
  some (q2.1, q4)
def sX7_knows  (m : St) (a1 : Int32) (a2 : Int32) : Option (St × Int32) :=
  bd (sX7_areBeacons m a1 a2) fun q1 =>
  bd (sX7_goes m q1) fun q2 =>
  if q2.2 = 0 then
  some (q2.1, (0 : Int32))
  else
  bd (sX7_isKnown q2.1 a1 a2) fun q4 =>
  if q4 = 0 then
  some (q2.1, (0 : Int32))
  else
  some (q2.1, (1 : Int32))
def sX7_why_b64   (m : St) (a1 : Int32) : Option (St × Int32) :=
  gd (inb (((13 : Int32)) + a1) 365) (bd (sX7_senders m) fun q11 =>
  if ((gI m 0 2 (ix (((13 : Int32)) + a1))) &&& q11) = 0 then
  some (m, (5 : Int32))
  else
  some (m, (4 : Int32)))
def sX7_why  (m : St) (a1 : Int32) : Option (St × Int32) :=
  bd (sX7_isBeacon m a1) fun q1 =>
  bd (sX7_goes m q1) fun q2 =>
  if ¬ q2.2 = 0 then
  bd (sX7_of q2.1 a1 ((5 : Int32))) fun q4 =>
  if q4 = (0 : Int32) then
  some (q2.1, (2 : Int32))
  else
  if q4 = (1 : Int32) then
  some (q2.1, (3 : Int32))
  else
  if q4 = (2 : Int32) then
  sX7_why_b64 q2.1 a1
  else
  if q4 = (3 : Int32) then
  some (q2.1, (0 : Int32))
  else
  if q4 = (4 : Int32) then
  some (q2.1, (1 : Int32))
  else
  sX7_why_b64 q2.1 a1
  else
  some (q2.1, (0 : Int32))
def sX7_whyNot  (m : St) (a1 : Int32) (a2 : Int32) : Option (St × Int32) :=
  bd (sX7_areBeacons m a1 a2) fun q1 =>
  bd (sX7_goes m q1) fun q2 =>
  if q2.2 = 0 then
  some (q2.1, (0 : Int32))
  else
  bd (sX7_of q2.1 a1 (((35 : Int32)) + a2)) fun q4 =>
  some (q2.1, q4)
def sX7_dueFor_b2 (fuel : Nat)   (m : St) (a1 : Int32) (a2 : Int32) : Option (Int32) := match fuel with
  | 0 => none
  | n + 1 =>
  gd (inb ((1 : Int32)) 365) (bd (sX7_isDueAt m a1 ((gI m 0 2 (ix ((1 : Int32)))) + a2)) fun q2 =>
  if ¬ q2 = 0 then
  some a2
  else
  nm (a2 + (1 : Int32)) fun v4 =>
  sX7_dueFor_b2 n m a1 v4)
def sX7_dueFor  (m : St) (a1 : Int32) : Option (Int32) :=
  sX7_dueFor_b2 FU m a1 ((1 : Int32))
def sX7_dueIn  (m : St) (a1 : Int32) : Option (St × Int32) :=
  bd (sX7_isBeacon m a1) fun q1 =>
  bd (sX7_goes m q1) fun q2 =>
  if q2.2 = 0 then
  some (q2.1, (0 : Int32))
  else
  bd (sX7_dueFor q2.1 a1) fun q4 =>
  some (q2.1, q4)
def sX7_hidden_b72 (k18 : St → Int32 → Int32 → Int32 → Option (St × Int32)) (k31 : St → Int32 → Int32 → Int32 → Int32 → Option (St × Int32))  (m : St) (a1 : Int32) (a3 : Int32) (a4 : Int32) (s0 : Int32) (s1 : Int32) : Option (St × Int32) :=
  bd (sX7_truth s0) fun q14 =>
  nm (a4 + (1 : Int32)) fun v15 =>
  k31 m a1 (s1 + q14) a3 v15
def sX7_hidden_b31 (fuel : Nat) (k18 : St → Int32 → Int32 → Int32 → Option (St × Int32))  (m : St) (a1 : Int32) (a2 : Int32) (a3 : Int32) (a4 : Int32) : Option (St × Int32) := match fuel with
  | 0 => none
  | n + 1 =>
  if a3 ≤ a4 then
  nm (a3 + (1 : Int32)) fun v7 =>
  k18 m a1 a2 v7
  else
  bd (sX7_areNear m a1 a4) fun q8 =>
  if q8 = 0 then
  sX7_hidden_b72 k18 (fun m' a1' a2' a3' a4' => sX7_hidden_b31 n k18 m' a1' a2' a3' a4') m a1 a3 a4 ((0 : Int32)) a2
  else
  bd (sX7_areNear m a1 a3) fun q10 =>
  if q10 = 0 then
  sX7_hidden_b72 k18 (fun m' a1' a2' a3' a4' => sX7_hidden_b31 n k18 m' a1' a2' a3' a4') m a1 a3 a4 ((0 : Int32)) a2
  else
  bd (sX7_areNear m a4 a3) fun q12 =>
  if ¬ q12 = 0 then
  sX7_hidden_b72 k18 (fun m' a1' a2' a3' a4' => sX7_hidden_b31 n k18 m' a1' a2' a3' a4') m a1 a3 a4 ((0 : Int32)) a2
  else
  sX7_hidden_b72 k18 (fun m' a1' a2' a3' a4' => sX7_hidden_b31 n k18 m' a1' a2' a3' a4') m a1 a3 a4 ((1 : Int32)) a2
def sX7_hidden_b18 (fuel : Nat)   (m : St) (a1 : Int32) (a2 : Int32) (a3 : Int32) : Option (St × Int32) := match fuel with
  | 0 => none
  | n + 1 =>
  gd (inb ((0 : Int32)) 365) (if (gI m 0 2 (ix ((0 : Int32)))) ≤ a3 then
  some (m, a2)
  else
  sX7_hidden_b31 FU (fun m' a1' a2' a3' => sX7_hidden_b18 n m' a1' a2' a3') m a1 a2 a3 ((0 : Int32)))
def sX7_hidden  (m : St) (a1 : Int32) : Option (St × Int32) :=
  bd (sX7_isBeacon m a1) fun q1 =>
  bd (sX7_goes m q1) fun q2 =>
  if ¬ q2.2 = 0 then
  sX7_hidden_b18 FU q2.1 a1 ((0 : Int32)) ((0 : Int32))
  else
  some (q2.1, (0 : Int32))
def sX7_spread_b4 (fuel : Nat)   (m : St) (a1 : Int32) (a2 : Int32) (a3 : Int32) : Option (Int32) := match fuel with
  | 0 => none
  | n + 1 =>
  gd (inb ((0 : Int32)) 365) (if (gI m 0 2 (ix ((0 : Int32)))) ≤ a3 then
  some a2
  else
  bd (sX7_has a1 a3) fun q3 =>
  if q3 = 0 then
  nm (a3 + (1 : Int32)) fun v5 =>
  sX7_spread_b4 n m a1 a2 v5
  else
  gd (inb (((13 : Int32)) + a3) 365) (nm (a2 ||| (gI m 0 2 (ix (((13 : Int32)) + a3)))) fun v7 =>
  nm (a3 + (1 : Int32)) fun v8 =>
  sX7_spread_b4 n m a1 v7 v8))
def sX7_spread  (m : St) (a1 : Int32) : Option (Int32) :=
  sX7_spread_b4 FU m a1 a1 ((0 : Int32))
def sX7_hops_b22 (fuel : Nat)   (m : St) (a2 : Int32) (a3 : Int32) (a4 : Int32) : Option (St × Int32) := match fuel with
  | 0 => none
  | n + 1 =>
  if ((8 : Int32)) ≤ a4 then
  some (m, (-1 : Int32))
  else
  bd (sX7_has a3 a2) fun q6 =>
  if q6 = 0 then
  bd (sX7_spread m a3) fun q8 =>
  nm (a4 + (1 : Int32)) fun v9 =>
  sX7_hops_b22 n m a2 q8 v9
  else
  some (m, a4)
def sX7_hops  (m : St) (a1 : Int32) (a2 : Int32) : Option (St × Int32) :=
  bd (sX7_areBeacons m a1 a2) fun q1 =>
  bd (sX7_goes m q1) fun q2 =>
  if ¬ q2.2 = 0 then
  nm (((1 : Int32)) <<< (a1 &&& (31 : Int32))) fun v4 =>
  sX7_hops_b22 FU q2.1 a2 v4 ((0 : Int32))
  else
  some (q2.1, (0 : Int32))
def sX7_groupOf_b6 (fuel : Nat)   (m : St) (a2 : Int32) (a3 : Int32) : Option (Int32) := match fuel with
  | 0 => none
  | n + 1 =>
  if ((8 : Int32)) ≤ a3 then
  some a2
  else
  bd (sX7_spread m a2) fun q3 =>
  nm (a3 + (1 : Int32)) fun v4 =>
  sX7_groupOf_b6 n m q3 v4
def sX7_groupOf  (m : St) (a1 : Int32) : Option (Int32) :=
  nm (((1 : Int32)) <<< (a1 &&& (31 : Int32))) fun v1 =>
  sX7_groupOf_b6 FU m v1 ((0 : Int32))
def sX7_groups_b35 (k11 : St → Int32 → Int32 → Int32 → Option (St × Int32))  (m : St) (a1 : Int32) (a3 : Int32) (s0 : Int32) (s1 : Int32) : Option (St × Int32) :=
  bd (sX7_truth s0) fun q6 =>
  bd (sX7_groupOf m a3) fun q7 =>
  nm (a3 + (1 : Int32)) fun v8 =>
  k11 m (a1 ||| q7) (s1 + q6) v8
def sX7_groups_b11 (fuel : Nat)   (m : St) (a1 : Int32) (a2 : Int32) (a3 : Int32) : Option (St × Int32) := match fuel with
  | 0 => none
  | n + 1 =>
  gd (inb ((0 : Int32)) 365) (if (gI m 0 2 (ix ((0 : Int32)))) ≤ a3 then
  some (m, a2)
  else
  bd (sX7_has a1 a3) fun q4 =>
  if ¬ q4 = 0 then
  sX7_groups_b35 (fun m' a1' a2' a3' => sX7_groups_b11 n m' a1' a2' a3') m a1 a3 ((0 : Int32)) a2
  else
  sX7_groups_b35 (fun m' a1' a2' a3' => sX7_groups_b11 n m' a1' a2' a3') m a1 a3 ((1 : Int32)) a2)
def sX7_groups  (m : St)  : Option (St × Int32) :=
  nm (pI m 0 0 0 ((0 : Int32))) fun z1 =>
  sX7_groups_b11 FU z1 ((0 : Int32)) ((0 : Int32)) ((0 : Int32))
def sX7_ears_b71 (k30 : St → Int32 → Int32 → Int32 → Int32 → Option (St × Int32))  (m : St) (a1 : Int32) (a2 : Int32) (a3 : Int32) (a4 : Int32) (s0 : Int32) : Option (St × Int32) :=
  if s0 = 0 then
  nm (a4 + (1 : Int32)) fun v14 =>
  k30 m a1 a2 (a3 ||| ((0 : Int32))) v14
  else
  gd (inb (((13 : Int32)) + a4) 365) (if ¬ ((gI m 0 2 (ix (((13 : Int32)) + a4))) &&& a2) = 0 then
  nm (a4 + (1 : Int32)) fun v17 =>
  k30 m a1 a2 (a3 ||| ((0 : Int32))) v17
  else
  nm (a3 ||| (((1 : Int32)) <<< (a4 &&& (31 : Int32)))) fun v18 =>
  nm (a4 + (1 : Int32)) fun v19 =>
  k30 m a1 a2 v18 v19)
def sX7_ears_b30 (fuel : Nat)   (m : St) (a1 : Int32) (a2 : Int32) (a3 : Int32) (a4 : Int32) : Option (St × Int32) := match fuel with
  | 0 => none
  | n + 1 =>
  gd (inb ((0 : Int32)) 365) (if (gI m 0 2 (ix ((0 : Int32)))) ≤ a4 then
  some (m, a3)
  else
  if a4 = a1 then
  sX7_ears_b71 (fun m' a1' a2' a3' a4' => sX7_ears_b30 n m' a1' a2' a3' a4') m a1 a2 a3 a4 ((0 : Int32))
  else
  bd (sX7_areNear m a1 a4) fun q9 =>
  if q9 = 0 then
  sX7_ears_b71 (fun m' a1' a2' a3' a4' => sX7_ears_b30 n m' a1' a2' a3' a4') m a1 a2 a3 a4 ((0 : Int32))
  else
  bd (sX7_hasEars m a4) fun q11 =>
  if q11 = 0 then
  sX7_ears_b71 (fun m' a1' a2' a3' a4' => sX7_ears_b30 n m' a1' a2' a3' a4') m a1 a2 a3 a4 ((0 : Int32))
  else
  sX7_ears_b71 (fun m' a1' a2' a3' a4' => sX7_ears_b30 n m' a1' a2' a3' a4') m a1 a2 a3 a4 ((1 : Int32)))
def sX7_ears  (m : St) (a1 : Int32) : Option (St × Int32) :=
  bd (sX7_isBeacon m a1) fun q1 =>
  bd (sX7_goes m q1) fun q2 =>
  if ¬ q2.2 = 0 then
  bd (sX7_senders q2.1) fun q4 =>
  nm (q4 &&& ((((1 : Int32)) <<< (a1 &&& (31 : Int32))) ^^^ ((-1 : Int32)))) fun v5 =>
  sX7_ears_b30 FU q2.1 a1 v5 ((0 : Int32)) ((0 : Int32))
  else
  some (q2.1, (0 : Int32))
def sX7_earliest_b9 (fuel : Nat)   (m : St) (a1 : Int32) (a2 : Int32) : Option (St × Int32) := match fuel with
  | 0 => none
  | n + 1 =>
  gd (inb ((0 : Int32)) 365) (if (gI m 0 2 (ix ((0 : Int32)))) ≤ a2 then
  some (m, a1)
  else
  if a1 = ((-1 : Int32)) then
  nm (a2 + (1 : Int32)) fun v5 =>
  sX7_earliest_b9 n m a2 v5
  else
  bd (sX7_dueFor m a2) fun q6 =>
  bd (sX7_dueFor m a1) fun q7 =>
  if q7 ≤ q6 then
  nm (a2 + (1 : Int32)) fun v9 =>
  sX7_earliest_b9 n m a1 v9
  else
  nm (a2 + (1 : Int32)) fun v10 =>
  sX7_earliest_b9 n m a2 v10)
def sX7_earliest  (m : St)  : Option (St × Int32) :=
  nm (pI m 0 0 0 ((0 : Int32))) fun z1 =>
  sX7_earliest_b9 FU z1 ((-1 : Int32)) ((0 : Int32))
def sX7_window  (m : St) (a1 : Int32) : Option (St × Int32) :=
  bd (sX7_isBeacon m a1) fun q1 =>
  bd (sX7_goes m q1) fun q2 =>
  if q2.2 = 0 then
  some (q2.1, (0 : Int32))
  else
  bd (sX7_windowOf q2.1 a1) fun q4 =>
  some (q2.1, q4)
def sX7_leaves  (m : St)  : Option (St) :=
  bd (sX7_copiesRow 2 5 m ((0 : Int32)) ((0 : Int32))) fun q1 =>
  some q1
def sX7_comesBack  (m : St) (a1 : Int32) : Option (St × Int32) :=
  bd (sX7_copiesRow 5 2 m ((0 : Int32)) ((0 : Int32))) fun q1 =>
  some (q1, a1)
def sX7_areSlots   (a0 : Int32) : Option (Int32) :=
  bd (sX7_isIn a0.toInt64 ((0 : Int64)) ((200 : Int64))) fun q1 =>
  gd (isb q1) (some q1)
def sX7_cellIn  (m : St) (a1 : Int32) (a2 : Int32) (a3 : Int32) : Option (St × Int32) :=
  bd (sX7_leaves m) fun q1 =>
  bd (sX7_runs q1 a3) fun q2 =>
  bd (sX7_of q2.1 a1 a2) fun q3 =>
  bd (sX7_comesBack q2.1 q3) fun q4 =>
  some (q4.1, q4.2)
def sX7_stateIn  (m : St) (a1 : Int32) (a2 : Int32) : Option (St × Int32) :=
  bd (sX7_isBeacon m a1) fun q1 =>
  bd (sX7_areSlots a2) fun q2 =>
  bd (sX7_goesBoth m q1 q2) fun q3 =>
  if q3.2 = 0 then
  some (q3.1, (0 : Int32))
  else
  bd (sX7_cellIn q3.1 a1 ((5 : Int32)) a2) fun q5 =>
  some (q5.1, q5.2)
def sX7_energyIn  (m : St) (a1 : Int32) (a2 : Int32) : Option (St × Int32) :=
  bd (sX7_isBeacon m a1) fun q1 =>
  bd (sX7_areSlots a2) fun q2 =>
  bd (sX7_goesBoth m q1 q2) fun q3 =>
  if q3.2 = 0 then
  some (q3.1, (0 : Int32))
  else
  bd (sX7_cellIn q3.1 a1 ((4 : Int32)) a2) fun q5 =>
  some (q5.1, q5.2)
def sX7_collisionsBy  (m : St) (a1 : Int32) : Option (St × Int32) :=
  gd (inb ((6 : Int32)) 365) (bd (sX7_runs m a1) fun q2 =>
  gd (inb ((6 : Int32)) 365) (some (q2.1, (gI q2.1 0 2 (ix ((6 : Int32)))) - (gI m 0 2 (ix ((6 : Int32)))))))
def sX7_collisionsIn  (m : St) (a1 : Int32) : Option (St × Int32) :=
  bd (sX7_areSlots a1) fun q1 =>
  bd (sX7_goes m q1) fun q2 =>
  if ¬ q2.2 = 0 then
  bd (sX7_leaves q2.1) fun q4 =>
  bd (sX7_collisionsBy q4 a1) fun q5 =>
  bd (sX7_comesBack q5.1 q5.2) fun q6 =>
  some (q6.1, q6.2)
  else
  some (q2.1, (0 : Int32))
def sX7_knowsIn_b62   (m : St) (s0 : Int32) : Option (St × Int32) :=
  bd (sX7_comesBack m s0) fun q12 =>
  some (q12.1, q12.2)
def sX7_knowsIn_b47   (m : St) (a1 : Int32) (a2 : Int32) (a3 : Int32) : Option (St × Int32) :=
  bd (sX7_isKnown m a1 a2) fun q10 =>
  if q10 = 0 then
  sX7_knowsIn_b62 m ((-1 : Int32))
  else
  sX7_knowsIn_b62 m a3
def sX7_knowsIn_b21 (fuel : Nat)   (m : St) (a1 : Int32) (a2 : Int32) (a3 : Int32) : Option (St × Int32) := match fuel with
  | 0 => none
  | n + 1 =>
  if ((300 : Int32)) ≤ a3 then
  sX7_knowsIn_b47 m a1 a2 a3
  else
  bd (sX7_isKnown m a1 a2) fun q6 =>
  if ¬ q6 = 0 then
  sX7_knowsIn_b47 m a1 a2 a3
  else
  bd (sX7_slot m) fun q8 =>
  nm (a3 + (1 : Int32)) fun v9 =>
  sX7_knowsIn_b21 n q8 a1 a2 v9
def sX7_knowsIn  (m : St) (a1 : Int32) (a2 : Int32) : Option (St × Int32) :=
  bd (sX7_areBeacons m a1 a2) fun q1 =>
  bd (sX7_goes m q1) fun q2 =>
  if ¬ q2.2 = 0 then
  bd (sX7_leaves q2.1) fun q4 =>
  sX7_knowsIn_b21 FU q4 a1 a2 ((0 : Int32))
  else
  some (q2.1, (0 : Int32))
def sX7_allKnow_b4 (fuel : Nat)   (m : St) (a1 : Int32) (a2 : Int32) : Option (Int32) := match fuel with
  | 0 => none
  | n + 1 =>
  gd (inb ((0 : Int32)) 365) (if (gI m 0 2 (ix ((0 : Int32)))) ≤ a2 then
  gd (isb a1) (some a1)
  else
  if a1 = 0 then
  nm (a2 + (1 : Int32)) fun v5 =>
  sX7_allKnow_b4 n m ((0 : Int32)) v5
  else
  bd (sX7_knowsAll m a2) fun q6 =>
  if q6 = 0 then
  nm (a2 + (1 : Int32)) fun v8 =>
  sX7_allKnow_b4 n m ((0 : Int32)) v8
  else
  nm (a2 + (1 : Int32)) fun v9 =>
  sX7_allKnow_b4 n m ((1 : Int32)) v9)
def sX7_allKnow  (m : St)  : Option (Int32) :=
  sX7_allKnow_b4 FU m ((1 : Int32)) ((0 : Int32))
def sX7_allKnownIn_b48   (m : St) (s0 : Int32) : Option (St × Int32) :=
  bd (sX7_comesBack m s0) fun q10 =>
  some (q10.1, q10.2)
def sX7_allKnownIn_b35   (m : St) (a1 : Int32) : Option (St × Int32) :=
  bd (sX7_allKnow m) fun q8 =>
  if q8 = 0 then
  sX7_allKnownIn_b48 m ((-1 : Int32))
  else
  sX7_allKnownIn_b48 m a1
def sX7_allKnownIn_b11 (fuel : Nat)   (m : St) (a1 : Int32) : Option (St × Int32) := match fuel with
  | 0 => none
  | n + 1 =>
  if ((300 : Int32)) ≤ a1 then
  sX7_allKnownIn_b35 m a1
  else
  bd (sX7_allKnow m) fun q4 =>
  if ¬ q4 = 0 then
  sX7_allKnownIn_b35 m a1
  else
  bd (sX7_slot m) fun q6 =>
  nm (a1 + (1 : Int32)) fun v7 =>
  sX7_allKnownIn_b11 n q6 v7
def sX7_allKnownIn  (m : St)  : Option (St × Int32) :=
  nm (pI m 0 0 0 ((0 : Int32))) fun z1 =>
  bd (sX7_leaves z1) fun q2 =>
  sX7_allKnownIn_b11 FU q2 ((0 : Int32))
def sX7_stateWithin_b47   (m : St) (s0 : Int32) : Option (St × Int32) :=
  bd (sX7_comesBack m s0) fun q9 =>
  some (q9.1, q9.2)
def sX7_stateWithin_b32   (m : St) (a1 : Int32) (a2 : Int32) (a3 : Int32) : Option (St × Int32) :=
  bd (sX7_isAt m a1 a2) fun q7 =>
  if q7 = 0 then
  sX7_stateWithin_b47 m ((-1 : Int32))
  else
  sX7_stateWithin_b47 m a3
def sX7_stateWithin_b6 (fuel : Nat)   (m : St) (a1 : Int32) (a2 : Int32) (a3 : Int32) : Option (St × Int32) := match fuel with
  | 0 => none
  | n + 1 =>
  if ((300 : Int32)) ≤ a3 then
  sX7_stateWithin_b32 m a1 a2 a3
  else
  bd (sX7_isAt m a1 a2) fun q3 =>
  if ¬ q3 = 0 then
  sX7_stateWithin_b32 m a1 a2 a3
  else
  bd (sX7_slot m) fun q5 =>
  nm (a3 + (1 : Int32)) fun v6 =>
  sX7_stateWithin_b6 n q5 a1 a2 v6
def sX7_stateWithin  (m : St) (a1 : Int32) (a2 : Int32) : Option (St × Int32) :=
  bd (sX7_leaves m) fun q1 =>
  sX7_stateWithin_b6 FU q1 a1 a2 ((0 : Int32))
def sX7_outIn  (m : St) (a1 : Int32) : Option (St × Int32) :=
  bd (sX7_isBeacon m a1) fun q1 =>
  bd (sX7_goes m q1) fun q2 =>
  if q2.2 = 0 then
  some (q2.1, (0 : Int32))
  else
  bd (sX7_stateWithin q2.1 a1 ((4 : Int32))) fun q4 =>
  some (q4.1, q4.2)
def sX7_sendsIn_b31 (fuel : Nat)   (m : St) (a1 : Int32) (a2 : Int32) : Option (St × Int32) := match fuel with
  | 0 => none
  | n + 1 =>
  if ((300 : Int32)) < a2 then
  bd (sX7_comesBack m ((-1 : Int32))) fun q8 =>
  some (q8.1, q8.2)
  else
  bd (sX7_slot m) fun q9 =>
  gd (inb ((12 : Int32)) 365) (bd (sX7_has (gI q9 0 2 (ix ((12 : Int32)))) a1) fun q11 =>
  if q11 = 0 then
  nm (a2 + (1 : Int32)) fun v13 =>
  sX7_sendsIn_b31 n q9 a1 v13
  else
  bd (sX7_comesBack q9 a2) fun q14 =>
  some (q14.1, q14.2))
def sX7_sendsIn  (m : St) (a1 : Int32) : Option (St × Int32) :=
  bd (sX7_isBeacon m a1) fun q1 =>
  bd (sX7_goes m q1) fun q2 =>
  if ¬ q2.2 = 0 then
  bd (sX7_isAt q2.1 a1 ((3 : Int32))) fun q4 =>
  if q4 = 0 then
  bd (sX7_leaves q2.1) fun q6 =>
  sX7_sendsIn_b31 FU q6 a1 ((1 : Int32))
  else
  some (q2.1, (0 : Int32))
  else
  some (q2.1, (0 : Int32))
def sX7_wellIn_b28 (fuel : Nat)   (m : St) (a1 : Int32) (a2 : Int32) (a3 : Int32) : Option (St × Int32) := match fuel with
  | 0 => none
  | n + 1 =>
  if ((300 : Int32)) < a3 then
  bd (sX7_comesBack m ((-1 : Int32))) fun q7 =>
  some (q7.1, q7.2)
  else
  bd (sX7_slot m) fun q8 =>
  bd (sX7_of q8 a1 ((11 : Int32))) fun q9 =>
  if q9 ≤ a2 then
  nm (a3 + (1 : Int32)) fun v11 =>
  sX7_wellIn_b28 n q8 a1 a2 v11
  else
  bd (sX7_comesBack q8 a3) fun q12 =>
  some (q12.1, q12.2)
def sX7_wellIn  (m : St) (a1 : Int32) : Option (St × Int32) :=
  bd (sX7_isBeacon m a1) fun q1 =>
  bd (sX7_goes m q1) fun q2 =>
  if ¬ q2.2 = 0 then
  bd (sX7_leaves q2.1) fun q4 =>
  bd (sX7_of q4 a1 ((11 : Int32))) fun q5 =>
  sX7_wellIn_b28 FU q4 a1 q5 ((1 : Int32))
  else
  some (q2.1, (0 : Int32))
def sX7_byFirst  (m : St) (a1 : Int32) (a2 : Int32) : Option (St × Int32) :=
  bd (sX7_leaves m) fun q1 =>
  bd (sX7_sets q1 a1 ((1 : Int32)) a2) fun q2 =>
  bd (sX7_collisionsBy q2 ((100 : Int32))) fun q3 =>
  bd (sX7_comesBack q3.1 q3.2) fun q4 =>
  some (q4.1, q4.2)
def sX7_bestAt_b26 (fuel : Nat)   (m : St) (a1 : Int32) (a2 : Int32) (a3 : Int32) (a4 : Int32) : Option (St × Int32) := match fuel with
  | 0 => none
  | n + 1 =>
  bd (sX7_of m a1 ((0 : Int32))) fun q5 =>
  if q5 ≤ a4 then
  some (m, a2)
  else
  bd (sX7_byFirst m a1 a4) fun q7 =>
  if q7.2 < a3 then
  nm (a4 + (1 : Int32)) fun v9 =>
  sX7_bestAt_b26 n q7.1 a1 a4 q7.2 v9
  else
  nm (a4 + (1 : Int32)) fun v10 =>
  sX7_bestAt_b26 n q7.1 a1 a2 a3 v10
def sX7_bestAt  (m : St) (a1 : Int32) : Option (St × Int32) :=
  bd (sX7_isBeacon m a1) fun q1 =>
  bd (sX7_goes m q1) fun q2 =>
  if ¬ q2.2 = 0 then
  bd (sX7_byFirst q2.1 a1 ((0 : Int32))) fun q4 =>
  sX7_bestAt_b26 FU q4.1 a1 ((0 : Int32)) q4.2 ((1 : Int32))
  else
  some (q2.1, (0 : Int32))
def sX7_byPeriod  (m : St) (a1 : Int32) (a2 : Int32) : Option (St × Int32) :=
  bd (sX7_leaves m) fun q1 =>
  bd (sX7_sets q1 a1 ((0 : Int32)) a2) fun q2 =>
  bd (sX7_runs q2 ((100 : Int32))) fun q3 =>
  bd (sX7_comesBack q3.1 q3.2) fun q4 =>
  some (q4.1, q4.2)
def sX7_bestEvery_b32 (fuel : Nat)   (m : St) (a1 : Int32) (a2 : Int32) (a3 : Int32) (a4 : Int32) : Option (St × Int32) := match fuel with
  | 0 => none
  | n + 1 =>
  if ((100 : Int32)) ≤ a4 then
  some (m, a2)
  else
  bd (sX7_byPeriod m a1 a4) fun q7 =>
  if a3 ≤ q7.2 then
  nm (a4 + (1 : Int32)) fun v9 =>
  sX7_bestEvery_b32 n q7.1 a1 a4 q7.2 v9
  else
  nm (a4 + (1 : Int32)) fun v10 =>
  sX7_bestEvery_b32 n q7.1 a1 a2 a3 v10
def sX7_bestEvery  (m : St) (a1 : Int32) : Option (St × Int32) :=
  bd (sX7_isBeacon m a1) fun q1 =>
  bd (sX7_goes m q1) fun q2 =>
  if ¬ q2.2 = 0 then
  bd (sX7_of q2.1 a1 ((1 : Int32))) fun q4 =>
  bd (sX7_greater ((2 : Int32)) (q4 + ((1 : Int32)))) fun q5 =>
  sX7_bestEvery_b32 FU q2.1 a1 ((-1 : Int32)) ((-1 : Int32)) q5
  else
  some (q2.1, (0 : Int32))
def sX7_mayRun  (m : St) (a1 : Int32) : Option (Int32) :=
  gd (inb ((1 : Int32)) 365) (if ((99999 : Int32)) < ((gI m 0 2 (ix ((1 : Int32)))) + a1) then
  some ((0 : Int32))
  else
  some ((1 : Int32)))
def sX7_areMany   (a0 : Int32) : Option (Int32) :=
  bd (sX7_isIn a0.toInt64 ((1 : Int64)) ((99 : Int64))) fun q1 =>
  gd (isb q1) (some q1)
def sX7_run_b24   (m : St) (a1 : Int32) (s0 : Int32) (s1 : Int32) : Option (St × Int32) :=
  bd (sX7_goesBoth m s1 s0) fun q5 =>
  if ¬ q5.2 = 0 then
  bd (sX7_laysAside q5.1) fun q7 =>
  bd (sX7_runs q7 a1) fun q8 =>
  bd (sX7_kept q8.1 q8.2) fun q9 =>
  some (q9.1, q9.2)
  else
  some (q5.1, (0 : Int32))
def sX7_run  (m : St) (a1 : Int32) : Option (St × Int32) :=
  bd (sX7_areMany a1) fun q1 =>
  if q1 = 0 then
  sX7_run_b24 m a1 ((0 : Int32)) q1
  else
  bd (sX7_mayRun m a1) fun q3 =>
  if q3 = 0 then
  sX7_run_b24 m a1 ((0 : Int32)) q1
  else
  sX7_run_b24 m a1 ((1 : Int32)) q1
def sX7_awakens  (m : St) (a1 : Int32) : Option (St × Int32) :=
  bd (sX7_listens m a1) fun q1 =>
  gd (inb ((1 : Int32)) 365) (some (q1, gI q1 0 2 (ix ((1 : Int32)))))
def sX7_wake_b26   (m : St) (a1 : Int32) (s0 : Int32) (s1 : Int32) : Option (St × Int32) :=
  bd (sX7_goesBoth m s1 s0) fun q5 =>
  if ¬ q5.2 = 0 then
  bd (sX7_laysAside q5.1) fun q7 =>
  bd (sX7_awakens q7 a1) fun q8 =>
  bd (sX7_kept q8.1 q8.2) fun q9 =>
  some (q9.1, q9.2)
  else
  some (q5.1, (0 : Int32))
def sX7_wake  (m : St) (a1 : Int32) : Option (St × Int32) :=
  bd (sX7_isBeacon m a1) fun q1 =>
  if q1 = 0 then
  sX7_wake_b26 m a1 ((0 : Int32)) q1
  else
  bd (sX7_isAt m a1 ((0 : Int32))) fun q3 =>
  if q3 = 0 then
  sX7_wake_b26 m a1 ((0 : Int32)) q1
  else
  sX7_wake_b26 m a1 ((1 : Int32)) q1
def sX7_swapsCell  (m : St) (a1 : Int32) (a2 : Int32) : Option (St × Int32) :=
  gd (inb a1 365) (gd (inb a1 365) (nm (pI m 0 2 (ix a1) a2) fun z3 =>
  some (z3, gI m 0 2 (ix a1))))
def sX7_isPeriod  (m : St) (a1 : Int32) (a2 : Int32) : Option (Int32) :=
  bd (sX7_isIn a2.toInt64 ((2 : Int64)) ((99 : Int64))) fun q1 =>
  if q1 = 0 then
  some ((0 : Int32))
  else
  bd (sX7_of m a1 ((1 : Int32))) fun q3 =>
  if a2 ≤ q3 then
  some ((0 : Int32))
  else
  some ((1 : Int32))
def sX7_isFirst  (m : St) (a1 : Int32) (a2 : Int32) : Option (Int32) :=
  bd (sX7_of m a1 ((0 : Int32))) fun q1 =>
  bd (sX7_isIn a2.toInt64 ((0 : Int64)) ((q1 - ((1 : Int32))).toInt64)) fun q2 =>
  gd (isb q2) (some q2)
def sX7_setEvery_b26   (m : St) (a1 : Int32) (a2 : Int32) (s0 : Int32) (s1 : Int32) : Option (St × Int32) :=
  bd (sX7_goesBoth m s1 s0) fun q5 =>
  if ¬ q5.2 = 0 then
  bd (sX7_laysAside q5.1) fun q7 =>
  bd (sX7_cellOf a1 ((0 : Int32))) fun q8 =>
  bd (sX7_swapsCell q7 q8 a2) fun q9 =>
  bd (sX7_kept q9.1 q9.2) fun q10 =>
  some (q10.1, q10.2)
  else
  some (q5.1, (0 : Int32))
def sX7_setEvery  (m : St) (a1 : Int32) (a2 : Int32) : Option (St × Int32) :=
  bd (sX7_isBeacon m a1) fun q1 =>
  if q1 = 0 then
  sX7_setEvery_b26 m a1 a2 ((0 : Int32)) q1
  else
  bd (sX7_isPeriod m a1 a2) fun q3 =>
  if q3 = 0 then
  sX7_setEvery_b26 m a1 a2 ((0 : Int32)) q1
  else
  sX7_setEvery_b26 m a1 a2 ((1 : Int32)) q1
def sX7_setAt_b26   (m : St) (a1 : Int32) (a2 : Int32) (s0 : Int32) (s1 : Int32) : Option (St × Int32) :=
  bd (sX7_goesBoth m s1 s0) fun q5 =>
  if ¬ q5.2 = 0 then
  bd (sX7_laysAside q5.1) fun q7 =>
  bd (sX7_cellOf a1 ((1 : Int32))) fun q8 =>
  bd (sX7_swapsCell q7 q8 a2) fun q9 =>
  bd (sX7_kept q9.1 q9.2) fun q10 =>
  some (q10.1, q10.2)
  else
  some (q5.1, (0 : Int32))
def sX7_setAt  (m : St) (a1 : Int32) (a2 : Int32) : Option (St × Int32) :=
  bd (sX7_isBeacon m a1) fun q1 =>
  if q1 = 0 then
  sX7_setAt_b26 m a1 a2 ((0 : Int32)) q1
  else
  bd (sX7_isFirst m a1 a2) fun q3 =>
  if q3 = 0 then
  sX7_setAt_b26 m a1 a2 ((0 : Int32)) q1
  else
  sX7_setAt_b26 m a1 a2 ((1 : Int32)) q1
def sX7_isBy   (a0 : Int32) : Option (Int32) :=
  bd (sX7_isIn a0.toInt64 ((1 : Int64)) ((999 : Int64))) fun q1 =>
  gd (isb q1) (some q1)
def sX7_charges_b24   (m : St) (a1 : Int32) (a2 : Int32) : Option (St × Int32) :=
  bd (sX7_of m a1 ((4 : Int32))) fun q5 =>
  bd (sX7_lesser ((9999 : Int32)) (q5 + a2)) fun q6 =>
  bd (sX7_sets m a1 ((4 : Int32)) q6) fun q7 =>
  bd (sX7_of q7 a1 ((4 : Int32))) fun q8 =>
  some (q7, q8)
def sX7_charges  (m : St) (a1 : Int32) (a2 : Int32) : Option (St × Int32) :=
  bd (sX7_isAt m a1 ((4 : Int32))) fun q1 =>
  if q1 = 0 then
  sX7_charges_b24 m a1 a2
  else
  bd (sX7_sets m a1 ((7 : Int32)) ((0 : Int32))) fun q3 =>
  bd (sX7_enters q3 a1 ((0 : Int32)) ((0 : Int32))) fun q4 =>
  sX7_charges_b24 q4 a1 a2
def sX7_charge  (m : St) (a1 : Int32) (a2 : Int32) : Option (St × Int32) :=
  bd (sX7_isBeacon m a1) fun q1 =>
  bd (sX7_isBy a2) fun q2 =>
  bd (sX7_goesBoth m q1 q2) fun q3 =>
  if ¬ q3.2 = 0 then
  bd (sX7_laysAside q3.1) fun q5 =>
  bd (sX7_charges q5 a1 a2) fun q6 =>
  bd (sX7_kept q6.1 q6.2) fun q7 =>
  some (q7.1, q7.2)
  else
  some (q3.1, (0 : Int32))
def sX7_setNear_b17   (m : St) (a1 : Int32) (a2 : Int32) (a3 : Int32) (s0 : Int32) (s1 : Int32) : Option (St × Int32) :=
  bd (sX7_goesBoth m s1 s0) fun q3 =>
  if q3.2 = 0 then
  some (q3.1, (0 : Int32))
  else
  bd (sX7_areNear q3.1 a1 a2) fun q5 =>
  if ¬ q5 = a3 then
  bd (sX7_laysAside q3.1) fun q7 =>
  bd (sX7_nears q7 a1 a2 a3) fun q8 =>
  bd (sX7_keeps q8) fun q9 =>
  some (q9, (1 : Int32))
  else
  some (q3.1, (0 : Int32))
def sX7_setNear  (m : St) (a1 : Int32) (a2 : Int32) (a3 : Int32) : Option (St × Int32) :=
  bd (sX7_areBeacons m a1 a2) fun q1 =>
  if a1 = a2 then
  sX7_setNear_b17 m a1 a2 a3 ((0 : Int32)) q1
  else
  sX7_setNear_b17 m a1 a2 a3 ((1 : Int32)) q1
def sX7_setTries  (m : St) (a1 : Int32) : Option (St × Int32) :=
  bd (sX7_isIn a1.toInt64 ((1 : Int64)) ((9 : Int64))) fun q1 =>
  bd (sX7_goes m q1) fun q2 =>
  if ¬ q2.2 = 0 then
  bd (sX7_laysAside q2.1) fun q4 =>
  bd (sX7_swapsCell q4 ((2 : Int32)) a1) fun q5 =>
  bd (sX7_kept q5.1 q5.2) fun q6 =>
  some (q6.1, q6.2)
  else
  some (q2.1, (0 : Int32))
def sX7_commandHere  (m : St)  : Option (Int32) :=
  bd (sX7_isWord m ((19118 : Int64))) fun q1 =>
  if q1 = 0 then
  bd (sX7_isWord m ((755045 : Int64))) fun q3 =>
  if q3 = 0 then
  bd (sX7_isWord m ((5969497 : Int64))) fun q5 =>
  if q5 = 0 then
  bd (sX7_isWord m ((52 : Int64))) fun q7 =>
  if q7 = 0 then
  bd (sX7_isWord m ((109103333 : Int64))) fun q9 =>
  if q9 = 0 then
  bd (sX7_isWord m ((463922 : Int64))) fun q11 =>
  if q11 = 0 then
  bd (sX7_isWord m ((6194 : Int64))) fun q13 =>
  if q13 = 0 then
  bd (sX7_isWord m ((609752116 : Int64))) fun q15 =>
  if q15 = 0 then
  some ((-1 : Int32))
  else
  some ((7 : Int32))
  else
  some ((6 : Int32))
  else
  some ((5 : Int32))
  else
  some ((4 : Int32))
  else
  some ((3 : Int32))
  else
  some ((2 : Int32))
  else
  some ((1 : Int32))
  else
  some ((0 : Int32))
def sX7_any  (m : St)  : Option (St × Int32) :=
  bd (sX7_number m ((0 : Int32)) ((999 : Int32))) fun q1 =>
  some (q1.1, q1.2)
def sX7_otherTold_b24   (m : St)  : Option (St × Int32) :=
  bd (sX7_told m) fun q7 =>
  some (q7.1, q7.2)
def sX7_otherTold  (m : St) (a1 : Int32) : Option (St × Int32) :=
  bd (sX7_mustBeWord m) fun q1 =>
  bd (sX7_isGood q1) fun q2 =>
  if q2 = 0 then
  sX7_otherTold_b24 q1
  else
  bd (sX7_named q1) fun q4 =>
  if ¬ q4 = a1 then
  sX7_otherTold_b24 q1
  else
  bd (sX7_wrong q1 ((3 : Int32))) fun q6 =>
  sX7_otherTold_b24 q6
def sX7_readsNumbers_b101   (m : St) (a2 : Int32) : Option (St) :=
  if ¬ a2 = ((7 : Int32)) then
  some m
  else
  bd (sX7_mustSign m ((40 : Int32))) fun q26 =>
  some q26
def sX7_readsNumbers_b82   (m : St) (a1 : Int32) (a2 : Int32) : Option (St) :=
  if ¬ a2 = ((7 : Int32)) then
  sX7_readsNumbers_b101 m a2
  else
  bd (sX7_number m ((1 : Int32)) ((20 : Int32))) fun q22 =>
  gd (inb a1 60) (nm (pI q22.1 0 11 (ix a1) q22.2) fun z24 =>
  sX7_readsNumbers_b101 z24 a2)
def sX7_readsNumbers_b66   (m : St) (a1 : Int32) (a2 : Int32) : Option (St) :=
  gd (inb a1 60) (bd (sX7_otherTold m (gI m 0 11 (ix a1))) fun q18 =>
  gd (inb a1 60) (nm (pI q18.1 0 12 (ix a1) q18.2) fun z20 =>
  sX7_readsNumbers_b82 z20 a1 a2))
def sX7_readsNumbers_b55   (m : St) (a1 : Int32) (a2 : Int32) : Option (St) :=
  if a2 = ((5 : Int32)) then
  sX7_readsNumbers_b66 m a1 a2
  else
  if ¬ a2 = ((6 : Int32)) then
  sX7_readsNumbers_b82 m a1 a2
  else
  sX7_readsNumbers_b66 m a1 a2
def sX7_readsNumbers_b35   (m : St) (a1 : Int32) (a2 : Int32) : Option (St) :=
  if a2 < ((2 : Int32)) then
  sX7_readsNumbers_b55 m a1 a2
  else
  if ((4 : Int32)) < a2 then
  sX7_readsNumbers_b55 m a1 a2
  else
  bd (sX7_any m) fun q12 =>
  gd (inb a1 60) (nm (pI q12.1 0 12 (ix a1) q12.2) fun z14 =>
  sX7_readsNumbers_b55 z14 a1 a2)
def sX7_readsNumbers_b14   (m : St) (a1 : Int32) (a2 : Int32) : Option (St) :=
  if a2 < ((1 : Int32)) then
  sX7_readsNumbers_b35 m a1 a2
  else
  if ((6 : Int32)) < a2 then
  sX7_readsNumbers_b35 m a1 a2
  else
  bd (sX7_told m) fun q7 =>
  gd (inb a1 60) (nm (pI q7.1 0 11 (ix a1) q7.2) fun z9 =>
  sX7_readsNumbers_b35 z9 a1 a2)
def sX7_readsNumbers  (m : St) (a1 : Int32) (a2 : Int32) : Option (St) :=
  if ¬ a2 = 0 then
  sX7_readsNumbers_b14 m a1 a2
  else
  bd (sX7_any m) fun q2 =>
  gd (inb a1 60) (nm (pI q2.1 0 11 (ix a1) q2.2) fun z4 =>
  sX7_readsNumbers_b14 z4 a1 a2)
def sX7_command_b122   (m : St) (s0 : Int32) (s1 : Int32) : Option (St) :=
  bd (sX7_truth s0) fun q20 =>
  nm (pI m 0 0 31 (s1 + q20)) fun z21 =>
  some z21
def sX7_command_b48   (m : St) (a1 : Int32) : Option (St) :=
  bd (sX7_isGood m) fun q9 =>
  if ¬ q9 = 0 then
  nm (pI m 0 0 30 ((gI m 0 0 30) + ((1 : Int32)))) fun z11 =>
  bd (sX7_goOn z11) fun q12 =>
  gd (inb (gI q12 0 0 29) 60) (nm (pI q12 0 10 (ix (gI q12 0 0 29)) a1) fun z14 =>
  bd (sX7_readsNumbers z14 (gI q12 0 0 29) a1) fun q15 =>
  bd (sX7_isGood q15) fun q16 =>
  if ¬ q16 = 0 then
  nm (pI q15 0 0 29 ((gI q15 0 0 29) + ((1 : Int32)))) fun z18 =>
  if ¬ a1 = ((7 : Int32)) then
  sX7_command_b122 z18 ((0 : Int32)) (gI z18 0 0 31)
  else
  sX7_command_b122 z18 ((1 : Int32)) (gI z18 0 0 31)
  else
  some q15)
  else
  some m
def sX7_command_b34   (m : St) (a1 : Int32) : Option (St) :=
  if ¬ (gI m 0 0 30) = ((30 : Int32)) then
  sX7_command_b48 m a1
  else
  bd (sX7_wrong m ((5 : Int32))) fun q8 =>
  sX7_command_b48 q8 a1
def sX7_command_b15   (m : St) (a1 : Int32) : Option (St) :=
  if ¬ a1 = ((7 : Int32)) then
  sX7_command_b34 m a1
  else
  if ¬ (gI m 0 0 31) = ((2 : Int32)) then
  sX7_command_b34 m a1
  else
  bd (sX7_wrong m ((3 : Int32))) fun q6 =>
  sX7_command_b34 q6 a1
def sX7_command  (m : St)  : Option (St) :=
  bd (sX7_commandHere m) fun q1 =>
  if ¬ q1 = ((-1 : Int32)) then
  sX7_command_b15 m q1
  else
  bd (sX7_wrong m ((1 : Int32))) fun q3 =>
  sX7_command_b15 q3 q1
def sX7_closes_b0 (fuel : Nat)   (m : St)  : Option (St) := match fuel with
  | 0 => none
  | n + 1 =>
  if (gI m 0 0 31) ≤ 0 then
  some m
  else
  bd (sX7_isSign m ((41 : Int32))) fun q2 =>
  if q2 = 0 then
  some m
  else
  nm (pI m 0 0 31 ((gI m 0 0 31) - ((1 : Int32)))) fun z4 =>
  gd (inb (gI z4 0 0 29) 60) (nm (pI z4 0 10 (ix (gI z4 0 0 29)) ((8 : Int32))) fun z6 =>
  nm (pI z6 0 0 29 ((gI z6 0 0 29) + ((1 : Int32)))) fun z7 =>
  bd (sX7_goOn z7) fun q8 =>
  bd (sX7_mustSign q8 ((59 : Int32))) fun q9 =>
  sX7_closes_b0 n q9)
def sX7_closes  (m : St)  : Option (St) :=
  sX7_closes_b0 FU m
def sX7_may  (m : St) (a1 : Int32) : Option (Int32) :=
  gd (inb a1 60) (gd (inb a1 60) (gd (inb a1 60) (nm (gI m 0 10 (ix a1)) fun v4 =>
  if v4 = (0 : Int32) then
  bd (sX7_areMany (gI m 0 11 (ix a1))) fun q6 =>
  if q6 = 0 then
  some ((0 : Int32))
  else
  bd (sX7_mayRun m (gI m 0 11 (ix a1))) fun q8 =>
  if q8 = 0 then
  some ((0 : Int32))
  else
  some ((1 : Int32))
  else
  if v4 = (1 : Int32) then
  bd (sX7_isAt m (gI m 0 11 (ix a1)) ((0 : Int32))) fun q11 =>
  gd (isb q11) (some q11)
  else
  if v4 = (2 : Int32) then
  bd (sX7_isPeriod m (gI m 0 11 (ix a1)) (gI m 0 12 (ix a1))) fun q14 =>
  gd (isb q14) (some q14)
  else
  if v4 = (3 : Int32) then
  bd (sX7_isFirst m (gI m 0 11 (ix a1)) (gI m 0 12 (ix a1))) fun q17 =>
  gd (isb q17) (some q17)
  else
  if v4 = (4 : Int32) then
  bd (sX7_isBy (gI m 0 12 (ix a1))) fun q20 =>
  gd (isb q20) (some q20)
  else
  if v4 = (5 : Int32) then
  bd (sX7_areNear m (gI m 0 11 (ix a1)) (gI m 0 12 (ix a1))) fun q23 =>
  if ¬ q23 = 0 then
  some ((0 : Int32))
  else
  some ((1 : Int32))
  else
  bd (sX7_areNear m (gI m 0 11 (ix a1)) (gI m 0 12 (ix a1))) fun q25 =>
  gd (isb q25) (some q25))))
def sX7_does_b115   (m : St) (s0 : Int32) (s1 : Int32) (s2 : Int32) : Option (St × Int32) :=
  bd (sX7_nears m s2 s1 s0) fun q19 =>
  some (q19, (1 : Int32))
def sX7_does  (m : St) (a1 : Int32) : Option (St × Int32) :=
  gd (inb a1 60) (gd (inb a1 60) (gd (inb a1 60) (nm (gI m 0 10 (ix a1)) fun v4 =>
  if v4 = (0 : Int32) then
  bd (sX7_runs m (gI m 0 11 (ix a1))) fun q6 =>
  some (q6.1, q6.2)
  else
  if v4 = (1 : Int32) then
  bd (sX7_awakens m (gI m 0 11 (ix a1))) fun q8 =>
  some (q8.1, q8.2)
  else
  if v4 = (2 : Int32) then
  bd (sX7_cellOf (gI m 0 11 (ix a1)) ((0 : Int32))) fun q10 =>
  bd (sX7_swapsCell m q10 (gI m 0 12 (ix a1))) fun q11 =>
  some (q11.1, q11.2)
  else
  if v4 = (3 : Int32) then
  bd (sX7_cellOf (gI m 0 11 (ix a1)) ((1 : Int32))) fun q13 =>
  bd (sX7_swapsCell m q13 (gI m 0 12 (ix a1))) fun q14 =>
  some (q14.1, q14.2)
  else
  if v4 = (4 : Int32) then
  bd (sX7_charges m (gI m 0 11 (ix a1)) (gI m 0 12 (ix a1))) fun q16 =>
  some (q16.1, q16.2)
  else
  gd (inb a1 60) (if ¬ (gI m 0 10 (ix a1)) = ((5 : Int32)) then
  sX7_does_b115 m ((0 : Int32)) (gI m 0 12 (ix a1)) (gI m 0 11 (ix a1))
  else
  sX7_does_b115 m ((1 : Int32)) (gI m 0 12 (ix a1)) (gI m 0 11 (ix a1))))))
def sX7_doesAll_b170 (k9 : St → Int32 → Int32 → Int32 → Int32 → Option (St × Int32))  (m : St) (a1 : Int32) (a2 : Int32) (a3 : Int32) (a4 : Int32) (s0 : Int32) : Option (St × Int32) :=
  bd (sX7_truth a4) fun q24 =>
  nm (a3 + (1 : Int32)) fun v25 =>
  k9 m (a1 + q24) a2 v25 a4
def sX7_doesAll_b141 (k9 : St → Int32 → Int32 → Int32 → Int32 → Option (St × Int32))  (m : St) (a1 : Int32) (a3 : Int32) (a4 : Int32) (s0 : Int32) (s1 : Int32) : Option (St × Int32) :=
  bd (sX7_truth s0) fun q29 =>
  k9 m a1 (s1 - q29) a3 a4
def sX7_doesAll_b129 (k9 : St → Int32 → Int32 → Int32 → Int32 → Option (St × Int32))  (m : St) (a1 : Int32) (a2 : Int32) (a4 : Int32) (a5 : Int32) (s0 : Int32) : Option (St × Int32) :=
  if ¬ a5 = 0 then
  sX7_doesAll_b141 k9 m a1 s0 a4 ((0 : Int32)) a2
  else
  sX7_doesAll_b141 k9 m a1 s0 a4 ((1 : Int32)) a2
def sX7_doesAll_b106 (k9 : St → Int32 → Int32 → Int32 → Int32 → Option (St × Int32))  (m : St) (a1 : Int32) (a2 : Int32) (a3 : Int32) (a4 : Int32) (s0 : Int32) : Option (St × Int32) :=
  if s0 = 0 then
  sX7_doesAll_b129 k9 m a1 a2 a4 s0 (a3 + ((1 : Int32)))
  else
  gd (inb (a2 - ((1 : Int32))) 2) (sX7_doesAll_b129 k9 m a1 a2 a4 s0 ((gI m 0 13 (ix (a2 - ((1 : Int32))))) + ((1 : Int32))))
def sX7_doesAll_b9 (fuel : Nat)   (m : St) (a1 : Int32) (a2 : Int32) (a3 : Int32) (a4 : Int32) : Option (St × Int32) := match fuel with
  | 0 => none
  | n + 1 =>
  if a4 = 0 then
  some (m, a1)
  else
  if (gI m 0 0 29) ≤ a3 then
  some (m, a1)
  else
  if ((40 : Int32)) ≤ a1 then
  some (m, a1)
  else
  gd (inb a3 60) (if ¬ (gI m 0 10 (ix a3)) = ((7 : Int32)) then
  gd (inb a3 60) (if ¬ (gI m 0 10 (ix a3)) = ((8 : Int32)) then
  bd (sX7_may m a3) fun q8 =>
  if q8 = 0 then
  sX7_doesAll_b170 (fun m' a1' a2' a3' a4' => sX7_doesAll_b9 n m' a1' a2' a3' a4') m a1 a2 a3 q8 ((0 : Int32))
  else
  bd (sX7_does m a3) fun q10 =>
  sX7_doesAll_b170 (fun m' a1' a2' a3' a4' => sX7_doesAll_b9 n m' a1' a2' a3' a4') q10.1 a1 a2 a3 q8 q10.2
  else
  gd (inb (a2 - ((1 : Int32))) 2) (nm ((gI m 0 14 (ix (a2 - ((1 : Int32))))) - ((1 : Int32))) fun v12 =>
  gd (inb (a2 - ((1 : Int32))) 2) (nm (pI m 0 14 (ix (a2 - ((1 : Int32)))) v12) fun z14 =>
  gd (inb (a2 - ((1 : Int32))) 2) (if (gI z14 0 14 (ix (a2 - ((1 : Int32))))) ≤ 0 then
  sX7_doesAll_b106 (fun m' a1' a2' a3' a4' => sX7_doesAll_b9 n m' a1' a2' a3' a4') z14 a1 a2 a3 a4 ((0 : Int32))
  else
  sX7_doesAll_b106 (fun m' a1' a2' a3' a4' => sX7_doesAll_b9 n m' a1' a2' a3' a4') z14 a1 a2 a3 a4 ((1 : Int32))))))
  else
  gd (inb a2 2) (nm (pI m 0 13 (ix a2) a3) fun z18 =>
  gd (inb a3 60) (gd (inb a2 2) (nm (pI z18 0 14 (ix a2) (gI z18 0 11 (ix a3))) fun z21 =>
  nm (a2 + (1 : Int32)) fun v22 =>
  nm (a3 + (1 : Int32)) fun v23 =>
  sX7_doesAll_b9 n z21 a1 v22 v23 a4))))
def sX7_doesAll  (m : St)  : Option (St × Int32) :=
  sX7_doesAll_b9 FU m ((0 : Int32)) ((0 : Int32)) ((0 : Int32)) ((1 : Int32))
def sX7_runScript_b82   (m : St)  : Option (St × Int32) :=
  bd (sX7_endsText m) fun q16 =>
  if ¬ q16.2 = 0 then
  bd (sX7_laysAside q16.1) fun q18 =>
  bd (sX7_doesAll q18) fun q19 =>
  bd (sX7_keeps q19.1) fun q20 =>
  some (q20, q19.2)
  else
  some (q16.1, (0 : Int32))
def sX7_runScript_b63   (m : St)  : Option (St × Int32) :=
  bd (sX7_isGood m) fun q11 =>
  if q11 = 0 then
  sX7_runScript_b82 m
  else
  if (gI m 0 0 31) ≤ 0 then
  sX7_runScript_b82 m
  else
  bd (sX7_wrong m ((1 : Int32))) fun q14 =>
  sX7_runScript_b82 q14
def sX7_runScript_b56 (k19 : St → Option (St × Int32))  (m : St)  : Option (St × Int32) :=
  bd (sX7_closes m) fun q15 =>
  k19 q15
def sX7_runScript_b19 (fuel : Nat)   (m : St)  : Option (St × Int32) := match fuel with
  | 0 => none
  | n + 1 =>
  bd (sX7_isGood m) fun q5 =>
  if q5 = 0 then
  sX7_runScript_b63 m
  else
  if (gI m 0 0 6) = 0 then
  sX7_runScript_b63 m
  else
  bd (sX7_command m) fun q8 =>
  if ¬ (gI q8 0 0 31) = (gI m 0 0 31) then
  sX7_runScript_b56 (fun m' => sX7_runScript_b19 n m') q8
  else
  bd (sX7_mustSign q8 ((59 : Int32))) fun q10 =>
  sX7_runScript_b56 (fun m' => sX7_runScript_b19 n m') q10
def sX7_runScript  (m : St)  : Option (St × Int32) :=
  bd (sX7_beginsText m) fun q1 =>
  nm (pI q1 0 0 29 ((0 : Int32))) fun z2 =>
  nm (pI z2 0 0 30 ((0 : Int32))) fun z3 =>
  nm (pI z3 0 0 31 ((0 : Int32))) fun z4 =>
  sX7_runScript_b19 FU z4
def sX7_tell  (m : St) (a1 : Int32) : Option (St) :=
  gd (inb (gI m 0 0 33) 900) (nm (pI m 0 15 (ix (gI m 0 0 33)) a1) fun z2 =>
  nm (pI z2 0 0 33 ((gI z2 0 0 33) + ((1 : Int32)))) fun z3 =>
  some z3)
def sX7_tellNumber_b20 (fuel : Nat)   (m : St) (a1 : Int32) (a3 : Int32) : Option (St) := match fuel with
  | 0 => none
  | n + 1 =>
  if a3 ≤ 0 then
  some m
  else
  gd (nz a3) (bd (sX7_tell m (((48 : Int32)) + ((a1 / a3) - (a1 / a3) / ((10 : Int32)) * ((10 : Int32))))) fun q5 =>
  sX7_tellNumber_b20 n q5 a1 (a3 / ((10 : Int32))))
def sX7_tellNumber_b2 (fuel : Nat)   (m : St) (a1 : Int32) (a2 : Int32) : Option (St) := match fuel with
  | 0 => none
  | n + 1 =>
  gd (nz a2) (if (a1 / a2) ≤ ((9 : Int32)) then
  sX7_tellNumber_b20 FU m a1 a2
  else
  sX7_tellNumber_b2 n m a1 (a2 * ((10 : Int32))))
def sX7_tellNumber  (m : St) (a1 : Int32) : Option (St) :=
  sX7_tellNumber_b2 FU m a1 ((1 : Int32))
def sX7_tellName_b2 (fuel : Nat)   (m : St) (a1 : Int64) (a3 : Int32) : Option (St) := match fuel with
  | 0 => none
  | n + 1 =>
  bd (sX7_lettersOf a1) fun q1 =>
  if q1 ≤ a3 then
  some m
  else
  bd (sX7_letterOf a1 a3) fun q3 =>
  bd (sX7_tell m q3) fun q4 =>
  nm (a3 + (1 : Int32)) fun v5 =>
  sX7_tellName_b2 n q4 a1 v5
def sX7_tellName  (m : St) (a1 : Int64) : Option (St) :=
  sX7_tellName_b2 FU m a1 ((0 : Int32))
def sX7_wordOf   (a1 : Int32) : Option (Int64) :=
  if a1 = (0 : Int32) then
  some ((650286611 : Int64))
  else
  if a1 = (1 : Int32) then
  some ((13207475667 : Int64))
  else
  if a1 = (2 : Int32) then
  some ((24159891 : Int64))
  else
  if a1 = (3 : Int32) then
  some ((20101267 : Int64))
  else
  some ((16052 : Int64))
def sX7_tellBeacon_b65 (fuel : Nat)   (m : St) (a1 : Int32) (a2 : Int32) : Option (St) := match fuel with
  | 0 => none
  | n + 1 =>
  gd (inb ((0 : Int32)) 365) (if (gI m 0 2 (ix ((0 : Int32)))) ≤ a2 then
  bd (sX7_tell m ((10 : Int32))) fun q15 =>
  some q15
  else
  bd (sX7_isKnown m a1 a2) fun q16 =>
  if ¬ q16 = 0 then
  bd (sX7_tell m ((32 : Int32))) fun q18 =>
  bd (sX7_tell q18 ((43 : Int32))) fun q19 =>
  gd (inb a2 8) (bd (sX7_tellName q19 (gL q19 0 7 (ix a2))) fun q21 =>
  nm (a2 + (1 : Int32)) fun v22 =>
  sX7_tellBeacon_b65 n q21 a1 v22)
  else
  nm (a2 + (1 : Int32)) fun v23 =>
  sX7_tellBeacon_b65 n m a1 v23)
def sX7_tellBeacon  (m : St) (a1 : Int32) : Option (St) :=
  gd (inb a1 8) (bd (sX7_tellName m (gL m 0 7 (ix a1))) fun q2 =>
  bd (sX7_tell q2 ((32 : Int32))) fun q3 =>
  bd (sX7_of q3 a1 ((5 : Int32))) fun q4 =>
  bd (sX7_wordOf q4) fun q5 =>
  bd (sX7_tellName q3 q5) fun q6 =>
  bd (sX7_tell q6 ((32 : Int32))) fun q7 =>
  bd (sX7_of q7 a1 ((6 : Int32))) fun q8 =>
  bd (sX7_tellNumber q7 q8) fun q9 =>
  bd (sX7_tell q9 ((32 : Int32))) fun q10 =>
  bd (sX7_of q10 a1 ((4 : Int32))) fun q11 =>
  bd (sX7_tellNumber q10 q11) fun q12 =>
  sX7_tellBeacon_b65 FU q12 a1 ((0 : Int32)))
def sX7_report_b17 (fuel : Nat)   (m : St) (a1 : Int32) : Option (St × Int32) := match fuel with
  | 0 => none
  | n + 1 =>
  gd (inb ((0 : Int32)) 365) (if (gI m 0 2 (ix ((0 : Int32)))) ≤ a1 then
  some (m, gI m 0 0 33)
  else
  bd (sX7_tellBeacon m a1) fun q6 =>
  nm (a1 + (1 : Int32)) fun v7 =>
  sX7_report_b17 n q6 v7)
def sX7_report  (m : St)  : Option (St × Int32) :=
  nm (pI m 0 0 0 ((0 : Int32))) fun z1 =>
  nm (pI z1 0 0 33 ((0 : Int32))) fun z2 =>
  nm (pI z2 0 0 34 ((1 : Int32))) fun z3 =>
  sX7_report_b17 FU z3 ((0 : Int32))
def sX7_reportByte_b29   (m : St) (a1 : Int32) (s0 : Int32) : Option (St × Int32) :=
  bd (sX7_goes m s0) fun q4 =>
  if q4.2 = 0 then
  some (q4.1, (0 : Int32))
  else
  gd (inb a1 900) (some (q4.1, gI q4.1 0 15 (ix a1)))
def sX7_reportByte  (m : St) (a1 : Int32) : Option (St × Int32) :=
  if (gI m 0 0 34) = 0 then
  sX7_reportByte_b29 m a1 ((0 : Int32))
  else
  bd (sX7_isIn a1.toInt64 ((0 : Int64)) (((gI m 0 0 33) - ((1 : Int32))).toInt64)) fun q2 =>
  if q2 = 0 then
  sX7_reportByte_b29 m a1 ((0 : Int32))
  else
  sX7_reportByte_b29 m a1 ((1 : Int32))
