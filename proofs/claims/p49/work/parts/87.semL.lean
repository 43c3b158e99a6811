/-! the law's own methods: over its world and the class's stores -/
def sL_alike_b568 (fuel : Nat) (n : Nat) (T : TT) (Y : St) (u : Nat) (a5 : Int32) (f9 : Nat → Int32) : Option (Int32) := match fuel with
  | 0 => none
  | m + 1 =>
  if (10 : Int32) ≤ a5 then
  some (1 : Int32)
  else
  bd (sT_X6_setting T a5) fun q26 =>
  gd (inb a5 10) (if q26 = (f9 (ix a5)) then
  nm (a5 + (1 : Int32)) fun v29 =>
  sL_alike_b568 m n T Y u v29 f9
  else
  some (0 : Int32))
def sL_alike_b364 (fuel : Nat) (k7 : TT → St → Nat → Int32 → Int32 → Int32 → Option (Int32)) (n : Nat) (T : TT) (Y : St) (u : Nat) (a2 : Int32) (a3 : Int32) (a4 : Int32) (b5 : Nat) (a8 : Int32) (a10 : Int32) : Option (Int32) := match fuel with
  | 0 => none
  | m + 1 =>
  if (4 : Int32) ≤ a10 then
  bd (sT_X6_reckoned T a4) fun q76 =>
  if ¬ q76 = a8 then
  some (0 : Int32)
  else
  bd (sT_X6_window T a4) fun q78 =>
  bd (sX8_window n Y a4) fun q79 =>
  if ¬ q78 = q79 then
  some (0 : Int32)
  else
  bd (sT_X6_dueIn T a4) fun q81 =>
  bd (sX8_due n Y a4) fun q82 =>
  if q81 = q82 then
  if ¬ (gI Y (b5 + 1) 0 5) = (4 : Int32) then
  nm (a4 + (1 : Int32)) fun v85 =>
  k7 T Y u a2 (a3 + (0 : Int32)) v85
  else
  nm (a4 + (1 : Int32)) fun v86 =>
  k7 T Y u a2 (a3 + (1 : Int32)) v86
  else
  some (0 : Int32)
  else
  bd (sT_X6_slots T a4 a10) fun q87 =>
  gd (inb a10 4) (if q87 = (gI Y (b5 + 1) 1 (ix a10)) then
  gd (inb a10 4) (gd (inb a10 4) (nm (a8 + ((gI Y (b5 + 1) 1 (ix a10)) * (gI Y 0 1 (ix a10)))) fun v92 =>
  nm (a10 + (1 : Int32)) fun v93 =>
  sL_alike_b364 m k7 n T Y u a2 a3 a4 b5 v92 v93))
  else
  some (0 : Int32))
def sL_alike_b330 (fuel : Nat) (k7 : TT → St → Nat → Int32 → Int32 → Int32 → Option (Int32)) (n : Nat) (T : TT) (Y : St) (u : Nat) (a2 : Int32) (a3 : Int32) (a4 : Int32) (b5 : Nat) (a8 : Int32) (a10 : Int32) (f9 : Nat → Int32) : Option (Int32) := match fuel with
  | 0 => none
  | m + 1 =>
  if (14 : Int32) ≤ a10 then
  sL_alike_b364 FU k7 n T Y u a2 a3 a4 b5 a8 (0 : Int32)
  else
  bd (sT_X6_beacon T a4 a10) fun q68 =>
  gd (inb a10 14) (if q68 = (f9 (ix a10)) then
  nm (a10 + (1 : Int32)) fun v71 =>
  sL_alike_b330 m k7 n T Y u a2 a3 a4 b5 a8 v71 f9
  else
  some (0 : Int32))
def sL_alike_b285 (k7 : TT → St → Nat → Int32 → Int32 → Int32 → Option (Int32)) (n : Nat) (T : TT) (Y : St) (u : Nat) (a2 : Int32) (a3 : Int32) (a4 : Int32) (b5 : Nat) (a6 : Int32) (a7 : Int32) (a8 : Int32) (as0 : Int32) (as1 : Int32) (f9 : Nat → Int32) : Option (Int32) :=
  gd (inb as1 14) (nm (upd f9 (ix as1) as0) fun f54 =>
  gd (inb (9 : Int32) 14) (nm (upd f54 (ix (9 : Int32)) a6) fun f56 =>
  gd (inb (10 : Int32) 14) (nm (upd f56 (ix (10 : Int32)) a7) fun f58 =>
  gd (inb (11 : Int32) 14) (nm (upd f58 (ix (11 : Int32)) (gI Y (b5 + 1) 0 8)) fun f60 =>
  gd (inb (12 : Int32) 14) (nm (upd f60 (ix (12 : Int32)) (gI Y (b5 + 1) 0 9)) fun f62 =>
  gd (inb (13 : Int32) 14) (nm (upd f62 (ix (13 : Int32)) (gI Y (b5 + 1) 0 10)) fun f64 =>
  sL_alike_b330 FU k7 n T Y u a2 a3 a4 b5 a8 (0 : Int32) f64))))))
def sL_alike_b132 (k7 : TT → St → Nat → Int32 → Int32 → Int32 → Option (Int32)) (k49 : TT → St → Nat → Int32 → Int32 → Int32 → Nat → Int32 → Int32 → Int32 → Int32 → Option (Int32)) (n : Nat) (T : TT) (Y : St) (u : Nat) (a3 : Int32) (a4 : Int32) (b5 : Nat) (a6 : Int32) (a7 : Int32) (a8 : Int32) (a9 : Int32) (as0 : Int32) (as1 : Int32) : Option (Int32) :=
  bd (sT_X6_heard T a4 a9) fun q94 =>
  gd (inb a9 8) (if ¬ q94 = (gI Y (b5 + 1) 2 (ix a9)) then
  some (0 : Int32)
  else
  bd (sT_X6_whyNot T a4 a9) fun q97 =>
  gd (inb a9 8) (if ¬ q97 = (gI Y (b5 + 1) 4 (ix a9)) then
  some (0 : Int32)
  else
  bd (sT_X6_knows T a4 a9) fun q100 =>
  bd (sX8_knows n Y a4 a9) fun q101 =>
  if q100 = q101 then
  nm (a9 + (1 : Int32)) fun v103 =>
  k49 T Y u (as1 + as0) a3 a4 b5 a6 a7 a8 v103
  else
  some (0 : Int32)))
def sL_alike_b110 (k7 : TT → St → Nat → Int32 → Int32 → Int32 → Option (Int32)) (k49 : TT → St → Nat → Int32 → Int32 → Int32 → Nat → Int32 → Int32 → Int32 → Int32 → Option (Int32)) (n : Nat) (T : TT) (Y : St) (u : Nat) (a2 : Int32) (a3 : Int32) (a4 : Int32) (b5 : Nat) (a6 : Int32) (a8 : Int32) (a9 : Int32) (as0 : Int32) (as1 : Int32) : Option (Int32) :=
  gd (inb a4 8) (gd (inb a9 8) (if (gI Y 0 (ix a4 + 6) (ix a9)) = 0 then
  sL_alike_b132 k7 k49 n T Y u a3 a4 b5 a6 (as1 ||| as0) a8 a9 (0 : Int32) a2
  else
  sL_alike_b132 k7 k49 n T Y u a3 a4 b5 a6 (as1 ||| as0) a8 a9 (1 : Int32) a2))
def sL_alike_b86 (k7 : TT → St → Nat → Int32 → Int32 → Int32 → Option (Int32)) (k49 : TT → St → Nat → Int32 → Int32 → Int32 → Nat → Int32 → Int32 → Int32 → Int32 → Option (Int32)) (n : Nat) (T : TT) (Y : St) (u : Nat) (a2 : Int32) (a3 : Int32) (a4 : Int32) (b5 : Nat) (a7 : Int32) (a8 : Int32) (a9 : Int32) (as0 : Int32) (as1 : Int32) : Option (Int32) :=
  bd (sX8_knows n Y a4 a9) fun q65 =>
  if q65 = 0 then
  sL_alike_b110 k7 k49 n T Y u a2 a3 a4 b5 (as1 ||| as0) a8 a9 (0 : Int32) a7
  else
  sL_alike_b110 k7 k49 n T Y u a2 a3 a4 b5 (as1 ||| as0) a8 a9 ((1 : Int32) <<< (a9 &&& (31 : Int32))) a7
def sL_alike_b49 (fuel : Nat) (k7 : TT → St → Nat → Int32 → Int32 → Int32 → Option (Int32)) (n : Nat) (T : TT) (Y : St) (u : Nat) (a2 : Int32) (a3 : Int32) (a4 : Int32) (b5 : Nat) (a6 : Int32) (a7 : Int32) (a8 : Int32) (a9 : Int32) : Option (Int32) := match fuel with
  | 0 => none
  | m + 1 =>
  if (nI n) ≤ a9 then
  gd (ltN u 9) (gd (inb (0 : Int32) 14) (nm (upd (fun _ => 0) (ix (0 : Int32)) (gI Y (b5 + 1) 0 0)) fun f34 =>
  gd (inb (1 : Int32) 14) (nm (upd f34 (ix (1 : Int32)) (gI Y (b5 + 1) 0 1)) fun f36 =>
  gd (inb (2 : Int32) 14) (nm (upd f36 (ix (2 : Int32)) (gI Y (b5 + 1) 0 2)) fun f38 =>
  gd (inb (3 : Int32) 14) (nm (upd f38 (ix (3 : Int32)) (gI Y (b5 + 1) 0 3)) fun f40 =>
  gd (inb (4 : Int32) 14) (nm (upd f40 (ix (4 : Int32)) (gI Y (b5 + 1) 0 4)) fun f42 =>
  gd (inb (5 : Int32) 14) (nm (upd f42 (ix (5 : Int32)) (gI Y (b5 + 1) 0 5)) fun f44 =>
  gd (inb (6 : Int32) 14) (nm (upd f44 (ix (6 : Int32)) (gI Y (b5 + 1) 0 6)) fun f46 =>
  gd (inb (7 : Int32) 14) (nm (upd f46 (ix (7 : Int32)) (gI Y (b5 + 1) 0 7)) fun f48 =>
  if (gI Y (b5 + 1) 0 11) = 0 then
  sL_alike_b285 k7 n T Y (u + 1) a2 a3 a4 b5 a6 a7 a8 (0 : Int32) (8 : Int32) f48
  else
  sL_alike_b285 k7 n T Y (u + 1) a2 a3 a4 b5 a6 a7 a8 (1 : Int32) (8 : Int32) f48)))))))))
  else
  gd (inb a4 8) (gd (inb a9 8) (if (gI Y 0 (ix a4 + 6) (ix a9)) = 0 then
  sL_alike_b86 k7 (fun T' Y' u' a2' a3' a4' b5' a6' a7' a8' a9' => sL_alike_b49 m k7 n T' Y' u' a2' a3' a4' b5' a6' a7' a8' a9') n T Y u a2 a3 a4 b5 a7 a8 a9 (0 : Int32) a6
  else
  sL_alike_b86 k7 (fun T' Y' u' a2' a3' a4' b5' a6' a7' a8' a9' => sL_alike_b49 m k7 n T' Y' u' a2' a3' a4' b5' a6' a7' a8' a9') n T Y u a2 a3 a4 b5 a7 a8 a9 ((1 : Int32) <<< (a9 &&& (31 : Int32))) a6))
def sL_alike_b7 (fuel : Nat) (n : Nat) (T : TT) (Y : St) (u : Nat) (a2 : Int32) (a3 : Int32) (a4 : Int32) : Option (Int32) := match fuel with
  | 0 => none
  | m + 1 =>
  if (nI n) ≤ a4 then
  gd (ltN u 9) (gd (inb (0 : Int32) 10) (nm (upd (fun _ => 0) (ix (0 : Int32)) (nI n)) fun f5 =>
  gd (inb (1 : Int32) 10) (nm (upd f5 (ix (1 : Int32)) (a2 / (2 : Int32))) fun f7 =>
  gd (inb (2 : Int32) 10) (nm (upd f7 (ix (2 : Int32)) (gI Y 0 0 0)) fun f9 =>
  gd (inb (3 : Int32) 10) (nm (upd f9 (ix (3 : Int32)) (gI Y 0 0 2)) fun f11 =>
  gd (inb (4 : Int32) 10) (nm (upd f11 (ix (4 : Int32)) (gI Y 0 0 3)) fun f13 =>
  gd (inb (5 : Int32) 10) (nm (upd f13 (ix (5 : Int32)) (gI Y 0 0 4)) fun f15 =>
  gd (inb (6 : Int32) 10) (nm (upd f15 (ix (6 : Int32)) (gI Y 0 0 5)) fun f17 =>
  gd (inb (7 : Int32) 10) (nm (upd f17 (ix (7 : Int32)) (gI Y 0 0 6)) fun f19 =>
  gd (inb (8 : Int32) 10) (nm (upd f19 (ix (8 : Int32)) a3) fun f21 =>
  gd (inb (9 : Int32) 10) (nm (upd f21 (ix (9 : Int32)) (gI Y 0 0 1)) fun f23 =>
  sL_alike_b568 FU n T Y (u + 1) (0 : Int32) f23)))))))))))
  else
  gd (inb a4 n) (sL_alike_b49 FU (fun T' Y' u' a2' a3' a4' => sL_alike_b7 m n T' Y' u' a2' a3' a4') n T Y u a2 a3 a4 (ix a4) (0 : Int32) (0 : Int32) (0 : Int32) (0 : Int32))
def sL_alike (n : Nat) (T : TT) (Y : St) (_u : Nat)  : Option (Int32) :=
  sL_alike_b7 FU n T Y 0 (0 : Int32) (0 : Int32) (0 : Int32)
def sL_acts_b473 (Ln : Nat) (xs : Nat → Int32) (n : Nat) (T : TT) (Y : St) (u : Nat) (a6 : Int32) (a7 : Int32) (a9 : Int32) (as0 : Int32) : Option (TT × St × Int32) :=
  gd (inb a6 8) (gd (inb a7 8) (gd (isb a9) (nm (pI Y 0 (ix a6 + 6) (ix a7) a9) fun z54 =>
  gd (inb a7 8) (gd (inb a6 8) (gd (isb a9) (nm (pI z54 0 (ix a7 + 6) (ix a6) a9) fun z58 =>
  bd (sT_X6_setNear T a6 a7 a9) fun q59 =>
  if ¬ q59.2 = as0 then
  some (q59.1, z58, (0 : Int32))
  else
  some (q59.1, z58, (1 : Int32))))))))
def sL_acts_b442 (Ln : Nat) (xs : Nat → Int32) (n : Nat) (T : TT) (Y : St) (u : Nat) (a6 : Int32) (a7 : Int32) (as0 : Int32) : Option (TT × St × Int32) :=
  if ¬ a6 = a7 then
  gd (inb a6 8) (gd (inb a7 8) (if (gI Y 0 (ix a6 + 6) (ix a7)) = as0 then
  sL_acts_b473 Ln xs n T Y u a6 a7 as0 (0 : Int32)
  else
  sL_acts_b473 Ln xs n T Y u a6 a7 as0 (1 : Int32)))
  else
  some (T, Y, (1 : Int32))
def sL_acts_b389 (Ln : Nat) (xs : Nat → Int32) (n : Nat) (T : TT) (Y : St) (u : Nat) (a6 : Int32) (b8 : Nat) (a9 : Int32) : Option (TT × St × Int32) :=
  nm (if ((gI Y (b8 + 1) 0 4) + a9) < (9999 : Int32) then ((gI Y (b8 + 1) 0 4) + a9) else (9999 : Int32)) fun v61 =>
  nm (pI Y (b8 + 1) 0 4 v61) fun z62 =>
  bd (sT_X6_charge T a6 a9) fun q63 =>
  if ¬ q63.2 = (gI z62 (b8 + 1) 0 4) then
  some (q63.1, z62, (0 : Int32))
  else
  some (q63.1, z62, (1 : Int32))
def sL_acts_b374 (Ln : Nat) (xs : Nat → Int32) (n : Nat) (T : TT) (Y : St) (u : Nat) (a6 : Int32) (b8 : Nat) (a9 : Int32) : Option (TT × St × Int32) :=
  if ¬ (gI Y (b8 + 1) 0 5) = (4 : Int32) then
  sL_acts_b389 Ln xs n T Y u a6 b8 a9
  else
  nm (pI Y (b8 + 1) 0 5 (0 : Int32)) fun z50 =>
  sL_acts_b389 Ln xs n T z50 u a6 b8 a9
def sL_acts (Ln : Nat) (xs : Nat → Int32) (n : Nat) (T : TT) (Y : St) (_u : Nat) (a3 : Int32) : Option (TT × St × Int32) :=
  bd (sL_pick Ln xs ((340 : Int32) + a3) (400000 : Int32)) fun q1 =>
  bd (sL_pick Ln xs ((300 : Int32) + a3) (14 : Int32)) fun q2 =>
  if (6 : Int32) ≤ q2 then
  if ¬ q2 = (6 : Int32) then
  if (if nI n = 0 then (1 : Int32) else (0 : Int32)) = 0 then
  gd (nz (nI n)) (gd (nz (nI n)) (nm ((q1 / (8 : Int32)) - (q1 / (8 : Int32)) / (nI n) * (nI n)) fun v8 =>
  gd (inb (q1 - q1 / (nI n) * (nI n)) n) (if (9 : Int32) ≤ q2 then
  if ¬ q2 = (9 : Int32) then
  if ¬ q2 = (10 : Int32) then
  if ¬ q2 = (11 : Int32) then
  if ¬ q2 = (12 : Int32) then
  sL_acts_b442 Ln xs n T Y 0 (q1 - q1 / (nI n) * (nI n)) v8 (0 : Int32)
  else
  sL_acts_b442 Ln xs n T Y 0 (q1 - q1 / (nI n) * (nI n)) v8 (1 : Int32)
  else
  nm ((1 : Int32) + ((q1 / (8 : Int32)) - (q1 / (8 : Int32)) / (200 : Int32) * (200 : Int32))) fun v15 =>
  if ¬ (gI Y (ix (q1 - q1 / (nI n) * (nI n)) + 1) 0 5) = (4 : Int32) then
  sL_acts_b374 Ln xs n T Y 0 (q1 - q1 / (nI n) * (nI n)) (ix (q1 - q1 / (nI n) * (nI n))) v15
  else
  nm (pI Y (ix (q1 - q1 / (nI n) * (nI n)) + 1) 0 7 (0 : Int32)) fun z17 =>
  sL_acts_b374 Ln xs n T z17 0 (q1 - q1 / (nI n) * (nI n)) (ix (q1 - q1 / (nI n) * (nI n))) v15
  else
  nm (gI Y (ix (q1 - q1 / (nI n) * (nI n)) + 1) 0 1) fun v18 =>
  gd (nz (gI Y (ix (q1 - q1 / (nI n) * (nI n)) + 1) 0 0)) (nm ((q1 / (8 : Int32)) - (q1 / (8 : Int32)) / (gI Y (ix (q1 - q1 / (nI n) * (nI n)) + 1) 0 0) * (gI Y (ix (q1 - q1 / (nI n) * (nI n)) + 1) 0 0)) fun v20 =>
  nm (pI Y (ix (q1 - q1 / (nI n) * (nI n)) + 1) 0 1 v20) fun z21 =>
  bd (sT_X6_setAt T (q1 - q1 / (nI n) * (nI n)) (gI z21 (ix (q1 - q1 / (nI n) * (nI n)) + 1) 0 1)) fun q22 =>
  if ¬ q22.2 = v18 then
  some (q22.1, z21, (0 : Int32))
  else
  some (q22.1, z21, (1 : Int32)))
  else
  nm (gI Y (ix (q1 - q1 / (nI n) * (nI n)) + 1) 0 0) fun v24 =>
  nm (if ((gI Y (ix (q1 - q1 / (nI n) * (nI n)) + 1) 0 1) + (1 : Int32)) < ((2 : Int32) + ((q1 / (8 : Int32)) - (q1 / (8 : Int32)) / (20 : Int32) * (20 : Int32))) then ((2 : Int32) + ((q1 / (8 : Int32)) - (q1 / (8 : Int32)) / (20 : Int32) * (20 : Int32))) else ((gI Y (ix (q1 - q1 / (nI n) * (nI n)) + 1) 0 1) + (1 : Int32))) fun v25 =>
  nm (pI Y (ix (q1 - q1 / (nI n) * (nI n)) + 1) 0 0 v25) fun z26 =>
  bd (sT_X6_setEvery T (q1 - q1 / (nI n) * (nI n)) (gI z26 (ix (q1 - q1 / (nI n) * (nI n)) + 1) 0 0)) fun q27 =>
  if ¬ q27.2 = v24 then
  some (q27.1, z26, (0 : Int32))
  else
  some (q27.1, z26, (1 : Int32))
  else
  if (gI Y (ix (q1 - q1 / (nI n) * (nI n)) + 1) 0 5) = 0 then
  nm (pI Y (ix (q1 - q1 / (nI n) * (nI n)) + 1) 0 5 (1 : Int32)) fun z30 =>
  nm (gI z30 (ix (q1 - q1 / (nI n) * (nI n)) + 1) 0 2) fun v31 =>
  nm (pI z30 (ix (q1 - q1 / (nI n) * (nI n)) + 1) 0 6 v31) fun z32 =>
  nm (pI z32 (ix (q1 - q1 / (nI n) * (nI n)) + 1) 0 11 (0 : Int32)) fun z33 =>
  bd (sT_X6_wake T (q1 - q1 / (nI n) * (nI n))) fun q34 =>
  if ¬ q34.2 = (gI z33 0 0 0) then
  some (q34.1, z33, (0 : Int32))
  else
  some (q34.1, z33, (1 : Int32))
  else
  some (T, Y, (1 : Int32)))))
  else
  some (T, Y, (1 : Int32))
  else
  nm ((1 : Int32) + (q1 - q1 / (9 : Int32) * (9 : Int32))) fun v36 =>
  nm (pI Y 0 0 2 v36) fun z37 =>
  bd (sT_X6_setTries T (gI z37 0 0 2)) fun q38 =>
  if ¬ q38.2 = (gI Y 0 0 2) then
  some (q38.1, z37, (0 : Int32))
  else
  some (q38.1, z37, (1 : Int32))
  else
  bd (sT_X6_run T ((1 : Int32) + (q1 - q1 / (25 : Int32) * (25 : Int32)))) fun q40 =>
  gd (ltN (0 + 224) 225) (bd (sX8_run n Y 0 ((1 : Int32) + (q1 - q1 / (25 : Int32) * (25 : Int32)))) fun q41 =>
  if ¬ q40.2 = q41.2 then
  some (q40.1, q41.1, (0 : Int32))
  else
  some (q40.1, q41.1, (1 : Int32)))
def sL_holds_b374 (k9 : TT → Int32 → Int32 → Int32 → Int32 → Option (Int32)) (k310 : TT → Int32 → Int32 → Int32 → Int32 → Int32 → Option (Int32)) (T : TT) (a1 : Int32) (a2 : Int32) (a3 : Int32) (a4 : Int32) (a7 : Int32) (as0 : Int32) (as1 : Int32) : Option (Int32) :=
  if as1 = as0 then
  bd (sT_X6_hops T a4 a7) fun q63 =>
  bd (sT_X6_hops T a7 a4) fun q64 =>
  if ¬ q63 = q64 then
  some (0 : Int32)
  else
  bd (sT_X6_beacon T a4 (9 : Int32)) fun q66 =>
  bd (sT_X6_beacon T a7 (9 : Int32)) fun q67 =>
  if ((q66 >>> (a7 &&& (31 : Int32))) &&& (1 : Int32)) = ((q67 >>> (a4 &&& (31 : Int32))) &&& (1 : Int32)) then
  if a4 = a7 then
  nm (a7 + (1 : Int32)) fun v70 =>
  k310 T a1 a2 a3 a4 v70
  else
  bd (sT_X6_whyNot T a4 a7) fun q71 =>
  if ¬ q71 = 0 then
  nm (a7 + (1 : Int32)) fun v73 =>
  k310 T a1 a2 a3 a4 v73
  else
  bd (sT_X6_heard T a7 a4) fun q74 =>
  if 0 ≤ q74 then
  nm (a7 + (1 : Int32)) fun v76 =>
  k310 T a1 a2 a3 a4 v76
  else
  some (0 : Int32)
  else
  some (0 : Int32)
  else
  some (0 : Int32)
def sL_holds_b310 (fuel : Nat) (k9 : TT → Int32 → Int32 → Int32 → Int32 → Option (Int32)) (T : TT) (a1 : Int32) (a2 : Int32) (a3 : Int32) (a4 : Int32) (a7 : Int32) : Option (Int32) := match fuel with
  | 0 => none
  | m + 1 =>
  bd (sT_X6_setting T (0 : Int32)) fun q51 =>
  if q51 ≤ a7 then
  nm (a4 + (1 : Int32)) fun v53 =>
  k9 T a1 a2 a3 v53
  else
  bd (sT_X6_heard T a4 a7) fun q54 =>
  bd (sT_X6_setting T (2 : Int32)) fun q55 =>
  if q55 < q54 then
  some (0 : Int32)
  else
  bd (sT_X6_knows T a4 a7) fun q57 =>
  if q54 < 0 then
  sL_holds_b374 k9 (fun T' a1' a2' a3' a4' a7' => sL_holds_b310 m k9 T' a1' a2' a3' a4' a7') T a1 a2 a3 a4 a7 (0 : Int32) q57
  else
  bd (sT_X6_setting T (2 : Int32)) fun q59 =>
  bd (sT_X6_setting T (4 : Int32)) fun q60 =>
  if q60 < (q59 - q54) then
  sL_holds_b374 k9 (fun T' a1' a2' a3' a4' a7' => sL_holds_b310 m k9 T' a1' a2' a3' a4' a7') T a1 a2 a3 a4 a7 (0 : Int32) q57
  else
  sL_holds_b374 k9 (fun T' a1' a2' a3' a4' a7' => sL_holds_b310 m k9 T' a1' a2' a3' a4' a7') T a1 a2 a3 a4 a7 (1 : Int32) q57
def sL_holds_b257 (k9 : TT → Int32 → Int32 → Int32 → Int32 → Option (Int32)) (T : TT) (a1 : Int32) (a2 : Int32) (a3 : Int32) (a4 : Int32) (as0 : Int32) (as1 : Int32) : Option (Int32) :=
  if ¬ as1 = as0 then
  some (0 : Int32)
  else
  bd (sT_X6_beacon T a4 (7 : Int32)) fun q43 =>
  if (8 : Int32) < q43 then
  some (0 : Int32)
  else
  bd (sT_X6_dueIn T a4) fun q45 =>
  if q45 < (1 : Int32) then
  some (0 : Int32)
  else
  bd (sT_X6_knows T a4 a4) fun q47 =>
  if ¬ q47 = 0 then
  some (0 : Int32)
  else
  bd (sT_X6_hops T a4 a4) fun q49 =>
  if q49 = 0 then
  sL_holds_b310 FU k9 T a1 a2 a3 a4 (0 : Int32)
  else
  some (0 : Int32)
def sL_holds_b237 (k9 : TT → Int32 → Int32 → Int32 → Int32 → Option (Int32)) (T : TT) (a1 : Int32) (a2 : Int32) (a3 : Int32) (a4 : Int32) (as0 : Int32) : Option (Int32) :=
  bd (sT_X6_beacon T a4 (6 : Int32)) fun q40 =>
  if ¬ q40 = 0 then
  sL_holds_b257 k9 T a1 a2 a3 a4 (0 : Int32) as0
  else
  sL_holds_b257 k9 T a1 a2 a3 a4 (1 : Int32) as0
def sL_holds_b211 (k9 : TT → Int32 → Int32 → Int32 → Int32 → Option (Int32)) (T : TT) (a1 : Int32) (a2 : Int32) (a3 : Int32) (a4 : Int32) : Option (Int32) :=
  bd (sT_X6_beacon T a4 (5 : Int32)) fun q36 =>
  if q36 = 0 then
  sL_holds_b237 k9 T a1 a2 a3 a4 (1 : Int32)
  else
  bd (sT_X6_beacon T a4 (5 : Int32)) fun q38 =>
  if ¬ q38 = (4 : Int32) then
  sL_holds_b237 k9 T a1 a2 a3 a4 (0 : Int32)
  else
  sL_holds_b237 k9 T a1 a2 a3 a4 (1 : Int32)
def sL_holds_b159 (k9 : TT → Int32 → Int32 → Int32 → Int32 → Option (Int32)) (T : TT) (a1 : Int32) (a2 : Int32) (a3 : Int32) (a4 : Int32) (as0 : Int32) (as1 : Int32) : Option (Int32) :=
  if as1 = as0 then
  bd (sT_X6_beacon T a4 (5 : Int32)) fun q28 =>
  if q28 = (4 : Int32) then
  sL_holds_b211 k9 T a1 a2 a3 a4
  else
  bd (sT_X6_beacon T a4 (13 : Int32)) fun q30 =>
  bd (sT_X6_reckoned T a4) fun q31 =>
  if q30 = q31 then
  sL_holds_b211 k9 T a1 a2 a3 a4
  else
  bd (sT_X6_beacon T a4 (13 : Int32)) fun q33 =>
  bd (sT_X6_reckoned T a4) fun q34 =>
  if q33 ≤ q34 then
  sL_holds_b211 k9 T a1 a2 a3 a4
  else
  some (0 : Int32)
  else
  some (0 : Int32)
def sL_holds_b143 (k9 : TT → Int32 → Int32 → Int32 → Int32 → Option (Int32)) (T : TT) (a1 : Int32) (a2 : Int32) (a3 : Int32) (a4 : Int32) (as0 : Int32) : Option (Int32) :=
  bd (sT_X6_beacon T a4 (5 : Int32)) fun q25 =>
  if ¬ q25 = (4 : Int32) then
  sL_holds_b159 k9 T a1 a2 a3 a4 (0 : Int32) as0
  else
  sL_holds_b159 k9 T a1 a2 a3 a4 (1 : Int32) as0
def sL_holds_b66 (fuel : Nat) (k9 : TT → Int32 → Int32 → Int32 → Int32 → Option (Int32)) (T : TT) (a1 : Int32) (a2 : Int32) (a3 : Int32) (a4 : Int32) (a5 : Int32) (a6 : Int32) : Option (Int32) := match fuel with
  | 0 => none
  | m + 1 =>
  if (4 : Int32) ≤ a6 then
  bd (sT_X6_setting T (2 : Int32)) fun q14 =>
  if q14 < a5 then
  some (0 : Int32)
  else
  bd (sT_X6_beacon T a4 (13 : Int32)) fun q16 =>
  bd (sT_X6_reckoned T a4) fun q17 =>
  if q17 < q16 then
  some (0 : Int32)
  else
  bd (sT_X6_beacon T a4 (4 : Int32)) fun q19 =>
  if q19 < 0 then
  some (0 : Int32)
  else
  bd (sT_X6_beacon T a4 (4 : Int32)) fun q21 =>
  if ¬ q21 = 0 then
  sL_holds_b143 k9 T a1 a2 a3 a4 (0 : Int32)
  else
  sL_holds_b143 k9 T a1 a2 a3 a4 (1 : Int32)
  else
  bd (sT_X6_slots T a4 a6) fun q23 =>
  nm (a6 + (1 : Int32)) fun v24 =>
  sL_holds_b66 m k9 T a1 a2 a3 a4 (a5 + q23) v24
def sL_holds_b9 (fuel : Nat) (T : TT) (a1 : Int32) (a2 : Int32) (a3 : Int32) (a4 : Int32) : Option (Int32) := match fuel with
  | 0 => none
  | m + 1 =>
  bd (sT_X6_setting T (0 : Int32)) fun q1 =>
  if q1 ≤ a4 then
  bd (sT_X6_setting T (5 : Int32)) fun q3 =>
  if ¬ a1 = q3 then
  some (0 : Int32)
  else
  bd (sT_X6_setting T (6 : Int32)) fun q5 =>
  if ¬ a2 = q5 then
  some (0 : Int32)
  else
  bd (sT_X6_setting T (8 : Int32)) fun q7 =>
  if ¬ a3 = q7 then
  some (0 : Int32)
  else
  some (1 : Int32)
  else
  bd (sT_X6_beacon T a4 (11 : Int32)) fun q9 =>
  bd (sT_X6_beacon T a4 (12 : Int32)) fun q10 =>
  bd (sT_X6_beacon T a4 (5 : Int32)) fun q11 =>
  if ¬ q11 = (4 : Int32) then
  sL_holds_b66 FU (fun T' a1' a2' a3' a4' => sL_holds_b9 m T' a1' a2' a3' a4') T (a1 + q9) (a2 + q10) (a3 + (0 : Int32)) a4 (0 : Int32) (0 : Int32)
  else
  sL_holds_b66 FU (fun T' a1' a2' a3' a4' => sL_holds_b9 m T' a1' a2' a3' a4') T (a1 + q9) (a2 + q10) (a3 + (1 : Int32)) a4 (0 : Int32) (0 : Int32)
def sL_holds (T : TT)  : Option (Int32) :=
  sL_holds_b9 FU T (0 : Int32) (0 : Int32) (0 : Int32) (0 : Int32)
def sL_comes_b230 (n : Nat) (T : TT) (Y : St) (u : Nat) : Option (TT × Int32) :=
  bd (sT_X6_undo T ) fun q36 =>
  if q36.2 < 0 then
  some (q36.1, (0 : Int32))
  else
  gd (ltN (u + 8) 9) (bd (sL_alike n q36.1 Y 0) fun q38 =>
  if q38 = 0 then
  some (q36.1, (0 : Int32))
  else
  some (q36.1, (1 : Int32)))
def sL_comes_b104 (fuel : Nat) (n : Nat) (T : TT) (Y : St) (u : Nat) (a2 : Int32) (a3 : Int32) : Option (TT × Int32) := match fuel with
  | 0 => none
  | m + 1 =>
  if a3 ≤ 0 then
  bd (sT_X6_dueIn T a2) fun q11 =>
  bd (sT_X6_stateIn T a2 (7 : Int32)) fun q12 =>
  bd (sT_X6_energyIn q12.1 a2 (7 : Int32)) fun q13 =>
  bd (sT_X6_collisionsIn q13.1 (7 : Int32)) fun q14 =>
  bd (sT_X6_setting q14.1 (7 : Int32)) fun q15 =>
  bd (sT_X6_run q14.1 (7 : Int32)) fun q16 =>
  bd (sT_X6_beacon q16.1 a2 (5 : Int32)) fun q17 =>
  if ¬ q17 = q12.2 then
  some (q16.1, (0 : Int32))
  else
  bd (sT_X6_beacon q16.1 a2 (4 : Int32)) fun q19 =>
  if ¬ q19 = q13.2 then
  some (q16.1, (0 : Int32))
  else
  bd (sT_X6_setting q16.1 (7 : Int32)) fun q21 =>
  if ¬ q21 = (q15 + q14.2) then
  some (q16.1, (0 : Int32))
  else
  if q11 ≤ (7 : Int32) then
  sL_comes_b230 n q16.1 Y u
  else
  bd (sT_X6_dueIn q16.1 a2) fun q24 =>
  if q24 = (q11 - (7 : Int32)) then
  sL_comes_b230 n q16.1 Y u
  else
  some (q16.1, (0 : Int32))
  else
  bd (sT_X6_undo T ) fun q26 =>
  if 0 ≤ q26.2 then
  nm (a3 + (-1 : Int32)) fun v28 =>
  sL_comes_b104 m n q26.1 Y u a2 v28
  else
  some (q26.1, (0 : Int32))
def sL_comes_b63 (n : Nat) (T : TT) (Y : St) (u : Nat) (a2 : Int32) (a3 : Int32) (a5 : Int32) : Option (TT × Int32) :=
  bd (sT_X6_run T (1 : Int32)) fun q29 =>
  nm (a3 + (1 : Int32)) fun v30 =>
  if q29.2 < (1 : Int32) then
  some (q29.1, (0 : Int32))
  else
  bd (sT_X6_beacon q29.1 a2 (11 : Int32)) fun q32 =>
  if ¬ q32 = (a5 + (1 : Int32)) then
  some (q29.1, (0 : Int32))
  else
  bd (sT_X6_beacon q29.1 a2 (5 : Int32)) fun q34 =>
  if q34 = 0 then
  sL_comes_b104 FU n q29.1 Y u a2 v30
  else
  some (q29.1, (0 : Int32))
def sL_comes (n : Nat) (T : TT) (Y : St) (_u : Nat) (a2 : Int32) : Option (TT × Int32) :=
  bd (sT_X6_wellIn T a2) fun q1 =>
  bd (sT_X6_beacon q1.1 a2 (11 : Int32)) fun q2 =>
  if q1.2 ≤ 0 then
  sL_comes_b104 FU n q1.1 Y 0 a2 (0 : Int32)
  else
  if (100 : Int32) ≤ q1.2 then
  sL_comes_b104 FU n q1.1 Y 0 a2 (0 : Int32)
  else
  if q1.2 ≤ (1 : Int32) then
  sL_comes_b63 n q1.1 Y 0 a2 (0 : Int32) q2
  else
  bd (sT_X6_run q1.1 (q1.2 - (1 : Int32))) fun q6 =>
  nm ((0 : Int32) + (1 : Int32)) fun v7 =>
  bd (sT_X6_beacon q6.1 a2 (11 : Int32)) fun q8 =>
  if q8 = q2 then
  sL_comes_b63 n q6.1 Y 0 a2 v7 q2
  else
  some (q6.1, (0 : Int32))
