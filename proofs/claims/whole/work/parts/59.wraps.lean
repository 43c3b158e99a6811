theorem cal_X6_beacon : Cal yX6_beacon cX6_beacon 4 (some .int) 2 := ⟨wC_X6_beacon, w0_X6, by decide +kernel⟩
theorem cal_X6_bestAt : Cal yX6_bestAt cX6_bestAt 6 (some .int) 1 := ⟨wC_X6_bestAt, w0_X6, by decide +kernel⟩
theorem cal_X6_bestEvery : Cal yX6_bestEvery cX6_bestEvery 6 (some .int) 1 := ⟨wC_X6_bestEvery, w0_X6, by decide +kernel⟩
theorem cal_X6_charge : Cal yX6_charge cX6_charge 3 (some .int) 2 := ⟨wC_X6_charge, w0_X6, by decide +kernel⟩
theorem cal_X6_collisionsIn : Cal yX6_collisionsIn cX6_collisionsIn 2 (some .int) 1 := ⟨wC_X6_collisionsIn, w0_X6, by decide +kernel⟩
theorem cal_X6_dueIn : Cal yX6_dueIn cX6_dueIn 2 (some .int) 1 := ⟨wC_X6_dueIn, w0_X6, by decide +kernel⟩
theorem cal_X6_ears : Cal yX6_ears cX6_ears 6 (some .int) 1 := ⟨wC_X6_ears, w0_X6, by decide +kernel⟩
theorem cal_X6_energyIn : Cal yX6_energyIn cX6_energyIn 3 (some .int) 2 := ⟨wC_X6_energyIn, w0_X6, by decide +kernel⟩
theorem cal_X6_feed : Cal yX6_feed cX6_feed 6 (some .int) 5 := ⟨wC_X6_feed, w0_X6, by decide +kernel⟩
theorem cal_X6_heard : Cal yX6_heard cX6_heard 3 (some .int) 2 := ⟨wC_X6_heard, w0_X6, by decide +kernel⟩
theorem cal_X6_hidden : Cal yX6_hidden cX6_hidden 6 (some .int) 1 := ⟨wC_X6_hidden, w0_X6, by decide +kernel⟩
theorem cal_X6_hops : Cal yX6_hops cX6_hops 5 (some .int) 2 := ⟨wC_X6_hops, w0_X6, by decide +kernel⟩
theorem cal_X6_knows : Cal yX6_knows cX6_knows 3 (some .boolean) 2 := ⟨wC_X6_knows, w0_X6, by decide +kernel⟩
theorem cal_X6_knowsIn : Cal yX6_knowsIn cX6_knowsIn 3 (some .int) 2 := ⟨wC_X6_knowsIn, w0_X6, by decide +kernel⟩
theorem cal_X6_letter : Cal yX6_letter cX6_letter 3 (some .int) 2 := ⟨wC_X6_letter, w0_X6, by decide +kernel⟩
theorem cal_X6_outIn : Cal yX6_outIn cX6_outIn 2 (some .int) 1 := ⟨wC_X6_outIn, w0_X6, by decide +kernel⟩
theorem cal_X6_readText : Cal yX6_readText cX6_readText 2 (some .int) 0 := ⟨wC_X6_readText, w0_X6, by decide +kernel⟩
theorem cal_X6_reckoned : Cal yX6_reckoned cX6_reckoned 4 (some .int) 1 := ⟨wC_X6_reckoned, w0_X6, by decide +kernel⟩
theorem cal_X6_reportByte : Cal yX6_reportByte cX6_reportByte 2 (some .int) 1 := ⟨wC_X6_reportByte, w0_X6, by decide +kernel⟩
theorem cal_X6_restore : Cal yX6_restore cX6_restore 1 (some .int) 0 := ⟨wC_X6_restore, w0_X6, by decide +kernel⟩
theorem cal_X6_run : Cal yX6_run cX6_run 3 (some .int) 1 := ⟨wC_X6_run, w0_X6, by decide +kernel⟩
theorem cal_X6_runScript : Cal yX6_runScript cX6_runScript 2 (some .int) 0 := ⟨wC_X6_runScript, w0_X6, by decide +kernel⟩
theorem cal_X6_sendsIn : Cal yX6_sendsIn cX6_sendsIn 2 (some .int) 1 := ⟨wC_X6_sendsIn, w0_X6, by decide +kernel⟩
theorem cal_X6_setAt : Cal yX6_setAt cX6_setAt 5 (some .int) 2 := ⟨wC_X6_setAt, w0_X6, by decide +kernel⟩
theorem cal_X6_setEvery : Cal yX6_setEvery cX6_setEvery 5 (some .int) 2 := ⟨wC_X6_setEvery, w0_X6, by decide +kernel⟩
theorem cal_X6_setNear : Cal yX6_setNear cX6_setNear 4 (some .boolean) 3 := ⟨wC_X6_setNear, w0_X6, by decide +kernel⟩
theorem cal_X6_setTries : Cal yX6_setTries cX6_setTries 3 (some .int) 1 := ⟨wC_X6_setTries, w0_X6, by decide +kernel⟩
theorem cal_X6_setting : Cal yX6_setting cX6_setting 2 (some .int) 1 := ⟨wC_X6_setting, w0_X6, by decide +kernel⟩
theorem cal_X6_slots : Cal yX6_slots cX6_slots 3 (some .int) 2 := ⟨wC_X6_slots, w0_X6, by decide +kernel⟩
theorem cal_X6_stateIn : Cal yX6_stateIn cX6_stateIn 3 (some .int) 2 := ⟨wC_X6_stateIn, w0_X6, by decide +kernel⟩
theorem cal_X6_truncate : Cal yX6_truncate cX6_truncate 2 (some .int) 1 := ⟨wC_X6_truncate, w0_X6, by decide +kernel⟩
theorem cal_X6_wake : Cal yX6_wake cX6_wake 2 (some .int) 1 := ⟨wC_X6_wake, w0_X6, by decide +kernel⟩
theorem cal_X6_wellIn : Cal yX6_wellIn cX6_wellIn 2 (some .int) 1 := ⟨wC_X6_wellIn, w0_X6, by decide +kernel⟩
theorem cal_X6_why : Cal yX6_why cX6_why 3 (some .int) 1 := ⟨wC_X6_why, w0_X6, by decide +kernel⟩
theorem cal_X6_whyNot : Cal yX6_whyNot cX6_whyNot 3 (some .int) 2 := ⟨wC_X6_whyNot, w0_X6, by decide +kernel⟩
theorem cal_X6_window : Cal yX6_window cX6_window 2 (some .int) 1 := ⟨wC_X6_window, w0_X6, by decide +kernel⟩
def sL_feed  (c : St) (ot : St) (a1 : Int32) (a2 : Int32) (a3 : Int32) (a4 : Int32) (a5 : Int32) : Option (St × St × Int32) :=
  bd (sX6_feed c a1 a2 a3 a4 a5) fun q1 => sm q1.2 (fun vq1 =>
  gd (inb ((0 : Int32)) 1) (nm (pL ot 0 0 (ix ((0 : Int32))) vq1.toInt64) fun z4 =>
  some (q1.1, z4, (0 : Int32)))) (fun xq1 =>
  if xq1 = 1 then
  some (q1.1, ot, (1 : Int32))
  else
  none)
def sL_truncate  (c : St) (ot : St) (a1 : Int32) : Option (St × St × Int32) :=
  bd (sX6_truncate c a1) fun q1 => sm q1.2 (fun vq1 =>
  gd (inb ((0 : Int32)) 1) (nm (pL ot 0 0 (ix ((0 : Int32))) vq1.toInt64) fun z4 =>
  some (q1.1, z4, (0 : Int32)))) (fun xq1 =>
  if xq1 = 2 then
  some (q1.1, ot, (1 : Int32))
  else
  none)
def sL_readText  (x0 : St) (x1 : St) (ta : St) (d : St) (c : St) (ot : St)  : Option (St × St × St × St × St × St × Int32) :=
  bd (sX6_readText x0 x1 ta d c) fun q1 => sm q1.2.2.2.2.2 (fun vq1 =>
  gd (inb ((0 : Int32)) 1) (nm (pL ot 0 0 (ix ((0 : Int32))) vq1.toInt64) fun z4 =>
  some (q1.1, q1.2.1, q1.2.2.1, q1.2.2.2.1, q1.2.2.2.2.1, z4, (0 : Int32)))) (fun xq1 =>
  if xq1 = 2 then
  some (q1.1, q1.2.1, q1.2.2.1, q1.2.2.2.1, q1.2.2.2.2.1, ot, (1 : Int32))
  else
  none)
def sL_runScript  (x0 : St) (ps : Nat → St) (tb : St) (S : St) (c : St) (ot : St)  : Option (St × (Nat → St) × St × St × St × St × Int32) :=
  bd (sX6_runScript x0 ps tb S c) fun q1 => sm q1.2.2.2.2.2 (fun vq1 =>
  gd (inb ((0 : Int32)) 1) (nm (pL ot 0 0 (ix ((0 : Int32))) vq1.toInt64) fun z4 =>
  some (q1.1, q1.2.1, q1.2.2.1, q1.2.2.2.1, q1.2.2.2.2.1, z4, (0 : Int32)))) (fun xq1 =>
  if xq1 = 2 then
  some (q1.1, q1.2.1, q1.2.2.1, q1.2.2.2.1, q1.2.2.2.2.1, ot, (1 : Int32))
  else
  none)
def sL_setting  (x0 : St) (c : St) (ot : St) (a1 : Int32) : Option (St × Int32) :=
  bd (sX6_setting x0 c a1) fun q1 => sm q1 (fun vq1 =>
  gd (inb ((0 : Int32)) 1) (nm (pL ot 0 0 (ix ((0 : Int32))) vq1.toInt64) fun z4 =>
  some (z4, (0 : Int32)))) (fun xq1 =>
  if xq1 = 2 then
  some (ot, (1 : Int32))
  else
  none)
def sL_beacon  (x0 : St) (ot : St) (a1 : Int32) (a2 : Int32) : Option (St × Int32) :=
  bd (sX6_beacon x0 a1 a2) fun q1 => sm q1 (fun vq1 =>
  gd (inb ((0 : Int32)) 1) (nm (pL ot 0 0 (ix ((0 : Int32))) vq1.toInt64) fun z5 =>
  some (z5, (0 : Int32)))) (fun xq1 =>
  if xq1 = 3 then
  some (ot, (1 : Int32))
  else
  if xq1 = 2 then
  some (ot, (2 : Int32))
  else
  none)
def sL_slots  (x0 : St) (ot : St) (a1 : Int32) (a2 : Int32) : Option (St × Int32) :=
  bd (sX6_slots x0 a1 a2) fun q1 => sm q1 (fun vq1 =>
  gd (inb ((0 : Int32)) 1) (nm (pL ot 0 0 (ix ((0 : Int32))) vq1.toInt64) fun z5 =>
  some (z5, (0 : Int32)))) (fun xq1 =>
  if xq1 = 3 then
  some (ot, (1 : Int32))
  else
  if xq1 = 2 then
  some (ot, (2 : Int32))
  else
  none)
def sL_reckoned  (x0 : St) (ot : St) (a1 : Int32) : Option (St × Int32) :=
  bd (sX6_reckoned x0 a1) fun q1 => sm q1 (fun vq1 =>
  gd (inb ((0 : Int32)) 1) (nm (pL ot 0 0 (ix ((0 : Int32))) vq1.toInt64) fun z4 =>
  some (z4, (0 : Int32)))) (fun xq1 =>
  if xq1 = 3 then
  some (ot, (1 : Int32))
  else
  none)
def sL_letter  (x0 : St) (ot : St) (a1 : Int32) (a2 : Int32) : Option (St × Int32) :=
  bd (sX6_letter x0 a1 a2) fun q1 => sm q1 (fun vq1 =>
  gd (inb ((0 : Int32)) 1) (nm (pL ot 0 0 (ix ((0 : Int32))) vq1.toInt64) fun z4 =>
  some (z4, (0 : Int32)))) (fun xq1 =>
  if xq1 = 3 then
  some (ot, (1 : Int32))
  else
  none)
def sL_heard  (x0 : St) (ot : St) (a1 : Int32) (a2 : Int32) : Option (St × Int32) :=
  bd (sX6_heard x0 a1 a2) fun q1 => sm q1 (fun vq1 =>
  gd (inb ((0 : Int32)) 1) (nm (pL ot 0 0 (ix ((0 : Int32))) vq1.toInt64) fun z4 =>
  some (z4, (0 : Int32)))) (fun xq1 =>
  if xq1 = 3 then
  some (ot, (1 : Int32))
  else
  none)
def sL_knows  (x0 : St) (ot : St) (a1 : Int32) (a2 : Int32) : Option (St × Int32) :=
  bd (sX6_knows x0 a1 a2) fun q1 => sm q1 (fun vq1 =>
  if vq1 = 0 then
  gd (inb ((0 : Int32)) 1) (nm (pL ot 0 0 (ix ((0 : Int32))) ((0 : Int64))) fun z5 =>
  some (z5, (0 : Int32)))
  else
  gd (inb ((0 : Int32)) 1) (nm (pL ot 0 0 (ix ((0 : Int32))) ((1 : Int64))) fun z7 =>
  some (z7, (0 : Int32)))) (fun xq1 =>
  if xq1 = 3 then
  some (ot, (1 : Int32))
  else
  none)
def sL_why  (x0 : St) (ot : St) (a1 : Int32) : Option (St × Int32) :=
  bd (sX6_why x0 a1) fun q1 => sm q1 (fun vq1 =>
  gd (inb ((0 : Int32)) 1) (nm (pL ot 0 0 (ix ((0 : Int32))) vq1.toInt64) fun z4 =>
  some (z4, (0 : Int32)))) (fun xq1 =>
  if xq1 = 3 then
  some (ot, (1 : Int32))
  else
  none)
def sL_whyNot  (x0 : St) (ot : St) (a1 : Int32) (a2 : Int32) : Option (St × Int32) :=
  bd (sX6_whyNot x0 a1 a2) fun q1 => sm q1 (fun vq1 =>
  gd (inb ((0 : Int32)) 1) (nm (pL ot 0 0 (ix ((0 : Int32))) vq1.toInt64) fun z4 =>
  some (z4, (0 : Int32)))) (fun xq1 =>
  if xq1 = 3 then
  some (ot, (1 : Int32))
  else
  none)
def sL_dueIn  (x0 : St) (ot : St) (a1 : Int32) : Option (St × Int32) :=
  bd (sX6_dueIn x0 a1) fun q1 => sm q1 (fun vq1 =>
  gd (inb ((0 : Int32)) 1) (nm (pL ot 0 0 (ix ((0 : Int32))) vq1.toInt64) fun z4 =>
  some (z4, (0 : Int32)))) (fun xq1 =>
  if xq1 = 3 then
  some (ot, (1 : Int32))
  else
  none)
def sL_hidden  (x0 : St) (ot : St) (a1 : Int32) : Option (St × Int32) :=
  bd (sX6_hidden x0 a1) fun q1 => sm q1 (fun vq1 =>
  gd (inb ((0 : Int32)) 1) (nm (pL ot 0 0 (ix ((0 : Int32))) vq1.toInt64) fun z4 =>
  some (z4, (0 : Int32)))) (fun xq1 =>
  if xq1 = 3 then
  some (ot, (1 : Int32))
  else
  none)
def sL_hops  (x0 : St) (ot : St) (a1 : Int32) (a2 : Int32) : Option (St × Int32) :=
  bd (sX6_hops x0 a1 a2) fun q1 => sm q1 (fun vq1 =>
  gd (inb ((0 : Int32)) 1) (nm (pL ot 0 0 (ix ((0 : Int32))) vq1.toInt64) fun z4 =>
  some (z4, (0 : Int32)))) (fun xq1 =>
  if xq1 = 3 then
  some (ot, (1 : Int32))
  else
  none)
def sL_ears  (x0 : St) (ot : St) (a1 : Int32) : Option (St × Int32) :=
  bd (sX6_ears x0 a1) fun q1 => sm q1 (fun vq1 =>
  gd (inb ((0 : Int32)) 1) (nm (pL ot 0 0 (ix ((0 : Int32))) vq1.toInt64) fun z4 =>
  some (z4, (0 : Int32)))) (fun xq1 =>
  if xq1 = 3 then
  some (ot, (1 : Int32))
  else
  none)
def sL_window  (x0 : St) (ot : St) (a1 : Int32) : Option (St × Int32) :=
  bd (sX6_window x0 a1) fun q1 => sm q1 (fun vq1 =>
  gd (inb ((0 : Int32)) 1) (nm (pL ot 0 0 (ix ((0 : Int32))) vq1.toInt64) fun z4 =>
  some (z4, (0 : Int32)))) (fun xq1 =>
  if xq1 = 3 then
  some (ot, (1 : Int32))
  else
  none)
def sL_stateIn  (x0 : St) (x1 : St) (ot : St) (a1 : Int32) (a2 : Int32) : Option (St × St × Int32) :=
  bd (sX6_stateIn x0 x1 a1 a2) fun q1 => sm q1.2 (fun vq1 =>
  gd (inb ((0 : Int32)) 1) (nm (pL ot 0 0 (ix ((0 : Int32))) vq1.toInt64) fun z5 =>
  some (q1.1, z5, (0 : Int32)))) (fun xq1 =>
  if xq1 = 3 then
  some (q1.1, ot, (1 : Int32))
  else
  if xq1 = 2 then
  some (q1.1, ot, (2 : Int32))
  else
  none)
def sL_energyIn  (x0 : St) (x1 : St) (ot : St) (a1 : Int32) (a2 : Int32) : Option (St × St × Int32) :=
  bd (sX6_energyIn x0 x1 a1 a2) fun q1 => sm q1.2 (fun vq1 =>
  gd (inb ((0 : Int32)) 1) (nm (pL ot 0 0 (ix ((0 : Int32))) vq1.toInt64) fun z5 =>
  some (q1.1, z5, (0 : Int32)))) (fun xq1 =>
  if xq1 = 3 then
  some (q1.1, ot, (1 : Int32))
  else
  if xq1 = 2 then
  some (q1.1, ot, (2 : Int32))
  else
  none)
def sL_collisionsIn  (x0 : St) (x1 : St) (ot : St) (a1 : Int32) : Option (St × St × Int32) :=
  bd (sX6_collisionsIn x0 x1 a1) fun q1 => sm q1.2 (fun vq1 =>
  gd (inb ((0 : Int32)) 1) (nm (pL ot 0 0 (ix ((0 : Int32))) vq1.toInt64) fun z4 =>
  some (q1.1, z4, (0 : Int32)))) (fun xq1 =>
  if xq1 = 2 then
  some (q1.1, ot, (1 : Int32))
  else
  none)
def sL_knowsIn  (x0 : St) (x1 : St) (ot : St) (a1 : Int32) (a2 : Int32) : Option (St × St × Int32) :=
  bd (sX6_knowsIn x0 x1 a1 a2) fun q1 => sm q1.2 (fun vq1 =>
  gd (inb ((0 : Int32)) 1) (nm (pL ot 0 0 (ix ((0 : Int32))) vq1.toInt64) fun z4 =>
  some (q1.1, z4, (0 : Int32)))) (fun xq1 =>
  if xq1 = 3 then
  some (q1.1, ot, (1 : Int32))
  else
  none)
def sL_outIn  (x0 : St) (x1 : St) (ot : St) (a1 : Int32) : Option (St × St × Int32) :=
  bd (sX6_outIn x0 x1 a1) fun q1 => sm q1.2 (fun vq1 =>
  gd (inb ((0 : Int32)) 1) (nm (pL ot 0 0 (ix ((0 : Int32))) vq1.toInt64) fun z4 =>
  some (q1.1, z4, (0 : Int32)))) (fun xq1 =>
  if xq1 = 3 then
  some (q1.1, ot, (1 : Int32))
  else
  none)
def sL_sendsIn  (x0 : St) (x1 : St) (ot : St) (a1 : Int32) : Option (St × St × Int32) :=
  bd (sX6_sendsIn x0 x1 a1) fun q1 => sm q1.2 (fun vq1 =>
  gd (inb ((0 : Int32)) 1) (nm (pL ot 0 0 (ix ((0 : Int32))) vq1.toInt64) fun z4 =>
  some (q1.1, z4, (0 : Int32)))) (fun xq1 =>
  if xq1 = 3 then
  some (q1.1, ot, (1 : Int32))
  else
  none)
def sL_wellIn  (x0 : St) (x1 : St) (ot : St) (a1 : Int32) : Option (St × St × Int32) :=
  bd (sX6_wellIn x0 x1 a1) fun q1 => sm q1.2 (fun vq1 =>
  gd (inb ((0 : Int32)) 1) (nm (pL ot 0 0 (ix ((0 : Int32))) vq1.toInt64) fun z4 =>
  some (q1.1, z4, (0 : Int32)))) (fun xq1 =>
  if xq1 = 3 then
  some (q1.1, ot, (1 : Int32))
  else
  none)
def sL_bestAt  (x0 : St) (x1 : St) (ot : St) (a1 : Int32) : Option (St × St × Int32) :=
  bd (sX6_bestAt x0 x1 a1) fun q1 => sm q1.2 (fun vq1 =>
  gd (inb ((0 : Int32)) 1) (nm (pL ot 0 0 (ix ((0 : Int32))) vq1.toInt64) fun z4 =>
  some (q1.1, z4, (0 : Int32)))) (fun xq1 =>
  if xq1 = 3 then
  some (q1.1, ot, (1 : Int32))
  else
  none)
def sL_bestEvery  (x0 : St) (x1 : St) (ot : St) (a1 : Int32) : Option (St × St × Int32) :=
  bd (sX6_bestEvery x0 x1 a1) fun q1 => sm q1.2 (fun vq1 =>
  gd (inb ((0 : Int32)) 1) (nm (pL ot 0 0 (ix ((0 : Int32))) vq1.toInt64) fun z4 =>
  some (q1.1, z4, (0 : Int32)))) (fun xq1 =>
  if xq1 = 3 then
  some (q1.1, ot, (1 : Int32))
  else
  none)
def sL_run  (x0 : St) (ps : Nat → St) (c : St) (ot : St) (a1 : Int32) : Option (St × (Nat → St) × St × St × Int32) :=
  bd (sX6_run x0 ps c a1) fun q1 => sm q1.2.2.2 (fun vq1 =>
  gd (inb ((0 : Int32)) 1) (nm (pL ot 0 0 (ix ((0 : Int32))) vq1.toInt64) fun z5 =>
  some (q1.1, q1.2.1, q1.2.2.1, z5, (0 : Int32)))) (fun xq1 =>
  if xq1 = 2 then
  some (q1.1, q1.2.1, q1.2.2.1, ot, (1 : Int32))
  else
  if xq1 = 1 then
  some (q1.1, q1.2.1, q1.2.2.1, ot, (2 : Int32))
  else
  none)
def sL_wake  (x0 : St) (ps : Nat → St) (c : St) (ot : St) (a1 : Int32) : Option (St × (Nat → St) × St × St × Int32) :=
  bd (sX6_wake x0 ps c a1) fun q1 => sm q1.2.2.2 (fun vq1 =>
  gd (inb ((0 : Int32)) 1) (nm (pL ot 0 0 (ix ((0 : Int32))) vq1.toInt64) fun z5 =>
  some (q1.1, q1.2.1, q1.2.2.1, z5, (0 : Int32)))) (fun xq1 =>
  if xq1 = 3 then
  some (q1.1, q1.2.1, q1.2.2.1, ot, (1 : Int32))
  else
  if xq1 = 1 then
  some (q1.1, q1.2.1, q1.2.2.1, ot, (2 : Int32))
  else
  none)
def sL_setEvery  (x0 : St) (ps : Nat → St) (c : St) (ot : St) (a1 : Int32) (a2 : Int32) : Option (St × (Nat → St) × St × St × Int32) :=
  bd (sX6_setEvery x0 ps c a1 a2) fun q1 => sm q1.2.2.2 (fun vq1 =>
  gd (inb ((0 : Int32)) 1) (nm (pL ot 0 0 (ix ((0 : Int32))) vq1.toInt64) fun z5 =>
  some (q1.1, q1.2.1, q1.2.2.1, z5, (0 : Int32)))) (fun xq1 =>
  if xq1 = 3 then
  some (q1.1, q1.2.1, q1.2.2.1, ot, (1 : Int32))
  else
  if xq1 = 2 then
  some (q1.1, q1.2.1, q1.2.2.1, ot, (2 : Int32))
  else
  none)
def sL_setAt  (x0 : St) (ps : Nat → St) (c : St) (ot : St) (a1 : Int32) (a2 : Int32) : Option (St × (Nat → St) × St × St × Int32) :=
  bd (sX6_setAt x0 ps c a1 a2) fun q1 => sm q1.2.2.2 (fun vq1 =>
  gd (inb ((0 : Int32)) 1) (nm (pL ot 0 0 (ix ((0 : Int32))) vq1.toInt64) fun z5 =>
  some (q1.1, q1.2.1, q1.2.2.1, z5, (0 : Int32)))) (fun xq1 =>
  if xq1 = 3 then
  some (q1.1, q1.2.1, q1.2.2.1, ot, (1 : Int32))
  else
  if xq1 = 2 then
  some (q1.1, q1.2.1, q1.2.2.1, ot, (2 : Int32))
  else
  none)
def sL_charge  (x0 : St) (ps : Nat → St) (c : St) (ot : St) (a1 : Int32) (a2 : Int32) : Option (St × (Nat → St) × St × St × Int32) :=
  bd (sX6_charge x0 ps c a1 a2) fun q1 => sm q1.2.2.2 (fun vq1 =>
  gd (inb ((0 : Int32)) 1) (nm (pL ot 0 0 (ix ((0 : Int32))) vq1.toInt64) fun z5 =>
  some (q1.1, q1.2.1, q1.2.2.1, z5, (0 : Int32)))) (fun xq1 =>
  if xq1 = 3 then
  some (q1.1, q1.2.1, q1.2.2.1, ot, (1 : Int32))
  else
  if xq1 = 2 then
  some (q1.1, q1.2.1, q1.2.2.1, ot, (2 : Int32))
  else
  none)
def sL_setNear  (x0 : St) (ps : Nat → St) (c : St) (ot : St) (a1 : Int32) (a2 : Int32) (a3 : Int32) : Option (St × (Nat → St) × St × St × Int32) :=
  bd (sX6_setNear x0 ps c a1 a2 a3) fun q1 => sm q1.2.2.2 (fun vq1 =>
  if vq1 = 0 then
  gd (inb ((0 : Int32)) 1) (nm (pL ot 0 0 (ix ((0 : Int32))) ((0 : Int64))) fun z6 =>
  some (q1.1, q1.2.1, q1.2.2.1, z6, (0 : Int32)))
  else
  gd (inb ((0 : Int32)) 1) (nm (pL ot 0 0 (ix ((0 : Int32))) ((1 : Int64))) fun z8 =>
  some (q1.1, q1.2.1, q1.2.2.1, z8, (0 : Int32)))) (fun xq1 =>
  if xq1 = 3 then
  some (q1.1, q1.2.1, q1.2.2.1, ot, (1 : Int32))
  else
  if xq1 = 2 then
  some (q1.1, q1.2.1, q1.2.2.1, ot, (2 : Int32))
  else
  none)
def sL_setTries  (x0 : St) (ps : Nat → St) (c : St) (ot : St) (a1 : Int32) : Option (St × (Nat → St) × St × St × Int32) :=
  bd (sX6_setTries x0 ps c a1) fun q1 => sm q1.2.2.2 (fun vq1 =>
  gd (inb ((0 : Int32)) 1) (nm (pL ot 0 0 (ix ((0 : Int32))) vq1.toInt64) fun z4 =>
  some (q1.1, q1.2.1, q1.2.2.1, z4, (0 : Int32)))) (fun xq1 =>
  if xq1 = 2 then
  some (q1.1, q1.2.1, q1.2.2.1, ot, (1 : Int32))
  else
  none)
def sL_reportByte  (pg : St) (ot : St) (a1 : Int32) : Option (St × Int32) :=
  bd (sX6_reportByte pg a1) fun q1 => sm q1 (fun vq1 =>
  gd (inb ((0 : Int32)) 1) (nm (pL ot 0 0 (ix ((0 : Int32))) vq1.toInt64) fun z4 =>
  some (z4, (0 : Int32)))) (fun xq1 =>
  if xq1 = 3 then
  some (ot, (1 : Int32))
  else
  none)
def sL_restore  (x0 : St) (x2 : St) (c : St) (ot : St)  : Option (St × St × St × Int32) :=
  bd (sX6_restore x0 x2 c) fun q1 => sm q1.2.2 (fun vq1 =>
  gd (inb ((0 : Int32)) 1) (nm (pL ot 0 0 (ix ((0 : Int32))) vq1.toInt64) fun z4 =>
  some (q1.1, q1.2.1, z4, (0 : Int32)))) (fun xq1 =>
  if xq1 = 1 then
  some (q1.1, q1.2.1, ot, (1 : Int32))
  else
  none)
set_option maxRecDepth 20000 in
theorem gL_feed {g : GX}  {x0 : St} {x1 : St} {x2 : St} {ps : Nat → St} {ta : St} {tb : St} {d : St} {S : St} {pg : St} {c : St} {m : St} {ot : St} {a1 : Int32} {a2 : Int32} {a3 : Int32} {a4 : Int32} {a5 : Int32} {res : St × St × Int32} (X : CX g RL cL_feed 8 7 114) (hXF : XF g [(0, 16, 19, 13)])  (hf : FinW g cL_feed ((x0, x1, x2, ps, ta, tb, d, S, pg, res.1, m, res.2.1)) (res.2.2)) (h : sL_feed c ot a1 a2 a3 a4 a5 = some res) : G g 0 0 ((x0, x1, x2, ps, ta, tb, d, S, pg, c, m, ot)) 0 [(0, .ref (xE (gκ g) 8 0 0)), (1, .int a1), (2, .int a2), (3, .int a3), (4, .int a4), (5, .int a5), (6, .ref (xE (gκ g) 10 0 0))] [] := by
  unfold sL_feed at h
  refine G_aload X 6 dL_feed_0 rfl ?_
  refine G_iconst X (v := (0 : Int32)) dL_feed_2 (by decide) ?_
  refine G_aload_n X 0 dL_feed_3 rfl rfl ?_
  refine G_iload_n X 1 dL_feed_4 rfl rfl ?_
  refine G_iload_n X 2 dL_feed_5 rfl rfl ?_
  refine G_iload_n X 3 dL_feed_6 rfl rfl ?_
  refine G_iload X 4 dL_feed_7 rfl ?_
  refine G_iload X 5 dL_feed_9 rfl ?_
  obtain ⟨q1, hq1, h⟩ := bd_some h
  rcases q1 with ⟨e0q1, vq1 | xq1⟩
  rotate_left
  · have h := sm_r h
    by_cases d2 : xq1 = 1
    · subst d2
      have h := it_t rfl h
      refine G_callVX X hXF (c := 1) (As := [.int a1, .int a2, .int a3, .int a4, .int a5]) (rest := [.int ((0 : Int32)), .ref (xE (gκ g) 10 0 0)]) (T' := (x0, x1, x2, ps, ta, tb, d, S, pg, e0q1, m, ot)) (ce_X6_feed (l := g.2.1) (κ := gκ g)  hq1) cal_X6_feed wM_L_7 wI_X6_feed wS_X6_feed rfl rfl (by decide) rfl rfl (Nat.le_of_ble_eq_true rfl) dL_feed_11 [] ⟨0, 16, 19, 13⟩ [] rfl (fun z hz => nomatch hz) (by decide) (by decide) wCl_L_13 (by decide) (fun q9 => ?_)
      refine G_astore X (lv' := [(7, .ref q9), (0, .ref (xE (gκ g) 8 0 0)), (1, .int a1), (2, .int a2), (3, .int a3), (4, .int a4), (5, .int a5), (6, .ref (xE (gκ g) 10 0 0))]) dL_feed_19 (by decide) rfl ?_
      refine G_iconst X (v := (1 : Int32)) dL_feed_21 (by decide) ?_
      obtain rfl := Option.some.inj h
      exact hf _ _ _ _ (by decide) (by decide) dL_feed_22
    have h := it_f d2 h
    cases h
  have h := sm_l h
  refine G_callV X (As := [.int a1, .int a2, .int a3, .int a4, .int a5]) (rest := [.int ((0 : Int32)), .ref (xE (gκ g) 10 0 0)]) (T' := (x0, x1, x2, ps, ta, tb, d, S, pg, e0q1, m, ot)) (st2 := [.int vq1, .int ((0 : Int32)), .ref (xE (gκ g) 10 0 0)]) (ct_X6_feed (l := g.2.1) (κ := gκ g)  hq1) cal_X6_feed wM_L_7 wI_X6_feed wS_X6_feed rfl rfl (by decide) rfl rfl (Nat.le_of_ble_eq_true rfl) ⟨Nat.zero_le _, Nat.zero_le _⟩ dL_feed_11 rfl ?_
  refine G_i2l X dL_feed_14 ?_
  obtain ⟨g3, h⟩ := gd_some h
  obtain ⟨z4, ez4, h⟩ := nm_some h
  refine G_last X (T' := (x0, x1, x2, ps, ta, tb, d, S, pg, e0q1, m, z4)) rfl rfl g3 (by rw [ez4]; rfl) dL_feed_15 ?_
  refine G_goto X (tgt := 23) dL_feed_16 (by decide) ?_
  refine G_iconst X (v := (0 : Int32)) dL_feed_23 (by decide) ?_
  obtain rfl := Option.some.inj h
  exact hf _ _ _ _ (by decide) (by decide) dL_feed_24
set_option maxRecDepth 20000 in
theorem ct_L_feed {l : Launch} {κ : KX}  {x0 : St} {x1 : St} {x2 : St} {ps : Nat → St} {ta : St} {tb : St} {d : St} {S : St} {pg : St} {c : St} {m : St} {ot : St} {a1 : Int32} {a2 : Int32} {a3 : Int32} {a4 : Int32} {a5 : Int32} {res : St × St × Int32}  (h : sL_feed c ot a1 a2 a3 a4 a5 = some res) : CtW l κ yL_feed cL_feed 8 [(0, 16, 19, 13)] 7 114 [.ref (xE κ 8 0 0), .int a1, .int a2, .int a3, .int a4, .int a5, .ref (xE κ 10 0 0)] ((x0, x1, x2, ps, ta, tb, d, S, pg, c, m, ot)) ((x0, x1, x2, ps, ta, tb, d, S, pg, res.1, m, res.2.1)) (res.2.2) := by
  refine CtW_of RL rfl (by decide +kernel) (Nat.le_of_ble_eq_true rfl) (fun g hl hκ X hXF hf => ?_)
  subst hl; subst hκ
  exact gL_feed X hXF  hf h
set_option maxRecDepth 20000 in
theorem gL_truncate {g : GX}  {x0 : St} {x1 : St} {x2 : St} {ps : Nat → St} {ta : St} {tb : St} {d : St} {S : St} {pg : St} {c : St} {m : St} {ot : St} {a1 : Int32} {res : St × St × Int32} (X : CX g RL cL_truncate 4 7 110) (hXF : XF g [(0, 9, 12, 19)])  (hf : FinW g cL_truncate ((x0, x1, x2, ps, ta, tb, d, S, pg, res.1, m, res.2.1)) (res.2.2)) (h : sL_truncate c ot a1 = some res) : G g 0 0 ((x0, x1, x2, ps, ta, tb, d, S, pg, c, m, ot)) 0 [(0, .ref (xE (gκ g) 8 0 0)), (1, .int a1), (2, .ref (xE (gκ g) 10 0 0))] [] := by
  unfold sL_truncate at h
  refine G_aload_n X 2 dL_truncate_0 rfl rfl ?_
  refine G_iconst X (v := (0 : Int32)) dL_truncate_1 (by decide) ?_
  refine G_aload_n X 0 dL_truncate_2 rfl rfl ?_
  refine G_iload_n X 1 dL_truncate_3 rfl rfl ?_
  obtain ⟨q1, hq1, h⟩ := bd_some h
  rcases q1 with ⟨e0q1, vq1 | xq1⟩
  rotate_left
  · have h := sm_r h
    by_cases d2 : xq1 = 2
    · subst d2
      have h := it_t rfl h
      refine G_callVX X hXF (c := 2) (As := [.int a1]) (rest := [.int ((0 : Int32)), .ref (xE (gκ g) 10 0 0)]) (T' := (x0, x1, x2, ps, ta, tb, d, S, pg, e0q1, m, ot)) (ce_X6_truncate (l := g.2.1) (κ := gκ g)  hq1) cal_X6_truncate wM_L_15 wI_X6_truncate wS_X6_truncate rfl rfl (by decide) rfl rfl (Nat.le_of_ble_eq_true rfl) dL_truncate_4 [] ⟨0, 9, 12, 19⟩ [] rfl (fun z hz => nomatch hz) (by decide) (by decide) wCl_L_19 (by decide) (fun q9 => ?_)
      refine G_astore_n X (lv' := [(3, .ref q9), (0, .ref (xE (gκ g) 8 0 0)), (1, .int a1), (2, .ref (xE (gκ g) 10 0 0))]) dL_truncate_12 rfl (by decide) rfl ?_
      refine G_iconst X (v := (1 : Int32)) dL_truncate_13 (by decide) ?_
      obtain rfl := Option.some.inj h
      exact hf _ _ _ _ (by decide) (by decide) dL_truncate_14
    have h := it_f d2 h
    cases h
  have h := sm_l h
  refine G_callV X (As := [.int a1]) (rest := [.int ((0 : Int32)), .ref (xE (gκ g) 10 0 0)]) (T' := (x0, x1, x2, ps, ta, tb, d, S, pg, e0q1, m, ot)) (st2 := [.int vq1, .int ((0 : Int32)), .ref (xE (gκ g) 10 0 0)]) (ct_X6_truncate (l := g.2.1) (κ := gκ g)  hq1) cal_X6_truncate wM_L_15 wI_X6_truncate wS_X6_truncate rfl rfl (by decide) rfl rfl (Nat.le_of_ble_eq_true rfl) ⟨Nat.zero_le _, Nat.zero_le _⟩ dL_truncate_4 rfl ?_
  refine G_i2l X dL_truncate_7 ?_
  obtain ⟨g3, h⟩ := gd_some h
  obtain ⟨z4, ez4, h⟩ := nm_some h
  refine G_last X (T' := (x0, x1, x2, ps, ta, tb, d, S, pg, e0q1, m, z4)) rfl rfl g3 (by rw [ez4]; rfl) dL_truncate_8 ?_
  refine G_goto X (tgt := 15) dL_truncate_9 (by decide) ?_
  refine G_iconst X (v := (0 : Int32)) dL_truncate_15 (by decide) ?_
  obtain rfl := Option.some.inj h
  exact hf _ _ _ _ (by decide) (by decide) dL_truncate_16
set_option maxRecDepth 20000 in
theorem ct_L_truncate {l : Launch} {κ : KX}  {x0 : St} {x1 : St} {x2 : St} {ps : Nat → St} {ta : St} {tb : St} {d : St} {S : St} {pg : St} {c : St} {m : St} {ot : St} {a1 : Int32} {res : St × St × Int32}  (h : sL_truncate c ot a1 = some res) : CtW l κ yL_truncate cL_truncate 4 [(0, 9, 12, 19)] 7 110 [.ref (xE κ 8 0 0), .int a1, .ref (xE κ 10 0 0)] ((x0, x1, x2, ps, ta, tb, d, S, pg, c, m, ot)) ((x0, x1, x2, ps, ta, tb, d, S, pg, res.1, m, res.2.1)) (res.2.2) := by
  refine CtW_of RL rfl (by decide +kernel) (Nat.le_of_ble_eq_true rfl) (fun g hl hκ X hXF hf => ?_)
  subst hl; subst hκ
  exact gL_truncate X hXF  hf h
set_option maxRecDepth 20000 in
theorem gL_readText {g : GX}  {x0 : St} {x1 : St} {x2 : St} {ps : Nat → St} {ta : St} {tb : St} {d : St} {S : St} {pg : St} {c : St} {m : St} {ot : St}  {res : St × St × St × St × St × St × Int32} (X : CX g RL cL_readText 3 10 222) (hXF : XF g [(0, 8, 11, 19)])  (hf : FinW g cL_readText ((res.1, res.2.1, x2, ps, res.2.2.1, tb, res.2.2.2.1, S, pg, res.2.2.2.2.1, m, res.2.2.2.2.2.1)) (res.2.2.2.2.2.2)) (h : sL_readText x0 x1 ta d c ot = some res) : G g 0 0 ((x0, x1, x2, ps, ta, tb, d, S, pg, c, m, ot)) 0 [(0, .ref (xE (gκ g) 8 0 0)), (1, .ref (xE (gκ g) 10 0 0))] [] := by
  unfold sL_readText at h
  refine G_aload_n X 1 dL_readText_0 rfl rfl ?_
  refine G_iconst X (v := (0 : Int32)) dL_readText_1 (by decide) ?_
  refine G_aload_n X 0 dL_readText_2 rfl rfl ?_
  obtain ⟨q1, hq1, h⟩ := bd_some h
  rcases q1 with ⟨e0q1, e1q1, e2q1, e3q1, e4q1, vq1 | xq1⟩
  rotate_left
  · have h := sm_r h
    by_cases d2 : xq1 = 2
    · subst d2
      have h := it_t rfl h
      refine G_callVX X hXF (c := 2) (As := []) (rest := [.int ((0 : Int32)), .ref (xE (gκ g) 10 0 0)]) (T' := (e0q1, e1q1, x2, ps, e2q1, tb, e3q1, S, pg, e4q1, m, ot)) (ce_X6_readText (l := g.2.1) (κ := gκ g)  hq1) cal_X6_readText wM_L_21 wI_X6_readText wS_X6_readText rfl rfl (by decide) rfl rfl (Nat.le_of_ble_eq_true rfl) dL_readText_3 [] ⟨0, 8, 11, 19⟩ [] rfl (fun z hz => nomatch hz) (by decide) (by decide) wCl_L_19 (by decide) (fun q9 => ?_)
      refine G_astore_n X (lv' := [(2, .ref q9), (0, .ref (xE (gκ g) 8 0 0)), (1, .ref (xE (gκ g) 10 0 0))]) dL_readText_11 rfl (by decide) rfl ?_
      refine G_iconst X (v := (1 : Int32)) dL_readText_12 (by decide) ?_
      obtain rfl := Option.some.inj h
      exact hf _ _ _ _ (by decide) (by decide) dL_readText_13
    have h := it_f d2 h
    cases h
  have h := sm_l h
  refine G_callV X (As := []) (rest := [.int ((0 : Int32)), .ref (xE (gκ g) 10 0 0)]) (T' := (e0q1, e1q1, x2, ps, e2q1, tb, e3q1, S, pg, e4q1, m, ot)) (st2 := [.int vq1, .int ((0 : Int32)), .ref (xE (gκ g) 10 0 0)]) (ct_X6_readText (l := g.2.1) (κ := gκ g)  hq1) cal_X6_readText wM_L_21 wI_X6_readText wS_X6_readText rfl rfl (by decide) rfl rfl (Nat.le_of_ble_eq_true rfl) ⟨Nat.zero_le _, Nat.zero_le _⟩ dL_readText_3 rfl ?_
  refine G_i2l X dL_readText_6 ?_
  obtain ⟨g3, h⟩ := gd_some h
  obtain ⟨z4, ez4, h⟩ := nm_some h
  refine G_last X (T' := (e0q1, e1q1, x2, ps, e2q1, tb, e3q1, S, pg, e4q1, m, z4)) rfl rfl g3 (by rw [ez4]; rfl) dL_readText_7 ?_
  refine G_goto X (tgt := 14) dL_readText_8 (by decide) ?_
  refine G_iconst X (v := (0 : Int32)) dL_readText_14 (by decide) ?_
  obtain rfl := Option.some.inj h
  exact hf _ _ _ _ (by decide) (by decide) dL_readText_15
set_option maxRecDepth 20000 in
theorem ct_L_readText {l : Launch} {κ : KX}  {x0 : St} {x1 : St} {x2 : St} {ps : Nat → St} {ta : St} {tb : St} {d : St} {S : St} {pg : St} {c : St} {m : St} {ot : St}  {res : St × St × St × St × St × St × Int32}  (h : sL_readText x0 x1 ta d c ot = some res) : CtW l κ yL_readText cL_readText 3 [(0, 8, 11, 19)] 10 222 [.ref (xE κ 8 0 0), .ref (xE κ 10 0 0)] ((x0, x1, x2, ps, ta, tb, d, S, pg, c, m, ot)) ((res.1, res.2.1, x2, ps, res.2.2.1, tb, res.2.2.2.1, S, pg, res.2.2.2.2.1, m, res.2.2.2.2.2.1)) (res.2.2.2.2.2.2) := by
  refine CtW_of RL rfl (by decide +kernel) (Nat.le_of_ble_eq_true rfl) (fun g hl hκ X hXF hf => ?_)
  subst hl; subst hκ
  exact gL_readText X hXF  hf h
set_option maxRecDepth 20000 in
theorem gL_runScript {g : GX}  {x0 : St} {x1 : St} {x2 : St} {ps : Nat → St} {ta : St} {tb : St} {d : St} {S : St} {pg : St} {c : St} {m : St} {ot : St}  {res : St × (Nat → St) × St × St × St × St × Int32} (X : CX g RL cL_runScript 3 9 192) (hXF : XF g [(0, 8, 11, 19)])  (hf : FinW g cL_runScript ((res.1, x1, x2, res.2.1, ta, res.2.2.1, d, res.2.2.2.1, pg, res.2.2.2.2.1, m, res.2.2.2.2.2.1)) (res.2.2.2.2.2.2)) (h : sL_runScript x0 ps tb S c ot = some res) : G g 0 0 ((x0, x1, x2, ps, ta, tb, d, S, pg, c, m, ot)) 0 [(0, .ref (xE (gκ g) 8 0 0)), (1, .ref (xE (gκ g) 10 0 0))] [] := by
  unfold sL_runScript at h
  refine G_aload_n X 1 dL_runScript_0 rfl rfl ?_
  refine G_iconst X (v := (0 : Int32)) dL_runScript_1 (by decide) ?_
  refine G_aload_n X 0 dL_runScript_2 rfl rfl ?_
  obtain ⟨q1, hq1, h⟩ := bd_some h
  rcases q1 with ⟨e0q1, e1q1, e2q1, e3q1, e4q1, vq1 | xq1⟩
  rotate_left
  · have h := sm_r h
    by_cases d2 : xq1 = 2
    · subst d2
      have h := it_t rfl h
      refine G_callVX X hXF (c := 2) (As := []) (rest := [.int ((0 : Int32)), .ref (xE (gκ g) 10 0 0)]) (T' := (e0q1, x1, x2, e1q1, ta, e2q1, d, e3q1, pg, e4q1, m, ot)) (ce_X6_runScript (l := g.2.1) (κ := gκ g)  hq1) cal_X6_runScript wM_L_25 wI_X6_runScript wS_X6_runScript rfl rfl (by decide) rfl rfl (Nat.le_of_ble_eq_true rfl) dL_runScript_3 [] ⟨0, 8, 11, 19⟩ [] rfl (fun z hz => nomatch hz) (by decide) (by decide) wCl_L_19 (by decide) (fun q9 => ?_)
      refine G_astore_n X (lv' := [(2, .ref q9), (0, .ref (xE (gκ g) 8 0 0)), (1, .ref (xE (gκ g) 10 0 0))]) dL_runScript_11 rfl (by decide) rfl ?_
      refine G_iconst X (v := (1 : Int32)) dL_runScript_12 (by decide) ?_
      obtain rfl := Option.some.inj h
      exact hf _ _ _ _ (by decide) (by decide) dL_runScript_13
    have h := it_f d2 h
    cases h
  have h := sm_l h
  refine G_callV X (As := []) (rest := [.int ((0 : Int32)), .ref (xE (gκ g) 10 0 0)]) (T' := (e0q1, x1, x2, e1q1, ta, e2q1, d, e3q1, pg, e4q1, m, ot)) (st2 := [.int vq1, .int ((0 : Int32)), .ref (xE (gκ g) 10 0 0)]) (ct_X6_runScript (l := g.2.1) (κ := gκ g)  hq1) cal_X6_runScript wM_L_25 wI_X6_runScript wS_X6_runScript rfl rfl (by decide) rfl rfl (Nat.le_of_ble_eq_true rfl) ⟨Nat.zero_le _, Nat.zero_le _⟩ dL_runScript_3 rfl ?_
  refine G_i2l X dL_runScript_6 ?_
  obtain ⟨g3, h⟩ := gd_some h
  obtain ⟨z4, ez4, h⟩ := nm_some h
  refine G_last X (T' := (e0q1, x1, x2, e1q1, ta, e2q1, d, e3q1, pg, e4q1, m, z4)) rfl rfl g3 (by rw [ez4]; rfl) dL_runScript_7 ?_
  refine G_goto X (tgt := 14) dL_runScript_8 (by decide) ?_
  refine G_iconst X (v := (0 : Int32)) dL_runScript_14 (by decide) ?_
  obtain rfl := Option.some.inj h
  exact hf _ _ _ _ (by decide) (by decide) dL_runScript_15
set_option maxRecDepth 20000 in
theorem ct_L_runScript {l : Launch} {κ : KX}  {x0 : St} {x1 : St} {x2 : St} {ps : Nat → St} {ta : St} {tb : St} {d : St} {S : St} {pg : St} {c : St} {m : St} {ot : St}  {res : St × (Nat → St) × St × St × St × St × Int32}  (h : sL_runScript x0 ps tb S c ot = some res) : CtW l κ yL_runScript cL_runScript 3 [(0, 8, 11, 19)] 9 192 [.ref (xE κ 8 0 0), .ref (xE κ 10 0 0)] ((x0, x1, x2, ps, ta, tb, d, S, pg, c, m, ot)) ((res.1, x1, x2, res.2.1, ta, res.2.2.1, d, res.2.2.2.1, pg, res.2.2.2.2.1, m, res.2.2.2.2.2.1)) (res.2.2.2.2.2.2) := by
  refine CtW_of RL rfl (by decide +kernel) (Nat.le_of_ble_eq_true rfl) (fun g hl hκ X hXF hf => ?_)
  subst hl; subst hκ
  exact gL_runScript X hXF  hf h
set_option maxRecDepth 20000 in
theorem gL_setting {g : GX}  {x0 : St} {x1 : St} {x2 : St} {ps : Nat → St} {ta : St} {tb : St} {d : St} {S : St} {pg : St} {c : St} {m : St} {ot : St} {a1 : Int32} {res : St × Int32} (X : CX g RL cL_setting 4 7 110) (hXF : XF g [(0, 9, 12, 19)])  (hf : FinW g cL_setting ((x0, x1, x2, ps, ta, tb, d, S, pg, c, m, res.1)) (res.2)) (h : sL_setting x0 c ot a1 = some res) : G g 0 0 ((x0, x1, x2, ps, ta, tb, d, S, pg, c, m, ot)) 0 [(0, .ref (xE (gκ g) 8 0 0)), (1, .int a1), (2, .ref (xE (gκ g) 10 0 0))] [] := by
  unfold sL_setting at h
  refine G_aload_n X 2 dL_setting_0 rfl rfl ?_
  refine G_iconst X (v := (0 : Int32)) dL_setting_1 (by decide) ?_
  refine G_aload_n X 0 dL_setting_2 rfl rfl ?_
  refine G_iload_n X 1 dL_setting_3 rfl rfl ?_
  obtain ⟨q1, hq1, h⟩ := bd_some h
  rcases q1 with vq1 | xq1
  rotate_left
  · have h := sm_r h
    by_cases d2 : xq1 = 2
    · subst d2
      have h := it_t rfl h
      refine G_callVX X hXF (c := 2) (As := [.int a1]) (rest := [.int ((0 : Int32)), .ref (xE (gκ g) 10 0 0)]) (T' := (x0, x1, x2, ps, ta, tb, d, S, pg, c, m, ot)) (ce_X6_setting (l := g.2.1) (κ := gκ g)  hq1) cal_X6_setting wM_L_28 wI_X6_setting wS_X6_setting rfl rfl (by decide) rfl rfl (Nat.le_of_ble_eq_true rfl) dL_setting_4 [] ⟨0, 9, 12, 19⟩ [] rfl (fun z hz => nomatch hz) (by decide) (by decide) wCl_L_19 (by decide) (fun q9 => ?_)
      refine G_astore_n X (lv' := [(3, .ref q9), (0, .ref (xE (gκ g) 8 0 0)), (1, .int a1), (2, .ref (xE (gκ g) 10 0 0))]) dL_setting_12 rfl (by decide) rfl ?_
      refine G_iconst X (v := (1 : Int32)) dL_setting_13 (by decide) ?_
      obtain rfl := Option.some.inj h
      exact hf _ _ _ _ (by decide) (by decide) dL_setting_14
    have h := it_f d2 h
    cases h
  have h := sm_l h
  refine G_callV X (As := [.int a1]) (rest := [.int ((0 : Int32)), .ref (xE (gκ g) 10 0 0)]) (T' := (x0, x1, x2, ps, ta, tb, d, S, pg, c, m, ot)) (st2 := [.int vq1, .int ((0 : Int32)), .ref (xE (gκ g) 10 0 0)]) (ct_X6_setting (l := g.2.1) (κ := gκ g)  hq1) cal_X6_setting wM_L_28 wI_X6_setting wS_X6_setting rfl rfl (by decide) rfl rfl (Nat.le_of_ble_eq_true rfl) ⟨Nat.zero_le _, Nat.zero_le _⟩ dL_setting_4 rfl ?_
  refine G_i2l X dL_setting_7 ?_
  obtain ⟨g3, h⟩ := gd_some h
  obtain ⟨z4, ez4, h⟩ := nm_some h
  refine G_last X (T' := (x0, x1, x2, ps, ta, tb, d, S, pg, c, m, z4)) rfl rfl g3 (by rw [ez4]; rfl) dL_setting_8 ?_
  refine G_goto X (tgt := 15) dL_setting_9 (by decide) ?_
  refine G_iconst X (v := (0 : Int32)) dL_setting_15 (by decide) ?_
  obtain rfl := Option.some.inj h
  exact hf _ _ _ _ (by decide) (by decide) dL_setting_16
set_option maxRecDepth 20000 in
theorem ct_L_setting {l : Launch} {κ : KX}  {x0 : St} {x1 : St} {x2 : St} {ps : Nat → St} {ta : St} {tb : St} {d : St} {S : St} {pg : St} {c : St} {m : St} {ot : St} {a1 : Int32} {res : St × Int32}  (h : sL_setting x0 c ot a1 = some res) : CtW l κ yL_setting cL_setting 4 [(0, 9, 12, 19)] 7 110 [.ref (xE κ 8 0 0), .int a1, .ref (xE κ 10 0 0)] ((x0, x1, x2, ps, ta, tb, d, S, pg, c, m, ot)) ((x0, x1, x2, ps, ta, tb, d, S, pg, c, m, res.1)) (res.2) := by
  refine CtW_of RL rfl (by decide +kernel) (Nat.le_of_ble_eq_true rfl) (fun g hl hκ X hXF hf => ?_)
  subst hl; subst hκ
  exact gL_setting X hXF  hf h
set_option maxRecDepth 20000 in
theorem gL_beacon {g : GX}  {x0 : St} {x1 : St} {x2 : St} {ps : Nat → St} {ta : St} {tb : St} {d : St} {S : St} {pg : St} {c : St} {m : St} {ot : St} {a1 : Int32} {a2 : Int32} {res : St × Int32} (X : CX g RL cL_beacon 5 8 133) (hXF : XF g [(0, 10, 13, 35), (0, 10, 17, 19)])  (hf : FinW g cL_beacon ((x0, x1, x2, ps, ta, tb, d, S, pg, c, m, res.1)) (res.2)) (h : sL_beacon x0 ot a1 a2 = some res) : G g 0 0 ((x0, x1, x2, ps, ta, tb, d, S, pg, c, m, ot)) 0 [(0, .ref (xE (gκ g) 8 0 0)), (1, .int a1), (2, .int a2), (3, .ref (xE (gκ g) 10 0 0))] [] := by
  unfold sL_beacon at h
  refine G_aload_n X 3 dL_beacon_0 rfl rfl ?_
  refine G_iconst X (v := (0 : Int32)) dL_beacon_1 (by decide) ?_
  refine G_aload_n X 0 dL_beacon_2 rfl rfl ?_
  refine G_iload_n X 1 dL_beacon_3 rfl rfl ?_
  refine G_iload_n X 2 dL_beacon_4 rfl rfl ?_
  obtain ⟨q1, hq1, h⟩ := bd_some h
  rcases q1 with vq1 | xq1
  rotate_left
  · have h := sm_r h
    by_cases d2 : xq1 = 3
    · subst d2
      have h := it_t rfl h
      refine G_callVX X hXF (c := 3) (As := [.int a1, .int a2]) (rest := [.int ((0 : Int32)), .ref (xE (gκ g) 10 0 0)]) (T' := (x0, x1, x2, ps, ta, tb, d, S, pg, c, m, ot)) (ce_X6_beacon (l := g.2.1) (κ := gκ g)  hq1) cal_X6_beacon wM_L_31 wI_X6_beacon wS_X6_beacon rfl rfl (by decide) rfl rfl (Nat.le_of_ble_eq_true rfl) dL_beacon_5 [] ⟨0, 10, 13, 35⟩ [⟨0, 10, 17, 19⟩] rfl (fun z hz => nomatch hz) (by decide) (by decide) wCl_L_35 (by decide) (fun q9 => ?_)
      refine G_astore X (lv' := [(4, .ref q9), (0, .ref (xE (gκ g) 8 0 0)), (1, .int a1), (2, .int a2), (3, .ref (xE (gκ g) 10 0 0))]) dL_beacon_13 (by decide) rfl ?_
      refine G_iconst X (v := (1 : Int32)) dL_beacon_15 (by decide) ?_
      obtain rfl := Option.some.inj h
      exact hf _ _ _ _ (by decide) (by decide) dL_beacon_16
    have h := it_f d2 h
    by_cases d3 : xq1 = 2
    · subst d3
      have h := it_t rfl h
      refine G_callVX X hXF (c := 2) (As := [.int a1, .int a2]) (rest := [.int ((0 : Int32)), .ref (xE (gκ g) 10 0 0)]) (T' := (x0, x1, x2, ps, ta, tb, d, S, pg, c, m, ot)) (ce_X6_beacon (l := g.2.1) (κ := gκ g)  hq1) cal_X6_beacon wM_L_31 wI_X6_beacon wS_X6_beacon rfl rfl (by decide) rfl rfl (Nat.le_of_ble_eq_true rfl) dL_beacon_5 [⟨0, 10, 13, 35⟩] ⟨0, 10, 17, 19⟩ [] rfl (by intro z hz; cases List.mem_singleton.mp hz; exact ⟨by decide, 3, by decide, by decide, wCl_L_35⟩) (by decide) (by decide) wCl_L_19 (by decide) (fun q9 => ?_)
      refine G_astore X (lv' := [(4, .ref q9), (0, .ref (xE (gκ g) 8 0 0)), (1, .int a1), (2, .int a2), (3, .ref (xE (gκ g) 10 0 0))]) dL_beacon_17 (by decide) rfl ?_
      refine G_iconst X (v := (2 : Int32)) dL_beacon_19 (by decide) ?_
      obtain rfl := Option.some.inj h
      exact hf _ _ _ _ (by decide) (by decide) dL_beacon_20
    have h := it_f d3 h
    cases h
  have h := sm_l h
  refine G_callV X (As := [.int a1, .int a2]) (rest := [.int ((0 : Int32)), .ref (xE (gκ g) 10 0 0)]) (T' := (x0, x1, x2, ps, ta, tb, d, S, pg, c, m, ot)) (st2 := [.int vq1, .int ((0 : Int32)), .ref (xE (gκ g) 10 0 0)]) (ct_X6_beacon (l := g.2.1) (κ := gκ g)  hq1) cal_X6_beacon wM_L_31 wI_X6_beacon wS_X6_beacon rfl rfl (by decide) rfl rfl (Nat.le_of_ble_eq_true rfl) ⟨Nat.zero_le _, Nat.zero_le _⟩ dL_beacon_5 rfl ?_
  refine G_i2l X dL_beacon_8 ?_
  obtain ⟨g4, h⟩ := gd_some h
  obtain ⟨z5, ez5, h⟩ := nm_some h
  refine G_last X (T' := (x0, x1, x2, ps, ta, tb, d, S, pg, c, m, z5)) rfl rfl g4 (by rw [ez5]; rfl) dL_beacon_9 ?_
  refine G_goto X (tgt := 21) dL_beacon_10 (by decide) ?_
  refine G_iconst X (v := (0 : Int32)) dL_beacon_21 (by decide) ?_
  obtain rfl := Option.some.inj h
  exact hf _ _ _ _ (by decide) (by decide) dL_beacon_22
set_option maxRecDepth 20000 in
theorem ct_L_beacon {l : Launch} {κ : KX}  {x0 : St} {x1 : St} {x2 : St} {ps : Nat → St} {ta : St} {tb : St} {d : St} {S : St} {pg : St} {c : St} {m : St} {ot : St} {a1 : Int32} {a2 : Int32} {res : St × Int32}  (h : sL_beacon x0 ot a1 a2 = some res) : CtW l κ yL_beacon cL_beacon 5 [(0, 10, 13, 35), (0, 10, 17, 19)] 8 133 [.ref (xE κ 8 0 0), .int a1, .int a2, .ref (xE κ 10 0 0)] ((x0, x1, x2, ps, ta, tb, d, S, pg, c, m, ot)) ((x0, x1, x2, ps, ta, tb, d, S, pg, c, m, res.1)) (res.2) := by
  refine CtW_of RL rfl (by decide +kernel) (Nat.le_of_ble_eq_true rfl) (fun g hl hκ X hXF hf => ?_)
  subst hl; subst hκ
  exact gL_beacon X hXF  hf h
set_option maxRecDepth 20000 in
theorem gL_slots {g : GX}  {x0 : St} {x1 : St} {x2 : St} {ps : Nat → St} {ta : St} {tb : St} {d : St} {S : St} {pg : St} {c : St} {m : St} {ot : St} {a1 : Int32} {a2 : Int32} {res : St × Int32} (X : CX g RL cL_slots 5 8 132) (hXF : XF g [(0, 10, 13, 35), (0, 10, 17, 19)])  (hf : FinW g cL_slots ((x0, x1, x2, ps, ta, tb, d, S, pg, c, m, res.1)) (res.2)) (h : sL_slots x0 ot a1 a2 = some res) : G g 0 0 ((x0, x1, x2, ps, ta, tb, d, S, pg, c, m, ot)) 0 [(0, .ref (xE (gκ g) 8 0 0)), (1, .int a1), (2, .int a2), (3, .ref (xE (gκ g) 10 0 0))] [] := by
  unfold sL_slots at h
  refine G_aload_n X 3 dL_slots_0 rfl rfl ?_
  refine G_iconst X (v := (0 : Int32)) dL_slots_1 (by decide) ?_
  refine G_aload_n X 0 dL_slots_2 rfl rfl ?_
  refine G_iload_n X 1 dL_slots_3 rfl rfl ?_
  refine G_iload_n X 2 dL_slots_4 rfl rfl ?_
  obtain ⟨q1, hq1, h⟩ := bd_some h
  rcases q1 with vq1 | xq1
  rotate_left
  · have h := sm_r h
    by_cases d2 : xq1 = 3
    · subst d2
      have h := it_t rfl h
      refine G_callVX X hXF (c := 3) (As := [.int a1, .int a2]) (rest := [.int ((0 : Int32)), .ref (xE (gκ g) 10 0 0)]) (T' := (x0, x1, x2, ps, ta, tb, d, S, pg, c, m, ot)) (ce_X6_slots (l := g.2.1) (κ := gκ g)  hq1) cal_X6_slots wM_L_37 wI_X6_slots wS_X6_slots rfl rfl (by decide) rfl rfl (Nat.le_of_ble_eq_true rfl) dL_slots_5 [] ⟨0, 10, 13, 35⟩ [⟨0, 10, 17, 19⟩] rfl (fun z hz => nomatch hz) (by decide) (by decide) wCl_L_35 (by decide) (fun q9 => ?_)
      refine G_astore X (lv' := [(4, .ref q9), (0, .ref (xE (gκ g) 8 0 0)), (1, .int a1), (2, .int a2), (3, .ref (xE (gκ g) 10 0 0))]) dL_slots_13 (by decide) rfl ?_
      refine G_iconst X (v := (1 : Int32)) dL_slots_15 (by decide) ?_
      obtain rfl := Option.some.inj h
      exact hf _ _ _ _ (by decide) (by decide) dL_slots_16
    have h := it_f d2 h
    by_cases d3 : xq1 = 2
    · subst d3
      have h := it_t rfl h
      refine G_callVX X hXF (c := 2) (As := [.int a1, .int a2]) (rest := [.int ((0 : Int32)), .ref (xE (gκ g) 10 0 0)]) (T' := (x0, x1, x2, ps, ta, tb, d, S, pg, c, m, ot)) (ce_X6_slots (l := g.2.1) (κ := gκ g)  hq1) cal_X6_slots wM_L_37 wI_X6_slots wS_X6_slots rfl rfl (by decide) rfl rfl (Nat.le_of_ble_eq_true rfl) dL_slots_5 [⟨0, 10, 13, 35⟩] ⟨0, 10, 17, 19⟩ [] rfl (by intro z hz; cases List.mem_singleton.mp hz; exact ⟨by decide, 3, by decide, by decide, wCl_L_35⟩) (by decide) (by decide) wCl_L_19 (by decide) (fun q9 => ?_)
      refine G_astore X (lv' := [(4, .ref q9), (0, .ref (xE (gκ g) 8 0 0)), (1, .int a1), (2, .int a2), (3, .ref (xE (gκ g) 10 0 0))]) dL_slots_17 (by decide) rfl ?_
      refine G_iconst X (v := (2 : Int32)) dL_slots_19 (by decide) ?_
      obtain rfl := Option.some.inj h
      exact hf _ _ _ _ (by decide) (by decide) dL_slots_20
    have h := it_f d3 h
    cases h
  have h := sm_l h
  refine G_callV X (As := [.int a1, .int a2]) (rest := [.int ((0 : Int32)), .ref (xE (gκ g) 10 0 0)]) (T' := (x0, x1, x2, ps, ta, tb, d, S, pg, c, m, ot)) (st2 := [.int vq1, .int ((0 : Int32)), .ref (xE (gκ g) 10 0 0)]) (ct_X6_slots (l := g.2.1) (κ := gκ g)  hq1) cal_X6_slots wM_L_37 wI_X6_slots wS_X6_slots rfl rfl (by decide) rfl rfl (Nat.le_of_ble_eq_true rfl) ⟨Nat.zero_le _, Nat.zero_le _⟩ dL_slots_5 rfl ?_
  refine G_i2l X dL_slots_8 ?_
  obtain ⟨g4, h⟩ := gd_some h
  obtain ⟨z5, ez5, h⟩ := nm_some h
  refine G_last X (T' := (x0, x1, x2, ps, ta, tb, d, S, pg, c, m, z5)) rfl rfl g4 (by rw [ez5]; rfl) dL_slots_9 ?_
  refine G_goto X (tgt := 21) dL_slots_10 (by decide) ?_
  refine G_iconst X (v := (0 : Int32)) dL_slots_21 (by decide) ?_
  obtain rfl := Option.some.inj h
  exact hf _ _ _ _ (by decide) (by decide) dL_slots_22
set_option maxRecDepth 20000 in
theorem ct_L_slots {l : Launch} {κ : KX}  {x0 : St} {x1 : St} {x2 : St} {ps : Nat → St} {ta : St} {tb : St} {d : St} {S : St} {pg : St} {c : St} {m : St} {ot : St} {a1 : Int32} {a2 : Int32} {res : St × Int32}  (h : sL_slots x0 ot a1 a2 = some res) : CtW l κ yL_slots cL_slots 5 [(0, 10, 13, 35), (0, 10, 17, 19)] 8 132 [.ref (xE κ 8 0 0), .int a1, .int a2, .ref (xE κ 10 0 0)] ((x0, x1, x2, ps, ta, tb, d, S, pg, c, m, ot)) ((x0, x1, x2, ps, ta, tb, d, S, pg, c, m, res.1)) (res.2) := by
  refine CtW_of RL rfl (by decide +kernel) (Nat.le_of_ble_eq_true rfl) (fun g hl hκ X hXF hf => ?_)
  subst hl; subst hκ
  exact gL_slots X hXF  hf h
set_option maxRecDepth 20000 in
theorem gL_reckoned {g : GX}  {x0 : St} {x1 : St} {x2 : St} {ps : Nat → St} {ta : St} {tb : St} {d : St} {S : St} {pg : St} {c : St} {m : St} {ot : St} {a1 : Int32} {res : St × Int32} (X : CX g RL cL_reckoned 4 8 133) (hXF : XF g [(0, 9, 12, 35)])  (hf : FinW g cL_reckoned ((x0, x1, x2, ps, ta, tb, d, S, pg, c, m, res.1)) (res.2)) (h : sL_reckoned x0 ot a1 = some res) : G g 0 0 ((x0, x1, x2, ps, ta, tb, d, S, pg, c, m, ot)) 0 [(0, .ref (xE (gκ g) 8 0 0)), (1, .int a1), (2, .ref (xE (gκ g) 10 0 0))] [] := by
  unfold sL_reckoned at h
  refine G_aload_n X 2 dL_reckoned_0 rfl rfl ?_
  refine G_iconst X (v := (0 : Int32)) dL_reckoned_1 (by decide) ?_
  refine G_aload_n X 0 dL_reckoned_2 rfl rfl ?_
  refine G_iload_n X 1 dL_reckoned_3 rfl rfl ?_
  obtain ⟨q1, hq1, h⟩ := bd_some h
  rcases q1 with vq1 | xq1
  rotate_left
  · have h := sm_r h
    by_cases d2 : xq1 = 3
    · subst d2
      have h := it_t rfl h
      refine G_callVX X hXF (c := 3) (As := [.int a1]) (rest := [.int ((0 : Int32)), .ref (xE (gκ g) 10 0 0)]) (T' := (x0, x1, x2, ps, ta, tb, d, S, pg, c, m, ot)) (ce_X6_reckoned (l := g.2.1) (κ := gκ g)  hq1) cal_X6_reckoned wM_L_40 wI_X6_reckoned wS_X6_reckoned rfl rfl (by decide) rfl rfl (Nat.le_of_ble_eq_true rfl) dL_reckoned_4 [] ⟨0, 9, 12, 35⟩ [] rfl (fun z hz => nomatch hz) (by decide) (by decide) wCl_L_35 (by decide) (fun q9 => ?_)
      refine G_astore_n X (lv' := [(3, .ref q9), (0, .ref (xE (gκ g) 8 0 0)), (1, .int a1), (2, .ref (xE (gκ g) 10 0 0))]) dL_reckoned_12 rfl (by decide) rfl ?_
      refine G_iconst X (v := (1 : Int32)) dL_reckoned_13 (by decide) ?_
      obtain rfl := Option.some.inj h
      exact hf _ _ _ _ (by decide) (by decide) dL_reckoned_14
    have h := it_f d2 h
    cases h
  have h := sm_l h
  refine G_callV X (As := [.int a1]) (rest := [.int ((0 : Int32)), .ref (xE (gκ g) 10 0 0)]) (T' := (x0, x1, x2, ps, ta, tb, d, S, pg, c, m, ot)) (st2 := [.int vq1, .int ((0 : Int32)), .ref (xE (gκ g) 10 0 0)]) (ct_X6_reckoned (l := g.2.1) (κ := gκ g)  hq1) cal_X6_reckoned wM_L_40 wI_X6_reckoned wS_X6_reckoned rfl rfl (by decide) rfl rfl (Nat.le_of_ble_eq_true rfl) ⟨Nat.zero_le _, Nat.zero_le _⟩ dL_reckoned_4 rfl ?_
  refine G_i2l X dL_reckoned_7 ?_
  obtain ⟨g3, h⟩ := gd_some h
  obtain ⟨z4, ez4, h⟩ := nm_some h
  refine G_last X (T' := (x0, x1, x2, ps, ta, tb, d, S, pg, c, m, z4)) rfl rfl g3 (by rw [ez4]; rfl) dL_reckoned_8 ?_
  refine G_goto X (tgt := 15) dL_reckoned_9 (by decide) ?_
  refine G_iconst X (v := (0 : Int32)) dL_reckoned_15 (by decide) ?_
  obtain rfl := Option.some.inj h
  exact hf _ _ _ _ (by decide) (by decide) dL_reckoned_16
set_option maxRecDepth 20000 in
theorem ct_L_reckoned {l : Launch} {κ : KX}  {x0 : St} {x1 : St} {x2 : St} {ps : Nat → St} {ta : St} {tb : St} {d : St} {S : St} {pg : St} {c : St} {m : St} {ot : St} {a1 : Int32} {res : St × Int32}  (h : sL_reckoned x0 ot a1 = some res) : CtW l κ yL_reckoned cL_reckoned 4 [(0, 9, 12, 35)] 8 133 [.ref (xE κ 8 0 0), .int a1, .ref (xE κ 10 0 0)] ((x0, x1, x2, ps, ta, tb, d, S, pg, c, m, ot)) ((x0, x1, x2, ps, ta, tb, d, S, pg, c, m, res.1)) (res.2) := by
  refine CtW_of RL rfl (by decide +kernel) (Nat.le_of_ble_eq_true rfl) (fun g hl hκ X hXF hf => ?_)
  subst hl; subst hκ
  exact gL_reckoned X hXF  hf h
set_option maxRecDepth 20000 in
theorem gL_letter {g : GX}  {x0 : St} {x1 : St} {x2 : St} {ps : Nat → St} {ta : St} {tb : St} {d : St} {S : St} {pg : St} {c : St} {m : St} {ot : St} {a1 : Int32} {a2 : Int32} {res : St × Int32} (X : CX g RL cL_letter 5 8 132) (hXF : XF g [(0, 10, 13, 35)])  (hf : FinW g cL_letter ((x0, x1, x2, ps, ta, tb, d, S, pg, c, m, res.1)) (res.2)) (h : sL_letter x0 ot a1 a2 = some res) : G g 0 0 ((x0, x1, x2, ps, ta, tb, d, S, pg, c, m, ot)) 0 [(0, .ref (xE (gκ g) 8 0 0)), (1, .int a1), (2, .int a2), (3, .ref (xE (gκ g) 10 0 0))] [] := by
  unfold sL_letter at h
  refine G_aload_n X 3 dL_letter_0 rfl rfl ?_
  refine G_iconst X (v := (0 : Int32)) dL_letter_1 (by decide) ?_
  refine G_aload_n X 0 dL_letter_2 rfl rfl ?_
  refine G_iload_n X 1 dL_letter_3 rfl rfl ?_
  refine G_iload_n X 2 dL_letter_4 rfl rfl ?_
  obtain ⟨q1, hq1, h⟩ := bd_some h
  rcases q1 with vq1 | xq1
  rotate_left
  · have h := sm_r h
    by_cases d2 : xq1 = 3
    · subst d2
      have h := it_t rfl h
      refine G_callVX X hXF (c := 3) (As := [.int a1, .int a2]) (rest := [.int ((0 : Int32)), .ref (xE (gκ g) 10 0 0)]) (T' := (x0, x1, x2, ps, ta, tb, d, S, pg, c, m, ot)) (ce_X6_letter (l := g.2.1) (κ := gκ g)  hq1) cal_X6_letter wM_L_43 wI_X6_letter wS_X6_letter rfl rfl (by decide) rfl rfl (Nat.le_of_ble_eq_true rfl) dL_letter_5 [] ⟨0, 10, 13, 35⟩ [] rfl (fun z hz => nomatch hz) (by decide) (by decide) wCl_L_35 (by decide) (fun q9 => ?_)
      refine G_astore X (lv' := [(4, .ref q9), (0, .ref (xE (gκ g) 8 0 0)), (1, .int a1), (2, .int a2), (3, .ref (xE (gκ g) 10 0 0))]) dL_letter_13 (by decide) rfl ?_
      refine G_iconst X (v := (1 : Int32)) dL_letter_15 (by decide) ?_
      obtain rfl := Option.some.inj h
      exact hf _ _ _ _ (by decide) (by decide) dL_letter_16
    have h := it_f d2 h
    cases h
  have h := sm_l h
  refine G_callV X (As := [.int a1, .int a2]) (rest := [.int ((0 : Int32)), .ref (xE (gκ g) 10 0 0)]) (T' := (x0, x1, x2, ps, ta, tb, d, S, pg, c, m, ot)) (st2 := [.int vq1, .int ((0 : Int32)), .ref (xE (gκ g) 10 0 0)]) (ct_X6_letter (l := g.2.1) (κ := gκ g)  hq1) cal_X6_letter wM_L_43 wI_X6_letter wS_X6_letter rfl rfl (by decide) rfl rfl (Nat.le_of_ble_eq_true rfl) ⟨Nat.zero_le _, Nat.zero_le _⟩ dL_letter_5 rfl ?_
  refine G_i2l X dL_letter_8 ?_
  obtain ⟨g3, h⟩ := gd_some h
  obtain ⟨z4, ez4, h⟩ := nm_some h
  refine G_last X (T' := (x0, x1, x2, ps, ta, tb, d, S, pg, c, m, z4)) rfl rfl g3 (by rw [ez4]; rfl) dL_letter_9 ?_
  refine G_goto X (tgt := 17) dL_letter_10 (by decide) ?_
  refine G_iconst X (v := (0 : Int32)) dL_letter_17 (by decide) ?_
  obtain rfl := Option.some.inj h
  exact hf _ _ _ _ (by decide) (by decide) dL_letter_18
set_option maxRecDepth 20000 in
theorem ct_L_letter {l : Launch} {κ : KX}  {x0 : St} {x1 : St} {x2 : St} {ps : Nat → St} {ta : St} {tb : St} {d : St} {S : St} {pg : St} {c : St} {m : St} {ot : St} {a1 : Int32} {a2 : Int32} {res : St × Int32}  (h : sL_letter x0 ot a1 a2 = some res) : CtW l κ yL_letter cL_letter 5 [(0, 10, 13, 35)] 8 132 [.ref (xE κ 8 0 0), .int a1, .int a2, .ref (xE κ 10 0 0)] ((x0, x1, x2, ps, ta, tb, d, S, pg, c, m, ot)) ((x0, x1, x2, ps, ta, tb, d, S, pg, c, m, res.1)) (res.2) := by
  refine CtW_of RL rfl (by decide +kernel) (Nat.le_of_ble_eq_true rfl) (fun g hl hκ X hXF hf => ?_)
  subst hl; subst hκ
  exact gL_letter X hXF  hf h
set_option maxRecDepth 20000 in
theorem gL_heard {g : GX}  {x0 : St} {x1 : St} {x2 : St} {ps : Nat → St} {ta : St} {tb : St} {d : St} {S : St} {pg : St} {c : St} {m : St} {ot : St} {a1 : Int32} {a2 : Int32} {res : St × Int32} (X : CX g RL cL_heard 5 8 132) (hXF : XF g [(0, 10, 13, 35)])  (hf : FinW g cL_heard ((x0, x1, x2, ps, ta, tb, d, S, pg, c, m, res.1)) (res.2)) (h : sL_heard x0 ot a1 a2 = some res) : G g 0 0 ((x0, x1, x2, ps, ta, tb, d, S, pg, c, m, ot)) 0 [(0, .ref (xE (gκ g) 8 0 0)), (1, .int a1), (2, .int a2), (3, .ref (xE (gκ g) 10 0 0))] [] := by
  unfold sL_heard at h
  refine G_aload_n X 3 dL_heard_0 rfl rfl ?_
  refine G_iconst X (v := (0 : Int32)) dL_heard_1 (by decide) ?_
  refine G_aload_n X 0 dL_heard_2 rfl rfl ?_
  refine G_iload_n X 1 dL_heard_3 rfl rfl ?_
  refine G_iload_n X 2 dL_heard_4 rfl rfl ?_
  obtain ⟨q1, hq1, h⟩ := bd_some h
  rcases q1 with vq1 | xq1
  rotate_left
  · have h := sm_r h
    by_cases d2 : xq1 = 3
    · subst d2
      have h := it_t rfl h
      refine G_callVX X hXF (c := 3) (As := [.int a1, .int a2]) (rest := [.int ((0 : Int32)), .ref (xE (gκ g) 10 0 0)]) (T' := (x0, x1, x2, ps, ta, tb, d, S, pg, c, m, ot)) (ce_X6_heard (l := g.2.1) (κ := gκ g)  hq1) cal_X6_heard wM_L_46 wI_X6_heard wS_X6_heard rfl rfl (by decide) rfl rfl (Nat.le_of_ble_eq_true rfl) dL_heard_5 [] ⟨0, 10, 13, 35⟩ [] rfl (fun z hz => nomatch hz) (by decide) (by decide) wCl_L_35 (by decide) (fun q9 => ?_)
      refine G_astore X (lv' := [(4, .ref q9), (0, .ref (xE (gκ g) 8 0 0)), (1, .int a1), (2, .int a2), (3, .ref (xE (gκ g) 10 0 0))]) dL_heard_13 (by decide) rfl ?_
      refine G_iconst X (v := (1 : Int32)) dL_heard_15 (by decide) ?_
      obtain rfl := Option.some.inj h
      exact hf _ _ _ _ (by decide) (by decide) dL_heard_16
    have h := it_f d2 h
    cases h
  have h := sm_l h
  refine G_callV X (As := [.int a1, .int a2]) (rest := [.int ((0 : Int32)), .ref (xE (gκ g) 10 0 0)]) (T' := (x0, x1, x2, ps, ta, tb, d, S, pg, c, m, ot)) (st2 := [.int vq1, .int ((0 : Int32)), .ref (xE (gκ g) 10 0 0)]) (ct_X6_heard (l := g.2.1) (κ := gκ g)  hq1) cal_X6_heard wM_L_46 wI_X6_heard wS_X6_heard rfl rfl (by decide) rfl rfl (Nat.le_of_ble_eq_true rfl) ⟨Nat.zero_le _, Nat.zero_le _⟩ dL_heard_5 rfl ?_
  refine G_i2l X dL_heard_8 ?_
  obtain ⟨g3, h⟩ := gd_some h
  obtain ⟨z4, ez4, h⟩ := nm_some h
  refine G_last X (T' := (x0, x1, x2, ps, ta, tb, d, S, pg, c, m, z4)) rfl rfl g3 (by rw [ez4]; rfl) dL_heard_9 ?_
  refine G_goto X (tgt := 17) dL_heard_10 (by decide) ?_
  refine G_iconst X (v := (0 : Int32)) dL_heard_17 (by decide) ?_
  obtain rfl := Option.some.inj h
  exact hf _ _ _ _ (by decide) (by decide) dL_heard_18
set_option maxRecDepth 20000 in
theorem ct_L_heard {l : Launch} {κ : KX}  {x0 : St} {x1 : St} {x2 : St} {ps : Nat → St} {ta : St} {tb : St} {d : St} {S : St} {pg : St} {c : St} {m : St} {ot : St} {a1 : Int32} {a2 : Int32} {res : St × Int32}  (h : sL_heard x0 ot a1 a2 = some res) : CtW l κ yL_heard cL_heard 5 [(0, 10, 13, 35)] 8 132 [.ref (xE κ 8 0 0), .int a1, .int a2, .ref (xE κ 10 0 0)] ((x0, x1, x2, ps, ta, tb, d, S, pg, c, m, ot)) ((x0, x1, x2, ps, ta, tb, d, S, pg, c, m, res.1)) (res.2) := by
  refine CtW_of RL rfl (by decide +kernel) (Nat.le_of_ble_eq_true rfl) (fun g hl hκ X hXF hf => ?_)
  subst hl; subst hκ
  exact gL_heard X hXF  hf h
set_option maxRecDepth 20000 in
theorem gL_knows {g : GX}  {x0 : St} {x1 : St} {x2 : St} {ps : Nat → St} {ta : St} {tb : St} {d : St} {S : St} {pg : St} {c : St} {m : St} {ot : St} {a1 : Int32} {a2 : Int32} {res : St × Int32} (X : CX g RL cL_knows 5 8 132) (hXF : XF g [(0, 17, 20, 35)])  (hf : FinW g cL_knows ((x0, x1, x2, ps, ta, tb, d, S, pg, c, m, res.1)) (res.2)) (h : sL_knows x0 ot a1 a2 = some res) : G g 0 0 ((x0, x1, x2, ps, ta, tb, d, S, pg, c, m, ot)) 0 [(0, .ref (xE (gκ g) 8 0 0)), (1, .int a1), (2, .int a2), (3, .ref (xE (gκ g) 10 0 0))] [] := by
  unfold sL_knows at h
  refine G_aload_n X 3 dL_knows_0 rfl rfl ?_
  refine G_iconst X (v := (0 : Int32)) dL_knows_1 (by decide) ?_
  refine G_aload_n X 0 dL_knows_2 rfl rfl ?_
  refine G_iload_n X 1 dL_knows_3 rfl rfl ?_
  refine G_iload_n X 2 dL_knows_4 rfl rfl ?_
  obtain ⟨q1, hq1, h⟩ := bd_some h
  rcases q1 with vq1 | xq1
  rotate_left
  · have h := sm_r h
    by_cases d2 : xq1 = 3
    · subst d2
      have h := it_t rfl h
      refine G_callVX X hXF (c := 3) (As := [.int a1, .int a2]) (rest := [.int ((0 : Int32)), .ref (xE (gκ g) 10 0 0)]) (T' := (x0, x1, x2, ps, ta, tb, d, S, pg, c, m, ot)) (ce_X6_knows (l := g.2.1) (κ := gκ g)  hq1) cal_X6_knows wM_L_49 wI_X6_knows wS_X6_knows rfl rfl (by decide) rfl rfl (Nat.le_of_ble_eq_true rfl) dL_knows_5 [] ⟨0, 17, 20, 35⟩ [] rfl (fun z hz => nomatch hz) (by decide) (by decide) wCl_L_35 (by decide) (fun q9 => ?_)
      refine G_astore X (lv' := [(4, .ref q9), (0, .ref (xE (gκ g) 8 0 0)), (1, .int a1), (2, .int a2), (3, .ref (xE (gκ g) 10 0 0))]) dL_knows_20 (by decide) rfl ?_
      refine G_iconst X (v := (1 : Int32)) dL_knows_22 (by decide) ?_
      obtain rfl := Option.some.inj h
      exact hf _ _ _ _ (by decide) (by decide) dL_knows_23
    have h := it_f d2 h
    cases h
  have h := sm_l h
  refine G_callV X (As := [.int a1, .int a2]) (rest := [.int ((0 : Int32)), .ref (xE (gκ g) 10 0 0)]) (T' := (x0, x1, x2, ps, ta, tb, d, S, pg, c, m, ot)) (st2 := [.int vq1, .int ((0 : Int32)), .ref (xE (gκ g) 10 0 0)]) (ct_X6_knows (l := g.2.1) (κ := gκ g)  hq1) cal_X6_knows wM_L_49 wI_X6_knows wS_X6_knows rfl rfl (by decide) rfl rfl (Nat.le_of_ble_eq_true rfl) ⟨Nat.zero_le _, Nat.zero_le _⟩ dL_knows_5 rfl ?_
  refine G_if_eq X (tgt := 15) dL_knows_8 (by decide) (fun c3 => ?_) (fun c3 => ?_)
  · have h := it_t c3 h
    refine G_lconst X (v := (0 : Int64)) dL_knows_15 (by decide) ?_
    obtain ⟨g4, h⟩ := gd_some h
    obtain ⟨z5, ez5, h⟩ := nm_some h
    refine G_last X (T' := (x0, x1, x2, ps, ta, tb, d, S, pg, c, m, z5)) rfl rfl g4 (by rw [ez5]; rfl) dL_knows_16 ?_
    refine G_goto X (tgt := 24) dL_knows_17 (by decide) ?_
    refine G_iconst X (v := (0 : Int32)) dL_knows_24 (by decide) ?_
    obtain rfl := Option.some.inj h
    exact hf _ _ _ _ (by decide) (by decide) dL_knows_25
  · have h := it_f c3 h
    refine G_lconst X (v := (1 : Int64)) dL_knows_11 (by decide) ?_
    refine G_goto X (tgt := 16) dL_knows_12 (by decide) ?_
    obtain ⟨g6, h⟩ := gd_some h
    obtain ⟨z7, ez7, h⟩ := nm_some h
    refine G_last X (T' := (x0, x1, x2, ps, ta, tb, d, S, pg, c, m, z7)) rfl rfl g6 (by rw [ez7]; rfl) dL_knows_16 ?_
    refine G_goto X (tgt := 24) dL_knows_17 (by decide) ?_
    refine G_iconst X (v := (0 : Int32)) dL_knows_24 (by decide) ?_
    obtain rfl := Option.some.inj h
    exact hf _ _ _ _ (by decide) (by decide) dL_knows_25
set_option maxRecDepth 20000 in
theorem ct_L_knows {l : Launch} {κ : KX}  {x0 : St} {x1 : St} {x2 : St} {ps : Nat → St} {ta : St} {tb : St} {d : St} {S : St} {pg : St} {c : St} {m : St} {ot : St} {a1 : Int32} {a2 : Int32} {res : St × Int32}  (h : sL_knows x0 ot a1 a2 = some res) : CtW l κ yL_knows cL_knows 5 [(0, 17, 20, 35)] 8 132 [.ref (xE κ 8 0 0), .int a1, .int a2, .ref (xE κ 10 0 0)] ((x0, x1, x2, ps, ta, tb, d, S, pg, c, m, ot)) ((x0, x1, x2, ps, ta, tb, d, S, pg, c, m, res.1)) (res.2) := by
  refine CtW_of RL rfl (by decide +kernel) (Nat.le_of_ble_eq_true rfl) (fun g hl hκ X hXF hf => ?_)
  subst hl; subst hκ
  exact gL_knows X hXF  hf h
set_option maxRecDepth 20000 in
theorem gL_why {g : GX}  {x0 : St} {x1 : St} {x2 : St} {ps : Nat → St} {ta : St} {tb : St} {d : St} {S : St} {pg : St} {c : St} {m : St} {ot : St} {a1 : Int32} {res : St × Int32} (X : CX g RL cL_why 4 8 132) (hXF : XF g [(0, 9, 12, 35)])  (hf : FinW g cL_why ((x0, x1, x2, ps, ta, tb, d, S, pg, c, m, res.1)) (res.2)) (h : sL_why x0 ot a1 = some res) : G g 0 0 ((x0, x1, x2, ps, ta, tb, d, S, pg, c, m, ot)) 0 [(0, .ref (xE (gκ g) 8 0 0)), (1, .int a1), (2, .ref (xE (gκ g) 10 0 0))] [] := by
  unfold sL_why at h
  refine G_aload_n X 2 dL_why_0 rfl rfl ?_
  refine G_iconst X (v := (0 : Int32)) dL_why_1 (by decide) ?_
  refine G_aload_n X 0 dL_why_2 rfl rfl ?_
  refine G_iload_n X 1 dL_why_3 rfl rfl ?_
  obtain ⟨q1, hq1, h⟩ := bd_some h
  rcases q1 with vq1 | xq1
  rotate_left
  · have h := sm_r h
    by_cases d2 : xq1 = 3
    · subst d2
      have h := it_t rfl h
      refine G_callVX X hXF (c := 3) (As := [.int a1]) (rest := [.int ((0 : Int32)), .ref (xE (gκ g) 10 0 0)]) (T' := (x0, x1, x2, ps, ta, tb, d, S, pg, c, m, ot)) (ce_X6_why (l := g.2.1) (κ := gκ g)  hq1) cal_X6_why wM_L_53 wI_X6_why wS_X6_why rfl rfl (by decide) rfl rfl (Nat.le_of_ble_eq_true rfl) dL_why_4 [] ⟨0, 9, 12, 35⟩ [] rfl (fun z hz => nomatch hz) (by decide) (by decide) wCl_L_35 (by decide) (fun q9 => ?_)
      refine G_astore_n X (lv' := [(3, .ref q9), (0, .ref (xE (gκ g) 8 0 0)), (1, .int a1), (2, .ref (xE (gκ g) 10 0 0))]) dL_why_12 rfl (by decide) rfl ?_
      refine G_iconst X (v := (1 : Int32)) dL_why_13 (by decide) ?_
      obtain rfl := Option.some.inj h
      exact hf _ _ _ _ (by decide) (by decide) dL_why_14
    have h := it_f d2 h
    cases h
  have h := sm_l h
  refine G_callV X (As := [.int a1]) (rest := [.int ((0 : Int32)), .ref (xE (gκ g) 10 0 0)]) (T' := (x0, x1, x2, ps, ta, tb, d, S, pg, c, m, ot)) (st2 := [.int vq1, .int ((0 : Int32)), .ref (xE (gκ g) 10 0 0)]) (ct_X6_why (l := g.2.1) (κ := gκ g)  hq1) cal_X6_why wM_L_53 wI_X6_why wS_X6_why rfl rfl (by decide) rfl rfl (Nat.le_of_ble_eq_true rfl) ⟨Nat.zero_le _, Nat.zero_le _⟩ dL_why_4 rfl ?_
  refine G_i2l X dL_why_7 ?_
  obtain ⟨g3, h⟩ := gd_some h
  obtain ⟨z4, ez4, h⟩ := nm_some h
  refine G_last X (T' := (x0, x1, x2, ps, ta, tb, d, S, pg, c, m, z4)) rfl rfl g3 (by rw [ez4]; rfl) dL_why_8 ?_
  refine G_goto X (tgt := 15) dL_why_9 (by decide) ?_
  refine G_iconst X (v := (0 : Int32)) dL_why_15 (by decide) ?_
  obtain rfl := Option.some.inj h
  exact hf _ _ _ _ (by decide) (by decide) dL_why_16
set_option maxRecDepth 20000 in
theorem ct_L_why {l : Launch} {κ : KX}  {x0 : St} {x1 : St} {x2 : St} {ps : Nat → St} {ta : St} {tb : St} {d : St} {S : St} {pg : St} {c : St} {m : St} {ot : St} {a1 : Int32} {res : St × Int32}  (h : sL_why x0 ot a1 = some res) : CtW l κ yL_why cL_why 4 [(0, 9, 12, 35)] 8 132 [.ref (xE κ 8 0 0), .int a1, .ref (xE κ 10 0 0)] ((x0, x1, x2, ps, ta, tb, d, S, pg, c, m, ot)) ((x0, x1, x2, ps, ta, tb, d, S, pg, c, m, res.1)) (res.2) := by
  refine CtW_of RL rfl (by decide +kernel) (Nat.le_of_ble_eq_true rfl) (fun g hl hκ X hXF hf => ?_)
  subst hl; subst hκ
  exact gL_why X hXF  hf h
set_option maxRecDepth 20000 in
theorem gL_whyNot {g : GX}  {x0 : St} {x1 : St} {x2 : St} {ps : Nat → St} {ta : St} {tb : St} {d : St} {S : St} {pg : St} {c : St} {m : St} {ot : St} {a1 : Int32} {a2 : Int32} {res : St × Int32} (X : CX g RL cL_whyNot 5 8 132) (hXF : XF g [(0, 10, 13, 35)])  (hf : FinW g cL_whyNot ((x0, x1, x2, ps, ta, tb, d, S, pg, c, m, res.1)) (res.2)) (h : sL_whyNot x0 ot a1 a2 = some res) : G g 0 0 ((x0, x1, x2, ps, ta, tb, d, S, pg, c, m, ot)) 0 [(0, .ref (xE (gκ g) 8 0 0)), (1, .int a1), (2, .int a2), (3, .ref (xE (gκ g) 10 0 0))] [] := by
  unfold sL_whyNot at h
  refine G_aload_n X 3 dL_whyNot_0 rfl rfl ?_
  refine G_iconst X (v := (0 : Int32)) dL_whyNot_1 (by decide) ?_
  refine G_aload_n X 0 dL_whyNot_2 rfl rfl ?_
  refine G_iload_n X 1 dL_whyNot_3 rfl rfl ?_
  refine G_iload_n X 2 dL_whyNot_4 rfl rfl ?_
  obtain ⟨q1, hq1, h⟩ := bd_some h
  rcases q1 with vq1 | xq1
  rotate_left
  · have h := sm_r h
    by_cases d2 : xq1 = 3
    · subst d2
      have h := it_t rfl h
      refine G_callVX X hXF (c := 3) (As := [.int a1, .int a2]) (rest := [.int ((0 : Int32)), .ref (xE (gκ g) 10 0 0)]) (T' := (x0, x1, x2, ps, ta, tb, d, S, pg, c, m, ot)) (ce_X6_whyNot (l := g.2.1) (κ := gκ g)  hq1) cal_X6_whyNot wM_L_56 wI_X6_whyNot wS_X6_whyNot rfl rfl (by decide) rfl rfl (Nat.le_of_ble_eq_true rfl) dL_whyNot_5 [] ⟨0, 10, 13, 35⟩ [] rfl (fun z hz => nomatch hz) (by decide) (by decide) wCl_L_35 (by decide) (fun q9 => ?_)
      refine G_astore X (lv' := [(4, .ref q9), (0, .ref (xE (gκ g) 8 0 0)), (1, .int a1), (2, .int a2), (3, .ref (xE (gκ g) 10 0 0))]) dL_whyNot_13 (by decide) rfl ?_
      refine G_iconst X (v := (1 : Int32)) dL_whyNot_15 (by decide) ?_
      obtain rfl := Option.some.inj h
      exact hf _ _ _ _ (by decide) (by decide) dL_whyNot_16
    have h := it_f d2 h
    cases h
  have h := sm_l h
  refine G_callV X (As := [.int a1, .int a2]) (rest := [.int ((0 : Int32)), .ref (xE (gκ g) 10 0 0)]) (T' := (x0, x1, x2, ps, ta, tb, d, S, pg, c, m, ot)) (st2 := [.int vq1, .int ((0 : Int32)), .ref (xE (gκ g) 10 0 0)]) (ct_X6_whyNot (l := g.2.1) (κ := gκ g)  hq1) cal_X6_whyNot wM_L_56 wI_X6_whyNot wS_X6_whyNot rfl rfl (by decide) rfl rfl (Nat.le_of_ble_eq_true rfl) ⟨Nat.zero_le _, Nat.zero_le _⟩ dL_whyNot_5 rfl ?_
  refine G_i2l X dL_whyNot_8 ?_
  obtain ⟨g3, h⟩ := gd_some h
  obtain ⟨z4, ez4, h⟩ := nm_some h
  refine G_last X (T' := (x0, x1, x2, ps, ta, tb, d, S, pg, c, m, z4)) rfl rfl g3 (by rw [ez4]; rfl) dL_whyNot_9 ?_
  refine G_goto X (tgt := 17) dL_whyNot_10 (by decide) ?_
  refine G_iconst X (v := (0 : Int32)) dL_whyNot_17 (by decide) ?_
  obtain rfl := Option.some.inj h
  exact hf _ _ _ _ (by decide) (by decide) dL_whyNot_18
set_option maxRecDepth 20000 in
theorem ct_L_whyNot {l : Launch} {κ : KX}  {x0 : St} {x1 : St} {x2 : St} {ps : Nat → St} {ta : St} {tb : St} {d : St} {S : St} {pg : St} {c : St} {m : St} {ot : St} {a1 : Int32} {a2 : Int32} {res : St × Int32}  (h : sL_whyNot x0 ot a1 a2 = some res) : CtW l κ yL_whyNot cL_whyNot 5 [(0, 10, 13, 35)] 8 132 [.ref (xE κ 8 0 0), .int a1, .int a2, .ref (xE κ 10 0 0)] ((x0, x1, x2, ps, ta, tb, d, S, pg, c, m, ot)) ((x0, x1, x2, ps, ta, tb, d, S, pg, c, m, res.1)) (res.2) := by
  refine CtW_of RL rfl (by decide +kernel) (Nat.le_of_ble_eq_true rfl) (fun g hl hκ X hXF hf => ?_)
  subst hl; subst hκ
  exact gL_whyNot X hXF  hf h
set_option maxRecDepth 20000 in
theorem gL_dueIn {g : GX}  {x0 : St} {x1 : St} {x2 : St} {ps : Nat → St} {ta : St} {tb : St} {d : St} {S : St} {pg : St} {c : St} {m : St} {ot : St} {a1 : Int32} {res : St × Int32} (X : CX g RL cL_dueIn 4 8 131) (hXF : XF g [(0, 9, 12, 35)])  (hf : FinW g cL_dueIn ((x0, x1, x2, ps, ta, tb, d, S, pg, c, m, res.1)) (res.2)) (h : sL_dueIn x0 ot a1 = some res) : G g 0 0 ((x0, x1, x2, ps, ta, tb, d, S, pg, c, m, ot)) 0 [(0, .ref (xE (gκ g) 8 0 0)), (1, .int a1), (2, .ref (xE (gκ g) 10 0 0))] [] := by
  unfold sL_dueIn at h
  refine G_aload_n X 2 dL_dueIn_0 rfl rfl ?_
  refine G_iconst X (v := (0 : Int32)) dL_dueIn_1 (by decide) ?_
  refine G_aload_n X 0 dL_dueIn_2 rfl rfl ?_
  refine G_iload_n X 1 dL_dueIn_3 rfl rfl ?_
  obtain ⟨q1, hq1, h⟩ := bd_some h
  rcases q1 with vq1 | xq1
  rotate_left
  · have h := sm_r h
    by_cases d2 : xq1 = 3
    · subst d2
      have h := it_t rfl h
      refine G_callVX X hXF (c := 3) (As := [.int a1]) (rest := [.int ((0 : Int32)), .ref (xE (gκ g) 10 0 0)]) (T' := (x0, x1, x2, ps, ta, tb, d, S, pg, c, m, ot)) (ce_X6_dueIn (l := g.2.1) (κ := gκ g)  hq1) cal_X6_dueIn wM_L_59 wI_X6_dueIn wS_X6_dueIn rfl rfl (by decide) rfl rfl (Nat.le_of_ble_eq_true rfl) dL_dueIn_4 [] ⟨0, 9, 12, 35⟩ [] rfl (fun z hz => nomatch hz) (by decide) (by decide) wCl_L_35 (by decide) (fun q9 => ?_)
      refine G_astore_n X (lv' := [(3, .ref q9), (0, .ref (xE (gκ g) 8 0 0)), (1, .int a1), (2, .ref (xE (gκ g) 10 0 0))]) dL_dueIn_12 rfl (by decide) rfl ?_
      refine G_iconst X (v := (1 : Int32)) dL_dueIn_13 (by decide) ?_
      obtain rfl := Option.some.inj h
      exact hf _ _ _ _ (by decide) (by decide) dL_dueIn_14
    have h := it_f d2 h
    cases h
  have h := sm_l h
  refine G_callV X (As := [.int a1]) (rest := [.int ((0 : Int32)), .ref (xE (gκ g) 10 0 0)]) (T' := (x0, x1, x2, ps, ta, tb, d, S, pg, c, m, ot)) (st2 := [.int vq1, .int ((0 : Int32)), .ref (xE (gκ g) 10 0 0)]) (ct_X6_dueIn (l := g.2.1) (κ := gκ g)  hq1) cal_X6_dueIn wM_L_59 wI_X6_dueIn wS_X6_dueIn rfl rfl (by decide) rfl rfl (Nat.le_of_ble_eq_true rfl) ⟨Nat.zero_le _, Nat.zero_le _⟩ dL_dueIn_4 rfl ?_
  refine G_i2l X dL_dueIn_7 ?_
  obtain ⟨g3, h⟩ := gd_some h
  obtain ⟨z4, ez4, h⟩ := nm_some h
  refine G_last X (T' := (x0, x1, x2, ps, ta, tb, d, S, pg, c, m, z4)) rfl rfl g3 (by rw [ez4]; rfl) dL_dueIn_8 ?_
  refine G_goto X (tgt := 15) dL_dueIn_9 (by decide) ?_
  refine G_iconst X (v := (0 : Int32)) dL_dueIn_15 (by decide) ?_
  obtain rfl := Option.some.inj h
  exact hf _ _ _ _ (by decide) (by decide) dL_dueIn_16
set_option maxRecDepth 20000 in
theorem ct_L_dueIn {l : Launch} {κ : KX}  {x0 : St} {x1 : St} {x2 : St} {ps : Nat → St} {ta : St} {tb : St} {d : St} {S : St} {pg : St} {c : St} {m : St} {ot : St} {a1 : Int32} {res : St × Int32}  (h : sL_dueIn x0 ot a1 = some res) : CtW l κ yL_dueIn cL_dueIn 4 [(0, 9, 12, 35)] 8 131 [.ref (xE κ 8 0 0), .int a1, .ref (xE κ 10 0 0)] ((x0, x1, x2, ps, ta, tb, d, S, pg, c, m, ot)) ((x0, x1, x2, ps, ta, tb, d, S, pg, c, m, res.1)) (res.2) := by
  refine CtW_of RL rfl (by decide +kernel) (Nat.le_of_ble_eq_true rfl) (fun g hl hκ X hXF hf => ?_)
  subst hl; subst hκ
  exact gL_dueIn X hXF  hf h
set_option maxRecDepth 20000 in
theorem gL_hidden {g : GX}  {x0 : St} {x1 : St} {x2 : St} {ps : Nat → St} {ta : St} {tb : St} {d : St} {S : St} {pg : St} {c : St} {m : St} {ot : St} {a1 : Int32} {res : St × Int32} (X : CX g RL cL_hidden 4 8 135) (hXF : XF g [(0, 9, 12, 35)])  (hf : FinW g cL_hidden ((x0, x1, x2, ps, ta, tb, d, S, pg, c, m, res.1)) (res.2)) (h : sL_hidden x0 ot a1 = some res) : G g 0 0 ((x0, x1, x2, ps, ta, tb, d, S, pg, c, m, ot)) 0 [(0, .ref (xE (gκ g) 8 0 0)), (1, .int a1), (2, .ref (xE (gκ g) 10 0 0))] [] := by
  unfold sL_hidden at h
  refine G_aload_n X 2 dL_hidden_0 rfl rfl ?_
  refine G_iconst X (v := (0 : Int32)) dL_hidden_1 (by decide) ?_
  refine G_aload_n X 0 dL_hidden_2 rfl rfl ?_
  refine G_iload_n X 1 dL_hidden_3 rfl rfl ?_
  obtain ⟨q1, hq1, h⟩ := bd_some h
  rcases q1 with vq1 | xq1
  rotate_left
  · have h := sm_r h
    by_cases d2 : xq1 = 3
    · subst d2
      have h := it_t rfl h
      refine G_callVX X hXF (c := 3) (As := [.int a1]) (rest := [.int ((0 : Int32)), .ref (xE (gκ g) 10 0 0)]) (T' := (x0, x1, x2, ps, ta, tb, d, S, pg, c, m, ot)) (ce_X6_hidden (l := g.2.1) (κ := gκ g)  hq1) cal_X6_hidden wM_L_62 wI_X6_hidden wS_X6_hidden rfl rfl (by decide) rfl rfl (Nat.le_of_ble_eq_true rfl) dL_hidden_4 [] ⟨0, 9, 12, 35⟩ [] rfl (fun z hz => nomatch hz) (by decide) (by decide) wCl_L_35 (by decide) (fun q9 => ?_)
      refine G_astore_n X (lv' := [(3, .ref q9), (0, .ref (xE (gκ g) 8 0 0)), (1, .int a1), (2, .ref (xE (gκ g) 10 0 0))]) dL_hidden_12 rfl (by decide) rfl ?_
      refine G_iconst X (v := (1 : Int32)) dL_hidden_13 (by decide) ?_
      obtain rfl := Option.some.inj h
      exact hf _ _ _ _ (by decide) (by decide) dL_hidden_14
    have h := it_f d2 h
    cases h
  have h := sm_l h
  refine G_callV X (As := [.int a1]) (rest := [.int ((0 : Int32)), .ref (xE (gκ g) 10 0 0)]) (T' := (x0, x1, x2, ps, ta, tb, d, S, pg, c, m, ot)) (st2 := [.int vq1, .int ((0 : Int32)), .ref (xE (gκ g) 10 0 0)]) (ct_X6_hidden (l := g.2.1) (κ := gκ g)  hq1) cal_X6_hidden wM_L_62 wI_X6_hidden wS_X6_hidden rfl rfl (by decide) rfl rfl (Nat.le_of_ble_eq_true rfl) ⟨Nat.zero_le _, Nat.zero_le _⟩ dL_hidden_4 rfl ?_
  refine G_i2l X dL_hidden_7 ?_
  obtain ⟨g3, h⟩ := gd_some h
  obtain ⟨z4, ez4, h⟩ := nm_some h
  refine G_last X (T' := (x0, x1, x2, ps, ta, tb, d, S, pg, c, m, z4)) rfl rfl g3 (by rw [ez4]; rfl) dL_hidden_8 ?_
  refine G_goto X (tgt := 15) dL_hidden_9 (by decide) ?_
  refine G_iconst X (v := (0 : Int32)) dL_hidden_15 (by decide) ?_
  obtain rfl := Option.some.inj h
  exact hf _ _ _ _ (by decide) (by decide) dL_hidden_16
set_option maxRecDepth 20000 in
theorem ct_L_hidden {l : Launch} {κ : KX}  {x0 : St} {x1 : St} {x2 : St} {ps : Nat → St} {ta : St} {tb : St} {d : St} {S : St} {pg : St} {c : St} {m : St} {ot : St} {a1 : Int32} {res : St × Int32}  (h : sL_hidden x0 ot a1 = some res) : CtW l κ yL_hidden cL_hidden 4 [(0, 9, 12, 35)] 8 135 [.ref (xE κ 8 0 0), .int a1, .ref (xE κ 10 0 0)] ((x0, x1, x2, ps, ta, tb, d, S, pg, c, m, ot)) ((x0, x1, x2, ps, ta, tb, d, S, pg, c, m, res.1)) (res.2) := by
  refine CtW_of RL rfl (by decide +kernel) (Nat.le_of_ble_eq_true rfl) (fun g hl hκ X hXF hf => ?_)
  subst hl; subst hκ
  exact gL_hidden X hXF  hf h
set_option maxRecDepth 20000 in
theorem gL_hops {g : GX}  {x0 : St} {x1 : St} {x2 : St} {ps : Nat → St} {ta : St} {tb : St} {d : St} {S : St} {pg : St} {c : St} {m : St} {ot : St} {a1 : Int32} {a2 : Int32} {res : St × Int32} (X : CX g RL cL_hops 5 8 134) (hXF : XF g [(0, 10, 13, 35)])  (hf : FinW g cL_hops ((x0, x1, x2, ps, ta, tb, d, S, pg, c, m, res.1)) (res.2)) (h : sL_hops x0 ot a1 a2 = some res) : G g 0 0 ((x0, x1, x2, ps, ta, tb, d, S, pg, c, m, ot)) 0 [(0, .ref (xE (gκ g) 8 0 0)), (1, .int a1), (2, .int a2), (3, .ref (xE (gκ g) 10 0 0))] [] := by
  unfold sL_hops at h
  refine G_aload_n X 3 dL_hops_0 rfl rfl ?_
  refine G_iconst X (v := (0 : Int32)) dL_hops_1 (by decide) ?_
  refine G_aload_n X 0 dL_hops_2 rfl rfl ?_
  refine G_iload_n X 1 dL_hops_3 rfl rfl ?_
  refine G_iload_n X 2 dL_hops_4 rfl rfl ?_
  obtain ⟨q1, hq1, h⟩ := bd_some h
  rcases q1 with vq1 | xq1
  rotate_left
  · have h := sm_r h
    by_cases d2 : xq1 = 3
    · subst d2
      have h := it_t rfl h
      refine G_callVX X hXF (c := 3) (As := [.int a1, .int a2]) (rest := [.int ((0 : Int32)), .ref (xE (gκ g) 10 0 0)]) (T' := (x0, x1, x2, ps, ta, tb, d, S, pg, c, m, ot)) (ce_X6_hops (l := g.2.1) (κ := gκ g)  hq1) cal_X6_hops wM_L_65 wI_X6_hops wS_X6_hops rfl rfl (by decide) rfl rfl (Nat.le_of_ble_eq_true rfl) dL_hops_5 [] ⟨0, 10, 13, 35⟩ [] rfl (fun z hz => nomatch hz) (by decide) (by decide) wCl_L_35 (by decide) (fun q9 => ?_)
      refine G_astore X (lv' := [(4, .ref q9), (0, .ref (xE (gκ g) 8 0 0)), (1, .int a1), (2, .int a2), (3, .ref (xE (gκ g) 10 0 0))]) dL_hops_13 (by decide) rfl ?_
      refine G_iconst X (v := (1 : Int32)) dL_hops_15 (by decide) ?_
      obtain rfl := Option.some.inj h
      exact hf _ _ _ _ (by decide) (by decide) dL_hops_16
    have h := it_f d2 h
    cases h
  have h := sm_l h
  refine G_callV X (As := [.int a1, .int a2]) (rest := [.int ((0 : Int32)), .ref (xE (gκ g) 10 0 0)]) (T' := (x0, x1, x2, ps, ta, tb, d, S, pg, c, m, ot)) (st2 := [.int vq1, .int ((0 : Int32)), .ref (xE (gκ g) 10 0 0)]) (ct_X6_hops (l := g.2.1) (κ := gκ g)  hq1) cal_X6_hops wM_L_65 wI_X6_hops wS_X6_hops rfl rfl (by decide) rfl rfl (Nat.le_of_ble_eq_true rfl) ⟨Nat.zero_le _, Nat.zero_le _⟩ dL_hops_5 rfl ?_
  refine G_i2l X dL_hops_8 ?_
  obtain ⟨g3, h⟩ := gd_some h
  obtain ⟨z4, ez4, h⟩ := nm_some h
  refine G_last X (T' := (x0, x1, x2, ps, ta, tb, d, S, pg, c, m, z4)) rfl rfl g3 (by rw [ez4]; rfl) dL_hops_9 ?_
  refine G_goto X (tgt := 17) dL_hops_10 (by decide) ?_
  refine G_iconst X (v := (0 : Int32)) dL_hops_17 (by decide) ?_
  obtain rfl := Option.some.inj h
  exact hf _ _ _ _ (by decide) (by decide) dL_hops_18
set_option maxRecDepth 20000 in
theorem ct_L_hops {l : Launch} {κ : KX}  {x0 : St} {x1 : St} {x2 : St} {ps : Nat → St} {ta : St} {tb : St} {d : St} {S : St} {pg : St} {c : St} {m : St} {ot : St} {a1 : Int32} {a2 : Int32} {res : St × Int32}  (h : sL_hops x0 ot a1 a2 = some res) : CtW l κ yL_hops cL_hops 5 [(0, 10, 13, 35)] 8 134 [.ref (xE κ 8 0 0), .int a1, .int a2, .ref (xE κ 10 0 0)] ((x0, x1, x2, ps, ta, tb, d, S, pg, c, m, ot)) ((x0, x1, x2, ps, ta, tb, d, S, pg, c, m, res.1)) (res.2) := by
  refine CtW_of RL rfl (by decide +kernel) (Nat.le_of_ble_eq_true rfl) (fun g hl hκ X hXF hf => ?_)
  subst hl; subst hκ
  exact gL_hops X hXF  hf h
set_option maxRecDepth 20000 in
theorem gL_ears {g : GX}  {x0 : St} {x1 : St} {x2 : St} {ps : Nat → St} {ta : St} {tb : St} {d : St} {S : St} {pg : St} {c : St} {m : St} {ot : St} {a1 : Int32} {res : St × Int32} (X : CX g RL cL_ears 4 8 135) (hXF : XF g [(0, 9, 12, 35)])  (hf : FinW g cL_ears ((x0, x1, x2, ps, ta, tb, d, S, pg, c, m, res.1)) (res.2)) (h : sL_ears x0 ot a1 = some res) : G g 0 0 ((x0, x1, x2, ps, ta, tb, d, S, pg, c, m, ot)) 0 [(0, .ref (xE (gκ g) 8 0 0)), (1, .int a1), (2, .ref (xE (gκ g) 10 0 0))] [] := by
  unfold sL_ears at h
  refine G_aload_n X 2 dL_ears_0 rfl rfl ?_
  refine G_iconst X (v := (0 : Int32)) dL_ears_1 (by decide) ?_
  refine G_aload_n X 0 dL_ears_2 rfl rfl ?_
  refine G_iload_n X 1 dL_ears_3 rfl rfl ?_
  obtain ⟨q1, hq1, h⟩ := bd_some h
  rcases q1 with vq1 | xq1
  rotate_left
  · have h := sm_r h
    by_cases d2 : xq1 = 3
    · subst d2
      have h := it_t rfl h
      refine G_callVX X hXF (c := 3) (As := [.int a1]) (rest := [.int ((0 : Int32)), .ref (xE (gκ g) 10 0 0)]) (T' := (x0, x1, x2, ps, ta, tb, d, S, pg, c, m, ot)) (ce_X6_ears (l := g.2.1) (κ := gκ g)  hq1) cal_X6_ears wM_L_68 wI_X6_ears wS_X6_ears rfl rfl (by decide) rfl rfl (Nat.le_of_ble_eq_true rfl) dL_ears_4 [] ⟨0, 9, 12, 35⟩ [] rfl (fun z hz => nomatch hz) (by decide) (by decide) wCl_L_35 (by decide) (fun q9 => ?_)
      refine G_astore_n X (lv' := [(3, .ref q9), (0, .ref (xE (gκ g) 8 0 0)), (1, .int a1), (2, .ref (xE (gκ g) 10 0 0))]) dL_ears_12 rfl (by decide) rfl ?_
      refine G_iconst X (v := (1 : Int32)) dL_ears_13 (by decide) ?_
      obtain rfl := Option.some.inj h
      exact hf _ _ _ _ (by decide) (by decide) dL_ears_14
    have h := it_f d2 h
    cases h
  have h := sm_l h
  refine G_callV X (As := [.int a1]) (rest := [.int ((0 : Int32)), .ref (xE (gκ g) 10 0 0)]) (T' := (x0, x1, x2, ps, ta, tb, d, S, pg, c, m, ot)) (st2 := [.int vq1, .int ((0 : Int32)), .ref (xE (gκ g) 10 0 0)]) (ct_X6_ears (l := g.2.1) (κ := gκ g)  hq1) cal_X6_ears wM_L_68 wI_X6_ears wS_X6_ears rfl rfl (by decide) rfl rfl (Nat.le_of_ble_eq_true rfl) ⟨Nat.zero_le _, Nat.zero_le _⟩ dL_ears_4 rfl ?_
  refine G_i2l X dL_ears_7 ?_
  obtain ⟨g3, h⟩ := gd_some h
  obtain ⟨z4, ez4, h⟩ := nm_some h
  refine G_last X (T' := (x0, x1, x2, ps, ta, tb, d, S, pg, c, m, z4)) rfl rfl g3 (by rw [ez4]; rfl) dL_ears_8 ?_
  refine G_goto X (tgt := 15) dL_ears_9 (by decide) ?_
  refine G_iconst X (v := (0 : Int32)) dL_ears_15 (by decide) ?_
  obtain rfl := Option.some.inj h
  exact hf _ _ _ _ (by decide) (by decide) dL_ears_16
set_option maxRecDepth 20000 in
theorem ct_L_ears {l : Launch} {κ : KX}  {x0 : St} {x1 : St} {x2 : St} {ps : Nat → St} {ta : St} {tb : St} {d : St} {S : St} {pg : St} {c : St} {m : St} {ot : St} {a1 : Int32} {res : St × Int32}  (h : sL_ears x0 ot a1 = some res) : CtW l κ yL_ears cL_ears 4 [(0, 9, 12, 35)] 8 135 [.ref (xE κ 8 0 0), .int a1, .ref (xE κ 10 0 0)] ((x0, x1, x2, ps, ta, tb, d, S, pg, c, m, ot)) ((x0, x1, x2, ps, ta, tb, d, S, pg, c, m, res.1)) (res.2) := by
  refine CtW_of RL rfl (by decide +kernel) (Nat.le_of_ble_eq_true rfl) (fun g hl hκ X hXF hf => ?_)
  subst hl; subst hκ
  exact gL_ears X hXF  hf h
set_option maxRecDepth 20000 in
theorem gL_window {g : GX}  {x0 : St} {x1 : St} {x2 : St} {ps : Nat → St} {ta : St} {tb : St} {d : St} {S : St} {pg : St} {c : St} {m : St} {ot : St} {a1 : Int32} {res : St × Int32} (X : CX g RL cL_window 4 8 131) (hXF : XF g [(0, 9, 12, 35)])  (hf : FinW g cL_window ((x0, x1, x2, ps, ta, tb, d, S, pg, c, m, res.1)) (res.2)) (h : sL_window x0 ot a1 = some res) : G g 0 0 ((x0, x1, x2, ps, ta, tb, d, S, pg, c, m, ot)) 0 [(0, .ref (xE (gκ g) 8 0 0)), (1, .int a1), (2, .ref (xE (gκ g) 10 0 0))] [] := by
  unfold sL_window at h
  refine G_aload_n X 2 dL_window_0 rfl rfl ?_
  refine G_iconst X (v := (0 : Int32)) dL_window_1 (by decide) ?_
  refine G_aload_n X 0 dL_window_2 rfl rfl ?_
  refine G_iload_n X 1 dL_window_3 rfl rfl ?_
  obtain ⟨q1, hq1, h⟩ := bd_some h
  rcases q1 with vq1 | xq1
  rotate_left
  · have h := sm_r h
    by_cases d2 : xq1 = 3
    · subst d2
      have h := it_t rfl h
      refine G_callVX X hXF (c := 3) (As := [.int a1]) (rest := [.int ((0 : Int32)), .ref (xE (gκ g) 10 0 0)]) (T' := (x0, x1, x2, ps, ta, tb, d, S, pg, c, m, ot)) (ce_X6_window (l := g.2.1) (κ := gκ g)  hq1) cal_X6_window wM_L_71 wI_X6_window wS_X6_window rfl rfl (by decide) rfl rfl (Nat.le_of_ble_eq_true rfl) dL_window_4 [] ⟨0, 9, 12, 35⟩ [] rfl (fun z hz => nomatch hz) (by decide) (by decide) wCl_L_35 (by decide) (fun q9 => ?_)
      refine G_astore_n X (lv' := [(3, .ref q9), (0, .ref (xE (gκ g) 8 0 0)), (1, .int a1), (2, .ref (xE (gκ g) 10 0 0))]) dL_window_12 rfl (by decide) rfl ?_
      refine G_iconst X (v := (1 : Int32)) dL_window_13 (by decide) ?_
      obtain rfl := Option.some.inj h
      exact hf _ _ _ _ (by decide) (by decide) dL_window_14
    have h := it_f d2 h
    cases h
  have h := sm_l h
  refine G_callV X (As := [.int a1]) (rest := [.int ((0 : Int32)), .ref (xE (gκ g) 10 0 0)]) (T' := (x0, x1, x2, ps, ta, tb, d, S, pg, c, m, ot)) (st2 := [.int vq1, .int ((0 : Int32)), .ref (xE (gκ g) 10 0 0)]) (ct_X6_window (l := g.2.1) (κ := gκ g)  hq1) cal_X6_window wM_L_71 wI_X6_window wS_X6_window rfl rfl (by decide) rfl rfl (Nat.le_of_ble_eq_true rfl) ⟨Nat.zero_le _, Nat.zero_le _⟩ dL_window_4 rfl ?_
  refine G_i2l X dL_window_7 ?_
  obtain ⟨g3, h⟩ := gd_some h
  obtain ⟨z4, ez4, h⟩ := nm_some h
  refine G_last X (T' := (x0, x1, x2, ps, ta, tb, d, S, pg, c, m, z4)) rfl rfl g3 (by rw [ez4]; rfl) dL_window_8 ?_
  refine G_goto X (tgt := 15) dL_window_9 (by decide) ?_
  refine G_iconst X (v := (0 : Int32)) dL_window_15 (by decide) ?_
  obtain rfl := Option.some.inj h
  exact hf _ _ _ _ (by decide) (by decide) dL_window_16
set_option maxRecDepth 20000 in
theorem ct_L_window {l : Launch} {κ : KX}  {x0 : St} {x1 : St} {x2 : St} {ps : Nat → St} {ta : St} {tb : St} {d : St} {S : St} {pg : St} {c : St} {m : St} {ot : St} {a1 : Int32} {res : St × Int32}  (h : sL_window x0 ot a1 = some res) : CtW l κ yL_window cL_window 4 [(0, 9, 12, 35)] 8 131 [.ref (xE κ 8 0 0), .int a1, .ref (xE κ 10 0 0)] ((x0, x1, x2, ps, ta, tb, d, S, pg, c, m, ot)) ((x0, x1, x2, ps, ta, tb, d, S, pg, c, m, res.1)) (res.2) := by
  refine CtW_of RL rfl (by decide +kernel) (Nat.le_of_ble_eq_true rfl) (fun g hl hκ X hXF hf => ?_)
  subst hl; subst hκ
  exact gL_window X hXF  hf h
set_option maxRecDepth 20000 in
theorem gL_stateIn {g : GX}  {x0 : St} {x1 : St} {x2 : St} {ps : Nat → St} {ta : St} {tb : St} {d : St} {S : St} {pg : St} {c : St} {m : St} {ot : St} {a1 : Int32} {a2 : Int32} {res : St × St × Int32} (X : CX g RL cL_stateIn 5 8 150) (hXF : XF g [(0, 10, 13, 35), (0, 10, 17, 19)])  (hf : FinW g cL_stateIn ((x0, res.1, x2, ps, ta, tb, d, S, pg, c, m, res.2.1)) (res.2.2)) (h : sL_stateIn x0 x1 ot a1 a2 = some res) : G g 0 0 ((x0, x1, x2, ps, ta, tb, d, S, pg, c, m, ot)) 0 [(0, .ref (xE (gκ g) 8 0 0)), (1, .int a1), (2, .int a2), (3, .ref (xE (gκ g) 10 0 0))] [] := by
  unfold sL_stateIn at h
  refine G_aload_n X 3 dL_stateIn_0 rfl rfl ?_
  refine G_iconst X (v := (0 : Int32)) dL_stateIn_1 (by decide) ?_
  refine G_aload_n X 0 dL_stateIn_2 rfl rfl ?_
  refine G_iload_n X 1 dL_stateIn_3 rfl rfl ?_
  refine G_iload_n X 2 dL_stateIn_4 rfl rfl ?_
  obtain ⟨q1, hq1, h⟩ := bd_some h
  rcases q1 with ⟨e0q1, vq1 | xq1⟩
  rotate_left
  · have h := sm_r h
    by_cases d2 : xq1 = 3
    · subst d2
      have h := it_t rfl h
      refine G_callVX X hXF (c := 3) (As := [.int a1, .int a2]) (rest := [.int ((0 : Int32)), .ref (xE (gκ g) 10 0 0)]) (T' := (x0, e0q1, x2, ps, ta, tb, d, S, pg, c, m, ot)) (ce_X6_stateIn (l := g.2.1) (κ := gκ g)  hq1) cal_X6_stateIn wM_L_74 wI_X6_stateIn wS_X6_stateIn rfl rfl (by decide) rfl rfl (Nat.le_of_ble_eq_true rfl) dL_stateIn_5 [] ⟨0, 10, 13, 35⟩ [⟨0, 10, 17, 19⟩] rfl (fun z hz => nomatch hz) (by decide) (by decide) wCl_L_35 (by decide) (fun q9 => ?_)
      refine G_astore X (lv' := [(4, .ref q9), (0, .ref (xE (gκ g) 8 0 0)), (1, .int a1), (2, .int a2), (3, .ref (xE (gκ g) 10 0 0))]) dL_stateIn_13 (by decide) rfl ?_
      refine G_iconst X (v := (1 : Int32)) dL_stateIn_15 (by decide) ?_
      obtain rfl := Option.some.inj h
      exact hf _ _ _ _ (by decide) (by decide) dL_stateIn_16
    have h := it_f d2 h
    by_cases d3 : xq1 = 2
    · subst d3
      have h := it_t rfl h
      refine G_callVX X hXF (c := 2) (As := [.int a1, .int a2]) (rest := [.int ((0 : Int32)), .ref (xE (gκ g) 10 0 0)]) (T' := (x0, e0q1, x2, ps, ta, tb, d, S, pg, c, m, ot)) (ce_X6_stateIn (l := g.2.1) (κ := gκ g)  hq1) cal_X6_stateIn wM_L_74 wI_X6_stateIn wS_X6_stateIn rfl rfl (by decide) rfl rfl (Nat.le_of_ble_eq_true rfl) dL_stateIn_5 [⟨0, 10, 13, 35⟩] ⟨0, 10, 17, 19⟩ [] rfl (by intro z hz; cases List.mem_singleton.mp hz; exact ⟨by decide, 3, by decide, by decide, wCl_L_35⟩) (by decide) (by decide) wCl_L_19 (by decide) (fun q9 => ?_)
      refine G_astore X (lv' := [(4, .ref q9), (0, .ref (xE (gκ g) 8 0 0)), (1, .int a1), (2, .int a2), (3, .ref (xE (gκ g) 10 0 0))]) dL_stateIn_17 (by decide) rfl ?_
      refine G_iconst X (v := (2 : Int32)) dL_stateIn_19 (by decide) ?_
      obtain rfl := Option.some.inj h
      exact hf _ _ _ _ (by decide) (by decide) dL_stateIn_20
    have h := it_f d3 h
    cases h
  have h := sm_l h
  refine G_callV X (As := [.int a1, .int a2]) (rest := [.int ((0 : Int32)), .ref (xE (gκ g) 10 0 0)]) (T' := (x0, e0q1, x2, ps, ta, tb, d, S, pg, c, m, ot)) (st2 := [.int vq1, .int ((0 : Int32)), .ref (xE (gκ g) 10 0 0)]) (ct_X6_stateIn (l := g.2.1) (κ := gκ g)  hq1) cal_X6_stateIn wM_L_74 wI_X6_stateIn wS_X6_stateIn rfl rfl (by decide) rfl rfl (Nat.le_of_ble_eq_true rfl) ⟨Nat.zero_le _, Nat.zero_le _⟩ dL_stateIn_5 rfl ?_
  refine G_i2l X dL_stateIn_8 ?_
  obtain ⟨g4, h⟩ := gd_some h
  obtain ⟨z5, ez5, h⟩ := nm_some h
  refine G_last X (T' := (x0, e0q1, x2, ps, ta, tb, d, S, pg, c, m, z5)) rfl rfl g4 (by rw [ez5]; rfl) dL_stateIn_9 ?_
  refine G_goto X (tgt := 21) dL_stateIn_10 (by decide) ?_
  refine G_iconst X (v := (0 : Int32)) dL_stateIn_21 (by decide) ?_
  obtain rfl := Option.some.inj h
  exact hf _ _ _ _ (by decide) (by decide) dL_stateIn_22
set_option maxRecDepth 20000 in
theorem ct_L_stateIn {l : Launch} {κ : KX}  {x0 : St} {x1 : St} {x2 : St} {ps : Nat → St} {ta : St} {tb : St} {d : St} {S : St} {pg : St} {c : St} {m : St} {ot : St} {a1 : Int32} {a2 : Int32} {res : St × St × Int32}  (h : sL_stateIn x0 x1 ot a1 a2 = some res) : CtW l κ yL_stateIn cL_stateIn 5 [(0, 10, 13, 35), (0, 10, 17, 19)] 8 150 [.ref (xE κ 8 0 0), .int a1, .int a2, .ref (xE κ 10 0 0)] ((x0, x1, x2, ps, ta, tb, d, S, pg, c, m, ot)) ((x0, res.1, x2, ps, ta, tb, d, S, pg, c, m, res.2.1)) (res.2.2) := by
  refine CtW_of RL rfl (by decide +kernel) (Nat.le_of_ble_eq_true rfl) (fun g hl hκ X hXF hf => ?_)
  subst hl; subst hκ
  exact gL_stateIn X hXF  hf h
set_option maxRecDepth 20000 in
theorem gL_energyIn {g : GX}  {x0 : St} {x1 : St} {x2 : St} {ps : Nat → St} {ta : St} {tb : St} {d : St} {S : St} {pg : St} {c : St} {m : St} {ot : St} {a1 : Int32} {a2 : Int32} {res : St × St × Int32} (X : CX g RL cL_energyIn 5 8 150) (hXF : XF g [(0, 10, 13, 35), (0, 10, 17, 19)])  (hf : FinW g cL_energyIn ((x0, res.1, x2, ps, ta, tb, d, S, pg, c, m, res.2.1)) (res.2.2)) (h : sL_energyIn x0 x1 ot a1 a2 = some res) : G g 0 0 ((x0, x1, x2, ps, ta, tb, d, S, pg, c, m, ot)) 0 [(0, .ref (xE (gκ g) 8 0 0)), (1, .int a1), (2, .int a2), (3, .ref (xE (gκ g) 10 0 0))] [] := by
  unfold sL_energyIn at h
  refine G_aload_n X 3 dL_energyIn_0 rfl rfl ?_
  refine G_iconst X (v := (0 : Int32)) dL_energyIn_1 (by decide) ?_
  refine G_aload_n X 0 dL_energyIn_2 rfl rfl ?_
  refine G_iload_n X 1 dL_energyIn_3 rfl rfl ?_
  refine G_iload_n X 2 dL_energyIn_4 rfl rfl ?_
  obtain ⟨q1, hq1, h⟩ := bd_some h
  rcases q1 with ⟨e0q1, vq1 | xq1⟩
  rotate_left
  · have h := sm_r h
    by_cases d2 : xq1 = 3
    · subst d2
      have h := it_t rfl h
      refine G_callVX X hXF (c := 3) (As := [.int a1, .int a2]) (rest := [.int ((0 : Int32)), .ref (xE (gκ g) 10 0 0)]) (T' := (x0, e0q1, x2, ps, ta, tb, d, S, pg, c, m, ot)) (ce_X6_energyIn (l := g.2.1) (κ := gκ g)  hq1) cal_X6_energyIn wM_L_77 wI_X6_energyIn wS_X6_energyIn rfl rfl (by decide) rfl rfl (Nat.le_of_ble_eq_true rfl) dL_energyIn_5 [] ⟨0, 10, 13, 35⟩ [⟨0, 10, 17, 19⟩] rfl (fun z hz => nomatch hz) (by decide) (by decide) wCl_L_35 (by decide) (fun q9 => ?_)
      refine G_astore X (lv' := [(4, .ref q9), (0, .ref (xE (gκ g) 8 0 0)), (1, .int a1), (2, .int a2), (3, .ref (xE (gκ g) 10 0 0))]) dL_energyIn_13 (by decide) rfl ?_
      refine G_iconst X (v := (1 : Int32)) dL_energyIn_15 (by decide) ?_
      obtain rfl := Option.some.inj h
      exact hf _ _ _ _ (by decide) (by decide) dL_energyIn_16
    have h := it_f d2 h
    by_cases d3 : xq1 = 2
    · subst d3
      have h := it_t rfl h
      refine G_callVX X hXF (c := 2) (As := [.int a1, .int a2]) (rest := [.int ((0 : Int32)), .ref (xE (gκ g) 10 0 0)]) (T' := (x0, e0q1, x2, ps, ta, tb, d, S, pg, c, m, ot)) (ce_X6_energyIn (l := g.2.1) (κ := gκ g)  hq1) cal_X6_energyIn wM_L_77 wI_X6_energyIn wS_X6_energyIn rfl rfl (by decide) rfl rfl (Nat.le_of_ble_eq_true rfl) dL_energyIn_5 [⟨0, 10, 13, 35⟩] ⟨0, 10, 17, 19⟩ [] rfl (by intro z hz; cases List.mem_singleton.mp hz; exact ⟨by decide, 3, by decide, by decide, wCl_L_35⟩) (by decide) (by decide) wCl_L_19 (by decide) (fun q9 => ?_)
      refine G_astore X (lv' := [(4, .ref q9), (0, .ref (xE (gκ g) 8 0 0)), (1, .int a1), (2, .int a2), (3, .ref (xE (gκ g) 10 0 0))]) dL_energyIn_17 (by decide) rfl ?_
      refine G_iconst X (v := (2 : Int32)) dL_energyIn_19 (by decide) ?_
      obtain rfl := Option.some.inj h
      exact hf _ _ _ _ (by decide) (by decide) dL_energyIn_20
    have h := it_f d3 h
    cases h
  have h := sm_l h
  refine G_callV X (As := [.int a1, .int a2]) (rest := [.int ((0 : Int32)), .ref (xE (gκ g) 10 0 0)]) (T' := (x0, e0q1, x2, ps, ta, tb, d, S, pg, c, m, ot)) (st2 := [.int vq1, .int ((0 : Int32)), .ref (xE (gκ g) 10 0 0)]) (ct_X6_energyIn (l := g.2.1) (κ := gκ g)  hq1) cal_X6_energyIn wM_L_77 wI_X6_energyIn wS_X6_energyIn rfl rfl (by decide) rfl rfl (Nat.le_of_ble_eq_true rfl) ⟨Nat.zero_le _, Nat.zero_le _⟩ dL_energyIn_5 rfl ?_
  refine G_i2l X dL_energyIn_8 ?_
  obtain ⟨g4, h⟩ := gd_some h
  obtain ⟨z5, ez5, h⟩ := nm_some h
  refine G_last X (T' := (x0, e0q1, x2, ps, ta, tb, d, S, pg, c, m, z5)) rfl rfl g4 (by rw [ez5]; rfl) dL_energyIn_9 ?_
  refine G_goto X (tgt := 21) dL_energyIn_10 (by decide) ?_
  refine G_iconst X (v := (0 : Int32)) dL_energyIn_21 (by decide) ?_
  obtain rfl := Option.some.inj h
  exact hf _ _ _ _ (by decide) (by decide) dL_energyIn_22
set_option maxRecDepth 20000 in
theorem ct_L_energyIn {l : Launch} {κ : KX}  {x0 : St} {x1 : St} {x2 : St} {ps : Nat → St} {ta : St} {tb : St} {d : St} {S : St} {pg : St} {c : St} {m : St} {ot : St} {a1 : Int32} {a2 : Int32} {res : St × St × Int32}  (h : sL_energyIn x0 x1 ot a1 a2 = some res) : CtW l κ yL_energyIn cL_energyIn 5 [(0, 10, 13, 35), (0, 10, 17, 19)] 8 150 [.ref (xE κ 8 0 0), .int a1, .int a2, .ref (xE κ 10 0 0)] ((x0, x1, x2, ps, ta, tb, d, S, pg, c, m, ot)) ((x0, res.1, x2, ps, ta, tb, d, S, pg, c, m, res.2.1)) (res.2.2) := by
  refine CtW_of RL rfl (by decide +kernel) (Nat.le_of_ble_eq_true rfl) (fun g hl hκ X hXF hf => ?_)
  subst hl; subst hκ
  exact gL_energyIn X hXF  hf h
set_option maxRecDepth 20000 in
theorem gL_collisionsIn {g : GX}  {x0 : St} {x1 : St} {x2 : St} {ps : Nat → St} {ta : St} {tb : St} {d : St} {S : St} {pg : St} {c : St} {m : St} {ot : St} {a1 : Int32} {res : St × St × Int32} (X : CX g RL cL_collisionsIn 4 8 149) (hXF : XF g [(0, 9, 12, 19)])  (hf : FinW g cL_collisionsIn ((x0, res.1, x2, ps, ta, tb, d, S, pg, c, m, res.2.1)) (res.2.2)) (h : sL_collisionsIn x0 x1 ot a1 = some res) : G g 0 0 ((x0, x1, x2, ps, ta, tb, d, S, pg, c, m, ot)) 0 [(0, .ref (xE (gκ g) 8 0 0)), (1, .int a1), (2, .ref (xE (gκ g) 10 0 0))] [] := by
  unfold sL_collisionsIn at h
  refine G_aload_n X 2 dL_collisionsIn_0 rfl rfl ?_
  refine G_iconst X (v := (0 : Int32)) dL_collisionsIn_1 (by decide) ?_
  refine G_aload_n X 0 dL_collisionsIn_2 rfl rfl ?_
  refine G_iload_n X 1 dL_collisionsIn_3 rfl rfl ?_
  obtain ⟨q1, hq1, h⟩ := bd_some h
  rcases q1 with ⟨e0q1, vq1 | xq1⟩
  rotate_left
  · have h := sm_r h
    by_cases d2 : xq1 = 2
    · subst d2
      have h := it_t rfl h
      refine G_callVX X hXF (c := 2) (As := [.int a1]) (rest := [.int ((0 : Int32)), .ref (xE (gκ g) 10 0 0)]) (T' := (x0, e0q1, x2, ps, ta, tb, d, S, pg, c, m, ot)) (ce_X6_collisionsIn (l := g.2.1) (κ := gκ g)  hq1) cal_X6_collisionsIn wM_L_80 wI_X6_collisionsIn wS_X6_collisionsIn rfl rfl (by decide) rfl rfl (Nat.le_of_ble_eq_true rfl) dL_collisionsIn_4 [] ⟨0, 9, 12, 19⟩ [] rfl (fun z hz => nomatch hz) (by decide) (by decide) wCl_L_19 (by decide) (fun q9 => ?_)
      refine G_astore_n X (lv' := [(3, .ref q9), (0, .ref (xE (gκ g) 8 0 0)), (1, .int a1), (2, .ref (xE (gκ g) 10 0 0))]) dL_collisionsIn_12 rfl (by decide) rfl ?_
      refine G_iconst X (v := (1 : Int32)) dL_collisionsIn_13 (by decide) ?_
      obtain rfl := Option.some.inj h
      exact hf _ _ _ _ (by decide) (by decide) dL_collisionsIn_14
    have h := it_f d2 h
    cases h
  have h := sm_l h
  refine G_callV X (As := [.int a1]) (rest := [.int ((0 : Int32)), .ref (xE (gκ g) 10 0 0)]) (T' := (x0, e0q1, x2, ps, ta, tb, d, S, pg, c, m, ot)) (st2 := [.int vq1, .int ((0 : Int32)), .ref (xE (gκ g) 10 0 0)]) (ct_X6_collisionsIn (l := g.2.1) (κ := gκ g)  hq1) cal_X6_collisionsIn wM_L_80 wI_X6_collisionsIn wS_X6_collisionsIn rfl rfl (by decide) rfl rfl (Nat.le_of_ble_eq_true rfl) ⟨Nat.zero_le _, Nat.zero_le _⟩ dL_collisionsIn_4 rfl ?_
  refine G_i2l X dL_collisionsIn_7 ?_
  obtain ⟨g3, h⟩ := gd_some h
  obtain ⟨z4, ez4, h⟩ := nm_some h
  refine G_last X (T' := (x0, e0q1, x2, ps, ta, tb, d, S, pg, c, m, z4)) rfl rfl g3 (by rw [ez4]; rfl) dL_collisionsIn_8 ?_
  refine G_goto X (tgt := 15) dL_collisionsIn_9 (by decide) ?_
  refine G_iconst X (v := (0 : Int32)) dL_collisionsIn_15 (by decide) ?_
  obtain rfl := Option.some.inj h
  exact hf _ _ _ _ (by decide) (by decide) dL_collisionsIn_16
set_option maxRecDepth 20000 in
theorem ct_L_collisionsIn {l : Launch} {κ : KX}  {x0 : St} {x1 : St} {x2 : St} {ps : Nat → St} {ta : St} {tb : St} {d : St} {S : St} {pg : St} {c : St} {m : St} {ot : St} {a1 : Int32} {res : St × St × Int32}  (h : sL_collisionsIn x0 x1 ot a1 = some res) : CtW l κ yL_collisionsIn cL_collisionsIn 4 [(0, 9, 12, 19)] 8 149 [.ref (xE κ 8 0 0), .int a1, .ref (xE κ 10 0 0)] ((x0, x1, x2, ps, ta, tb, d, S, pg, c, m, ot)) ((x0, res.1, x2, ps, ta, tb, d, S, pg, c, m, res.2.1)) (res.2.2) := by
  refine CtW_of RL rfl (by decide +kernel) (Nat.le_of_ble_eq_true rfl) (fun g hl hκ X hXF hf => ?_)
  subst hl; subst hκ
  exact gL_collisionsIn X hXF  hf h
set_option maxRecDepth 20000 in
theorem gL_knowsIn {g : GX}  {x0 : St} {x1 : St} {x2 : St} {ps : Nat → St} {ta : St} {tb : St} {d : St} {S : St} {pg : St} {c : St} {m : St} {ot : St} {a1 : Int32} {a2 : Int32} {res : St × St × Int32} (X : CX g RL cL_knowsIn 5 8 175) (hXF : XF g [(0, 10, 13, 35)])  (hf : FinW g cL_knowsIn ((x0, res.1, x2, ps, ta, tb, d, S, pg, c, m, res.2.1)) (res.2.2)) (h : sL_knowsIn x0 x1 ot a1 a2 = some res) : G g 0 0 ((x0, x1, x2, ps, ta, tb, d, S, pg, c, m, ot)) 0 [(0, .ref (xE (gκ g) 8 0 0)), (1, .int a1), (2, .int a2), (3, .ref (xE (gκ g) 10 0 0))] [] := by
  unfold sL_knowsIn at h
  refine G_aload_n X 3 dL_knowsIn_0 rfl rfl ?_
  refine G_iconst X (v := (0 : Int32)) dL_knowsIn_1 (by decide) ?_
  refine G_aload_n X 0 dL_knowsIn_2 rfl rfl ?_
  refine G_iload_n X 1 dL_knowsIn_3 rfl rfl ?_
  refine G_iload_n X 2 dL_knowsIn_4 rfl rfl ?_
  obtain ⟨q1, hq1, h⟩ := bd_some h
  rcases q1 with ⟨e0q1, vq1 | xq1⟩
  rotate_left
  · have h := sm_r h
    by_cases d2 : xq1 = 3
    · subst d2
      have h := it_t rfl h
      refine G_callVX X hXF (c := 3) (As := [.int a1, .int a2]) (rest := [.int ((0 : Int32)), .ref (xE (gκ g) 10 0 0)]) (T' := (x0, e0q1, x2, ps, ta, tb, d, S, pg, c, m, ot)) (ce_X6_knowsIn (l := g.2.1) (κ := gκ g)  hq1) cal_X6_knowsIn wM_L_83 wI_X6_knowsIn wS_X6_knowsIn rfl rfl (by decide) rfl rfl (Nat.le_of_ble_eq_true rfl) dL_knowsIn_5 [] ⟨0, 10, 13, 35⟩ [] rfl (fun z hz => nomatch hz) (by decide) (by decide) wCl_L_35 (by decide) (fun q9 => ?_)
      refine G_astore X (lv' := [(4, .ref q9), (0, .ref (xE (gκ g) 8 0 0)), (1, .int a1), (2, .int a2), (3, .ref (xE (gκ g) 10 0 0))]) dL_knowsIn_13 (by decide) rfl ?_
      refine G_iconst X (v := (1 : Int32)) dL_knowsIn_15 (by decide) ?_
      obtain rfl := Option.some.inj h
      exact hf _ _ _ _ (by decide) (by decide) dL_knowsIn_16
    have h := it_f d2 h
    cases h
  have h := sm_l h
  refine G_callV X (As := [.int a1, .int a2]) (rest := [.int ((0 : Int32)), .ref (xE (gκ g) 10 0 0)]) (T' := (x0, e0q1, x2, ps, ta, tb, d, S, pg, c, m, ot)) (st2 := [.int vq1, .int ((0 : Int32)), .ref (xE (gκ g) 10 0 0)]) (ct_X6_knowsIn (l := g.2.1) (κ := gκ g)  hq1) cal_X6_knowsIn wM_L_83 wI_X6_knowsIn wS_X6_knowsIn rfl rfl (by decide) rfl rfl (Nat.le_of_ble_eq_true rfl) ⟨Nat.zero_le _, Nat.zero_le _⟩ dL_knowsIn_5 rfl ?_
  refine G_i2l X dL_knowsIn_8 ?_
  obtain ⟨g3, h⟩ := gd_some h
  obtain ⟨z4, ez4, h⟩ := nm_some h
  refine G_last X (T' := (x0, e0q1, x2, ps, ta, tb, d, S, pg, c, m, z4)) rfl rfl g3 (by rw [ez4]; rfl) dL_knowsIn_9 ?_
  refine G_goto X (tgt := 17) dL_knowsIn_10 (by decide) ?_
  refine G_iconst X (v := (0 : Int32)) dL_knowsIn_17 (by decide) ?_
  obtain rfl := Option.some.inj h
  exact hf _ _ _ _ (by decide) (by decide) dL_knowsIn_18
set_option maxRecDepth 20000 in
theorem ct_L_knowsIn {l : Launch} {κ : KX}  {x0 : St} {x1 : St} {x2 : St} {ps : Nat → St} {ta : St} {tb : St} {d : St} {S : St} {pg : St} {c : St} {m : St} {ot : St} {a1 : Int32} {a2 : Int32} {res : St × St × Int32}  (h : sL_knowsIn x0 x1 ot a1 a2 = some res) : CtW l κ yL_knowsIn cL_knowsIn 5 [(0, 10, 13, 35)] 8 175 [.ref (xE κ 8 0 0), .int a1, .int a2, .ref (xE κ 10 0 0)] ((x0, x1, x2, ps, ta, tb, d, S, pg, c, m, ot)) ((x0, res.1, x2, ps, ta, tb, d, S, pg, c, m, res.2.1)) (res.2.2) := by
  refine CtW_of RL rfl (by decide +kernel) (Nat.le_of_ble_eq_true rfl) (fun g hl hκ X hXF hf => ?_)
  subst hl; subst hκ
  exact gL_knowsIn X hXF  hf h
set_option maxRecDepth 20000 in
theorem gL_outIn {g : GX}  {x0 : St} {x1 : St} {x2 : St} {ps : Nat → St} {ta : St} {tb : St} {d : St} {S : St} {pg : St} {c : St} {m : St} {ot : St} {a1 : Int32} {res : St × St × Int32} (X : CX g RL cL_outIn 4 8 174) (hXF : XF g [(0, 9, 12, 35)])  (hf : FinW g cL_outIn ((x0, res.1, x2, ps, ta, tb, d, S, pg, c, m, res.2.1)) (res.2.2)) (h : sL_outIn x0 x1 ot a1 = some res) : G g 0 0 ((x0, x1, x2, ps, ta, tb, d, S, pg, c, m, ot)) 0 [(0, .ref (xE (gκ g) 8 0 0)), (1, .int a1), (2, .ref (xE (gκ g) 10 0 0))] [] := by
  unfold sL_outIn at h
  refine G_aload_n X 2 dL_outIn_0 rfl rfl ?_
  refine G_iconst X (v := (0 : Int32)) dL_outIn_1 (by decide) ?_
  refine G_aload_n X 0 dL_outIn_2 rfl rfl ?_
  refine G_iload_n X 1 dL_outIn_3 rfl rfl ?_
  obtain ⟨q1, hq1, h⟩ := bd_some h
  rcases q1 with ⟨e0q1, vq1 | xq1⟩
  rotate_left
  · have h := sm_r h
    by_cases d2 : xq1 = 3
    · subst d2
      have h := it_t rfl h
      refine G_callVX X hXF (c := 3) (As := [.int a1]) (rest := [.int ((0 : Int32)), .ref (xE (gκ g) 10 0 0)]) (T' := (x0, e0q1, x2, ps, ta, tb, d, S, pg, c, m, ot)) (ce_X6_outIn (l := g.2.1) (κ := gκ g)  hq1) cal_X6_outIn wM_L_86 wI_X6_outIn wS_X6_outIn rfl rfl (by decide) rfl rfl (Nat.le_of_ble_eq_true rfl) dL_outIn_4 [] ⟨0, 9, 12, 35⟩ [] rfl (fun z hz => nomatch hz) (by decide) (by decide) wCl_L_35 (by decide) (fun q9 => ?_)
      refine G_astore_n X (lv' := [(3, .ref q9), (0, .ref (xE (gκ g) 8 0 0)), (1, .int a1), (2, .ref (xE (gκ g) 10 0 0))]) dL_outIn_12 rfl (by decide) rfl ?_
      refine G_iconst X (v := (1 : Int32)) dL_outIn_13 (by decide) ?_
      obtain rfl := Option.some.inj h
      exact hf _ _ _ _ (by decide) (by decide) dL_outIn_14
    have h := it_f d2 h
    cases h
  have h := sm_l h
  refine G_callV X (As := [.int a1]) (rest := [.int ((0 : Int32)), .ref (xE (gκ g) 10 0 0)]) (T' := (x0, e0q1, x2, ps, ta, tb, d, S, pg, c, m, ot)) (st2 := [.int vq1, .int ((0 : Int32)), .ref (xE (gκ g) 10 0 0)]) (ct_X6_outIn (l := g.2.1) (κ := gκ g)  hq1) cal_X6_outIn wM_L_86 wI_X6_outIn wS_X6_outIn rfl rfl (by decide) rfl rfl (Nat.le_of_ble_eq_true rfl) ⟨Nat.zero_le _, Nat.zero_le _⟩ dL_outIn_4 rfl ?_
  refine G_i2l X dL_outIn_7 ?_
  obtain ⟨g3, h⟩ := gd_some h
  obtain ⟨z4, ez4, h⟩ := nm_some h
  refine G_last X (T' := (x0, e0q1, x2, ps, ta, tb, d, S, pg, c, m, z4)) rfl rfl g3 (by rw [ez4]; rfl) dL_outIn_8 ?_
  refine G_goto X (tgt := 15) dL_outIn_9 (by decide) ?_
  refine G_iconst X (v := (0 : Int32)) dL_outIn_15 (by decide) ?_
  obtain rfl := Option.some.inj h
  exact hf _ _ _ _ (by decide) (by decide) dL_outIn_16
set_option maxRecDepth 20000 in
theorem ct_L_outIn {l : Launch} {κ : KX}  {x0 : St} {x1 : St} {x2 : St} {ps : Nat → St} {ta : St} {tb : St} {d : St} {S : St} {pg : St} {c : St} {m : St} {ot : St} {a1 : Int32} {res : St × St × Int32}  (h : sL_outIn x0 x1 ot a1 = some res) : CtW l κ yL_outIn cL_outIn 4 [(0, 9, 12, 35)] 8 174 [.ref (xE κ 8 0 0), .int a1, .ref (xE κ 10 0 0)] ((x0, x1, x2, ps, ta, tb, d, S, pg, c, m, ot)) ((x0, res.1, x2, ps, ta, tb, d, S, pg, c, m, res.2.1)) (res.2.2) := by
  refine CtW_of RL rfl (by decide +kernel) (Nat.le_of_ble_eq_true rfl) (fun g hl hκ X hXF hf => ?_)
  subst hl; subst hκ
  exact gL_outIn X hXF  hf h
set_option maxRecDepth 20000 in
theorem gL_sendsIn {g : GX}  {x0 : St} {x1 : St} {x2 : St} {ps : Nat → St} {ta : St} {tb : St} {d : St} {S : St} {pg : St} {c : St} {m : St} {ot : St} {a1 : Int32} {res : St × St × Int32} (X : CX g RL cL_sendsIn 4 8 174) (hXF : XF g [(0, 9, 12, 35)])  (hf : FinW g cL_sendsIn ((x0, res.1, x2, ps, ta, tb, d, S, pg, c, m, res.2.1)) (res.2.2)) (h : sL_sendsIn x0 x1 ot a1 = some res) : G g 0 0 ((x0, x1, x2, ps, ta, tb, d, S, pg, c, m, ot)) 0 [(0, .ref (xE (gκ g) 8 0 0)), (1, .int a1), (2, .ref (xE (gκ g) 10 0 0))] [] := by
  unfold sL_sendsIn at h
  refine G_aload_n X 2 dL_sendsIn_0 rfl rfl ?_
  refine G_iconst X (v := (0 : Int32)) dL_sendsIn_1 (by decide) ?_
  refine G_aload_n X 0 dL_sendsIn_2 rfl rfl ?_
  refine G_iload_n X 1 dL_sendsIn_3 rfl rfl ?_
  obtain ⟨q1, hq1, h⟩ := bd_some h
  rcases q1 with ⟨e0q1, vq1 | xq1⟩
  rotate_left
  · have h := sm_r h
    by_cases d2 : xq1 = 3
    · subst d2
      have h := it_t rfl h
      refine G_callVX X hXF (c := 3) (As := [.int a1]) (rest := [.int ((0 : Int32)), .ref (xE (gκ g) 10 0 0)]) (T' := (x0, e0q1, x2, ps, ta, tb, d, S, pg, c, m, ot)) (ce_X6_sendsIn (l := g.2.1) (κ := gκ g)  hq1) cal_X6_sendsIn wM_L_89 wI_X6_sendsIn wS_X6_sendsIn rfl rfl (by decide) rfl rfl (Nat.le_of_ble_eq_true rfl) dL_sendsIn_4 [] ⟨0, 9, 12, 35⟩ [] rfl (fun z hz => nomatch hz) (by decide) (by decide) wCl_L_35 (by decide) (fun q9 => ?_)
      refine G_astore_n X (lv' := [(3, .ref q9), (0, .ref (xE (gκ g) 8 0 0)), (1, .int a1), (2, .ref (xE (gκ g) 10 0 0))]) dL_sendsIn_12 rfl (by decide) rfl ?_
      refine G_iconst X (v := (1 : Int32)) dL_sendsIn_13 (by decide) ?_
      obtain rfl := Option.some.inj h
      exact hf _ _ _ _ (by decide) (by decide) dL_sendsIn_14
    have h := it_f d2 h
    cases h
  have h := sm_l h
  refine G_callV X (As := [.int a1]) (rest := [.int ((0 : Int32)), .ref (xE (gκ g) 10 0 0)]) (T' := (x0, e0q1, x2, ps, ta, tb, d, S, pg, c, m, ot)) (st2 := [.int vq1, .int ((0 : Int32)), .ref (xE (gκ g) 10 0 0)]) (ct_X6_sendsIn (l := g.2.1) (κ := gκ g)  hq1) cal_X6_sendsIn wM_L_89 wI_X6_sendsIn wS_X6_sendsIn rfl rfl (by decide) rfl rfl (Nat.le_of_ble_eq_true rfl) ⟨Nat.zero_le _, Nat.zero_le _⟩ dL_sendsIn_4 rfl ?_
  refine G_i2l X dL_sendsIn_7 ?_
  obtain ⟨g3, h⟩ := gd_some h
  obtain ⟨z4, ez4, h⟩ := nm_some h
  refine G_last X (T' := (x0, e0q1, x2, ps, ta, tb, d, S, pg, c, m, z4)) rfl rfl g3 (by rw [ez4]; rfl) dL_sendsIn_8 ?_
  refine G_goto X (tgt := 15) dL_sendsIn_9 (by decide) ?_
  refine G_iconst X (v := (0 : Int32)) dL_sendsIn_15 (by decide) ?_
  obtain rfl := Option.some.inj h
  exact hf _ _ _ _ (by decide) (by decide) dL_sendsIn_16
set_option maxRecDepth 20000 in
theorem ct_L_sendsIn {l : Launch} {κ : KX}  {x0 : St} {x1 : St} {x2 : St} {ps : Nat → St} {ta : St} {tb : St} {d : St} {S : St} {pg : St} {c : St} {m : St} {ot : St} {a1 : Int32} {res : St × St × Int32}  (h : sL_sendsIn x0 x1 ot a1 = some res) : CtW l κ yL_sendsIn cL_sendsIn 4 [(0, 9, 12, 35)] 8 174 [.ref (xE κ 8 0 0), .int a1, .ref (xE κ 10 0 0)] ((x0, x1, x2, ps, ta, tb, d, S, pg, c, m, ot)) ((x0, res.1, x2, ps, ta, tb, d, S, pg, c, m, res.2.1)) (res.2.2) := by
  refine CtW_of RL rfl (by decide +kernel) (Nat.le_of_ble_eq_true rfl) (fun g hl hκ X hXF hf => ?_)
  subst hl; subst hκ
  exact gL_sendsIn X hXF  hf h
set_option maxRecDepth 20000 in
theorem gL_wellIn {g : GX}  {x0 : St} {x1 : St} {x2 : St} {ps : Nat → St} {ta : St} {tb : St} {d : St} {S : St} {pg : St} {c : St} {m : St} {ot : St} {a1 : Int32} {res : St × St × Int32} (X : CX g RL cL_wellIn 4 8 174) (hXF : XF g [(0, 9, 12, 35)])  (hf : FinW g cL_wellIn ((x0, res.1, x2, ps, ta, tb, d, S, pg, c, m, res.2.1)) (res.2.2)) (h : sL_wellIn x0 x1 ot a1 = some res) : G g 0 0 ((x0, x1, x2, ps, ta, tb, d, S, pg, c, m, ot)) 0 [(0, .ref (xE (gκ g) 8 0 0)), (1, .int a1), (2, .ref (xE (gκ g) 10 0 0))] [] := by
  unfold sL_wellIn at h
  refine G_aload_n X 2 dL_wellIn_0 rfl rfl ?_
  refine G_iconst X (v := (0 : Int32)) dL_wellIn_1 (by decide) ?_
  refine G_aload_n X 0 dL_wellIn_2 rfl rfl ?_
  refine G_iload_n X 1 dL_wellIn_3 rfl rfl ?_
  obtain ⟨q1, hq1, h⟩ := bd_some h
  rcases q1 with ⟨e0q1, vq1 | xq1⟩
  rotate_left
  · have h := sm_r h
    by_cases d2 : xq1 = 3
    · subst d2
      have h := it_t rfl h
      refine G_callVX X hXF (c := 3) (As := [.int a1]) (rest := [.int ((0 : Int32)), .ref (xE (gκ g) 10 0 0)]) (T' := (x0, e0q1, x2, ps, ta, tb, d, S, pg, c, m, ot)) (ce_X6_wellIn (l := g.2.1) (κ := gκ g)  hq1) cal_X6_wellIn wM_L_92 wI_X6_wellIn wS_X6_wellIn rfl rfl (by decide) rfl rfl (Nat.le_of_ble_eq_true rfl) dL_wellIn_4 [] ⟨0, 9, 12, 35⟩ [] rfl (fun z hz => nomatch hz) (by decide) (by decide) wCl_L_35 (by decide) (fun q9 => ?_)
      refine G_astore_n X (lv' := [(3, .ref q9), (0, .ref (xE (gκ g) 8 0 0)), (1, .int a1), (2, .ref (xE (gκ g) 10 0 0))]) dL_wellIn_12 rfl (by decide) rfl ?_
      refine G_iconst X (v := (1 : Int32)) dL_wellIn_13 (by decide) ?_
      obtain rfl := Option.some.inj h
      exact hf _ _ _ _ (by decide) (by decide) dL_wellIn_14
    have h := it_f d2 h
    cases h
  have h := sm_l h
  refine G_callV X (As := [.int a1]) (rest := [.int ((0 : Int32)), .ref (xE (gκ g) 10 0 0)]) (T' := (x0, e0q1, x2, ps, ta, tb, d, S, pg, c, m, ot)) (st2 := [.int vq1, .int ((0 : Int32)), .ref (xE (gκ g) 10 0 0)]) (ct_X6_wellIn (l := g.2.1) (κ := gκ g)  hq1) cal_X6_wellIn wM_L_92 wI_X6_wellIn wS_X6_wellIn rfl rfl (by decide) rfl rfl (Nat.le_of_ble_eq_true rfl) ⟨Nat.zero_le _, Nat.zero_le _⟩ dL_wellIn_4 rfl ?_
  refine G_i2l X dL_wellIn_7 ?_
  obtain ⟨g3, h⟩ := gd_some h
  obtain ⟨z4, ez4, h⟩ := nm_some h
  refine G_last X (T' := (x0, e0q1, x2, ps, ta, tb, d, S, pg, c, m, z4)) rfl rfl g3 (by rw [ez4]; rfl) dL_wellIn_8 ?_
  refine G_goto X (tgt := 15) dL_wellIn_9 (by decide) ?_
  refine G_iconst X (v := (0 : Int32)) dL_wellIn_15 (by decide) ?_
  obtain rfl := Option.some.inj h
  exact hf _ _ _ _ (by decide) (by decide) dL_wellIn_16
set_option maxRecDepth 20000 in
theorem ct_L_wellIn {l : Launch} {κ : KX}  {x0 : St} {x1 : St} {x2 : St} {ps : Nat → St} {ta : St} {tb : St} {d : St} {S : St} {pg : St} {c : St} {m : St} {ot : St} {a1 : Int32} {res : St × St × Int32}  (h : sL_wellIn x0 x1 ot a1 = some res) : CtW l κ yL_wellIn cL_wellIn 4 [(0, 9, 12, 35)] 8 174 [.ref (xE κ 8 0 0), .int a1, .ref (xE κ 10 0 0)] ((x0, x1, x2, ps, ta, tb, d, S, pg, c, m, ot)) ((x0, res.1, x2, ps, ta, tb, d, S, pg, c, m, res.2.1)) (res.2.2) := by
  refine CtW_of RL rfl (by decide +kernel) (Nat.le_of_ble_eq_true rfl) (fun g hl hκ X hXF hf => ?_)
  subst hl; subst hκ
  exact gL_wellIn X hXF  hf h
set_option maxRecDepth 20000 in
theorem gL_bestAt {g : GX}  {x0 : St} {x1 : St} {x2 : St} {ps : Nat → St} {ta : St} {tb : St} {d : St} {S : St} {pg : St} {c : St} {m : St} {ot : St} {a1 : Int32} {res : St × St × Int32} (X : CX g RL cL_bestAt 4 8 135) (hXF : XF g [(0, 9, 12, 35)])  (hf : FinW g cL_bestAt ((x0, res.1, x2, ps, ta, tb, d, S, pg, c, m, res.2.1)) (res.2.2)) (h : sL_bestAt x0 x1 ot a1 = some res) : G g 0 0 ((x0, x1, x2, ps, ta, tb, d, S, pg, c, m, ot)) 0 [(0, .ref (xE (gκ g) 8 0 0)), (1, .int a1), (2, .ref (xE (gκ g) 10 0 0))] [] := by
  unfold sL_bestAt at h
  refine G_aload_n X 2 dL_bestAt_0 rfl rfl ?_
  refine G_iconst X (v := (0 : Int32)) dL_bestAt_1 (by decide) ?_
  refine G_aload_n X 0 dL_bestAt_2 rfl rfl ?_
  refine G_iload_n X 1 dL_bestAt_3 rfl rfl ?_
  obtain ⟨q1, hq1, h⟩ := bd_some h
  rcases q1 with ⟨e0q1, vq1 | xq1⟩
  rotate_left
  · have h := sm_r h
    by_cases d2 : xq1 = 3
    · subst d2
      have h := it_t rfl h
      refine G_callVX X hXF (c := 3) (As := [.int a1]) (rest := [.int ((0 : Int32)), .ref (xE (gκ g) 10 0 0)]) (T' := (x0, e0q1, x2, ps, ta, tb, d, S, pg, c, m, ot)) (ce_X6_bestAt (l := g.2.1) (κ := gκ g)  hq1) cal_X6_bestAt wM_L_95 wI_X6_bestAt wS_X6_bestAt rfl rfl (by decide) rfl rfl (Nat.le_of_ble_eq_true rfl) dL_bestAt_4 [] ⟨0, 9, 12, 35⟩ [] rfl (fun z hz => nomatch hz) (by decide) (by decide) wCl_L_35 (by decide) (fun q9 => ?_)
      refine G_astore_n X (lv' := [(3, .ref q9), (0, .ref (xE (gκ g) 8 0 0)), (1, .int a1), (2, .ref (xE (gκ g) 10 0 0))]) dL_bestAt_12 rfl (by decide) rfl ?_
      refine G_iconst X (v := (1 : Int32)) dL_bestAt_13 (by decide) ?_
      obtain rfl := Option.some.inj h
      exact hf _ _ _ _ (by decide) (by decide) dL_bestAt_14
    have h := it_f d2 h
    cases h
  have h := sm_l h
  refine G_callV X (As := [.int a1]) (rest := [.int ((0 : Int32)), .ref (xE (gκ g) 10 0 0)]) (T' := (x0, e0q1, x2, ps, ta, tb, d, S, pg, c, m, ot)) (st2 := [.int vq1, .int ((0 : Int32)), .ref (xE (gκ g) 10 0 0)]) (ct_X6_bestAt (l := g.2.1) (κ := gκ g)  hq1) cal_X6_bestAt wM_L_95 wI_X6_bestAt wS_X6_bestAt rfl rfl (by decide) rfl rfl (Nat.le_of_ble_eq_true rfl) ⟨Nat.zero_le _, Nat.zero_le _⟩ dL_bestAt_4 rfl ?_
  refine G_i2l X dL_bestAt_7 ?_
  obtain ⟨g3, h⟩ := gd_some h
  obtain ⟨z4, ez4, h⟩ := nm_some h
  refine G_last X (T' := (x0, e0q1, x2, ps, ta, tb, d, S, pg, c, m, z4)) rfl rfl g3 (by rw [ez4]; rfl) dL_bestAt_8 ?_
  refine G_goto X (tgt := 15) dL_bestAt_9 (by decide) ?_
  refine G_iconst X (v := (0 : Int32)) dL_bestAt_15 (by decide) ?_
  obtain rfl := Option.some.inj h
  exact hf _ _ _ _ (by decide) (by decide) dL_bestAt_16
set_option maxRecDepth 20000 in
theorem ct_L_bestAt {l : Launch} {κ : KX}  {x0 : St} {x1 : St} {x2 : St} {ps : Nat → St} {ta : St} {tb : St} {d : St} {S : St} {pg : St} {c : St} {m : St} {ot : St} {a1 : Int32} {res : St × St × Int32}  (h : sL_bestAt x0 x1 ot a1 = some res) : CtW l κ yL_bestAt cL_bestAt 4 [(0, 9, 12, 35)] 8 135 [.ref (xE κ 8 0 0), .int a1, .ref (xE κ 10 0 0)] ((x0, x1, x2, ps, ta, tb, d, S, pg, c, m, ot)) ((x0, res.1, x2, ps, ta, tb, d, S, pg, c, m, res.2.1)) (res.2.2) := by
  refine CtW_of RL rfl (by decide +kernel) (Nat.le_of_ble_eq_true rfl) (fun g hl hκ X hXF hf => ?_)
  subst hl; subst hκ
  exact gL_bestAt X hXF  hf h
set_option maxRecDepth 20000 in
theorem gL_bestEvery {g : GX}  {x0 : St} {x1 : St} {x2 : St} {ps : Nat → St} {ta : St} {tb : St} {d : St} {S : St} {pg : St} {c : St} {m : St} {ot : St} {a1 : Int32} {res : St × St × Int32} (X : CX g RL cL_bestEvery 4 8 135) (hXF : XF g [(0, 9, 12, 35)])  (hf : FinW g cL_bestEvery ((x0, res.1, x2, ps, ta, tb, d, S, pg, c, m, res.2.1)) (res.2.2)) (h : sL_bestEvery x0 x1 ot a1 = some res) : G g 0 0 ((x0, x1, x2, ps, ta, tb, d, S, pg, c, m, ot)) 0 [(0, .ref (xE (gκ g) 8 0 0)), (1, .int a1), (2, .ref (xE (gκ g) 10 0 0))] [] := by
  unfold sL_bestEvery at h
  refine G_aload_n X 2 dL_bestEvery_0 rfl rfl ?_
  refine G_iconst X (v := (0 : Int32)) dL_bestEvery_1 (by decide) ?_
  refine G_aload_n X 0 dL_bestEvery_2 rfl rfl ?_
  refine G_iload_n X 1 dL_bestEvery_3 rfl rfl ?_
  obtain ⟨q1, hq1, h⟩ := bd_some h
  rcases q1 with ⟨e0q1, vq1 | xq1⟩
  rotate_left
  · have h := sm_r h
    by_cases d2 : xq1 = 3
    · subst d2
      have h := it_t rfl h
      refine G_callVX X hXF (c := 3) (As := [.int a1]) (rest := [.int ((0 : Int32)), .ref (xE (gκ g) 10 0 0)]) (T' := (x0, e0q1, x2, ps, ta, tb, d, S, pg, c, m, ot)) (ce_X6_bestEvery (l := g.2.1) (κ := gκ g)  hq1) cal_X6_bestEvery wM_L_98 wI_X6_bestEvery wS_X6_bestEvery rfl rfl (by decide) rfl rfl (Nat.le_of_ble_eq_true rfl) dL_bestEvery_4 [] ⟨0, 9, 12, 35⟩ [] rfl (fun z hz => nomatch hz) (by decide) (by decide) wCl_L_35 (by decide) (fun q9 => ?_)
      refine G_astore_n X (lv' := [(3, .ref q9), (0, .ref (xE (gκ g) 8 0 0)), (1, .int a1), (2, .ref (xE (gκ g) 10 0 0))]) dL_bestEvery_12 rfl (by decide) rfl ?_
      refine G_iconst X (v := (1 : Int32)) dL_bestEvery_13 (by decide) ?_
      obtain rfl := Option.some.inj h
      exact hf _ _ _ _ (by decide) (by decide) dL_bestEvery_14
    have h := it_f d2 h
    cases h
  have h := sm_l h
  refine G_callV X (As := [.int a1]) (rest := [.int ((0 : Int32)), .ref (xE (gκ g) 10 0 0)]) (T' := (x0, e0q1, x2, ps, ta, tb, d, S, pg, c, m, ot)) (st2 := [.int vq1, .int ((0 : Int32)), .ref (xE (gκ g) 10 0 0)]) (ct_X6_bestEvery (l := g.2.1) (κ := gκ g)  hq1) cal_X6_bestEvery wM_L_98 wI_X6_bestEvery wS_X6_bestEvery rfl rfl (by decide) rfl rfl (Nat.le_of_ble_eq_true rfl) ⟨Nat.zero_le _, Nat.zero_le _⟩ dL_bestEvery_4 rfl ?_
  refine G_i2l X dL_bestEvery_7 ?_
  obtain ⟨g3, h⟩ := gd_some h
  obtain ⟨z4, ez4, h⟩ := nm_some h
  refine G_last X (T' := (x0, e0q1, x2, ps, ta, tb, d, S, pg, c, m, z4)) rfl rfl g3 (by rw [ez4]; rfl) dL_bestEvery_8 ?_
  refine G_goto X (tgt := 15) dL_bestEvery_9 (by decide) ?_
  refine G_iconst X (v := (0 : Int32)) dL_bestEvery_15 (by decide) ?_
  obtain rfl := Option.some.inj h
  exact hf _ _ _ _ (by decide) (by decide) dL_bestEvery_16
set_option maxRecDepth 20000 in
theorem ct_L_bestEvery {l : Launch} {κ : KX}  {x0 : St} {x1 : St} {x2 : St} {ps : Nat → St} {ta : St} {tb : St} {d : St} {S : St} {pg : St} {c : St} {m : St} {ot : St} {a1 : Int32} {res : St × St × Int32}  (h : sL_bestEvery x0 x1 ot a1 = some res) : CtW l κ yL_bestEvery cL_bestEvery 4 [(0, 9, 12, 35)] 8 135 [.ref (xE κ 8 0 0), .int a1, .ref (xE κ 10 0 0)] ((x0, x1, x2, ps, ta, tb, d, S, pg, c, m, ot)) ((x0, res.1, x2, ps, ta, tb, d, S, pg, c, m, res.2.1)) (res.2.2) := by
  refine CtW_of RL rfl (by decide +kernel) (Nat.le_of_ble_eq_true rfl) (fun g hl hκ X hXF hf => ?_)
  subst hl; subst hκ
  exact gL_bestEvery X hXF  hf h
set_option maxRecDepth 20000 in
theorem gL_run {g : GX}  {x0 : St} {x1 : St} {x2 : St} {ps : Nat → St} {ta : St} {tb : St} {d : St} {S : St} {pg : St} {c : St} {m : St} {ot : St} {a1 : Int32} {res : St × (Nat → St) × St × St × Int32} (X : CX g RL cL_run 4 7 129) (hXF : XF g [(0, 9, 12, 19), (0, 9, 15, 13)])  (hf : FinW g cL_run ((res.1, x1, x2, res.2.1, ta, tb, d, S, pg, res.2.2.1, m, res.2.2.2.1)) (res.2.2.2.2)) (h : sL_run x0 ps c ot a1 = some res) : G g 0 0 ((x0, x1, x2, ps, ta, tb, d, S, pg, c, m, ot)) 0 [(0, .ref (xE (gκ g) 8 0 0)), (1, .int a1), (2, .ref (xE (gκ g) 10 0 0))] [] := by
  unfold sL_run at h
  refine G_aload_n X 2 dL_run_0 rfl rfl ?_
  refine G_iconst X (v := (0 : Int32)) dL_run_1 (by decide) ?_
  refine G_aload_n X 0 dL_run_2 rfl rfl ?_
  refine G_iload_n X 1 dL_run_3 rfl rfl ?_
  obtain ⟨q1, hq1, h⟩ := bd_some h
  rcases q1 with ⟨e0q1, e1q1, e2q1, vq1 | xq1⟩
  rotate_left
  · have h := sm_r h
    by_cases d2 : xq1 = 2
    · subst d2
      have h := it_t rfl h
      refine G_callVX X hXF (c := 2) (As := [.int a1]) (rest := [.int ((0 : Int32)), .ref (xE (gκ g) 10 0 0)]) (T' := (e0q1, x1, x2, e1q1, ta, tb, d, S, pg, e2q1, m, ot)) (ce_X6_run (l := g.2.1) (κ := gκ g)  hq1) cal_X6_run wM_L_101 wI_X6_run wS_X6_run rfl rfl (by decide) rfl rfl (Nat.le_of_ble_eq_true rfl) dL_run_4 [] ⟨0, 9, 12, 19⟩ [⟨0, 9, 15, 13⟩] rfl (fun z hz => nomatch hz) (by decide) (by decide) wCl_L_19 (by decide) (fun q9 => ?_)
      refine G_astore_n X (lv' := [(3, .ref q9), (0, .ref (xE (gκ g) 8 0 0)), (1, .int a1), (2, .ref (xE (gκ g) 10 0 0))]) dL_run_12 rfl (by decide) rfl ?_
      refine G_iconst X (v := (1 : Int32)) dL_run_13 (by decide) ?_
      obtain rfl := Option.some.inj h
      exact hf _ _ _ _ (by decide) (by decide) dL_run_14
    have h := it_f d2 h
    by_cases d3 : xq1 = 1
    · subst d3
      have h := it_t rfl h
      refine G_callVX X hXF (c := 1) (As := [.int a1]) (rest := [.int ((0 : Int32)), .ref (xE (gκ g) 10 0 0)]) (T' := (e0q1, x1, x2, e1q1, ta, tb, d, S, pg, e2q1, m, ot)) (ce_X6_run (l := g.2.1) (κ := gκ g)  hq1) cal_X6_run wM_L_101 wI_X6_run wS_X6_run rfl rfl (by decide) rfl rfl (Nat.le_of_ble_eq_true rfl) dL_run_4 [⟨0, 9, 12, 19⟩] ⟨0, 9, 15, 13⟩ [] rfl (by intro z hz; cases List.mem_singleton.mp hz; exact ⟨by decide, 2, by decide, by decide, wCl_L_19⟩) (by decide) (by decide) wCl_L_13 (by decide) (fun q9 => ?_)
      refine G_astore_n X (lv' := [(3, .ref q9), (0, .ref (xE (gκ g) 8 0 0)), (1, .int a1), (2, .ref (xE (gκ g) 10 0 0))]) dL_run_15 rfl (by decide) rfl ?_
      refine G_iconst X (v := (2 : Int32)) dL_run_16 (by decide) ?_
      obtain rfl := Option.some.inj h
      exact hf _ _ _ _ (by decide) (by decide) dL_run_17
    have h := it_f d3 h
    cases h
  have h := sm_l h
  refine G_callV X (As := [.int a1]) (rest := [.int ((0 : Int32)), .ref (xE (gκ g) 10 0 0)]) (T' := (e0q1, x1, x2, e1q1, ta, tb, d, S, pg, e2q1, m, ot)) (st2 := [.int vq1, .int ((0 : Int32)), .ref (xE (gκ g) 10 0 0)]) (ct_X6_run (l := g.2.1) (κ := gκ g)  hq1) cal_X6_run wM_L_101 wI_X6_run wS_X6_run rfl rfl (by decide) rfl rfl (Nat.le_of_ble_eq_true rfl) ⟨Nat.zero_le _, Nat.zero_le _⟩ dL_run_4 rfl ?_
  refine G_i2l X dL_run_7 ?_
  obtain ⟨g4, h⟩ := gd_some h
  obtain ⟨z5, ez5, h⟩ := nm_some h
  refine G_last X (T' := (e0q1, x1, x2, e1q1, ta, tb, d, S, pg, e2q1, m, z5)) rfl rfl g4 (by rw [ez5]; rfl) dL_run_8 ?_
  refine G_goto X (tgt := 18) dL_run_9 (by decide) ?_
  refine G_iconst X (v := (0 : Int32)) dL_run_18 (by decide) ?_
  obtain rfl := Option.some.inj h
  exact hf _ _ _ _ (by decide) (by decide) dL_run_19
set_option maxRecDepth 20000 in
theorem ct_L_run {l : Launch} {κ : KX}  {x0 : St} {x1 : St} {x2 : St} {ps : Nat → St} {ta : St} {tb : St} {d : St} {S : St} {pg : St} {c : St} {m : St} {ot : St} {a1 : Int32} {res : St × (Nat → St) × St × St × Int32}  (h : sL_run x0 ps c ot a1 = some res) : CtW l κ yL_run cL_run 4 [(0, 9, 12, 19), (0, 9, 15, 13)] 7 129 [.ref (xE κ 8 0 0), .int a1, .ref (xE κ 10 0 0)] ((x0, x1, x2, ps, ta, tb, d, S, pg, c, m, ot)) ((res.1, x1, x2, res.2.1, ta, tb, d, S, pg, res.2.2.1, m, res.2.2.2.1)) (res.2.2.2.2) := by
  refine CtW_of RL rfl (by decide +kernel) (Nat.le_of_ble_eq_true rfl) (fun g hl hκ X hXF hf => ?_)
  subst hl; subst hκ
  exact gL_run X hXF  hf h
set_option maxRecDepth 20000 in
theorem gL_wake {g : GX}  {x0 : St} {x1 : St} {x2 : St} {ps : Nat → St} {ta : St} {tb : St} {d : St} {S : St} {pg : St} {c : St} {m : St} {ot : St} {a1 : Int32} {res : St × (Nat → St) × St × St × Int32} (X : CX g RL cL_wake 4 8 131) (hXF : XF g [(0, 9, 12, 35), (0, 9, 15, 13)])  (hf : FinW g cL_wake ((res.1, x1, x2, res.2.1, ta, tb, d, S, pg, res.2.2.1, m, res.2.2.2.1)) (res.2.2.2.2)) (h : sL_wake x0 ps c ot a1 = some res) : G g 0 0 ((x0, x1, x2, ps, ta, tb, d, S, pg, c, m, ot)) 0 [(0, .ref (xE (gκ g) 8 0 0)), (1, .int a1), (2, .ref (xE (gκ g) 10 0 0))] [] := by
  unfold sL_wake at h
  refine G_aload_n X 2 dL_wake_0 rfl rfl ?_
  refine G_iconst X (v := (0 : Int32)) dL_wake_1 (by decide) ?_
  refine G_aload_n X 0 dL_wake_2 rfl rfl ?_
  refine G_iload_n X 1 dL_wake_3 rfl rfl ?_
  obtain ⟨q1, hq1, h⟩ := bd_some h
  rcases q1 with ⟨e0q1, e1q1, e2q1, vq1 | xq1⟩
  rotate_left
  · have h := sm_r h
    by_cases d2 : xq1 = 3
    · subst d2
      have h := it_t rfl h
      refine G_callVX X hXF (c := 3) (As := [.int a1]) (rest := [.int ((0 : Int32)), .ref (xE (gκ g) 10 0 0)]) (T' := (e0q1, x1, x2, e1q1, ta, tb, d, S, pg, e2q1, m, ot)) (ce_X6_wake (l := g.2.1) (κ := gκ g)  hq1) cal_X6_wake wM_L_104 wI_X6_wake wS_X6_wake rfl rfl (by decide) rfl rfl (Nat.le_of_ble_eq_true rfl) dL_wake_4 [] ⟨0, 9, 12, 35⟩ [⟨0, 9, 15, 13⟩] rfl (fun z hz => nomatch hz) (by decide) (by decide) wCl_L_35 (by decide) (fun q9 => ?_)
      refine G_astore_n X (lv' := [(3, .ref q9), (0, .ref (xE (gκ g) 8 0 0)), (1, .int a1), (2, .ref (xE (gκ g) 10 0 0))]) dL_wake_12 rfl (by decide) rfl ?_
      refine G_iconst X (v := (1 : Int32)) dL_wake_13 (by decide) ?_
      obtain rfl := Option.some.inj h
      exact hf _ _ _ _ (by decide) (by decide) dL_wake_14
    have h := it_f d2 h
    by_cases d3 : xq1 = 1
    · subst d3
      have h := it_t rfl h
      refine G_callVX X hXF (c := 1) (As := [.int a1]) (rest := [.int ((0 : Int32)), .ref (xE (gκ g) 10 0 0)]) (T' := (e0q1, x1, x2, e1q1, ta, tb, d, S, pg, e2q1, m, ot)) (ce_X6_wake (l := g.2.1) (κ := gκ g)  hq1) cal_X6_wake wM_L_104 wI_X6_wake wS_X6_wake rfl rfl (by decide) rfl rfl (Nat.le_of_ble_eq_true rfl) dL_wake_4 [⟨0, 9, 12, 35⟩] ⟨0, 9, 15, 13⟩ [] rfl (by intro z hz; cases List.mem_singleton.mp hz; exact ⟨by decide, 3, by decide, by decide, wCl_L_35⟩) (by decide) (by decide) wCl_L_13 (by decide) (fun q9 => ?_)
      refine G_astore_n X (lv' := [(3, .ref q9), (0, .ref (xE (gκ g) 8 0 0)), (1, .int a1), (2, .ref (xE (gκ g) 10 0 0))]) dL_wake_15 rfl (by decide) rfl ?_
      refine G_iconst X (v := (2 : Int32)) dL_wake_16 (by decide) ?_
      obtain rfl := Option.some.inj h
      exact hf _ _ _ _ (by decide) (by decide) dL_wake_17
    have h := it_f d3 h
    cases h
  have h := sm_l h
  refine G_callV X (As := [.int a1]) (rest := [.int ((0 : Int32)), .ref (xE (gκ g) 10 0 0)]) (T' := (e0q1, x1, x2, e1q1, ta, tb, d, S, pg, e2q1, m, ot)) (st2 := [.int vq1, .int ((0 : Int32)), .ref (xE (gκ g) 10 0 0)]) (ct_X6_wake (l := g.2.1) (κ := gκ g)  hq1) cal_X6_wake wM_L_104 wI_X6_wake wS_X6_wake rfl rfl (by decide) rfl rfl (Nat.le_of_ble_eq_true rfl) ⟨Nat.zero_le _, Nat.zero_le _⟩ dL_wake_4 rfl ?_
  refine G_i2l X dL_wake_7 ?_
  obtain ⟨g4, h⟩ := gd_some h
  obtain ⟨z5, ez5, h⟩ := nm_some h
  refine G_last X (T' := (e0q1, x1, x2, e1q1, ta, tb, d, S, pg, e2q1, m, z5)) rfl rfl g4 (by rw [ez5]; rfl) dL_wake_8 ?_
  refine G_goto X (tgt := 18) dL_wake_9 (by decide) ?_
  refine G_iconst X (v := (0 : Int32)) dL_wake_18 (by decide) ?_
  obtain rfl := Option.some.inj h
  exact hf _ _ _ _ (by decide) (by decide) dL_wake_19
set_option maxRecDepth 20000 in
theorem ct_L_wake {l : Launch} {κ : KX}  {x0 : St} {x1 : St} {x2 : St} {ps : Nat → St} {ta : St} {tb : St} {d : St} {S : St} {pg : St} {c : St} {m : St} {ot : St} {a1 : Int32} {res : St × (Nat → St) × St × St × Int32}  (h : sL_wake x0 ps c ot a1 = some res) : CtW l κ yL_wake cL_wake 4 [(0, 9, 12, 35), (0, 9, 15, 13)] 8 131 [.ref (xE κ 8 0 0), .int a1, .ref (xE κ 10 0 0)] ((x0, x1, x2, ps, ta, tb, d, S, pg, c, m, ot)) ((res.1, x1, x2, res.2.1, ta, tb, d, S, pg, res.2.2.1, m, res.2.2.2.1)) (res.2.2.2.2) := by
  refine CtW_of RL rfl (by decide +kernel) (Nat.le_of_ble_eq_true rfl) (fun g hl hκ X hXF hf => ?_)
  subst hl; subst hκ
  exact gL_wake X hXF  hf h
set_option maxRecDepth 20000 in
theorem gL_setEvery {g : GX}  {x0 : St} {x1 : St} {x2 : St} {ps : Nat → St} {ta : St} {tb : St} {d : St} {S : St} {pg : St} {c : St} {m : St} {ot : St} {a1 : Int32} {a2 : Int32} {res : St × (Nat → St) × St × St × Int32} (X : CX g RL cL_setEvery 5 8 134) (hXF : XF g [(0, 10, 13, 35), (0, 10, 17, 19)])  (hf : FinW g cL_setEvery ((res.1, x1, x2, res.2.1, ta, tb, d, S, pg, res.2.2.1, m, res.2.2.2.1)) (res.2.2.2.2)) (h : sL_setEvery x0 ps c ot a1 a2 = some res) : G g 0 0 ((x0, x1, x2, ps, ta, tb, d, S, pg, c, m, ot)) 0 [(0, .ref (xE (gκ g) 8 0 0)), (1, .int a1), (2, .int a2), (3, .ref (xE (gκ g) 10 0 0))] [] := by
  unfold sL_setEvery at h
  refine G_aload_n X 3 dL_setEvery_0 rfl rfl ?_
  refine G_iconst X (v := (0 : Int32)) dL_setEvery_1 (by decide) ?_
  refine G_aload_n X 0 dL_setEvery_2 rfl rfl ?_
  refine G_iload_n X 1 dL_setEvery_3 rfl rfl ?_
  refine G_iload_n X 2 dL_setEvery_4 rfl rfl ?_
  obtain ⟨q1, hq1, h⟩ := bd_some h
  rcases q1 with ⟨e0q1, e1q1, e2q1, vq1 | xq1⟩
  rotate_left
  · have h := sm_r h
    by_cases d2 : xq1 = 3
    · subst d2
      have h := it_t rfl h
      refine G_callVX X hXF (c := 3) (As := [.int a1, .int a2]) (rest := [.int ((0 : Int32)), .ref (xE (gκ g) 10 0 0)]) (T' := (e0q1, x1, x2, e1q1, ta, tb, d, S, pg, e2q1, m, ot)) (ce_X6_setEvery (l := g.2.1) (κ := gκ g)  hq1) cal_X6_setEvery wM_L_107 wI_X6_setEvery wS_X6_setEvery rfl rfl (by decide) rfl rfl (Nat.le_of_ble_eq_true rfl) dL_setEvery_5 [] ⟨0, 10, 13, 35⟩ [⟨0, 10, 17, 19⟩] rfl (fun z hz => nomatch hz) (by decide) (by decide) wCl_L_35 (by decide) (fun q9 => ?_)
      refine G_astore X (lv' := [(4, .ref q9), (0, .ref (xE (gκ g) 8 0 0)), (1, .int a1), (2, .int a2), (3, .ref (xE (gκ g) 10 0 0))]) dL_setEvery_13 (by decide) rfl ?_
      refine G_iconst X (v := (1 : Int32)) dL_setEvery_15 (by decide) ?_
      obtain rfl := Option.some.inj h
      exact hf _ _ _ _ (by decide) (by decide) dL_setEvery_16
    have h := it_f d2 h
    by_cases d3 : xq1 = 2
    · subst d3
      have h := it_t rfl h
      refine G_callVX X hXF (c := 2) (As := [.int a1, .int a2]) (rest := [.int ((0 : Int32)), .ref (xE (gκ g) 10 0 0)]) (T' := (e0q1, x1, x2, e1q1, ta, tb, d, S, pg, e2q1, m, ot)) (ce_X6_setEvery (l := g.2.1) (κ := gκ g)  hq1) cal_X6_setEvery wM_L_107 wI_X6_setEvery wS_X6_setEvery rfl rfl (by decide) rfl rfl (Nat.le_of_ble_eq_true rfl) dL_setEvery_5 [⟨0, 10, 13, 35⟩] ⟨0, 10, 17, 19⟩ [] rfl (by intro z hz; cases List.mem_singleton.mp hz; exact ⟨by decide, 3, by decide, by decide, wCl_L_35⟩) (by decide) (by decide) wCl_L_19 (by decide) (fun q9 => ?_)
      refine G_astore X (lv' := [(4, .ref q9), (0, .ref (xE (gκ g) 8 0 0)), (1, .int a1), (2, .int a2), (3, .ref (xE (gκ g) 10 0 0))]) dL_setEvery_17 (by decide) rfl ?_
      refine G_iconst X (v := (2 : Int32)) dL_setEvery_19 (by decide) ?_
      obtain rfl := Option.some.inj h
      exact hf _ _ _ _ (by decide) (by decide) dL_setEvery_20
    have h := it_f d3 h
    cases h
  have h := sm_l h
  refine G_callV X (As := [.int a1, .int a2]) (rest := [.int ((0 : Int32)), .ref (xE (gκ g) 10 0 0)]) (T' := (e0q1, x1, x2, e1q1, ta, tb, d, S, pg, e2q1, m, ot)) (st2 := [.int vq1, .int ((0 : Int32)), .ref (xE (gκ g) 10 0 0)]) (ct_X6_setEvery (l := g.2.1) (κ := gκ g)  hq1) cal_X6_setEvery wM_L_107 wI_X6_setEvery wS_X6_setEvery rfl rfl (by decide) rfl rfl (Nat.le_of_ble_eq_true rfl) ⟨Nat.zero_le _, Nat.zero_le _⟩ dL_setEvery_5 rfl ?_
  refine G_i2l X dL_setEvery_8 ?_
  obtain ⟨g4, h⟩ := gd_some h
  obtain ⟨z5, ez5, h⟩ := nm_some h
  refine G_last X (T' := (e0q1, x1, x2, e1q1, ta, tb, d, S, pg, e2q1, m, z5)) rfl rfl g4 (by rw [ez5]; rfl) dL_setEvery_9 ?_
  refine G_goto X (tgt := 21) dL_setEvery_10 (by decide) ?_
  refine G_iconst X (v := (0 : Int32)) dL_setEvery_21 (by decide) ?_
  obtain rfl := Option.some.inj h
  exact hf _ _ _ _ (by decide) (by decide) dL_setEvery_22
set_option maxRecDepth 20000 in
theorem ct_L_setEvery {l : Launch} {κ : KX}  {x0 : St} {x1 : St} {x2 : St} {ps : Nat → St} {ta : St} {tb : St} {d : St} {S : St} {pg : St} {c : St} {m : St} {ot : St} {a1 : Int32} {a2 : Int32} {res : St × (Nat → St) × St × St × Int32}  (h : sL_setEvery x0 ps c ot a1 a2 = some res) : CtW l κ yL_setEvery cL_setEvery 5 [(0, 10, 13, 35), (0, 10, 17, 19)] 8 134 [.ref (xE κ 8 0 0), .int a1, .int a2, .ref (xE κ 10 0 0)] ((x0, x1, x2, ps, ta, tb, d, S, pg, c, m, ot)) ((res.1, x1, x2, res.2.1, ta, tb, d, S, pg, res.2.2.1, m, res.2.2.2.1)) (res.2.2.2.2) := by
  refine CtW_of RL rfl (by decide +kernel) (Nat.le_of_ble_eq_true rfl) (fun g hl hκ X hXF hf => ?_)
  subst hl; subst hκ
  exact gL_setEvery X hXF  hf h
set_option maxRecDepth 20000 in
theorem gL_setAt {g : GX}  {x0 : St} {x1 : St} {x2 : St} {ps : Nat → St} {ta : St} {tb : St} {d : St} {S : St} {pg : St} {c : St} {m : St} {ot : St} {a1 : Int32} {a2 : Int32} {res : St × (Nat → St) × St × St × Int32} (X : CX g RL cL_setAt 5 8 134) (hXF : XF g [(0, 10, 13, 35), (0, 10, 17, 19)])  (hf : FinW g cL_setAt ((res.1, x1, x2, res.2.1, ta, tb, d, S, pg, res.2.2.1, m, res.2.2.2.1)) (res.2.2.2.2)) (h : sL_setAt x0 ps c ot a1 a2 = some res) : G g 0 0 ((x0, x1, x2, ps, ta, tb, d, S, pg, c, m, ot)) 0 [(0, .ref (xE (gκ g) 8 0 0)), (1, .int a1), (2, .int a2), (3, .ref (xE (gκ g) 10 0 0))] [] := by
  unfold sL_setAt at h
  refine G_aload_n X 3 dL_setAt_0 rfl rfl ?_
  refine G_iconst X (v := (0 : Int32)) dL_setAt_1 (by decide) ?_
  refine G_aload_n X 0 dL_setAt_2 rfl rfl ?_
  refine G_iload_n X 1 dL_setAt_3 rfl rfl ?_
  refine G_iload_n X 2 dL_setAt_4 rfl rfl ?_
  obtain ⟨q1, hq1, h⟩ := bd_some h
  rcases q1 with ⟨e0q1, e1q1, e2q1, vq1 | xq1⟩
  rotate_left
  · have h := sm_r h
    by_cases d2 : xq1 = 3
    · subst d2
      have h := it_t rfl h
      refine G_callVX X hXF (c := 3) (As := [.int a1, .int a2]) (rest := [.int ((0 : Int32)), .ref (xE (gκ g) 10 0 0)]) (T' := (e0q1, x1, x2, e1q1, ta, tb, d, S, pg, e2q1, m, ot)) (ce_X6_setAt (l := g.2.1) (κ := gκ g)  hq1) cal_X6_setAt wM_L_110 wI_X6_setAt wS_X6_setAt rfl rfl (by decide) rfl rfl (Nat.le_of_ble_eq_true rfl) dL_setAt_5 [] ⟨0, 10, 13, 35⟩ [⟨0, 10, 17, 19⟩] rfl (fun z hz => nomatch hz) (by decide) (by decide) wCl_L_35 (by decide) (fun q9 => ?_)
      refine G_astore X (lv' := [(4, .ref q9), (0, .ref (xE (gκ g) 8 0 0)), (1, .int a1), (2, .int a2), (3, .ref (xE (gκ g) 10 0 0))]) dL_setAt_13 (by decide) rfl ?_
      refine G_iconst X (v := (1 : Int32)) dL_setAt_15 (by decide) ?_
      obtain rfl := Option.some.inj h
      exact hf _ _ _ _ (by decide) (by decide) dL_setAt_16
    have h := it_f d2 h
    by_cases d3 : xq1 = 2
    · subst d3
      have h := it_t rfl h
      refine G_callVX X hXF (c := 2) (As := [.int a1, .int a2]) (rest := [.int ((0 : Int32)), .ref (xE (gκ g) 10 0 0)]) (T' := (e0q1, x1, x2, e1q1, ta, tb, d, S, pg, e2q1, m, ot)) (ce_X6_setAt (l := g.2.1) (κ := gκ g)  hq1) cal_X6_setAt wM_L_110 wI_X6_setAt wS_X6_setAt rfl rfl (by decide) rfl rfl (Nat.le_of_ble_eq_true rfl) dL_setAt_5 [⟨0, 10, 13, 35⟩] ⟨0, 10, 17, 19⟩ [] rfl (by intro z hz; cases List.mem_singleton.mp hz; exact ⟨by decide, 3, by decide, by decide, wCl_L_35⟩) (by decide) (by decide) wCl_L_19 (by decide) (fun q9 => ?_)
      refine G_astore X (lv' := [(4, .ref q9), (0, .ref (xE (gκ g) 8 0 0)), (1, .int a1), (2, .int a2), (3, .ref (xE (gκ g) 10 0 0))]) dL_setAt_17 (by decide) rfl ?_
      refine G_iconst X (v := (2 : Int32)) dL_setAt_19 (by decide) ?_
      obtain rfl := Option.some.inj h
      exact hf _ _ _ _ (by decide) (by decide) dL_setAt_20
    have h := it_f d3 h
    cases h
  have h := sm_l h
  refine G_callV X (As := [.int a1, .int a2]) (rest := [.int ((0 : Int32)), .ref (xE (gκ g) 10 0 0)]) (T' := (e0q1, x1, x2, e1q1, ta, tb, d, S, pg, e2q1, m, ot)) (st2 := [.int vq1, .int ((0 : Int32)), .ref (xE (gκ g) 10 0 0)]) (ct_X6_setAt (l := g.2.1) (κ := gκ g)  hq1) cal_X6_setAt wM_L_110 wI_X6_setAt wS_X6_setAt rfl rfl (by decide) rfl rfl (Nat.le_of_ble_eq_true rfl) ⟨Nat.zero_le _, Nat.zero_le _⟩ dL_setAt_5 rfl ?_
  refine G_i2l X dL_setAt_8 ?_
  obtain ⟨g4, h⟩ := gd_some h
  obtain ⟨z5, ez5, h⟩ := nm_some h
  refine G_last X (T' := (e0q1, x1, x2, e1q1, ta, tb, d, S, pg, e2q1, m, z5)) rfl rfl g4 (by rw [ez5]; rfl) dL_setAt_9 ?_
  refine G_goto X (tgt := 21) dL_setAt_10 (by decide) ?_
  refine G_iconst X (v := (0 : Int32)) dL_setAt_21 (by decide) ?_
  obtain rfl := Option.some.inj h
  exact hf _ _ _ _ (by decide) (by decide) dL_setAt_22
set_option maxRecDepth 20000 in
theorem ct_L_setAt {l : Launch} {κ : KX}  {x0 : St} {x1 : St} {x2 : St} {ps : Nat → St} {ta : St} {tb : St} {d : St} {S : St} {pg : St} {c : St} {m : St} {ot : St} {a1 : Int32} {a2 : Int32} {res : St × (Nat → St) × St × St × Int32}  (h : sL_setAt x0 ps c ot a1 a2 = some res) : CtW l κ yL_setAt cL_setAt 5 [(0, 10, 13, 35), (0, 10, 17, 19)] 8 134 [.ref (xE κ 8 0 0), .int a1, .int a2, .ref (xE κ 10 0 0)] ((x0, x1, x2, ps, ta, tb, d, S, pg, c, m, ot)) ((res.1, x1, x2, res.2.1, ta, tb, d, S, pg, res.2.2.1, m, res.2.2.2.1)) (res.2.2.2.2) := by
  refine CtW_of RL rfl (by decide +kernel) (Nat.le_of_ble_eq_true rfl) (fun g hl hκ X hXF hf => ?_)
  subst hl; subst hκ
  exact gL_setAt X hXF  hf h
set_option maxRecDepth 20000 in
theorem gL_charge {g : GX}  {x0 : St} {x1 : St} {x2 : St} {ps : Nat → St} {ta : St} {tb : St} {d : St} {S : St} {pg : St} {c : St} {m : St} {ot : St} {a1 : Int32} {a2 : Int32} {res : St × (Nat → St) × St × St × Int32} (X : CX g RL cL_charge 5 8 132) (hXF : XF g [(0, 10, 13, 35), (0, 10, 17, 19)])  (hf : FinW g cL_charge ((res.1, x1, x2, res.2.1, ta, tb, d, S, pg, res.2.2.1, m, res.2.2.2.1)) (res.2.2.2.2)) (h : sL_charge x0 ps c ot a1 a2 = some res) : G g 0 0 ((x0, x1, x2, ps, ta, tb, d, S, pg, c, m, ot)) 0 [(0, .ref (xE (gκ g) 8 0 0)), (1, .int a1), (2, .int a2), (3, .ref (xE (gκ g) 10 0 0))] [] := by
  unfold sL_charge at h
  refine G_aload_n X 3 dL_charge_0 rfl rfl ?_
  refine G_iconst X (v := (0 : Int32)) dL_charge_1 (by decide) ?_
  refine G_aload_n X 0 dL_charge_2 rfl rfl ?_
  refine G_iload_n X 1 dL_charge_3 rfl rfl ?_
  refine G_iload_n X 2 dL_charge_4 rfl rfl ?_
  obtain ⟨q1, hq1, h⟩ := bd_some h
  rcases q1 with ⟨e0q1, e1q1, e2q1, vq1 | xq1⟩
  rotate_left
  · have h := sm_r h
    by_cases d2 : xq1 = 3
    · subst d2
      have h := it_t rfl h
      refine G_callVX X hXF (c := 3) (As := [.int a1, .int a2]) (rest := [.int ((0 : Int32)), .ref (xE (gκ g) 10 0 0)]) (T' := (e0q1, x1, x2, e1q1, ta, tb, d, S, pg, e2q1, m, ot)) (ce_X6_charge (l := g.2.1) (κ := gκ g)  hq1) cal_X6_charge wM_L_113 wI_X6_charge wS_X6_charge rfl rfl (by decide) rfl rfl (Nat.le_of_ble_eq_true rfl) dL_charge_5 [] ⟨0, 10, 13, 35⟩ [⟨0, 10, 17, 19⟩] rfl (fun z hz => nomatch hz) (by decide) (by decide) wCl_L_35 (by decide) (fun q9 => ?_)
      refine G_astore X (lv' := [(4, .ref q9), (0, .ref (xE (gκ g) 8 0 0)), (1, .int a1), (2, .int a2), (3, .ref (xE (gκ g) 10 0 0))]) dL_charge_13 (by decide) rfl ?_
      refine G_iconst X (v := (1 : Int32)) dL_charge_15 (by decide) ?_
      obtain rfl := Option.some.inj h
      exact hf _ _ _ _ (by decide) (by decide) dL_charge_16
    have h := it_f d2 h
    by_cases d3 : xq1 = 2
    · subst d3
      have h := it_t rfl h
      refine G_callVX X hXF (c := 2) (As := [.int a1, .int a2]) (rest := [.int ((0 : Int32)), .ref (xE (gκ g) 10 0 0)]) (T' := (e0q1, x1, x2, e1q1, ta, tb, d, S, pg, e2q1, m, ot)) (ce_X6_charge (l := g.2.1) (κ := gκ g)  hq1) cal_X6_charge wM_L_113 wI_X6_charge wS_X6_charge rfl rfl (by decide) rfl rfl (Nat.le_of_ble_eq_true rfl) dL_charge_5 [⟨0, 10, 13, 35⟩] ⟨0, 10, 17, 19⟩ [] rfl (by intro z hz; cases List.mem_singleton.mp hz; exact ⟨by decide, 3, by decide, by decide, wCl_L_35⟩) (by decide) (by decide) wCl_L_19 (by decide) (fun q9 => ?_)
      refine G_astore X (lv' := [(4, .ref q9), (0, .ref (xE (gκ g) 8 0 0)), (1, .int a1), (2, .int a2), (3, .ref (xE (gκ g) 10 0 0))]) dL_charge_17 (by decide) rfl ?_
      refine G_iconst X (v := (2 : Int32)) dL_charge_19 (by decide) ?_
      obtain rfl := Option.some.inj h
      exact hf _ _ _ _ (by decide) (by decide) dL_charge_20
    have h := it_f d3 h
    cases h
  have h := sm_l h
  refine G_callV X (As := [.int a1, .int a2]) (rest := [.int ((0 : Int32)), .ref (xE (gκ g) 10 0 0)]) (T' := (e0q1, x1, x2, e1q1, ta, tb, d, S, pg, e2q1, m, ot)) (st2 := [.int vq1, .int ((0 : Int32)), .ref (xE (gκ g) 10 0 0)]) (ct_X6_charge (l := g.2.1) (κ := gκ g)  hq1) cal_X6_charge wM_L_113 wI_X6_charge wS_X6_charge rfl rfl (by decide) rfl rfl (Nat.le_of_ble_eq_true rfl) ⟨Nat.zero_le _, Nat.zero_le _⟩ dL_charge_5 rfl ?_
  refine G_i2l X dL_charge_8 ?_
  obtain ⟨g4, h⟩ := gd_some h
  obtain ⟨z5, ez5, h⟩ := nm_some h
  refine G_last X (T' := (e0q1, x1, x2, e1q1, ta, tb, d, S, pg, e2q1, m, z5)) rfl rfl g4 (by rw [ez5]; rfl) dL_charge_9 ?_
  refine G_goto X (tgt := 21) dL_charge_10 (by decide) ?_
  refine G_iconst X (v := (0 : Int32)) dL_charge_21 (by decide) ?_
  obtain rfl := Option.some.inj h
  exact hf _ _ _ _ (by decide) (by decide) dL_charge_22
set_option maxRecDepth 20000 in
theorem ct_L_charge {l : Launch} {κ : KX}  {x0 : St} {x1 : St} {x2 : St} {ps : Nat → St} {ta : St} {tb : St} {d : St} {S : St} {pg : St} {c : St} {m : St} {ot : St} {a1 : Int32} {a2 : Int32} {res : St × (Nat → St) × St × St × Int32}  (h : sL_charge x0 ps c ot a1 a2 = some res) : CtW l κ yL_charge cL_charge 5 [(0, 10, 13, 35), (0, 10, 17, 19)] 8 132 [.ref (xE κ 8 0 0), .int a1, .int a2, .ref (xE κ 10 0 0)] ((x0, x1, x2, ps, ta, tb, d, S, pg, c, m, ot)) ((res.1, x1, x2, res.2.1, ta, tb, d, S, pg, res.2.2.1, m, res.2.2.2.1)) (res.2.2.2.2) := by
  refine CtW_of RL rfl (by decide +kernel) (Nat.le_of_ble_eq_true rfl) (fun g hl hκ X hXF hf => ?_)
  subst hl; subst hκ
  exact gL_charge X hXF  hf h
set_option maxRecDepth 20000 in
theorem gL_setNear {g : GX}  {x0 : St} {x1 : St} {x2 : St} {ps : Nat → St} {ta : St} {tb : St} {d : St} {S : St} {pg : St} {c : St} {m : St} {ot : St} {a1 : Int32} {a2 : Int32} {a3 : Int32} {res : St × (Nat → St) × St × St × Int32} (X : CX g RL cL_setNear 6 8 133) (hXF : XF g [(0, 19, 22, 35), (0, 19, 26, 19)])  (hf : FinW g cL_setNear ((res.1, x1, x2, res.2.1, ta, tb, d, S, pg, res.2.2.1, m, res.2.2.2.1)) (res.2.2.2.2)) (h : sL_setNear x0 ps c ot a1 a2 a3 = some res) : G g 0 0 ((x0, x1, x2, ps, ta, tb, d, S, pg, c, m, ot)) 0 [(0, .ref (xE (gκ g) 8 0 0)), (1, .int a1), (2, .int a2), (3, .int a3), (4, .ref (xE (gκ g) 10 0 0))] [] := by
  unfold sL_setNear at h
  refine G_aload X 4 dL_setNear_0 rfl ?_
  refine G_iconst X (v := (0 : Int32)) dL_setNear_2 (by decide) ?_
  refine G_aload_n X 0 dL_setNear_3 rfl rfl ?_
  refine G_iload_n X 1 dL_setNear_4 rfl rfl ?_
  refine G_iload_n X 2 dL_setNear_5 rfl rfl ?_
  refine G_iload_n X 3 dL_setNear_6 rfl rfl ?_
  obtain ⟨q1, hq1, h⟩ := bd_some h
  rcases q1 with ⟨e0q1, e1q1, e2q1, vq1 | xq1⟩
  rotate_left
  · have h := sm_r h
    by_cases d2 : xq1 = 3
    · subst d2
      have h := it_t rfl h
      refine G_callVX X hXF (c := 3) (As := [.int a1, .int a2, .int a3]) (rest := [.int ((0 : Int32)), .ref (xE (gκ g) 10 0 0)]) (T' := (e0q1, x1, x2, e1q1, ta, tb, d, S, pg, e2q1, m, ot)) (ce_X6_setNear (l := g.2.1) (κ := gκ g)  hq1) cal_X6_setNear wM_L_116 wI_X6_setNear wS_X6_setNear rfl rfl (by decide) rfl rfl (Nat.le_of_ble_eq_true rfl) dL_setNear_7 [] ⟨0, 19, 22, 35⟩ [⟨0, 19, 26, 19⟩] rfl (fun z hz => nomatch hz) (by decide) (by decide) wCl_L_35 (by decide) (fun q9 => ?_)
      refine G_astore X (lv' := [(5, .ref q9), (0, .ref (xE (gκ g) 8 0 0)), (1, .int a1), (2, .int a2), (3, .int a3), (4, .ref (xE (gκ g) 10 0 0))]) dL_setNear_22 (by decide) rfl ?_
      refine G_iconst X (v := (1 : Int32)) dL_setNear_24 (by decide) ?_
      obtain rfl := Option.some.inj h
      exact hf _ _ _ _ (by decide) (by decide) dL_setNear_25
    have h := it_f d2 h
    by_cases d3 : xq1 = 2
    · subst d3
      have h := it_t rfl h
      refine G_callVX X hXF (c := 2) (As := [.int a1, .int a2, .int a3]) (rest := [.int ((0 : Int32)), .ref (xE (gκ g) 10 0 0)]) (T' := (e0q1, x1, x2, e1q1, ta, tb, d, S, pg, e2q1, m, ot)) (ce_X6_setNear (l := g.2.1) (κ := gκ g)  hq1) cal_X6_setNear wM_L_116 wI_X6_setNear wS_X6_setNear rfl rfl (by decide) rfl rfl (Nat.le_of_ble_eq_true rfl) dL_setNear_7 [⟨0, 19, 22, 35⟩] ⟨0, 19, 26, 19⟩ [] rfl (by intro z hz; cases List.mem_singleton.mp hz; exact ⟨by decide, 3, by decide, by decide, wCl_L_35⟩) (by decide) (by decide) wCl_L_19 (by decide) (fun q9 => ?_)
      refine G_astore X (lv' := [(5, .ref q9), (0, .ref (xE (gκ g) 8 0 0)), (1, .int a1), (2, .int a2), (3, .int a3), (4, .ref (xE (gκ g) 10 0 0))]) dL_setNear_26 (by decide) rfl ?_
      refine G_iconst X (v := (2 : Int32)) dL_setNear_28 (by decide) ?_
      obtain rfl := Option.some.inj h
      exact hf _ _ _ _ (by decide) (by decide) dL_setNear_29
    have h := it_f d3 h
    cases h
  have h := sm_l h
  refine G_callV X (As := [.int a1, .int a2, .int a3]) (rest := [.int ((0 : Int32)), .ref (xE (gκ g) 10 0 0)]) (T' := (e0q1, x1, x2, e1q1, ta, tb, d, S, pg, e2q1, m, ot)) (st2 := [.int vq1, .int ((0 : Int32)), .ref (xE (gκ g) 10 0 0)]) (ct_X6_setNear (l := g.2.1) (κ := gκ g)  hq1) cal_X6_setNear wM_L_116 wI_X6_setNear wS_X6_setNear rfl rfl (by decide) rfl rfl (Nat.le_of_ble_eq_true rfl) ⟨Nat.zero_le _, Nat.zero_le _⟩ dL_setNear_7 rfl ?_
  refine G_if_eq X (tgt := 17) dL_setNear_10 (by decide) (fun c4 => ?_) (fun c4 => ?_)
  · have h := it_t c4 h
    refine G_lconst X (v := (0 : Int64)) dL_setNear_17 (by decide) ?_
    obtain ⟨g5, h⟩ := gd_some h
    obtain ⟨z6, ez6, h⟩ := nm_some h
    refine G_last X (T' := (e0q1, x1, x2, e1q1, ta, tb, d, S, pg, e2q1, m, z6)) rfl rfl g5 (by rw [ez6]; rfl) dL_setNear_18 ?_
    refine G_goto X (tgt := 30) dL_setNear_19 (by decide) ?_
    refine G_iconst X (v := (0 : Int32)) dL_setNear_30 (by decide) ?_
    obtain rfl := Option.some.inj h
    exact hf _ _ _ _ (by decide) (by decide) dL_setNear_31
  · have h := it_f c4 h
    refine G_lconst X (v := (1 : Int64)) dL_setNear_13 (by decide) ?_
    refine G_goto X (tgt := 18) dL_setNear_14 (by decide) ?_
    obtain ⟨g7, h⟩ := gd_some h
    obtain ⟨z8, ez8, h⟩ := nm_some h
    refine G_last X (T' := (e0q1, x1, x2, e1q1, ta, tb, d, S, pg, e2q1, m, z8)) rfl rfl g7 (by rw [ez8]; rfl) dL_setNear_18 ?_
    refine G_goto X (tgt := 30) dL_setNear_19 (by decide) ?_
    refine G_iconst X (v := (0 : Int32)) dL_setNear_30 (by decide) ?_
    obtain rfl := Option.some.inj h
    exact hf _ _ _ _ (by decide) (by decide) dL_setNear_31
set_option maxRecDepth 20000 in
theorem ct_L_setNear {l : Launch} {κ : KX}  {x0 : St} {x1 : St} {x2 : St} {ps : Nat → St} {ta : St} {tb : St} {d : St} {S : St} {pg : St} {c : St} {m : St} {ot : St} {a1 : Int32} {a2 : Int32} {a3 : Int32} {res : St × (Nat → St) × St × St × Int32}  (h : sL_setNear x0 ps c ot a1 a2 a3 = some res) : CtW l κ yL_setNear cL_setNear 6 [(0, 19, 22, 35), (0, 19, 26, 19)] 8 133 [.ref (xE κ 8 0 0), .int a1, .int a2, .int a3, .ref (xE κ 10 0 0)] ((x0, x1, x2, ps, ta, tb, d, S, pg, c, m, ot)) ((res.1, x1, x2, res.2.1, ta, tb, d, S, pg, res.2.2.1, m, res.2.2.2.1)) (res.2.2.2.2) := by
  refine CtW_of RL rfl (by decide +kernel) (Nat.le_of_ble_eq_true rfl) (fun g hl hκ X hXF hf => ?_)
  subst hl; subst hκ
  exact gL_setNear X hXF  hf h
set_option maxRecDepth 20000 in
theorem gL_setTries {g : GX}  {x0 : St} {x1 : St} {x2 : St} {ps : Nat → St} {ta : St} {tb : St} {d : St} {S : St} {pg : St} {c : St} {m : St} {ot : St} {a1 : Int32} {res : St × (Nat → St) × St × St × Int32} (X : CX g RL cL_setTries 4 7 111) (hXF : XF g [(0, 9, 12, 19)])  (hf : FinW g cL_setTries ((res.1, x1, x2, res.2.1, ta, tb, d, S, pg, res.2.2.1, m, res.2.2.2.1)) (res.2.2.2.2)) (h : sL_setTries x0 ps c ot a1 = some res) : G g 0 0 ((x0, x1, x2, ps, ta, tb, d, S, pg, c, m, ot)) 0 [(0, .ref (xE (gκ g) 8 0 0)), (1, .int a1), (2, .ref (xE (gκ g) 10 0 0))] [] := by
  unfold sL_setTries at h
  refine G_aload_n X 2 dL_setTries_0 rfl rfl ?_
  refine G_iconst X (v := (0 : Int32)) dL_setTries_1 (by decide) ?_
  refine G_aload_n X 0 dL_setTries_2 rfl rfl ?_
  refine G_iload_n X 1 dL_setTries_3 rfl rfl ?_
  obtain ⟨q1, hq1, h⟩ := bd_some h
  rcases q1 with ⟨e0q1, e1q1, e2q1, vq1 | xq1⟩
  rotate_left
  · have h := sm_r h
    by_cases d2 : xq1 = 2
    · subst d2
      have h := it_t rfl h
      refine G_callVX X hXF (c := 2) (As := [.int a1]) (rest := [.int ((0 : Int32)), .ref (xE (gκ g) 10 0 0)]) (T' := (e0q1, x1, x2, e1q1, ta, tb, d, S, pg, e2q1, m, ot)) (ce_X6_setTries (l := g.2.1) (κ := gκ g)  hq1) cal_X6_setTries wM_L_120 wI_X6_setTries wS_X6_setTries rfl rfl (by decide) rfl rfl (Nat.le_of_ble_eq_true rfl) dL_setTries_4 [] ⟨0, 9, 12, 19⟩ [] rfl (fun z hz => nomatch hz) (by decide) (by decide) wCl_L_19 (by decide) (fun q9 => ?_)
      refine G_astore_n X (lv' := [(3, .ref q9), (0, .ref (xE (gκ g) 8 0 0)), (1, .int a1), (2, .ref (xE (gκ g) 10 0 0))]) dL_setTries_12 rfl (by decide) rfl ?_
      refine G_iconst X (v := (1 : Int32)) dL_setTries_13 (by decide) ?_
      obtain rfl := Option.some.inj h
      exact hf _ _ _ _ (by decide) (by decide) dL_setTries_14
    have h := it_f d2 h
    cases h
  have h := sm_l h
  refine G_callV X (As := [.int a1]) (rest := [.int ((0 : Int32)), .ref (xE (gκ g) 10 0 0)]) (T' := (e0q1, x1, x2, e1q1, ta, tb, d, S, pg, e2q1, m, ot)) (st2 := [.int vq1, .int ((0 : Int32)), .ref (xE (gκ g) 10 0 0)]) (ct_X6_setTries (l := g.2.1) (κ := gκ g)  hq1) cal_X6_setTries wM_L_120 wI_X6_setTries wS_X6_setTries rfl rfl (by decide) rfl rfl (Nat.le_of_ble_eq_true rfl) ⟨Nat.zero_le _, Nat.zero_le _⟩ dL_setTries_4 rfl ?_
  refine G_i2l X dL_setTries_7 ?_
  obtain ⟨g3, h⟩ := gd_some h
  obtain ⟨z4, ez4, h⟩ := nm_some h
  refine G_last X (T' := (e0q1, x1, x2, e1q1, ta, tb, d, S, pg, e2q1, m, z4)) rfl rfl g3 (by rw [ez4]; rfl) dL_setTries_8 ?_
  refine G_goto X (tgt := 15) dL_setTries_9 (by decide) ?_
  refine G_iconst X (v := (0 : Int32)) dL_setTries_15 (by decide) ?_
  obtain rfl := Option.some.inj h
  exact hf _ _ _ _ (by decide) (by decide) dL_setTries_16
set_option maxRecDepth 20000 in
theorem ct_L_setTries {l : Launch} {κ : KX}  {x0 : St} {x1 : St} {x2 : St} {ps : Nat → St} {ta : St} {tb : St} {d : St} {S : St} {pg : St} {c : St} {m : St} {ot : St} {a1 : Int32} {res : St × (Nat → St) × St × St × Int32}  (h : sL_setTries x0 ps c ot a1 = some res) : CtW l κ yL_setTries cL_setTries 4 [(0, 9, 12, 19)] 7 111 [.ref (xE κ 8 0 0), .int a1, .ref (xE κ 10 0 0)] ((x0, x1, x2, ps, ta, tb, d, S, pg, c, m, ot)) ((res.1, x1, x2, res.2.1, ta, tb, d, S, pg, res.2.2.1, m, res.2.2.2.1)) (res.2.2.2.2) := by
  refine CtW_of RL rfl (by decide +kernel) (Nat.le_of_ble_eq_true rfl) (fun g hl hκ X hXF hf => ?_)
  subst hl; subst hκ
  exact gL_setTries X hXF  hf h
set_option maxRecDepth 20000 in
theorem gL_reportByte {g : GX}  {x0 : St} {x1 : St} {x2 : St} {ps : Nat → St} {ta : St} {tb : St} {d : St} {S : St} {pg : St} {c : St} {m : St} {ot : St} {a1 : Int32} {res : St × Int32} (X : CX g RL cL_reportByte 4 7 110) (hXF : XF g [(0, 9, 12, 35)])  (hf : FinW g cL_reportByte ((x0, x1, x2, ps, ta, tb, d, S, pg, c, m, res.1)) (res.2)) (h : sL_reportByte pg ot a1 = some res) : G g 0 0 ((x0, x1, x2, ps, ta, tb, d, S, pg, c, m, ot)) 0 [(0, .ref (xE (gκ g) 8 0 0)), (1, .int a1), (2, .ref (xE (gκ g) 10 0 0))] [] := by
  unfold sL_reportByte at h
  refine G_aload_n X 2 dL_reportByte_0 rfl rfl ?_
  refine G_iconst X (v := (0 : Int32)) dL_reportByte_1 (by decide) ?_
  refine G_aload_n X 0 dL_reportByte_2 rfl rfl ?_
  refine G_iload_n X 1 dL_reportByte_3 rfl rfl ?_
  obtain ⟨q1, hq1, h⟩ := bd_some h
  rcases q1 with vq1 | xq1
  rotate_left
  · have h := sm_r h
    by_cases d2 : xq1 = 3
    · subst d2
      have h := it_t rfl h
      refine G_callVX X hXF (c := 3) (As := [.int a1]) (rest := [.int ((0 : Int32)), .ref (xE (gκ g) 10 0 0)]) (T' := (x0, x1, x2, ps, ta, tb, d, S, pg, c, m, ot)) (ce_X6_reportByte (l := g.2.1) (κ := gκ g)  hq1) cal_X6_reportByte wM_L_123 wI_X6_reportByte wS_X6_reportByte rfl rfl (by decide) rfl rfl (Nat.le_of_ble_eq_true rfl) dL_reportByte_4 [] ⟨0, 9, 12, 35⟩ [] rfl (fun z hz => nomatch hz) (by decide) (by decide) wCl_L_35 (by decide) (fun q9 => ?_)
      refine G_astore_n X (lv' := [(3, .ref q9), (0, .ref (xE (gκ g) 8 0 0)), (1, .int a1), (2, .ref (xE (gκ g) 10 0 0))]) dL_reportByte_12 rfl (by decide) rfl ?_
      refine G_iconst X (v := (1 : Int32)) dL_reportByte_13 (by decide) ?_
      obtain rfl := Option.some.inj h
      exact hf _ _ _ _ (by decide) (by decide) dL_reportByte_14
    have h := it_f d2 h
    cases h
  have h := sm_l h
  refine G_callV X (As := [.int a1]) (rest := [.int ((0 : Int32)), .ref (xE (gκ g) 10 0 0)]) (T' := (x0, x1, x2, ps, ta, tb, d, S, pg, c, m, ot)) (st2 := [.int vq1, .int ((0 : Int32)), .ref (xE (gκ g) 10 0 0)]) (ct_X6_reportByte (l := g.2.1) (κ := gκ g)  hq1) cal_X6_reportByte wM_L_123 wI_X6_reportByte wS_X6_reportByte rfl rfl (by decide) rfl rfl (Nat.le_of_ble_eq_true rfl) ⟨Nat.zero_le _, Nat.zero_le _⟩ dL_reportByte_4 rfl ?_
  refine G_i2l X dL_reportByte_7 ?_
  obtain ⟨g3, h⟩ := gd_some h
  obtain ⟨z4, ez4, h⟩ := nm_some h
  refine G_last X (T' := (x0, x1, x2, ps, ta, tb, d, S, pg, c, m, z4)) rfl rfl g3 (by rw [ez4]; rfl) dL_reportByte_8 ?_
  refine G_goto X (tgt := 15) dL_reportByte_9 (by decide) ?_
  refine G_iconst X (v := (0 : Int32)) dL_reportByte_15 (by decide) ?_
  obtain rfl := Option.some.inj h
  exact hf _ _ _ _ (by decide) (by decide) dL_reportByte_16
set_option maxRecDepth 20000 in
theorem ct_L_reportByte {l : Launch} {κ : KX}  {x0 : St} {x1 : St} {x2 : St} {ps : Nat → St} {ta : St} {tb : St} {d : St} {S : St} {pg : St} {c : St} {m : St} {ot : St} {a1 : Int32} {res : St × Int32}  (h : sL_reportByte pg ot a1 = some res) : CtW l κ yL_reportByte cL_reportByte 4 [(0, 9, 12, 35)] 7 110 [.ref (xE κ 8 0 0), .int a1, .ref (xE κ 10 0 0)] ((x0, x1, x2, ps, ta, tb, d, S, pg, c, m, ot)) ((x0, x1, x2, ps, ta, tb, d, S, pg, c, m, res.1)) (res.2) := by
  refine CtW_of RL rfl (by decide +kernel) (Nat.le_of_ble_eq_true rfl) (fun g hl hκ X hXF hf => ?_)
  subst hl; subst hκ
  exact gL_reportByte X hXF  hf h
set_option maxRecDepth 20000 in
theorem gL_restore {g : GX}  {x0 : St} {x1 : St} {x2 : St} {ps : Nat → St} {ta : St} {tb : St} {d : St} {S : St} {pg : St} {c : St} {m : St} {ot : St}  {res : St × St × St × Int32} (X : CX g RL cL_restore 3 7 109) (hXF : XF g [(0, 8, 11, 13)])  (hf : FinW g cL_restore ((res.1, x1, x2, ps, ta, tb, d, S, pg, res.2.1, m, res.2.2.1)) (res.2.2.2)) (h : sL_restore x0 x2 c ot = some res) : G g 0 0 ((x0, x1, x2, ps, ta, tb, d, S, pg, c, m, ot)) 0 [(0, .ref (xE (gκ g) 8 0 0)), (1, .ref (xE (gκ g) 10 0 0))] [] := by
  unfold sL_restore at h
  refine G_aload_n X 1 dL_restore_0 rfl rfl ?_
  refine G_iconst X (v := (0 : Int32)) dL_restore_1 (by decide) ?_
  refine G_aload_n X 0 dL_restore_2 rfl rfl ?_
  obtain ⟨q1, hq1, h⟩ := bd_some h
  rcases q1 with ⟨e0q1, e1q1, vq1 | xq1⟩
  rotate_left
  · have h := sm_r h
    by_cases d2 : xq1 = 1
    · subst d2
      have h := it_t rfl h
      refine G_callVX X hXF (c := 1) (As := []) (rest := [.int ((0 : Int32)), .ref (xE (gκ g) 10 0 0)]) (T' := (e0q1, x1, x2, ps, ta, tb, d, S, pg, e1q1, m, ot)) (ce_X6_restore (l := g.2.1) (κ := gκ g)  hq1) cal_X6_restore wM_L_126 wI_X6_restore wS_X6_restore rfl rfl (by decide) rfl rfl (Nat.le_of_ble_eq_true rfl) dL_restore_3 [] ⟨0, 8, 11, 13⟩ [] rfl (fun z hz => nomatch hz) (by decide) (by decide) wCl_L_13 (by decide) (fun q9 => ?_)
      refine G_astore_n X (lv' := [(2, .ref q9), (0, .ref (xE (gκ g) 8 0 0)), (1, .ref (xE (gκ g) 10 0 0))]) dL_restore_11 rfl (by decide) rfl ?_
      refine G_iconst X (v := (1 : Int32)) dL_restore_12 (by decide) ?_
      obtain rfl := Option.some.inj h
      exact hf _ _ _ _ (by decide) (by decide) dL_restore_13
    have h := it_f d2 h
    cases h
  have h := sm_l h
  refine G_callV X (As := []) (rest := [.int ((0 : Int32)), .ref (xE (gκ g) 10 0 0)]) (T' := (e0q1, x1, x2, ps, ta, tb, d, S, pg, e1q1, m, ot)) (st2 := [.int vq1, .int ((0 : Int32)), .ref (xE (gκ g) 10 0 0)]) (ct_X6_restore (l := g.2.1) (κ := gκ g)  hq1) cal_X6_restore wM_L_126 wI_X6_restore wS_X6_restore rfl rfl (by decide) rfl rfl (Nat.le_of_ble_eq_true rfl) ⟨Nat.zero_le _, Nat.zero_le _⟩ dL_restore_3 rfl ?_
  refine G_i2l X dL_restore_6 ?_
  obtain ⟨g3, h⟩ := gd_some h
  obtain ⟨z4, ez4, h⟩ := nm_some h
  refine G_last X (T' := (e0q1, x1, x2, ps, ta, tb, d, S, pg, e1q1, m, z4)) rfl rfl g3 (by rw [ez4]; rfl) dL_restore_7 ?_
  refine G_goto X (tgt := 14) dL_restore_8 (by decide) ?_
  refine G_iconst X (v := (0 : Int32)) dL_restore_14 (by decide) ?_
  obtain rfl := Option.some.inj h
  exact hf _ _ _ _ (by decide) (by decide) dL_restore_15
set_option maxRecDepth 20000 in
theorem ct_L_restore {l : Launch} {κ : KX}  {x0 : St} {x1 : St} {x2 : St} {ps : Nat → St} {ta : St} {tb : St} {d : St} {S : St} {pg : St} {c : St} {m : St} {ot : St}  {res : St × St × St × Int32}  (h : sL_restore x0 x2 c ot = some res) : CtW l κ yL_restore cL_restore 3 [(0, 8, 11, 13)] 7 109 [.ref (xE κ 8 0 0), .ref (xE κ 10 0 0)] ((x0, x1, x2, ps, ta, tb, d, S, pg, c, m, ot)) ((res.1, x1, x2, ps, ta, tb, d, S, pg, res.2.1, m, res.2.2.1)) (res.2.2.2) := by
  refine CtW_of RL rfl (by decide +kernel) (Nat.le_of_ble_eq_true rfl) (fun g hl hκ X hXF hf => ?_)
  subst hl; subst hκ
  exact gL_restore X hXF  hf h
