theorem cal_L_beacon : CalW yL_beacon cL_beacon 5 [(0, 10, 13, 35), (0, 10, 17, 19)] 4 := ⟨wCW_L_beacon, w0_L, by decide +kernel⟩
theorem cal_L_bestAt : CalW yL_bestAt cL_bestAt 4 [(0, 9, 12, 35)] 3 := ⟨wCW_L_bestAt, w0_L, by decide +kernel⟩
theorem cal_L_bestEvery : CalW yL_bestEvery cL_bestEvery 4 [(0, 9, 12, 35)] 3 := ⟨wCW_L_bestEvery, w0_L, by decide +kernel⟩
theorem cal_L_charge : CalW yL_charge cL_charge 5 [(0, 10, 13, 35), (0, 10, 17, 19)] 4 := ⟨wCW_L_charge, w0_L, by decide +kernel⟩
theorem cal_L_collisionsIn : CalW yL_collisionsIn cL_collisionsIn 4 [(0, 9, 12, 19)] 3 := ⟨wCW_L_collisionsIn, w0_L, by decide +kernel⟩
theorem cal_L_dueIn : CalW yL_dueIn cL_dueIn 4 [(0, 9, 12, 35)] 3 := ⟨wCW_L_dueIn, w0_L, by decide +kernel⟩
theorem cal_L_ears : CalW yL_ears cL_ears 4 [(0, 9, 12, 35)] 3 := ⟨wCW_L_ears, w0_L, by decide +kernel⟩
theorem cal_L_energyIn : CalW yL_energyIn cL_energyIn 5 [(0, 10, 13, 35), (0, 10, 17, 19)] 4 := ⟨wCW_L_energyIn, w0_L, by decide +kernel⟩
theorem cal_L_feed : CalW yL_feed cL_feed 8 [(0, 16, 19, 13)] 7 := ⟨wCW_L_feed, w0_L, by decide +kernel⟩
theorem cal_L_heard : CalW yL_heard cL_heard 5 [(0, 10, 13, 35)] 4 := ⟨wCW_L_heard, w0_L, by decide +kernel⟩
theorem cal_L_hidden : CalW yL_hidden cL_hidden 4 [(0, 9, 12, 35)] 3 := ⟨wCW_L_hidden, w0_L, by decide +kernel⟩
theorem cal_L_hops : CalW yL_hops cL_hops 5 [(0, 10, 13, 35)] 4 := ⟨wCW_L_hops, w0_L, by decide +kernel⟩
theorem cal_L_knows : CalW yL_knows cL_knows 5 [(0, 17, 20, 35)] 4 := ⟨wCW_L_knows, w0_L, by decide +kernel⟩
theorem cal_L_knowsIn : CalW yL_knowsIn cL_knowsIn 5 [(0, 10, 13, 35)] 4 := ⟨wCW_L_knowsIn, w0_L, by decide +kernel⟩
theorem cal_L_letter : CalW yL_letter cL_letter 5 [(0, 10, 13, 35)] 4 := ⟨wCW_L_letter, w0_L, by decide +kernel⟩
theorem cal_L_outIn : CalW yL_outIn cL_outIn 4 [(0, 9, 12, 35)] 3 := ⟨wCW_L_outIn, w0_L, by decide +kernel⟩
theorem cal_L_readText : CalW yL_readText cL_readText 3 [(0, 8, 11, 19)] 2 := ⟨wCW_L_readText, w0_L, by decide +kernel⟩
theorem cal_L_reckoned : CalW yL_reckoned cL_reckoned 4 [(0, 9, 12, 35)] 3 := ⟨wCW_L_reckoned, w0_L, by decide +kernel⟩
theorem cal_L_reportByte : CalW yL_reportByte cL_reportByte 4 [(0, 9, 12, 35)] 3 := ⟨wCW_L_reportByte, w0_L, by decide +kernel⟩
theorem cal_L_restore : CalW yL_restore cL_restore 3 [(0, 8, 11, 13)] 2 := ⟨wCW_L_restore, w0_L, by decide +kernel⟩
theorem cal_L_run : CalW yL_run cL_run 4 [(0, 9, 12, 19), (0, 9, 15, 13)] 3 := ⟨wCW_L_run, w0_L, by decide +kernel⟩
theorem cal_L_runScript : CalW yL_runScript cL_runScript 3 [(0, 8, 11, 19)] 2 := ⟨wCW_L_runScript, w0_L, by decide +kernel⟩
theorem cal_L_sendsIn : CalW yL_sendsIn cL_sendsIn 4 [(0, 9, 12, 35)] 3 := ⟨wCW_L_sendsIn, w0_L, by decide +kernel⟩
theorem cal_L_setAt : CalW yL_setAt cL_setAt 5 [(0, 10, 13, 35), (0, 10, 17, 19)] 4 := ⟨wCW_L_setAt, w0_L, by decide +kernel⟩
theorem cal_L_setEvery : CalW yL_setEvery cL_setEvery 5 [(0, 10, 13, 35), (0, 10, 17, 19)] 4 := ⟨wCW_L_setEvery, w0_L, by decide +kernel⟩
theorem cal_L_setNear : CalW yL_setNear cL_setNear 6 [(0, 19, 22, 35), (0, 19, 26, 19)] 5 := ⟨wCW_L_setNear, w0_L, by decide +kernel⟩
theorem cal_L_setTries : CalW yL_setTries cL_setTries 4 [(0, 9, 12, 19)] 3 := ⟨wCW_L_setTries, w0_L, by decide +kernel⟩
theorem cal_L_setting : CalW yL_setting cL_setting 4 [(0, 9, 12, 19)] 3 := ⟨wCW_L_setting, w0_L, by decide +kernel⟩
theorem cal_L_slots : CalW yL_slots cL_slots 5 [(0, 10, 13, 35), (0, 10, 17, 19)] 4 := ⟨wCW_L_slots, w0_L, by decide +kernel⟩
theorem cal_L_stateIn : CalW yL_stateIn cL_stateIn 5 [(0, 10, 13, 35), (0, 10, 17, 19)] 4 := ⟨wCW_L_stateIn, w0_L, by decide +kernel⟩
theorem cal_L_truncate : CalW yL_truncate cL_truncate 4 [(0, 9, 12, 19)] 3 := ⟨wCW_L_truncate, w0_L, by decide +kernel⟩
theorem cal_L_wake : CalW yL_wake cL_wake 4 [(0, 9, 12, 35), (0, 9, 15, 13)] 3 := ⟨wCW_L_wake, w0_L, by decide +kernel⟩
theorem cal_L_wellIn : CalW yL_wellIn cL_wellIn 4 [(0, 9, 12, 35)] 3 := ⟨wCW_L_wellIn, w0_L, by decide +kernel⟩
theorem cal_L_why : CalW yL_why cL_why 4 [(0, 9, 12, 35)] 3 := ⟨wCW_L_why, w0_L, by decide +kernel⟩
theorem cal_L_whyNot : CalW yL_whyNot cL_whyNot 5 [(0, 10, 13, 35)] 4 := ⟨wCW_L_whyNot, w0_L, by decide +kernel⟩
theorem cal_L_window : CalW yL_window cL_window 4 [(0, 9, 12, 35)] 3 := ⟨wCW_L_window, w0_L, by decide +kernel⟩
theorem cal_X6_allKnownIn : Cal yX6_allKnownIn cX6_allKnownIn 1 (some .int) 0 := ⟨wC_X6_allKnownIn, w0_X6, by decide +kernel⟩
theorem cal_X6_earliest : Cal yX6_earliest cX6_earliest 5 (some .int) 0 := ⟨wC_X6_earliest, w0_X6, by decide +kernel⟩
theorem cal_X6_errorCode : Cal yX6_errorCode cX6_errorCode 1 (some .int) 0 := ⟨wC_X6_errorCode, w0_X6, by decide +kernel⟩
theorem cal_X6_errorPosition : Cal yX6_errorPosition cX6_errorPosition 1 (some .int) 0 := ⟨wC_X6_errorPosition, w0_X6, by decide +kernel⟩
theorem cal_X6_groups : Cal yX6_groups cX6_groups 4 (some .int) 0 := ⟨wC_X6_groups, w0_X6, by decide +kernel⟩
theorem cal_X6_report : Cal yX6_report cX6_report 2 (some .int) 0 := ⟨wC_X6_report, w0_X6, by decide +kernel⟩
theorem cal_X6_save : Cal yX6_save cX6_save 1 (some .int) 0 := ⟨wC_X6_save, w0_X6, by decide +kernel⟩
theorem cal_X6_undo : Cal yX6_undo cX6_undo 1 (some .int) 0 := ⟨wC_X6_undo, w0_X6, by decide +kernel⟩
theorem cal_X7_allKnownIn : Cal yX7_allKnownIn cX7_allKnownIn 2 (some .int) 0 := ⟨wC_X7_allKnownIn, w0_X7, by decide +kernel⟩
theorem cal_X7_beacon : Cal yX7_beacon cX7_beacon 3 (some .int) 2 := ⟨wC_X7_beacon, w0_X7, by decide +kernel⟩
theorem cal_X7_bestAt : Cal yX7_bestAt cX7_bestAt 6 (some .int) 1 := ⟨wC_X7_bestAt, w0_X7, by decide +kernel⟩
theorem cal_X7_bestEvery : Cal yX7_bestEvery cX7_bestEvery 6 (some .int) 1 := ⟨wC_X7_bestEvery, w0_X7, by decide +kernel⟩
theorem cal_X7_charge : Cal yX7_charge cX7_charge 3 (some .int) 2 := ⟨wC_X7_charge, w0_X7, by decide +kernel⟩
theorem cal_X7_collisionsIn : Cal yX7_collisionsIn cX7_collisionsIn 2 (some .int) 1 := ⟨wC_X7_collisionsIn, w0_X7, by decide +kernel⟩
theorem cal_X7_dueIn : Cal yX7_dueIn cX7_dueIn 2 (some .int) 1 := ⟨wC_X7_dueIn, w0_X7, by decide +kernel⟩
theorem cal_X7_earliest : Cal yX7_earliest cX7_earliest 3 (some .int) 0 := ⟨wC_X7_earliest, w0_X7, by decide +kernel⟩
theorem cal_X7_ears : Cal yX7_ears cX7_ears 6 (some .int) 1 := ⟨wC_X7_ears, w0_X7, by decide +kernel⟩
theorem cal_X7_energyIn : Cal yX7_energyIn cX7_energyIn 3 (some .int) 2 := ⟨wC_X7_energyIn, w0_X7, by decide +kernel⟩
theorem cal_X7_errorCode : Cal yX7_errorCode cX7_errorCode 1 (some .int) 0 := ⟨wC_X7_errorCode, w0_X7, by decide +kernel⟩
theorem cal_X7_errorPosition : Cal yX7_errorPosition cX7_errorPosition 1 (some .int) 0 := ⟨wC_X7_errorPosition, w0_X7, by decide +kernel⟩
theorem cal_X7_feed : Cal yX7_feed cX7_feed 6 (some .int) 5 := ⟨wC_X7_feed, w0_X7, by decide +kernel⟩
theorem cal_X7_groups : Cal yX7_groups cX7_groups 4 (some .int) 0 := ⟨wC_X7_groups, w0_X7, by decide +kernel⟩
theorem cal_X7_heard : Cal yX7_heard cX7_heard 3 (some .int) 2 := ⟨wC_X7_heard, w0_X7, by decide +kernel⟩
theorem cal_X7_hidden : Cal yX7_hidden cX7_hidden 5 (some .int) 1 := ⟨wC_X7_hidden, w0_X7, by decide +kernel⟩
theorem cal_X7_hops : Cal yX7_hops cX7_hops 5 (some .int) 2 := ⟨wC_X7_hops, w0_X7, by decide +kernel⟩
theorem cal_X7_knows : Cal yX7_knows cX7_knows 3 (some .boolean) 2 := ⟨wC_X7_knows, w0_X7, by decide +kernel⟩
theorem cal_X7_knowsIn : Cal yX7_knowsIn cX7_knowsIn 4 (some .int) 2 := ⟨wC_X7_knowsIn, w0_X7, by decide +kernel⟩
theorem cal_X7_letter : Cal yX7_letter cX7_letter 3 (some .int) 2 := ⟨wC_X7_letter, w0_X7, by decide +kernel⟩
theorem cal_X7_outIn : Cal yX7_outIn cX7_outIn 2 (some .int) 1 := ⟨wC_X7_outIn, w0_X7, by decide +kernel⟩
theorem cal_X7_readText : Cal yX7_readText cX7_readText 1 (some .int) 0 := ⟨wC_X7_readText, w0_X7, by decide +kernel⟩
theorem cal_X7_reckoned : Cal yX7_reckoned cX7_reckoned 4 (some .int) 1 := ⟨wC_X7_reckoned, w0_X7, by decide +kernel⟩
theorem cal_X7_report : Cal yX7_report cX7_report 2 (some .int) 0 := ⟨wC_X7_report, w0_X7, by decide +kernel⟩
theorem cal_X7_reportByte : Cal yX7_reportByte cX7_reportByte 2 (some .int) 1 := ⟨wC_X7_reportByte, w0_X7, by decide +kernel⟩
theorem cal_X7_restore : Cal yX7_restore cX7_restore 1 (some .int) 0 := ⟨wC_X7_restore, w0_X7, by decide +kernel⟩
theorem cal_X7_run : Cal yX7_run cX7_run 3 (some .int) 1 := ⟨wC_X7_run, w0_X7, by decide +kernel⟩
theorem cal_X7_runScript : Cal yX7_runScript cX7_runScript 2 (some .int) 0 := ⟨wC_X7_runScript, w0_X7, by decide +kernel⟩
theorem cal_X7_save : Cal yX7_save cX7_save 1 (some .int) 0 := ⟨wC_X7_save, w0_X7, by decide +kernel⟩
theorem cal_X7_sendsIn : Cal yX7_sendsIn cX7_sendsIn 3 (some .int) 1 := ⟨wC_X7_sendsIn, w0_X7, by decide +kernel⟩
theorem cal_X7_setAt : Cal yX7_setAt cX7_setAt 4 (some .int) 2 := ⟨wC_X7_setAt, w0_X7, by decide +kernel⟩
theorem cal_X7_setEvery : Cal yX7_setEvery cX7_setEvery 4 (some .int) 2 := ⟨wC_X7_setEvery, w0_X7, by decide +kernel⟩
theorem cal_X7_setNear : Cal yX7_setNear cX7_setNear 4 (some .boolean) 3 := ⟨wC_X7_setNear, w0_X7, by decide +kernel⟩
theorem cal_X7_setTries : Cal yX7_setTries cX7_setTries 2 (some .int) 1 := ⟨wC_X7_setTries, w0_X7, by decide +kernel⟩
theorem cal_X7_setting : Cal yX7_setting cX7_setting 2 (some .int) 1 := ⟨wC_X7_setting, w0_X7, by decide +kernel⟩
theorem cal_X7_slots : Cal yX7_slots cX7_slots 3 (some .int) 2 := ⟨wC_X7_slots, w0_X7, by decide +kernel⟩
theorem cal_X7_stateIn : Cal yX7_stateIn cX7_stateIn 3 (some .int) 2 := ⟨wC_X7_stateIn, w0_X7, by decide +kernel⟩
theorem cal_X7_thrown : Cal yX7_thrown cX7_thrown 1 (some .int) 0 := ⟨wC_X7_thrown, w0_X7, by decide +kernel⟩
theorem cal_X7_truncate : Cal yX7_truncate cX7_truncate 2 (some .int) 1 := ⟨wC_X7_truncate, w0_X7, by decide +kernel⟩
theorem cal_X7_undo : Cal yX7_undo cX7_undo 1 (some .int) 0 := ⟨wC_X7_undo, w0_X7, by decide +kernel⟩
theorem cal_X7_wake : Cal yX7_wake cX7_wake 3 (some .int) 1 := ⟨wC_X7_wake, w0_X7, by decide +kernel⟩
theorem cal_X7_wellIn : Cal yX7_wellIn cX7_wellIn 4 (some .int) 1 := ⟨wC_X7_wellIn, w0_X7, by decide +kernel⟩
theorem cal_X7_why : Cal yX7_why cX7_why 2 (some .int) 1 := ⟨wC_X7_why, w0_X7, by decide +kernel⟩
theorem cal_X7_whyNot : Cal yX7_whyNot cX7_whyNot 3 (some .int) 2 := ⟨wC_X7_whyNot, w0_X7, by decide +kernel⟩
theorem cal_X7_window : Cal yX7_window cX7_window 2 (some .int) 1 := ⟨wC_X7_window, w0_X7, by decide +kernel⟩
def sL_c0 (k : TT → Option Int32) (xs : Nat → Int32) (L : Nat) (TT0 : TT) (a4 : Int32) : Option Int32 := match TT0 with
  | (x0, x1, x2, ps, ta, tb, d, S, pg, c, m, ot) =>
  gd (inb (a4 + ((1 : Int32))) L) (gd (inb (a4 + ((2 : Int32))) L) (gd (inb (a4 + ((3 : Int32))) L) (gd (inb (a4 + ((4 : Int32))) L) (gd (inb (a4 + ((5 : Int32))) L) (bd (sL_feed c ot (xs (ix (a4 + ((1 : Int32))))) (xs (ix (a4 + ((2 : Int32))))) (xs (ix (a4 + ((3 : Int32))))) (xs (ix (a4 + ((4 : Int32))))) (xs (ix (a4 + ((5 : Int32)))))) fun q6 =>
  gd (inb (a4 + ((1 : Int32))) L) (gd (inb (a4 + ((2 : Int32))) L) (gd (inb (a4 + ((3 : Int32))) L) (gd (inb (a4 + ((4 : Int32))) L) (gd (inb (a4 + ((5 : Int32))) L) (bd (sX7_feed m (xs (ix (a4 + ((1 : Int32))))) (xs (ix (a4 + ((2 : Int32))))) (xs (ix (a4 + ((3 : Int32))))) (xs (ix (a4 + ((4 : Int32))))) (xs (ix (a4 + ((5 : Int32)))))) fun q12 =>
  bd (sX7_thrown q12.1) fun q13 =>
  if q13 = q6.2.2 then
  if ¬ q6.2.2 = 0 then
  k (x0, x1, x2, ps, ta, tb, d, S, pg, q6.1, q12.1, q6.2.1)
  else
  gd (inb ((0 : Int32)) 1) (if (lg_cmp (gL q6.2.1 0 0 (ix ((0 : Int32)))) q12.2.toInt64) = 0 then
  k (x0, x1, x2, ps, ta, tb, d, S, pg, q6.1, q12.1, q6.2.1)
  else
  some (0 : Int32))
  else
  some (0 : Int32)))))))))))
def sL_c1 (k : TT → Option Int32) (xs : Nat → Int32) (L : Nat) (TT0 : TT) (a4 : Int32) : Option Int32 := match TT0 with
  | (x0, x1, x2, ps, ta, tb, d, S, pg, c, m, ot) =>
  gd (inb (a4 + ((1 : Int32))) L) (bd (sL_truncate c ot (xs (ix (a4 + ((1 : Int32)))))) fun q19 =>
  gd (inb (a4 + ((1 : Int32))) L) (bd (sX7_truncate m (xs (ix (a4 + ((1 : Int32)))))) fun q21 =>
  bd (sX7_thrown q21.1) fun q22 =>
  if q22 = q19.2.2 then
  if ¬ q19.2.2 = 0 then
  k (x0, x1, x2, ps, ta, tb, d, S, pg, q19.1, q21.1, q19.2.1)
  else
  gd (inb ((0 : Int32)) 1) (if (lg_cmp (gL q19.2.1 0 0 (ix ((0 : Int32)))) q21.2.toInt64) = 0 then
  k (x0, x1, x2, ps, ta, tb, d, S, pg, q19.1, q21.1, q19.2.1)
  else
  some (0 : Int32))
  else
  some (0 : Int32)))
def sL_c2 (k : TT → Option Int32) (xs : Nat → Int32) (L : Nat) (TT0 : TT) (a4 : Int32) : Option Int32 := match TT0 with
  | (x0, x1, x2, ps, ta, tb, d, S, pg, c, m, ot) =>
  bd (sL_readText x0 x1 ta d c ot) fun q27 =>
  bd (sX7_readText m) fun q28 =>
  bd (sX7_thrown q28.1) fun q29 =>
  if q29 = q27.2.2.2.2.2.2 then
  if ¬ q27.2.2.2.2.2.2 = 0 then
  k (q27.1, q27.2.1, x2, ps, q27.2.2.1, tb, q27.2.2.2.1, S, pg, q27.2.2.2.2.1, q28.1, q27.2.2.2.2.2.1)
  else
  gd (inb ((0 : Int32)) 1) (if (lg_cmp (gL q27.2.2.2.2.2.1 0 0 (ix ((0 : Int32)))) q28.2.toInt64) = 0 then
  k (q27.1, q27.2.1, x2, ps, q27.2.2.1, tb, q27.2.2.2.1, S, pg, q27.2.2.2.2.1, q28.1, q27.2.2.2.2.2.1)
  else
  some (0 : Int32))
  else
  some (0 : Int32)
def sL_c3 (k : TT → Option Int32) (xs : Nat → Int32) (L : Nat) (TT0 : TT) (a4 : Int32) : Option Int32 := match TT0 with
  | (x0, x1, x2, ps, ta, tb, d, S, pg, c, m, ot) =>
  bd (sL_runScript x0 ps tb S c ot) fun q34 =>
  bd (sX7_runScript m) fun q35 =>
  bd (sX7_thrown q35.1) fun q36 =>
  if q36 = q34.2.2.2.2.2.2 then
  if ¬ q34.2.2.2.2.2.2 = 0 then
  k (q34.1, x1, x2, q34.2.1, ta, q34.2.2.1, d, q34.2.2.2.1, pg, q34.2.2.2.2.1, q35.1, q34.2.2.2.2.2.1)
  else
  gd (inb ((0 : Int32)) 1) (if (lg_cmp (gL q34.2.2.2.2.2.1 0 0 (ix ((0 : Int32)))) q35.2.toInt64) = 0 then
  k (q34.1, x1, x2, q34.2.1, ta, q34.2.2.1, d, q34.2.2.2.1, pg, q34.2.2.2.2.1, q35.1, q34.2.2.2.2.2.1)
  else
  some (0 : Int32))
  else
  some (0 : Int32)
def sL_c4 (k : TT → Option Int32) (xs : Nat → Int32) (L : Nat) (TT0 : TT) (a4 : Int32) : Option Int32 := match TT0 with
  | (x0, x1, x2, ps, ta, tb, d, S, pg, c, m, ot) =>
  bd (sX6_errorCode c) fun q41 =>
  bd (sX7_errorCode m) fun q42 =>
  if q41 = q42.2 then
  k (x0, x1, x2, ps, ta, tb, d, S, pg, c, q42.1, ot)
  else
  some (0 : Int32)
def sL_c5 (k : TT → Option Int32) (xs : Nat → Int32) (L : Nat) (TT0 : TT) (a4 : Int32) : Option Int32 := match TT0 with
  | (x0, x1, x2, ps, ta, tb, d, S, pg, c, m, ot) =>
  bd (sX6_errorPosition c) fun q44 =>
  bd (sX7_errorPosition m) fun q45 =>
  if q44 = q45.2 then
  k (x0, x1, x2, ps, ta, tb, d, S, pg, c, q45.1, ot)
  else
  some (0 : Int32)
def sL_c6 (k : TT → Option Int32) (xs : Nat → Int32) (L : Nat) (TT0 : TT) (a4 : Int32) : Option Int32 := match TT0 with
  | (x0, x1, x2, ps, ta, tb, d, S, pg, c, m, ot) =>
  gd (inb (a4 + ((1 : Int32))) L) (bd (sL_setting x0 c ot (xs (ix (a4 + ((1 : Int32)))))) fun q48 =>
  gd (inb (a4 + ((1 : Int32))) L) (bd (sX7_setting m (xs (ix (a4 + ((1 : Int32)))))) fun q50 =>
  bd (sX7_thrown q50.1) fun q51 =>
  if q51 = q48.2 then
  if ¬ q48.2 = 0 then
  k (x0, x1, x2, ps, ta, tb, d, S, pg, c, q50.1, q48.1)
  else
  gd (inb ((0 : Int32)) 1) (if (lg_cmp (gL q48.1 0 0 (ix ((0 : Int32)))) q50.2.toInt64) = 0 then
  k (x0, x1, x2, ps, ta, tb, d, S, pg, c, q50.1, q48.1)
  else
  some (0 : Int32))
  else
  some (0 : Int32)))
def sL_c7 (k : TT → Option Int32) (xs : Nat → Int32) (L : Nat) (TT0 : TT) (a4 : Int32) : Option Int32 := match TT0 with
  | (x0, x1, x2, ps, ta, tb, d, S, pg, c, m, ot) =>
  gd (inb (a4 + ((1 : Int32))) L) (gd (inb (a4 + ((2 : Int32))) L) (bd (sL_beacon x0 ot (xs (ix (a4 + ((1 : Int32))))) (xs (ix (a4 + ((2 : Int32)))))) fun q58 =>
  gd (inb (a4 + ((1 : Int32))) L) (gd (inb (a4 + ((2 : Int32))) L) (bd (sX7_beacon m (xs (ix (a4 + ((1 : Int32))))) (xs (ix (a4 + ((2 : Int32)))))) fun q61 =>
  bd (sX7_thrown q61.1) fun q62 =>
  if q62 = q58.2 then
  if ¬ q58.2 = 0 then
  k (x0, x1, x2, ps, ta, tb, d, S, pg, c, q61.1, q58.1)
  else
  gd (inb ((0 : Int32)) 1) (if (lg_cmp (gL q58.1 0 0 (ix ((0 : Int32)))) q61.2.toInt64) = 0 then
  k (x0, x1, x2, ps, ta, tb, d, S, pg, c, q61.1, q58.1)
  else
  some (0 : Int32))
  else
  some (0 : Int32)))))
def sL_c8 (k : TT → Option Int32) (xs : Nat → Int32) (L : Nat) (TT0 : TT) (a4 : Int32) : Option Int32 := match TT0 with
  | (x0, x1, x2, ps, ta, tb, d, S, pg, c, m, ot) =>
  gd (inb (a4 + ((1 : Int32))) L) (gd (inb (a4 + ((2 : Int32))) L) (bd (sL_slots x0 ot (xs (ix (a4 + ((1 : Int32))))) (xs (ix (a4 + ((2 : Int32)))))) fun q69 =>
  gd (inb (a4 + ((1 : Int32))) L) (gd (inb (a4 + ((2 : Int32))) L) (bd (sX7_slots m (xs (ix (a4 + ((1 : Int32))))) (xs (ix (a4 + ((2 : Int32)))))) fun q72 =>
  bd (sX7_thrown q72.1) fun q73 =>
  if q73 = q69.2 then
  if ¬ q69.2 = 0 then
  k (x0, x1, x2, ps, ta, tb, d, S, pg, c, q72.1, q69.1)
  else
  gd (inb ((0 : Int32)) 1) (if (lg_cmp (gL q69.1 0 0 (ix ((0 : Int32)))) q72.2.toInt64) = 0 then
  k (x0, x1, x2, ps, ta, tb, d, S, pg, c, q72.1, q69.1)
  else
  some (0 : Int32))
  else
  some (0 : Int32)))))
def sL_c9 (k : TT → Option Int32) (xs : Nat → Int32) (L : Nat) (TT0 : TT) (a4 : Int32) : Option Int32 := match TT0 with
  | (x0, x1, x2, ps, ta, tb, d, S, pg, c, m, ot) =>
  gd (inb (a4 + ((1 : Int32))) L) (bd (sL_reckoned x0 ot (xs (ix (a4 + ((1 : Int32)))))) fun q79 =>
  gd (inb (a4 + ((1 : Int32))) L) (bd (sX7_reckoned m (xs (ix (a4 + ((1 : Int32)))))) fun q81 =>
  bd (sX7_thrown q81.1) fun q82 =>
  if q82 = q79.2 then
  if ¬ q79.2 = 0 then
  k (x0, x1, x2, ps, ta, tb, d, S, pg, c, q81.1, q79.1)
  else
  gd (inb ((0 : Int32)) 1) (if (lg_cmp (gL q79.1 0 0 (ix ((0 : Int32)))) q81.2.toInt64) = 0 then
  k (x0, x1, x2, ps, ta, tb, d, S, pg, c, q81.1, q79.1)
  else
  some (0 : Int32))
  else
  some (0 : Int32)))
def sL_c10 (k : TT → Option Int32) (xs : Nat → Int32) (L : Nat) (TT0 : TT) (a4 : Int32) : Option Int32 := match TT0 with
  | (x0, x1, x2, ps, ta, tb, d, S, pg, c, m, ot) =>
  gd (inb (a4 + ((1 : Int32))) L) (gd (inb (a4 + ((2 : Int32))) L) (bd (sL_letter x0 ot (xs (ix (a4 + ((1 : Int32))))) (xs (ix (a4 + ((2 : Int32)))))) fun q89 =>
  gd (inb (a4 + ((1 : Int32))) L) (gd (inb (a4 + ((2 : Int32))) L) (bd (sX7_letter m (xs (ix (a4 + ((1 : Int32))))) (xs (ix (a4 + ((2 : Int32)))))) fun q92 =>
  bd (sX7_thrown q92.1) fun q93 =>
  if q93 = q89.2 then
  if ¬ q89.2 = 0 then
  k (x0, x1, x2, ps, ta, tb, d, S, pg, c, q92.1, q89.1)
  else
  gd (inb ((0 : Int32)) 1) (if (lg_cmp (gL q89.1 0 0 (ix ((0 : Int32)))) q92.2.toInt64) = 0 then
  k (x0, x1, x2, ps, ta, tb, d, S, pg, c, q92.1, q89.1)
  else
  some (0 : Int32))
  else
  some (0 : Int32)))))
def sL_c11 (k : TT → Option Int32) (xs : Nat → Int32) (L : Nat) (TT0 : TT) (a4 : Int32) : Option Int32 := match TT0 with
  | (x0, x1, x2, ps, ta, tb, d, S, pg, c, m, ot) =>
  gd (inb (a4 + ((1 : Int32))) L) (gd (inb (a4 + ((2 : Int32))) L) (bd (sL_heard x0 ot (xs (ix (a4 + ((1 : Int32))))) (xs (ix (a4 + ((2 : Int32)))))) fun q100 =>
  gd (inb (a4 + ((1 : Int32))) L) (gd (inb (a4 + ((2 : Int32))) L) (bd (sX7_heard m (xs (ix (a4 + ((1 : Int32))))) (xs (ix (a4 + ((2 : Int32)))))) fun q103 =>
  bd (sX7_thrown q103.1) fun q104 =>
  if q104 = q100.2 then
  if ¬ q100.2 = 0 then
  k (x0, x1, x2, ps, ta, tb, d, S, pg, c, q103.1, q100.1)
  else
  gd (inb ((0 : Int32)) 1) (if (lg_cmp (gL q100.1 0 0 (ix ((0 : Int32)))) q103.2.toInt64) = 0 then
  k (x0, x1, x2, ps, ta, tb, d, S, pg, c, q103.1, q100.1)
  else
  some (0 : Int32))
  else
  some (0 : Int32)))))
def sL_c12 (k : TT → Option Int32) (xs : Nat → Int32) (L : Nat) (TT0 : TT) (a4 : Int32) : Option Int32 := match TT0 with
  | (x0, x1, x2, ps, ta, tb, d, S, pg, c, m, ot) =>
  gd (inb (a4 + ((1 : Int32))) L) (gd (inb (a4 + ((2 : Int32))) L) (bd (sL_knows x0 ot (xs (ix (a4 + ((1 : Int32))))) (xs (ix (a4 + ((2 : Int32)))))) fun q111 =>
  gd (inb (a4 + ((1 : Int32))) L) (gd (inb (a4 + ((2 : Int32))) L) (bd (sX7_knows m (xs (ix (a4 + ((1 : Int32))))) (xs (ix (a4 + ((2 : Int32)))))) fun q114 =>
  bd (sX7_thrown q114.1) fun q115 =>
  if q115 = q111.2 then
  if ¬ q111.2 = 0 then
  k (x0, x1, x2, ps, ta, tb, d, S, pg, c, q114.1, q111.1)
  else
  gd (inb ((0 : Int32)) 1) (if q114.2 = 0 then
  if (lg_cmp (gL q111.1 0 0 (ix ((0 : Int32)))) ((0 : Int64))) = 0 then
  k (x0, x1, x2, ps, ta, tb, d, S, pg, c, q114.1, q111.1)
  else
  some (0 : Int32)
  else
  if (lg_cmp (gL q111.1 0 0 (ix ((0 : Int32)))) ((1 : Int64))) = 0 then
  k (x0, x1, x2, ps, ta, tb, d, S, pg, c, q114.1, q111.1)
  else
  some (0 : Int32))
  else
  some (0 : Int32)))))
def sL_c15 (k : TT → Option Int32) (xs : Nat → Int32) (L : Nat) (TT0 : TT) (a4 : Int32) : Option Int32 := match TT0 with
  | (x0, x1, x2, ps, ta, tb, d, S, pg, c, m, ot) =>
  gd (inb (a4 + ((1 : Int32))) L) (bd (sL_why x0 ot (xs (ix (a4 + ((1 : Int32)))))) fun q123 =>
  gd (inb (a4 + ((1 : Int32))) L) (bd (sX7_why m (xs (ix (a4 + ((1 : Int32)))))) fun q125 =>
  bd (sX7_thrown q125.1) fun q126 =>
  if q126 = q123.2 then
  if ¬ q123.2 = 0 then
  k (x0, x1, x2, ps, ta, tb, d, S, pg, c, q125.1, q123.1)
  else
  gd (inb ((0 : Int32)) 1) (if (lg_cmp (gL q123.1 0 0 (ix ((0 : Int32)))) q125.2.toInt64) = 0 then
  k (x0, x1, x2, ps, ta, tb, d, S, pg, c, q125.1, q123.1)
  else
  some (0 : Int32))
  else
  some (0 : Int32)))
def sL_c16 (k : TT → Option Int32) (xs : Nat → Int32) (L : Nat) (TT0 : TT) (a4 : Int32) : Option Int32 := match TT0 with
  | (x0, x1, x2, ps, ta, tb, d, S, pg, c, m, ot) =>
  gd (inb (a4 + ((1 : Int32))) L) (gd (inb (a4 + ((2 : Int32))) L) (bd (sL_whyNot x0 ot (xs (ix (a4 + ((1 : Int32))))) (xs (ix (a4 + ((2 : Int32)))))) fun q133 =>
  gd (inb (a4 + ((1 : Int32))) L) (gd (inb (a4 + ((2 : Int32))) L) (bd (sX7_whyNot m (xs (ix (a4 + ((1 : Int32))))) (xs (ix (a4 + ((2 : Int32)))))) fun q136 =>
  bd (sX7_thrown q136.1) fun q137 =>
  if q137 = q133.2 then
  if ¬ q133.2 = 0 then
  k (x0, x1, x2, ps, ta, tb, d, S, pg, c, q136.1, q133.1)
  else
  gd (inb ((0 : Int32)) 1) (if (lg_cmp (gL q133.1 0 0 (ix ((0 : Int32)))) q136.2.toInt64) = 0 then
  k (x0, x1, x2, ps, ta, tb, d, S, pg, c, q136.1, q133.1)
  else
  some (0 : Int32))
  else
  some (0 : Int32)))))
def sL_c17 (k : TT → Option Int32) (xs : Nat → Int32) (L : Nat) (TT0 : TT) (a4 : Int32) : Option Int32 := match TT0 with
  | (x0, x1, x2, ps, ta, tb, d, S, pg, c, m, ot) =>
  gd (inb (a4 + ((1 : Int32))) L) (bd (sL_dueIn x0 ot (xs (ix (a4 + ((1 : Int32)))))) fun q143 =>
  gd (inb (a4 + ((1 : Int32))) L) (bd (sX7_dueIn m (xs (ix (a4 + ((1 : Int32)))))) fun q145 =>
  bd (sX7_thrown q145.1) fun q146 =>
  if q146 = q143.2 then
  if ¬ q143.2 = 0 then
  k (x0, x1, x2, ps, ta, tb, d, S, pg, c, q145.1, q143.1)
  else
  gd (inb ((0 : Int32)) 1) (if (lg_cmp (gL q143.1 0 0 (ix ((0 : Int32)))) q145.2.toInt64) = 0 then
  k (x0, x1, x2, ps, ta, tb, d, S, pg, c, q145.1, q143.1)
  else
  some (0 : Int32))
  else
  some (0 : Int32)))
def sL_c18 (k : TT → Option Int32) (xs : Nat → Int32) (L : Nat) (TT0 : TT) (a4 : Int32) : Option Int32 := match TT0 with
  | (x0, x1, x2, ps, ta, tb, d, S, pg, c, m, ot) =>
  gd (inb (a4 + ((1 : Int32))) L) (bd (sL_hidden x0 ot (xs (ix (a4 + ((1 : Int32)))))) fun q152 =>
  gd (inb (a4 + ((1 : Int32))) L) (bd (sX7_hidden m (xs (ix (a4 + ((1 : Int32)))))) fun q154 =>
  bd (sX7_thrown q154.1) fun q155 =>
  if q155 = q152.2 then
  if ¬ q152.2 = 0 then
  k (x0, x1, x2, ps, ta, tb, d, S, pg, c, q154.1, q152.1)
  else
  gd (inb ((0 : Int32)) 1) (if (lg_cmp (gL q152.1 0 0 (ix ((0 : Int32)))) q154.2.toInt64) = 0 then
  k (x0, x1, x2, ps, ta, tb, d, S, pg, c, q154.1, q152.1)
  else
  some (0 : Int32))
  else
  some (0 : Int32)))
def sL_c19 (k : TT → Option Int32) (xs : Nat → Int32) (L : Nat) (TT0 : TT) (a4 : Int32) : Option Int32 := match TT0 with
  | (x0, x1, x2, ps, ta, tb, d, S, pg, c, m, ot) =>
  gd (inb (a4 + ((1 : Int32))) L) (gd (inb (a4 + ((2 : Int32))) L) (bd (sL_hops x0 ot (xs (ix (a4 + ((1 : Int32))))) (xs (ix (a4 + ((2 : Int32)))))) fun q162 =>
  gd (inb (a4 + ((1 : Int32))) L) (gd (inb (a4 + ((2 : Int32))) L) (bd (sX7_hops m (xs (ix (a4 + ((1 : Int32))))) (xs (ix (a4 + ((2 : Int32)))))) fun q165 =>
  bd (sX7_thrown q165.1) fun q166 =>
  if q166 = q162.2 then
  if ¬ q162.2 = 0 then
  k (x0, x1, x2, ps, ta, tb, d, S, pg, c, q165.1, q162.1)
  else
  gd (inb ((0 : Int32)) 1) (if (lg_cmp (gL q162.1 0 0 (ix ((0 : Int32)))) q165.2.toInt64) = 0 then
  k (x0, x1, x2, ps, ta, tb, d, S, pg, c, q165.1, q162.1)
  else
  some (0 : Int32))
  else
  some (0 : Int32)))))
def sL_c20 (k : TT → Option Int32) (xs : Nat → Int32) (L : Nat) (TT0 : TT) (a4 : Int32) : Option Int32 := match TT0 with
  | (x0, x1, x2, ps, ta, tb, d, S, pg, c, m, ot) =>
  bd (sX6_groups x0) fun q171 =>
  bd (sX7_groups m) fun q172 =>
  if q171 = q172.2 then
  k (x0, x1, x2, ps, ta, tb, d, S, pg, c, q172.1, ot)
  else
  some (0 : Int32)
def sL_c21 (k : TT → Option Int32) (xs : Nat → Int32) (L : Nat) (TT0 : TT) (a4 : Int32) : Option Int32 := match TT0 with
  | (x0, x1, x2, ps, ta, tb, d, S, pg, c, m, ot) =>
  gd (inb (a4 + ((1 : Int32))) L) (bd (sL_ears x0 ot (xs (ix (a4 + ((1 : Int32)))))) fun q175 =>
  gd (inb (a4 + ((1 : Int32))) L) (bd (sX7_ears m (xs (ix (a4 + ((1 : Int32)))))) fun q177 =>
  bd (sX7_thrown q177.1) fun q178 =>
  if q178 = q175.2 then
  if ¬ q175.2 = 0 then
  k (x0, x1, x2, ps, ta, tb, d, S, pg, c, q177.1, q175.1)
  else
  gd (inb ((0 : Int32)) 1) (if (lg_cmp (gL q175.1 0 0 (ix ((0 : Int32)))) q177.2.toInt64) = 0 then
  k (x0, x1, x2, ps, ta, tb, d, S, pg, c, q177.1, q175.1)
  else
  some (0 : Int32))
  else
  some (0 : Int32)))
def sL_c22 (k : TT → Option Int32) (xs : Nat → Int32) (L : Nat) (TT0 : TT) (a4 : Int32) : Option Int32 := match TT0 with
  | (x0, x1, x2, ps, ta, tb, d, S, pg, c, m, ot) =>
  bd (sX6_earliest x0) fun q183 =>
  bd (sX7_earliest m) fun q184 =>
  if q183 = q184.2 then
  k (x0, x1, x2, ps, ta, tb, d, S, pg, c, q184.1, ot)
  else
  some (0 : Int32)
def sL_c23 (k : TT → Option Int32) (xs : Nat → Int32) (L : Nat) (TT0 : TT) (a4 : Int32) : Option Int32 := match TT0 with
  | (x0, x1, x2, ps, ta, tb, d, S, pg, c, m, ot) =>
  gd (inb (a4 + ((1 : Int32))) L) (bd (sL_window x0 ot (xs (ix (a4 + ((1 : Int32)))))) fun q187 =>
  gd (inb (a4 + ((1 : Int32))) L) (bd (sX7_window m (xs (ix (a4 + ((1 : Int32)))))) fun q189 =>
  bd (sX7_thrown q189.1) fun q190 =>
  if q190 = q187.2 then
  if ¬ q187.2 = 0 then
  k (x0, x1, x2, ps, ta, tb, d, S, pg, c, q189.1, q187.1)
  else
  gd (inb ((0 : Int32)) 1) (if (lg_cmp (gL q187.1 0 0 (ix ((0 : Int32)))) q189.2.toInt64) = 0 then
  k (x0, x1, x2, ps, ta, tb, d, S, pg, c, q189.1, q187.1)
  else
  some (0 : Int32))
  else
  some (0 : Int32)))
def sL_c24 (k : TT → Option Int32) (xs : Nat → Int32) (L : Nat) (TT0 : TT) (a4 : Int32) : Option Int32 := match TT0 with
  | (x0, x1, x2, ps, ta, tb, d, S, pg, c, m, ot) =>
  gd (inb (a4 + ((1 : Int32))) L) (gd (inb (a4 + ((2 : Int32))) L) (bd (sL_stateIn x0 x1 ot (xs (ix (a4 + ((1 : Int32))))) (xs (ix (a4 + ((2 : Int32)))))) fun q197 =>
  gd (inb (a4 + ((1 : Int32))) L) (gd (inb (a4 + ((2 : Int32))) L) (bd (sX7_stateIn m (xs (ix (a4 + ((1 : Int32))))) (xs (ix (a4 + ((2 : Int32)))))) fun q200 =>
  bd (sX7_thrown q200.1) fun q201 =>
  if q201 = q197.2.2 then
  if ¬ q197.2.2 = 0 then
  k (x0, q197.1, x2, ps, ta, tb, d, S, pg, c, q200.1, q197.2.1)
  else
  gd (inb ((0 : Int32)) 1) (if (lg_cmp (gL q197.2.1 0 0 (ix ((0 : Int32)))) q200.2.toInt64) = 0 then
  k (x0, q197.1, x2, ps, ta, tb, d, S, pg, c, q200.1, q197.2.1)
  else
  some (0 : Int32))
  else
  some (0 : Int32)))))
def sL_c25 (k : TT → Option Int32) (xs : Nat → Int32) (L : Nat) (TT0 : TT) (a4 : Int32) : Option Int32 := match TT0 with
  | (x0, x1, x2, ps, ta, tb, d, S, pg, c, m, ot) =>
  gd (inb (a4 + ((1 : Int32))) L) (gd (inb (a4 + ((2 : Int32))) L) (bd (sL_energyIn x0 x1 ot (xs (ix (a4 + ((1 : Int32))))) (xs (ix (a4 + ((2 : Int32)))))) fun q208 =>
  gd (inb (a4 + ((1 : Int32))) L) (gd (inb (a4 + ((2 : Int32))) L) (bd (sX7_energyIn m (xs (ix (a4 + ((1 : Int32))))) (xs (ix (a4 + ((2 : Int32)))))) fun q211 =>
  bd (sX7_thrown q211.1) fun q212 =>
  if q212 = q208.2.2 then
  if ¬ q208.2.2 = 0 then
  k (x0, q208.1, x2, ps, ta, tb, d, S, pg, c, q211.1, q208.2.1)
  else
  gd (inb ((0 : Int32)) 1) (if (lg_cmp (gL q208.2.1 0 0 (ix ((0 : Int32)))) q211.2.toInt64) = 0 then
  k (x0, q208.1, x2, ps, ta, tb, d, S, pg, c, q211.1, q208.2.1)
  else
  some (0 : Int32))
  else
  some (0 : Int32)))))
def sL_c26 (k : TT → Option Int32) (xs : Nat → Int32) (L : Nat) (TT0 : TT) (a4 : Int32) : Option Int32 := match TT0 with
  | (x0, x1, x2, ps, ta, tb, d, S, pg, c, m, ot) =>
  gd (inb (a4 + ((1 : Int32))) L) (bd (sL_collisionsIn x0 x1 ot (xs (ix (a4 + ((1 : Int32)))))) fun q218 =>
  gd (inb (a4 + ((1 : Int32))) L) (bd (sX7_collisionsIn m (xs (ix (a4 + ((1 : Int32)))))) fun q220 =>
  bd (sX7_thrown q220.1) fun q221 =>
  if q221 = q218.2.2 then
  if ¬ q218.2.2 = 0 then
  k (x0, q218.1, x2, ps, ta, tb, d, S, pg, c, q220.1, q218.2.1)
  else
  gd (inb ((0 : Int32)) 1) (if (lg_cmp (gL q218.2.1 0 0 (ix ((0 : Int32)))) q220.2.toInt64) = 0 then
  k (x0, q218.1, x2, ps, ta, tb, d, S, pg, c, q220.1, q218.2.1)
  else
  some (0 : Int32))
  else
  some (0 : Int32)))
def sL_c27 (k : TT → Option Int32) (xs : Nat → Int32) (L : Nat) (TT0 : TT) (a4 : Int32) : Option Int32 := match TT0 with
  | (x0, x1, x2, ps, ta, tb, d, S, pg, c, m, ot) =>
  gd (inb (a4 + ((1 : Int32))) L) (gd (inb (a4 + ((2 : Int32))) L) (bd (sL_knowsIn x0 x1 ot (xs (ix (a4 + ((1 : Int32))))) (xs (ix (a4 + ((2 : Int32)))))) fun q228 =>
  gd (inb (a4 + ((1 : Int32))) L) (gd (inb (a4 + ((2 : Int32))) L) (bd (sX7_knowsIn m (xs (ix (a4 + ((1 : Int32))))) (xs (ix (a4 + ((2 : Int32)))))) fun q231 =>
  bd (sX7_thrown q231.1) fun q232 =>
  if q232 = q228.2.2 then
  if ¬ q228.2.2 = 0 then
  k (x0, q228.1, x2, ps, ta, tb, d, S, pg, c, q231.1, q228.2.1)
  else
  gd (inb ((0 : Int32)) 1) (if (lg_cmp (gL q228.2.1 0 0 (ix ((0 : Int32)))) q231.2.toInt64) = 0 then
  k (x0, q228.1, x2, ps, ta, tb, d, S, pg, c, q231.1, q228.2.1)
  else
  some (0 : Int32))
  else
  some (0 : Int32)))))
def sL_c28 (k : TT → Option Int32) (xs : Nat → Int32) (L : Nat) (TT0 : TT) (a4 : Int32) : Option Int32 := match TT0 with
  | (x0, x1, x2, ps, ta, tb, d, S, pg, c, m, ot) =>
  bd (sX6_allKnownIn x0 x1) fun q237 =>
  bd (sX7_allKnownIn m) fun q238 =>
  if q237.2 = q238.2 then
  k (x0, q237.1, x2, ps, ta, tb, d, S, pg, c, q238.1, ot)
  else
  some (0 : Int32)
def sL_c29 (k : TT → Option Int32) (xs : Nat → Int32) (L : Nat) (TT0 : TT) (a4 : Int32) : Option Int32 := match TT0 with
  | (x0, x1, x2, ps, ta, tb, d, S, pg, c, m, ot) =>
  gd (inb (a4 + ((1 : Int32))) L) (bd (sL_outIn x0 x1 ot (xs (ix (a4 + ((1 : Int32)))))) fun q241 =>
  gd (inb (a4 + ((1 : Int32))) L) (bd (sX7_outIn m (xs (ix (a4 + ((1 : Int32)))))) fun q243 =>
  bd (sX7_thrown q243.1) fun q244 =>
  if q244 = q241.2.2 then
  if ¬ q241.2.2 = 0 then
  k (x0, q241.1, x2, ps, ta, tb, d, S, pg, c, q243.1, q241.2.1)
  else
  gd (inb ((0 : Int32)) 1) (if (lg_cmp (gL q241.2.1 0 0 (ix ((0 : Int32)))) q243.2.toInt64) = 0 then
  k (x0, q241.1, x2, ps, ta, tb, d, S, pg, c, q243.1, q241.2.1)
  else
  some (0 : Int32))
  else
  some (0 : Int32)))
def sL_c30 (k : TT → Option Int32) (xs : Nat → Int32) (L : Nat) (TT0 : TT) (a4 : Int32) : Option Int32 := match TT0 with
  | (x0, x1, x2, ps, ta, tb, d, S, pg, c, m, ot) =>
  gd (inb (a4 + ((1 : Int32))) L) (bd (sL_sendsIn x0 x1 ot (xs (ix (a4 + ((1 : Int32)))))) fun q250 =>
  gd (inb (a4 + ((1 : Int32))) L) (bd (sX7_sendsIn m (xs (ix (a4 + ((1 : Int32)))))) fun q252 =>
  bd (sX7_thrown q252.1) fun q253 =>
  if q253 = q250.2.2 then
  if ¬ q250.2.2 = 0 then
  k (x0, q250.1, x2, ps, ta, tb, d, S, pg, c, q252.1, q250.2.1)
  else
  gd (inb ((0 : Int32)) 1) (if (lg_cmp (gL q250.2.1 0 0 (ix ((0 : Int32)))) q252.2.toInt64) = 0 then
  k (x0, q250.1, x2, ps, ta, tb, d, S, pg, c, q252.1, q250.2.1)
  else
  some (0 : Int32))
  else
  some (0 : Int32)))
def sL_c31 (k : TT → Option Int32) (xs : Nat → Int32) (L : Nat) (TT0 : TT) (a4 : Int32) : Option Int32 := match TT0 with
  | (x0, x1, x2, ps, ta, tb, d, S, pg, c, m, ot) =>
  gd (inb (a4 + ((1 : Int32))) L) (bd (sL_wellIn x0 x1 ot (xs (ix (a4 + ((1 : Int32)))))) fun q259 =>
  gd (inb (a4 + ((1 : Int32))) L) (bd (sX7_wellIn m (xs (ix (a4 + ((1 : Int32)))))) fun q261 =>
  bd (sX7_thrown q261.1) fun q262 =>
  if q262 = q259.2.2 then
  if ¬ q259.2.2 = 0 then
  k (x0, q259.1, x2, ps, ta, tb, d, S, pg, c, q261.1, q259.2.1)
  else
  gd (inb ((0 : Int32)) 1) (if (lg_cmp (gL q259.2.1 0 0 (ix ((0 : Int32)))) q261.2.toInt64) = 0 then
  k (x0, q259.1, x2, ps, ta, tb, d, S, pg, c, q261.1, q259.2.1)
  else
  some (0 : Int32))
  else
  some (0 : Int32)))
def sL_c32 (k : TT → Option Int32) (xs : Nat → Int32) (L : Nat) (TT0 : TT) (a4 : Int32) : Option Int32 := match TT0 with
  | (x0, x1, x2, ps, ta, tb, d, S, pg, c, m, ot) =>
  gd (inb (a4 + ((1 : Int32))) L) (bd (sL_bestAt x0 x1 ot (xs (ix (a4 + ((1 : Int32)))))) fun q268 =>
  gd (inb (a4 + ((1 : Int32))) L) (bd (sX7_bestAt m (xs (ix (a4 + ((1 : Int32)))))) fun q270 =>
  bd (sX7_thrown q270.1) fun q271 =>
  if q271 = q268.2.2 then
  if ¬ q268.2.2 = 0 then
  k (x0, q268.1, x2, ps, ta, tb, d, S, pg, c, q270.1, q268.2.1)
  else
  gd (inb ((0 : Int32)) 1) (if (lg_cmp (gL q268.2.1 0 0 (ix ((0 : Int32)))) q270.2.toInt64) = 0 then
  k (x0, q268.1, x2, ps, ta, tb, d, S, pg, c, q270.1, q268.2.1)
  else
  some (0 : Int32))
  else
  some (0 : Int32)))
def sL_c33 (k : TT → Option Int32) (xs : Nat → Int32) (L : Nat) (TT0 : TT) (a4 : Int32) : Option Int32 := match TT0 with
  | (x0, x1, x2, ps, ta, tb, d, S, pg, c, m, ot) =>
  gd (inb (a4 + ((1 : Int32))) L) (bd (sL_bestEvery x0 x1 ot (xs (ix (a4 + ((1 : Int32)))))) fun q277 =>
  gd (inb (a4 + ((1 : Int32))) L) (bd (sX7_bestEvery m (xs (ix (a4 + ((1 : Int32)))))) fun q279 =>
  bd (sX7_thrown q279.1) fun q280 =>
  if q280 = q277.2.2 then
  if ¬ q277.2.2 = 0 then
  k (x0, q277.1, x2, ps, ta, tb, d, S, pg, c, q279.1, q277.2.1)
  else
  gd (inb ((0 : Int32)) 1) (if (lg_cmp (gL q277.2.1 0 0 (ix ((0 : Int32)))) q279.2.toInt64) = 0 then
  k (x0, q277.1, x2, ps, ta, tb, d, S, pg, c, q279.1, q277.2.1)
  else
  some (0 : Int32))
  else
  some (0 : Int32)))
def sL_c34 (k : TT → Option Int32) (xs : Nat → Int32) (L : Nat) (TT0 : TT) (a4 : Int32) : Option Int32 := match TT0 with
  | (x0, x1, x2, ps, ta, tb, d, S, pg, c, m, ot) =>
  gd (inb (a4 + ((1 : Int32))) L) (bd (sL_run x0 ps c ot (xs (ix (a4 + ((1 : Int32)))))) fun q286 =>
  gd (inb (a4 + ((1 : Int32))) L) (bd (sX7_run m (xs (ix (a4 + ((1 : Int32)))))) fun q288 =>
  bd (sX7_thrown q288.1) fun q289 =>
  if q289 = q286.2.2.2.2 then
  if ¬ q286.2.2.2.2 = 0 then
  k (q286.1, x1, x2, q286.2.1, ta, tb, d, S, pg, q286.2.2.1, q288.1, q286.2.2.2.1)
  else
  gd (inb ((0 : Int32)) 1) (if (lg_cmp (gL q286.2.2.2.1 0 0 (ix ((0 : Int32)))) q288.2.toInt64) = 0 then
  k (q286.1, x1, x2, q286.2.1, ta, tb, d, S, pg, q286.2.2.1, q288.1, q286.2.2.2.1)
  else
  some (0 : Int32))
  else
  some (0 : Int32)))
def sL_c35 (k : TT → Option Int32) (xs : Nat → Int32) (L : Nat) (TT0 : TT) (a4 : Int32) : Option Int32 := match TT0 with
  | (x0, x1, x2, ps, ta, tb, d, S, pg, c, m, ot) =>
  gd (inb (a4 + ((1 : Int32))) L) (bd (sL_wake x0 ps c ot (xs (ix (a4 + ((1 : Int32)))))) fun q295 =>
  gd (inb (a4 + ((1 : Int32))) L) (bd (sX7_wake m (xs (ix (a4 + ((1 : Int32)))))) fun q297 =>
  bd (sX7_thrown q297.1) fun q298 =>
  if q298 = q295.2.2.2.2 then
  if ¬ q295.2.2.2.2 = 0 then
  k (q295.1, x1, x2, q295.2.1, ta, tb, d, S, pg, q295.2.2.1, q297.1, q295.2.2.2.1)
  else
  gd (inb ((0 : Int32)) 1) (if (lg_cmp (gL q295.2.2.2.1 0 0 (ix ((0 : Int32)))) q297.2.toInt64) = 0 then
  k (q295.1, x1, x2, q295.2.1, ta, tb, d, S, pg, q295.2.2.1, q297.1, q295.2.2.2.1)
  else
  some (0 : Int32))
  else
  some (0 : Int32)))
def sL_c36 (k : TT → Option Int32) (xs : Nat → Int32) (L : Nat) (TT0 : TT) (a4 : Int32) : Option Int32 := match TT0 with
  | (x0, x1, x2, ps, ta, tb, d, S, pg, c, m, ot) =>
  gd (inb (a4 + ((1 : Int32))) L) (gd (inb (a4 + ((2 : Int32))) L) (bd (sL_setEvery x0 ps c ot (xs (ix (a4 + ((1 : Int32))))) (xs (ix (a4 + ((2 : Int32)))))) fun q305 =>
  gd (inb (a4 + ((1 : Int32))) L) (gd (inb (a4 + ((2 : Int32))) L) (bd (sX7_setEvery m (xs (ix (a4 + ((1 : Int32))))) (xs (ix (a4 + ((2 : Int32)))))) fun q308 =>
  bd (sX7_thrown q308.1) fun q309 =>
  if q309 = q305.2.2.2.2 then
  if ¬ q305.2.2.2.2 = 0 then
  k (q305.1, x1, x2, q305.2.1, ta, tb, d, S, pg, q305.2.2.1, q308.1, q305.2.2.2.1)
  else
  gd (inb ((0 : Int32)) 1) (if (lg_cmp (gL q305.2.2.2.1 0 0 (ix ((0 : Int32)))) q308.2.toInt64) = 0 then
  k (q305.1, x1, x2, q305.2.1, ta, tb, d, S, pg, q305.2.2.1, q308.1, q305.2.2.2.1)
  else
  some (0 : Int32))
  else
  some (0 : Int32)))))
def sL_c37 (k : TT → Option Int32) (xs : Nat → Int32) (L : Nat) (TT0 : TT) (a4 : Int32) : Option Int32 := match TT0 with
  | (x0, x1, x2, ps, ta, tb, d, S, pg, c, m, ot) =>
  gd (inb (a4 + ((1 : Int32))) L) (gd (inb (a4 + ((2 : Int32))) L) (bd (sL_setAt x0 ps c ot (xs (ix (a4 + ((1 : Int32))))) (xs (ix (a4 + ((2 : Int32)))))) fun q316 =>
  gd (inb (a4 + ((1 : Int32))) L) (gd (inb (a4 + ((2 : Int32))) L) (bd (sX7_setAt m (xs (ix (a4 + ((1 : Int32))))) (xs (ix (a4 + ((2 : Int32)))))) fun q319 =>
  bd (sX7_thrown q319.1) fun q320 =>
  if q320 = q316.2.2.2.2 then
  if ¬ q316.2.2.2.2 = 0 then
  k (q316.1, x1, x2, q316.2.1, ta, tb, d, S, pg, q316.2.2.1, q319.1, q316.2.2.2.1)
  else
  gd (inb ((0 : Int32)) 1) (if (lg_cmp (gL q316.2.2.2.1 0 0 (ix ((0 : Int32)))) q319.2.toInt64) = 0 then
  k (q316.1, x1, x2, q316.2.1, ta, tb, d, S, pg, q316.2.2.1, q319.1, q316.2.2.2.1)
  else
  some (0 : Int32))
  else
  some (0 : Int32)))))
def sL_c38 (k : TT → Option Int32) (xs : Nat → Int32) (L : Nat) (TT0 : TT) (a4 : Int32) : Option Int32 := match TT0 with
  | (x0, x1, x2, ps, ta, tb, d, S, pg, c, m, ot) =>
  gd (inb (a4 + ((1 : Int32))) L) (gd (inb (a4 + ((2 : Int32))) L) (bd (sL_charge x0 ps c ot (xs (ix (a4 + ((1 : Int32))))) (xs (ix (a4 + ((2 : Int32)))))) fun q327 =>
  gd (inb (a4 + ((1 : Int32))) L) (gd (inb (a4 + ((2 : Int32))) L) (bd (sX7_charge m (xs (ix (a4 + ((1 : Int32))))) (xs (ix (a4 + ((2 : Int32)))))) fun q330 =>
  bd (sX7_thrown q330.1) fun q331 =>
  if q331 = q327.2.2.2.2 then
  if ¬ q327.2.2.2.2 = 0 then
  k (q327.1, x1, x2, q327.2.1, ta, tb, d, S, pg, q327.2.2.1, q330.1, q327.2.2.2.1)
  else
  gd (inb ((0 : Int32)) 1) (if (lg_cmp (gL q327.2.2.2.1 0 0 (ix ((0 : Int32)))) q330.2.toInt64) = 0 then
  k (q327.1, x1, x2, q327.2.1, ta, tb, d, S, pg, q327.2.2.1, q330.1, q327.2.2.2.1)
  else
  some (0 : Int32))
  else
  some (0 : Int32)))))
def sL_c39 (k : TT → Option Int32) (xs : Nat → Int32) (L : Nat) (TT0 : TT) (a4 : Int32) : Option Int32 := match TT0 with
  | (x0, x1, x2, ps, ta, tb, d, S, pg, c, m, ot) =>
  gd (inb (a4 + ((1 : Int32))) L) (gd (inb (a4 + ((2 : Int32))) L) (gd (inb (a4 + ((3 : Int32))) L) (if (xs (ix (a4 + ((3 : Int32))))) = 0 then
  bd (sL_setNear x0 ps c ot (xs (ix (a4 + ((1 : Int32))))) (xs (ix (a4 + ((2 : Int32))))) ((0 : Int32))) fun q340 =>
  gd (inb (a4 + ((1 : Int32))) L) (gd (inb (a4 + ((2 : Int32))) L) (gd (inb (a4 + ((3 : Int32))) L) (if (xs (ix (a4 + ((3 : Int32))))) = 0 then
  bd (sX7_setNear m (xs (ix (a4 + ((1 : Int32))))) (xs (ix (a4 + ((2 : Int32))))) ((0 : Int32))) fun q345 =>
  bd (sX7_thrown q345.1) fun q346 =>
  if q346 = q340.2.2.2.2 then
  if ¬ q340.2.2.2.2 = 0 then
  k (q340.1, x1, x2, q340.2.1, ta, tb, d, S, pg, q340.2.2.1, q345.1, q340.2.2.2.1)
  else
  gd (inb ((0 : Int32)) 1) (if q345.2 = 0 then
  if (lg_cmp (gL q340.2.2.2.1 0 0 (ix ((0 : Int32)))) ((0 : Int64))) = 0 then
  k (q340.1, x1, x2, q340.2.1, ta, tb, d, S, pg, q340.2.2.1, q345.1, q340.2.2.2.1)
  else
  some (0 : Int32)
  else
  if (lg_cmp (gL q340.2.2.2.1 0 0 (ix ((0 : Int32)))) ((1 : Int64))) = 0 then
  k (q340.1, x1, x2, q340.2.1, ta, tb, d, S, pg, q340.2.2.1, q345.1, q340.2.2.2.1)
  else
  some (0 : Int32))
  else
  some (0 : Int32)
  else
  bd (sX7_setNear m (xs (ix (a4 + ((1 : Int32))))) (xs (ix (a4 + ((2 : Int32))))) ((1 : Int32))) fun q353 =>
  bd (sX7_thrown q353.1) fun q354 =>
  if q354 = q340.2.2.2.2 then
  if ¬ q340.2.2.2.2 = 0 then
  k (q340.1, x1, x2, q340.2.1, ta, tb, d, S, pg, q340.2.2.1, q353.1, q340.2.2.2.1)
  else
  gd (inb ((0 : Int32)) 1) (if q353.2 = 0 then
  if (lg_cmp (gL q340.2.2.2.1 0 0 (ix ((0 : Int32)))) ((0 : Int64))) = 0 then
  k (q340.1, x1, x2, q340.2.1, ta, tb, d, S, pg, q340.2.2.1, q353.1, q340.2.2.2.1)
  else
  some (0 : Int32)
  else
  if (lg_cmp (gL q340.2.2.2.1 0 0 (ix ((0 : Int32)))) ((1 : Int64))) = 0 then
  k (q340.1, x1, x2, q340.2.1, ta, tb, d, S, pg, q340.2.2.1, q353.1, q340.2.2.2.1)
  else
  some (0 : Int32))
  else
  some (0 : Int32))))
  else
  bd (sL_setNear x0 ps c ot (xs (ix (a4 + ((1 : Int32))))) (xs (ix (a4 + ((2 : Int32))))) ((1 : Int32))) fun q361 =>
  gd (inb (a4 + ((1 : Int32))) L) (gd (inb (a4 + ((2 : Int32))) L) (gd (inb (a4 + ((3 : Int32))) L) (if (xs (ix (a4 + ((3 : Int32))))) = 0 then
  bd (sX7_setNear m (xs (ix (a4 + ((1 : Int32))))) (xs (ix (a4 + ((2 : Int32))))) ((0 : Int32))) fun q366 =>
  bd (sX7_thrown q366.1) fun q367 =>
  if q367 = q361.2.2.2.2 then
  if ¬ q361.2.2.2.2 = 0 then
  k (q361.1, x1, x2, q361.2.1, ta, tb, d, S, pg, q361.2.2.1, q366.1, q361.2.2.2.1)
  else
  gd (inb ((0 : Int32)) 1) (if q366.2 = 0 then
  if (lg_cmp (gL q361.2.2.2.1 0 0 (ix ((0 : Int32)))) ((0 : Int64))) = 0 then
  k (q361.1, x1, x2, q361.2.1, ta, tb, d, S, pg, q361.2.2.1, q366.1, q361.2.2.2.1)
  else
  some (0 : Int32)
  else
  if (lg_cmp (gL q361.2.2.2.1 0 0 (ix ((0 : Int32)))) ((1 : Int64))) = 0 then
  k (q361.1, x1, x2, q361.2.1, ta, tb, d, S, pg, q361.2.2.1, q366.1, q361.2.2.2.1)
  else
  some (0 : Int32))
  else
  some (0 : Int32)
  else
  bd (sX7_setNear m (xs (ix (a4 + ((1 : Int32))))) (xs (ix (a4 + ((2 : Int32))))) ((1 : Int32))) fun q374 =>
  bd (sX7_thrown q374.1) fun q375 =>
  if q375 = q361.2.2.2.2 then
  if ¬ q361.2.2.2.2 = 0 then
  k (q361.1, x1, x2, q361.2.1, ta, tb, d, S, pg, q361.2.2.1, q374.1, q361.2.2.2.1)
  else
  gd (inb ((0 : Int32)) 1) (if q374.2 = 0 then
  if (lg_cmp (gL q361.2.2.2.1 0 0 (ix ((0 : Int32)))) ((0 : Int64))) = 0 then
  k (q361.1, x1, x2, q361.2.1, ta, tb, d, S, pg, q361.2.2.1, q374.1, q361.2.2.2.1)
  else
  some (0 : Int32)
  else
  if (lg_cmp (gL q361.2.2.2.1 0 0 (ix ((0 : Int32)))) ((1 : Int64))) = 0 then
  k (q361.1, x1, x2, q361.2.1, ta, tb, d, S, pg, q361.2.2.1, q374.1, q361.2.2.2.1)
  else
  some (0 : Int32))
  else
  some (0 : Int32)))))))
def sL_c40 (k : TT → Option Int32) (xs : Nat → Int32) (L : Nat) (TT0 : TT) (a4 : Int32) : Option Int32 := match TT0 with
  | (x0, x1, x2, ps, ta, tb, d, S, pg, c, m, ot) =>
  gd (inb (a4 + ((1 : Int32))) L) (bd (sL_setTries x0 ps c ot (xs (ix (a4 + ((1 : Int32)))))) fun q383 =>
  gd (inb (a4 + ((1 : Int32))) L) (bd (sX7_setTries m (xs (ix (a4 + ((1 : Int32)))))) fun q385 =>
  bd (sX7_thrown q385.1) fun q386 =>
  if q386 = q383.2.2.2.2 then
  if ¬ q383.2.2.2.2 = 0 then
  k (q383.1, x1, x2, q383.2.1, ta, tb, d, S, pg, q383.2.2.1, q385.1, q383.2.2.2.1)
  else
  gd (inb ((0 : Int32)) 1) (if (lg_cmp (gL q383.2.2.2.1 0 0 (ix ((0 : Int32)))) q385.2.toInt64) = 0 then
  k (q383.1, x1, x2, q383.2.1, ta, tb, d, S, pg, q383.2.2.1, q385.1, q383.2.2.2.1)
  else
  some (0 : Int32))
  else
  some (0 : Int32)))
def sL_c41 (k : TT → Option Int32) (xs : Nat → Int32) (L : Nat) (TT0 : TT) (a4 : Int32) : Option Int32 := match TT0 with
  | (x0, x1, x2, ps, ta, tb, d, S, pg, c, m, ot) =>
  bd (sX6_report x0 pg) fun q391 =>
  bd (sX7_report m) fun q392 =>
  if q391.2 = q392.2 then
  k (x0, x1, x2, ps, ta, tb, d, S, q391.1, c, q392.1, ot)
  else
  some (0 : Int32)
def sL_c42 (k : TT → Option Int32) (xs : Nat → Int32) (L : Nat) (TT0 : TT) (a4 : Int32) : Option Int32 := match TT0 with
  | (x0, x1, x2, ps, ta, tb, d, S, pg, c, m, ot) =>
  gd (inb (a4 + ((1 : Int32))) L) (bd (sL_reportByte pg ot (xs (ix (a4 + ((1 : Int32)))))) fun q395 =>
  gd (inb (a4 + ((1 : Int32))) L) (bd (sX7_reportByte m (xs (ix (a4 + ((1 : Int32)))))) fun q397 =>
  bd (sX7_thrown q397.1) fun q398 =>
  if q398 = q395.2 then
  if ¬ q395.2 = 0 then
  k (x0, x1, x2, ps, ta, tb, d, S, pg, c, q397.1, q395.1)
  else
  gd (inb ((0 : Int32)) 1) (if (lg_cmp (gL q395.1 0 0 (ix ((0 : Int32)))) q397.2.toInt64) = 0 then
  k (x0, x1, x2, ps, ta, tb, d, S, pg, c, q397.1, q395.1)
  else
  some (0 : Int32))
  else
  some (0 : Int32)))
def sL_c43 (k : TT → Option Int32) (xs : Nat → Int32) (L : Nat) (TT0 : TT) (a4 : Int32) : Option Int32 := match TT0 with
  | (x0, x1, x2, ps, ta, tb, d, S, pg, c, m, ot) =>
  bd (sX6_undo x0 ps c) fun q403 =>
  bd (sX7_undo m) fun q404 =>
  if q403.2.2 = q404.2 then
  k (q403.1, x1, x2, ps, ta, tb, d, S, pg, q403.2.1, q404.1, ot)
  else
  some (0 : Int32)
def sL_c44 (k : TT → Option Int32) (xs : Nat → Int32) (L : Nat) (TT0 : TT) (a4 : Int32) : Option Int32 := match TT0 with
  | (x0, x1, x2, ps, ta, tb, d, S, pg, c, m, ot) =>
  bd (sX6_save x0 x2 c) fun q406 =>
  bd (sX7_save m) fun q407 =>
  if q406.2.2 = q407.2 then
  k (x0, x1, q406.1, ps, ta, tb, d, S, pg, q406.2.1, q407.1, ot)
  else
  some (0 : Int32)
def sL_c45 (k : TT → Option Int32) (xs : Nat → Int32) (L : Nat) (TT0 : TT) (a4 : Int32) : Option Int32 := match TT0 with
  | (x0, x1, x2, ps, ta, tb, d, S, pg, c, m, ot) =>
  bd (sL_restore x0 x2 c ot) fun q409 =>
  bd (sX7_restore m) fun q410 =>
  bd (sX7_thrown q410.1) fun q411 =>
  if q411 = q409.2.2.2 then
  if ¬ q409.2.2.2 = 0 then
  k (q409.1, x1, x2, ps, ta, tb, d, S, pg, q409.2.1, q410.1, q409.2.2.1)
  else
  gd (inb ((0 : Int32)) 1) (if (lg_cmp (gL q409.2.2.1 0 0 (ix ((0 : Int32)))) q410.2.toInt64) = 0 then
  k (q409.1, x1, x2, ps, ta, tb, d, S, pg, q409.2.1, q410.1, q409.2.2.1)
  else
  some (0 : Int32))
  else
  some (0 : Int32)
set_option maxRecDepth 20000 in
theorem gL_c0 {g : GX} {a b b0 L : Nat} {xs : Nat → Int32} {k : TT → Option Int32} {x0 x1 x2 ta tb d S pg c m ot : St} {ps : Nat → St} {a4 : Int32} (X : CX g RL cL_law 9 14 538) (XL : XLaw g b0 L xs) (ha : a < 601024) (hb : b + 6 ≤ 7293034) (hk : ∀ (T1 : TT) (a1 b1 : Nat), a1 ≤ a + 1 → b1 ≤ b + 6 → k T1 = some 1 → G g a1 b1 T1 2666 [(0, .ref b0), (1, .ref (xE (gκ g) 8 0 0)), (2, .ref (xE (gκ g) 9 0 0)), (3, .ref (xE (gκ g) 10 0 0)), (4, .int a4)] []) (h : sL_c0 k xs L (x0, x1, x2, ps, ta, tb, d, S, pg, c, m, ot) a4 = some 1) : G g a b (x0, x1, x2, ps, ta, tb, d, S, pg, c, m, ot) 240 [(0, .ref b0), (1, .ref (xE (gκ g) 8 0 0)), (2, .ref (xE (gκ g) 9 0 0)), (3, .ref (xE (gκ g) 10 0 0)), (4, .int a4)] [] := by
  unfold sL_c0 at h
  dsimp only at h
  refine G_aload_n X 1 dL_law_240 rfl rfl ?_
  refine G_aload_n X 0 dL_law_241 rfl rfl ?_
  refine G_iload X 4 dL_law_242 rfl ?_
  refine G_iconst X (v := (1 : Int32)) dL_law_244 (by decide) ?_
  refine G_iadd X dL_law_245 ?_
  obtain ⟨g1, h⟩ := gd_some h
  refine G_sld X XL g1 dL_law_246 ?_
  refine G_aload_n X 0 dL_law_247 rfl rfl ?_
  refine G_iload X 4 dL_law_248 rfl ?_
  refine G_iconst X (v := (2 : Int32)) dL_law_250 (by decide) ?_
  refine G_iadd X dL_law_251 ?_
  obtain ⟨g2, h⟩ := gd_some h
  refine G_sld X XL g2 dL_law_252 ?_
  refine G_aload_n X 0 dL_law_253 rfl rfl ?_
  refine G_iload X 4 dL_law_254 rfl ?_
  refine G_iconst X (v := (3 : Int32)) dL_law_256 (by decide) ?_
  refine G_iadd X dL_law_257 ?_
  obtain ⟨g3, h⟩ := gd_some h
  refine G_sld X XL g3 dL_law_258 ?_
  refine G_aload_n X 0 dL_law_259 rfl rfl ?_
  refine G_iload X 4 dL_law_260 rfl ?_
  refine G_iconst X (v := (4 : Int32)) dL_law_262 (by decide) ?_
  refine G_iadd X dL_law_263 ?_
  obtain ⟨g4, h⟩ := gd_some h
  refine G_sld X XL g4 dL_law_264 ?_
  refine G_aload_n X 0 dL_law_265 rfl rfl ?_
  refine G_iload X 4 dL_law_266 rfl ?_
  refine G_iconst X (v := (5 : Int32)) dL_law_268 (by decide) ?_
  refine G_iadd X dL_law_269 ?_
  obtain ⟨g5, h⟩ := gd_some h
  refine G_sld X XL g5 dL_law_270 ?_
  refine G_aload_n X 3 dL_law_271 rfl rfl ?_
  obtain ⟨q6, hq6, h⟩ := bd_some h
  refine G_callW X XL (As := [.ref (xE (gκ g) 8 0 0), .int (xs (ix (a4 + ((1 : Int32))))), .int (xs (ix (a4 + ((2 : Int32))))), .int (xs (ix (a4 + ((3 : Int32))))), .int (xs (ix (a4 + ((4 : Int32))))), .int (xs (ix (a4 + ((5 : Int32))))), .ref (xE (gκ g) 10 0 0)]) (rest := []) (T' := (x0, x1, x2, ps, ta, tb, d, S, pg, q6.1, m, q6.2.1)) (st2 := [.int q6.2.2]) (ct_L_feed (l := g.2.1) (κ := gκ g)   hq6) cal_L_feed wM_L_133 wT_L_feed (by decide) rfl rfl (Nat.le_of_ble_eq_true rfl) (by omega) (by omega) dL_law_272 rfl ?_
  refine G_istore X (lv' := [(5, .int q6.2.2), (0, .ref b0), (1, .ref (xE (gκ g) 8 0 0)), (2, .ref (xE (gκ g) 9 0 0)), (3, .ref (xE (gκ g) 10 0 0)), (4, .int a4)]) dL_law_275 (by decide) rfl ?_
  refine G_aload_n X 3 dL_law_277 rfl rfl ?_
  refine G_aload_n X 1 dL_law_278 rfl rfl ?_
  refine G_iload X 5 dL_law_279 rfl ?_
  refine G_iconst X (v := (1 : Int32)) dL_law_281 (by decide) ?_
  refine G_iadd X dL_law_282 ?_
  obtain ⟨g7, h⟩ := gd_some h
  refine G_sld X XL g7 dL_law_283 ?_
  refine G_aload_n X 1 dL_law_284 rfl rfl ?_
  refine G_iload X 5 dL_law_285 rfl ?_
  refine G_iconst X (v := (2 : Int32)) dL_law_287 (by decide) ?_
  refine G_iadd X dL_law_288 ?_
  obtain ⟨g8, h⟩ := gd_some h
  refine G_sld X XL g8 dL_law_289 ?_
  refine G_aload_n X 1 dL_law_290 rfl rfl ?_
  refine G_iload X 5 dL_law_291 rfl ?_
  refine G_iconst X (v := (3 : Int32)) dL_law_293 (by decide) ?_
  refine G_iadd X dL_law_294 ?_
  obtain ⟨g9, h⟩ := gd_some h
  refine G_sld X XL g9 dL_law_295 ?_
  refine G_aload_n X 1 dL_law_296 rfl rfl ?_
  refine G_iload X 5 dL_law_297 rfl ?_
  refine G_iconst X (v := (4 : Int32)) dL_law_299 (by decide) ?_
  refine G_iadd X dL_law_300 ?_
  obtain ⟨g10, h⟩ := gd_some h
  refine G_sld X XL g10 dL_law_301 ?_
  refine G_aload_n X 1 dL_law_302 rfl rfl ?_
  refine G_iload X 5 dL_law_303 rfl ?_
  refine G_iconst X (v := (5 : Int32)) dL_law_305 (by decide) ?_
  refine G_iadd X dL_law_306 ?_
  obtain ⟨g11, h⟩ := gd_some h
  refine G_sld X XL g11 dL_law_307 ?_
  obtain ⟨q12, hq12, h⟩ := bd_some h
  refine G_callV X (As := [.int (xs (ix (a4 + ((1 : Int32))))), .int (xs (ix (a4 + ((2 : Int32))))), .int (xs (ix (a4 + ((3 : Int32))))), .int (xs (ix (a4 + ((4 : Int32))))), .int (xs (ix (a4 + ((5 : Int32)))))]) (rest := []) (T' := (x0, x1, x2, ps, ta, tb, d, S, pg, q6.1, q12.1, q6.2.1)) (st2 := [.int q12.2]) (ct_X7_feed (l := g.2.1) (κ := gκ g) (T := (x0, x1, x2, ps, ta, tb, d, S, pg, q6.1, m, q6.2.1)) (m := m)  hq12) cal_X7_feed wM_L_138 wI_X7_feed wS_X7_feed rfl rfl (by decide) rfl rfl (Nat.le_of_ble_eq_true rfl) (XL.2.2.2 (by omega) (by omega)) dL_law_308 rfl ?_
  refine G_istore X (lv' := [(6, .int q12.2), (5, .int q6.2.2), (0, .ref b0), (1, .ref (xE (gκ g) 8 0 0)), (2, .ref (xE (gκ g) 9 0 0)), (3, .ref (xE (gκ g) 10 0 0)), (4, .int a4)]) dL_law_311 (by decide) rfl ?_
  refine G_aload_n X 4 dL_law_313 rfl rfl ?_
  obtain ⟨q13, hq13, h⟩ := bd_some h
  refine G_callV X (As := []) (rest := []) (T' := (x0, x1, x2, ps, ta, tb, d, S, pg, q6.1, q12.1, q6.2.1)) (st2 := [.int q13]) (ct_X7_thrown (l := g.2.1) (κ := gκ g) (T := (x0, x1, x2, ps, ta, tb, d, S, pg, q6.1, q12.1, q6.2.1)) (m := q12.1)  hq13) cal_X7_thrown wM_L_139 wI_X7_thrown wS_X7_thrown rfl rfl (by decide) rfl rfl (Nat.le_of_ble_eq_true rfl) (XL.2.2.2 (by omega) (by omega)) dL_law_314 rfl ?_
  refine G_iload X 1 dL_law_317 rfl ?_
  refine G_icmp_eq X (tgt := 324) dL_law_319 (by decide) (fun c14 => ?_) (fun c14 => ?_)
  · have h := it_t c14 h
    refine G_iload X 1 dL_law_324 rfl ?_
    refine G_if_ne X (tgt := 341) dL_law_326 (by decide) (fun c15 => ?_) (fun c15 => ?_)
    · have h := it_t c15 h
      refine G_goto X (tgt := 2666) dL_law_341 (by decide) ?_
      refine G_sub [2, 3, 4, 5, 6] rfl ?_
      exact hk _ _ _ (by omega) (by omega) h
    · have h := it_f (fun k => k c15) h
      refine G_aload_n X 5 dL_law_329 rfl rfl ?_
      refine G_iconst X (v := (0 : Int32)) dL_law_330 (by decide) ?_
      obtain ⟨g16, h⟩ := gd_some h
      refine G_lald X rfl rfl g16 dL_law_331 ?_
      refine G_iload X 0 dL_law_332 rfl ?_
      refine G_i2l X dL_law_334 ?_
      refine G_lcmp X dL_law_335 ?_
      refine G_if_eq X (tgt := 341) dL_law_336 (by decide) (fun c17 => ?_) (fun c17 => ?_)
      · have h := it_t c17 h
        refine G_goto X (tgt := 2666) dL_law_341 (by decide) ?_
        refine G_sub [2, 3, 4, 5, 6] rfl ?_
        exact hk _ _ _ (by omega) (by omega) h
      · have h := it_f c17 h
        refine G_iconst X (v := (0 : Int32)) dL_law_339 (by decide) ?_
        cases h
  · have h := it_f c14 h
    refine G_iconst X (v := (0 : Int32)) dL_law_322 (by decide) ?_
    cases h
set_option maxRecDepth 20000 in
theorem gL_c1 {g : GX} {a b b0 L : Nat} {xs : Nat → Int32} {k : TT → Option Int32} {x0 x1 x2 ta tb d S pg c m ot : St} {ps : Nat → St} {a4 : Int32} (X : CX g RL cL_law 9 14 538) (XL : XLaw g b0 L xs) (ha : a < 601024) (hb : b + 6 ≤ 7293034) (hk : ∀ (T1 : TT) (a1 b1 : Nat), a1 ≤ a + 1 → b1 ≤ b + 6 → k T1 = some 1 → G g a1 b1 T1 2666 [(0, .ref b0), (1, .ref (xE (gκ g) 8 0 0)), (2, .ref (xE (gκ g) 9 0 0)), (3, .ref (xE (gκ g) 10 0 0)), (4, .int a4)] []) (h : sL_c1 k xs L (x0, x1, x2, ps, ta, tb, d, S, pg, c, m, ot) a4 = some 1) : G g a b (x0, x1, x2, ps, ta, tb, d, S, pg, c, m, ot) 344 [(0, .ref b0), (1, .ref (xE (gκ g) 8 0 0)), (2, .ref (xE (gκ g) 9 0 0)), (3, .ref (xE (gκ g) 10 0 0)), (4, .int a4)] [] := by
  unfold sL_c1 at h
  dsimp only at h
  refine G_aload_n X 1 dL_law_344 rfl rfl ?_
  refine G_aload_n X 0 dL_law_345 rfl rfl ?_
  refine G_iload X 4 dL_law_346 rfl ?_
  refine G_iconst X (v := (1 : Int32)) dL_law_348 (by decide) ?_
  refine G_iadd X dL_law_349 ?_
  obtain ⟨g18, h⟩ := gd_some h
  refine G_sld X XL g18 dL_law_350 ?_
  refine G_aload_n X 3 dL_law_351 rfl rfl ?_
  obtain ⟨q19, hq19, h⟩ := bd_some h
  refine G_callW X XL (As := [.ref (xE (gκ g) 8 0 0), .int (xs (ix (a4 + ((1 : Int32))))), .ref (xE (gκ g) 10 0 0)]) (rest := []) (T' := (x0, x1, x2, ps, ta, tb, d, S, pg, q19.1, m, q19.2.1)) (st2 := [.int q19.2.2]) (ct_L_truncate (l := g.2.1) (κ := gκ g)   hq19) cal_L_truncate wM_L_142 wT_L_truncate (by decide) rfl rfl (Nat.le_of_ble_eq_true rfl) (by omega) (by omega) dL_law_352 rfl ?_
  refine G_istore X (lv' := [(5, .int q19.2.2), (0, .ref b0), (1, .ref (xE (gκ g) 8 0 0)), (2, .ref (xE (gκ g) 9 0 0)), (3, .ref (xE (gκ g) 10 0 0)), (4, .int a4)]) dL_law_355 (by decide) rfl ?_
  refine G_aload_n X 3 dL_law_357 rfl rfl ?_
  refine G_aload_n X 1 dL_law_358 rfl rfl ?_
  refine G_iload X 5 dL_law_359 rfl ?_
  refine G_iconst X (v := (1 : Int32)) dL_law_361 (by decide) ?_
  refine G_iadd X dL_law_362 ?_
  obtain ⟨g20, h⟩ := gd_some h
  refine G_sld X XL g20 dL_law_363 ?_
  obtain ⟨q21, hq21, h⟩ := bd_some h
  refine G_callV X (As := [.int (xs (ix (a4 + ((1 : Int32)))))]) (rest := []) (T' := (x0, x1, x2, ps, ta, tb, d, S, pg, q19.1, q21.1, q19.2.1)) (st2 := [.int q21.2]) (ct_X7_truncate (l := g.2.1) (κ := gκ g) (T := (x0, x1, x2, ps, ta, tb, d, S, pg, q19.1, m, q19.2.1)) (m := m)  hq21) cal_X7_truncate wM_L_145 wI_X7_truncate wS_X7_truncate rfl rfl (by decide) rfl rfl (Nat.le_of_ble_eq_true rfl) (XL.2.2.2 (by omega) (by omega)) dL_law_364 rfl ?_
  refine G_istore X (lv' := [(6, .int q21.2), (5, .int q19.2.2), (0, .ref b0), (1, .ref (xE (gκ g) 8 0 0)), (2, .ref (xE (gκ g) 9 0 0)), (3, .ref (xE (gκ g) 10 0 0)), (4, .int a4)]) dL_law_367 (by decide) rfl ?_
  refine G_aload_n X 4 dL_law_369 rfl rfl ?_
  obtain ⟨q22, hq22, h⟩ := bd_some h
  refine G_callV X (As := []) (rest := []) (T' := (x0, x1, x2, ps, ta, tb, d, S, pg, q19.1, q21.1, q19.2.1)) (st2 := [.int q22]) (ct_X7_thrown (l := g.2.1) (κ := gκ g) (T := (x0, x1, x2, ps, ta, tb, d, S, pg, q19.1, q21.1, q19.2.1)) (m := q21.1)  hq22) cal_X7_thrown wM_L_139 wI_X7_thrown wS_X7_thrown rfl rfl (by decide) rfl rfl (Nat.le_of_ble_eq_true rfl) (XL.2.2.2 (by omega) (by omega)) dL_law_370 rfl ?_
  refine G_iload X 1 dL_law_373 rfl ?_
  refine G_icmp_eq X (tgt := 380) dL_law_375 (by decide) (fun c23 => ?_) (fun c23 => ?_)
  · have h := it_t c23 h
    refine G_iload X 1 dL_law_380 rfl ?_
    refine G_if_ne X (tgt := 397) dL_law_382 (by decide) (fun c24 => ?_) (fun c24 => ?_)
    · have h := it_t c24 h
      refine G_goto X (tgt := 2666) dL_law_397 (by decide) ?_
      refine G_sub [2, 3, 4, 5, 6] rfl ?_
      exact hk _ _ _ (by omega) (by omega) h
    · have h := it_f (fun k => k c24) h
      refine G_aload_n X 5 dL_law_385 rfl rfl ?_
      refine G_iconst X (v := (0 : Int32)) dL_law_386 (by decide) ?_
      obtain ⟨g25, h⟩ := gd_some h
      refine G_lald X rfl rfl g25 dL_law_387 ?_
      refine G_iload X 0 dL_law_388 rfl ?_
      refine G_i2l X dL_law_390 ?_
      refine G_lcmp X dL_law_391 ?_
      refine G_if_eq X (tgt := 397) dL_law_392 (by decide) (fun c26 => ?_) (fun c26 => ?_)
      · have h := it_t c26 h
        refine G_goto X (tgt := 2666) dL_law_397 (by decide) ?_
        refine G_sub [2, 3, 4, 5, 6] rfl ?_
        exact hk _ _ _ (by omega) (by omega) h
      · have h := it_f c26 h
        refine G_iconst X (v := (0 : Int32)) dL_law_395 (by decide) ?_
        cases h
  · have h := it_f c23 h
    refine G_iconst X (v := (0 : Int32)) dL_law_378 (by decide) ?_
    cases h
set_option maxRecDepth 20000 in
theorem gL_c2 {g : GX} {a b b0 L : Nat} {xs : Nat → Int32} {k : TT → Option Int32} {x0 x1 x2 ta tb d S pg c m ot : St} {ps : Nat → St} {a4 : Int32} (X : CX g RL cL_law 9 14 538) (XL : XLaw g b0 L xs) (ha : a < 601024) (hb : b + 6 ≤ 7293034) (hk : ∀ (T1 : TT) (a1 b1 : Nat), a1 ≤ a + 1 → b1 ≤ b + 6 → k T1 = some 1 → G g a1 b1 T1 2666 [(0, .ref b0), (1, .ref (xE (gκ g) 8 0 0)), (2, .ref (xE (gκ g) 9 0 0)), (3, .ref (xE (gκ g) 10 0 0)), (4, .int a4)] []) (h : sL_c2 k xs L (x0, x1, x2, ps, ta, tb, d, S, pg, c, m, ot) a4 = some 1) : G g a b (x0, x1, x2, ps, ta, tb, d, S, pg, c, m, ot) 400 [(0, .ref b0), (1, .ref (xE (gκ g) 8 0 0)), (2, .ref (xE (gκ g) 9 0 0)), (3, .ref (xE (gκ g) 10 0 0)), (4, .int a4)] [] := by
  unfold sL_c2 at h
  dsimp only at h
  refine G_aload_n X 1 dL_law_400 rfl rfl ?_
  refine G_aload_n X 3 dL_law_401 rfl rfl ?_
  obtain ⟨q27, hq27, h⟩ := bd_some h
  refine G_callW X XL (As := [.ref (xE (gκ g) 8 0 0), .ref (xE (gκ g) 10 0 0)]) (rest := []) (T' := (q27.1, q27.2.1, x2, ps, q27.2.2.1, tb, q27.2.2.2.1, S, pg, q27.2.2.2.2.1, m, q27.2.2.2.2.2.1)) (st2 := [.int q27.2.2.2.2.2.2]) (ct_L_readText (l := g.2.1) (κ := gκ g)   hq27) cal_L_readText wM_L_146 wT_L_readText (by decide) rfl rfl (Nat.le_of_ble_eq_true rfl) (by omega) (by omega) dL_law_402 rfl ?_
  refine G_istore X (lv' := [(5, .int q27.2.2.2.2.2.2), (0, .ref b0), (1, .ref (xE (gκ g) 8 0 0)), (2, .ref (xE (gκ g) 9 0 0)), (3, .ref (xE (gκ g) 10 0 0)), (4, .int a4)]) dL_law_405 (by decide) rfl ?_
  refine G_aload_n X 3 dL_law_407 rfl rfl ?_
  obtain ⟨q28, hq28, h⟩ := bd_some h
  refine G_callV X (As := []) (rest := []) (T' := (q27.1, q27.2.1, x2, ps, q27.2.2.1, tb, q27.2.2.2.1, S, pg, q27.2.2.2.2.1, q28.1, q27.2.2.2.2.2.1)) (st2 := [.int q28.2]) (ct_X7_readText (l := g.2.1) (κ := gκ g) (T := (q27.1, q27.2.1, x2, ps, q27.2.2.1, tb, q27.2.2.2.1, S, pg, q27.2.2.2.2.1, m, q27.2.2.2.2.2.1)) (m := m)  hq28) cal_X7_readText wM_L_149 wI_X7_readText wS_X7_readText rfl rfl (by decide) rfl rfl (Nat.le_of_ble_eq_true rfl) (XL.2.2.2 (by omega) (by omega)) dL_law_408 rfl ?_
  refine G_istore X (lv' := [(6, .int q28.2), (5, .int q27.2.2.2.2.2.2), (0, .ref b0), (1, .ref (xE (gκ g) 8 0 0)), (2, .ref (xE (gκ g) 9 0 0)), (3, .ref (xE (gκ g) 10 0 0)), (4, .int a4)]) dL_law_411 (by decide) rfl ?_
  refine G_aload_n X 4 dL_law_413 rfl rfl ?_
  obtain ⟨q29, hq29, h⟩ := bd_some h
  refine G_callV X (As := []) (rest := []) (T' := (q27.1, q27.2.1, x2, ps, q27.2.2.1, tb, q27.2.2.2.1, S, pg, q27.2.2.2.2.1, q28.1, q27.2.2.2.2.2.1)) (st2 := [.int q29]) (ct_X7_thrown (l := g.2.1) (κ := gκ g) (T := (q27.1, q27.2.1, x2, ps, q27.2.2.1, tb, q27.2.2.2.1, S, pg, q27.2.2.2.2.1, q28.1, q27.2.2.2.2.2.1)) (m := q28.1)  hq29) cal_X7_thrown wM_L_139 wI_X7_thrown wS_X7_thrown rfl rfl (by decide) rfl rfl (Nat.le_of_ble_eq_true rfl) (XL.2.2.2 (by omega) (by omega)) dL_law_414 rfl ?_
  refine G_iload X 1 dL_law_417 rfl ?_
  refine G_icmp_eq X (tgt := 424) dL_law_419 (by decide) (fun c30 => ?_) (fun c30 => ?_)
  · have h := it_t c30 h
    refine G_iload X 1 dL_law_424 rfl ?_
    refine G_if_ne X (tgt := 441) dL_law_426 (by decide) (fun c31 => ?_) (fun c31 => ?_)
    · have h := it_t c31 h
      refine G_goto X (tgt := 2666) dL_law_441 (by decide) ?_
      refine G_sub [2, 3, 4, 5, 6] rfl ?_
      exact hk _ _ _ (by omega) (by omega) h
    · have h := it_f (fun k => k c31) h
      refine G_aload_n X 5 dL_law_429 rfl rfl ?_
      refine G_iconst X (v := (0 : Int32)) dL_law_430 (by decide) ?_
      obtain ⟨g32, h⟩ := gd_some h
      refine G_lald X rfl rfl g32 dL_law_431 ?_
      refine G_iload X 0 dL_law_432 rfl ?_
      refine G_i2l X dL_law_434 ?_
      refine G_lcmp X dL_law_435 ?_
      refine G_if_eq X (tgt := 441) dL_law_436 (by decide) (fun c33 => ?_) (fun c33 => ?_)
      · have h := it_t c33 h
        refine G_goto X (tgt := 2666) dL_law_441 (by decide) ?_
        refine G_sub [2, 3, 4, 5, 6] rfl ?_
        exact hk _ _ _ (by omega) (by omega) h
      · have h := it_f c33 h
        refine G_iconst X (v := (0 : Int32)) dL_law_439 (by decide) ?_
        cases h
  · have h := it_f c30 h
    refine G_iconst X (v := (0 : Int32)) dL_law_422 (by decide) ?_
    cases h
set_option maxRecDepth 20000 in
theorem gL_c3 {g : GX} {a b b0 L : Nat} {xs : Nat → Int32} {k : TT → Option Int32} {x0 x1 x2 ta tb d S pg c m ot : St} {ps : Nat → St} {a4 : Int32} (X : CX g RL cL_law 9 14 538) (XL : XLaw g b0 L xs) (ha : a < 601024) (hb : b + 6 ≤ 7293034) (hk : ∀ (T1 : TT) (a1 b1 : Nat), a1 ≤ a + 1 → b1 ≤ b + 6 → k T1 = some 1 → G g a1 b1 T1 2666 [(0, .ref b0), (1, .ref (xE (gκ g) 8 0 0)), (2, .ref (xE (gκ g) 9 0 0)), (3, .ref (xE (gκ g) 10 0 0)), (4, .int a4)] []) (h : sL_c3 k xs L (x0, x1, x2, ps, ta, tb, d, S, pg, c, m, ot) a4 = some 1) : G g a b (x0, x1, x2, ps, ta, tb, d, S, pg, c, m, ot) 444 [(0, .ref b0), (1, .ref (xE (gκ g) 8 0 0)), (2, .ref (xE (gκ g) 9 0 0)), (3, .ref (xE (gκ g) 10 0 0)), (4, .int a4)] [] := by
  unfold sL_c3 at h
  dsimp only at h
  refine G_aload_n X 1 dL_law_444 rfl rfl ?_
  refine G_aload_n X 3 dL_law_445 rfl rfl ?_
  obtain ⟨q34, hq34, h⟩ := bd_some h
  refine G_callW X XL (As := [.ref (xE (gκ g) 8 0 0), .ref (xE (gκ g) 10 0 0)]) (rest := []) (T' := (q34.1, x1, x2, q34.2.1, ta, q34.2.2.1, d, q34.2.2.2.1, pg, q34.2.2.2.2.1, m, q34.2.2.2.2.2.1)) (st2 := [.int q34.2.2.2.2.2.2]) (ct_L_runScript (l := g.2.1) (κ := gκ g)   hq34) cal_L_runScript wM_L_150 wT_L_runScript (by decide) rfl rfl (Nat.le_of_ble_eq_true rfl) (by omega) (by omega) dL_law_446 rfl ?_
  refine G_istore X (lv' := [(5, .int q34.2.2.2.2.2.2), (0, .ref b0), (1, .ref (xE (gκ g) 8 0 0)), (2, .ref (xE (gκ g) 9 0 0)), (3, .ref (xE (gκ g) 10 0 0)), (4, .int a4)]) dL_law_449 (by decide) rfl ?_
  refine G_aload_n X 3 dL_law_451 rfl rfl ?_
  obtain ⟨q35, hq35, h⟩ := bd_some h
  refine G_callV X (As := []) (rest := []) (T' := (q34.1, x1, x2, q34.2.1, ta, q34.2.2.1, d, q34.2.2.2.1, pg, q34.2.2.2.2.1, q35.1, q34.2.2.2.2.2.1)) (st2 := [.int q35.2]) (ct_X7_runScript (l := g.2.1) (κ := gκ g) (T := (q34.1, x1, x2, q34.2.1, ta, q34.2.2.1, d, q34.2.2.2.1, pg, q34.2.2.2.2.1, m, q34.2.2.2.2.2.1)) (m := m)  hq35) cal_X7_runScript wM_L_152 wI_X7_runScript wS_X7_runScript rfl rfl (by decide) rfl rfl (Nat.le_of_ble_eq_true rfl) (XL.2.2.2 (by omega) (by omega)) dL_law_452 rfl ?_
  refine G_istore X (lv' := [(6, .int q35.2), (5, .int q34.2.2.2.2.2.2), (0, .ref b0), (1, .ref (xE (gκ g) 8 0 0)), (2, .ref (xE (gκ g) 9 0 0)), (3, .ref (xE (gκ g) 10 0 0)), (4, .int a4)]) dL_law_455 (by decide) rfl ?_
  refine G_aload_n X 4 dL_law_457 rfl rfl ?_
  obtain ⟨q36, hq36, h⟩ := bd_some h
  refine G_callV X (As := []) (rest := []) (T' := (q34.1, x1, x2, q34.2.1, ta, q34.2.2.1, d, q34.2.2.2.1, pg, q34.2.2.2.2.1, q35.1, q34.2.2.2.2.2.1)) (st2 := [.int q36]) (ct_X7_thrown (l := g.2.1) (κ := gκ g) (T := (q34.1, x1, x2, q34.2.1, ta, q34.2.2.1, d, q34.2.2.2.1, pg, q34.2.2.2.2.1, q35.1, q34.2.2.2.2.2.1)) (m := q35.1)  hq36) cal_X7_thrown wM_L_139 wI_X7_thrown wS_X7_thrown rfl rfl (by decide) rfl rfl (Nat.le_of_ble_eq_true rfl) (XL.2.2.2 (by omega) (by omega)) dL_law_458 rfl ?_
  refine G_iload X 1 dL_law_461 rfl ?_
  refine G_icmp_eq X (tgt := 468) dL_law_463 (by decide) (fun c37 => ?_) (fun c37 => ?_)
  · have h := it_t c37 h
    refine G_iload X 1 dL_law_468 rfl ?_
    refine G_if_ne X (tgt := 485) dL_law_470 (by decide) (fun c38 => ?_) (fun c38 => ?_)
    · have h := it_t c38 h
      refine G_goto X (tgt := 2666) dL_law_485 (by decide) ?_
      refine G_sub [2, 3, 4, 5, 6] rfl ?_
      exact hk _ _ _ (by omega) (by omega) h
    · have h := it_f (fun k => k c38) h
      refine G_aload_n X 5 dL_law_473 rfl rfl ?_
      refine G_iconst X (v := (0 : Int32)) dL_law_474 (by decide) ?_
      obtain ⟨g39, h⟩ := gd_some h
      refine G_lald X rfl rfl g39 dL_law_475 ?_
      refine G_iload X 0 dL_law_476 rfl ?_
      refine G_i2l X dL_law_478 ?_
      refine G_lcmp X dL_law_479 ?_
      refine G_if_eq X (tgt := 485) dL_law_480 (by decide) (fun c40 => ?_) (fun c40 => ?_)
      · have h := it_t c40 h
        refine G_goto X (tgt := 2666) dL_law_485 (by decide) ?_
        refine G_sub [2, 3, 4, 5, 6] rfl ?_
        exact hk _ _ _ (by omega) (by omega) h
      · have h := it_f c40 h
        refine G_iconst X (v := (0 : Int32)) dL_law_483 (by decide) ?_
        cases h
  · have h := it_f c37 h
    refine G_iconst X (v := (0 : Int32)) dL_law_466 (by decide) ?_
    cases h
set_option maxRecDepth 20000 in
theorem gL_c4 {g : GX} {a b b0 L : Nat} {xs : Nat → Int32} {k : TT → Option Int32} {x0 x1 x2 ta tb d S pg c m ot : St} {ps : Nat → St} {a4 : Int32} (X : CX g RL cL_law 9 14 538) (XL : XLaw g b0 L xs) (ha : a < 601024) (hb : b + 6 ≤ 7293034) (hk : ∀ (T1 : TT) (a1 b1 : Nat), a1 ≤ a + 1 → b1 ≤ b + 6 → k T1 = some 1 → G g a1 b1 T1 2666 [(0, .ref b0), (1, .ref (xE (gκ g) 8 0 0)), (2, .ref (xE (gκ g) 9 0 0)), (3, .ref (xE (gκ g) 10 0 0)), (4, .int a4)] []) (h : sL_c4 k xs L (x0, x1, x2, ps, ta, tb, d, S, pg, c, m, ot) a4 = some 1) : G g a b (x0, x1, x2, ps, ta, tb, d, S, pg, c, m, ot) 488 [(0, .ref b0), (1, .ref (xE (gκ g) 8 0 0)), (2, .ref (xE (gκ g) 9 0 0)), (3, .ref (xE (gκ g) 10 0 0)), (4, .int a4)] [] := by
  unfold sL_c4 at h
  dsimp only at h
  refine G_aload_n X 1 dL_law_488 rfl rfl ?_
  obtain ⟨q41, hq41, h⟩ := bd_some h
  refine G_callV X (As := []) (rest := []) (T' := (x0, x1, x2, ps, ta, tb, d, S, pg, c, m, ot)) (st2 := [.int q41]) (ct_X6_errorCode (l := g.2.1) (κ := gκ g)   hq41) cal_X6_errorCode wM_L_153 wI_X6_errorCode wS_X6_errorCode rfl rfl (by decide) rfl rfl (Nat.le_of_ble_eq_true rfl) (XL.2.2.2 (by omega) (by omega)) dL_law_489 rfl ?_
  refine G_aload_n X 2 dL_law_492 rfl rfl ?_
  obtain ⟨q42, hq42, h⟩ := bd_some h
  refine G_callV X (As := []) (rest := [.int q41]) (T' := (x0, x1, x2, ps, ta, tb, d, S, pg, c, q42.1, ot)) (st2 := [.int q42.2, .int q41]) (ct_X7_errorCode (l := g.2.1) (κ := gκ g) (T := (x0, x1, x2, ps, ta, tb, d, S, pg, c, m, ot)) (m := m)  hq42) cal_X7_errorCode wM_L_156 wI_X7_errorCode wS_X7_errorCode rfl rfl (by decide) rfl rfl (Nat.le_of_ble_eq_true rfl) (XL.2.2.2 (by omega) (by omega)) dL_law_493 rfl ?_
  refine G_icmp_eq X (tgt := 2666) dL_law_496 (by decide) (fun c43 => ?_) (fun c43 => ?_)
  · have h := it_t c43 h
    refine G_sub [0, 1, 2, 3, 4] rfl ?_
    exact hk _ _ _ (by omega) (by omega) h
  · have h := it_f c43 h
    refine G_iconst X (v := (0 : Int32)) dL_law_499 (by decide) ?_
    cases h
set_option maxRecDepth 20000 in
theorem gL_c5 {g : GX} {a b b0 L : Nat} {xs : Nat → Int32} {k : TT → Option Int32} {x0 x1 x2 ta tb d S pg c m ot : St} {ps : Nat → St} {a4 : Int32} (X : CX g RL cL_law 9 14 538) (XL : XLaw g b0 L xs) (ha : a < 601024) (hb : b + 6 ≤ 7293034) (hk : ∀ (T1 : TT) (a1 b1 : Nat), a1 ≤ a + 1 → b1 ≤ b + 6 → k T1 = some 1 → G g a1 b1 T1 2666 [(0, .ref b0), (1, .ref (xE (gκ g) 8 0 0)), (2, .ref (xE (gκ g) 9 0 0)), (3, .ref (xE (gκ g) 10 0 0)), (4, .int a4)] []) (h : sL_c5 k xs L (x0, x1, x2, ps, ta, tb, d, S, pg, c, m, ot) a4 = some 1) : G g a b (x0, x1, x2, ps, ta, tb, d, S, pg, c, m, ot) 501 [(0, .ref b0), (1, .ref (xE (gκ g) 8 0 0)), (2, .ref (xE (gκ g) 9 0 0)), (3, .ref (xE (gκ g) 10 0 0)), (4, .int a4)] [] := by
  unfold sL_c5 at h
  dsimp only at h
  refine G_aload_n X 1 dL_law_501 rfl rfl ?_
  obtain ⟨q44, hq44, h⟩ := bd_some h
  refine G_callV X (As := []) (rest := []) (T' := (x0, x1, x2, ps, ta, tb, d, S, pg, c, m, ot)) (st2 := [.int q44]) (ct_X6_errorPosition (l := g.2.1) (κ := gκ g)   hq44) cal_X6_errorPosition wM_L_157 wI_X6_errorPosition wS_X6_errorPosition rfl rfl (by decide) rfl rfl (Nat.le_of_ble_eq_true rfl) (XL.2.2.2 (by omega) (by omega)) dL_law_502 rfl ?_
  refine G_aload_n X 2 dL_law_505 rfl rfl ?_
  obtain ⟨q45, hq45, h⟩ := bd_some h
  refine G_callV X (As := []) (rest := [.int q44]) (T' := (x0, x1, x2, ps, ta, tb, d, S, pg, c, q45.1, ot)) (st2 := [.int q45.2, .int q44]) (ct_X7_errorPosition (l := g.2.1) (κ := gκ g) (T := (x0, x1, x2, ps, ta, tb, d, S, pg, c, m, ot)) (m := m)  hq45) cal_X7_errorPosition wM_L_160 wI_X7_errorPosition wS_X7_errorPosition rfl rfl (by decide) rfl rfl (Nat.le_of_ble_eq_true rfl) (XL.2.2.2 (by omega) (by omega)) dL_law_506 rfl ?_
  refine G_icmp_eq X (tgt := 2666) dL_law_509 (by decide) (fun c46 => ?_) (fun c46 => ?_)
  · have h := it_t c46 h
    refine G_sub [0, 1, 2, 3, 4] rfl ?_
    exact hk _ _ _ (by omega) (by omega) h
  · have h := it_f c46 h
    refine G_iconst X (v := (0 : Int32)) dL_law_512 (by decide) ?_
    cases h
set_option maxRecDepth 20000 in
theorem gL_c6 {g : GX} {a b b0 L : Nat} {xs : Nat → Int32} {k : TT → Option Int32} {x0 x1 x2 ta tb d S pg c m ot : St} {ps : Nat → St} {a4 : Int32} (X : CX g RL cL_law 9 14 538) (XL : XLaw g b0 L xs) (ha : a < 601024) (hb : b + 6 ≤ 7293034) (hk : ∀ (T1 : TT) (a1 b1 : Nat), a1 ≤ a + 1 → b1 ≤ b + 6 → k T1 = some 1 → G g a1 b1 T1 2666 [(0, .ref b0), (1, .ref (xE (gκ g) 8 0 0)), (2, .ref (xE (gκ g) 9 0 0)), (3, .ref (xE (gκ g) 10 0 0)), (4, .int a4)] []) (h : sL_c6 k xs L (x0, x1, x2, ps, ta, tb, d, S, pg, c, m, ot) a4 = some 1) : G g a b (x0, x1, x2, ps, ta, tb, d, S, pg, c, m, ot) 514 [(0, .ref b0), (1, .ref (xE (gκ g) 8 0 0)), (2, .ref (xE (gκ g) 9 0 0)), (3, .ref (xE (gκ g) 10 0 0)), (4, .int a4)] [] := by
  unfold sL_c6 at h
  dsimp only at h
  refine G_aload_n X 1 dL_law_514 rfl rfl ?_
  refine G_aload_n X 0 dL_law_515 rfl rfl ?_
  refine G_iload X 4 dL_law_516 rfl ?_
  refine G_iconst X (v := (1 : Int32)) dL_law_518 (by decide) ?_
  refine G_iadd X dL_law_519 ?_
  obtain ⟨g47, h⟩ := gd_some h
  refine G_sld X XL g47 dL_law_520 ?_
  refine G_aload_n X 3 dL_law_521 rfl rfl ?_
  obtain ⟨q48, hq48, h⟩ := bd_some h
  refine G_callW X XL (As := [.ref (xE (gκ g) 8 0 0), .int (xs (ix (a4 + ((1 : Int32))))), .ref (xE (gκ g) 10 0 0)]) (rest := []) (T' := (x0, x1, x2, ps, ta, tb, d, S, pg, c, m, q48.1)) (st2 := [.int q48.2]) (ct_L_setting (l := g.2.1) (κ := gκ g)   hq48) cal_L_setting wM_L_161 wT_L_setting (by decide) rfl rfl (Nat.le_of_ble_eq_true rfl) (by omega) (by omega) dL_law_522 rfl ?_
  refine G_istore X (lv' := [(5, .int q48.2), (0, .ref b0), (1, .ref (xE (gκ g) 8 0 0)), (2, .ref (xE (gκ g) 9 0 0)), (3, .ref (xE (gκ g) 10 0 0)), (4, .int a4)]) dL_law_525 (by decide) rfl ?_
  refine G_aload_n X 3 dL_law_527 rfl rfl ?_
  refine G_aload_n X 1 dL_law_528 rfl rfl ?_
  refine G_iload X 5 dL_law_529 rfl ?_
  refine G_iconst X (v := (1 : Int32)) dL_law_531 (by decide) ?_
  refine G_iadd X dL_law_532 ?_
  obtain ⟨g49, h⟩ := gd_some h
  refine G_sld X XL g49 dL_law_533 ?_
  obtain ⟨q50, hq50, h⟩ := bd_some h
  refine G_callV X (As := [.int (xs (ix (a4 + ((1 : Int32)))))]) (rest := []) (T' := (x0, x1, x2, ps, ta, tb, d, S, pg, c, q50.1, q48.1)) (st2 := [.int q50.2]) (ct_X7_setting (l := g.2.1) (κ := gκ g) (T := (x0, x1, x2, ps, ta, tb, d, S, pg, c, m, q48.1)) (m := m)  hq50) cal_X7_setting wM_L_163 wI_X7_setting wS_X7_setting rfl rfl (by decide) rfl rfl (Nat.le_of_ble_eq_true rfl) (XL.2.2.2 (by omega) (by omega)) dL_law_534 rfl ?_
  refine G_istore X (lv' := [(6, .int q50.2), (5, .int q48.2), (0, .ref b0), (1, .ref (xE (gκ g) 8 0 0)), (2, .ref (xE (gκ g) 9 0 0)), (3, .ref (xE (gκ g) 10 0 0)), (4, .int a4)]) dL_law_537 (by decide) rfl ?_
  refine G_aload_n X 4 dL_law_539 rfl rfl ?_
  obtain ⟨q51, hq51, h⟩ := bd_some h
  refine G_callV X (As := []) (rest := []) (T' := (x0, x1, x2, ps, ta, tb, d, S, pg, c, q50.1, q48.1)) (st2 := [.int q51]) (ct_X7_thrown (l := g.2.1) (κ := gκ g) (T := (x0, x1, x2, ps, ta, tb, d, S, pg, c, q50.1, q48.1)) (m := q50.1)  hq51) cal_X7_thrown wM_L_139 wI_X7_thrown wS_X7_thrown rfl rfl (by decide) rfl rfl (Nat.le_of_ble_eq_true rfl) (XL.2.2.2 (by omega) (by omega)) dL_law_540 rfl ?_
  refine G_iload X 1 dL_law_543 rfl ?_
  refine G_icmp_eq X (tgt := 550) dL_law_545 (by decide) (fun c52 => ?_) (fun c52 => ?_)
  · have h := it_t c52 h
    refine G_iload X 1 dL_law_550 rfl ?_
    refine G_if_ne X (tgt := 567) dL_law_552 (by decide) (fun c53 => ?_) (fun c53 => ?_)
    · have h := it_t c53 h
      refine G_goto X (tgt := 2666) dL_law_567 (by decide) ?_
      refine G_sub [2, 3, 4, 5, 6] rfl ?_
      exact hk _ _ _ (by omega) (by omega) h
    · have h := it_f (fun k => k c53) h
      refine G_aload_n X 5 dL_law_555 rfl rfl ?_
      refine G_iconst X (v := (0 : Int32)) dL_law_556 (by decide) ?_
      obtain ⟨g54, h⟩ := gd_some h
      refine G_lald X rfl rfl g54 dL_law_557 ?_
      refine G_iload X 0 dL_law_558 rfl ?_
      refine G_i2l X dL_law_560 ?_
      refine G_lcmp X dL_law_561 ?_
      refine G_if_eq X (tgt := 567) dL_law_562 (by decide) (fun c55 => ?_) (fun c55 => ?_)
      · have h := it_t c55 h
        refine G_goto X (tgt := 2666) dL_law_567 (by decide) ?_
        refine G_sub [2, 3, 4, 5, 6] rfl ?_
        exact hk _ _ _ (by omega) (by omega) h
      · have h := it_f c55 h
        refine G_iconst X (v := (0 : Int32)) dL_law_565 (by decide) ?_
        cases h
  · have h := it_f c52 h
    refine G_iconst X (v := (0 : Int32)) dL_law_548 (by decide) ?_
    cases h
set_option maxRecDepth 20000 in
theorem gL_c7 {g : GX} {a b b0 L : Nat} {xs : Nat → Int32} {k : TT → Option Int32} {x0 x1 x2 ta tb d S pg c m ot : St} {ps : Nat → St} {a4 : Int32} (X : CX g RL cL_law 9 14 538) (XL : XLaw g b0 L xs) (ha : a < 601024) (hb : b + 6 ≤ 7293034) (hk : ∀ (T1 : TT) (a1 b1 : Nat), a1 ≤ a + 1 → b1 ≤ b + 6 → k T1 = some 1 → G g a1 b1 T1 2666 [(0, .ref b0), (1, .ref (xE (gκ g) 8 0 0)), (2, .ref (xE (gκ g) 9 0 0)), (3, .ref (xE (gκ g) 10 0 0)), (4, .int a4)] []) (h : sL_c7 k xs L (x0, x1, x2, ps, ta, tb, d, S, pg, c, m, ot) a4 = some 1) : G g a b (x0, x1, x2, ps, ta, tb, d, S, pg, c, m, ot) 570 [(0, .ref b0), (1, .ref (xE (gκ g) 8 0 0)), (2, .ref (xE (gκ g) 9 0 0)), (3, .ref (xE (gκ g) 10 0 0)), (4, .int a4)] [] := by
  unfold sL_c7 at h
  dsimp only at h
  refine G_aload_n X 1 dL_law_570 rfl rfl ?_
  refine G_aload_n X 0 dL_law_571 rfl rfl ?_
  refine G_iload X 4 dL_law_572 rfl ?_
  refine G_iconst X (v := (1 : Int32)) dL_law_574 (by decide) ?_
  refine G_iadd X dL_law_575 ?_
  obtain ⟨g56, h⟩ := gd_some h
  refine G_sld X XL g56 dL_law_576 ?_
  refine G_aload_n X 0 dL_law_577 rfl rfl ?_
  refine G_iload X 4 dL_law_578 rfl ?_
  refine G_iconst X (v := (2 : Int32)) dL_law_580 (by decide) ?_
  refine G_iadd X dL_law_581 ?_
  obtain ⟨g57, h⟩ := gd_some h
  refine G_sld X XL g57 dL_law_582 ?_
  refine G_aload_n X 3 dL_law_583 rfl rfl ?_
  obtain ⟨q58, hq58, h⟩ := bd_some h
  refine G_callW X XL (As := [.ref (xE (gκ g) 8 0 0), .int (xs (ix (a4 + ((1 : Int32))))), .int (xs (ix (a4 + ((2 : Int32))))), .ref (xE (gκ g) 10 0 0)]) (rest := []) (T' := (x0, x1, x2, ps, ta, tb, d, S, pg, c, m, q58.1)) (st2 := [.int q58.2]) (ct_L_beacon (l := g.2.1) (κ := gκ g)   hq58) cal_L_beacon wM_L_164 wT_L_beacon (by decide) rfl rfl (Nat.le_of_ble_eq_true rfl) (by omega) (by omega) dL_law_584 rfl ?_
  refine G_istore X (lv' := [(5, .int q58.2), (0, .ref b0), (1, .ref (xE (gκ g) 8 0 0)), (2, .ref (xE (gκ g) 9 0 0)), (3, .ref (xE (gκ g) 10 0 0)), (4, .int a4)]) dL_law_587 (by decide) rfl ?_
  refine G_aload_n X 3 dL_law_589 rfl rfl ?_
  refine G_aload_n X 1 dL_law_590 rfl rfl ?_
  refine G_iload X 5 dL_law_591 rfl ?_
  refine G_iconst X (v := (1 : Int32)) dL_law_593 (by decide) ?_
  refine G_iadd X dL_law_594 ?_
  obtain ⟨g59, h⟩ := gd_some h
  refine G_sld X XL g59 dL_law_595 ?_
  refine G_aload_n X 1 dL_law_596 rfl rfl ?_
  refine G_iload X 5 dL_law_597 rfl ?_
  refine G_iconst X (v := (2 : Int32)) dL_law_599 (by decide) ?_
  refine G_iadd X dL_law_600 ?_
  obtain ⟨g60, h⟩ := gd_some h
  refine G_sld X XL g60 dL_law_601 ?_
  obtain ⟨q61, hq61, h⟩ := bd_some h
  refine G_callV X (As := [.int (xs (ix (a4 + ((1 : Int32))))), .int (xs (ix (a4 + ((2 : Int32)))))]) (rest := []) (T' := (x0, x1, x2, ps, ta, tb, d, S, pg, c, q61.1, q58.1)) (st2 := [.int q61.2]) (ct_X7_beacon (l := g.2.1) (κ := gκ g) (T := (x0, x1, x2, ps, ta, tb, d, S, pg, c, m, q58.1)) (m := m)  hq61) cal_X7_beacon wM_L_167 wI_X7_beacon wS_X7_beacon rfl rfl (by decide) rfl rfl (Nat.le_of_ble_eq_true rfl) (XL.2.2.2 (by omega) (by omega)) dL_law_602 rfl ?_
  refine G_istore X (lv' := [(6, .int q61.2), (5, .int q58.2), (0, .ref b0), (1, .ref (xE (gκ g) 8 0 0)), (2, .ref (xE (gκ g) 9 0 0)), (3, .ref (xE (gκ g) 10 0 0)), (4, .int a4)]) dL_law_605 (by decide) rfl ?_
  refine G_aload_n X 4 dL_law_607 rfl rfl ?_
  obtain ⟨q62, hq62, h⟩ := bd_some h
  refine G_callV X (As := []) (rest := []) (T' := (x0, x1, x2, ps, ta, tb, d, S, pg, c, q61.1, q58.1)) (st2 := [.int q62]) (ct_X7_thrown (l := g.2.1) (κ := gκ g) (T := (x0, x1, x2, ps, ta, tb, d, S, pg, c, q61.1, q58.1)) (m := q61.1)  hq62) cal_X7_thrown wM_L_139 wI_X7_thrown wS_X7_thrown rfl rfl (by decide) rfl rfl (Nat.le_of_ble_eq_true rfl) (XL.2.2.2 (by omega) (by omega)) dL_law_608 rfl ?_
  refine G_iload X 1 dL_law_611 rfl ?_
  refine G_icmp_eq X (tgt := 618) dL_law_613 (by decide) (fun c63 => ?_) (fun c63 => ?_)
  · have h := it_t c63 h
    refine G_iload X 1 dL_law_618 rfl ?_
    refine G_if_ne X (tgt := 635) dL_law_620 (by decide) (fun c64 => ?_) (fun c64 => ?_)
    · have h := it_t c64 h
      refine G_goto X (tgt := 2666) dL_law_635 (by decide) ?_
      refine G_sub [2, 3, 4, 5, 6] rfl ?_
      exact hk _ _ _ (by omega) (by omega) h
    · have h := it_f (fun k => k c64) h
      refine G_aload_n X 5 dL_law_623 rfl rfl ?_
      refine G_iconst X (v := (0 : Int32)) dL_law_624 (by decide) ?_
      obtain ⟨g65, h⟩ := gd_some h
      refine G_lald X rfl rfl g65 dL_law_625 ?_
      refine G_iload X 0 dL_law_626 rfl ?_
      refine G_i2l X dL_law_628 ?_
      refine G_lcmp X dL_law_629 ?_
      refine G_if_eq X (tgt := 635) dL_law_630 (by decide) (fun c66 => ?_) (fun c66 => ?_)
      · have h := it_t c66 h
        refine G_goto X (tgt := 2666) dL_law_635 (by decide) ?_
        refine G_sub [2, 3, 4, 5, 6] rfl ?_
        exact hk _ _ _ (by omega) (by omega) h
      · have h := it_f c66 h
        refine G_iconst X (v := (0 : Int32)) dL_law_633 (by decide) ?_
        cases h
  · have h := it_f c63 h
    refine G_iconst X (v := (0 : Int32)) dL_law_616 (by decide) ?_
    cases h
set_option maxRecDepth 20000 in
theorem gL_c8 {g : GX} {a b b0 L : Nat} {xs : Nat → Int32} {k : TT → Option Int32} {x0 x1 x2 ta tb d S pg c m ot : St} {ps : Nat → St} {a4 : Int32} (X : CX g RL cL_law 9 14 538) (XL : XLaw g b0 L xs) (ha : a < 601024) (hb : b + 6 ≤ 7293034) (hk : ∀ (T1 : TT) (a1 b1 : Nat), a1 ≤ a + 1 → b1 ≤ b + 6 → k T1 = some 1 → G g a1 b1 T1 2666 [(0, .ref b0), (1, .ref (xE (gκ g) 8 0 0)), (2, .ref (xE (gκ g) 9 0 0)), (3, .ref (xE (gκ g) 10 0 0)), (4, .int a4)] []) (h : sL_c8 k xs L (x0, x1, x2, ps, ta, tb, d, S, pg, c, m, ot) a4 = some 1) : G g a b (x0, x1, x2, ps, ta, tb, d, S, pg, c, m, ot) 638 [(0, .ref b0), (1, .ref (xE (gκ g) 8 0 0)), (2, .ref (xE (gκ g) 9 0 0)), (3, .ref (xE (gκ g) 10 0 0)), (4, .int a4)] [] := by
  unfold sL_c8 at h
  dsimp only at h
  refine G_aload_n X 1 dL_law_638 rfl rfl ?_
  refine G_aload_n X 0 dL_law_639 rfl rfl ?_
  refine G_iload X 4 dL_law_640 rfl ?_
  refine G_iconst X (v := (1 : Int32)) dL_law_642 (by decide) ?_
  refine G_iadd X dL_law_643 ?_
  obtain ⟨g67, h⟩ := gd_some h
  refine G_sld X XL g67 dL_law_644 ?_
  refine G_aload_n X 0 dL_law_645 rfl rfl ?_
  refine G_iload X 4 dL_law_646 rfl ?_
  refine G_iconst X (v := (2 : Int32)) dL_law_648 (by decide) ?_
  refine G_iadd X dL_law_649 ?_
  obtain ⟨g68, h⟩ := gd_some h
  refine G_sld X XL g68 dL_law_650 ?_
  refine G_aload_n X 3 dL_law_651 rfl rfl ?_
  obtain ⟨q69, hq69, h⟩ := bd_some h
  refine G_callW X XL (As := [.ref (xE (gκ g) 8 0 0), .int (xs (ix (a4 + ((1 : Int32))))), .int (xs (ix (a4 + ((2 : Int32))))), .ref (xE (gκ g) 10 0 0)]) (rest := []) (T' := (x0, x1, x2, ps, ta, tb, d, S, pg, c, m, q69.1)) (st2 := [.int q69.2]) (ct_L_slots (l := g.2.1) (κ := gκ g)   hq69) cal_L_slots wM_L_168 wT_L_slots (by decide) rfl rfl (Nat.le_of_ble_eq_true rfl) (by omega) (by omega) dL_law_652 rfl ?_
  refine G_istore X (lv' := [(5, .int q69.2), (0, .ref b0), (1, .ref (xE (gκ g) 8 0 0)), (2, .ref (xE (gκ g) 9 0 0)), (3, .ref (xE (gκ g) 10 0 0)), (4, .int a4)]) dL_law_655 (by decide) rfl ?_
  refine G_aload_n X 3 dL_law_657 rfl rfl ?_
  refine G_aload_n X 1 dL_law_658 rfl rfl ?_
  refine G_iload X 5 dL_law_659 rfl ?_
  refine G_iconst X (v := (1 : Int32)) dL_law_661 (by decide) ?_
  refine G_iadd X dL_law_662 ?_
  obtain ⟨g70, h⟩ := gd_some h
  refine G_sld X XL g70 dL_law_663 ?_
  refine G_aload_n X 1 dL_law_664 rfl rfl ?_
  refine G_iload X 5 dL_law_665 rfl ?_
  refine G_iconst X (v := (2 : Int32)) dL_law_667 (by decide) ?_
  refine G_iadd X dL_law_668 ?_
  obtain ⟨g71, h⟩ := gd_some h
  refine G_sld X XL g71 dL_law_669 ?_
  obtain ⟨q72, hq72, h⟩ := bd_some h
  refine G_callV X (As := [.int (xs (ix (a4 + ((1 : Int32))))), .int (xs (ix (a4 + ((2 : Int32)))))]) (rest := []) (T' := (x0, x1, x2, ps, ta, tb, d, S, pg, c, q72.1, q69.1)) (st2 := [.int q72.2]) (ct_X7_slots (l := g.2.1) (κ := gκ g) (T := (x0, x1, x2, ps, ta, tb, d, S, pg, c, m, q69.1)) (m := m)  hq72) cal_X7_slots wM_L_170 wI_X7_slots wS_X7_slots rfl rfl (by decide) rfl rfl (Nat.le_of_ble_eq_true rfl) (XL.2.2.2 (by omega) (by omega)) dL_law_670 rfl ?_
  refine G_istore X (lv' := [(6, .int q72.2), (5, .int q69.2), (0, .ref b0), (1, .ref (xE (gκ g) 8 0 0)), (2, .ref (xE (gκ g) 9 0 0)), (3, .ref (xE (gκ g) 10 0 0)), (4, .int a4)]) dL_law_673 (by decide) rfl ?_
  refine G_aload_n X 4 dL_law_675 rfl rfl ?_
  obtain ⟨q73, hq73, h⟩ := bd_some h
  refine G_callV X (As := []) (rest := []) (T' := (x0, x1, x2, ps, ta, tb, d, S, pg, c, q72.1, q69.1)) (st2 := [.int q73]) (ct_X7_thrown (l := g.2.1) (κ := gκ g) (T := (x0, x1, x2, ps, ta, tb, d, S, pg, c, q72.1, q69.1)) (m := q72.1)  hq73) cal_X7_thrown wM_L_139 wI_X7_thrown wS_X7_thrown rfl rfl (by decide) rfl rfl (Nat.le_of_ble_eq_true rfl) (XL.2.2.2 (by omega) (by omega)) dL_law_676 rfl ?_
  refine G_iload X 1 dL_law_679 rfl ?_
  refine G_icmp_eq X (tgt := 686) dL_law_681 (by decide) (fun c74 => ?_) (fun c74 => ?_)
  · have h := it_t c74 h
    refine G_iload X 1 dL_law_686 rfl ?_
    refine G_if_ne X (tgt := 703) dL_law_688 (by decide) (fun c75 => ?_) (fun c75 => ?_)
    · have h := it_t c75 h
      refine G_goto X (tgt := 2666) dL_law_703 (by decide) ?_
      refine G_sub [2, 3, 4, 5, 6] rfl ?_
      exact hk _ _ _ (by omega) (by omega) h
    · have h := it_f (fun k => k c75) h
      refine G_aload_n X 5 dL_law_691 rfl rfl ?_
      refine G_iconst X (v := (0 : Int32)) dL_law_692 (by decide) ?_
      obtain ⟨g76, h⟩ := gd_some h
      refine G_lald X rfl rfl g76 dL_law_693 ?_
      refine G_iload X 0 dL_law_694 rfl ?_
      refine G_i2l X dL_law_696 ?_
      refine G_lcmp X dL_law_697 ?_
      refine G_if_eq X (tgt := 703) dL_law_698 (by decide) (fun c77 => ?_) (fun c77 => ?_)
      · have h := it_t c77 h
        refine G_goto X (tgt := 2666) dL_law_703 (by decide) ?_
        refine G_sub [2, 3, 4, 5, 6] rfl ?_
        exact hk _ _ _ (by omega) (by omega) h
      · have h := it_f c77 h
        refine G_iconst X (v := (0 : Int32)) dL_law_701 (by decide) ?_
        cases h
  · have h := it_f c74 h
    refine G_iconst X (v := (0 : Int32)) dL_law_684 (by decide) ?_
    cases h
set_option maxRecDepth 20000 in
theorem gL_c9 {g : GX} {a b b0 L : Nat} {xs : Nat → Int32} {k : TT → Option Int32} {x0 x1 x2 ta tb d S pg c m ot : St} {ps : Nat → St} {a4 : Int32} (X : CX g RL cL_law 9 14 538) (XL : XLaw g b0 L xs) (ha : a < 601024) (hb : b + 6 ≤ 7293034) (hk : ∀ (T1 : TT) (a1 b1 : Nat), a1 ≤ a + 1 → b1 ≤ b + 6 → k T1 = some 1 → G g a1 b1 T1 2666 [(0, .ref b0), (1, .ref (xE (gκ g) 8 0 0)), (2, .ref (xE (gκ g) 9 0 0)), (3, .ref (xE (gκ g) 10 0 0)), (4, .int a4)] []) (h : sL_c9 k xs L (x0, x1, x2, ps, ta, tb, d, S, pg, c, m, ot) a4 = some 1) : G g a b (x0, x1, x2, ps, ta, tb, d, S, pg, c, m, ot) 706 [(0, .ref b0), (1, .ref (xE (gκ g) 8 0 0)), (2, .ref (xE (gκ g) 9 0 0)), (3, .ref (xE (gκ g) 10 0 0)), (4, .int a4)] [] := by
  unfold sL_c9 at h
  dsimp only at h
  refine G_aload_n X 1 dL_law_706 rfl rfl ?_
  refine G_aload_n X 0 dL_law_707 rfl rfl ?_
  refine G_iload X 4 dL_law_708 rfl ?_
  refine G_iconst X (v := (1 : Int32)) dL_law_710 (by decide) ?_
  refine G_iadd X dL_law_711 ?_
  obtain ⟨g78, h⟩ := gd_some h
  refine G_sld X XL g78 dL_law_712 ?_
  refine G_aload_n X 3 dL_law_713 rfl rfl ?_
  obtain ⟨q79, hq79, h⟩ := bd_some h
  refine G_callW X XL (As := [.ref (xE (gκ g) 8 0 0), .int (xs (ix (a4 + ((1 : Int32))))), .ref (xE (gκ g) 10 0 0)]) (rest := []) (T' := (x0, x1, x2, ps, ta, tb, d, S, pg, c, m, q79.1)) (st2 := [.int q79.2]) (ct_L_reckoned (l := g.2.1) (κ := gκ g)   hq79) cal_L_reckoned wM_L_171 wT_L_reckoned (by decide) rfl rfl (Nat.le_of_ble_eq_true rfl) (by omega) (by omega) dL_law_714 rfl ?_
  refine G_istore X (lv' := [(5, .int q79.2), (0, .ref b0), (1, .ref (xE (gκ g) 8 0 0)), (2, .ref (xE (gκ g) 9 0 0)), (3, .ref (xE (gκ g) 10 0 0)), (4, .int a4)]) dL_law_717 (by decide) rfl ?_
  refine G_aload_n X 3 dL_law_719 rfl rfl ?_
  refine G_aload_n X 1 dL_law_720 rfl rfl ?_
  refine G_iload X 5 dL_law_721 rfl ?_
  refine G_iconst X (v := (1 : Int32)) dL_law_723 (by decide) ?_
  refine G_iadd X dL_law_724 ?_
  obtain ⟨g80, h⟩ := gd_some h
  refine G_sld X XL g80 dL_law_725 ?_
  obtain ⟨q81, hq81, h⟩ := bd_some h
  refine G_callV X (As := [.int (xs (ix (a4 + ((1 : Int32)))))]) (rest := []) (T' := (x0, x1, x2, ps, ta, tb, d, S, pg, c, q81.1, q79.1)) (st2 := [.int q81.2]) (ct_X7_reckoned (l := g.2.1) (κ := gκ g) (T := (x0, x1, x2, ps, ta, tb, d, S, pg, c, m, q79.1)) (m := m)  hq81) cal_X7_reckoned wM_L_173 wI_X7_reckoned wS_X7_reckoned rfl rfl (by decide) rfl rfl (Nat.le_of_ble_eq_true rfl) (XL.2.2.2 (by omega) (by omega)) dL_law_726 rfl ?_
  refine G_istore X (lv' := [(6, .int q81.2), (5, .int q79.2), (0, .ref b0), (1, .ref (xE (gκ g) 8 0 0)), (2, .ref (xE (gκ g) 9 0 0)), (3, .ref (xE (gκ g) 10 0 0)), (4, .int a4)]) dL_law_729 (by decide) rfl ?_
  refine G_aload_n X 4 dL_law_731 rfl rfl ?_
  obtain ⟨q82, hq82, h⟩ := bd_some h
  refine G_callV X (As := []) (rest := []) (T' := (x0, x1, x2, ps, ta, tb, d, S, pg, c, q81.1, q79.1)) (st2 := [.int q82]) (ct_X7_thrown (l := g.2.1) (κ := gκ g) (T := (x0, x1, x2, ps, ta, tb, d, S, pg, c, q81.1, q79.1)) (m := q81.1)  hq82) cal_X7_thrown wM_L_139 wI_X7_thrown wS_X7_thrown rfl rfl (by decide) rfl rfl (Nat.le_of_ble_eq_true rfl) (XL.2.2.2 (by omega) (by omega)) dL_law_732 rfl ?_
  refine G_iload X 1 dL_law_735 rfl ?_
  refine G_icmp_eq X (tgt := 742) dL_law_737 (by decide) (fun c83 => ?_) (fun c83 => ?_)
  · have h := it_t c83 h
    refine G_iload X 1 dL_law_742 rfl ?_
    refine G_if_ne X (tgt := 759) dL_law_744 (by decide) (fun c84 => ?_) (fun c84 => ?_)
    · have h := it_t c84 h
      refine G_goto X (tgt := 2666) dL_law_759 (by decide) ?_
      refine G_sub [2, 3, 4, 5, 6] rfl ?_
      exact hk _ _ _ (by omega) (by omega) h
    · have h := it_f (fun k => k c84) h
      refine G_aload_n X 5 dL_law_747 rfl rfl ?_
      refine G_iconst X (v := (0 : Int32)) dL_law_748 (by decide) ?_
      obtain ⟨g85, h⟩ := gd_some h
      refine G_lald X rfl rfl g85 dL_law_749 ?_
      refine G_iload X 0 dL_law_750 rfl ?_
      refine G_i2l X dL_law_752 ?_
      refine G_lcmp X dL_law_753 ?_
      refine G_if_eq X (tgt := 759) dL_law_754 (by decide) (fun c86 => ?_) (fun c86 => ?_)
      · have h := it_t c86 h
        refine G_goto X (tgt := 2666) dL_law_759 (by decide) ?_
        refine G_sub [2, 3, 4, 5, 6] rfl ?_
        exact hk _ _ _ (by omega) (by omega) h
      · have h := it_f c86 h
        refine G_iconst X (v := (0 : Int32)) dL_law_757 (by decide) ?_
        cases h
  · have h := it_f c83 h
    refine G_iconst X (v := (0 : Int32)) dL_law_740 (by decide) ?_
    cases h
set_option maxRecDepth 20000 in
theorem gL_c10 {g : GX} {a b b0 L : Nat} {xs : Nat → Int32} {k : TT → Option Int32} {x0 x1 x2 ta tb d S pg c m ot : St} {ps : Nat → St} {a4 : Int32} (X : CX g RL cL_law 9 14 538) (XL : XLaw g b0 L xs) (ha : a < 601024) (hb : b + 6 ≤ 7293034) (hk : ∀ (T1 : TT) (a1 b1 : Nat), a1 ≤ a + 1 → b1 ≤ b + 6 → k T1 = some 1 → G g a1 b1 T1 2666 [(0, .ref b0), (1, .ref (xE (gκ g) 8 0 0)), (2, .ref (xE (gκ g) 9 0 0)), (3, .ref (xE (gκ g) 10 0 0)), (4, .int a4)] []) (h : sL_c10 k xs L (x0, x1, x2, ps, ta, tb, d, S, pg, c, m, ot) a4 = some 1) : G g a b (x0, x1, x2, ps, ta, tb, d, S, pg, c, m, ot) 762 [(0, .ref b0), (1, .ref (xE (gκ g) 8 0 0)), (2, .ref (xE (gκ g) 9 0 0)), (3, .ref (xE (gκ g) 10 0 0)), (4, .int a4)] [] := by
  unfold sL_c10 at h
  dsimp only at h
  refine G_aload_n X 1 dL_law_762 rfl rfl ?_
  refine G_aload_n X 0 dL_law_763 rfl rfl ?_
  refine G_iload X 4 dL_law_764 rfl ?_
  refine G_iconst X (v := (1 : Int32)) dL_law_766 (by decide) ?_
  refine G_iadd X dL_law_767 ?_
  obtain ⟨g87, h⟩ := gd_some h
  refine G_sld X XL g87 dL_law_768 ?_
  refine G_aload_n X 0 dL_law_769 rfl rfl ?_
  refine G_iload X 4 dL_law_770 rfl ?_
  refine G_iconst X (v := (2 : Int32)) dL_law_772 (by decide) ?_
  refine G_iadd X dL_law_773 ?_
  obtain ⟨g88, h⟩ := gd_some h
  refine G_sld X XL g88 dL_law_774 ?_
  refine G_aload_n X 3 dL_law_775 rfl rfl ?_
  obtain ⟨q89, hq89, h⟩ := bd_some h
  refine G_callW X XL (As := [.ref (xE (gκ g) 8 0 0), .int (xs (ix (a4 + ((1 : Int32))))), .int (xs (ix (a4 + ((2 : Int32))))), .ref (xE (gκ g) 10 0 0)]) (rest := []) (T' := (x0, x1, x2, ps, ta, tb, d, S, pg, c, m, q89.1)) (st2 := [.int q89.2]) (ct_L_letter (l := g.2.1) (κ := gκ g)   hq89) cal_L_letter wM_L_174 wT_L_letter (by decide) rfl rfl (Nat.le_of_ble_eq_true rfl) (by omega) (by omega) dL_law_776 rfl ?_
  refine G_istore X (lv' := [(5, .int q89.2), (0, .ref b0), (1, .ref (xE (gκ g) 8 0 0)), (2, .ref (xE (gκ g) 9 0 0)), (3, .ref (xE (gκ g) 10 0 0)), (4, .int a4)]) dL_law_779 (by decide) rfl ?_
  refine G_aload_n X 3 dL_law_781 rfl rfl ?_
  refine G_aload_n X 1 dL_law_782 rfl rfl ?_
  refine G_iload X 5 dL_law_783 rfl ?_
  refine G_iconst X (v := (1 : Int32)) dL_law_785 (by decide) ?_
  refine G_iadd X dL_law_786 ?_
  obtain ⟨g90, h⟩ := gd_some h
  refine G_sld X XL g90 dL_law_787 ?_
  refine G_aload_n X 1 dL_law_788 rfl rfl ?_
  refine G_iload X 5 dL_law_789 rfl ?_
  refine G_iconst X (v := (2 : Int32)) dL_law_791 (by decide) ?_
  refine G_iadd X dL_law_792 ?_
  obtain ⟨g91, h⟩ := gd_some h
  refine G_sld X XL g91 dL_law_793 ?_
  obtain ⟨q92, hq92, h⟩ := bd_some h
  refine G_callV X (As := [.int (xs (ix (a4 + ((1 : Int32))))), .int (xs (ix (a4 + ((2 : Int32)))))]) (rest := []) (T' := (x0, x1, x2, ps, ta, tb, d, S, pg, c, q92.1, q89.1)) (st2 := [.int q92.2]) (ct_X7_letter (l := g.2.1) (κ := gκ g) (T := (x0, x1, x2, ps, ta, tb, d, S, pg, c, m, q89.1)) (m := m)  hq92) cal_X7_letter wM_L_176 wI_X7_letter wS_X7_letter rfl rfl (by decide) rfl rfl (Nat.le_of_ble_eq_true rfl) (XL.2.2.2 (by omega) (by omega)) dL_law_794 rfl ?_
  refine G_istore X (lv' := [(6, .int q92.2), (5, .int q89.2), (0, .ref b0), (1, .ref (xE (gκ g) 8 0 0)), (2, .ref (xE (gκ g) 9 0 0)), (3, .ref (xE (gκ g) 10 0 0)), (4, .int a4)]) dL_law_797 (by decide) rfl ?_
  refine G_aload_n X 4 dL_law_799 rfl rfl ?_
  obtain ⟨q93, hq93, h⟩ := bd_some h
  refine G_callV X (As := []) (rest := []) (T' := (x0, x1, x2, ps, ta, tb, d, S, pg, c, q92.1, q89.1)) (st2 := [.int q93]) (ct_X7_thrown (l := g.2.1) (κ := gκ g) (T := (x0, x1, x2, ps, ta, tb, d, S, pg, c, q92.1, q89.1)) (m := q92.1)  hq93) cal_X7_thrown wM_L_139 wI_X7_thrown wS_X7_thrown rfl rfl (by decide) rfl rfl (Nat.le_of_ble_eq_true rfl) (XL.2.2.2 (by omega) (by omega)) dL_law_800 rfl ?_
  refine G_iload X 1 dL_law_803 rfl ?_
  refine G_icmp_eq X (tgt := 810) dL_law_805 (by decide) (fun c94 => ?_) (fun c94 => ?_)
  · have h := it_t c94 h
    refine G_iload X 1 dL_law_810 rfl ?_
    refine G_if_ne X (tgt := 827) dL_law_812 (by decide) (fun c95 => ?_) (fun c95 => ?_)
    · have h := it_t c95 h
      refine G_goto X (tgt := 2666) dL_law_827 (by decide) ?_
      refine G_sub [2, 3, 4, 5, 6] rfl ?_
      exact hk _ _ _ (by omega) (by omega) h
    · have h := it_f (fun k => k c95) h
      refine G_aload_n X 5 dL_law_815 rfl rfl ?_
      refine G_iconst X (v := (0 : Int32)) dL_law_816 (by decide) ?_
      obtain ⟨g96, h⟩ := gd_some h
      refine G_lald X rfl rfl g96 dL_law_817 ?_
      refine G_iload X 0 dL_law_818 rfl ?_
      refine G_i2l X dL_law_820 ?_
      refine G_lcmp X dL_law_821 ?_
      refine G_if_eq X (tgt := 827) dL_law_822 (by decide) (fun c97 => ?_) (fun c97 => ?_)
      · have h := it_t c97 h
        refine G_goto X (tgt := 2666) dL_law_827 (by decide) ?_
        refine G_sub [2, 3, 4, 5, 6] rfl ?_
        exact hk _ _ _ (by omega) (by omega) h
      · have h := it_f c97 h
        refine G_iconst X (v := (0 : Int32)) dL_law_825 (by decide) ?_
        cases h
  · have h := it_f c94 h
    refine G_iconst X (v := (0 : Int32)) dL_law_808 (by decide) ?_
    cases h
set_option maxRecDepth 20000 in
theorem gL_c11 {g : GX} {a b b0 L : Nat} {xs : Nat → Int32} {k : TT → Option Int32} {x0 x1 x2 ta tb d S pg c m ot : St} {ps : Nat → St} {a4 : Int32} (X : CX g RL cL_law 9 14 538) (XL : XLaw g b0 L xs) (ha : a < 601024) (hb : b + 6 ≤ 7293034) (hk : ∀ (T1 : TT) (a1 b1 : Nat), a1 ≤ a + 1 → b1 ≤ b + 6 → k T1 = some 1 → G g a1 b1 T1 2666 [(0, .ref b0), (1, .ref (xE (gκ g) 8 0 0)), (2, .ref (xE (gκ g) 9 0 0)), (3, .ref (xE (gκ g) 10 0 0)), (4, .int a4)] []) (h : sL_c11 k xs L (x0, x1, x2, ps, ta, tb, d, S, pg, c, m, ot) a4 = some 1) : G g a b (x0, x1, x2, ps, ta, tb, d, S, pg, c, m, ot) 830 [(0, .ref b0), (1, .ref (xE (gκ g) 8 0 0)), (2, .ref (xE (gκ g) 9 0 0)), (3, .ref (xE (gκ g) 10 0 0)), (4, .int a4)] [] := by
  unfold sL_c11 at h
  dsimp only at h
  refine G_aload_n X 1 dL_law_830 rfl rfl ?_
  refine G_aload_n X 0 dL_law_831 rfl rfl ?_
  refine G_iload X 4 dL_law_832 rfl ?_
  refine G_iconst X (v := (1 : Int32)) dL_law_834 (by decide) ?_
  refine G_iadd X dL_law_835 ?_
  obtain ⟨g98, h⟩ := gd_some h
  refine G_sld X XL g98 dL_law_836 ?_
  refine G_aload_n X 0 dL_law_837 rfl rfl ?_
  refine G_iload X 4 dL_law_838 rfl ?_
  refine G_iconst X (v := (2 : Int32)) dL_law_840 (by decide) ?_
  refine G_iadd X dL_law_841 ?_
  obtain ⟨g99, h⟩ := gd_some h
  refine G_sld X XL g99 dL_law_842 ?_
  refine G_aload_n X 3 dL_law_843 rfl rfl ?_
  obtain ⟨q100, hq100, h⟩ := bd_some h
  refine G_callW X XL (As := [.ref (xE (gκ g) 8 0 0), .int (xs (ix (a4 + ((1 : Int32))))), .int (xs (ix (a4 + ((2 : Int32))))), .ref (xE (gκ g) 10 0 0)]) (rest := []) (T' := (x0, x1, x2, ps, ta, tb, d, S, pg, c, m, q100.1)) (st2 := [.int q100.2]) (ct_L_heard (l := g.2.1) (κ := gκ g)   hq100) cal_L_heard wM_L_177 wT_L_heard (by decide) rfl rfl (Nat.le_of_ble_eq_true rfl) (by omega) (by omega) dL_law_844 rfl ?_
  refine G_istore X (lv' := [(5, .int q100.2), (0, .ref b0), (1, .ref (xE (gκ g) 8 0 0)), (2, .ref (xE (gκ g) 9 0 0)), (3, .ref (xE (gκ g) 10 0 0)), (4, .int a4)]) dL_law_847 (by decide) rfl ?_
  refine G_aload_n X 3 dL_law_849 rfl rfl ?_
  refine G_aload_n X 1 dL_law_850 rfl rfl ?_
  refine G_iload X 5 dL_law_851 rfl ?_
  refine G_iconst X (v := (1 : Int32)) dL_law_853 (by decide) ?_
  refine G_iadd X dL_law_854 ?_
  obtain ⟨g101, h⟩ := gd_some h
  refine G_sld X XL g101 dL_law_855 ?_
  refine G_aload_n X 1 dL_law_856 rfl rfl ?_
  refine G_iload X 5 dL_law_857 rfl ?_
  refine G_iconst X (v := (2 : Int32)) dL_law_859 (by decide) ?_
  refine G_iadd X dL_law_860 ?_
  obtain ⟨g102, h⟩ := gd_some h
  refine G_sld X XL g102 dL_law_861 ?_
  obtain ⟨q103, hq103, h⟩ := bd_some h
  refine G_callV X (As := [.int (xs (ix (a4 + ((1 : Int32))))), .int (xs (ix (a4 + ((2 : Int32)))))]) (rest := []) (T' := (x0, x1, x2, ps, ta, tb, d, S, pg, c, q103.1, q100.1)) (st2 := [.int q103.2]) (ct_X7_heard (l := g.2.1) (κ := gκ g) (T := (x0, x1, x2, ps, ta, tb, d, S, pg, c, m, q100.1)) (m := m)  hq103) cal_X7_heard wM_L_179 wI_X7_heard wS_X7_heard rfl rfl (by decide) rfl rfl (Nat.le_of_ble_eq_true rfl) (XL.2.2.2 (by omega) (by omega)) dL_law_862 rfl ?_
  refine G_istore X (lv' := [(6, .int q103.2), (5, .int q100.2), (0, .ref b0), (1, .ref (xE (gκ g) 8 0 0)), (2, .ref (xE (gκ g) 9 0 0)), (3, .ref (xE (gκ g) 10 0 0)), (4, .int a4)]) dL_law_865 (by decide) rfl ?_
  refine G_aload_n X 4 dL_law_867 rfl rfl ?_
  obtain ⟨q104, hq104, h⟩ := bd_some h
  refine G_callV X (As := []) (rest := []) (T' := (x0, x1, x2, ps, ta, tb, d, S, pg, c, q103.1, q100.1)) (st2 := [.int q104]) (ct_X7_thrown (l := g.2.1) (κ := gκ g) (T := (x0, x1, x2, ps, ta, tb, d, S, pg, c, q103.1, q100.1)) (m := q103.1)  hq104) cal_X7_thrown wM_L_139 wI_X7_thrown wS_X7_thrown rfl rfl (by decide) rfl rfl (Nat.le_of_ble_eq_true rfl) (XL.2.2.2 (by omega) (by omega)) dL_law_868 rfl ?_
  refine G_iload X 1 dL_law_871 rfl ?_
  refine G_icmp_eq X (tgt := 878) dL_law_873 (by decide) (fun c105 => ?_) (fun c105 => ?_)
  · have h := it_t c105 h
    refine G_iload X 1 dL_law_878 rfl ?_
    refine G_if_ne X (tgt := 895) dL_law_880 (by decide) (fun c106 => ?_) (fun c106 => ?_)
    · have h := it_t c106 h
      refine G_goto X (tgt := 2666) dL_law_895 (by decide) ?_
      refine G_sub [2, 3, 4, 5, 6] rfl ?_
      exact hk _ _ _ (by omega) (by omega) h
    · have h := it_f (fun k => k c106) h
      refine G_aload_n X 5 dL_law_883 rfl rfl ?_
      refine G_iconst X (v := (0 : Int32)) dL_law_884 (by decide) ?_
      obtain ⟨g107, h⟩ := gd_some h
      refine G_lald X rfl rfl g107 dL_law_885 ?_
      refine G_iload X 0 dL_law_886 rfl ?_
      refine G_i2l X dL_law_888 ?_
      refine G_lcmp X dL_law_889 ?_
      refine G_if_eq X (tgt := 895) dL_law_890 (by decide) (fun c108 => ?_) (fun c108 => ?_)
      · have h := it_t c108 h
        refine G_goto X (tgt := 2666) dL_law_895 (by decide) ?_
        refine G_sub [2, 3, 4, 5, 6] rfl ?_
        exact hk _ _ _ (by omega) (by omega) h
      · have h := it_f c108 h
        refine G_iconst X (v := (0 : Int32)) dL_law_893 (by decide) ?_
        cases h
  · have h := it_f c105 h
    refine G_iconst X (v := (0 : Int32)) dL_law_876 (by decide) ?_
    cases h
set_option maxRecDepth 20000 in
theorem gL_c12 {g : GX} {a b b0 L : Nat} {xs : Nat → Int32} {k : TT → Option Int32} {x0 x1 x2 ta tb d S pg c m ot : St} {ps : Nat → St} {a4 : Int32} (X : CX g RL cL_law 9 14 538) (XL : XLaw g b0 L xs) (ha : a < 601024) (hb : b + 6 ≤ 7293034) (hk : ∀ (T1 : TT) (a1 b1 : Nat), a1 ≤ a + 1 → b1 ≤ b + 6 → k T1 = some 1 → G g a1 b1 T1 2666 [(0, .ref b0), (1, .ref (xE (gκ g) 8 0 0)), (2, .ref (xE (gκ g) 9 0 0)), (3, .ref (xE (gκ g) 10 0 0)), (4, .int a4)] []) (h : sL_c12 k xs L (x0, x1, x2, ps, ta, tb, d, S, pg, c, m, ot) a4 = some 1) : G g a b (x0, x1, x2, ps, ta, tb, d, S, pg, c, m, ot) 898 [(0, .ref b0), (1, .ref (xE (gκ g) 8 0 0)), (2, .ref (xE (gκ g) 9 0 0)), (3, .ref (xE (gκ g) 10 0 0)), (4, .int a4)] [] := by
  unfold sL_c12 at h
  dsimp only at h
  refine G_aload_n X 1 dL_law_898 rfl rfl ?_
  refine G_aload_n X 0 dL_law_899 rfl rfl ?_
  refine G_iload X 4 dL_law_900 rfl ?_
  refine G_iconst X (v := (1 : Int32)) dL_law_902 (by decide) ?_
  refine G_iadd X dL_law_903 ?_
  obtain ⟨g109, h⟩ := gd_some h
  refine G_sld X XL g109 dL_law_904 ?_
  refine G_aload_n X 0 dL_law_905 rfl rfl ?_
  refine G_iload X 4 dL_law_906 rfl ?_
  refine G_iconst X (v := (2 : Int32)) dL_law_908 (by decide) ?_
  refine G_iadd X dL_law_909 ?_
  obtain ⟨g110, h⟩ := gd_some h
  refine G_sld X XL g110 dL_law_910 ?_
  refine G_aload_n X 3 dL_law_911 rfl rfl ?_
  obtain ⟨q111, hq111, h⟩ := bd_some h
  refine G_callW X XL (As := [.ref (xE (gκ g) 8 0 0), .int (xs (ix (a4 + ((1 : Int32))))), .int (xs (ix (a4 + ((2 : Int32))))), .ref (xE (gκ g) 10 0 0)]) (rest := []) (T' := (x0, x1, x2, ps, ta, tb, d, S, pg, c, m, q111.1)) (st2 := [.int q111.2]) (ct_L_knows (l := g.2.1) (κ := gκ g)   hq111) cal_L_knows wM_L_180 wT_L_knows (by decide) rfl rfl (Nat.le_of_ble_eq_true rfl) (by omega) (by omega) dL_law_912 rfl ?_
  refine G_istore X (lv' := [(5, .int q111.2), (0, .ref b0), (1, .ref (xE (gκ g) 8 0 0)), (2, .ref (xE (gκ g) 9 0 0)), (3, .ref (xE (gκ g) 10 0 0)), (4, .int a4)]) dL_law_915 (by decide) rfl ?_
  refine G_aload_n X 3 dL_law_917 rfl rfl ?_
  refine G_aload_n X 1 dL_law_918 rfl rfl ?_
  refine G_iload X 5 dL_law_919 rfl ?_
  refine G_iconst X (v := (1 : Int32)) dL_law_921 (by decide) ?_
  refine G_iadd X dL_law_922 ?_
  obtain ⟨g112, h⟩ := gd_some h
  refine G_sld X XL g112 dL_law_923 ?_
  refine G_aload_n X 1 dL_law_924 rfl rfl ?_
  refine G_iload X 5 dL_law_925 rfl ?_
  refine G_iconst X (v := (2 : Int32)) dL_law_927 (by decide) ?_
  refine G_iadd X dL_law_928 ?_
  obtain ⟨g113, h⟩ := gd_some h
  refine G_sld X XL g113 dL_law_929 ?_
  obtain ⟨q114, hq114, h⟩ := bd_some h
  refine G_callV X (As := [.int (xs (ix (a4 + ((1 : Int32))))), .int (xs (ix (a4 + ((2 : Int32)))))]) (rest := []) (T' := (x0, x1, x2, ps, ta, tb, d, S, pg, c, q114.1, q111.1)) (st2 := [.int q114.2]) (ct_X7_knows (l := g.2.1) (κ := gκ g) (T := (x0, x1, x2, ps, ta, tb, d, S, pg, c, m, q111.1)) (m := m)  hq114) cal_X7_knows wM_L_182 wI_X7_knows wS_X7_knows rfl rfl (by decide) rfl rfl (Nat.le_of_ble_eq_true rfl) (XL.2.2.2 (by omega) (by omega)) dL_law_930 rfl ?_
  refine G_istore X (lv' := [(6, .int q114.2), (5, .int q111.2), (0, .ref b0), (1, .ref (xE (gκ g) 8 0 0)), (2, .ref (xE (gκ g) 9 0 0)), (3, .ref (xE (gκ g) 10 0 0)), (4, .int a4)]) dL_law_933 (by decide) rfl ?_
  refine G_aload_n X 4 dL_law_935 rfl rfl ?_
  obtain ⟨q115, hq115, h⟩ := bd_some h
  refine G_callV X (As := []) (rest := []) (T' := (x0, x1, x2, ps, ta, tb, d, S, pg, c, q114.1, q111.1)) (st2 := [.int q115]) (ct_X7_thrown (l := g.2.1) (κ := gκ g) (T := (x0, x1, x2, ps, ta, tb, d, S, pg, c, q114.1, q111.1)) (m := q114.1)  hq115) cal_X7_thrown wM_L_139 wI_X7_thrown wS_X7_thrown rfl rfl (by decide) rfl rfl (Nat.le_of_ble_eq_true rfl) (XL.2.2.2 (by omega) (by omega)) dL_law_936 rfl ?_
  refine G_iload X 1 dL_law_939 rfl ?_
  refine G_icmp_eq X (tgt := 946) dL_law_941 (by decide) (fun c116 => ?_) (fun c116 => ?_)
  · have h := it_t c116 h
    refine G_iload X 1 dL_law_946 rfl ?_
    refine G_if_ne X (tgt := 970) dL_law_948 (by decide) (fun c117 => ?_) (fun c117 => ?_)
    · have h := it_t c117 h
      refine G_goto X (tgt := 2666) dL_law_970 (by decide) ?_
      refine G_sub [2, 3, 4, 5, 6] rfl ?_
      exact hk _ _ _ (by omega) (by omega) h
    · have h := it_f (fun k => k c117) h
      refine G_aload_n X 5 dL_law_951 rfl rfl ?_
      refine G_iconst X (v := (0 : Int32)) dL_law_952 (by decide) ?_
      obtain ⟨g118, h⟩ := gd_some h
      refine G_lald X rfl rfl g118 dL_law_953 ?_
      refine G_iload X 0 dL_law_954 rfl ?_
      refine G_if_eq X (tgt := 963) dL_law_956 (by decide) (fun c119 => ?_) (fun c119 => ?_)
      · have h := it_t c119 h
        refine G_lconst X (v := (0 : Int64)) dL_law_963 (by decide) ?_
        refine G_lcmp X dL_law_964 ?_
        refine G_if_eq X (tgt := 970) dL_law_965 (by decide) (fun c120 => ?_) (fun c120 => ?_)
        · have h := it_t c120 h
          refine G_goto X (tgt := 2666) dL_law_970 (by decide) ?_
          refine G_sub [2, 3, 4, 5, 6] rfl ?_
          exact hk _ _ _ (by omega) (by omega) h
        · have h := it_f c120 h
          refine G_iconst X (v := (0 : Int32)) dL_law_968 (by decide) ?_
          cases h
      · have h := it_f c119 h
        refine G_lconst X (v := (1 : Int64)) dL_law_959 (by decide) ?_
        refine G_goto X (tgt := 964) dL_law_960 (by decide) ?_
        refine G_lcmp X dL_law_964 ?_
        refine G_if_eq X (tgt := 970) dL_law_965 (by decide) (fun c121 => ?_) (fun c121 => ?_)
        · have h := it_t c121 h
          refine G_goto X (tgt := 2666) dL_law_970 (by decide) ?_
          refine G_sub [2, 3, 4, 5, 6] rfl ?_
          exact hk _ _ _ (by omega) (by omega) h
        · have h := it_f c121 h
          refine G_iconst X (v := (0 : Int32)) dL_law_968 (by decide) ?_
          cases h
  · have h := it_f c116 h
    refine G_iconst X (v := (0 : Int32)) dL_law_944 (by decide) ?_
    cases h
set_option maxRecDepth 20000 in
theorem gL_c15 {g : GX} {a b b0 L : Nat} {xs : Nat → Int32} {k : TT → Option Int32} {x0 x1 x2 ta tb d S pg c m ot : St} {ps : Nat → St} {a4 : Int32} (X : CX g RL cL_law 9 14 538) (XL : XLaw g b0 L xs) (ha : a < 601024) (hb : b + 6 ≤ 7293034) (hk : ∀ (T1 : TT) (a1 b1 : Nat), a1 ≤ a + 1 → b1 ≤ b + 6 → k T1 = some 1 → G g a1 b1 T1 2666 [(0, .ref b0), (1, .ref (xE (gκ g) 8 0 0)), (2, .ref (xE (gκ g) 9 0 0)), (3, .ref (xE (gκ g) 10 0 0)), (4, .int a4)] []) (h : sL_c15 k xs L (x0, x1, x2, ps, ta, tb, d, S, pg, c, m, ot) a4 = some 1) : G g a b (x0, x1, x2, ps, ta, tb, d, S, pg, c, m, ot) 1057 [(0, .ref b0), (1, .ref (xE (gκ g) 8 0 0)), (2, .ref (xE (gκ g) 9 0 0)), (3, .ref (xE (gκ g) 10 0 0)), (4, .int a4)] [] := by
  unfold sL_c15 at h
  dsimp only at h
  refine G_aload_n X 1 dL_law_1057 rfl rfl ?_
  refine G_aload_n X 0 dL_law_1058 rfl rfl ?_
  refine G_iload X 4 dL_law_1059 rfl ?_
  refine G_iconst X (v := (1 : Int32)) dL_law_1061 (by decide) ?_
  refine G_iadd X dL_law_1062 ?_
  obtain ⟨g122, h⟩ := gd_some h
  refine G_sld X XL g122 dL_law_1063 ?_
  refine G_aload_n X 3 dL_law_1064 rfl rfl ?_
  obtain ⟨q123, hq123, h⟩ := bd_some h
  refine G_callW X XL (As := [.ref (xE (gκ g) 8 0 0), .int (xs (ix (a4 + ((1 : Int32))))), .ref (xE (gκ g) 10 0 0)]) (rest := []) (T' := (x0, x1, x2, ps, ta, tb, d, S, pg, c, m, q123.1)) (st2 := [.int q123.2]) (ct_L_why (l := g.2.1) (κ := gκ g)   hq123) cal_L_why wM_L_193 wT_L_why (by decide) rfl rfl (Nat.le_of_ble_eq_true rfl) (by omega) (by omega) dL_law_1065 rfl ?_
  refine G_istore X (lv' := [(5, .int q123.2), (0, .ref b0), (1, .ref (xE (gκ g) 8 0 0)), (2, .ref (xE (gκ g) 9 0 0)), (3, .ref (xE (gκ g) 10 0 0)), (4, .int a4)]) dL_law_1068 (by decide) rfl ?_
  refine G_aload_n X 3 dL_law_1070 rfl rfl ?_
  refine G_aload_n X 1 dL_law_1071 rfl rfl ?_
  refine G_iload X 5 dL_law_1072 rfl ?_
  refine G_iconst X (v := (1 : Int32)) dL_law_1074 (by decide) ?_
  refine G_iadd X dL_law_1075 ?_
  obtain ⟨g124, h⟩ := gd_some h
  refine G_sld X XL g124 dL_law_1076 ?_
  obtain ⟨q125, hq125, h⟩ := bd_some h
  refine G_callV X (As := [.int (xs (ix (a4 + ((1 : Int32)))))]) (rest := []) (T' := (x0, x1, x2, ps, ta, tb, d, S, pg, c, q125.1, q123.1)) (st2 := [.int q125.2]) (ct_X7_why (l := g.2.1) (κ := gκ g) (T := (x0, x1, x2, ps, ta, tb, d, S, pg, c, m, q123.1)) (m := m)  hq125) cal_X7_why wM_L_195 wI_X7_why wS_X7_why rfl rfl (by decide) rfl rfl (Nat.le_of_ble_eq_true rfl) (XL.2.2.2 (by omega) (by omega)) dL_law_1077 rfl ?_
  refine G_istore X (lv' := [(6, .int q125.2), (5, .int q123.2), (0, .ref b0), (1, .ref (xE (gκ g) 8 0 0)), (2, .ref (xE (gκ g) 9 0 0)), (3, .ref (xE (gκ g) 10 0 0)), (4, .int a4)]) dL_law_1080 (by decide) rfl ?_
  refine G_aload_n X 4 dL_law_1082 rfl rfl ?_
  obtain ⟨q126, hq126, h⟩ := bd_some h
  refine G_callV X (As := []) (rest := []) (T' := (x0, x1, x2, ps, ta, tb, d, S, pg, c, q125.1, q123.1)) (st2 := [.int q126]) (ct_X7_thrown (l := g.2.1) (κ := gκ g) (T := (x0, x1, x2, ps, ta, tb, d, S, pg, c, q125.1, q123.1)) (m := q125.1)  hq126) cal_X7_thrown wM_L_139 wI_X7_thrown wS_X7_thrown rfl rfl (by decide) rfl rfl (Nat.le_of_ble_eq_true rfl) (XL.2.2.2 (by omega) (by omega)) dL_law_1083 rfl ?_
  refine G_iload X 1 dL_law_1086 rfl ?_
  refine G_icmp_eq X (tgt := 1093) dL_law_1088 (by decide) (fun c127 => ?_) (fun c127 => ?_)
  · have h := it_t c127 h
    refine G_iload X 1 dL_law_1093 rfl ?_
    refine G_if_ne X (tgt := 1110) dL_law_1095 (by decide) (fun c128 => ?_) (fun c128 => ?_)
    · have h := it_t c128 h
      refine G_goto X (tgt := 2666) dL_law_1110 (by decide) ?_
      refine G_sub [2, 3, 4, 5, 6] rfl ?_
      exact hk _ _ _ (by omega) (by omega) h
    · have h := it_f (fun k => k c128) h
      refine G_aload_n X 5 dL_law_1098 rfl rfl ?_
      refine G_iconst X (v := (0 : Int32)) dL_law_1099 (by decide) ?_
      obtain ⟨g129, h⟩ := gd_some h
      refine G_lald X rfl rfl g129 dL_law_1100 ?_
      refine G_iload X 0 dL_law_1101 rfl ?_
      refine G_i2l X dL_law_1103 ?_
      refine G_lcmp X dL_law_1104 ?_
      refine G_if_eq X (tgt := 1110) dL_law_1105 (by decide) (fun c130 => ?_) (fun c130 => ?_)
      · have h := it_t c130 h
        refine G_goto X (tgt := 2666) dL_law_1110 (by decide) ?_
        refine G_sub [2, 3, 4, 5, 6] rfl ?_
        exact hk _ _ _ (by omega) (by omega) h
      · have h := it_f c130 h
        refine G_iconst X (v := (0 : Int32)) dL_law_1108 (by decide) ?_
        cases h
  · have h := it_f c127 h
    refine G_iconst X (v := (0 : Int32)) dL_law_1091 (by decide) ?_
    cases h
set_option maxRecDepth 20000 in
theorem gL_c16 {g : GX} {a b b0 L : Nat} {xs : Nat → Int32} {k : TT → Option Int32} {x0 x1 x2 ta tb d S pg c m ot : St} {ps : Nat → St} {a4 : Int32} (X : CX g RL cL_law 9 14 538) (XL : XLaw g b0 L xs) (ha : a < 601024) (hb : b + 6 ≤ 7293034) (hk : ∀ (T1 : TT) (a1 b1 : Nat), a1 ≤ a + 1 → b1 ≤ b + 6 → k T1 = some 1 → G g a1 b1 T1 2666 [(0, .ref b0), (1, .ref (xE (gκ g) 8 0 0)), (2, .ref (xE (gκ g) 9 0 0)), (3, .ref (xE (gκ g) 10 0 0)), (4, .int a4)] []) (h : sL_c16 k xs L (x0, x1, x2, ps, ta, tb, d, S, pg, c, m, ot) a4 = some 1) : G g a b (x0, x1, x2, ps, ta, tb, d, S, pg, c, m, ot) 1113 [(0, .ref b0), (1, .ref (xE (gκ g) 8 0 0)), (2, .ref (xE (gκ g) 9 0 0)), (3, .ref (xE (gκ g) 10 0 0)), (4, .int a4)] [] := by
  unfold sL_c16 at h
  dsimp only at h
  refine G_aload_n X 1 dL_law_1113 rfl rfl ?_
  refine G_aload_n X 0 dL_law_1114 rfl rfl ?_
  refine G_iload X 4 dL_law_1115 rfl ?_
  refine G_iconst X (v := (1 : Int32)) dL_law_1117 (by decide) ?_
  refine G_iadd X dL_law_1118 ?_
  obtain ⟨g131, h⟩ := gd_some h
  refine G_sld X XL g131 dL_law_1119 ?_
  refine G_aload_n X 0 dL_law_1120 rfl rfl ?_
  refine G_iload X 4 dL_law_1121 rfl ?_
  refine G_iconst X (v := (2 : Int32)) dL_law_1123 (by decide) ?_
  refine G_iadd X dL_law_1124 ?_
  obtain ⟨g132, h⟩ := gd_some h
  refine G_sld X XL g132 dL_law_1125 ?_
  refine G_aload_n X 3 dL_law_1126 rfl rfl ?_
  obtain ⟨q133, hq133, h⟩ := bd_some h
  refine G_callW X XL (As := [.ref (xE (gκ g) 8 0 0), .int (xs (ix (a4 + ((1 : Int32))))), .int (xs (ix (a4 + ((2 : Int32))))), .ref (xE (gκ g) 10 0 0)]) (rest := []) (T' := (x0, x1, x2, ps, ta, tb, d, S, pg, c, m, q133.1)) (st2 := [.int q133.2]) (ct_L_whyNot (l := g.2.1) (κ := gκ g)   hq133) cal_L_whyNot wM_L_196 wT_L_whyNot (by decide) rfl rfl (Nat.le_of_ble_eq_true rfl) (by omega) (by omega) dL_law_1127 rfl ?_
  refine G_istore X (lv' := [(5, .int q133.2), (0, .ref b0), (1, .ref (xE (gκ g) 8 0 0)), (2, .ref (xE (gκ g) 9 0 0)), (3, .ref (xE (gκ g) 10 0 0)), (4, .int a4)]) dL_law_1130 (by decide) rfl ?_
  refine G_aload_n X 3 dL_law_1132 rfl rfl ?_
  refine G_aload_n X 1 dL_law_1133 rfl rfl ?_
  refine G_iload X 5 dL_law_1134 rfl ?_
  refine G_iconst X (v := (1 : Int32)) dL_law_1136 (by decide) ?_
  refine G_iadd X dL_law_1137 ?_
  obtain ⟨g134, h⟩ := gd_some h
  refine G_sld X XL g134 dL_law_1138 ?_
  refine G_aload_n X 1 dL_law_1139 rfl rfl ?_
  refine G_iload X 5 dL_law_1140 rfl ?_
  refine G_iconst X (v := (2 : Int32)) dL_law_1142 (by decide) ?_
  refine G_iadd X dL_law_1143 ?_
  obtain ⟨g135, h⟩ := gd_some h
  refine G_sld X XL g135 dL_law_1144 ?_
  obtain ⟨q136, hq136, h⟩ := bd_some h
  refine G_callV X (As := [.int (xs (ix (a4 + ((1 : Int32))))), .int (xs (ix (a4 + ((2 : Int32)))))]) (rest := []) (T' := (x0, x1, x2, ps, ta, tb, d, S, pg, c, q136.1, q133.1)) (st2 := [.int q136.2]) (ct_X7_whyNot (l := g.2.1) (κ := gκ g) (T := (x0, x1, x2, ps, ta, tb, d, S, pg, c, m, q133.1)) (m := m)  hq136) cal_X7_whyNot wM_L_198 wI_X7_whyNot wS_X7_whyNot rfl rfl (by decide) rfl rfl (Nat.le_of_ble_eq_true rfl) (XL.2.2.2 (by omega) (by omega)) dL_law_1145 rfl ?_
  refine G_istore X (lv' := [(6, .int q136.2), (5, .int q133.2), (0, .ref b0), (1, .ref (xE (gκ g) 8 0 0)), (2, .ref (xE (gκ g) 9 0 0)), (3, .ref (xE (gκ g) 10 0 0)), (4, .int a4)]) dL_law_1148 (by decide) rfl ?_
  refine G_aload_n X 4 dL_law_1150 rfl rfl ?_
  obtain ⟨q137, hq137, h⟩ := bd_some h
  refine G_callV X (As := []) (rest := []) (T' := (x0, x1, x2, ps, ta, tb, d, S, pg, c, q136.1, q133.1)) (st2 := [.int q137]) (ct_X7_thrown (l := g.2.1) (κ := gκ g) (T := (x0, x1, x2, ps, ta, tb, d, S, pg, c, q136.1, q133.1)) (m := q136.1)  hq137) cal_X7_thrown wM_L_139 wI_X7_thrown wS_X7_thrown rfl rfl (by decide) rfl rfl (Nat.le_of_ble_eq_true rfl) (XL.2.2.2 (by omega) (by omega)) dL_law_1151 rfl ?_
  refine G_iload X 1 dL_law_1154 rfl ?_
  refine G_icmp_eq X (tgt := 1161) dL_law_1156 (by decide) (fun c138 => ?_) (fun c138 => ?_)
  · have h := it_t c138 h
    refine G_iload X 1 dL_law_1161 rfl ?_
    refine G_if_ne X (tgt := 1178) dL_law_1163 (by decide) (fun c139 => ?_) (fun c139 => ?_)
    · have h := it_t c139 h
      refine G_goto X (tgt := 2666) dL_law_1178 (by decide) ?_
      refine G_sub [2, 3, 4, 5, 6] rfl ?_
      exact hk _ _ _ (by omega) (by omega) h
    · have h := it_f (fun k => k c139) h
      refine G_aload_n X 5 dL_law_1166 rfl rfl ?_
      refine G_iconst X (v := (0 : Int32)) dL_law_1167 (by decide) ?_
      obtain ⟨g140, h⟩ := gd_some h
      refine G_lald X rfl rfl g140 dL_law_1168 ?_
      refine G_iload X 0 dL_law_1169 rfl ?_
      refine G_i2l X dL_law_1171 ?_
      refine G_lcmp X dL_law_1172 ?_
      refine G_if_eq X (tgt := 1178) dL_law_1173 (by decide) (fun c141 => ?_) (fun c141 => ?_)
      · have h := it_t c141 h
        refine G_goto X (tgt := 2666) dL_law_1178 (by decide) ?_
        refine G_sub [2, 3, 4, 5, 6] rfl ?_
        exact hk _ _ _ (by omega) (by omega) h
      · have h := it_f c141 h
        refine G_iconst X (v := (0 : Int32)) dL_law_1176 (by decide) ?_
        cases h
  · have h := it_f c138 h
    refine G_iconst X (v := (0 : Int32)) dL_law_1159 (by decide) ?_
    cases h
set_option maxRecDepth 20000 in
theorem gL_c17 {g : GX} {a b b0 L : Nat} {xs : Nat → Int32} {k : TT → Option Int32} {x0 x1 x2 ta tb d S pg c m ot : St} {ps : Nat → St} {a4 : Int32} (X : CX g RL cL_law 9 14 538) (XL : XLaw g b0 L xs) (ha : a < 601024) (hb : b + 6 ≤ 7293034) (hk : ∀ (T1 : TT) (a1 b1 : Nat), a1 ≤ a + 1 → b1 ≤ b + 6 → k T1 = some 1 → G g a1 b1 T1 2666 [(0, .ref b0), (1, .ref (xE (gκ g) 8 0 0)), (2, .ref (xE (gκ g) 9 0 0)), (3, .ref (xE (gκ g) 10 0 0)), (4, .int a4)] []) (h : sL_c17 k xs L (x0, x1, x2, ps, ta, tb, d, S, pg, c, m, ot) a4 = some 1) : G g a b (x0, x1, x2, ps, ta, tb, d, S, pg, c, m, ot) 1181 [(0, .ref b0), (1, .ref (xE (gκ g) 8 0 0)), (2, .ref (xE (gκ g) 9 0 0)), (3, .ref (xE (gκ g) 10 0 0)), (4, .int a4)] [] := by
  unfold sL_c17 at h
  dsimp only at h
  refine G_aload_n X 1 dL_law_1181 rfl rfl ?_
  refine G_aload_n X 0 dL_law_1182 rfl rfl ?_
  refine G_iload X 4 dL_law_1183 rfl ?_
  refine G_iconst X (v := (1 : Int32)) dL_law_1185 (by decide) ?_
  refine G_iadd X dL_law_1186 ?_
  obtain ⟨g142, h⟩ := gd_some h
  refine G_sld X XL g142 dL_law_1187 ?_
  refine G_aload_n X 3 dL_law_1188 rfl rfl ?_
  obtain ⟨q143, hq143, h⟩ := bd_some h
  refine G_callW X XL (As := [.ref (xE (gκ g) 8 0 0), .int (xs (ix (a4 + ((1 : Int32))))), .ref (xE (gκ g) 10 0 0)]) (rest := []) (T' := (x0, x1, x2, ps, ta, tb, d, S, pg, c, m, q143.1)) (st2 := [.int q143.2]) (ct_L_dueIn (l := g.2.1) (κ := gκ g)   hq143) cal_L_dueIn wM_L_199 wT_L_dueIn (by decide) rfl rfl (Nat.le_of_ble_eq_true rfl) (by omega) (by omega) dL_law_1189 rfl ?_
  refine G_istore X (lv' := [(5, .int q143.2), (0, .ref b0), (1, .ref (xE (gκ g) 8 0 0)), (2, .ref (xE (gκ g) 9 0 0)), (3, .ref (xE (gκ g) 10 0 0)), (4, .int a4)]) dL_law_1192 (by decide) rfl ?_
  refine G_aload_n X 3 dL_law_1194 rfl rfl ?_
  refine G_aload_n X 1 dL_law_1195 rfl rfl ?_
  refine G_iload X 5 dL_law_1196 rfl ?_
  refine G_iconst X (v := (1 : Int32)) dL_law_1198 (by decide) ?_
  refine G_iadd X dL_law_1199 ?_
  obtain ⟨g144, h⟩ := gd_some h
  refine G_sld X XL g144 dL_law_1200 ?_
  obtain ⟨q145, hq145, h⟩ := bd_some h
  refine G_callV X (As := [.int (xs (ix (a4 + ((1 : Int32)))))]) (rest := []) (T' := (x0, x1, x2, ps, ta, tb, d, S, pg, c, q145.1, q143.1)) (st2 := [.int q145.2]) (ct_X7_dueIn (l := g.2.1) (κ := gκ g) (T := (x0, x1, x2, ps, ta, tb, d, S, pg, c, m, q143.1)) (m := m)  hq145) cal_X7_dueIn wM_L_201 wI_X7_dueIn wS_X7_dueIn rfl rfl (by decide) rfl rfl (Nat.le_of_ble_eq_true rfl) (XL.2.2.2 (by omega) (by omega)) dL_law_1201 rfl ?_
  refine G_istore X (lv' := [(6, .int q145.2), (5, .int q143.2), (0, .ref b0), (1, .ref (xE (gκ g) 8 0 0)), (2, .ref (xE (gκ g) 9 0 0)), (3, .ref (xE (gκ g) 10 0 0)), (4, .int a4)]) dL_law_1204 (by decide) rfl ?_
  refine G_aload_n X 4 dL_law_1206 rfl rfl ?_
  obtain ⟨q146, hq146, h⟩ := bd_some h
  refine G_callV X (As := []) (rest := []) (T' := (x0, x1, x2, ps, ta, tb, d, S, pg, c, q145.1, q143.1)) (st2 := [.int q146]) (ct_X7_thrown (l := g.2.1) (κ := gκ g) (T := (x0, x1, x2, ps, ta, tb, d, S, pg, c, q145.1, q143.1)) (m := q145.1)  hq146) cal_X7_thrown wM_L_139 wI_X7_thrown wS_X7_thrown rfl rfl (by decide) rfl rfl (Nat.le_of_ble_eq_true rfl) (XL.2.2.2 (by omega) (by omega)) dL_law_1207 rfl ?_
  refine G_iload X 1 dL_law_1210 rfl ?_
  refine G_icmp_eq X (tgt := 1217) dL_law_1212 (by decide) (fun c147 => ?_) (fun c147 => ?_)
  · have h := it_t c147 h
    refine G_iload X 1 dL_law_1217 rfl ?_
    refine G_if_ne X (tgt := 1234) dL_law_1219 (by decide) (fun c148 => ?_) (fun c148 => ?_)
    · have h := it_t c148 h
      refine G_goto X (tgt := 2666) dL_law_1234 (by decide) ?_
      refine G_sub [2, 3, 4, 5, 6] rfl ?_
      exact hk _ _ _ (by omega) (by omega) h
    · have h := it_f (fun k => k c148) h
      refine G_aload_n X 5 dL_law_1222 rfl rfl ?_
      refine G_iconst X (v := (0 : Int32)) dL_law_1223 (by decide) ?_
      obtain ⟨g149, h⟩ := gd_some h
      refine G_lald X rfl rfl g149 dL_law_1224 ?_
      refine G_iload X 0 dL_law_1225 rfl ?_
      refine G_i2l X dL_law_1227 ?_
      refine G_lcmp X dL_law_1228 ?_
      refine G_if_eq X (tgt := 1234) dL_law_1229 (by decide) (fun c150 => ?_) (fun c150 => ?_)
      · have h := it_t c150 h
        refine G_goto X (tgt := 2666) dL_law_1234 (by decide) ?_
        refine G_sub [2, 3, 4, 5, 6] rfl ?_
        exact hk _ _ _ (by omega) (by omega) h
      · have h := it_f c150 h
        refine G_iconst X (v := (0 : Int32)) dL_law_1232 (by decide) ?_
        cases h
  · have h := it_f c147 h
    refine G_iconst X (v := (0 : Int32)) dL_law_1215 (by decide) ?_
    cases h
set_option maxRecDepth 20000 in
theorem gL_c18 {g : GX} {a b b0 L : Nat} {xs : Nat → Int32} {k : TT → Option Int32} {x0 x1 x2 ta tb d S pg c m ot : St} {ps : Nat → St} {a4 : Int32} (X : CX g RL cL_law 9 14 538) (XL : XLaw g b0 L xs) (ha : a < 601024) (hb : b + 6 ≤ 7293034) (hk : ∀ (T1 : TT) (a1 b1 : Nat), a1 ≤ a + 1 → b1 ≤ b + 6 → k T1 = some 1 → G g a1 b1 T1 2666 [(0, .ref b0), (1, .ref (xE (gκ g) 8 0 0)), (2, .ref (xE (gκ g) 9 0 0)), (3, .ref (xE (gκ g) 10 0 0)), (4, .int a4)] []) (h : sL_c18 k xs L (x0, x1, x2, ps, ta, tb, d, S, pg, c, m, ot) a4 = some 1) : G g a b (x0, x1, x2, ps, ta, tb, d, S, pg, c, m, ot) 1237 [(0, .ref b0), (1, .ref (xE (gκ g) 8 0 0)), (2, .ref (xE (gκ g) 9 0 0)), (3, .ref (xE (gκ g) 10 0 0)), (4, .int a4)] [] := by
  unfold sL_c18 at h
  dsimp only at h
  refine G_aload_n X 1 dL_law_1237 rfl rfl ?_
  refine G_aload_n X 0 dL_law_1238 rfl rfl ?_
  refine G_iload X 4 dL_law_1239 rfl ?_
  refine G_iconst X (v := (1 : Int32)) dL_law_1241 (by decide) ?_
  refine G_iadd X dL_law_1242 ?_
  obtain ⟨g151, h⟩ := gd_some h
  refine G_sld X XL g151 dL_law_1243 ?_
  refine G_aload_n X 3 dL_law_1244 rfl rfl ?_
  obtain ⟨q152, hq152, h⟩ := bd_some h
  refine G_callW X XL (As := [.ref (xE (gκ g) 8 0 0), .int (xs (ix (a4 + ((1 : Int32))))), .ref (xE (gκ g) 10 0 0)]) (rest := []) (T' := (x0, x1, x2, ps, ta, tb, d, S, pg, c, m, q152.1)) (st2 := [.int q152.2]) (ct_L_hidden (l := g.2.1) (κ := gκ g)   hq152) cal_L_hidden wM_L_202 wT_L_hidden (by decide) rfl rfl (Nat.le_of_ble_eq_true rfl) (by omega) (by omega) dL_law_1245 rfl ?_
  refine G_istore X (lv' := [(5, .int q152.2), (0, .ref b0), (1, .ref (xE (gκ g) 8 0 0)), (2, .ref (xE (gκ g) 9 0 0)), (3, .ref (xE (gκ g) 10 0 0)), (4, .int a4)]) dL_law_1248 (by decide) rfl ?_
  refine G_aload_n X 3 dL_law_1250 rfl rfl ?_
  refine G_aload_n X 1 dL_law_1251 rfl rfl ?_
  refine G_iload X 5 dL_law_1252 rfl ?_
  refine G_iconst X (v := (1 : Int32)) dL_law_1254 (by decide) ?_
  refine G_iadd X dL_law_1255 ?_
  obtain ⟨g153, h⟩ := gd_some h
  refine G_sld X XL g153 dL_law_1256 ?_
  obtain ⟨q154, hq154, h⟩ := bd_some h
  refine G_callV X (As := [.int (xs (ix (a4 + ((1 : Int32)))))]) (rest := []) (T' := (x0, x1, x2, ps, ta, tb, d, S, pg, c, q154.1, q152.1)) (st2 := [.int q154.2]) (ct_X7_hidden (l := g.2.1) (κ := gκ g) (T := (x0, x1, x2, ps, ta, tb, d, S, pg, c, m, q152.1)) (m := m)  hq154) cal_X7_hidden wM_L_204 wI_X7_hidden wS_X7_hidden rfl rfl (by decide) rfl rfl (Nat.le_of_ble_eq_true rfl) (XL.2.2.2 (by omega) (by omega)) dL_law_1257 rfl ?_
  refine G_istore X (lv' := [(6, .int q154.2), (5, .int q152.2), (0, .ref b0), (1, .ref (xE (gκ g) 8 0 0)), (2, .ref (xE (gκ g) 9 0 0)), (3, .ref (xE (gκ g) 10 0 0)), (4, .int a4)]) dL_law_1260 (by decide) rfl ?_
  refine G_aload_n X 4 dL_law_1262 rfl rfl ?_
  obtain ⟨q155, hq155, h⟩ := bd_some h
  refine G_callV X (As := []) (rest := []) (T' := (x0, x1, x2, ps, ta, tb, d, S, pg, c, q154.1, q152.1)) (st2 := [.int q155]) (ct_X7_thrown (l := g.2.1) (κ := gκ g) (T := (x0, x1, x2, ps, ta, tb, d, S, pg, c, q154.1, q152.1)) (m := q154.1)  hq155) cal_X7_thrown wM_L_139 wI_X7_thrown wS_X7_thrown rfl rfl (by decide) rfl rfl (Nat.le_of_ble_eq_true rfl) (XL.2.2.2 (by omega) (by omega)) dL_law_1263 rfl ?_
  refine G_iload X 1 dL_law_1266 rfl ?_
  refine G_icmp_eq X (tgt := 1273) dL_law_1268 (by decide) (fun c156 => ?_) (fun c156 => ?_)
  · have h := it_t c156 h
    refine G_iload X 1 dL_law_1273 rfl ?_
    refine G_if_ne X (tgt := 1290) dL_law_1275 (by decide) (fun c157 => ?_) (fun c157 => ?_)
    · have h := it_t c157 h
      refine G_goto X (tgt := 2666) dL_law_1290 (by decide) ?_
      refine G_sub [2, 3, 4, 5, 6] rfl ?_
      exact hk _ _ _ (by omega) (by omega) h
    · have h := it_f (fun k => k c157) h
      refine G_aload_n X 5 dL_law_1278 rfl rfl ?_
      refine G_iconst X (v := (0 : Int32)) dL_law_1279 (by decide) ?_
      obtain ⟨g158, h⟩ := gd_some h
      refine G_lald X rfl rfl g158 dL_law_1280 ?_
      refine G_iload X 0 dL_law_1281 rfl ?_
      refine G_i2l X dL_law_1283 ?_
      refine G_lcmp X dL_law_1284 ?_
      refine G_if_eq X (tgt := 1290) dL_law_1285 (by decide) (fun c159 => ?_) (fun c159 => ?_)
      · have h := it_t c159 h
        refine G_goto X (tgt := 2666) dL_law_1290 (by decide) ?_
        refine G_sub [2, 3, 4, 5, 6] rfl ?_
        exact hk _ _ _ (by omega) (by omega) h
      · have h := it_f c159 h
        refine G_iconst X (v := (0 : Int32)) dL_law_1288 (by decide) ?_
        cases h
  · have h := it_f c156 h
    refine G_iconst X (v := (0 : Int32)) dL_law_1271 (by decide) ?_
    cases h
set_option maxRecDepth 20000 in
theorem gL_c19 {g : GX} {a b b0 L : Nat} {xs : Nat → Int32} {k : TT → Option Int32} {x0 x1 x2 ta tb d S pg c m ot : St} {ps : Nat → St} {a4 : Int32} (X : CX g RL cL_law 9 14 538) (XL : XLaw g b0 L xs) (ha : a < 601024) (hb : b + 6 ≤ 7293034) (hk : ∀ (T1 : TT) (a1 b1 : Nat), a1 ≤ a + 1 → b1 ≤ b + 6 → k T1 = some 1 → G g a1 b1 T1 2666 [(0, .ref b0), (1, .ref (xE (gκ g) 8 0 0)), (2, .ref (xE (gκ g) 9 0 0)), (3, .ref (xE (gκ g) 10 0 0)), (4, .int a4)] []) (h : sL_c19 k xs L (x0, x1, x2, ps, ta, tb, d, S, pg, c, m, ot) a4 = some 1) : G g a b (x0, x1, x2, ps, ta, tb, d, S, pg, c, m, ot) 1293 [(0, .ref b0), (1, .ref (xE (gκ g) 8 0 0)), (2, .ref (xE (gκ g) 9 0 0)), (3, .ref (xE (gκ g) 10 0 0)), (4, .int a4)] [] := by
  unfold sL_c19 at h
  dsimp only at h
  refine G_aload_n X 1 dL_law_1293 rfl rfl ?_
  refine G_aload_n X 0 dL_law_1294 rfl rfl ?_
  refine G_iload X 4 dL_law_1295 rfl ?_
  refine G_iconst X (v := (1 : Int32)) dL_law_1297 (by decide) ?_
  refine G_iadd X dL_law_1298 ?_
  obtain ⟨g160, h⟩ := gd_some h
  refine G_sld X XL g160 dL_law_1299 ?_
  refine G_aload_n X 0 dL_law_1300 rfl rfl ?_
  refine G_iload X 4 dL_law_1301 rfl ?_
  refine G_iconst X (v := (2 : Int32)) dL_law_1303 (by decide) ?_
  refine G_iadd X dL_law_1304 ?_
  obtain ⟨g161, h⟩ := gd_some h
  refine G_sld X XL g161 dL_law_1305 ?_
  refine G_aload_n X 3 dL_law_1306 rfl rfl ?_
  obtain ⟨q162, hq162, h⟩ := bd_some h
  refine G_callW X XL (As := [.ref (xE (gκ g) 8 0 0), .int (xs (ix (a4 + ((1 : Int32))))), .int (xs (ix (a4 + ((2 : Int32))))), .ref (xE (gκ g) 10 0 0)]) (rest := []) (T' := (x0, x1, x2, ps, ta, tb, d, S, pg, c, m, q162.1)) (st2 := [.int q162.2]) (ct_L_hops (l := g.2.1) (κ := gκ g)   hq162) cal_L_hops wM_L_205 wT_L_hops (by decide) rfl rfl (Nat.le_of_ble_eq_true rfl) (by omega) (by omega) dL_law_1307 rfl ?_
  refine G_istore X (lv' := [(5, .int q162.2), (0, .ref b0), (1, .ref (xE (gκ g) 8 0 0)), (2, .ref (xE (gκ g) 9 0 0)), (3, .ref (xE (gκ g) 10 0 0)), (4, .int a4)]) dL_law_1310 (by decide) rfl ?_
  refine G_aload_n X 3 dL_law_1312 rfl rfl ?_
  refine G_aload_n X 1 dL_law_1313 rfl rfl ?_
  refine G_iload X 5 dL_law_1314 rfl ?_
  refine G_iconst X (v := (1 : Int32)) dL_law_1316 (by decide) ?_
  refine G_iadd X dL_law_1317 ?_
  obtain ⟨g163, h⟩ := gd_some h
  refine G_sld X XL g163 dL_law_1318 ?_
  refine G_aload_n X 1 dL_law_1319 rfl rfl ?_
  refine G_iload X 5 dL_law_1320 rfl ?_
  refine G_iconst X (v := (2 : Int32)) dL_law_1322 (by decide) ?_
  refine G_iadd X dL_law_1323 ?_
  obtain ⟨g164, h⟩ := gd_some h
  refine G_sld X XL g164 dL_law_1324 ?_
  obtain ⟨q165, hq165, h⟩ := bd_some h
  refine G_callV X (As := [.int (xs (ix (a4 + ((1 : Int32))))), .int (xs (ix (a4 + ((2 : Int32)))))]) (rest := []) (T' := (x0, x1, x2, ps, ta, tb, d, S, pg, c, q165.1, q162.1)) (st2 := [.int q165.2]) (ct_X7_hops (l := g.2.1) (κ := gκ g) (T := (x0, x1, x2, ps, ta, tb, d, S, pg, c, m, q162.1)) (m := m)  hq165) cal_X7_hops wM_L_207 wI_X7_hops wS_X7_hops rfl rfl (by decide) rfl rfl (Nat.le_of_ble_eq_true rfl) (XL.2.2.2 (by omega) (by omega)) dL_law_1325 rfl ?_
  refine G_istore X (lv' := [(6, .int q165.2), (5, .int q162.2), (0, .ref b0), (1, .ref (xE (gκ g) 8 0 0)), (2, .ref (xE (gκ g) 9 0 0)), (3, .ref (xE (gκ g) 10 0 0)), (4, .int a4)]) dL_law_1328 (by decide) rfl ?_
  refine G_aload_n X 4 dL_law_1330 rfl rfl ?_
  obtain ⟨q166, hq166, h⟩ := bd_some h
  refine G_callV X (As := []) (rest := []) (T' := (x0, x1, x2, ps, ta, tb, d, S, pg, c, q165.1, q162.1)) (st2 := [.int q166]) (ct_X7_thrown (l := g.2.1) (κ := gκ g) (T := (x0, x1, x2, ps, ta, tb, d, S, pg, c, q165.1, q162.1)) (m := q165.1)  hq166) cal_X7_thrown wM_L_139 wI_X7_thrown wS_X7_thrown rfl rfl (by decide) rfl rfl (Nat.le_of_ble_eq_true rfl) (XL.2.2.2 (by omega) (by omega)) dL_law_1331 rfl ?_
  refine G_iload X 1 dL_law_1334 rfl ?_
  refine G_icmp_eq X (tgt := 1341) dL_law_1336 (by decide) (fun c167 => ?_) (fun c167 => ?_)
  · have h := it_t c167 h
    refine G_iload X 1 dL_law_1341 rfl ?_
    refine G_if_ne X (tgt := 1358) dL_law_1343 (by decide) (fun c168 => ?_) (fun c168 => ?_)
    · have h := it_t c168 h
      refine G_goto X (tgt := 2666) dL_law_1358 (by decide) ?_
      refine G_sub [2, 3, 4, 5, 6] rfl ?_
      exact hk _ _ _ (by omega) (by omega) h
    · have h := it_f (fun k => k c168) h
      refine G_aload_n X 5 dL_law_1346 rfl rfl ?_
      refine G_iconst X (v := (0 : Int32)) dL_law_1347 (by decide) ?_
      obtain ⟨g169, h⟩ := gd_some h
      refine G_lald X rfl rfl g169 dL_law_1348 ?_
      refine G_iload X 0 dL_law_1349 rfl ?_
      refine G_i2l X dL_law_1351 ?_
      refine G_lcmp X dL_law_1352 ?_
      refine G_if_eq X (tgt := 1358) dL_law_1353 (by decide) (fun c170 => ?_) (fun c170 => ?_)
      · have h := it_t c170 h
        refine G_goto X (tgt := 2666) dL_law_1358 (by decide) ?_
        refine G_sub [2, 3, 4, 5, 6] rfl ?_
        exact hk _ _ _ (by omega) (by omega) h
      · have h := it_f c170 h
        refine G_iconst X (v := (0 : Int32)) dL_law_1356 (by decide) ?_
        cases h
  · have h := it_f c167 h
    refine G_iconst X (v := (0 : Int32)) dL_law_1339 (by decide) ?_
    cases h
set_option maxRecDepth 20000 in
theorem gL_c20 {g : GX} {a b b0 L : Nat} {xs : Nat → Int32} {k : TT → Option Int32} {x0 x1 x2 ta tb d S pg c m ot : St} {ps : Nat → St} {a4 : Int32} (X : CX g RL cL_law 9 14 538) (XL : XLaw g b0 L xs) (ha : a < 601024) (hb : b + 6 ≤ 7293034) (hk : ∀ (T1 : TT) (a1 b1 : Nat), a1 ≤ a + 1 → b1 ≤ b + 6 → k T1 = some 1 → G g a1 b1 T1 2666 [(0, .ref b0), (1, .ref (xE (gκ g) 8 0 0)), (2, .ref (xE (gκ g) 9 0 0)), (3, .ref (xE (gκ g) 10 0 0)), (4, .int a4)] []) (h : sL_c20 k xs L (x0, x1, x2, ps, ta, tb, d, S, pg, c, m, ot) a4 = some 1) : G g a b (x0, x1, x2, ps, ta, tb, d, S, pg, c, m, ot) 1361 [(0, .ref b0), (1, .ref (xE (gκ g) 8 0 0)), (2, .ref (xE (gκ g) 9 0 0)), (3, .ref (xE (gκ g) 10 0 0)), (4, .int a4)] [] := by
  unfold sL_c20 at h
  dsimp only at h
  refine G_aload_n X 1 dL_law_1361 rfl rfl ?_
  obtain ⟨q171, hq171, h⟩ := bd_some h
  refine G_callV X (As := []) (rest := []) (T' := (x0, x1, x2, ps, ta, tb, d, S, pg, c, m, ot)) (st2 := [.int q171]) (ct_X6_groups (l := g.2.1) (κ := gκ g)   hq171) cal_X6_groups wM_L_208 wI_X6_groups wS_X6_groups rfl rfl (by decide) rfl rfl (Nat.le_of_ble_eq_true rfl) (XL.2.2.2 (by omega) (by omega)) dL_law_1362 rfl ?_
  refine G_aload_n X 2 dL_law_1365 rfl rfl ?_
  obtain ⟨q172, hq172, h⟩ := bd_some h
  refine G_callV X (As := []) (rest := [.int q171]) (T' := (x0, x1, x2, ps, ta, tb, d, S, pg, c, q172.1, ot)) (st2 := [.int q172.2, .int q171]) (ct_X7_groups (l := g.2.1) (κ := gκ g) (T := (x0, x1, x2, ps, ta, tb, d, S, pg, c, m, ot)) (m := m)  hq172) cal_X7_groups wM_L_211 wI_X7_groups wS_X7_groups rfl rfl (by decide) rfl rfl (Nat.le_of_ble_eq_true rfl) (XL.2.2.2 (by omega) (by omega)) dL_law_1366 rfl ?_
  refine G_icmp_eq X (tgt := 2666) dL_law_1369 (by decide) (fun c173 => ?_) (fun c173 => ?_)
  · have h := it_t c173 h
    refine G_sub [0, 1, 2, 3, 4] rfl ?_
    exact hk _ _ _ (by omega) (by omega) h
  · have h := it_f c173 h
    refine G_iconst X (v := (0 : Int32)) dL_law_1372 (by decide) ?_
    cases h
set_option maxRecDepth 20000 in
theorem gL_c21 {g : GX} {a b b0 L : Nat} {xs : Nat → Int32} {k : TT → Option Int32} {x0 x1 x2 ta tb d S pg c m ot : St} {ps : Nat → St} {a4 : Int32} (X : CX g RL cL_law 9 14 538) (XL : XLaw g b0 L xs) (ha : a < 601024) (hb : b + 6 ≤ 7293034) (hk : ∀ (T1 : TT) (a1 b1 : Nat), a1 ≤ a + 1 → b1 ≤ b + 6 → k T1 = some 1 → G g a1 b1 T1 2666 [(0, .ref b0), (1, .ref (xE (gκ g) 8 0 0)), (2, .ref (xE (gκ g) 9 0 0)), (3, .ref (xE (gκ g) 10 0 0)), (4, .int a4)] []) (h : sL_c21 k xs L (x0, x1, x2, ps, ta, tb, d, S, pg, c, m, ot) a4 = some 1) : G g a b (x0, x1, x2, ps, ta, tb, d, S, pg, c, m, ot) 1374 [(0, .ref b0), (1, .ref (xE (gκ g) 8 0 0)), (2, .ref (xE (gκ g) 9 0 0)), (3, .ref (xE (gκ g) 10 0 0)), (4, .int a4)] [] := by
  unfold sL_c21 at h
  dsimp only at h
  refine G_aload_n X 1 dL_law_1374 rfl rfl ?_
  refine G_aload_n X 0 dL_law_1375 rfl rfl ?_
  refine G_iload X 4 dL_law_1376 rfl ?_
  refine G_iconst X (v := (1 : Int32)) dL_law_1378 (by decide) ?_
  refine G_iadd X dL_law_1379 ?_
  obtain ⟨g174, h⟩ := gd_some h
  refine G_sld X XL g174 dL_law_1380 ?_
  refine G_aload_n X 3 dL_law_1381 rfl rfl ?_
  obtain ⟨q175, hq175, h⟩ := bd_some h
  refine G_callW X XL (As := [.ref (xE (gκ g) 8 0 0), .int (xs (ix (a4 + ((1 : Int32))))), .ref (xE (gκ g) 10 0 0)]) (rest := []) (T' := (x0, x1, x2, ps, ta, tb, d, S, pg, c, m, q175.1)) (st2 := [.int q175.2]) (ct_L_ears (l := g.2.1) (κ := gκ g)   hq175) cal_L_ears wM_L_212 wT_L_ears (by decide) rfl rfl (Nat.le_of_ble_eq_true rfl) (by omega) (by omega) dL_law_1382 rfl ?_
  refine G_istore X (lv' := [(5, .int q175.2), (0, .ref b0), (1, .ref (xE (gκ g) 8 0 0)), (2, .ref (xE (gκ g) 9 0 0)), (3, .ref (xE (gκ g) 10 0 0)), (4, .int a4)]) dL_law_1385 (by decide) rfl ?_
  refine G_aload_n X 3 dL_law_1387 rfl rfl ?_
  refine G_aload_n X 1 dL_law_1388 rfl rfl ?_
  refine G_iload X 5 dL_law_1389 rfl ?_
  refine G_iconst X (v := (1 : Int32)) dL_law_1391 (by decide) ?_
  refine G_iadd X dL_law_1392 ?_
  obtain ⟨g176, h⟩ := gd_some h
  refine G_sld X XL g176 dL_law_1393 ?_
  obtain ⟨q177, hq177, h⟩ := bd_some h
  refine G_callV X (As := [.int (xs (ix (a4 + ((1 : Int32)))))]) (rest := []) (T' := (x0, x1, x2, ps, ta, tb, d, S, pg, c, q177.1, q175.1)) (st2 := [.int q177.2]) (ct_X7_ears (l := g.2.1) (κ := gκ g) (T := (x0, x1, x2, ps, ta, tb, d, S, pg, c, m, q175.1)) (m := m)  hq177) cal_X7_ears wM_L_214 wI_X7_ears wS_X7_ears rfl rfl (by decide) rfl rfl (Nat.le_of_ble_eq_true rfl) (XL.2.2.2 (by omega) (by omega)) dL_law_1394 rfl ?_
  refine G_istore X (lv' := [(6, .int q177.2), (5, .int q175.2), (0, .ref b0), (1, .ref (xE (gκ g) 8 0 0)), (2, .ref (xE (gκ g) 9 0 0)), (3, .ref (xE (gκ g) 10 0 0)), (4, .int a4)]) dL_law_1397 (by decide) rfl ?_
  refine G_aload_n X 4 dL_law_1399 rfl rfl ?_
  obtain ⟨q178, hq178, h⟩ := bd_some h
  refine G_callV X (As := []) (rest := []) (T' := (x0, x1, x2, ps, ta, tb, d, S, pg, c, q177.1, q175.1)) (st2 := [.int q178]) (ct_X7_thrown (l := g.2.1) (κ := gκ g) (T := (x0, x1, x2, ps, ta, tb, d, S, pg, c, q177.1, q175.1)) (m := q177.1)  hq178) cal_X7_thrown wM_L_139 wI_X7_thrown wS_X7_thrown rfl rfl (by decide) rfl rfl (Nat.le_of_ble_eq_true rfl) (XL.2.2.2 (by omega) (by omega)) dL_law_1400 rfl ?_
  refine G_iload X 1 dL_law_1403 rfl ?_
  refine G_icmp_eq X (tgt := 1410) dL_law_1405 (by decide) (fun c179 => ?_) (fun c179 => ?_)
  · have h := it_t c179 h
    refine G_iload X 1 dL_law_1410 rfl ?_
    refine G_if_ne X (tgt := 1427) dL_law_1412 (by decide) (fun c180 => ?_) (fun c180 => ?_)
    · have h := it_t c180 h
      refine G_goto X (tgt := 2666) dL_law_1427 (by decide) ?_
      refine G_sub [2, 3, 4, 5, 6] rfl ?_
      exact hk _ _ _ (by omega) (by omega) h
    · have h := it_f (fun k => k c180) h
      refine G_aload_n X 5 dL_law_1415 rfl rfl ?_
      refine G_iconst X (v := (0 : Int32)) dL_law_1416 (by decide) ?_
      obtain ⟨g181, h⟩ := gd_some h
      refine G_lald X rfl rfl g181 dL_law_1417 ?_
      refine G_iload X 0 dL_law_1418 rfl ?_
      refine G_i2l X dL_law_1420 ?_
      refine G_lcmp X dL_law_1421 ?_
      refine G_if_eq X (tgt := 1427) dL_law_1422 (by decide) (fun c182 => ?_) (fun c182 => ?_)
      · have h := it_t c182 h
        refine G_goto X (tgt := 2666) dL_law_1427 (by decide) ?_
        refine G_sub [2, 3, 4, 5, 6] rfl ?_
        exact hk _ _ _ (by omega) (by omega) h
      · have h := it_f c182 h
        refine G_iconst X (v := (0 : Int32)) dL_law_1425 (by decide) ?_
        cases h
  · have h := it_f c179 h
    refine G_iconst X (v := (0 : Int32)) dL_law_1408 (by decide) ?_
    cases h
set_option maxRecDepth 20000 in
theorem gL_c22 {g : GX} {a b b0 L : Nat} {xs : Nat → Int32} {k : TT → Option Int32} {x0 x1 x2 ta tb d S pg c m ot : St} {ps : Nat → St} {a4 : Int32} (X : CX g RL cL_law 9 14 538) (XL : XLaw g b0 L xs) (ha : a < 601024) (hb : b + 6 ≤ 7293034) (hk : ∀ (T1 : TT) (a1 b1 : Nat), a1 ≤ a + 1 → b1 ≤ b + 6 → k T1 = some 1 → G g a1 b1 T1 2666 [(0, .ref b0), (1, .ref (xE (gκ g) 8 0 0)), (2, .ref (xE (gκ g) 9 0 0)), (3, .ref (xE (gκ g) 10 0 0)), (4, .int a4)] []) (h : sL_c22 k xs L (x0, x1, x2, ps, ta, tb, d, S, pg, c, m, ot) a4 = some 1) : G g a b (x0, x1, x2, ps, ta, tb, d, S, pg, c, m, ot) 1430 [(0, .ref b0), (1, .ref (xE (gκ g) 8 0 0)), (2, .ref (xE (gκ g) 9 0 0)), (3, .ref (xE (gκ g) 10 0 0)), (4, .int a4)] [] := by
  unfold sL_c22 at h
  dsimp only at h
  refine G_aload_n X 1 dL_law_1430 rfl rfl ?_
  obtain ⟨q183, hq183, h⟩ := bd_some h
  refine G_callV X (As := []) (rest := []) (T' := (x0, x1, x2, ps, ta, tb, d, S, pg, c, m, ot)) (st2 := [.int q183]) (ct_X6_earliest (l := g.2.1) (κ := gκ g)   hq183) cal_X6_earliest wM_L_215 wI_X6_earliest wS_X6_earliest rfl rfl (by decide) rfl rfl (Nat.le_of_ble_eq_true rfl) (XL.2.2.2 (by omega) (by omega)) dL_law_1431 rfl ?_
  refine G_aload_n X 2 dL_law_1434 rfl rfl ?_
  obtain ⟨q184, hq184, h⟩ := bd_some h
  refine G_callV X (As := []) (rest := [.int q183]) (T' := (x0, x1, x2, ps, ta, tb, d, S, pg, c, q184.1, ot)) (st2 := [.int q184.2, .int q183]) (ct_X7_earliest (l := g.2.1) (κ := gκ g) (T := (x0, x1, x2, ps, ta, tb, d, S, pg, c, m, ot)) (m := m)  hq184) cal_X7_earliest wM_L_218 wI_X7_earliest wS_X7_earliest rfl rfl (by decide) rfl rfl (Nat.le_of_ble_eq_true rfl) (XL.2.2.2 (by omega) (by omega)) dL_law_1435 rfl ?_
  refine G_icmp_eq X (tgt := 2666) dL_law_1438 (by decide) (fun c185 => ?_) (fun c185 => ?_)
  · have h := it_t c185 h
    refine G_sub [0, 1, 2, 3, 4] rfl ?_
    exact hk _ _ _ (by omega) (by omega) h
  · have h := it_f c185 h
    refine G_iconst X (v := (0 : Int32)) dL_law_1441 (by decide) ?_
    cases h
set_option maxRecDepth 20000 in
theorem gL_c23 {g : GX} {a b b0 L : Nat} {xs : Nat → Int32} {k : TT → Option Int32} {x0 x1 x2 ta tb d S pg c m ot : St} {ps : Nat → St} {a4 : Int32} (X : CX g RL cL_law 9 14 538) (XL : XLaw g b0 L xs) (ha : a < 601024) (hb : b + 6 ≤ 7293034) (hk : ∀ (T1 : TT) (a1 b1 : Nat), a1 ≤ a + 1 → b1 ≤ b + 6 → k T1 = some 1 → G g a1 b1 T1 2666 [(0, .ref b0), (1, .ref (xE (gκ g) 8 0 0)), (2, .ref (xE (gκ g) 9 0 0)), (3, .ref (xE (gκ g) 10 0 0)), (4, .int a4)] []) (h : sL_c23 k xs L (x0, x1, x2, ps, ta, tb, d, S, pg, c, m, ot) a4 = some 1) : G g a b (x0, x1, x2, ps, ta, tb, d, S, pg, c, m, ot) 1443 [(0, .ref b0), (1, .ref (xE (gκ g) 8 0 0)), (2, .ref (xE (gκ g) 9 0 0)), (3, .ref (xE (gκ g) 10 0 0)), (4, .int a4)] [] := by
  unfold sL_c23 at h
  dsimp only at h
  refine G_aload_n X 1 dL_law_1443 rfl rfl ?_
  refine G_aload_n X 0 dL_law_1444 rfl rfl ?_
  refine G_iload X 4 dL_law_1445 rfl ?_
  refine G_iconst X (v := (1 : Int32)) dL_law_1447 (by decide) ?_
  refine G_iadd X dL_law_1448 ?_
  obtain ⟨g186, h⟩ := gd_some h
  refine G_sld X XL g186 dL_law_1449 ?_
  refine G_aload_n X 3 dL_law_1450 rfl rfl ?_
  obtain ⟨q187, hq187, h⟩ := bd_some h
  refine G_callW X XL (As := [.ref (xE (gκ g) 8 0 0), .int (xs (ix (a4 + ((1 : Int32))))), .ref (xE (gκ g) 10 0 0)]) (rest := []) (T' := (x0, x1, x2, ps, ta, tb, d, S, pg, c, m, q187.1)) (st2 := [.int q187.2]) (ct_L_window (l := g.2.1) (κ := gκ g)   hq187) cal_L_window wM_L_219 wT_L_window (by decide) rfl rfl (Nat.le_of_ble_eq_true rfl) (by omega) (by omega) dL_law_1451 rfl ?_
  refine G_istore X (lv' := [(5, .int q187.2), (0, .ref b0), (1, .ref (xE (gκ g) 8 0 0)), (2, .ref (xE (gκ g) 9 0 0)), (3, .ref (xE (gκ g) 10 0 0)), (4, .int a4)]) dL_law_1454 (by decide) rfl ?_
  refine G_aload_n X 3 dL_law_1456 rfl rfl ?_
  refine G_aload_n X 1 dL_law_1457 rfl rfl ?_
  refine G_iload X 5 dL_law_1458 rfl ?_
  refine G_iconst X (v := (1 : Int32)) dL_law_1460 (by decide) ?_
  refine G_iadd X dL_law_1461 ?_
  obtain ⟨g188, h⟩ := gd_some h
  refine G_sld X XL g188 dL_law_1462 ?_
  obtain ⟨q189, hq189, h⟩ := bd_some h
  refine G_callV X (As := [.int (xs (ix (a4 + ((1 : Int32)))))]) (rest := []) (T' := (x0, x1, x2, ps, ta, tb, d, S, pg, c, q189.1, q187.1)) (st2 := [.int q189.2]) (ct_X7_window (l := g.2.1) (κ := gκ g) (T := (x0, x1, x2, ps, ta, tb, d, S, pg, c, m, q187.1)) (m := m)  hq189) cal_X7_window wM_L_221 wI_X7_window wS_X7_window rfl rfl (by decide) rfl rfl (Nat.le_of_ble_eq_true rfl) (XL.2.2.2 (by omega) (by omega)) dL_law_1463 rfl ?_
  refine G_istore X (lv' := [(6, .int q189.2), (5, .int q187.2), (0, .ref b0), (1, .ref (xE (gκ g) 8 0 0)), (2, .ref (xE (gκ g) 9 0 0)), (3, .ref (xE (gκ g) 10 0 0)), (4, .int a4)]) dL_law_1466 (by decide) rfl ?_
  refine G_aload_n X 4 dL_law_1468 rfl rfl ?_
  obtain ⟨q190, hq190, h⟩ := bd_some h
  refine G_callV X (As := []) (rest := []) (T' := (x0, x1, x2, ps, ta, tb, d, S, pg, c, q189.1, q187.1)) (st2 := [.int q190]) (ct_X7_thrown (l := g.2.1) (κ := gκ g) (T := (x0, x1, x2, ps, ta, tb, d, S, pg, c, q189.1, q187.1)) (m := q189.1)  hq190) cal_X7_thrown wM_L_139 wI_X7_thrown wS_X7_thrown rfl rfl (by decide) rfl rfl (Nat.le_of_ble_eq_true rfl) (XL.2.2.2 (by omega) (by omega)) dL_law_1469 rfl ?_
  refine G_iload X 1 dL_law_1472 rfl ?_
  refine G_icmp_eq X (tgt := 1479) dL_law_1474 (by decide) (fun c191 => ?_) (fun c191 => ?_)
  · have h := it_t c191 h
    refine G_iload X 1 dL_law_1479 rfl ?_
    refine G_if_ne X (tgt := 1496) dL_law_1481 (by decide) (fun c192 => ?_) (fun c192 => ?_)
    · have h := it_t c192 h
      refine G_goto X (tgt := 2666) dL_law_1496 (by decide) ?_
      refine G_sub [2, 3, 4, 5, 6] rfl ?_
      exact hk _ _ _ (by omega) (by omega) h
    · have h := it_f (fun k => k c192) h
      refine G_aload_n X 5 dL_law_1484 rfl rfl ?_
      refine G_iconst X (v := (0 : Int32)) dL_law_1485 (by decide) ?_
      obtain ⟨g193, h⟩ := gd_some h
      refine G_lald X rfl rfl g193 dL_law_1486 ?_
      refine G_iload X 0 dL_law_1487 rfl ?_
      refine G_i2l X dL_law_1489 ?_
      refine G_lcmp X dL_law_1490 ?_
      refine G_if_eq X (tgt := 1496) dL_law_1491 (by decide) (fun c194 => ?_) (fun c194 => ?_)
      · have h := it_t c194 h
        refine G_goto X (tgt := 2666) dL_law_1496 (by decide) ?_
        refine G_sub [2, 3, 4, 5, 6] rfl ?_
        exact hk _ _ _ (by omega) (by omega) h
      · have h := it_f c194 h
        refine G_iconst X (v := (0 : Int32)) dL_law_1494 (by decide) ?_
        cases h
  · have h := it_f c191 h
    refine G_iconst X (v := (0 : Int32)) dL_law_1477 (by decide) ?_
    cases h
set_option maxRecDepth 20000 in
theorem gL_c24 {g : GX} {a b b0 L : Nat} {xs : Nat → Int32} {k : TT → Option Int32} {x0 x1 x2 ta tb d S pg c m ot : St} {ps : Nat → St} {a4 : Int32} (X : CX g RL cL_law 9 14 538) (XL : XLaw g b0 L xs) (ha : a < 601024) (hb : b + 6 ≤ 7293034) (hk : ∀ (T1 : TT) (a1 b1 : Nat), a1 ≤ a + 1 → b1 ≤ b + 6 → k T1 = some 1 → G g a1 b1 T1 2666 [(0, .ref b0), (1, .ref (xE (gκ g) 8 0 0)), (2, .ref (xE (gκ g) 9 0 0)), (3, .ref (xE (gκ g) 10 0 0)), (4, .int a4)] []) (h : sL_c24 k xs L (x0, x1, x2, ps, ta, tb, d, S, pg, c, m, ot) a4 = some 1) : G g a b (x0, x1, x2, ps, ta, tb, d, S, pg, c, m, ot) 1499 [(0, .ref b0), (1, .ref (xE (gκ g) 8 0 0)), (2, .ref (xE (gκ g) 9 0 0)), (3, .ref (xE (gκ g) 10 0 0)), (4, .int a4)] [] := by
  unfold sL_c24 at h
  dsimp only at h
  refine G_aload_n X 1 dL_law_1499 rfl rfl ?_
  refine G_aload_n X 0 dL_law_1500 rfl rfl ?_
  refine G_iload X 4 dL_law_1501 rfl ?_
  refine G_iconst X (v := (1 : Int32)) dL_law_1503 (by decide) ?_
  refine G_iadd X dL_law_1504 ?_
  obtain ⟨g195, h⟩ := gd_some h
  refine G_sld X XL g195 dL_law_1505 ?_
  refine G_aload_n X 0 dL_law_1506 rfl rfl ?_
  refine G_iload X 4 dL_law_1507 rfl ?_
  refine G_iconst X (v := (2 : Int32)) dL_law_1509 (by decide) ?_
  refine G_iadd X dL_law_1510 ?_
  obtain ⟨g196, h⟩ := gd_some h
  refine G_sld X XL g196 dL_law_1511 ?_
  refine G_aload_n X 3 dL_law_1512 rfl rfl ?_
  obtain ⟨q197, hq197, h⟩ := bd_some h
  refine G_callW X XL (As := [.ref (xE (gκ g) 8 0 0), .int (xs (ix (a4 + ((1 : Int32))))), .int (xs (ix (a4 + ((2 : Int32))))), .ref (xE (gκ g) 10 0 0)]) (rest := []) (T' := (x0, q197.1, x2, ps, ta, tb, d, S, pg, c, m, q197.2.1)) (st2 := [.int q197.2.2]) (ct_L_stateIn (l := g.2.1) (κ := gκ g)   hq197) cal_L_stateIn wM_L_222 wT_L_stateIn (by decide) rfl rfl (Nat.le_of_ble_eq_true rfl) (by omega) (by omega) dL_law_1513 rfl ?_
  refine G_istore X (lv' := [(5, .int q197.2.2), (0, .ref b0), (1, .ref (xE (gκ g) 8 0 0)), (2, .ref (xE (gκ g) 9 0 0)), (3, .ref (xE (gκ g) 10 0 0)), (4, .int a4)]) dL_law_1516 (by decide) rfl ?_
  refine G_aload_n X 3 dL_law_1518 rfl rfl ?_
  refine G_aload_n X 1 dL_law_1519 rfl rfl ?_
  refine G_iload X 5 dL_law_1520 rfl ?_
  refine G_iconst X (v := (1 : Int32)) dL_law_1522 (by decide) ?_
  refine G_iadd X dL_law_1523 ?_
  obtain ⟨g198, h⟩ := gd_some h
  refine G_sld X XL g198 dL_law_1524 ?_
  refine G_aload_n X 1 dL_law_1525 rfl rfl ?_
  refine G_iload X 5 dL_law_1526 rfl ?_
  refine G_iconst X (v := (2 : Int32)) dL_law_1528 (by decide) ?_
  refine G_iadd X dL_law_1529 ?_
  obtain ⟨g199, h⟩ := gd_some h
  refine G_sld X XL g199 dL_law_1530 ?_
  obtain ⟨q200, hq200, h⟩ := bd_some h
  refine G_callV X (As := [.int (xs (ix (a4 + ((1 : Int32))))), .int (xs (ix (a4 + ((2 : Int32)))))]) (rest := []) (T' := (x0, q197.1, x2, ps, ta, tb, d, S, pg, c, q200.1, q197.2.1)) (st2 := [.int q200.2]) (ct_X7_stateIn (l := g.2.1) (κ := gκ g) (T := (x0, q197.1, x2, ps, ta, tb, d, S, pg, c, m, q197.2.1)) (m := m)  hq200) cal_X7_stateIn wM_L_224 wI_X7_stateIn wS_X7_stateIn rfl rfl (by decide) rfl rfl (Nat.le_of_ble_eq_true rfl) (XL.2.2.2 (by omega) (by omega)) dL_law_1531 rfl ?_
  refine G_istore X (lv' := [(6, .int q200.2), (5, .int q197.2.2), (0, .ref b0), (1, .ref (xE (gκ g) 8 0 0)), (2, .ref (xE (gκ g) 9 0 0)), (3, .ref (xE (gκ g) 10 0 0)), (4, .int a4)]) dL_law_1534 (by decide) rfl ?_
  refine G_aload_n X 4 dL_law_1536 rfl rfl ?_
  obtain ⟨q201, hq201, h⟩ := bd_some h
  refine G_callV X (As := []) (rest := []) (T' := (x0, q197.1, x2, ps, ta, tb, d, S, pg, c, q200.1, q197.2.1)) (st2 := [.int q201]) (ct_X7_thrown (l := g.2.1) (κ := gκ g) (T := (x0, q197.1, x2, ps, ta, tb, d, S, pg, c, q200.1, q197.2.1)) (m := q200.1)  hq201) cal_X7_thrown wM_L_139 wI_X7_thrown wS_X7_thrown rfl rfl (by decide) rfl rfl (Nat.le_of_ble_eq_true rfl) (XL.2.2.2 (by omega) (by omega)) dL_law_1537 rfl ?_
  refine G_iload X 1 dL_law_1540 rfl ?_
  refine G_icmp_eq X (tgt := 1547) dL_law_1542 (by decide) (fun c202 => ?_) (fun c202 => ?_)
  · have h := it_t c202 h
    refine G_iload X 1 dL_law_1547 rfl ?_
    refine G_if_ne X (tgt := 1564) dL_law_1549 (by decide) (fun c203 => ?_) (fun c203 => ?_)
    · have h := it_t c203 h
      refine G_goto X (tgt := 2666) dL_law_1564 (by decide) ?_
      refine G_sub [2, 3, 4, 5, 6] rfl ?_
      exact hk _ _ _ (by omega) (by omega) h
    · have h := it_f (fun k => k c203) h
      refine G_aload_n X 5 dL_law_1552 rfl rfl ?_
      refine G_iconst X (v := (0 : Int32)) dL_law_1553 (by decide) ?_
      obtain ⟨g204, h⟩ := gd_some h
      refine G_lald X rfl rfl g204 dL_law_1554 ?_
      refine G_iload X 0 dL_law_1555 rfl ?_
      refine G_i2l X dL_law_1557 ?_
      refine G_lcmp X dL_law_1558 ?_
      refine G_if_eq X (tgt := 1564) dL_law_1559 (by decide) (fun c205 => ?_) (fun c205 => ?_)
      · have h := it_t c205 h
        refine G_goto X (tgt := 2666) dL_law_1564 (by decide) ?_
        refine G_sub [2, 3, 4, 5, 6] rfl ?_
        exact hk _ _ _ (by omega) (by omega) h
      · have h := it_f c205 h
        refine G_iconst X (v := (0 : Int32)) dL_law_1562 (by decide) ?_
        cases h
  · have h := it_f c202 h
    refine G_iconst X (v := (0 : Int32)) dL_law_1545 (by decide) ?_
    cases h
set_option maxRecDepth 20000 in
theorem gL_c25 {g : GX} {a b b0 L : Nat} {xs : Nat → Int32} {k : TT → Option Int32} {x0 x1 x2 ta tb d S pg c m ot : St} {ps : Nat → St} {a4 : Int32} (X : CX g RL cL_law 9 14 538) (XL : XLaw g b0 L xs) (ha : a < 601024) (hb : b + 6 ≤ 7293034) (hk : ∀ (T1 : TT) (a1 b1 : Nat), a1 ≤ a + 1 → b1 ≤ b + 6 → k T1 = some 1 → G g a1 b1 T1 2666 [(0, .ref b0), (1, .ref (xE (gκ g) 8 0 0)), (2, .ref (xE (gκ g) 9 0 0)), (3, .ref (xE (gκ g) 10 0 0)), (4, .int a4)] []) (h : sL_c25 k xs L (x0, x1, x2, ps, ta, tb, d, S, pg, c, m, ot) a4 = some 1) : G g a b (x0, x1, x2, ps, ta, tb, d, S, pg, c, m, ot) 1567 [(0, .ref b0), (1, .ref (xE (gκ g) 8 0 0)), (2, .ref (xE (gκ g) 9 0 0)), (3, .ref (xE (gκ g) 10 0 0)), (4, .int a4)] [] := by
  unfold sL_c25 at h
  dsimp only at h
  refine G_aload_n X 1 dL_law_1567 rfl rfl ?_
  refine G_aload_n X 0 dL_law_1568 rfl rfl ?_
  refine G_iload X 4 dL_law_1569 rfl ?_
  refine G_iconst X (v := (1 : Int32)) dL_law_1571 (by decide) ?_
  refine G_iadd X dL_law_1572 ?_
  obtain ⟨g206, h⟩ := gd_some h
  refine G_sld X XL g206 dL_law_1573 ?_
  refine G_aload_n X 0 dL_law_1574 rfl rfl ?_
  refine G_iload X 4 dL_law_1575 rfl ?_
  refine G_iconst X (v := (2 : Int32)) dL_law_1577 (by decide) ?_
  refine G_iadd X dL_law_1578 ?_
  obtain ⟨g207, h⟩ := gd_some h
  refine G_sld X XL g207 dL_law_1579 ?_
  refine G_aload_n X 3 dL_law_1580 rfl rfl ?_
  obtain ⟨q208, hq208, h⟩ := bd_some h
  refine G_callW X XL (As := [.ref (xE (gκ g) 8 0 0), .int (xs (ix (a4 + ((1 : Int32))))), .int (xs (ix (a4 + ((2 : Int32))))), .ref (xE (gκ g) 10 0 0)]) (rest := []) (T' := (x0, q208.1, x2, ps, ta, tb, d, S, pg, c, m, q208.2.1)) (st2 := [.int q208.2.2]) (ct_L_energyIn (l := g.2.1) (κ := gκ g)   hq208) cal_L_energyIn wM_L_225 wT_L_energyIn (by decide) rfl rfl (Nat.le_of_ble_eq_true rfl) (by omega) (by omega) dL_law_1581 rfl ?_
  refine G_istore X (lv' := [(5, .int q208.2.2), (0, .ref b0), (1, .ref (xE (gκ g) 8 0 0)), (2, .ref (xE (gκ g) 9 0 0)), (3, .ref (xE (gκ g) 10 0 0)), (4, .int a4)]) dL_law_1584 (by decide) rfl ?_
  refine G_aload_n X 3 dL_law_1586 rfl rfl ?_
  refine G_aload_n X 1 dL_law_1587 rfl rfl ?_
  refine G_iload X 5 dL_law_1588 rfl ?_
  refine G_iconst X (v := (1 : Int32)) dL_law_1590 (by decide) ?_
  refine G_iadd X dL_law_1591 ?_
  obtain ⟨g209, h⟩ := gd_some h
  refine G_sld X XL g209 dL_law_1592 ?_
  refine G_aload_n X 1 dL_law_1593 rfl rfl ?_
  refine G_iload X 5 dL_law_1594 rfl ?_
  refine G_iconst X (v := (2 : Int32)) dL_law_1596 (by decide) ?_
  refine G_iadd X dL_law_1597 ?_
  obtain ⟨g210, h⟩ := gd_some h
  refine G_sld X XL g210 dL_law_1598 ?_
  obtain ⟨q211, hq211, h⟩ := bd_some h
  refine G_callV X (As := [.int (xs (ix (a4 + ((1 : Int32))))), .int (xs (ix (a4 + ((2 : Int32)))))]) (rest := []) (T' := (x0, q208.1, x2, ps, ta, tb, d, S, pg, c, q211.1, q208.2.1)) (st2 := [.int q211.2]) (ct_X7_energyIn (l := g.2.1) (κ := gκ g) (T := (x0, q208.1, x2, ps, ta, tb, d, S, pg, c, m, q208.2.1)) (m := m)  hq211) cal_X7_energyIn wM_L_227 wI_X7_energyIn wS_X7_energyIn rfl rfl (by decide) rfl rfl (Nat.le_of_ble_eq_true rfl) (XL.2.2.2 (by omega) (by omega)) dL_law_1599 rfl ?_
  refine G_istore X (lv' := [(6, .int q211.2), (5, .int q208.2.2), (0, .ref b0), (1, .ref (xE (gκ g) 8 0 0)), (2, .ref (xE (gκ g) 9 0 0)), (3, .ref (xE (gκ g) 10 0 0)), (4, .int a4)]) dL_law_1602 (by decide) rfl ?_
  refine G_aload_n X 4 dL_law_1604 rfl rfl ?_
  obtain ⟨q212, hq212, h⟩ := bd_some h
  refine G_callV X (As := []) (rest := []) (T' := (x0, q208.1, x2, ps, ta, tb, d, S, pg, c, q211.1, q208.2.1)) (st2 := [.int q212]) (ct_X7_thrown (l := g.2.1) (κ := gκ g) (T := (x0, q208.1, x2, ps, ta, tb, d, S, pg, c, q211.1, q208.2.1)) (m := q211.1)  hq212) cal_X7_thrown wM_L_139 wI_X7_thrown wS_X7_thrown rfl rfl (by decide) rfl rfl (Nat.le_of_ble_eq_true rfl) (XL.2.2.2 (by omega) (by omega)) dL_law_1605 rfl ?_
  refine G_iload X 1 dL_law_1608 rfl ?_
  refine G_icmp_eq X (tgt := 1615) dL_law_1610 (by decide) (fun c213 => ?_) (fun c213 => ?_)
  · have h := it_t c213 h
    refine G_iload X 1 dL_law_1615 rfl ?_
    refine G_if_ne X (tgt := 1632) dL_law_1617 (by decide) (fun c214 => ?_) (fun c214 => ?_)
    · have h := it_t c214 h
      refine G_goto X (tgt := 2666) dL_law_1632 (by decide) ?_
      refine G_sub [2, 3, 4, 5, 6] rfl ?_
      exact hk _ _ _ (by omega) (by omega) h
    · have h := it_f (fun k => k c214) h
      refine G_aload_n X 5 dL_law_1620 rfl rfl ?_
      refine G_iconst X (v := (0 : Int32)) dL_law_1621 (by decide) ?_
      obtain ⟨g215, h⟩ := gd_some h
      refine G_lald X rfl rfl g215 dL_law_1622 ?_
      refine G_iload X 0 dL_law_1623 rfl ?_
      refine G_i2l X dL_law_1625 ?_
      refine G_lcmp X dL_law_1626 ?_
      refine G_if_eq X (tgt := 1632) dL_law_1627 (by decide) (fun c216 => ?_) (fun c216 => ?_)
      · have h := it_t c216 h
        refine G_goto X (tgt := 2666) dL_law_1632 (by decide) ?_
        refine G_sub [2, 3, 4, 5, 6] rfl ?_
        exact hk _ _ _ (by omega) (by omega) h
      · have h := it_f c216 h
        refine G_iconst X (v := (0 : Int32)) dL_law_1630 (by decide) ?_
        cases h
  · have h := it_f c213 h
    refine G_iconst X (v := (0 : Int32)) dL_law_1613 (by decide) ?_
    cases h
set_option maxRecDepth 20000 in
theorem gL_c26 {g : GX} {a b b0 L : Nat} {xs : Nat → Int32} {k : TT → Option Int32} {x0 x1 x2 ta tb d S pg c m ot : St} {ps : Nat → St} {a4 : Int32} (X : CX g RL cL_law 9 14 538) (XL : XLaw g b0 L xs) (ha : a < 601024) (hb : b + 6 ≤ 7293034) (hk : ∀ (T1 : TT) (a1 b1 : Nat), a1 ≤ a + 1 → b1 ≤ b + 6 → k T1 = some 1 → G g a1 b1 T1 2666 [(0, .ref b0), (1, .ref (xE (gκ g) 8 0 0)), (2, .ref (xE (gκ g) 9 0 0)), (3, .ref (xE (gκ g) 10 0 0)), (4, .int a4)] []) (h : sL_c26 k xs L (x0, x1, x2, ps, ta, tb, d, S, pg, c, m, ot) a4 = some 1) : G g a b (x0, x1, x2, ps, ta, tb, d, S, pg, c, m, ot) 1635 [(0, .ref b0), (1, .ref (xE (gκ g) 8 0 0)), (2, .ref (xE (gκ g) 9 0 0)), (3, .ref (xE (gκ g) 10 0 0)), (4, .int a4)] [] := by
  unfold sL_c26 at h
  dsimp only at h
  refine G_aload_n X 1 dL_law_1635 rfl rfl ?_
  refine G_aload_n X 0 dL_law_1636 rfl rfl ?_
  refine G_iload X 4 dL_law_1637 rfl ?_
  refine G_iconst X (v := (1 : Int32)) dL_law_1639 (by decide) ?_
  refine G_iadd X dL_law_1640 ?_
  obtain ⟨g217, h⟩ := gd_some h
  refine G_sld X XL g217 dL_law_1641 ?_
  refine G_aload_n X 3 dL_law_1642 rfl rfl ?_
  obtain ⟨q218, hq218, h⟩ := bd_some h
  refine G_callW X XL (As := [.ref (xE (gκ g) 8 0 0), .int (xs (ix (a4 + ((1 : Int32))))), .ref (xE (gκ g) 10 0 0)]) (rest := []) (T' := (x0, q218.1, x2, ps, ta, tb, d, S, pg, c, m, q218.2.1)) (st2 := [.int q218.2.2]) (ct_L_collisionsIn (l := g.2.1) (κ := gκ g)   hq218) cal_L_collisionsIn wM_L_228 wT_L_collisionsIn (by decide) rfl rfl (Nat.le_of_ble_eq_true rfl) (by omega) (by omega) dL_law_1643 rfl ?_
  refine G_istore X (lv' := [(5, .int q218.2.2), (0, .ref b0), (1, .ref (xE (gκ g) 8 0 0)), (2, .ref (xE (gκ g) 9 0 0)), (3, .ref (xE (gκ g) 10 0 0)), (4, .int a4)]) dL_law_1646 (by decide) rfl ?_
  refine G_aload_n X 3 dL_law_1648 rfl rfl ?_
  refine G_aload_n X 1 dL_law_1649 rfl rfl ?_
  refine G_iload X 5 dL_law_1650 rfl ?_
  refine G_iconst X (v := (1 : Int32)) dL_law_1652 (by decide) ?_
  refine G_iadd X dL_law_1653 ?_
  obtain ⟨g219, h⟩ := gd_some h
  refine G_sld X XL g219 dL_law_1654 ?_
  obtain ⟨q220, hq220, h⟩ := bd_some h
  refine G_callV X (As := [.int (xs (ix (a4 + ((1 : Int32)))))]) (rest := []) (T' := (x0, q218.1, x2, ps, ta, tb, d, S, pg, c, q220.1, q218.2.1)) (st2 := [.int q220.2]) (ct_X7_collisionsIn (l := g.2.1) (κ := gκ g) (T := (x0, q218.1, x2, ps, ta, tb, d, S, pg, c, m, q218.2.1)) (m := m)  hq220) cal_X7_collisionsIn wM_L_230 wI_X7_collisionsIn wS_X7_collisionsIn rfl rfl (by decide) rfl rfl (Nat.le_of_ble_eq_true rfl) (XL.2.2.2 (by omega) (by omega)) dL_law_1655 rfl ?_
  refine G_istore X (lv' := [(6, .int q220.2), (5, .int q218.2.2), (0, .ref b0), (1, .ref (xE (gκ g) 8 0 0)), (2, .ref (xE (gκ g) 9 0 0)), (3, .ref (xE (gκ g) 10 0 0)), (4, .int a4)]) dL_law_1658 (by decide) rfl ?_
  refine G_aload_n X 4 dL_law_1660 rfl rfl ?_
  obtain ⟨q221, hq221, h⟩ := bd_some h
  refine G_callV X (As := []) (rest := []) (T' := (x0, q218.1, x2, ps, ta, tb, d, S, pg, c, q220.1, q218.2.1)) (st2 := [.int q221]) (ct_X7_thrown (l := g.2.1) (κ := gκ g) (T := (x0, q218.1, x2, ps, ta, tb, d, S, pg, c, q220.1, q218.2.1)) (m := q220.1)  hq221) cal_X7_thrown wM_L_139 wI_X7_thrown wS_X7_thrown rfl rfl (by decide) rfl rfl (Nat.le_of_ble_eq_true rfl) (XL.2.2.2 (by omega) (by omega)) dL_law_1661 rfl ?_
  refine G_iload X 1 dL_law_1664 rfl ?_
  refine G_icmp_eq X (tgt := 1671) dL_law_1666 (by decide) (fun c222 => ?_) (fun c222 => ?_)
  · have h := it_t c222 h
    refine G_iload X 1 dL_law_1671 rfl ?_
    refine G_if_ne X (tgt := 1688) dL_law_1673 (by decide) (fun c223 => ?_) (fun c223 => ?_)
    · have h := it_t c223 h
      refine G_goto X (tgt := 2666) dL_law_1688 (by decide) ?_
      refine G_sub [2, 3, 4, 5, 6] rfl ?_
      exact hk _ _ _ (by omega) (by omega) h
    · have h := it_f (fun k => k c223) h
      refine G_aload_n X 5 dL_law_1676 rfl rfl ?_
      refine G_iconst X (v := (0 : Int32)) dL_law_1677 (by decide) ?_
      obtain ⟨g224, h⟩ := gd_some h
      refine G_lald X rfl rfl g224 dL_law_1678 ?_
      refine G_iload X 0 dL_law_1679 rfl ?_
      refine G_i2l X dL_law_1681 ?_
      refine G_lcmp X dL_law_1682 ?_
      refine G_if_eq X (tgt := 1688) dL_law_1683 (by decide) (fun c225 => ?_) (fun c225 => ?_)
      · have h := it_t c225 h
        refine G_goto X (tgt := 2666) dL_law_1688 (by decide) ?_
        refine G_sub [2, 3, 4, 5, 6] rfl ?_
        exact hk _ _ _ (by omega) (by omega) h
      · have h := it_f c225 h
        refine G_iconst X (v := (0 : Int32)) dL_law_1686 (by decide) ?_
        cases h
  · have h := it_f c222 h
    refine G_iconst X (v := (0 : Int32)) dL_law_1669 (by decide) ?_
    cases h
set_option maxRecDepth 20000 in
theorem gL_c27 {g : GX} {a b b0 L : Nat} {xs : Nat → Int32} {k : TT → Option Int32} {x0 x1 x2 ta tb d S pg c m ot : St} {ps : Nat → St} {a4 : Int32} (X : CX g RL cL_law 9 14 538) (XL : XLaw g b0 L xs) (ha : a < 601024) (hb : b + 6 ≤ 7293034) (hk : ∀ (T1 : TT) (a1 b1 : Nat), a1 ≤ a + 1 → b1 ≤ b + 6 → k T1 = some 1 → G g a1 b1 T1 2666 [(0, .ref b0), (1, .ref (xE (gκ g) 8 0 0)), (2, .ref (xE (gκ g) 9 0 0)), (3, .ref (xE (gκ g) 10 0 0)), (4, .int a4)] []) (h : sL_c27 k xs L (x0, x1, x2, ps, ta, tb, d, S, pg, c, m, ot) a4 = some 1) : G g a b (x0, x1, x2, ps, ta, tb, d, S, pg, c, m, ot) 1691 [(0, .ref b0), (1, .ref (xE (gκ g) 8 0 0)), (2, .ref (xE (gκ g) 9 0 0)), (3, .ref (xE (gκ g) 10 0 0)), (4, .int a4)] [] := by
  unfold sL_c27 at h
  dsimp only at h
  refine G_aload_n X 1 dL_law_1691 rfl rfl ?_
  refine G_aload_n X 0 dL_law_1692 rfl rfl ?_
  refine G_iload X 4 dL_law_1693 rfl ?_
  refine G_iconst X (v := (1 : Int32)) dL_law_1695 (by decide) ?_
  refine G_iadd X dL_law_1696 ?_
  obtain ⟨g226, h⟩ := gd_some h
  refine G_sld X XL g226 dL_law_1697 ?_
  refine G_aload_n X 0 dL_law_1698 rfl rfl ?_
  refine G_iload X 4 dL_law_1699 rfl ?_
  refine G_iconst X (v := (2 : Int32)) dL_law_1701 (by decide) ?_
  refine G_iadd X dL_law_1702 ?_
  obtain ⟨g227, h⟩ := gd_some h
  refine G_sld X XL g227 dL_law_1703 ?_
  refine G_aload_n X 3 dL_law_1704 rfl rfl ?_
  obtain ⟨q228, hq228, h⟩ := bd_some h
  refine G_callW X XL (As := [.ref (xE (gκ g) 8 0 0), .int (xs (ix (a4 + ((1 : Int32))))), .int (xs (ix (a4 + ((2 : Int32))))), .ref (xE (gκ g) 10 0 0)]) (rest := []) (T' := (x0, q228.1, x2, ps, ta, tb, d, S, pg, c, m, q228.2.1)) (st2 := [.int q228.2.2]) (ct_L_knowsIn (l := g.2.1) (κ := gκ g)   hq228) cal_L_knowsIn wM_L_231 wT_L_knowsIn (by decide) rfl rfl (Nat.le_of_ble_eq_true rfl) (by omega) (by omega) dL_law_1705 rfl ?_
  refine G_istore X (lv' := [(5, .int q228.2.2), (0, .ref b0), (1, .ref (xE (gκ g) 8 0 0)), (2, .ref (xE (gκ g) 9 0 0)), (3, .ref (xE (gκ g) 10 0 0)), (4, .int a4)]) dL_law_1708 (by decide) rfl ?_
  refine G_aload_n X 3 dL_law_1710 rfl rfl ?_
  refine G_aload_n X 1 dL_law_1711 rfl rfl ?_
  refine G_iload X 5 dL_law_1712 rfl ?_
  refine G_iconst X (v := (1 : Int32)) dL_law_1714 (by decide) ?_
  refine G_iadd X dL_law_1715 ?_
  obtain ⟨g229, h⟩ := gd_some h
  refine G_sld X XL g229 dL_law_1716 ?_
  refine G_aload_n X 1 dL_law_1717 rfl rfl ?_
  refine G_iload X 5 dL_law_1718 rfl ?_
  refine G_iconst X (v := (2 : Int32)) dL_law_1720 (by decide) ?_
  refine G_iadd X dL_law_1721 ?_
  obtain ⟨g230, h⟩ := gd_some h
  refine G_sld X XL g230 dL_law_1722 ?_
  obtain ⟨q231, hq231, h⟩ := bd_some h
  refine G_callV X (As := [.int (xs (ix (a4 + ((1 : Int32))))), .int (xs (ix (a4 + ((2 : Int32)))))]) (rest := []) (T' := (x0, q228.1, x2, ps, ta, tb, d, S, pg, c, q231.1, q228.2.1)) (st2 := [.int q231.2]) (ct_X7_knowsIn (l := g.2.1) (κ := gκ g) (T := (x0, q228.1, x2, ps, ta, tb, d, S, pg, c, m, q228.2.1)) (m := m)  hq231) cal_X7_knowsIn wM_L_233 wI_X7_knowsIn wS_X7_knowsIn rfl rfl (by decide) rfl rfl (Nat.le_of_ble_eq_true rfl) (XL.2.2.2 (by omega) (by omega)) dL_law_1723 rfl ?_
  refine G_istore X (lv' := [(6, .int q231.2), (5, .int q228.2.2), (0, .ref b0), (1, .ref (xE (gκ g) 8 0 0)), (2, .ref (xE (gκ g) 9 0 0)), (3, .ref (xE (gκ g) 10 0 0)), (4, .int a4)]) dL_law_1726 (by decide) rfl ?_
  refine G_aload_n X 4 dL_law_1728 rfl rfl ?_
  obtain ⟨q232, hq232, h⟩ := bd_some h
  refine G_callV X (As := []) (rest := []) (T' := (x0, q228.1, x2, ps, ta, tb, d, S, pg, c, q231.1, q228.2.1)) (st2 := [.int q232]) (ct_X7_thrown (l := g.2.1) (κ := gκ g) (T := (x0, q228.1, x2, ps, ta, tb, d, S, pg, c, q231.1, q228.2.1)) (m := q231.1)  hq232) cal_X7_thrown wM_L_139 wI_X7_thrown wS_X7_thrown rfl rfl (by decide) rfl rfl (Nat.le_of_ble_eq_true rfl) (XL.2.2.2 (by omega) (by omega)) dL_law_1729 rfl ?_
  refine G_iload X 1 dL_law_1732 rfl ?_
  refine G_icmp_eq X (tgt := 1739) dL_law_1734 (by decide) (fun c233 => ?_) (fun c233 => ?_)
  · have h := it_t c233 h
    refine G_iload X 1 dL_law_1739 rfl ?_
    refine G_if_ne X (tgt := 1756) dL_law_1741 (by decide) (fun c234 => ?_) (fun c234 => ?_)
    · have h := it_t c234 h
      refine G_goto X (tgt := 2666) dL_law_1756 (by decide) ?_
      refine G_sub [2, 3, 4, 5, 6] rfl ?_
      exact hk _ _ _ (by omega) (by omega) h
    · have h := it_f (fun k => k c234) h
      refine G_aload_n X 5 dL_law_1744 rfl rfl ?_
      refine G_iconst X (v := (0 : Int32)) dL_law_1745 (by decide) ?_
      obtain ⟨g235, h⟩ := gd_some h
      refine G_lald X rfl rfl g235 dL_law_1746 ?_
      refine G_iload X 0 dL_law_1747 rfl ?_
      refine G_i2l X dL_law_1749 ?_
      refine G_lcmp X dL_law_1750 ?_
      refine G_if_eq X (tgt := 1756) dL_law_1751 (by decide) (fun c236 => ?_) (fun c236 => ?_)
      · have h := it_t c236 h
        refine G_goto X (tgt := 2666) dL_law_1756 (by decide) ?_
        refine G_sub [2, 3, 4, 5, 6] rfl ?_
        exact hk _ _ _ (by omega) (by omega) h
      · have h := it_f c236 h
        refine G_iconst X (v := (0 : Int32)) dL_law_1754 (by decide) ?_
        cases h
  · have h := it_f c233 h
    refine G_iconst X (v := (0 : Int32)) dL_law_1737 (by decide) ?_
    cases h
set_option maxRecDepth 20000 in
theorem gL_c28 {g : GX} {a b b0 L : Nat} {xs : Nat → Int32} {k : TT → Option Int32} {x0 x1 x2 ta tb d S pg c m ot : St} {ps : Nat → St} {a4 : Int32} (X : CX g RL cL_law 9 14 538) (XL : XLaw g b0 L xs) (ha : a < 601024) (hb : b + 6 ≤ 7293034) (hk : ∀ (T1 : TT) (a1 b1 : Nat), a1 ≤ a + 1 → b1 ≤ b + 6 → k T1 = some 1 → G g a1 b1 T1 2666 [(0, .ref b0), (1, .ref (xE (gκ g) 8 0 0)), (2, .ref (xE (gκ g) 9 0 0)), (3, .ref (xE (gκ g) 10 0 0)), (4, .int a4)] []) (h : sL_c28 k xs L (x0, x1, x2, ps, ta, tb, d, S, pg, c, m, ot) a4 = some 1) : G g a b (x0, x1, x2, ps, ta, tb, d, S, pg, c, m, ot) 1759 [(0, .ref b0), (1, .ref (xE (gκ g) 8 0 0)), (2, .ref (xE (gκ g) 9 0 0)), (3, .ref (xE (gκ g) 10 0 0)), (4, .int a4)] [] := by
  unfold sL_c28 at h
  dsimp only at h
  refine G_aload_n X 1 dL_law_1759 rfl rfl ?_
  obtain ⟨q237, hq237, h⟩ := bd_some h
  refine G_callV X (As := []) (rest := []) (T' := (x0, q237.1, x2, ps, ta, tb, d, S, pg, c, m, ot)) (st2 := [.int q237.2]) (ct_X6_allKnownIn (l := g.2.1) (κ := gκ g)   hq237) cal_X6_allKnownIn wM_L_234 wI_X6_allKnownIn wS_X6_allKnownIn rfl rfl (by decide) rfl rfl (Nat.le_of_ble_eq_true rfl) (XL.2.2.2 (by omega) (by omega)) dL_law_1760 rfl ?_
  refine G_aload_n X 2 dL_law_1763 rfl rfl ?_
  obtain ⟨q238, hq238, h⟩ := bd_some h
  refine G_callV X (As := []) (rest := [.int q237.2]) (T' := (x0, q237.1, x2, ps, ta, tb, d, S, pg, c, q238.1, ot)) (st2 := [.int q238.2, .int q237.2]) (ct_X7_allKnownIn (l := g.2.1) (κ := gκ g) (T := (x0, q237.1, x2, ps, ta, tb, d, S, pg, c, m, ot)) (m := m)  hq238) cal_X7_allKnownIn wM_L_237 wI_X7_allKnownIn wS_X7_allKnownIn rfl rfl (by decide) rfl rfl (Nat.le_of_ble_eq_true rfl) (XL.2.2.2 (by omega) (by omega)) dL_law_1764 rfl ?_
  refine G_icmp_eq X (tgt := 2666) dL_law_1767 (by decide) (fun c239 => ?_) (fun c239 => ?_)
  · have h := it_t c239 h
    refine G_sub [0, 1, 2, 3, 4] rfl ?_
    exact hk _ _ _ (by omega) (by omega) h
  · have h := it_f c239 h
    refine G_iconst X (v := (0 : Int32)) dL_law_1770 (by decide) ?_
    cases h
set_option maxRecDepth 20000 in
theorem gL_c29 {g : GX} {a b b0 L : Nat} {xs : Nat → Int32} {k : TT → Option Int32} {x0 x1 x2 ta tb d S pg c m ot : St} {ps : Nat → St} {a4 : Int32} (X : CX g RL cL_law 9 14 538) (XL : XLaw g b0 L xs) (ha : a < 601024) (hb : b + 6 ≤ 7293034) (hk : ∀ (T1 : TT) (a1 b1 : Nat), a1 ≤ a + 1 → b1 ≤ b + 6 → k T1 = some 1 → G g a1 b1 T1 2666 [(0, .ref b0), (1, .ref (xE (gκ g) 8 0 0)), (2, .ref (xE (gκ g) 9 0 0)), (3, .ref (xE (gκ g) 10 0 0)), (4, .int a4)] []) (h : sL_c29 k xs L (x0, x1, x2, ps, ta, tb, d, S, pg, c, m, ot) a4 = some 1) : G g a b (x0, x1, x2, ps, ta, tb, d, S, pg, c, m, ot) 1772 [(0, .ref b0), (1, .ref (xE (gκ g) 8 0 0)), (2, .ref (xE (gκ g) 9 0 0)), (3, .ref (xE (gκ g) 10 0 0)), (4, .int a4)] [] := by
  unfold sL_c29 at h
  dsimp only at h
  refine G_aload_n X 1 dL_law_1772 rfl rfl ?_
  refine G_aload_n X 0 dL_law_1773 rfl rfl ?_
  refine G_iload X 4 dL_law_1774 rfl ?_
  refine G_iconst X (v := (1 : Int32)) dL_law_1776 (by decide) ?_
  refine G_iadd X dL_law_1777 ?_
  obtain ⟨g240, h⟩ := gd_some h
  refine G_sld X XL g240 dL_law_1778 ?_
  refine G_aload_n X 3 dL_law_1779 rfl rfl ?_
  obtain ⟨q241, hq241, h⟩ := bd_some h
  refine G_callW X XL (As := [.ref (xE (gκ g) 8 0 0), .int (xs (ix (a4 + ((1 : Int32))))), .ref (xE (gκ g) 10 0 0)]) (rest := []) (T' := (x0, q241.1, x2, ps, ta, tb, d, S, pg, c, m, q241.2.1)) (st2 := [.int q241.2.2]) (ct_L_outIn (l := g.2.1) (κ := gκ g)   hq241) cal_L_outIn wM_L_238 wT_L_outIn (by decide) rfl rfl (Nat.le_of_ble_eq_true rfl) (by omega) (by omega) dL_law_1780 rfl ?_
  refine G_istore X (lv' := [(5, .int q241.2.2), (0, .ref b0), (1, .ref (xE (gκ g) 8 0 0)), (2, .ref (xE (gκ g) 9 0 0)), (3, .ref (xE (gκ g) 10 0 0)), (4, .int a4)]) dL_law_1783 (by decide) rfl ?_
  refine G_aload_n X 3 dL_law_1785 rfl rfl ?_
  refine G_aload_n X 1 dL_law_1786 rfl rfl ?_
  refine G_iload X 5 dL_law_1787 rfl ?_
  refine G_iconst X (v := (1 : Int32)) dL_law_1789 (by decide) ?_
  refine G_iadd X dL_law_1790 ?_
  obtain ⟨g242, h⟩ := gd_some h
  refine G_sld X XL g242 dL_law_1791 ?_
  obtain ⟨q243, hq243, h⟩ := bd_some h
  refine G_callV X (As := [.int (xs (ix (a4 + ((1 : Int32)))))]) (rest := []) (T' := (x0, q241.1, x2, ps, ta, tb, d, S, pg, c, q243.1, q241.2.1)) (st2 := [.int q243.2]) (ct_X7_outIn (l := g.2.1) (κ := gκ g) (T := (x0, q241.1, x2, ps, ta, tb, d, S, pg, c, m, q241.2.1)) (m := m)  hq243) cal_X7_outIn wM_L_240 wI_X7_outIn wS_X7_outIn rfl rfl (by decide) rfl rfl (Nat.le_of_ble_eq_true rfl) (XL.2.2.2 (by omega) (by omega)) dL_law_1792 rfl ?_
  refine G_istore X (lv' := [(6, .int q243.2), (5, .int q241.2.2), (0, .ref b0), (1, .ref (xE (gκ g) 8 0 0)), (2, .ref (xE (gκ g) 9 0 0)), (3, .ref (xE (gκ g) 10 0 0)), (4, .int a4)]) dL_law_1795 (by decide) rfl ?_
  refine G_aload_n X 4 dL_law_1797 rfl rfl ?_
  obtain ⟨q244, hq244, h⟩ := bd_some h
  refine G_callV X (As := []) (rest := []) (T' := (x0, q241.1, x2, ps, ta, tb, d, S, pg, c, q243.1, q241.2.1)) (st2 := [.int q244]) (ct_X7_thrown (l := g.2.1) (κ := gκ g) (T := (x0, q241.1, x2, ps, ta, tb, d, S, pg, c, q243.1, q241.2.1)) (m := q243.1)  hq244) cal_X7_thrown wM_L_139 wI_X7_thrown wS_X7_thrown rfl rfl (by decide) rfl rfl (Nat.le_of_ble_eq_true rfl) (XL.2.2.2 (by omega) (by omega)) dL_law_1798 rfl ?_
  refine G_iload X 1 dL_law_1801 rfl ?_
  refine G_icmp_eq X (tgt := 1808) dL_law_1803 (by decide) (fun c245 => ?_) (fun c245 => ?_)
  · have h := it_t c245 h
    refine G_iload X 1 dL_law_1808 rfl ?_
    refine G_if_ne X (tgt := 1825) dL_law_1810 (by decide) (fun c246 => ?_) (fun c246 => ?_)
    · have h := it_t c246 h
      refine G_goto X (tgt := 2666) dL_law_1825 (by decide) ?_
      refine G_sub [2, 3, 4, 5, 6] rfl ?_
      exact hk _ _ _ (by omega) (by omega) h
    · have h := it_f (fun k => k c246) h
      refine G_aload_n X 5 dL_law_1813 rfl rfl ?_
      refine G_iconst X (v := (0 : Int32)) dL_law_1814 (by decide) ?_
      obtain ⟨g247, h⟩ := gd_some h
      refine G_lald X rfl rfl g247 dL_law_1815 ?_
      refine G_iload X 0 dL_law_1816 rfl ?_
      refine G_i2l X dL_law_1818 ?_
      refine G_lcmp X dL_law_1819 ?_
      refine G_if_eq X (tgt := 1825) dL_law_1820 (by decide) (fun c248 => ?_) (fun c248 => ?_)
      · have h := it_t c248 h
        refine G_goto X (tgt := 2666) dL_law_1825 (by decide) ?_
        refine G_sub [2, 3, 4, 5, 6] rfl ?_
        exact hk _ _ _ (by omega) (by omega) h
      · have h := it_f c248 h
        refine G_iconst X (v := (0 : Int32)) dL_law_1823 (by decide) ?_
        cases h
  · have h := it_f c245 h
    refine G_iconst X (v := (0 : Int32)) dL_law_1806 (by decide) ?_
    cases h
set_option maxRecDepth 20000 in
theorem gL_c30 {g : GX} {a b b0 L : Nat} {xs : Nat → Int32} {k : TT → Option Int32} {x0 x1 x2 ta tb d S pg c m ot : St} {ps : Nat → St} {a4 : Int32} (X : CX g RL cL_law 9 14 538) (XL : XLaw g b0 L xs) (ha : a < 601024) (hb : b + 6 ≤ 7293034) (hk : ∀ (T1 : TT) (a1 b1 : Nat), a1 ≤ a + 1 → b1 ≤ b + 6 → k T1 = some 1 → G g a1 b1 T1 2666 [(0, .ref b0), (1, .ref (xE (gκ g) 8 0 0)), (2, .ref (xE (gκ g) 9 0 0)), (3, .ref (xE (gκ g) 10 0 0)), (4, .int a4)] []) (h : sL_c30 k xs L (x0, x1, x2, ps, ta, tb, d, S, pg, c, m, ot) a4 = some 1) : G g a b (x0, x1, x2, ps, ta, tb, d, S, pg, c, m, ot) 1828 [(0, .ref b0), (1, .ref (xE (gκ g) 8 0 0)), (2, .ref (xE (gκ g) 9 0 0)), (3, .ref (xE (gκ g) 10 0 0)), (4, .int a4)] [] := by
  unfold sL_c30 at h
  dsimp only at h
  refine G_aload_n X 1 dL_law_1828 rfl rfl ?_
  refine G_aload_n X 0 dL_law_1829 rfl rfl ?_
  refine G_iload X 4 dL_law_1830 rfl ?_
  refine G_iconst X (v := (1 : Int32)) dL_law_1832 (by decide) ?_
  refine G_iadd X dL_law_1833 ?_
  obtain ⟨g249, h⟩ := gd_some h
  refine G_sld X XL g249 dL_law_1834 ?_
  refine G_aload_n X 3 dL_law_1835 rfl rfl ?_
  obtain ⟨q250, hq250, h⟩ := bd_some h
  refine G_callW X XL (As := [.ref (xE (gκ g) 8 0 0), .int (xs (ix (a4 + ((1 : Int32))))), .ref (xE (gκ g) 10 0 0)]) (rest := []) (T' := (x0, q250.1, x2, ps, ta, tb, d, S, pg, c, m, q250.2.1)) (st2 := [.int q250.2.2]) (ct_L_sendsIn (l := g.2.1) (κ := gκ g)   hq250) cal_L_sendsIn wM_L_241 wT_L_sendsIn (by decide) rfl rfl (Nat.le_of_ble_eq_true rfl) (by omega) (by omega) dL_law_1836 rfl ?_
  refine G_istore X (lv' := [(5, .int q250.2.2), (0, .ref b0), (1, .ref (xE (gκ g) 8 0 0)), (2, .ref (xE (gκ g) 9 0 0)), (3, .ref (xE (gκ g) 10 0 0)), (4, .int a4)]) dL_law_1839 (by decide) rfl ?_
  refine G_aload_n X 3 dL_law_1841 rfl rfl ?_
  refine G_aload_n X 1 dL_law_1842 rfl rfl ?_
  refine G_iload X 5 dL_law_1843 rfl ?_
  refine G_iconst X (v := (1 : Int32)) dL_law_1845 (by decide) ?_
  refine G_iadd X dL_law_1846 ?_
  obtain ⟨g251, h⟩ := gd_some h
  refine G_sld X XL g251 dL_law_1847 ?_
  obtain ⟨q252, hq252, h⟩ := bd_some h
  refine G_callV X (As := [.int (xs (ix (a4 + ((1 : Int32)))))]) (rest := []) (T' := (x0, q250.1, x2, ps, ta, tb, d, S, pg, c, q252.1, q250.2.1)) (st2 := [.int q252.2]) (ct_X7_sendsIn (l := g.2.1) (κ := gκ g) (T := (x0, q250.1, x2, ps, ta, tb, d, S, pg, c, m, q250.2.1)) (m := m)  hq252) cal_X7_sendsIn wM_L_243 wI_X7_sendsIn wS_X7_sendsIn rfl rfl (by decide) rfl rfl (Nat.le_of_ble_eq_true rfl) (XL.2.2.2 (by omega) (by omega)) dL_law_1848 rfl ?_
  refine G_istore X (lv' := [(6, .int q252.2), (5, .int q250.2.2), (0, .ref b0), (1, .ref (xE (gκ g) 8 0 0)), (2, .ref (xE (gκ g) 9 0 0)), (3, .ref (xE (gκ g) 10 0 0)), (4, .int a4)]) dL_law_1851 (by decide) rfl ?_
  refine G_aload_n X 4 dL_law_1853 rfl rfl ?_
  obtain ⟨q253, hq253, h⟩ := bd_some h
  refine G_callV X (As := []) (rest := []) (T' := (x0, q250.1, x2, ps, ta, tb, d, S, pg, c, q252.1, q250.2.1)) (st2 := [.int q253]) (ct_X7_thrown (l := g.2.1) (κ := gκ g) (T := (x0, q250.1, x2, ps, ta, tb, d, S, pg, c, q252.1, q250.2.1)) (m := q252.1)  hq253) cal_X7_thrown wM_L_139 wI_X7_thrown wS_X7_thrown rfl rfl (by decide) rfl rfl (Nat.le_of_ble_eq_true rfl) (XL.2.2.2 (by omega) (by omega)) dL_law_1854 rfl ?_
  refine G_iload X 1 dL_law_1857 rfl ?_
  refine G_icmp_eq X (tgt := 1864) dL_law_1859 (by decide) (fun c254 => ?_) (fun c254 => ?_)
  · have h := it_t c254 h
    refine G_iload X 1 dL_law_1864 rfl ?_
    refine G_if_ne X (tgt := 1881) dL_law_1866 (by decide) (fun c255 => ?_) (fun c255 => ?_)
    · have h := it_t c255 h
      refine G_goto X (tgt := 2666) dL_law_1881 (by decide) ?_
      refine G_sub [2, 3, 4, 5, 6] rfl ?_
      exact hk _ _ _ (by omega) (by omega) h
    · have h := it_f (fun k => k c255) h
      refine G_aload_n X 5 dL_law_1869 rfl rfl ?_
      refine G_iconst X (v := (0 : Int32)) dL_law_1870 (by decide) ?_
      obtain ⟨g256, h⟩ := gd_some h
      refine G_lald X rfl rfl g256 dL_law_1871 ?_
      refine G_iload X 0 dL_law_1872 rfl ?_
      refine G_i2l X dL_law_1874 ?_
      refine G_lcmp X dL_law_1875 ?_
      refine G_if_eq X (tgt := 1881) dL_law_1876 (by decide) (fun c257 => ?_) (fun c257 => ?_)
      · have h := it_t c257 h
        refine G_goto X (tgt := 2666) dL_law_1881 (by decide) ?_
        refine G_sub [2, 3, 4, 5, 6] rfl ?_
        exact hk _ _ _ (by omega) (by omega) h
      · have h := it_f c257 h
        refine G_iconst X (v := (0 : Int32)) dL_law_1879 (by decide) ?_
        cases h
  · have h := it_f c254 h
    refine G_iconst X (v := (0 : Int32)) dL_law_1862 (by decide) ?_
    cases h
set_option maxRecDepth 20000 in
theorem gL_c31 {g : GX} {a b b0 L : Nat} {xs : Nat → Int32} {k : TT → Option Int32} {x0 x1 x2 ta tb d S pg c m ot : St} {ps : Nat → St} {a4 : Int32} (X : CX g RL cL_law 9 14 538) (XL : XLaw g b0 L xs) (ha : a < 601024) (hb : b + 6 ≤ 7293034) (hk : ∀ (T1 : TT) (a1 b1 : Nat), a1 ≤ a + 1 → b1 ≤ b + 6 → k T1 = some 1 → G g a1 b1 T1 2666 [(0, .ref b0), (1, .ref (xE (gκ g) 8 0 0)), (2, .ref (xE (gκ g) 9 0 0)), (3, .ref (xE (gκ g) 10 0 0)), (4, .int a4)] []) (h : sL_c31 k xs L (x0, x1, x2, ps, ta, tb, d, S, pg, c, m, ot) a4 = some 1) : G g a b (x0, x1, x2, ps, ta, tb, d, S, pg, c, m, ot) 1884 [(0, .ref b0), (1, .ref (xE (gκ g) 8 0 0)), (2, .ref (xE (gκ g) 9 0 0)), (3, .ref (xE (gκ g) 10 0 0)), (4, .int a4)] [] := by
  unfold sL_c31 at h
  dsimp only at h
  refine G_aload_n X 1 dL_law_1884 rfl rfl ?_
  refine G_aload_n X 0 dL_law_1885 rfl rfl ?_
  refine G_iload X 4 dL_law_1886 rfl ?_
  refine G_iconst X (v := (1 : Int32)) dL_law_1888 (by decide) ?_
  refine G_iadd X dL_law_1889 ?_
  obtain ⟨g258, h⟩ := gd_some h
  refine G_sld X XL g258 dL_law_1890 ?_
  refine G_aload_n X 3 dL_law_1891 rfl rfl ?_
  obtain ⟨q259, hq259, h⟩ := bd_some h
  refine G_callW X XL (As := [.ref (xE (gκ g) 8 0 0), .int (xs (ix (a4 + ((1 : Int32))))), .ref (xE (gκ g) 10 0 0)]) (rest := []) (T' := (x0, q259.1, x2, ps, ta, tb, d, S, pg, c, m, q259.2.1)) (st2 := [.int q259.2.2]) (ct_L_wellIn (l := g.2.1) (κ := gκ g)   hq259) cal_L_wellIn wM_L_244 wT_L_wellIn (by decide) rfl rfl (Nat.le_of_ble_eq_true rfl) (by omega) (by omega) dL_law_1892 rfl ?_
  refine G_istore X (lv' := [(5, .int q259.2.2), (0, .ref b0), (1, .ref (xE (gκ g) 8 0 0)), (2, .ref (xE (gκ g) 9 0 0)), (3, .ref (xE (gκ g) 10 0 0)), (4, .int a4)]) dL_law_1895 (by decide) rfl ?_
  refine G_aload_n X 3 dL_law_1897 rfl rfl ?_
  refine G_aload_n X 1 dL_law_1898 rfl rfl ?_
  refine G_iload X 5 dL_law_1899 rfl ?_
  refine G_iconst X (v := (1 : Int32)) dL_law_1901 (by decide) ?_
  refine G_iadd X dL_law_1902 ?_
  obtain ⟨g260, h⟩ := gd_some h
  refine G_sld X XL g260 dL_law_1903 ?_
  obtain ⟨q261, hq261, h⟩ := bd_some h
  refine G_callV X (As := [.int (xs (ix (a4 + ((1 : Int32)))))]) (rest := []) (T' := (x0, q259.1, x2, ps, ta, tb, d, S, pg, c, q261.1, q259.2.1)) (st2 := [.int q261.2]) (ct_X7_wellIn (l := g.2.1) (κ := gκ g) (T := (x0, q259.1, x2, ps, ta, tb, d, S, pg, c, m, q259.2.1)) (m := m)  hq261) cal_X7_wellIn wM_L_246 wI_X7_wellIn wS_X7_wellIn rfl rfl (by decide) rfl rfl (Nat.le_of_ble_eq_true rfl) (XL.2.2.2 (by omega) (by omega)) dL_law_1904 rfl ?_
  refine G_istore X (lv' := [(6, .int q261.2), (5, .int q259.2.2), (0, .ref b0), (1, .ref (xE (gκ g) 8 0 0)), (2, .ref (xE (gκ g) 9 0 0)), (3, .ref (xE (gκ g) 10 0 0)), (4, .int a4)]) dL_law_1907 (by decide) rfl ?_
  refine G_aload_n X 4 dL_law_1909 rfl rfl ?_
  obtain ⟨q262, hq262, h⟩ := bd_some h
  refine G_callV X (As := []) (rest := []) (T' := (x0, q259.1, x2, ps, ta, tb, d, S, pg, c, q261.1, q259.2.1)) (st2 := [.int q262]) (ct_X7_thrown (l := g.2.1) (κ := gκ g) (T := (x0, q259.1, x2, ps, ta, tb, d, S, pg, c, q261.1, q259.2.1)) (m := q261.1)  hq262) cal_X7_thrown wM_L_139 wI_X7_thrown wS_X7_thrown rfl rfl (by decide) rfl rfl (Nat.le_of_ble_eq_true rfl) (XL.2.2.2 (by omega) (by omega)) dL_law_1910 rfl ?_
  refine G_iload X 1 dL_law_1913 rfl ?_
  refine G_icmp_eq X (tgt := 1920) dL_law_1915 (by decide) (fun c263 => ?_) (fun c263 => ?_)
  · have h := it_t c263 h
    refine G_iload X 1 dL_law_1920 rfl ?_
    refine G_if_ne X (tgt := 1937) dL_law_1922 (by decide) (fun c264 => ?_) (fun c264 => ?_)
    · have h := it_t c264 h
      refine G_goto X (tgt := 2666) dL_law_1937 (by decide) ?_
      refine G_sub [2, 3, 4, 5, 6] rfl ?_
      exact hk _ _ _ (by omega) (by omega) h
    · have h := it_f (fun k => k c264) h
      refine G_aload_n X 5 dL_law_1925 rfl rfl ?_
      refine G_iconst X (v := (0 : Int32)) dL_law_1926 (by decide) ?_
      obtain ⟨g265, h⟩ := gd_some h
      refine G_lald X rfl rfl g265 dL_law_1927 ?_
      refine G_iload X 0 dL_law_1928 rfl ?_
      refine G_i2l X dL_law_1930 ?_
      refine G_lcmp X dL_law_1931 ?_
      refine G_if_eq X (tgt := 1937) dL_law_1932 (by decide) (fun c266 => ?_) (fun c266 => ?_)
      · have h := it_t c266 h
        refine G_goto X (tgt := 2666) dL_law_1937 (by decide) ?_
        refine G_sub [2, 3, 4, 5, 6] rfl ?_
        exact hk _ _ _ (by omega) (by omega) h
      · have h := it_f c266 h
        refine G_iconst X (v := (0 : Int32)) dL_law_1935 (by decide) ?_
        cases h
  · have h := it_f c263 h
    refine G_iconst X (v := (0 : Int32)) dL_law_1918 (by decide) ?_
    cases h
set_option maxRecDepth 20000 in
theorem gL_c32 {g : GX} {a b b0 L : Nat} {xs : Nat → Int32} {k : TT → Option Int32} {x0 x1 x2 ta tb d S pg c m ot : St} {ps : Nat → St} {a4 : Int32} (X : CX g RL cL_law 9 14 538) (XL : XLaw g b0 L xs) (ha : a < 601024) (hb : b + 6 ≤ 7293034) (hk : ∀ (T1 : TT) (a1 b1 : Nat), a1 ≤ a + 1 → b1 ≤ b + 6 → k T1 = some 1 → G g a1 b1 T1 2666 [(0, .ref b0), (1, .ref (xE (gκ g) 8 0 0)), (2, .ref (xE (gκ g) 9 0 0)), (3, .ref (xE (gκ g) 10 0 0)), (4, .int a4)] []) (h : sL_c32 k xs L (x0, x1, x2, ps, ta, tb, d, S, pg, c, m, ot) a4 = some 1) : G g a b (x0, x1, x2, ps, ta, tb, d, S, pg, c, m, ot) 1940 [(0, .ref b0), (1, .ref (xE (gκ g) 8 0 0)), (2, .ref (xE (gκ g) 9 0 0)), (3, .ref (xE (gκ g) 10 0 0)), (4, .int a4)] [] := by
  unfold sL_c32 at h
  dsimp only at h
  refine G_aload_n X 1 dL_law_1940 rfl rfl ?_
  refine G_aload_n X 0 dL_law_1941 rfl rfl ?_
  refine G_iload X 4 dL_law_1942 rfl ?_
  refine G_iconst X (v := (1 : Int32)) dL_law_1944 (by decide) ?_
  refine G_iadd X dL_law_1945 ?_
  obtain ⟨g267, h⟩ := gd_some h
  refine G_sld X XL g267 dL_law_1946 ?_
  refine G_aload_n X 3 dL_law_1947 rfl rfl ?_
  obtain ⟨q268, hq268, h⟩ := bd_some h
  refine G_callW X XL (As := [.ref (xE (gκ g) 8 0 0), .int (xs (ix (a4 + ((1 : Int32))))), .ref (xE (gκ g) 10 0 0)]) (rest := []) (T' := (x0, q268.1, x2, ps, ta, tb, d, S, pg, c, m, q268.2.1)) (st2 := [.int q268.2.2]) (ct_L_bestAt (l := g.2.1) (κ := gκ g)   hq268) cal_L_bestAt wM_L_247 wT_L_bestAt (by decide) rfl rfl (Nat.le_of_ble_eq_true rfl) (by omega) (by omega) dL_law_1948 rfl ?_
  refine G_istore X (lv' := [(5, .int q268.2.2), (0, .ref b0), (1, .ref (xE (gκ g) 8 0 0)), (2, .ref (xE (gκ g) 9 0 0)), (3, .ref (xE (gκ g) 10 0 0)), (4, .int a4)]) dL_law_1951 (by decide) rfl ?_
  refine G_aload_n X 3 dL_law_1953 rfl rfl ?_
  refine G_aload_n X 1 dL_law_1954 rfl rfl ?_
  refine G_iload X 5 dL_law_1955 rfl ?_
  refine G_iconst X (v := (1 : Int32)) dL_law_1957 (by decide) ?_
  refine G_iadd X dL_law_1958 ?_
  obtain ⟨g269, h⟩ := gd_some h
  refine G_sld X XL g269 dL_law_1959 ?_
  obtain ⟨q270, hq270, h⟩ := bd_some h
  refine G_callV X (As := [.int (xs (ix (a4 + ((1 : Int32)))))]) (rest := []) (T' := (x0, q268.1, x2, ps, ta, tb, d, S, pg, c, q270.1, q268.2.1)) (st2 := [.int q270.2]) (ct_X7_bestAt (l := g.2.1) (κ := gκ g) (T := (x0, q268.1, x2, ps, ta, tb, d, S, pg, c, m, q268.2.1)) (m := m)  hq270) cal_X7_bestAt wM_L_249 wI_X7_bestAt wS_X7_bestAt rfl rfl (by decide) rfl rfl (Nat.le_of_ble_eq_true rfl) (XL.2.2.2 (by omega) (by omega)) dL_law_1960 rfl ?_
  refine G_istore X (lv' := [(6, .int q270.2), (5, .int q268.2.2), (0, .ref b0), (1, .ref (xE (gκ g) 8 0 0)), (2, .ref (xE (gκ g) 9 0 0)), (3, .ref (xE (gκ g) 10 0 0)), (4, .int a4)]) dL_law_1963 (by decide) rfl ?_
  refine G_aload_n X 4 dL_law_1965 rfl rfl ?_
  obtain ⟨q271, hq271, h⟩ := bd_some h
  refine G_callV X (As := []) (rest := []) (T' := (x0, q268.1, x2, ps, ta, tb, d, S, pg, c, q270.1, q268.2.1)) (st2 := [.int q271]) (ct_X7_thrown (l := g.2.1) (κ := gκ g) (T := (x0, q268.1, x2, ps, ta, tb, d, S, pg, c, q270.1, q268.2.1)) (m := q270.1)  hq271) cal_X7_thrown wM_L_139 wI_X7_thrown wS_X7_thrown rfl rfl (by decide) rfl rfl (Nat.le_of_ble_eq_true rfl) (XL.2.2.2 (by omega) (by omega)) dL_law_1966 rfl ?_
  refine G_iload X 1 dL_law_1969 rfl ?_
  refine G_icmp_eq X (tgt := 1976) dL_law_1971 (by decide) (fun c272 => ?_) (fun c272 => ?_)
  · have h := it_t c272 h
    refine G_iload X 1 dL_law_1976 rfl ?_
    refine G_if_ne X (tgt := 1993) dL_law_1978 (by decide) (fun c273 => ?_) (fun c273 => ?_)
    · have h := it_t c273 h
      refine G_goto X (tgt := 2666) dL_law_1993 (by decide) ?_
      refine G_sub [2, 3, 4, 5, 6] rfl ?_
      exact hk _ _ _ (by omega) (by omega) h
    · have h := it_f (fun k => k c273) h
      refine G_aload_n X 5 dL_law_1981 rfl rfl ?_
      refine G_iconst X (v := (0 : Int32)) dL_law_1982 (by decide) ?_
      obtain ⟨g274, h⟩ := gd_some h
      refine G_lald X rfl rfl g274 dL_law_1983 ?_
      refine G_iload X 0 dL_law_1984 rfl ?_
      refine G_i2l X dL_law_1986 ?_
      refine G_lcmp X dL_law_1987 ?_
      refine G_if_eq X (tgt := 1993) dL_law_1988 (by decide) (fun c275 => ?_) (fun c275 => ?_)
      · have h := it_t c275 h
        refine G_goto X (tgt := 2666) dL_law_1993 (by decide) ?_
        refine G_sub [2, 3, 4, 5, 6] rfl ?_
        exact hk _ _ _ (by omega) (by omega) h
      · have h := it_f c275 h
        refine G_iconst X (v := (0 : Int32)) dL_law_1991 (by decide) ?_
        cases h
  · have h := it_f c272 h
    refine G_iconst X (v := (0 : Int32)) dL_law_1974 (by decide) ?_
    cases h
set_option maxRecDepth 20000 in
theorem gL_c33 {g : GX} {a b b0 L : Nat} {xs : Nat → Int32} {k : TT → Option Int32} {x0 x1 x2 ta tb d S pg c m ot : St} {ps : Nat → St} {a4 : Int32} (X : CX g RL cL_law 9 14 538) (XL : XLaw g b0 L xs) (ha : a < 601024) (hb : b + 6 ≤ 7293034) (hk : ∀ (T1 : TT) (a1 b1 : Nat), a1 ≤ a + 1 → b1 ≤ b + 6 → k T1 = some 1 → G g a1 b1 T1 2666 [(0, .ref b0), (1, .ref (xE (gκ g) 8 0 0)), (2, .ref (xE (gκ g) 9 0 0)), (3, .ref (xE (gκ g) 10 0 0)), (4, .int a4)] []) (h : sL_c33 k xs L (x0, x1, x2, ps, ta, tb, d, S, pg, c, m, ot) a4 = some 1) : G g a b (x0, x1, x2, ps, ta, tb, d, S, pg, c, m, ot) 1996 [(0, .ref b0), (1, .ref (xE (gκ g) 8 0 0)), (2, .ref (xE (gκ g) 9 0 0)), (3, .ref (xE (gκ g) 10 0 0)), (4, .int a4)] [] := by
  unfold sL_c33 at h
  dsimp only at h
  refine G_aload_n X 1 dL_law_1996 rfl rfl ?_
  refine G_aload_n X 0 dL_law_1997 rfl rfl ?_
  refine G_iload X 4 dL_law_1998 rfl ?_
  refine G_iconst X (v := (1 : Int32)) dL_law_2000 (by decide) ?_
  refine G_iadd X dL_law_2001 ?_
  obtain ⟨g276, h⟩ := gd_some h
  refine G_sld X XL g276 dL_law_2002 ?_
  refine G_aload_n X 3 dL_law_2003 rfl rfl ?_
  obtain ⟨q277, hq277, h⟩ := bd_some h
  refine G_callW X XL (As := [.ref (xE (gκ g) 8 0 0), .int (xs (ix (a4 + ((1 : Int32))))), .ref (xE (gκ g) 10 0 0)]) (rest := []) (T' := (x0, q277.1, x2, ps, ta, tb, d, S, pg, c, m, q277.2.1)) (st2 := [.int q277.2.2]) (ct_L_bestEvery (l := g.2.1) (κ := gκ g)   hq277) cal_L_bestEvery wM_L_250 wT_L_bestEvery (by decide) rfl rfl (Nat.le_of_ble_eq_true rfl) (by omega) (by omega) dL_law_2004 rfl ?_
  refine G_istore X (lv' := [(5, .int q277.2.2), (0, .ref b0), (1, .ref (xE (gκ g) 8 0 0)), (2, .ref (xE (gκ g) 9 0 0)), (3, .ref (xE (gκ g) 10 0 0)), (4, .int a4)]) dL_law_2007 (by decide) rfl ?_
  refine G_aload_n X 3 dL_law_2009 rfl rfl ?_
  refine G_aload_n X 1 dL_law_2010 rfl rfl ?_
  refine G_iload X 5 dL_law_2011 rfl ?_
  refine G_iconst X (v := (1 : Int32)) dL_law_2013 (by decide) ?_
  refine G_iadd X dL_law_2014 ?_
  obtain ⟨g278, h⟩ := gd_some h
  refine G_sld X XL g278 dL_law_2015 ?_
  obtain ⟨q279, hq279, h⟩ := bd_some h
  refine G_callV X (As := [.int (xs (ix (a4 + ((1 : Int32)))))]) (rest := []) (T' := (x0, q277.1, x2, ps, ta, tb, d, S, pg, c, q279.1, q277.2.1)) (st2 := [.int q279.2]) (ct_X7_bestEvery (l := g.2.1) (κ := gκ g) (T := (x0, q277.1, x2, ps, ta, tb, d, S, pg, c, m, q277.2.1)) (m := m)  hq279) cal_X7_bestEvery wM_L_252 wI_X7_bestEvery wS_X7_bestEvery rfl rfl (by decide) rfl rfl (Nat.le_of_ble_eq_true rfl) (XL.2.2.2 (by omega) (by omega)) dL_law_2016 rfl ?_
  refine G_istore X (lv' := [(6, .int q279.2), (5, .int q277.2.2), (0, .ref b0), (1, .ref (xE (gκ g) 8 0 0)), (2, .ref (xE (gκ g) 9 0 0)), (3, .ref (xE (gκ g) 10 0 0)), (4, .int a4)]) dL_law_2019 (by decide) rfl ?_
  refine G_aload_n X 4 dL_law_2021 rfl rfl ?_
  obtain ⟨q280, hq280, h⟩ := bd_some h
  refine G_callV X (As := []) (rest := []) (T' := (x0, q277.1, x2, ps, ta, tb, d, S, pg, c, q279.1, q277.2.1)) (st2 := [.int q280]) (ct_X7_thrown (l := g.2.1) (κ := gκ g) (T := (x0, q277.1, x2, ps, ta, tb, d, S, pg, c, q279.1, q277.2.1)) (m := q279.1)  hq280) cal_X7_thrown wM_L_139 wI_X7_thrown wS_X7_thrown rfl rfl (by decide) rfl rfl (Nat.le_of_ble_eq_true rfl) (XL.2.2.2 (by omega) (by omega)) dL_law_2022 rfl ?_
  refine G_iload X 1 dL_law_2025 rfl ?_
  refine G_icmp_eq X (tgt := 2032) dL_law_2027 (by decide) (fun c281 => ?_) (fun c281 => ?_)
  · have h := it_t c281 h
    refine G_iload X 1 dL_law_2032 rfl ?_
    refine G_if_ne X (tgt := 2049) dL_law_2034 (by decide) (fun c282 => ?_) (fun c282 => ?_)
    · have h := it_t c282 h
      refine G_goto X (tgt := 2666) dL_law_2049 (by decide) ?_
      refine G_sub [2, 3, 4, 5, 6] rfl ?_
      exact hk _ _ _ (by omega) (by omega) h
    · have h := it_f (fun k => k c282) h
      refine G_aload_n X 5 dL_law_2037 rfl rfl ?_
      refine G_iconst X (v := (0 : Int32)) dL_law_2038 (by decide) ?_
      obtain ⟨g283, h⟩ := gd_some h
      refine G_lald X rfl rfl g283 dL_law_2039 ?_
      refine G_iload X 0 dL_law_2040 rfl ?_
      refine G_i2l X dL_law_2042 ?_
      refine G_lcmp X dL_law_2043 ?_
      refine G_if_eq X (tgt := 2049) dL_law_2044 (by decide) (fun c284 => ?_) (fun c284 => ?_)
      · have h := it_t c284 h
        refine G_goto X (tgt := 2666) dL_law_2049 (by decide) ?_
        refine G_sub [2, 3, 4, 5, 6] rfl ?_
        exact hk _ _ _ (by omega) (by omega) h
      · have h := it_f c284 h
        refine G_iconst X (v := (0 : Int32)) dL_law_2047 (by decide) ?_
        cases h
  · have h := it_f c281 h
    refine G_iconst X (v := (0 : Int32)) dL_law_2030 (by decide) ?_
    cases h
set_option maxRecDepth 20000 in
theorem gL_c34 {g : GX} {a b b0 L : Nat} {xs : Nat → Int32} {k : TT → Option Int32} {x0 x1 x2 ta tb d S pg c m ot : St} {ps : Nat → St} {a4 : Int32} (X : CX g RL cL_law 9 14 538) (XL : XLaw g b0 L xs) (ha : a < 601024) (hb : b + 6 ≤ 7293034) (hk : ∀ (T1 : TT) (a1 b1 : Nat), a1 ≤ a + 1 → b1 ≤ b + 6 → k T1 = some 1 → G g a1 b1 T1 2666 [(0, .ref b0), (1, .ref (xE (gκ g) 8 0 0)), (2, .ref (xE (gκ g) 9 0 0)), (3, .ref (xE (gκ g) 10 0 0)), (4, .int a4)] []) (h : sL_c34 k xs L (x0, x1, x2, ps, ta, tb, d, S, pg, c, m, ot) a4 = some 1) : G g a b (x0, x1, x2, ps, ta, tb, d, S, pg, c, m, ot) 2052 [(0, .ref b0), (1, .ref (xE (gκ g) 8 0 0)), (2, .ref (xE (gκ g) 9 0 0)), (3, .ref (xE (gκ g) 10 0 0)), (4, .int a4)] [] := by
  unfold sL_c34 at h
  dsimp only at h
  refine G_aload_n X 1 dL_law_2052 rfl rfl ?_
  refine G_aload_n X 0 dL_law_2053 rfl rfl ?_
  refine G_iload X 4 dL_law_2054 rfl ?_
  refine G_iconst X (v := (1 : Int32)) dL_law_2056 (by decide) ?_
  refine G_iadd X dL_law_2057 ?_
  obtain ⟨g285, h⟩ := gd_some h
  refine G_sld X XL g285 dL_law_2058 ?_
  refine G_aload_n X 3 dL_law_2059 rfl rfl ?_
  obtain ⟨q286, hq286, h⟩ := bd_some h
  refine G_callW X XL (As := [.ref (xE (gκ g) 8 0 0), .int (xs (ix (a4 + ((1 : Int32))))), .ref (xE (gκ g) 10 0 0)]) (rest := []) (T' := (q286.1, x1, x2, q286.2.1, ta, tb, d, S, pg, q286.2.2.1, m, q286.2.2.2.1)) (st2 := [.int q286.2.2.2.2]) (ct_L_run (l := g.2.1) (κ := gκ g)   hq286) cal_L_run wM_L_253 wT_L_run (by decide) rfl rfl (Nat.le_of_ble_eq_true rfl) (by omega) (by omega) dL_law_2060 rfl ?_
  refine G_istore X (lv' := [(5, .int q286.2.2.2.2), (0, .ref b0), (1, .ref (xE (gκ g) 8 0 0)), (2, .ref (xE (gκ g) 9 0 0)), (3, .ref (xE (gκ g) 10 0 0)), (4, .int a4)]) dL_law_2063 (by decide) rfl ?_
  refine G_aload_n X 3 dL_law_2065 rfl rfl ?_
  refine G_aload_n X 1 dL_law_2066 rfl rfl ?_
  refine G_iload X 5 dL_law_2067 rfl ?_
  refine G_iconst X (v := (1 : Int32)) dL_law_2069 (by decide) ?_
  refine G_iadd X dL_law_2070 ?_
  obtain ⟨g287, h⟩ := gd_some h
  refine G_sld X XL g287 dL_law_2071 ?_
  obtain ⟨q288, hq288, h⟩ := bd_some h
  refine G_callV X (As := [.int (xs (ix (a4 + ((1 : Int32)))))]) (rest := []) (T' := (q286.1, x1, x2, q286.2.1, ta, tb, d, S, pg, q286.2.2.1, q288.1, q286.2.2.2.1)) (st2 := [.int q288.2]) (ct_X7_run (l := g.2.1) (κ := gκ g) (T := (q286.1, x1, x2, q286.2.1, ta, tb, d, S, pg, q286.2.2.1, m, q286.2.2.2.1)) (m := m)  hq288) cal_X7_run wM_L_255 wI_X7_run wS_X7_run rfl rfl (by decide) rfl rfl (Nat.le_of_ble_eq_true rfl) (XL.2.2.2 (by omega) (by omega)) dL_law_2072 rfl ?_
  refine G_istore X (lv' := [(6, .int q288.2), (5, .int q286.2.2.2.2), (0, .ref b0), (1, .ref (xE (gκ g) 8 0 0)), (2, .ref (xE (gκ g) 9 0 0)), (3, .ref (xE (gκ g) 10 0 0)), (4, .int a4)]) dL_law_2075 (by decide) rfl ?_
  refine G_aload_n X 4 dL_law_2077 rfl rfl ?_
  obtain ⟨q289, hq289, h⟩ := bd_some h
  refine G_callV X (As := []) (rest := []) (T' := (q286.1, x1, x2, q286.2.1, ta, tb, d, S, pg, q286.2.2.1, q288.1, q286.2.2.2.1)) (st2 := [.int q289]) (ct_X7_thrown (l := g.2.1) (κ := gκ g) (T := (q286.1, x1, x2, q286.2.1, ta, tb, d, S, pg, q286.2.2.1, q288.1, q286.2.2.2.1)) (m := q288.1)  hq289) cal_X7_thrown wM_L_139 wI_X7_thrown wS_X7_thrown rfl rfl (by decide) rfl rfl (Nat.le_of_ble_eq_true rfl) (XL.2.2.2 (by omega) (by omega)) dL_law_2078 rfl ?_
  refine G_iload X 1 dL_law_2081 rfl ?_
  refine G_icmp_eq X (tgt := 2088) dL_law_2083 (by decide) (fun c290 => ?_) (fun c290 => ?_)
  · have h := it_t c290 h
    refine G_iload X 1 dL_law_2088 rfl ?_
    refine G_if_ne X (tgt := 2105) dL_law_2090 (by decide) (fun c291 => ?_) (fun c291 => ?_)
    · have h := it_t c291 h
      refine G_goto X (tgt := 2666) dL_law_2105 (by decide) ?_
      refine G_sub [2, 3, 4, 5, 6] rfl ?_
      exact hk _ _ _ (by omega) (by omega) h
    · have h := it_f (fun k => k c291) h
      refine G_aload_n X 5 dL_law_2093 rfl rfl ?_
      refine G_iconst X (v := (0 : Int32)) dL_law_2094 (by decide) ?_
      obtain ⟨g292, h⟩ := gd_some h
      refine G_lald X rfl rfl g292 dL_law_2095 ?_
      refine G_iload X 0 dL_law_2096 rfl ?_
      refine G_i2l X dL_law_2098 ?_
      refine G_lcmp X dL_law_2099 ?_
      refine G_if_eq X (tgt := 2105) dL_law_2100 (by decide) (fun c293 => ?_) (fun c293 => ?_)
      · have h := it_t c293 h
        refine G_goto X (tgt := 2666) dL_law_2105 (by decide) ?_
        refine G_sub [2, 3, 4, 5, 6] rfl ?_
        exact hk _ _ _ (by omega) (by omega) h
      · have h := it_f c293 h
        refine G_iconst X (v := (0 : Int32)) dL_law_2103 (by decide) ?_
        cases h
  · have h := it_f c290 h
    refine G_iconst X (v := (0 : Int32)) dL_law_2086 (by decide) ?_
    cases h
set_option maxRecDepth 20000 in
theorem gL_c35 {g : GX} {a b b0 L : Nat} {xs : Nat → Int32} {k : TT → Option Int32} {x0 x1 x2 ta tb d S pg c m ot : St} {ps : Nat → St} {a4 : Int32} (X : CX g RL cL_law 9 14 538) (XL : XLaw g b0 L xs) (ha : a < 601024) (hb : b + 6 ≤ 7293034) (hk : ∀ (T1 : TT) (a1 b1 : Nat), a1 ≤ a + 1 → b1 ≤ b + 6 → k T1 = some 1 → G g a1 b1 T1 2666 [(0, .ref b0), (1, .ref (xE (gκ g) 8 0 0)), (2, .ref (xE (gκ g) 9 0 0)), (3, .ref (xE (gκ g) 10 0 0)), (4, .int a4)] []) (h : sL_c35 k xs L (x0, x1, x2, ps, ta, tb, d, S, pg, c, m, ot) a4 = some 1) : G g a b (x0, x1, x2, ps, ta, tb, d, S, pg, c, m, ot) 2108 [(0, .ref b0), (1, .ref (xE (gκ g) 8 0 0)), (2, .ref (xE (gκ g) 9 0 0)), (3, .ref (xE (gκ g) 10 0 0)), (4, .int a4)] [] := by
  unfold sL_c35 at h
  dsimp only at h
  refine G_aload_n X 1 dL_law_2108 rfl rfl ?_
  refine G_aload_n X 0 dL_law_2109 rfl rfl ?_
  refine G_iload X 4 dL_law_2110 rfl ?_
  refine G_iconst X (v := (1 : Int32)) dL_law_2112 (by decide) ?_
  refine G_iadd X dL_law_2113 ?_
  obtain ⟨g294, h⟩ := gd_some h
  refine G_sld X XL g294 dL_law_2114 ?_
  refine G_aload_n X 3 dL_law_2115 rfl rfl ?_
  obtain ⟨q295, hq295, h⟩ := bd_some h
  refine G_callW X XL (As := [.ref (xE (gκ g) 8 0 0), .int (xs (ix (a4 + ((1 : Int32))))), .ref (xE (gκ g) 10 0 0)]) (rest := []) (T' := (q295.1, x1, x2, q295.2.1, ta, tb, d, S, pg, q295.2.2.1, m, q295.2.2.2.1)) (st2 := [.int q295.2.2.2.2]) (ct_L_wake (l := g.2.1) (κ := gκ g)   hq295) cal_L_wake wM_L_256 wT_L_wake (by decide) rfl rfl (Nat.le_of_ble_eq_true rfl) (by omega) (by omega) dL_law_2116 rfl ?_
  refine G_istore X (lv' := [(5, .int q295.2.2.2.2), (0, .ref b0), (1, .ref (xE (gκ g) 8 0 0)), (2, .ref (xE (gκ g) 9 0 0)), (3, .ref (xE (gκ g) 10 0 0)), (4, .int a4)]) dL_law_2119 (by decide) rfl ?_
  refine G_aload_n X 3 dL_law_2121 rfl rfl ?_
  refine G_aload_n X 1 dL_law_2122 rfl rfl ?_
  refine G_iload X 5 dL_law_2123 rfl ?_
  refine G_iconst X (v := (1 : Int32)) dL_law_2125 (by decide) ?_
  refine G_iadd X dL_law_2126 ?_
  obtain ⟨g296, h⟩ := gd_some h
  refine G_sld X XL g296 dL_law_2127 ?_
  obtain ⟨q297, hq297, h⟩ := bd_some h
  refine G_callV X (As := [.int (xs (ix (a4 + ((1 : Int32)))))]) (rest := []) (T' := (q295.1, x1, x2, q295.2.1, ta, tb, d, S, pg, q295.2.2.1, q297.1, q295.2.2.2.1)) (st2 := [.int q297.2]) (ct_X7_wake (l := g.2.1) (κ := gκ g) (T := (q295.1, x1, x2, q295.2.1, ta, tb, d, S, pg, q295.2.2.1, m, q295.2.2.2.1)) (m := m)  hq297) cal_X7_wake wM_L_258 wI_X7_wake wS_X7_wake rfl rfl (by decide) rfl rfl (Nat.le_of_ble_eq_true rfl) (XL.2.2.2 (by omega) (by omega)) dL_law_2128 rfl ?_
  refine G_istore X (lv' := [(6, .int q297.2), (5, .int q295.2.2.2.2), (0, .ref b0), (1, .ref (xE (gκ g) 8 0 0)), (2, .ref (xE (gκ g) 9 0 0)), (3, .ref (xE (gκ g) 10 0 0)), (4, .int a4)]) dL_law_2131 (by decide) rfl ?_
  refine G_aload_n X 4 dL_law_2133 rfl rfl ?_
  obtain ⟨q298, hq298, h⟩ := bd_some h
  refine G_callV X (As := []) (rest := []) (T' := (q295.1, x1, x2, q295.2.1, ta, tb, d, S, pg, q295.2.2.1, q297.1, q295.2.2.2.1)) (st2 := [.int q298]) (ct_X7_thrown (l := g.2.1) (κ := gκ g) (T := (q295.1, x1, x2, q295.2.1, ta, tb, d, S, pg, q295.2.2.1, q297.1, q295.2.2.2.1)) (m := q297.1)  hq298) cal_X7_thrown wM_L_139 wI_X7_thrown wS_X7_thrown rfl rfl (by decide) rfl rfl (Nat.le_of_ble_eq_true rfl) (XL.2.2.2 (by omega) (by omega)) dL_law_2134 rfl ?_
  refine G_iload X 1 dL_law_2137 rfl ?_
  refine G_icmp_eq X (tgt := 2144) dL_law_2139 (by decide) (fun c299 => ?_) (fun c299 => ?_)
  · have h := it_t c299 h
    refine G_iload X 1 dL_law_2144 rfl ?_
    refine G_if_ne X (tgt := 2161) dL_law_2146 (by decide) (fun c300 => ?_) (fun c300 => ?_)
    · have h := it_t c300 h
      refine G_goto X (tgt := 2666) dL_law_2161 (by decide) ?_
      refine G_sub [2, 3, 4, 5, 6] rfl ?_
      exact hk _ _ _ (by omega) (by omega) h
    · have h := it_f (fun k => k c300) h
      refine G_aload_n X 5 dL_law_2149 rfl rfl ?_
      refine G_iconst X (v := (0 : Int32)) dL_law_2150 (by decide) ?_
      obtain ⟨g301, h⟩ := gd_some h
      refine G_lald X rfl rfl g301 dL_law_2151 ?_
      refine G_iload X 0 dL_law_2152 rfl ?_
      refine G_i2l X dL_law_2154 ?_
      refine G_lcmp X dL_law_2155 ?_
      refine G_if_eq X (tgt := 2161) dL_law_2156 (by decide) (fun c302 => ?_) (fun c302 => ?_)
      · have h := it_t c302 h
        refine G_goto X (tgt := 2666) dL_law_2161 (by decide) ?_
        refine G_sub [2, 3, 4, 5, 6] rfl ?_
        exact hk _ _ _ (by omega) (by omega) h
      · have h := it_f c302 h
        refine G_iconst X (v := (0 : Int32)) dL_law_2159 (by decide) ?_
        cases h
  · have h := it_f c299 h
    refine G_iconst X (v := (0 : Int32)) dL_law_2142 (by decide) ?_
    cases h
set_option maxRecDepth 20000 in
theorem gL_c36 {g : GX} {a b b0 L : Nat} {xs : Nat → Int32} {k : TT → Option Int32} {x0 x1 x2 ta tb d S pg c m ot : St} {ps : Nat → St} {a4 : Int32} (X : CX g RL cL_law 9 14 538) (XL : XLaw g b0 L xs) (ha : a < 601024) (hb : b + 6 ≤ 7293034) (hk : ∀ (T1 : TT) (a1 b1 : Nat), a1 ≤ a + 1 → b1 ≤ b + 6 → k T1 = some 1 → G g a1 b1 T1 2666 [(0, .ref b0), (1, .ref (xE (gκ g) 8 0 0)), (2, .ref (xE (gκ g) 9 0 0)), (3, .ref (xE (gκ g) 10 0 0)), (4, .int a4)] []) (h : sL_c36 k xs L (x0, x1, x2, ps, ta, tb, d, S, pg, c, m, ot) a4 = some 1) : G g a b (x0, x1, x2, ps, ta, tb, d, S, pg, c, m, ot) 2164 [(0, .ref b0), (1, .ref (xE (gκ g) 8 0 0)), (2, .ref (xE (gκ g) 9 0 0)), (3, .ref (xE (gκ g) 10 0 0)), (4, .int a4)] [] := by
  unfold sL_c36 at h
  dsimp only at h
  refine G_aload_n X 1 dL_law_2164 rfl rfl ?_
  refine G_aload_n X 0 dL_law_2165 rfl rfl ?_
  refine G_iload X 4 dL_law_2166 rfl ?_
  refine G_iconst X (v := (1 : Int32)) dL_law_2168 (by decide) ?_
  refine G_iadd X dL_law_2169 ?_
  obtain ⟨g303, h⟩ := gd_some h
  refine G_sld X XL g303 dL_law_2170 ?_
  refine G_aload_n X 0 dL_law_2171 rfl rfl ?_
  refine G_iload X 4 dL_law_2172 rfl ?_
  refine G_iconst X (v := (2 : Int32)) dL_law_2174 (by decide) ?_
  refine G_iadd X dL_law_2175 ?_
  obtain ⟨g304, h⟩ := gd_some h
  refine G_sld X XL g304 dL_law_2176 ?_
  refine G_aload_n X 3 dL_law_2177 rfl rfl ?_
  obtain ⟨q305, hq305, h⟩ := bd_some h
  refine G_callW X XL (As := [.ref (xE (gκ g) 8 0 0), .int (xs (ix (a4 + ((1 : Int32))))), .int (xs (ix (a4 + ((2 : Int32))))), .ref (xE (gκ g) 10 0 0)]) (rest := []) (T' := (q305.1, x1, x2, q305.2.1, ta, tb, d, S, pg, q305.2.2.1, m, q305.2.2.2.1)) (st2 := [.int q305.2.2.2.2]) (ct_L_setEvery (l := g.2.1) (κ := gκ g)   hq305) cal_L_setEvery wM_L_259 wT_L_setEvery (by decide) rfl rfl (Nat.le_of_ble_eq_true rfl) (by omega) (by omega) dL_law_2178 rfl ?_
  refine G_istore X (lv' := [(5, .int q305.2.2.2.2), (0, .ref b0), (1, .ref (xE (gκ g) 8 0 0)), (2, .ref (xE (gκ g) 9 0 0)), (3, .ref (xE (gκ g) 10 0 0)), (4, .int a4)]) dL_law_2181 (by decide) rfl ?_
  refine G_aload_n X 3 dL_law_2183 rfl rfl ?_
  refine G_aload_n X 1 dL_law_2184 rfl rfl ?_
  refine G_iload X 5 dL_law_2185 rfl ?_
  refine G_iconst X (v := (1 : Int32)) dL_law_2187 (by decide) ?_
  refine G_iadd X dL_law_2188 ?_
  obtain ⟨g306, h⟩ := gd_some h
  refine G_sld X XL g306 dL_law_2189 ?_
  refine G_aload_n X 1 dL_law_2190 rfl rfl ?_
  refine G_iload X 5 dL_law_2191 rfl ?_
  refine G_iconst X (v := (2 : Int32)) dL_law_2193 (by decide) ?_
  refine G_iadd X dL_law_2194 ?_
  obtain ⟨g307, h⟩ := gd_some h
  refine G_sld X XL g307 dL_law_2195 ?_
  obtain ⟨q308, hq308, h⟩ := bd_some h
  refine G_callV X (As := [.int (xs (ix (a4 + ((1 : Int32))))), .int (xs (ix (a4 + ((2 : Int32)))))]) (rest := []) (T' := (q305.1, x1, x2, q305.2.1, ta, tb, d, S, pg, q305.2.2.1, q308.1, q305.2.2.2.1)) (st2 := [.int q308.2]) (ct_X7_setEvery (l := g.2.1) (κ := gκ g) (T := (q305.1, x1, x2, q305.2.1, ta, tb, d, S, pg, q305.2.2.1, m, q305.2.2.2.1)) (m := m)  hq308) cal_X7_setEvery wM_L_261 wI_X7_setEvery wS_X7_setEvery rfl rfl (by decide) rfl rfl (Nat.le_of_ble_eq_true rfl) (XL.2.2.2 (by omega) (by omega)) dL_law_2196 rfl ?_
  refine G_istore X (lv' := [(6, .int q308.2), (5, .int q305.2.2.2.2), (0, .ref b0), (1, .ref (xE (gκ g) 8 0 0)), (2, .ref (xE (gκ g) 9 0 0)), (3, .ref (xE (gκ g) 10 0 0)), (4, .int a4)]) dL_law_2199 (by decide) rfl ?_
  refine G_aload_n X 4 dL_law_2201 rfl rfl ?_
  obtain ⟨q309, hq309, h⟩ := bd_some h
  refine G_callV X (As := []) (rest := []) (T' := (q305.1, x1, x2, q305.2.1, ta, tb, d, S, pg, q305.2.2.1, q308.1, q305.2.2.2.1)) (st2 := [.int q309]) (ct_X7_thrown (l := g.2.1) (κ := gκ g) (T := (q305.1, x1, x2, q305.2.1, ta, tb, d, S, pg, q305.2.2.1, q308.1, q305.2.2.2.1)) (m := q308.1)  hq309) cal_X7_thrown wM_L_139 wI_X7_thrown wS_X7_thrown rfl rfl (by decide) rfl rfl (Nat.le_of_ble_eq_true rfl) (XL.2.2.2 (by omega) (by omega)) dL_law_2202 rfl ?_
  refine G_iload X 1 dL_law_2205 rfl ?_
  refine G_icmp_eq X (tgt := 2212) dL_law_2207 (by decide) (fun c310 => ?_) (fun c310 => ?_)
  · have h := it_t c310 h
    refine G_iload X 1 dL_law_2212 rfl ?_
    refine G_if_ne X (tgt := 2229) dL_law_2214 (by decide) (fun c311 => ?_) (fun c311 => ?_)
    · have h := it_t c311 h
      refine G_goto X (tgt := 2666) dL_law_2229 (by decide) ?_
      refine G_sub [2, 3, 4, 5, 6] rfl ?_
      exact hk _ _ _ (by omega) (by omega) h
    · have h := it_f (fun k => k c311) h
      refine G_aload_n X 5 dL_law_2217 rfl rfl ?_
      refine G_iconst X (v := (0 : Int32)) dL_law_2218 (by decide) ?_
      obtain ⟨g312, h⟩ := gd_some h
      refine G_lald X rfl rfl g312 dL_law_2219 ?_
      refine G_iload X 0 dL_law_2220 rfl ?_
      refine G_i2l X dL_law_2222 ?_
      refine G_lcmp X dL_law_2223 ?_
      refine G_if_eq X (tgt := 2229) dL_law_2224 (by decide) (fun c313 => ?_) (fun c313 => ?_)
      · have h := it_t c313 h
        refine G_goto X (tgt := 2666) dL_law_2229 (by decide) ?_
        refine G_sub [2, 3, 4, 5, 6] rfl ?_
        exact hk _ _ _ (by omega) (by omega) h
      · have h := it_f c313 h
        refine G_iconst X (v := (0 : Int32)) dL_law_2227 (by decide) ?_
        cases h
  · have h := it_f c310 h
    refine G_iconst X (v := (0 : Int32)) dL_law_2210 (by decide) ?_
    cases h
set_option maxRecDepth 20000 in
theorem gL_c37 {g : GX} {a b b0 L : Nat} {xs : Nat → Int32} {k : TT → Option Int32} {x0 x1 x2 ta tb d S pg c m ot : St} {ps : Nat → St} {a4 : Int32} (X : CX g RL cL_law 9 14 538) (XL : XLaw g b0 L xs) (ha : a < 601024) (hb : b + 6 ≤ 7293034) (hk : ∀ (T1 : TT) (a1 b1 : Nat), a1 ≤ a + 1 → b1 ≤ b + 6 → k T1 = some 1 → G g a1 b1 T1 2666 [(0, .ref b0), (1, .ref (xE (gκ g) 8 0 0)), (2, .ref (xE (gκ g) 9 0 0)), (3, .ref (xE (gκ g) 10 0 0)), (4, .int a4)] []) (h : sL_c37 k xs L (x0, x1, x2, ps, ta, tb, d, S, pg, c, m, ot) a4 = some 1) : G g a b (x0, x1, x2, ps, ta, tb, d, S, pg, c, m, ot) 2232 [(0, .ref b0), (1, .ref (xE (gκ g) 8 0 0)), (2, .ref (xE (gκ g) 9 0 0)), (3, .ref (xE (gκ g) 10 0 0)), (4, .int a4)] [] := by
  unfold sL_c37 at h
  dsimp only at h
  refine G_aload_n X 1 dL_law_2232 rfl rfl ?_
  refine G_aload_n X 0 dL_law_2233 rfl rfl ?_
  refine G_iload X 4 dL_law_2234 rfl ?_
  refine G_iconst X (v := (1 : Int32)) dL_law_2236 (by decide) ?_
  refine G_iadd X dL_law_2237 ?_
  obtain ⟨g314, h⟩ := gd_some h
  refine G_sld X XL g314 dL_law_2238 ?_
  refine G_aload_n X 0 dL_law_2239 rfl rfl ?_
  refine G_iload X 4 dL_law_2240 rfl ?_
  refine G_iconst X (v := (2 : Int32)) dL_law_2242 (by decide) ?_
  refine G_iadd X dL_law_2243 ?_
  obtain ⟨g315, h⟩ := gd_some h
  refine G_sld X XL g315 dL_law_2244 ?_
  refine G_aload_n X 3 dL_law_2245 rfl rfl ?_
  obtain ⟨q316, hq316, h⟩ := bd_some h
  refine G_callW X XL (As := [.ref (xE (gκ g) 8 0 0), .int (xs (ix (a4 + ((1 : Int32))))), .int (xs (ix (a4 + ((2 : Int32))))), .ref (xE (gκ g) 10 0 0)]) (rest := []) (T' := (q316.1, x1, x2, q316.2.1, ta, tb, d, S, pg, q316.2.2.1, m, q316.2.2.2.1)) (st2 := [.int q316.2.2.2.2]) (ct_L_setAt (l := g.2.1) (κ := gκ g)   hq316) cal_L_setAt wM_L_262 wT_L_setAt (by decide) rfl rfl (Nat.le_of_ble_eq_true rfl) (by omega) (by omega) dL_law_2246 rfl ?_
  refine G_istore X (lv' := [(5, .int q316.2.2.2.2), (0, .ref b0), (1, .ref (xE (gκ g) 8 0 0)), (2, .ref (xE (gκ g) 9 0 0)), (3, .ref (xE (gκ g) 10 0 0)), (4, .int a4)]) dL_law_2249 (by decide) rfl ?_
  refine G_aload_n X 3 dL_law_2251 rfl rfl ?_
  refine G_aload_n X 1 dL_law_2252 rfl rfl ?_
  refine G_iload X 5 dL_law_2253 rfl ?_
  refine G_iconst X (v := (1 : Int32)) dL_law_2255 (by decide) ?_
  refine G_iadd X dL_law_2256 ?_
  obtain ⟨g317, h⟩ := gd_some h
  refine G_sld X XL g317 dL_law_2257 ?_
  refine G_aload_n X 1 dL_law_2258 rfl rfl ?_
  refine G_iload X 5 dL_law_2259 rfl ?_
  refine G_iconst X (v := (2 : Int32)) dL_law_2261 (by decide) ?_
  refine G_iadd X dL_law_2262 ?_
  obtain ⟨g318, h⟩ := gd_some h
  refine G_sld X XL g318 dL_law_2263 ?_
  obtain ⟨q319, hq319, h⟩ := bd_some h
  refine G_callV X (As := [.int (xs (ix (a4 + ((1 : Int32))))), .int (xs (ix (a4 + ((2 : Int32)))))]) (rest := []) (T' := (q316.1, x1, x2, q316.2.1, ta, tb, d, S, pg, q316.2.2.1, q319.1, q316.2.2.2.1)) (st2 := [.int q319.2]) (ct_X7_setAt (l := g.2.1) (κ := gκ g) (T := (q316.1, x1, x2, q316.2.1, ta, tb, d, S, pg, q316.2.2.1, m, q316.2.2.2.1)) (m := m)  hq319) cal_X7_setAt wM_L_264 wI_X7_setAt wS_X7_setAt rfl rfl (by decide) rfl rfl (Nat.le_of_ble_eq_true rfl) (XL.2.2.2 (by omega) (by omega)) dL_law_2264 rfl ?_
  refine G_istore X (lv' := [(6, .int q319.2), (5, .int q316.2.2.2.2), (0, .ref b0), (1, .ref (xE (gκ g) 8 0 0)), (2, .ref (xE (gκ g) 9 0 0)), (3, .ref (xE (gκ g) 10 0 0)), (4, .int a4)]) dL_law_2267 (by decide) rfl ?_
  refine G_aload_n X 4 dL_law_2269 rfl rfl ?_
  obtain ⟨q320, hq320, h⟩ := bd_some h
  refine G_callV X (As := []) (rest := []) (T' := (q316.1, x1, x2, q316.2.1, ta, tb, d, S, pg, q316.2.2.1, q319.1, q316.2.2.2.1)) (st2 := [.int q320]) (ct_X7_thrown (l := g.2.1) (κ := gκ g) (T := (q316.1, x1, x2, q316.2.1, ta, tb, d, S, pg, q316.2.2.1, q319.1, q316.2.2.2.1)) (m := q319.1)  hq320) cal_X7_thrown wM_L_139 wI_X7_thrown wS_X7_thrown rfl rfl (by decide) rfl rfl (Nat.le_of_ble_eq_true rfl) (XL.2.2.2 (by omega) (by omega)) dL_law_2270 rfl ?_
  refine G_iload X 1 dL_law_2273 rfl ?_
  refine G_icmp_eq X (tgt := 2280) dL_law_2275 (by decide) (fun c321 => ?_) (fun c321 => ?_)
  · have h := it_t c321 h
    refine G_iload X 1 dL_law_2280 rfl ?_
    refine G_if_ne X (tgt := 2297) dL_law_2282 (by decide) (fun c322 => ?_) (fun c322 => ?_)
    · have h := it_t c322 h
      refine G_goto X (tgt := 2666) dL_law_2297 (by decide) ?_
      refine G_sub [2, 3, 4, 5, 6] rfl ?_
      exact hk _ _ _ (by omega) (by omega) h
    · have h := it_f (fun k => k c322) h
      refine G_aload_n X 5 dL_law_2285 rfl rfl ?_
      refine G_iconst X (v := (0 : Int32)) dL_law_2286 (by decide) ?_
      obtain ⟨g323, h⟩ := gd_some h
      refine G_lald X rfl rfl g323 dL_law_2287 ?_
      refine G_iload X 0 dL_law_2288 rfl ?_
      refine G_i2l X dL_law_2290 ?_
      refine G_lcmp X dL_law_2291 ?_
      refine G_if_eq X (tgt := 2297) dL_law_2292 (by decide) (fun c324 => ?_) (fun c324 => ?_)
      · have h := it_t c324 h
        refine G_goto X (tgt := 2666) dL_law_2297 (by decide) ?_
        refine G_sub [2, 3, 4, 5, 6] rfl ?_
        exact hk _ _ _ (by omega) (by omega) h
      · have h := it_f c324 h
        refine G_iconst X (v := (0 : Int32)) dL_law_2295 (by decide) ?_
        cases h
  · have h := it_f c321 h
    refine G_iconst X (v := (0 : Int32)) dL_law_2278 (by decide) ?_
    cases h
set_option maxRecDepth 20000 in
theorem gL_c38 {g : GX} {a b b0 L : Nat} {xs : Nat → Int32} {k : TT → Option Int32} {x0 x1 x2 ta tb d S pg c m ot : St} {ps : Nat → St} {a4 : Int32} (X : CX g RL cL_law 9 14 538) (XL : XLaw g b0 L xs) (ha : a < 601024) (hb : b + 6 ≤ 7293034) (hk : ∀ (T1 : TT) (a1 b1 : Nat), a1 ≤ a + 1 → b1 ≤ b + 6 → k T1 = some 1 → G g a1 b1 T1 2666 [(0, .ref b0), (1, .ref (xE (gκ g) 8 0 0)), (2, .ref (xE (gκ g) 9 0 0)), (3, .ref (xE (gκ g) 10 0 0)), (4, .int a4)] []) (h : sL_c38 k xs L (x0, x1, x2, ps, ta, tb, d, S, pg, c, m, ot) a4 = some 1) : G g a b (x0, x1, x2, ps, ta, tb, d, S, pg, c, m, ot) 2300 [(0, .ref b0), (1, .ref (xE (gκ g) 8 0 0)), (2, .ref (xE (gκ g) 9 0 0)), (3, .ref (xE (gκ g) 10 0 0)), (4, .int a4)] [] := by
  unfold sL_c38 at h
  dsimp only at h
  refine G_aload_n X 1 dL_law_2300 rfl rfl ?_
  refine G_aload_n X 0 dL_law_2301 rfl rfl ?_
  refine G_iload X 4 dL_law_2302 rfl ?_
  refine G_iconst X (v := (1 : Int32)) dL_law_2304 (by decide) ?_
  refine G_iadd X dL_law_2305 ?_
  obtain ⟨g325, h⟩ := gd_some h
  refine G_sld X XL g325 dL_law_2306 ?_
  refine G_aload_n X 0 dL_law_2307 rfl rfl ?_
  refine G_iload X 4 dL_law_2308 rfl ?_
  refine G_iconst X (v := (2 : Int32)) dL_law_2310 (by decide) ?_
  refine G_iadd X dL_law_2311 ?_
  obtain ⟨g326, h⟩ := gd_some h
  refine G_sld X XL g326 dL_law_2312 ?_
  refine G_aload_n X 3 dL_law_2313 rfl rfl ?_
  obtain ⟨q327, hq327, h⟩ := bd_some h
  refine G_callW X XL (As := [.ref (xE (gκ g) 8 0 0), .int (xs (ix (a4 + ((1 : Int32))))), .int (xs (ix (a4 + ((2 : Int32))))), .ref (xE (gκ g) 10 0 0)]) (rest := []) (T' := (q327.1, x1, x2, q327.2.1, ta, tb, d, S, pg, q327.2.2.1, m, q327.2.2.2.1)) (st2 := [.int q327.2.2.2.2]) (ct_L_charge (l := g.2.1) (κ := gκ g)   hq327) cal_L_charge wM_L_265 wT_L_charge (by decide) rfl rfl (Nat.le_of_ble_eq_true rfl) (by omega) (by omega) dL_law_2314 rfl ?_
  refine G_istore X (lv' := [(5, .int q327.2.2.2.2), (0, .ref b0), (1, .ref (xE (gκ g) 8 0 0)), (2, .ref (xE (gκ g) 9 0 0)), (3, .ref (xE (gκ g) 10 0 0)), (4, .int a4)]) dL_law_2317 (by decide) rfl ?_
  refine G_aload_n X 3 dL_law_2319 rfl rfl ?_
  refine G_aload_n X 1 dL_law_2320 rfl rfl ?_
  refine G_iload X 5 dL_law_2321 rfl ?_
  refine G_iconst X (v := (1 : Int32)) dL_law_2323 (by decide) ?_
  refine G_iadd X dL_law_2324 ?_
  obtain ⟨g328, h⟩ := gd_some h
  refine G_sld X XL g328 dL_law_2325 ?_
  refine G_aload_n X 1 dL_law_2326 rfl rfl ?_
  refine G_iload X 5 dL_law_2327 rfl ?_
  refine G_iconst X (v := (2 : Int32)) dL_law_2329 (by decide) ?_
  refine G_iadd X dL_law_2330 ?_
  obtain ⟨g329, h⟩ := gd_some h
  refine G_sld X XL g329 dL_law_2331 ?_
  obtain ⟨q330, hq330, h⟩ := bd_some h
  refine G_callV X (As := [.int (xs (ix (a4 + ((1 : Int32))))), .int (xs (ix (a4 + ((2 : Int32)))))]) (rest := []) (T' := (q327.1, x1, x2, q327.2.1, ta, tb, d, S, pg, q327.2.2.1, q330.1, q327.2.2.2.1)) (st2 := [.int q330.2]) (ct_X7_charge (l := g.2.1) (κ := gκ g) (T := (q327.1, x1, x2, q327.2.1, ta, tb, d, S, pg, q327.2.2.1, m, q327.2.2.2.1)) (m := m)  hq330) cal_X7_charge wM_L_267 wI_X7_charge wS_X7_charge rfl rfl (by decide) rfl rfl (Nat.le_of_ble_eq_true rfl) (XL.2.2.2 (by omega) (by omega)) dL_law_2332 rfl ?_
  refine G_istore X (lv' := [(6, .int q330.2), (5, .int q327.2.2.2.2), (0, .ref b0), (1, .ref (xE (gκ g) 8 0 0)), (2, .ref (xE (gκ g) 9 0 0)), (3, .ref (xE (gκ g) 10 0 0)), (4, .int a4)]) dL_law_2335 (by decide) rfl ?_
  refine G_aload_n X 4 dL_law_2337 rfl rfl ?_
  obtain ⟨q331, hq331, h⟩ := bd_some h
  refine G_callV X (As := []) (rest := []) (T' := (q327.1, x1, x2, q327.2.1, ta, tb, d, S, pg, q327.2.2.1, q330.1, q327.2.2.2.1)) (st2 := [.int q331]) (ct_X7_thrown (l := g.2.1) (κ := gκ g) (T := (q327.1, x1, x2, q327.2.1, ta, tb, d, S, pg, q327.2.2.1, q330.1, q327.2.2.2.1)) (m := q330.1)  hq331) cal_X7_thrown wM_L_139 wI_X7_thrown wS_X7_thrown rfl rfl (by decide) rfl rfl (Nat.le_of_ble_eq_true rfl) (XL.2.2.2 (by omega) (by omega)) dL_law_2338 rfl ?_
  refine G_iload X 1 dL_law_2341 rfl ?_
  refine G_icmp_eq X (tgt := 2348) dL_law_2343 (by decide) (fun c332 => ?_) (fun c332 => ?_)
  · have h := it_t c332 h
    refine G_iload X 1 dL_law_2348 rfl ?_
    refine G_if_ne X (tgt := 2365) dL_law_2350 (by decide) (fun c333 => ?_) (fun c333 => ?_)
    · have h := it_t c333 h
      refine G_goto X (tgt := 2666) dL_law_2365 (by decide) ?_
      refine G_sub [2, 3, 4, 5, 6] rfl ?_
      exact hk _ _ _ (by omega) (by omega) h
    · have h := it_f (fun k => k c333) h
      refine G_aload_n X 5 dL_law_2353 rfl rfl ?_
      refine G_iconst X (v := (0 : Int32)) dL_law_2354 (by decide) ?_
      obtain ⟨g334, h⟩ := gd_some h
      refine G_lald X rfl rfl g334 dL_law_2355 ?_
      refine G_iload X 0 dL_law_2356 rfl ?_
      refine G_i2l X dL_law_2358 ?_
      refine G_lcmp X dL_law_2359 ?_
      refine G_if_eq X (tgt := 2365) dL_law_2360 (by decide) (fun c335 => ?_) (fun c335 => ?_)
      · have h := it_t c335 h
        refine G_goto X (tgt := 2666) dL_law_2365 (by decide) ?_
        refine G_sub [2, 3, 4, 5, 6] rfl ?_
        exact hk _ _ _ (by omega) (by omega) h
      · have h := it_f c335 h
        refine G_iconst X (v := (0 : Int32)) dL_law_2363 (by decide) ?_
        cases h
  · have h := it_f c332 h
    refine G_iconst X (v := (0 : Int32)) dL_law_2346 (by decide) ?_
    cases h
set_option maxRecDepth 20000 in
theorem gL_c39 {g : GX} {a b b0 L : Nat} {xs : Nat → Int32} {k : TT → Option Int32} {x0 x1 x2 ta tb d S pg c m ot : St} {ps : Nat → St} {a4 : Int32} (X : CX g RL cL_law 9 14 538) (XL : XLaw g b0 L xs) (ha : a < 601024) (hb : b + 6 ≤ 7293034) (hk : ∀ (T1 : TT) (a1 b1 : Nat), a1 ≤ a + 1 → b1 ≤ b + 6 → k T1 = some 1 → G g a1 b1 T1 2666 [(0, .ref b0), (1, .ref (xE (gκ g) 8 0 0)), (2, .ref (xE (gκ g) 9 0 0)), (3, .ref (xE (gκ g) 10 0 0)), (4, .int a4)] []) (h : sL_c39 k xs L (x0, x1, x2, ps, ta, tb, d, S, pg, c, m, ot) a4 = some 1) : G g a b (x0, x1, x2, ps, ta, tb, d, S, pg, c, m, ot) 2368 [(0, .ref b0), (1, .ref (xE (gκ g) 8 0 0)), (2, .ref (xE (gκ g) 9 0 0)), (3, .ref (xE (gκ g) 10 0 0)), (4, .int a4)] [] := by
  unfold sL_c39 at h
  dsimp only at h
  refine G_aload_n X 1 dL_law_2368 rfl rfl ?_
  refine G_aload_n X 0 dL_law_2369 rfl rfl ?_
  refine G_iload X 4 dL_law_2370 rfl ?_
  refine G_iconst X (v := (1 : Int32)) dL_law_2372 (by decide) ?_
  refine G_iadd X dL_law_2373 ?_
  obtain ⟨g336, h⟩ := gd_some h
  refine G_sld X XL g336 dL_law_2374 ?_
  refine G_aload_n X 0 dL_law_2375 rfl rfl ?_
  refine G_iload X 4 dL_law_2376 rfl ?_
  refine G_iconst X (v := (2 : Int32)) dL_law_2378 (by decide) ?_
  refine G_iadd X dL_law_2379 ?_
  obtain ⟨g337, h⟩ := gd_some h
  refine G_sld X XL g337 dL_law_2380 ?_
  refine G_aload_n X 0 dL_law_2381 rfl rfl ?_
  refine G_iload X 4 dL_law_2382 rfl ?_
  refine G_iconst X (v := (3 : Int32)) dL_law_2384 (by decide) ?_
  refine G_iadd X dL_law_2385 ?_
  obtain ⟨g338, h⟩ := gd_some h
  refine G_sld X XL g338 dL_law_2386 ?_
  refine G_if_eq X (tgt := 2394) dL_law_2387 (by decide) (fun c339 => ?_) (fun c339 => ?_)
  · have h := it_t c339 h
    refine G_iconst X (v := (0 : Int32)) dL_law_2394 (by decide) ?_
    refine G_aload_n X 3 dL_law_2395 rfl rfl ?_
    obtain ⟨q340, hq340, h⟩ := bd_some h
    refine G_callW X XL (As := [.ref (xE (gκ g) 8 0 0), .int (xs (ix (a4 + ((1 : Int32))))), .int (xs (ix (a4 + ((2 : Int32))))), .int ((0 : Int32)), .ref (xE (gκ g) 10 0 0)]) (rest := []) (T' := (q340.1, x1, x2, q340.2.1, ta, tb, d, S, pg, q340.2.2.1, m, q340.2.2.2.1)) (st2 := [.int q340.2.2.2.2]) (ct_L_setNear (l := g.2.1) (κ := gκ g)   hq340) cal_L_setNear wM_L_268 wT_L_setNear (by decide) rfl rfl (Nat.le_of_ble_eq_true rfl) (by omega) (by omega) dL_law_2396 rfl ?_
    refine G_istore X (lv' := [(5, .int q340.2.2.2.2), (0, .ref b0), (1, .ref (xE (gκ g) 8 0 0)), (2, .ref (xE (gκ g) 9 0 0)), (3, .ref (xE (gκ g) 10 0 0)), (4, .int a4)]) dL_law_2399 (by decide) rfl ?_
    refine G_aload_n X 3 dL_law_2401 rfl rfl ?_
    refine G_aload_n X 1 dL_law_2402 rfl rfl ?_
    refine G_iload X 5 dL_law_2403 rfl ?_
    refine G_iconst X (v := (1 : Int32)) dL_law_2405 (by decide) ?_
    refine G_iadd X dL_law_2406 ?_
    obtain ⟨g341, h⟩ := gd_some h
    refine G_sld X XL g341 dL_law_2407 ?_
    refine G_aload_n X 1 dL_law_2408 rfl rfl ?_
    refine G_iload X 5 dL_law_2409 rfl ?_
    refine G_iconst X (v := (2 : Int32)) dL_law_2411 (by decide) ?_
    refine G_iadd X dL_law_2412 ?_
    obtain ⟨g342, h⟩ := gd_some h
    refine G_sld X XL g342 dL_law_2413 ?_
    refine G_aload_n X 1 dL_law_2414 rfl rfl ?_
    refine G_iload X 5 dL_law_2415 rfl ?_
    refine G_iconst X (v := (3 : Int32)) dL_law_2417 (by decide) ?_
    refine G_iadd X dL_law_2418 ?_
    obtain ⟨g343, h⟩ := gd_some h
    refine G_sld X XL g343 dL_law_2419 ?_
    refine G_if_eq X (tgt := 2427) dL_law_2420 (by decide) (fun c344 => ?_) (fun c344 => ?_)
    · have h := it_t c344 h
      refine G_iconst X (v := (0 : Int32)) dL_law_2427 (by decide) ?_
      obtain ⟨q345, hq345, h⟩ := bd_some h
      refine G_callV X (As := [.int (xs (ix (a4 + ((1 : Int32))))), .int (xs (ix (a4 + ((2 : Int32))))), .int ((0 : Int32))]) (rest := []) (T' := (q340.1, x1, x2, q340.2.1, ta, tb, d, S, pg, q340.2.2.1, q345.1, q340.2.2.2.1)) (st2 := [.int q345.2]) (ct_X7_setNear (l := g.2.1) (κ := gκ g) (T := (q340.1, x1, x2, q340.2.1, ta, tb, d, S, pg, q340.2.2.1, m, q340.2.2.2.1)) (m := m)  hq345) cal_X7_setNear wM_L_271 wI_X7_setNear wS_X7_setNear rfl rfl (by decide) rfl rfl (Nat.le_of_ble_eq_true rfl) (XL.2.2.2 (by omega) (by omega)) dL_law_2428 rfl ?_
      refine G_istore X (lv' := [(6, .int q345.2), (5, .int q340.2.2.2.2), (0, .ref b0), (1, .ref (xE (gκ g) 8 0 0)), (2, .ref (xE (gκ g) 9 0 0)), (3, .ref (xE (gκ g) 10 0 0)), (4, .int a4)]) dL_law_2431 (by decide) rfl ?_
      refine G_aload_n X 4 dL_law_2433 rfl rfl ?_
      obtain ⟨q346, hq346, h⟩ := bd_some h
      refine G_callV X (As := []) (rest := []) (T' := (q340.1, x1, x2, q340.2.1, ta, tb, d, S, pg, q340.2.2.1, q345.1, q340.2.2.2.1)) (st2 := [.int q346]) (ct_X7_thrown (l := g.2.1) (κ := gκ g) (T := (q340.1, x1, x2, q340.2.1, ta, tb, d, S, pg, q340.2.2.1, q345.1, q340.2.2.2.1)) (m := q345.1)  hq346) cal_X7_thrown wM_L_139 wI_X7_thrown wS_X7_thrown rfl rfl (by decide) rfl rfl (Nat.le_of_ble_eq_true rfl) (XL.2.2.2 (by omega) (by omega)) dL_law_2434 rfl ?_
      refine G_iload X 1 dL_law_2437 rfl ?_
      refine G_icmp_eq X (tgt := 2444) dL_law_2439 (by decide) (fun c347 => ?_) (fun c347 => ?_)
      · have h := it_t c347 h
        refine G_iload X 1 dL_law_2444 rfl ?_
        refine G_if_ne X (tgt := 2468) dL_law_2446 (by decide) (fun c348 => ?_) (fun c348 => ?_)
        · have h := it_t c348 h
          refine G_goto X (tgt := 2666) dL_law_2468 (by decide) ?_
          refine G_sub [2, 3, 4, 5, 6] rfl ?_
          exact hk _ _ _ (by omega) (by omega) h
        · have h := it_f (fun k => k c348) h
          refine G_aload_n X 5 dL_law_2449 rfl rfl ?_
          refine G_iconst X (v := (0 : Int32)) dL_law_2450 (by decide) ?_
          obtain ⟨g349, h⟩ := gd_some h
          refine G_lald X rfl rfl g349 dL_law_2451 ?_
          refine G_iload X 0 dL_law_2452 rfl ?_
          refine G_if_eq X (tgt := 2461) dL_law_2454 (by decide) (fun c350 => ?_) (fun c350 => ?_)
          · have h := it_t c350 h
            refine G_lconst X (v := (0 : Int64)) dL_law_2461 (by decide) ?_
            refine G_lcmp X dL_law_2462 ?_
            refine G_if_eq X (tgt := 2468) dL_law_2463 (by decide) (fun c351 => ?_) (fun c351 => ?_)
            · have h := it_t c351 h
              refine G_goto X (tgt := 2666) dL_law_2468 (by decide) ?_
              refine G_sub [2, 3, 4, 5, 6] rfl ?_
              exact hk _ _ _ (by omega) (by omega) h
            · have h := it_f c351 h
              refine G_iconst X (v := (0 : Int32)) dL_law_2466 (by decide) ?_
              cases h
          · have h := it_f c350 h
            refine G_lconst X (v := (1 : Int64)) dL_law_2457 (by decide) ?_
            refine G_goto X (tgt := 2462) dL_law_2458 (by decide) ?_
            refine G_lcmp X dL_law_2462 ?_
            refine G_if_eq X (tgt := 2468) dL_law_2463 (by decide) (fun c352 => ?_) (fun c352 => ?_)
            · have h := it_t c352 h
              refine G_goto X (tgt := 2666) dL_law_2468 (by decide) ?_
              refine G_sub [2, 3, 4, 5, 6] rfl ?_
              exact hk _ _ _ (by omega) (by omega) h
            · have h := it_f c352 h
              refine G_iconst X (v := (0 : Int32)) dL_law_2466 (by decide) ?_
              cases h
      · have h := it_f c347 h
        refine G_iconst X (v := (0 : Int32)) dL_law_2442 (by decide) ?_
        cases h
    · have h := it_f c344 h
      refine G_iconst X (v := (1 : Int32)) dL_law_2423 (by decide) ?_
      refine G_goto X (tgt := 2428) dL_law_2424 (by decide) ?_
      obtain ⟨q353, hq353, h⟩ := bd_some h
      refine G_callV X (As := [.int (xs (ix (a4 + ((1 : Int32))))), .int (xs (ix (a4 + ((2 : Int32))))), .int ((1 : Int32))]) (rest := []) (T' := (q340.1, x1, x2, q340.2.1, ta, tb, d, S, pg, q340.2.2.1, q353.1, q340.2.2.2.1)) (st2 := [.int q353.2]) (ct_X7_setNear (l := g.2.1) (κ := gκ g) (T := (q340.1, x1, x2, q340.2.1, ta, tb, d, S, pg, q340.2.2.1, m, q340.2.2.2.1)) (m := m)  hq353) cal_X7_setNear wM_L_271 wI_X7_setNear wS_X7_setNear rfl rfl (by decide) rfl rfl (Nat.le_of_ble_eq_true rfl) (XL.2.2.2 (by omega) (by omega)) dL_law_2428 rfl ?_
      refine G_istore X (lv' := [(6, .int q353.2), (5, .int q340.2.2.2.2), (0, .ref b0), (1, .ref (xE (gκ g) 8 0 0)), (2, .ref (xE (gκ g) 9 0 0)), (3, .ref (xE (gκ g) 10 0 0)), (4, .int a4)]) dL_law_2431 (by decide) rfl ?_
      refine G_aload_n X 4 dL_law_2433 rfl rfl ?_
      obtain ⟨q354, hq354, h⟩ := bd_some h
      refine G_callV X (As := []) (rest := []) (T' := (q340.1, x1, x2, q340.2.1, ta, tb, d, S, pg, q340.2.2.1, q353.1, q340.2.2.2.1)) (st2 := [.int q354]) (ct_X7_thrown (l := g.2.1) (κ := gκ g) (T := (q340.1, x1, x2, q340.2.1, ta, tb, d, S, pg, q340.2.2.1, q353.1, q340.2.2.2.1)) (m := q353.1)  hq354) cal_X7_thrown wM_L_139 wI_X7_thrown wS_X7_thrown rfl rfl (by decide) rfl rfl (Nat.le_of_ble_eq_true rfl) (XL.2.2.2 (by omega) (by omega)) dL_law_2434 rfl ?_
      refine G_iload X 1 dL_law_2437 rfl ?_
      refine G_icmp_eq X (tgt := 2444) dL_law_2439 (by decide) (fun c355 => ?_) (fun c355 => ?_)
      · have h := it_t c355 h
        refine G_iload X 1 dL_law_2444 rfl ?_
        refine G_if_ne X (tgt := 2468) dL_law_2446 (by decide) (fun c356 => ?_) (fun c356 => ?_)
        · have h := it_t c356 h
          refine G_goto X (tgt := 2666) dL_law_2468 (by decide) ?_
          refine G_sub [2, 3, 4, 5, 6] rfl ?_
          exact hk _ _ _ (by omega) (by omega) h
        · have h := it_f (fun k => k c356) h
          refine G_aload_n X 5 dL_law_2449 rfl rfl ?_
          refine G_iconst X (v := (0 : Int32)) dL_law_2450 (by decide) ?_
          obtain ⟨g357, h⟩ := gd_some h
          refine G_lald X rfl rfl g357 dL_law_2451 ?_
          refine G_iload X 0 dL_law_2452 rfl ?_
          refine G_if_eq X (tgt := 2461) dL_law_2454 (by decide) (fun c358 => ?_) (fun c358 => ?_)
          · have h := it_t c358 h
            refine G_lconst X (v := (0 : Int64)) dL_law_2461 (by decide) ?_
            refine G_lcmp X dL_law_2462 ?_
            refine G_if_eq X (tgt := 2468) dL_law_2463 (by decide) (fun c359 => ?_) (fun c359 => ?_)
            · have h := it_t c359 h
              refine G_goto X (tgt := 2666) dL_law_2468 (by decide) ?_
              refine G_sub [2, 3, 4, 5, 6] rfl ?_
              exact hk _ _ _ (by omega) (by omega) h
            · have h := it_f c359 h
              refine G_iconst X (v := (0 : Int32)) dL_law_2466 (by decide) ?_
              cases h
          · have h := it_f c358 h
            refine G_lconst X (v := (1 : Int64)) dL_law_2457 (by decide) ?_
            refine G_goto X (tgt := 2462) dL_law_2458 (by decide) ?_
            refine G_lcmp X dL_law_2462 ?_
            refine G_if_eq X (tgt := 2468) dL_law_2463 (by decide) (fun c360 => ?_) (fun c360 => ?_)
            · have h := it_t c360 h
              refine G_goto X (tgt := 2666) dL_law_2468 (by decide) ?_
              refine G_sub [2, 3, 4, 5, 6] rfl ?_
              exact hk _ _ _ (by omega) (by omega) h
            · have h := it_f c360 h
              refine G_iconst X (v := (0 : Int32)) dL_law_2466 (by decide) ?_
              cases h
      · have h := it_f c355 h
        refine G_iconst X (v := (0 : Int32)) dL_law_2442 (by decide) ?_
        cases h
  · have h := it_f c339 h
    refine G_iconst X (v := (1 : Int32)) dL_law_2390 (by decide) ?_
    refine G_goto X (tgt := 2395) dL_law_2391 (by decide) ?_
    refine G_aload_n X 3 dL_law_2395 rfl rfl ?_
    obtain ⟨q361, hq361, h⟩ := bd_some h
    refine G_callW X XL (As := [.ref (xE (gκ g) 8 0 0), .int (xs (ix (a4 + ((1 : Int32))))), .int (xs (ix (a4 + ((2 : Int32))))), .int ((1 : Int32)), .ref (xE (gκ g) 10 0 0)]) (rest := []) (T' := (q361.1, x1, x2, q361.2.1, ta, tb, d, S, pg, q361.2.2.1, m, q361.2.2.2.1)) (st2 := [.int q361.2.2.2.2]) (ct_L_setNear (l := g.2.1) (κ := gκ g)   hq361) cal_L_setNear wM_L_268 wT_L_setNear (by decide) rfl rfl (Nat.le_of_ble_eq_true rfl) (by omega) (by omega) dL_law_2396 rfl ?_
    refine G_istore X (lv' := [(5, .int q361.2.2.2.2), (0, .ref b0), (1, .ref (xE (gκ g) 8 0 0)), (2, .ref (xE (gκ g) 9 0 0)), (3, .ref (xE (gκ g) 10 0 0)), (4, .int a4)]) dL_law_2399 (by decide) rfl ?_
    refine G_aload_n X 3 dL_law_2401 rfl rfl ?_
    refine G_aload_n X 1 dL_law_2402 rfl rfl ?_
    refine G_iload X 5 dL_law_2403 rfl ?_
    refine G_iconst X (v := (1 : Int32)) dL_law_2405 (by decide) ?_
    refine G_iadd X dL_law_2406 ?_
    obtain ⟨g362, h⟩ := gd_some h
    refine G_sld X XL g362 dL_law_2407 ?_
    refine G_aload_n X 1 dL_law_2408 rfl rfl ?_
    refine G_iload X 5 dL_law_2409 rfl ?_
    refine G_iconst X (v := (2 : Int32)) dL_law_2411 (by decide) ?_
    refine G_iadd X dL_law_2412 ?_
    obtain ⟨g363, h⟩ := gd_some h
    refine G_sld X XL g363 dL_law_2413 ?_
    refine G_aload_n X 1 dL_law_2414 rfl rfl ?_
    refine G_iload X 5 dL_law_2415 rfl ?_
    refine G_iconst X (v := (3 : Int32)) dL_law_2417 (by decide) ?_
    refine G_iadd X dL_law_2418 ?_
    obtain ⟨g364, h⟩ := gd_some h
    refine G_sld X XL g364 dL_law_2419 ?_
    refine G_if_eq X (tgt := 2427) dL_law_2420 (by decide) (fun c365 => ?_) (fun c365 => ?_)
    · have h := it_t c365 h
      refine G_iconst X (v := (0 : Int32)) dL_law_2427 (by decide) ?_
      obtain ⟨q366, hq366, h⟩ := bd_some h
      refine G_callV X (As := [.int (xs (ix (a4 + ((1 : Int32))))), .int (xs (ix (a4 + ((2 : Int32))))), .int ((0 : Int32))]) (rest := []) (T' := (q361.1, x1, x2, q361.2.1, ta, tb, d, S, pg, q361.2.2.1, q366.1, q361.2.2.2.1)) (st2 := [.int q366.2]) (ct_X7_setNear (l := g.2.1) (κ := gκ g) (T := (q361.1, x1, x2, q361.2.1, ta, tb, d, S, pg, q361.2.2.1, m, q361.2.2.2.1)) (m := m)  hq366) cal_X7_setNear wM_L_271 wI_X7_setNear wS_X7_setNear rfl rfl (by decide) rfl rfl (Nat.le_of_ble_eq_true rfl) (XL.2.2.2 (by omega) (by omega)) dL_law_2428 rfl ?_
      refine G_istore X (lv' := [(6, .int q366.2), (5, .int q361.2.2.2.2), (0, .ref b0), (1, .ref (xE (gκ g) 8 0 0)), (2, .ref (xE (gκ g) 9 0 0)), (3, .ref (xE (gκ g) 10 0 0)), (4, .int a4)]) dL_law_2431 (by decide) rfl ?_
      refine G_aload_n X 4 dL_law_2433 rfl rfl ?_
      obtain ⟨q367, hq367, h⟩ := bd_some h
      refine G_callV X (As := []) (rest := []) (T' := (q361.1, x1, x2, q361.2.1, ta, tb, d, S, pg, q361.2.2.1, q366.1, q361.2.2.2.1)) (st2 := [.int q367]) (ct_X7_thrown (l := g.2.1) (κ := gκ g) (T := (q361.1, x1, x2, q361.2.1, ta, tb, d, S, pg, q361.2.2.1, q366.1, q361.2.2.2.1)) (m := q366.1)  hq367) cal_X7_thrown wM_L_139 wI_X7_thrown wS_X7_thrown rfl rfl (by decide) rfl rfl (Nat.le_of_ble_eq_true rfl) (XL.2.2.2 (by omega) (by omega)) dL_law_2434 rfl ?_
      refine G_iload X 1 dL_law_2437 rfl ?_
      refine G_icmp_eq X (tgt := 2444) dL_law_2439 (by decide) (fun c368 => ?_) (fun c368 => ?_)
      · have h := it_t c368 h
        refine G_iload X 1 dL_law_2444 rfl ?_
        refine G_if_ne X (tgt := 2468) dL_law_2446 (by decide) (fun c369 => ?_) (fun c369 => ?_)
        · have h := it_t c369 h
          refine G_goto X (tgt := 2666) dL_law_2468 (by decide) ?_
          refine G_sub [2, 3, 4, 5, 6] rfl ?_
          exact hk _ _ _ (by omega) (by omega) h
        · have h := it_f (fun k => k c369) h
          refine G_aload_n X 5 dL_law_2449 rfl rfl ?_
          refine G_iconst X (v := (0 : Int32)) dL_law_2450 (by decide) ?_
          obtain ⟨g370, h⟩ := gd_some h
          refine G_lald X rfl rfl g370 dL_law_2451 ?_
          refine G_iload X 0 dL_law_2452 rfl ?_
          refine G_if_eq X (tgt := 2461) dL_law_2454 (by decide) (fun c371 => ?_) (fun c371 => ?_)
          · have h := it_t c371 h
            refine G_lconst X (v := (0 : Int64)) dL_law_2461 (by decide) ?_
            refine G_lcmp X dL_law_2462 ?_
            refine G_if_eq X (tgt := 2468) dL_law_2463 (by decide) (fun c372 => ?_) (fun c372 => ?_)
            · have h := it_t c372 h
              refine G_goto X (tgt := 2666) dL_law_2468 (by decide) ?_
              refine G_sub [2, 3, 4, 5, 6] rfl ?_
              exact hk _ _ _ (by omega) (by omega) h
            · have h := it_f c372 h
              refine G_iconst X (v := (0 : Int32)) dL_law_2466 (by decide) ?_
              cases h
          · have h := it_f c371 h
            refine G_lconst X (v := (1 : Int64)) dL_law_2457 (by decide) ?_
            refine G_goto X (tgt := 2462) dL_law_2458 (by decide) ?_
            refine G_lcmp X dL_law_2462 ?_
            refine G_if_eq X (tgt := 2468) dL_law_2463 (by decide) (fun c373 => ?_) (fun c373 => ?_)
            · have h := it_t c373 h
              refine G_goto X (tgt := 2666) dL_law_2468 (by decide) ?_
              refine G_sub [2, 3, 4, 5, 6] rfl ?_
              exact hk _ _ _ (by omega) (by omega) h
            · have h := it_f c373 h
              refine G_iconst X (v := (0 : Int32)) dL_law_2466 (by decide) ?_
              cases h
      · have h := it_f c368 h
        refine G_iconst X (v := (0 : Int32)) dL_law_2442 (by decide) ?_
        cases h
    · have h := it_f c365 h
      refine G_iconst X (v := (1 : Int32)) dL_law_2423 (by decide) ?_
      refine G_goto X (tgt := 2428) dL_law_2424 (by decide) ?_
      obtain ⟨q374, hq374, h⟩ := bd_some h
      refine G_callV X (As := [.int (xs (ix (a4 + ((1 : Int32))))), .int (xs (ix (a4 + ((2 : Int32))))), .int ((1 : Int32))]) (rest := []) (T' := (q361.1, x1, x2, q361.2.1, ta, tb, d, S, pg, q361.2.2.1, q374.1, q361.2.2.2.1)) (st2 := [.int q374.2]) (ct_X7_setNear (l := g.2.1) (κ := gκ g) (T := (q361.1, x1, x2, q361.2.1, ta, tb, d, S, pg, q361.2.2.1, m, q361.2.2.2.1)) (m := m)  hq374) cal_X7_setNear wM_L_271 wI_X7_setNear wS_X7_setNear rfl rfl (by decide) rfl rfl (Nat.le_of_ble_eq_true rfl) (XL.2.2.2 (by omega) (by omega)) dL_law_2428 rfl ?_
      refine G_istore X (lv' := [(6, .int q374.2), (5, .int q361.2.2.2.2), (0, .ref b0), (1, .ref (xE (gκ g) 8 0 0)), (2, .ref (xE (gκ g) 9 0 0)), (3, .ref (xE (gκ g) 10 0 0)), (4, .int a4)]) dL_law_2431 (by decide) rfl ?_
      refine G_aload_n X 4 dL_law_2433 rfl rfl ?_
      obtain ⟨q375, hq375, h⟩ := bd_some h
      refine G_callV X (As := []) (rest := []) (T' := (q361.1, x1, x2, q361.2.1, ta, tb, d, S, pg, q361.2.2.1, q374.1, q361.2.2.2.1)) (st2 := [.int q375]) (ct_X7_thrown (l := g.2.1) (κ := gκ g) (T := (q361.1, x1, x2, q361.2.1, ta, tb, d, S, pg, q361.2.2.1, q374.1, q361.2.2.2.1)) (m := q374.1)  hq375) cal_X7_thrown wM_L_139 wI_X7_thrown wS_X7_thrown rfl rfl (by decide) rfl rfl (Nat.le_of_ble_eq_true rfl) (XL.2.2.2 (by omega) (by omega)) dL_law_2434 rfl ?_
      refine G_iload X 1 dL_law_2437 rfl ?_
      refine G_icmp_eq X (tgt := 2444) dL_law_2439 (by decide) (fun c376 => ?_) (fun c376 => ?_)
      · have h := it_t c376 h
        refine G_iload X 1 dL_law_2444 rfl ?_
        refine G_if_ne X (tgt := 2468) dL_law_2446 (by decide) (fun c377 => ?_) (fun c377 => ?_)
        · have h := it_t c377 h
          refine G_goto X (tgt := 2666) dL_law_2468 (by decide) ?_
          refine G_sub [2, 3, 4, 5, 6] rfl ?_
          exact hk _ _ _ (by omega) (by omega) h
        · have h := it_f (fun k => k c377) h
          refine G_aload_n X 5 dL_law_2449 rfl rfl ?_
          refine G_iconst X (v := (0 : Int32)) dL_law_2450 (by decide) ?_
          obtain ⟨g378, h⟩ := gd_some h
          refine G_lald X rfl rfl g378 dL_law_2451 ?_
          refine G_iload X 0 dL_law_2452 rfl ?_
          refine G_if_eq X (tgt := 2461) dL_law_2454 (by decide) (fun c379 => ?_) (fun c379 => ?_)
          · have h := it_t c379 h
            refine G_lconst X (v := (0 : Int64)) dL_law_2461 (by decide) ?_
            refine G_lcmp X dL_law_2462 ?_
            refine G_if_eq X (tgt := 2468) dL_law_2463 (by decide) (fun c380 => ?_) (fun c380 => ?_)
            · have h := it_t c380 h
              refine G_goto X (tgt := 2666) dL_law_2468 (by decide) ?_
              refine G_sub [2, 3, 4, 5, 6] rfl ?_
              exact hk _ _ _ (by omega) (by omega) h
            · have h := it_f c380 h
              refine G_iconst X (v := (0 : Int32)) dL_law_2466 (by decide) ?_
              cases h
          · have h := it_f c379 h
            refine G_lconst X (v := (1 : Int64)) dL_law_2457 (by decide) ?_
            refine G_goto X (tgt := 2462) dL_law_2458 (by decide) ?_
            refine G_lcmp X dL_law_2462 ?_
            refine G_if_eq X (tgt := 2468) dL_law_2463 (by decide) (fun c381 => ?_) (fun c381 => ?_)
            · have h := it_t c381 h
              refine G_goto X (tgt := 2666) dL_law_2468 (by decide) ?_
              refine G_sub [2, 3, 4, 5, 6] rfl ?_
              exact hk _ _ _ (by omega) (by omega) h
            · have h := it_f c381 h
              refine G_iconst X (v := (0 : Int32)) dL_law_2466 (by decide) ?_
              cases h
      · have h := it_f c376 h
        refine G_iconst X (v := (0 : Int32)) dL_law_2442 (by decide) ?_
        cases h
set_option maxRecDepth 20000 in
theorem gL_c40 {g : GX} {a b b0 L : Nat} {xs : Nat → Int32} {k : TT → Option Int32} {x0 x1 x2 ta tb d S pg c m ot : St} {ps : Nat → St} {a4 : Int32} (X : CX g RL cL_law 9 14 538) (XL : XLaw g b0 L xs) (ha : a < 601024) (hb : b + 6 ≤ 7293034) (hk : ∀ (T1 : TT) (a1 b1 : Nat), a1 ≤ a + 1 → b1 ≤ b + 6 → k T1 = some 1 → G g a1 b1 T1 2666 [(0, .ref b0), (1, .ref (xE (gκ g) 8 0 0)), (2, .ref (xE (gκ g) 9 0 0)), (3, .ref (xE (gκ g) 10 0 0)), (4, .int a4)] []) (h : sL_c40 k xs L (x0, x1, x2, ps, ta, tb, d, S, pg, c, m, ot) a4 = some 1) : G g a b (x0, x1, x2, ps, ta, tb, d, S, pg, c, m, ot) 2471 [(0, .ref b0), (1, .ref (xE (gκ g) 8 0 0)), (2, .ref (xE (gκ g) 9 0 0)), (3, .ref (xE (gκ g) 10 0 0)), (4, .int a4)] [] := by
  unfold sL_c40 at h
  dsimp only at h
  refine G_aload_n X 1 dL_law_2471 rfl rfl ?_
  refine G_aload_n X 0 dL_law_2472 rfl rfl ?_
  refine G_iload X 4 dL_law_2473 rfl ?_
  refine G_iconst X (v := (1 : Int32)) dL_law_2475 (by decide) ?_
  refine G_iadd X dL_law_2476 ?_
  obtain ⟨g382, h⟩ := gd_some h
  refine G_sld X XL g382 dL_law_2477 ?_
  refine G_aload_n X 3 dL_law_2478 rfl rfl ?_
  obtain ⟨q383, hq383, h⟩ := bd_some h
  refine G_callW X XL (As := [.ref (xE (gκ g) 8 0 0), .int (xs (ix (a4 + ((1 : Int32))))), .ref (xE (gκ g) 10 0 0)]) (rest := []) (T' := (q383.1, x1, x2, q383.2.1, ta, tb, d, S, pg, q383.2.2.1, m, q383.2.2.2.1)) (st2 := [.int q383.2.2.2.2]) (ct_L_setTries (l := g.2.1) (κ := gκ g)   hq383) cal_L_setTries wM_L_272 wT_L_setTries (by decide) rfl rfl (Nat.le_of_ble_eq_true rfl) (by omega) (by omega) dL_law_2479 rfl ?_
  refine G_istore X (lv' := [(5, .int q383.2.2.2.2), (0, .ref b0), (1, .ref (xE (gκ g) 8 0 0)), (2, .ref (xE (gκ g) 9 0 0)), (3, .ref (xE (gκ g) 10 0 0)), (4, .int a4)]) dL_law_2482 (by decide) rfl ?_
  refine G_aload_n X 3 dL_law_2484 rfl rfl ?_
  refine G_aload_n X 1 dL_law_2485 rfl rfl ?_
  refine G_iload X 5 dL_law_2486 rfl ?_
  refine G_iconst X (v := (1 : Int32)) dL_law_2488 (by decide) ?_
  refine G_iadd X dL_law_2489 ?_
  obtain ⟨g384, h⟩ := gd_some h
  refine G_sld X XL g384 dL_law_2490 ?_
  obtain ⟨q385, hq385, h⟩ := bd_some h
  refine G_callV X (As := [.int (xs (ix (a4 + ((1 : Int32)))))]) (rest := []) (T' := (q383.1, x1, x2, q383.2.1, ta, tb, d, S, pg, q383.2.2.1, q385.1, q383.2.2.2.1)) (st2 := [.int q385.2]) (ct_X7_setTries (l := g.2.1) (κ := gκ g) (T := (q383.1, x1, x2, q383.2.1, ta, tb, d, S, pg, q383.2.2.1, m, q383.2.2.2.1)) (m := m)  hq385) cal_X7_setTries wM_L_274 wI_X7_setTries wS_X7_setTries rfl rfl (by decide) rfl rfl (Nat.le_of_ble_eq_true rfl) (XL.2.2.2 (by omega) (by omega)) dL_law_2491 rfl ?_
  refine G_istore X (lv' := [(6, .int q385.2), (5, .int q383.2.2.2.2), (0, .ref b0), (1, .ref (xE (gκ g) 8 0 0)), (2, .ref (xE (gκ g) 9 0 0)), (3, .ref (xE (gκ g) 10 0 0)), (4, .int a4)]) dL_law_2494 (by decide) rfl ?_
  refine G_aload_n X 4 dL_law_2496 rfl rfl ?_
  obtain ⟨q386, hq386, h⟩ := bd_some h
  refine G_callV X (As := []) (rest := []) (T' := (q383.1, x1, x2, q383.2.1, ta, tb, d, S, pg, q383.2.2.1, q385.1, q383.2.2.2.1)) (st2 := [.int q386]) (ct_X7_thrown (l := g.2.1) (κ := gκ g) (T := (q383.1, x1, x2, q383.2.1, ta, tb, d, S, pg, q383.2.2.1, q385.1, q383.2.2.2.1)) (m := q385.1)  hq386) cal_X7_thrown wM_L_139 wI_X7_thrown wS_X7_thrown rfl rfl (by decide) rfl rfl (Nat.le_of_ble_eq_true rfl) (XL.2.2.2 (by omega) (by omega)) dL_law_2497 rfl ?_
  refine G_iload X 1 dL_law_2500 rfl ?_
  refine G_icmp_eq X (tgt := 2507) dL_law_2502 (by decide) (fun c387 => ?_) (fun c387 => ?_)
  · have h := it_t c387 h
    refine G_iload X 1 dL_law_2507 rfl ?_
    refine G_if_ne X (tgt := 2524) dL_law_2509 (by decide) (fun c388 => ?_) (fun c388 => ?_)
    · have h := it_t c388 h
      refine G_goto X (tgt := 2666) dL_law_2524 (by decide) ?_
      refine G_sub [2, 3, 4, 5, 6] rfl ?_
      exact hk _ _ _ (by omega) (by omega) h
    · have h := it_f (fun k => k c388) h
      refine G_aload_n X 5 dL_law_2512 rfl rfl ?_
      refine G_iconst X (v := (0 : Int32)) dL_law_2513 (by decide) ?_
      obtain ⟨g389, h⟩ := gd_some h
      refine G_lald X rfl rfl g389 dL_law_2514 ?_
      refine G_iload X 0 dL_law_2515 rfl ?_
      refine G_i2l X dL_law_2517 ?_
      refine G_lcmp X dL_law_2518 ?_
      refine G_if_eq X (tgt := 2524) dL_law_2519 (by decide) (fun c390 => ?_) (fun c390 => ?_)
      · have h := it_t c390 h
        refine G_goto X (tgt := 2666) dL_law_2524 (by decide) ?_
        refine G_sub [2, 3, 4, 5, 6] rfl ?_
        exact hk _ _ _ (by omega) (by omega) h
      · have h := it_f c390 h
        refine G_iconst X (v := (0 : Int32)) dL_law_2522 (by decide) ?_
        cases h
  · have h := it_f c387 h
    refine G_iconst X (v := (0 : Int32)) dL_law_2505 (by decide) ?_
    cases h
set_option maxRecDepth 20000 in
theorem gL_c41 {g : GX} {a b b0 L : Nat} {xs : Nat → Int32} {k : TT → Option Int32} {x0 x1 x2 ta tb d S pg c m ot : St} {ps : Nat → St} {a4 : Int32} (X : CX g RL cL_law 9 14 538) (XL : XLaw g b0 L xs) (ha : a < 601024) (hb : b + 6 ≤ 7293034) (hk : ∀ (T1 : TT) (a1 b1 : Nat), a1 ≤ a + 1 → b1 ≤ b + 6 → k T1 = some 1 → G g a1 b1 T1 2666 [(0, .ref b0), (1, .ref (xE (gκ g) 8 0 0)), (2, .ref (xE (gκ g) 9 0 0)), (3, .ref (xE (gκ g) 10 0 0)), (4, .int a4)] []) (h : sL_c41 k xs L (x0, x1, x2, ps, ta, tb, d, S, pg, c, m, ot) a4 = some 1) : G g a b (x0, x1, x2, ps, ta, tb, d, S, pg, c, m, ot) 2527 [(0, .ref b0), (1, .ref (xE (gκ g) 8 0 0)), (2, .ref (xE (gκ g) 9 0 0)), (3, .ref (xE (gκ g) 10 0 0)), (4, .int a4)] [] := by
  unfold sL_c41 at h
  dsimp only at h
  refine G_aload_n X 1 dL_law_2527 rfl rfl ?_
  obtain ⟨q391, hq391, h⟩ := bd_some h
  refine G_callV X (As := []) (rest := []) (T' := (x0, x1, x2, ps, ta, tb, d, S, q391.1, c, m, ot)) (st2 := [.int q391.2]) (ct_X6_report (l := g.2.1) (κ := gκ g)   hq391) cal_X6_report wM_L_275 wI_X6_report wS_X6_report rfl rfl (by decide) rfl rfl (Nat.le_of_ble_eq_true rfl) (XL.2.2.2 (by omega) (by omega)) dL_law_2528 rfl ?_
  refine G_aload_n X 2 dL_law_2531 rfl rfl ?_
  obtain ⟨q392, hq392, h⟩ := bd_some h
  refine G_callV X (As := []) (rest := [.int q391.2]) (T' := (x0, x1, x2, ps, ta, tb, d, S, q391.1, c, q392.1, ot)) (st2 := [.int q392.2, .int q391.2]) (ct_X7_report (l := g.2.1) (κ := gκ g) (T := (x0, x1, x2, ps, ta, tb, d, S, q391.1, c, m, ot)) (m := m)  hq392) cal_X7_report wM_L_278 wI_X7_report wS_X7_report rfl rfl (by decide) rfl rfl (Nat.le_of_ble_eq_true rfl) (XL.2.2.2 (by omega) (by omega)) dL_law_2532 rfl ?_
  refine G_icmp_eq X (tgt := 2666) dL_law_2535 (by decide) (fun c393 => ?_) (fun c393 => ?_)
  · have h := it_t c393 h
    refine G_sub [0, 1, 2, 3, 4] rfl ?_
    exact hk _ _ _ (by omega) (by omega) h
  · have h := it_f c393 h
    refine G_iconst X (v := (0 : Int32)) dL_law_2538 (by decide) ?_
    cases h
set_option maxRecDepth 20000 in
theorem gL_c42 {g : GX} {a b b0 L : Nat} {xs : Nat → Int32} {k : TT → Option Int32} {x0 x1 x2 ta tb d S pg c m ot : St} {ps : Nat → St} {a4 : Int32} (X : CX g RL cL_law 9 14 538) (XL : XLaw g b0 L xs) (ha : a < 601024) (hb : b + 6 ≤ 7293034) (hk : ∀ (T1 : TT) (a1 b1 : Nat), a1 ≤ a + 1 → b1 ≤ b + 6 → k T1 = some 1 → G g a1 b1 T1 2666 [(0, .ref b0), (1, .ref (xE (gκ g) 8 0 0)), (2, .ref (xE (gκ g) 9 0 0)), (3, .ref (xE (gκ g) 10 0 0)), (4, .int a4)] []) (h : sL_c42 k xs L (x0, x1, x2, ps, ta, tb, d, S, pg, c, m, ot) a4 = some 1) : G g a b (x0, x1, x2, ps, ta, tb, d, S, pg, c, m, ot) 2540 [(0, .ref b0), (1, .ref (xE (gκ g) 8 0 0)), (2, .ref (xE (gκ g) 9 0 0)), (3, .ref (xE (gκ g) 10 0 0)), (4, .int a4)] [] := by
  unfold sL_c42 at h
  dsimp only at h
  refine G_aload_n X 1 dL_law_2540 rfl rfl ?_
  refine G_aload_n X 0 dL_law_2541 rfl rfl ?_
  refine G_iload X 4 dL_law_2542 rfl ?_
  refine G_iconst X (v := (1 : Int32)) dL_law_2544 (by decide) ?_
  refine G_iadd X dL_law_2545 ?_
  obtain ⟨g394, h⟩ := gd_some h
  refine G_sld X XL g394 dL_law_2546 ?_
  refine G_aload_n X 3 dL_law_2547 rfl rfl ?_
  obtain ⟨q395, hq395, h⟩ := bd_some h
  refine G_callW X XL (As := [.ref (xE (gκ g) 8 0 0), .int (xs (ix (a4 + ((1 : Int32))))), .ref (xE (gκ g) 10 0 0)]) (rest := []) (T' := (x0, x1, x2, ps, ta, tb, d, S, pg, c, m, q395.1)) (st2 := [.int q395.2]) (ct_L_reportByte (l := g.2.1) (κ := gκ g)   hq395) cal_L_reportByte wM_L_279 wT_L_reportByte (by decide) rfl rfl (Nat.le_of_ble_eq_true rfl) (by omega) (by omega) dL_law_2548 rfl ?_
  refine G_istore X (lv' := [(5, .int q395.2), (0, .ref b0), (1, .ref (xE (gκ g) 8 0 0)), (2, .ref (xE (gκ g) 9 0 0)), (3, .ref (xE (gκ g) 10 0 0)), (4, .int a4)]) dL_law_2551 (by decide) rfl ?_
  refine G_aload_n X 3 dL_law_2553 rfl rfl ?_
  refine G_aload_n X 1 dL_law_2554 rfl rfl ?_
  refine G_iload X 5 dL_law_2555 rfl ?_
  refine G_iconst X (v := (1 : Int32)) dL_law_2557 (by decide) ?_
  refine G_iadd X dL_law_2558 ?_
  obtain ⟨g396, h⟩ := gd_some h
  refine G_sld X XL g396 dL_law_2559 ?_
  obtain ⟨q397, hq397, h⟩ := bd_some h
  refine G_callV X (As := [.int (xs (ix (a4 + ((1 : Int32)))))]) (rest := []) (T' := (x0, x1, x2, ps, ta, tb, d, S, pg, c, q397.1, q395.1)) (st2 := [.int q397.2]) (ct_X7_reportByte (l := g.2.1) (κ := gκ g) (T := (x0, x1, x2, ps, ta, tb, d, S, pg, c, m, q395.1)) (m := m)  hq397) cal_X7_reportByte wM_L_281 wI_X7_reportByte wS_X7_reportByte rfl rfl (by decide) rfl rfl (Nat.le_of_ble_eq_true rfl) (XL.2.2.2 (by omega) (by omega)) dL_law_2560 rfl ?_
  refine G_istore X (lv' := [(6, .int q397.2), (5, .int q395.2), (0, .ref b0), (1, .ref (xE (gκ g) 8 0 0)), (2, .ref (xE (gκ g) 9 0 0)), (3, .ref (xE (gκ g) 10 0 0)), (4, .int a4)]) dL_law_2563 (by decide) rfl ?_
  refine G_aload_n X 4 dL_law_2565 rfl rfl ?_
  obtain ⟨q398, hq398, h⟩ := bd_some h
  refine G_callV X (As := []) (rest := []) (T' := (x0, x1, x2, ps, ta, tb, d, S, pg, c, q397.1, q395.1)) (st2 := [.int q398]) (ct_X7_thrown (l := g.2.1) (κ := gκ g) (T := (x0, x1, x2, ps, ta, tb, d, S, pg, c, q397.1, q395.1)) (m := q397.1)  hq398) cal_X7_thrown wM_L_139 wI_X7_thrown wS_X7_thrown rfl rfl (by decide) rfl rfl (Nat.le_of_ble_eq_true rfl) (XL.2.2.2 (by omega) (by omega)) dL_law_2566 rfl ?_
  refine G_iload X 1 dL_law_2569 rfl ?_
  refine G_icmp_eq X (tgt := 2576) dL_law_2571 (by decide) (fun c399 => ?_) (fun c399 => ?_)
  · have h := it_t c399 h
    refine G_iload X 1 dL_law_2576 rfl ?_
    refine G_if_ne X (tgt := 2593) dL_law_2578 (by decide) (fun c400 => ?_) (fun c400 => ?_)
    · have h := it_t c400 h
      refine G_goto X (tgt := 2666) dL_law_2593 (by decide) ?_
      refine G_sub [2, 3, 4, 5, 6] rfl ?_
      exact hk _ _ _ (by omega) (by omega) h
    · have h := it_f (fun k => k c400) h
      refine G_aload_n X 5 dL_law_2581 rfl rfl ?_
      refine G_iconst X (v := (0 : Int32)) dL_law_2582 (by decide) ?_
      obtain ⟨g401, h⟩ := gd_some h
      refine G_lald X rfl rfl g401 dL_law_2583 ?_
      refine G_iload X 0 dL_law_2584 rfl ?_
      refine G_i2l X dL_law_2586 ?_
      refine G_lcmp X dL_law_2587 ?_
      refine G_if_eq X (tgt := 2593) dL_law_2588 (by decide) (fun c402 => ?_) (fun c402 => ?_)
      · have h := it_t c402 h
        refine G_goto X (tgt := 2666) dL_law_2593 (by decide) ?_
        refine G_sub [2, 3, 4, 5, 6] rfl ?_
        exact hk _ _ _ (by omega) (by omega) h
      · have h := it_f c402 h
        refine G_iconst X (v := (0 : Int32)) dL_law_2591 (by decide) ?_
        cases h
  · have h := it_f c399 h
    refine G_iconst X (v := (0 : Int32)) dL_law_2574 (by decide) ?_
    cases h
set_option maxRecDepth 20000 in
theorem gL_c43 {g : GX} {a b b0 L : Nat} {xs : Nat → Int32} {k : TT → Option Int32} {x0 x1 x2 ta tb d S pg c m ot : St} {ps : Nat → St} {a4 : Int32} (X : CX g RL cL_law 9 14 538) (XL : XLaw g b0 L xs) (ha : a < 601024) (hb : b + 6 ≤ 7293034) (hk : ∀ (T1 : TT) (a1 b1 : Nat), a1 ≤ a + 1 → b1 ≤ b + 6 → k T1 = some 1 → G g a1 b1 T1 2666 [(0, .ref b0), (1, .ref (xE (gκ g) 8 0 0)), (2, .ref (xE (gκ g) 9 0 0)), (3, .ref (xE (gκ g) 10 0 0)), (4, .int a4)] []) (h : sL_c43 k xs L (x0, x1, x2, ps, ta, tb, d, S, pg, c, m, ot) a4 = some 1) : G g a b (x0, x1, x2, ps, ta, tb, d, S, pg, c, m, ot) 2596 [(0, .ref b0), (1, .ref (xE (gκ g) 8 0 0)), (2, .ref (xE (gκ g) 9 0 0)), (3, .ref (xE (gκ g) 10 0 0)), (4, .int a4)] [] := by
  unfold sL_c43 at h
  dsimp only at h
  refine G_aload_n X 1 dL_law_2596 rfl rfl ?_
  obtain ⟨q403, hq403, h⟩ := bd_some h
  refine G_callV X (As := []) (rest := []) (T' := (q403.1, x1, x2, ps, ta, tb, d, S, pg, q403.2.1, m, ot)) (st2 := [.int q403.2.2]) (ct_X6_undo (l := g.2.1) (κ := gκ g)   hq403) cal_X6_undo wM_L_282 wI_X6_undo wS_X6_undo rfl rfl (by decide) rfl rfl (Nat.le_of_ble_eq_true rfl) (XL.2.2.2 (by omega) (by omega)) dL_law_2597 rfl ?_
  refine G_aload_n X 2 dL_law_2600 rfl rfl ?_
  obtain ⟨q404, hq404, h⟩ := bd_some h
  refine G_callV X (As := []) (rest := [.int q403.2.2]) (T' := (q403.1, x1, x2, ps, ta, tb, d, S, pg, q403.2.1, q404.1, ot)) (st2 := [.int q404.2, .int q403.2.2]) (ct_X7_undo (l := g.2.1) (κ := gκ g) (T := (q403.1, x1, x2, ps, ta, tb, d, S, pg, q403.2.1, m, ot)) (m := m)  hq404) cal_X7_undo wM_L_285 wI_X7_undo wS_X7_undo rfl rfl (by decide) rfl rfl (Nat.le_of_ble_eq_true rfl) (XL.2.2.2 (by omega) (by omega)) dL_law_2601 rfl ?_
  refine G_icmp_eq X (tgt := 2666) dL_law_2604 (by decide) (fun c405 => ?_) (fun c405 => ?_)
  · have h := it_t c405 h
    refine G_sub [0, 1, 2, 3, 4] rfl ?_
    exact hk _ _ _ (by omega) (by omega) h
  · have h := it_f c405 h
    refine G_iconst X (v := (0 : Int32)) dL_law_2607 (by decide) ?_
    cases h
set_option maxRecDepth 20000 in
theorem gL_c44 {g : GX} {a b b0 L : Nat} {xs : Nat → Int32} {k : TT → Option Int32} {x0 x1 x2 ta tb d S pg c m ot : St} {ps : Nat → St} {a4 : Int32} (X : CX g RL cL_law 9 14 538) (XL : XLaw g b0 L xs) (ha : a < 601024) (hb : b + 6 ≤ 7293034) (hk : ∀ (T1 : TT) (a1 b1 : Nat), a1 ≤ a + 1 → b1 ≤ b + 6 → k T1 = some 1 → G g a1 b1 T1 2666 [(0, .ref b0), (1, .ref (xE (gκ g) 8 0 0)), (2, .ref (xE (gκ g) 9 0 0)), (3, .ref (xE (gκ g) 10 0 0)), (4, .int a4)] []) (h : sL_c44 k xs L (x0, x1, x2, ps, ta, tb, d, S, pg, c, m, ot) a4 = some 1) : G g a b (x0, x1, x2, ps, ta, tb, d, S, pg, c, m, ot) 2609 [(0, .ref b0), (1, .ref (xE (gκ g) 8 0 0)), (2, .ref (xE (gκ g) 9 0 0)), (3, .ref (xE (gκ g) 10 0 0)), (4, .int a4)] [] := by
  unfold sL_c44 at h
  dsimp only at h
  refine G_aload_n X 1 dL_law_2609 rfl rfl ?_
  obtain ⟨q406, hq406, h⟩ := bd_some h
  refine G_callV X (As := []) (rest := []) (T' := (x0, x1, q406.1, ps, ta, tb, d, S, pg, q406.2.1, m, ot)) (st2 := [.int q406.2.2]) (ct_X6_save (l := g.2.1) (κ := gκ g)   hq406) cal_X6_save wM_L_286 wI_X6_save wS_X6_save rfl rfl (by decide) rfl rfl (Nat.le_of_ble_eq_true rfl) (XL.2.2.2 (by omega) (by omega)) dL_law_2610 rfl ?_
  refine G_aload_n X 2 dL_law_2613 rfl rfl ?_
  obtain ⟨q407, hq407, h⟩ := bd_some h
  refine G_callV X (As := []) (rest := [.int q406.2.2]) (T' := (x0, x1, q406.1, ps, ta, tb, d, S, pg, q406.2.1, q407.1, ot)) (st2 := [.int q407.2, .int q406.2.2]) (ct_X7_save (l := g.2.1) (κ := gκ g) (T := (x0, x1, q406.1, ps, ta, tb, d, S, pg, q406.2.1, m, ot)) (m := m)  hq407) cal_X7_save wM_L_289 wI_X7_save wS_X7_save rfl rfl (by decide) rfl rfl (Nat.le_of_ble_eq_true rfl) (XL.2.2.2 (by omega) (by omega)) dL_law_2614 rfl ?_
  refine G_icmp_eq X (tgt := 2666) dL_law_2617 (by decide) (fun c408 => ?_) (fun c408 => ?_)
  · have h := it_t c408 h
    refine G_sub [0, 1, 2, 3, 4] rfl ?_
    exact hk _ _ _ (by omega) (by omega) h
  · have h := it_f c408 h
    refine G_iconst X (v := (0 : Int32)) dL_law_2620 (by decide) ?_
    cases h
set_option maxRecDepth 20000 in
theorem gL_c45 {g : GX} {a b b0 L : Nat} {xs : Nat → Int32} {k : TT → Option Int32} {x0 x1 x2 ta tb d S pg c m ot : St} {ps : Nat → St} {a4 : Int32} (X : CX g RL cL_law 9 14 538) (XL : XLaw g b0 L xs) (ha : a < 601024) (hb : b + 6 ≤ 7293034) (hk : ∀ (T1 : TT) (a1 b1 : Nat), a1 ≤ a + 1 → b1 ≤ b + 6 → k T1 = some 1 → G g a1 b1 T1 2666 [(0, .ref b0), (1, .ref (xE (gκ g) 8 0 0)), (2, .ref (xE (gκ g) 9 0 0)), (3, .ref (xE (gκ g) 10 0 0)), (4, .int a4)] []) (h : sL_c45 k xs L (x0, x1, x2, ps, ta, tb, d, S, pg, c, m, ot) a4 = some 1) : G g a b (x0, x1, x2, ps, ta, tb, d, S, pg, c, m, ot) 2622 [(0, .ref b0), (1, .ref (xE (gκ g) 8 0 0)), (2, .ref (xE (gκ g) 9 0 0)), (3, .ref (xE (gκ g) 10 0 0)), (4, .int a4)] [] := by
  unfold sL_c45 at h
  dsimp only at h
  refine G_aload_n X 1 dL_law_2622 rfl rfl ?_
  refine G_aload_n X 3 dL_law_2623 rfl rfl ?_
  obtain ⟨q409, hq409, h⟩ := bd_some h
  refine G_callW X XL (As := [.ref (xE (gκ g) 8 0 0), .ref (xE (gκ g) 10 0 0)]) (rest := []) (T' := (q409.1, x1, x2, ps, ta, tb, d, S, pg, q409.2.1, m, q409.2.2.1)) (st2 := [.int q409.2.2.2]) (ct_L_restore (l := g.2.1) (κ := gκ g)   hq409) cal_L_restore wM_L_290 wT_L_restore (by decide) rfl rfl (Nat.le_of_ble_eq_true rfl) (by omega) (by omega) dL_law_2624 rfl ?_
  refine G_istore X (lv' := [(5, .int q409.2.2.2), (0, .ref b0), (1, .ref (xE (gκ g) 8 0 0)), (2, .ref (xE (gκ g) 9 0 0)), (3, .ref (xE (gκ g) 10 0 0)), (4, .int a4)]) dL_law_2627 (by decide) rfl ?_
  refine G_aload_n X 3 dL_law_2629 rfl rfl ?_
  obtain ⟨q410, hq410, h⟩ := bd_some h
  refine G_callV X (As := []) (rest := []) (T' := (q409.1, x1, x2, ps, ta, tb, d, S, pg, q409.2.1, q410.1, q409.2.2.1)) (st2 := [.int q410.2]) (ct_X7_restore (l := g.2.1) (κ := gκ g) (T := (q409.1, x1, x2, ps, ta, tb, d, S, pg, q409.2.1, m, q409.2.2.1)) (m := m)  hq410) cal_X7_restore wM_L_292 wI_X7_restore wS_X7_restore rfl rfl (by decide) rfl rfl (Nat.le_of_ble_eq_true rfl) (XL.2.2.2 (by omega) (by omega)) dL_law_2630 rfl ?_
  refine G_istore X (lv' := [(6, .int q410.2), (5, .int q409.2.2.2), (0, .ref b0), (1, .ref (xE (gκ g) 8 0 0)), (2, .ref (xE (gκ g) 9 0 0)), (3, .ref (xE (gκ g) 10 0 0)), (4, .int a4)]) dL_law_2633 (by decide) rfl ?_
  refine G_aload_n X 4 dL_law_2635 rfl rfl ?_
  obtain ⟨q411, hq411, h⟩ := bd_some h
  refine G_callV X (As := []) (rest := []) (T' := (q409.1, x1, x2, ps, ta, tb, d, S, pg, q409.2.1, q410.1, q409.2.2.1)) (st2 := [.int q411]) (ct_X7_thrown (l := g.2.1) (κ := gκ g) (T := (q409.1, x1, x2, ps, ta, tb, d, S, pg, q409.2.1, q410.1, q409.2.2.1)) (m := q410.1)  hq411) cal_X7_thrown wM_L_139 wI_X7_thrown wS_X7_thrown rfl rfl (by decide) rfl rfl (Nat.le_of_ble_eq_true rfl) (XL.2.2.2 (by omega) (by omega)) dL_law_2636 rfl ?_
  refine G_iload X 1 dL_law_2639 rfl ?_
  refine G_icmp_eq X (tgt := 2646) dL_law_2641 (by decide) (fun c412 => ?_) (fun c412 => ?_)
  · have h := it_t c412 h
    refine G_iload X 1 dL_law_2646 rfl ?_
    refine G_if_ne X (tgt := 2663) dL_law_2648 (by decide) (fun c413 => ?_) (fun c413 => ?_)
    · have h := it_t c413 h
      refine G_goto X (tgt := 2666) dL_law_2663 (by decide) ?_
      refine G_sub [2, 3, 4, 5, 6] rfl ?_
      exact hk _ _ _ (by omega) (by omega) h
    · have h := it_f (fun k => k c413) h
      refine G_aload_n X 5 dL_law_2651 rfl rfl ?_
      refine G_iconst X (v := (0 : Int32)) dL_law_2652 (by decide) ?_
      obtain ⟨g414, h⟩ := gd_some h
      refine G_lald X rfl rfl g414 dL_law_2653 ?_
      refine G_iload X 0 dL_law_2654 rfl ?_
      refine G_i2l X dL_law_2656 ?_
      refine G_lcmp X dL_law_2657 ?_
      refine G_if_eq X (tgt := 2663) dL_law_2658 (by decide) (fun c415 => ?_) (fun c415 => ?_)
      · have h := it_t c415 h
        refine G_goto X (tgt := 2666) dL_law_2663 (by decide) ?_
        refine G_sub [2, 3, 4, 5, 6] rfl ?_
        exact hk _ _ _ (by omega) (by omega) h
      · have h := it_f c415 h
        refine G_iconst X (v := (0 : Int32)) dL_law_2661 (by decide) ?_
        cases h
  · have h := it_f c412 h
    refine G_iconst X (v := (0 : Int32)) dL_law_2644 (by decide) ?_
    cases h
