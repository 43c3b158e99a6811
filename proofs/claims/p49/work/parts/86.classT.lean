/-! the class's methods, over all its stores; throwing counts as no answer -/
def sT_X6_feed (T : TT) (a1 : Int32) (a2 : Int32) (a3 : Int32) (a4 : Int32) (a5 : Int32) : Option (TT × Int32) := bd (sX6_feed T.2.2.2.2.2.2.2.2.2.1 a1 a2 a3 a4 a5) fun r => match r.2 with
  | .inl v => some ((T.1, T.2.1, T.2.2.1, T.2.2.2.1, T.2.2.2.2.1, T.2.2.2.2.2.1, T.2.2.2.2.2.2.1, T.2.2.2.2.2.2.2.1, T.2.2.2.2.2.2.2.2.1, r.1, T.2.2.2.2.2.2.2.2.2.2.1, T.2.2.2.2.2.2.2.2.2.2.2), v)
  | .inr _ => none
theorem gT_X6_feed {l : Launch} {κ : KX} {T : TT} {a1 : Int32} {a2 : Int32} {a3 : Int32} {a4 : Int32} {a5 : Int32} {r : TT × Int32} (h : sT_X6_feed T a1 a2 a3 a4 a5 = some r) : Ct l κ yX6_feed cX6_feed 6 (some .int) 6 89 [.ref (xE κ 8 0 0), .int a1, .int a2, .int a3, .int a4, .int a5] T r.1 (some (.int r.2)) := by
  unfold sT_X6_feed at h
  obtain ⟨r9, hr, h⟩ := bd_some h
  rcases r9 with ⟨e0, v9 | v9⟩
  · cases Option.some.inj h; exact ct_X6_feed hr
  · cases h
def sT_X6_truncate (T : TT) (a1 : Int32) : Option (TT × Int32) := bd (sX6_truncate T.2.2.2.2.2.2.2.2.2.1 a1) fun r => match r.2 with
  | .inl v => some ((T.1, T.2.1, T.2.2.1, T.2.2.2.1, T.2.2.2.2.1, T.2.2.2.2.2.1, T.2.2.2.2.2.2.1, T.2.2.2.2.2.2.2.1, T.2.2.2.2.2.2.2.2.1, r.1, T.2.2.2.2.2.2.2.2.2.2.1, T.2.2.2.2.2.2.2.2.2.2.2), v)
  | .inr _ => none
theorem gT_X6_truncate {l : Launch} {κ : KX} {T : TT} {a1 : Int32} {r : TT × Int32} (h : sT_X6_truncate T a1 = some r) : Ct l κ yX6_truncate cX6_truncate 2 (some .int) 6 89 [.ref (xE κ 8 0 0), .int a1] T r.1 (some (.int r.2)) := by
  unfold sT_X6_truncate at h
  obtain ⟨r9, hr, h⟩ := bd_some h
  rcases r9 with ⟨e0, v9 | v9⟩
  · cases Option.some.inj h; exact ct_X6_truncate hr
  · cases h
def sT_X6_readText (T : TT)  : Option (TT × Int32) := bd (sX6_readText T.1 T.2.1 T.2.2.2.2.1 T.2.2.2.2.2.2.1 T.2.2.2.2.2.2.2.2.2.1 ) fun r => match r.2.2.2.2.2 with
  | .inl v => some ((r.1, r.2.1, T.2.2.1, T.2.2.2.1, r.2.2.1, T.2.2.2.2.2.1, r.2.2.2.1, T.2.2.2.2.2.2.2.1, T.2.2.2.2.2.2.2.2.1, r.2.2.2.2.1, T.2.2.2.2.2.2.2.2.2.2.1, T.2.2.2.2.2.2.2.2.2.2.2), v)
  | .inr _ => none
theorem gT_X6_readText {l : Launch} {κ : KX} {T : TT}  {r : TT × Int32} (h : sT_X6_readText T  = some r) : Ct l κ yX6_readText cX6_readText 2 (some .int) 9 201 [.ref (xE κ 8 0 0)] T r.1 (some (.int r.2)) := by
  unfold sT_X6_readText at h
  obtain ⟨r9, hr, h⟩ := bd_some h
  rcases r9 with ⟨e0, e1, e2, e3, e4, v9 | v9⟩
  · cases Option.some.inj h; exact ct_X6_readText hr
  · cases h
def sT_X6_setting (T : TT) (a1 : Int32) : Option (Int32) := bd (sX6_setting T.1 T.2.2.2.2.2.2.2.2.2.1 a1) fun r => match r with
  | .inl v => some v
  | .inr _ => none
theorem gT_X6_setting {l : Launch} {κ : KX} {T : TT} {a1 : Int32} {r : Int32} (h : sT_X6_setting T a1 = some r) : Ct l κ yX6_setting cX6_setting 2 (some .int) 6 89 [.ref (xE κ 8 0 0), .int a1] T T (some (.int r)) := by
  unfold sT_X6_setting at h
  obtain ⟨r9, hr, h⟩ := bd_some h
  rcases r9 with v9 | v9
  · cases Option.some.inj h; exact ct_X6_setting hr
  · cases h
def sT_X6_beacon (T : TT) (a1 : Int32) (a2 : Int32) : Option (Int32) := bd (sX6_beacon T.1 a1 a2) fun r => match r with
  | .inl v => some v
  | .inr _ => none
theorem gT_X6_beacon {l : Launch} {κ : KX} {T : TT} {a1 : Int32} {a2 : Int32} {r : Int32} (h : sT_X6_beacon T a1 a2 = some r) : Ct l κ yX6_beacon cX6_beacon 4 (some .int) 7 110 [.ref (xE κ 8 0 0), .int a1, .int a2] T T (some (.int r)) := by
  unfold sT_X6_beacon at h
  obtain ⟨r9, hr, h⟩ := bd_some h
  rcases r9 with v9 | v9
  · cases Option.some.inj h; exact ct_X6_beacon hr
  · cases h
def sT_X6_slots (T : TT) (a1 : Int32) (a2 : Int32) : Option (Int32) := bd (sX6_slots T.1 a1 a2) fun r => match r with
  | .inl v => some v
  | .inr _ => none
theorem gT_X6_slots {l : Launch} {κ : KX} {T : TT} {a1 : Int32} {a2 : Int32} {r : Int32} (h : sT_X6_slots T a1 a2 = some r) : Ct l κ yX6_slots cX6_slots 3 (some .int) 7 110 [.ref (xE κ 8 0 0), .int a1, .int a2] T T (some (.int r)) := by
  unfold sT_X6_slots at h
  obtain ⟨r9, hr, h⟩ := bd_some h
  rcases r9 with v9 | v9
  · cases Option.some.inj h; exact ct_X6_slots hr
  · cases h
def sT_X6_reckoned (T : TT) (a1 : Int32) : Option (Int32) := bd (sX6_reckoned T.1 a1) fun r => match r with
  | .inl v => some v
  | .inr _ => none
theorem gT_X6_reckoned {l : Launch} {κ : KX} {T : TT} {a1 : Int32} {r : Int32} (h : sT_X6_reckoned T a1 = some r) : Ct l κ yX6_reckoned cX6_reckoned 4 (some .int) 7 110 [.ref (xE κ 8 0 0), .int a1] T T (some (.int r)) := by
  unfold sT_X6_reckoned at h
  obtain ⟨r9, hr, h⟩ := bd_some h
  rcases r9 with v9 | v9
  · cases Option.some.inj h; exact ct_X6_reckoned hr
  · cases h
def sT_X6_heard (T : TT) (a1 : Int32) (a2 : Int32) : Option (Int32) := bd (sX6_heard T.1 a1 a2) fun r => match r with
  | .inl v => some v
  | .inr _ => none
theorem gT_X6_heard {l : Launch} {κ : KX} {T : TT} {a1 : Int32} {a2 : Int32} {r : Int32} (h : sT_X6_heard T a1 a2 = some r) : Ct l κ yX6_heard cX6_heard 3 (some .int) 7 110 [.ref (xE κ 8 0 0), .int a1, .int a2] T T (some (.int r)) := by
  unfold sT_X6_heard at h
  obtain ⟨r9, hr, h⟩ := bd_some h
  rcases r9 with v9 | v9
  · cases Option.some.inj h; exact ct_X6_heard hr
  · cases h
def sT_X6_knows (T : TT) (a1 : Int32) (a2 : Int32) : Option (Int32) := bd (sX6_knows T.1 a1 a2) fun r => match r with
  | .inl v => some v
  | .inr _ => none
theorem gT_X6_knows {l : Launch} {κ : KX} {T : TT} {a1 : Int32} {a2 : Int32} {r : Int32} (h : sT_X6_knows T a1 a2 = some r) : Ct l κ yX6_knows cX6_knows 3 (some .boolean) 7 110 [.ref (xE κ 8 0 0), .int a1, .int a2] T T (some (.int r)) := by
  unfold sT_X6_knows at h
  obtain ⟨r9, hr, h⟩ := bd_some h
  rcases r9 with v9 | v9
  · cases Option.some.inj h; exact ct_X6_knows hr
  · cases h
def sT_X6_whyNot (T : TT) (a1 : Int32) (a2 : Int32) : Option (Int32) := bd (sX6_whyNot T.1 a1 a2) fun r => match r with
  | .inl v => some v
  | .inr _ => none
theorem gT_X6_whyNot {l : Launch} {κ : KX} {T : TT} {a1 : Int32} {a2 : Int32} {r : Int32} (h : sT_X6_whyNot T a1 a2 = some r) : Ct l κ yX6_whyNot cX6_whyNot 3 (some .int) 7 110 [.ref (xE κ 8 0 0), .int a1, .int a2] T T (some (.int r)) := by
  unfold sT_X6_whyNot at h
  obtain ⟨r9, hr, h⟩ := bd_some h
  rcases r9 with v9 | v9
  · cases Option.some.inj h; exact ct_X6_whyNot hr
  · cases h
def sT_X6_dueIn (T : TT) (a1 : Int32) : Option (Int32) := bd (sX6_dueIn T.1 a1) fun r => match r with
  | .inl v => some v
  | .inr _ => none
theorem gT_X6_dueIn {l : Launch} {κ : KX} {T : TT} {a1 : Int32} {r : Int32} (h : sT_X6_dueIn T a1 = some r) : Ct l κ yX6_dueIn cX6_dueIn 2 (some .int) 7 110 [.ref (xE κ 8 0 0), .int a1] T T (some (.int r)) := by
  unfold sT_X6_dueIn at h
  obtain ⟨r9, hr, h⟩ := bd_some h
  rcases r9 with v9 | v9
  · cases Option.some.inj h; exact ct_X6_dueIn hr
  · cases h
def sT_X6_hops (T : TT) (a1 : Int32) (a2 : Int32) : Option (Int32) := bd (sX6_hops T.1 a1 a2) fun r => match r with
  | .inl v => some v
  | .inr _ => none
theorem gT_X6_hops {l : Launch} {κ : KX} {T : TT} {a1 : Int32} {a2 : Int32} {r : Int32} (h : sT_X6_hops T a1 a2 = some r) : Ct l κ yX6_hops cX6_hops 5 (some .int) 7 110 [.ref (xE κ 8 0 0), .int a1, .int a2] T T (some (.int r)) := by
  unfold sT_X6_hops at h
  obtain ⟨r9, hr, h⟩ := bd_some h
  rcases r9 with v9 | v9
  · cases Option.some.inj h; exact ct_X6_hops hr
  · cases h
def sT_X6_window (T : TT) (a1 : Int32) : Option (Int32) := bd (sX6_window T.1 a1) fun r => match r with
  | .inl v => some v
  | .inr _ => none
theorem gT_X6_window {l : Launch} {κ : KX} {T : TT} {a1 : Int32} {r : Int32} (h : sT_X6_window T a1 = some r) : Ct l κ yX6_window cX6_window 2 (some .int) 7 110 [.ref (xE κ 8 0 0), .int a1] T T (some (.int r)) := by
  unfold sT_X6_window at h
  obtain ⟨r9, hr, h⟩ := bd_some h
  rcases r9 with v9 | v9
  · cases Option.some.inj h; exact ct_X6_window hr
  · cases h
def sT_X6_stateIn (T : TT) (a1 : Int32) (a2 : Int32) : Option (TT × Int32) := bd (sX6_stateIn T.1 T.2.1 a1 a2) fun r => match r.2 with
  | .inl v => some ((T.1, r.1, T.2.2.1, T.2.2.2.1, T.2.2.2.2.1, T.2.2.2.2.2.1, T.2.2.2.2.2.2.1, T.2.2.2.2.2.2.2.1, T.2.2.2.2.2.2.2.2.1, T.2.2.2.2.2.2.2.2.2.1, T.2.2.2.2.2.2.2.2.2.2.1, T.2.2.2.2.2.2.2.2.2.2.2), v)
  | .inr _ => none
theorem gT_X6_stateIn {l : Launch} {κ : KX} {T : TT} {a1 : Int32} {a2 : Int32} {r : TT × Int32} (h : sT_X6_stateIn T a1 a2 = some r) : Ct l κ yX6_stateIn cX6_stateIn 3 (some .int) 7 128 [.ref (xE κ 8 0 0), .int a1, .int a2] T r.1 (some (.int r.2)) := by
  unfold sT_X6_stateIn at h
  obtain ⟨r9, hr, h⟩ := bd_some h
  rcases r9 with ⟨e0, v9 | v9⟩
  · cases Option.some.inj h; exact ct_X6_stateIn hr
  · cases h
def sT_X6_energyIn (T : TT) (a1 : Int32) (a2 : Int32) : Option (TT × Int32) := bd (sX6_energyIn T.1 T.2.1 a1 a2) fun r => match r.2 with
  | .inl v => some ((T.1, r.1, T.2.2.1, T.2.2.2.1, T.2.2.2.2.1, T.2.2.2.2.2.1, T.2.2.2.2.2.2.1, T.2.2.2.2.2.2.2.1, T.2.2.2.2.2.2.2.2.1, T.2.2.2.2.2.2.2.2.2.1, T.2.2.2.2.2.2.2.2.2.2.1, T.2.2.2.2.2.2.2.2.2.2.2), v)
  | .inr _ => none
theorem gT_X6_energyIn {l : Launch} {κ : KX} {T : TT} {a1 : Int32} {a2 : Int32} {r : TT × Int32} (h : sT_X6_energyIn T a1 a2 = some r) : Ct l κ yX6_energyIn cX6_energyIn 3 (some .int) 7 128 [.ref (xE κ 8 0 0), .int a1, .int a2] T r.1 (some (.int r.2)) := by
  unfold sT_X6_energyIn at h
  obtain ⟨r9, hr, h⟩ := bd_some h
  rcases r9 with ⟨e0, v9 | v9⟩
  · cases Option.some.inj h; exact ct_X6_energyIn hr
  · cases h
def sT_X6_collisionsIn (T : TT) (a1 : Int32) : Option (TT × Int32) := bd (sX6_collisionsIn T.1 T.2.1 a1) fun r => match r.2 with
  | .inl v => some ((T.1, r.1, T.2.2.1, T.2.2.2.1, T.2.2.2.2.1, T.2.2.2.2.2.1, T.2.2.2.2.2.2.1, T.2.2.2.2.2.2.2.1, T.2.2.2.2.2.2.2.2.1, T.2.2.2.2.2.2.2.2.2.1, T.2.2.2.2.2.2.2.2.2.2.1, T.2.2.2.2.2.2.2.2.2.2.2), v)
  | .inr _ => none
theorem gT_X6_collisionsIn {l : Launch} {κ : KX} {T : TT} {a1 : Int32} {r : TT × Int32} (h : sT_X6_collisionsIn T a1 = some r) : Ct l κ yX6_collisionsIn cX6_collisionsIn 2 (some .int) 7 128 [.ref (xE κ 8 0 0), .int a1] T r.1 (some (.int r.2)) := by
  unfold sT_X6_collisionsIn at h
  obtain ⟨r9, hr, h⟩ := bd_some h
  rcases r9 with ⟨e0, v9 | v9⟩
  · cases Option.some.inj h; exact ct_X6_collisionsIn hr
  · cases h
def sT_X6_wellIn (T : TT) (a1 : Int32) : Option (TT × Int32) := bd (sX6_wellIn T.1 T.2.1 a1) fun r => match r.2 with
  | .inl v => some ((T.1, r.1, T.2.2.1, T.2.2.2.1, T.2.2.2.2.1, T.2.2.2.2.2.1, T.2.2.2.2.2.2.1, T.2.2.2.2.2.2.2.1, T.2.2.2.2.2.2.2.2.1, T.2.2.2.2.2.2.2.2.2.1, T.2.2.2.2.2.2.2.2.2.2.1, T.2.2.2.2.2.2.2.2.2.2.2), v)
  | .inr _ => none
theorem gT_X6_wellIn {l : Launch} {κ : KX} {T : TT} {a1 : Int32} {r : TT × Int32} (h : sT_X6_wellIn T a1 = some r) : Ct l κ yX6_wellIn cX6_wellIn 2 (some .int) 7 153 [.ref (xE κ 8 0 0), .int a1] T r.1 (some (.int r.2)) := by
  unfold sT_X6_wellIn at h
  obtain ⟨r9, hr, h⟩ := bd_some h
  rcases r9 with ⟨e0, v9 | v9⟩
  · cases Option.some.inj h; exact ct_X6_wellIn hr
  · cases h
def sT_X6_run (T : TT) (a1 : Int32) : Option (TT × Int32) := bd (sX6_run T.1 T.2.2.2.1 T.2.2.2.2.2.2.2.2.2.1 a1) fun r => match r.2.2.2 with
  | .inl v => some ((r.1, T.2.1, T.2.2.1, r.2.1, T.2.2.2.2.1, T.2.2.2.2.2.1, T.2.2.2.2.2.2.1, T.2.2.2.2.2.2.2.1, T.2.2.2.2.2.2.2.2.1, r.2.2.1, T.2.2.2.2.2.2.2.2.2.2.1, T.2.2.2.2.2.2.2.2.2.2.2), v)
  | .inr _ => none
theorem gT_X6_run {l : Launch} {κ : KX} {T : TT} {a1 : Int32} {r : TT × Int32} (h : sT_X6_run T a1 = some r) : Ct l κ yX6_run cX6_run 3 (some .int) 6 107 [.ref (xE κ 8 0 0), .int a1] T r.1 (some (.int r.2)) := by
  unfold sT_X6_run at h
  obtain ⟨r9, hr, h⟩ := bd_some h
  rcases r9 with ⟨e0, e1, e2, v9 | v9⟩
  · cases Option.some.inj h; exact ct_X6_run hr
  · cases h
def sT_X6_wake (T : TT) (a1 : Int32) : Option (TT × Int32) := bd (sX6_wake T.1 T.2.2.2.1 T.2.2.2.2.2.2.2.2.2.1 a1) fun r => match r.2.2.2 with
  | .inl v => some ((r.1, T.2.1, T.2.2.1, r.2.1, T.2.2.2.2.1, T.2.2.2.2.2.1, T.2.2.2.2.2.2.1, T.2.2.2.2.2.2.2.1, T.2.2.2.2.2.2.2.2.1, r.2.2.1, T.2.2.2.2.2.2.2.2.2.2.1, T.2.2.2.2.2.2.2.2.2.2.2), v)
  | .inr _ => none
theorem gT_X6_wake {l : Launch} {κ : KX} {T : TT} {a1 : Int32} {r : TT × Int32} (h : sT_X6_wake T a1 = some r) : Ct l κ yX6_wake cX6_wake 2 (some .int) 7 110 [.ref (xE κ 8 0 0), .int a1] T r.1 (some (.int r.2)) := by
  unfold sT_X6_wake at h
  obtain ⟨r9, hr, h⟩ := bd_some h
  rcases r9 with ⟨e0, e1, e2, v9 | v9⟩
  · cases Option.some.inj h; exact ct_X6_wake hr
  · cases h
def sT_X6_setEvery (T : TT) (a1 : Int32) (a2 : Int32) : Option (TT × Int32) := bd (sX6_setEvery T.1 T.2.2.2.1 T.2.2.2.2.2.2.2.2.2.1 a1 a2) fun r => match r.2.2.2 with
  | .inl v => some ((r.1, T.2.1, T.2.2.1, r.2.1, T.2.2.2.2.1, T.2.2.2.2.2.1, T.2.2.2.2.2.2.1, T.2.2.2.2.2.2.2.1, T.2.2.2.2.2.2.2.2.1, r.2.2.1, T.2.2.2.2.2.2.2.2.2.2.1, T.2.2.2.2.2.2.2.2.2.2.2), v)
  | .inr _ => none
theorem gT_X6_setEvery {l : Launch} {κ : KX} {T : TT} {a1 : Int32} {a2 : Int32} {r : TT × Int32} (h : sT_X6_setEvery T a1 a2 = some r) : Ct l κ yX6_setEvery cX6_setEvery 5 (some .int) 7 110 [.ref (xE κ 8 0 0), .int a1, .int a2] T r.1 (some (.int r.2)) := by
  unfold sT_X6_setEvery at h
  obtain ⟨r9, hr, h⟩ := bd_some h
  rcases r9 with ⟨e0, e1, e2, v9 | v9⟩
  · cases Option.some.inj h; exact ct_X6_setEvery hr
  · cases h
def sT_X6_setAt (T : TT) (a1 : Int32) (a2 : Int32) : Option (TT × Int32) := bd (sX6_setAt T.1 T.2.2.2.1 T.2.2.2.2.2.2.2.2.2.1 a1 a2) fun r => match r.2.2.2 with
  | .inl v => some ((r.1, T.2.1, T.2.2.1, r.2.1, T.2.2.2.2.1, T.2.2.2.2.2.1, T.2.2.2.2.2.2.1, T.2.2.2.2.2.2.2.1, T.2.2.2.2.2.2.2.2.1, r.2.2.1, T.2.2.2.2.2.2.2.2.2.2.1, T.2.2.2.2.2.2.2.2.2.2.2), v)
  | .inr _ => none
theorem gT_X6_setAt {l : Launch} {κ : KX} {T : TT} {a1 : Int32} {a2 : Int32} {r : TT × Int32} (h : sT_X6_setAt T a1 a2 = some r) : Ct l κ yX6_setAt cX6_setAt 5 (some .int) 7 110 [.ref (xE κ 8 0 0), .int a1, .int a2] T r.1 (some (.int r.2)) := by
  unfold sT_X6_setAt at h
  obtain ⟨r9, hr, h⟩ := bd_some h
  rcases r9 with ⟨e0, e1, e2, v9 | v9⟩
  · cases Option.some.inj h; exact ct_X6_setAt hr
  · cases h
def sT_X6_charge (T : TT) (a1 : Int32) (a2 : Int32) : Option (TT × Int32) := bd (sX6_charge T.1 T.2.2.2.1 T.2.2.2.2.2.2.2.2.2.1 a1 a2) fun r => match r.2.2.2 with
  | .inl v => some ((r.1, T.2.1, T.2.2.1, r.2.1, T.2.2.2.2.1, T.2.2.2.2.2.1, T.2.2.2.2.2.2.1, T.2.2.2.2.2.2.2.1, T.2.2.2.2.2.2.2.2.1, r.2.2.1, T.2.2.2.2.2.2.2.2.2.2.1, T.2.2.2.2.2.2.2.2.2.2.2), v)
  | .inr _ => none
theorem gT_X6_charge {l : Launch} {κ : KX} {T : TT} {a1 : Int32} {a2 : Int32} {r : TT × Int32} (h : sT_X6_charge T a1 a2 = some r) : Ct l κ yX6_charge cX6_charge 3 (some .int) 7 110 [.ref (xE κ 8 0 0), .int a1, .int a2] T r.1 (some (.int r.2)) := by
  unfold sT_X6_charge at h
  obtain ⟨r9, hr, h⟩ := bd_some h
  rcases r9 with ⟨e0, e1, e2, v9 | v9⟩
  · cases Option.some.inj h; exact ct_X6_charge hr
  · cases h
def sT_X6_setNear (T : TT) (a1 : Int32) (a2 : Int32) (a3 : Int32) : Option (TT × Int32) := bd (sX6_setNear T.1 T.2.2.2.1 T.2.2.2.2.2.2.2.2.2.1 a1 a2 a3) fun r => match r.2.2.2 with
  | .inl v => some ((r.1, T.2.1, T.2.2.1, r.2.1, T.2.2.2.2.1, T.2.2.2.2.2.1, T.2.2.2.2.2.2.1, T.2.2.2.2.2.2.2.1, T.2.2.2.2.2.2.2.2.1, r.2.2.1, T.2.2.2.2.2.2.2.2.2.2.1, T.2.2.2.2.2.2.2.2.2.2.2), v)
  | .inr _ => none
theorem gT_X6_setNear {l : Launch} {κ : KX} {T : TT} {a1 : Int32} {a2 : Int32} {a3 : Int32} {r : TT × Int32} (h : sT_X6_setNear T a1 a2 a3 = some r) : Ct l κ yX6_setNear cX6_setNear 4 (some .boolean) 7 110 [.ref (xE κ 8 0 0), .int a1, .int a2, .int a3] T r.1 (some (.int r.2)) := by
  unfold sT_X6_setNear at h
  obtain ⟨r9, hr, h⟩ := bd_some h
  rcases r9 with ⟨e0, e1, e2, v9 | v9⟩
  · cases Option.some.inj h; exact ct_X6_setNear hr
  · cases h
def sT_X6_setTries (T : TT) (a1 : Int32) : Option (TT × Int32) := bd (sX6_setTries T.1 T.2.2.2.1 T.2.2.2.2.2.2.2.2.2.1 a1) fun r => match r.2.2.2 with
  | .inl v => some ((r.1, T.2.1, T.2.2.1, r.2.1, T.2.2.2.2.1, T.2.2.2.2.2.1, T.2.2.2.2.2.2.1, T.2.2.2.2.2.2.2.1, T.2.2.2.2.2.2.2.2.1, r.2.2.1, T.2.2.2.2.2.2.2.2.2.2.1, T.2.2.2.2.2.2.2.2.2.2.2), v)
  | .inr _ => none
theorem gT_X6_setTries {l : Launch} {κ : KX} {T : TT} {a1 : Int32} {r : TT × Int32} (h : sT_X6_setTries T a1 = some r) : Ct l κ yX6_setTries cX6_setTries 3 (some .int) 6 89 [.ref (xE κ 8 0 0), .int a1] T r.1 (some (.int r.2)) := by
  unfold sT_X6_setTries at h
  obtain ⟨r9, hr, h⟩ := bd_some h
  rcases r9 with ⟨e0, e1, e2, v9 | v9⟩
  · cases Option.some.inj h; exact ct_X6_setTries hr
  · cases h
def sT_X6_undo (T : TT)  : Option (TT × Int32) := bd (sX6_undo T.1 T.2.2.2.1 T.2.2.2.2.2.2.2.2.2.1 ) fun r => some ((r.1, T.2.1, T.2.2.1, T.2.2.2.1, T.2.2.2.2.1, T.2.2.2.2.2.1, T.2.2.2.2.2.2.1, T.2.2.2.2.2.2.2.1, T.2.2.2.2.2.2.2.2.1, r.2.1, T.2.2.2.2.2.2.2.2.2.2.1, T.2.2.2.2.2.2.2.2.2.2.2), r.2.2)
theorem gT_X6_undo {l : Launch} {κ : KX} {T : TT}  {r : TT × Int32} (h : sT_X6_undo T  = some r) : Ct l κ yX6_undo cX6_undo 1 (some .int) 2 44 [.ref (xE κ 8 0 0)] T r.1 (some (.int r.2)) := by
  unfold sT_X6_undo at h
  obtain ⟨r9, hr, h⟩ := bd_some h
  obtain ⟨e0, e1, v9⟩ := r9
  cases Option.some.inj h; exact ct_X6_undo hr
