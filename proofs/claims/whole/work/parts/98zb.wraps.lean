/-! stage B: the calls of the class as the law makes them -/
section
variable {x0 x1 x2 ta tb d S pg c ot : St} {ps : Nat → St} {code : Nat} {v : Int32} {r : Int32 ⊕ Nat} {a1 a2 a3 a4 a5 : Int32}
theorem z_setting (h : sX6_setting x0 c a1 = some r) (hA : Ans P2 r code v) : ∃ o', sL_setting x0 c ot a1 = some (o', nI code) ∧ (nI code = nI 0 → gL o' 0 0 0 = v.toInt64) := by
  unfold sL_setting
  rw [h, bd_e]
  rcases hA with ⟨rfl, rfl⟩ | ⟨e, rfl, he⟩
  · refine ⟨pL ot 0 0 0 v.toInt64, ?_, fun _ => by rw [gL_pL, if_pos ⟨rfl, rfl, rfl⟩]⟩
    simp (disch := omega) only [sm_il, zl, inb_t, ix_n, gd_tt, nm_v]
  · have he : (e, code) ∈ [(2, 1)] := he
    cases List.mem_singleton.mp he
    exact ⟨ot, rfl, fun z => absurd z (by decide)⟩
theorem z_beacon (h : sX6_beacon x0 a1 a2 = some r) (hA : Ans P32 r code v) : ∃ o', sL_beacon x0 ot a1 a2 = some (o', nI code) ∧ (nI code = nI 0 → gL o' 0 0 0 = v.toInt64) := by
  unfold sL_beacon
  rw [h, bd_e]
  rcases hA with ⟨rfl, rfl⟩ | ⟨e, rfl, he⟩
  · refine ⟨pL ot 0 0 0 v.toInt64, ?_, fun _ => by rw [gL_pL, if_pos ⟨rfl, rfl, rfl⟩]⟩
    simp (disch := omega) only [sm_il, zl, inb_t, ix_n, gd_tt, nm_v]
  · have he : (e, code) ∈ [(3, 1), (2, 2)] := he
    rcases List.mem_cons.mp he with he | he
    · cases he
      exact ⟨ot, rfl, fun z => absurd z (by decide)⟩
    · cases List.mem_singleton.mp he
      exact ⟨ot, rfl, fun z => absurd z (by decide)⟩
theorem z_slots (h : sX6_slots x0 a1 a2 = some r) (hA : Ans P32 r code v) : ∃ o', sL_slots x0 ot a1 a2 = some (o', nI code) ∧ (nI code = nI 0 → gL o' 0 0 0 = v.toInt64) := by
  unfold sL_slots
  rw [h, bd_e]
  rcases hA with ⟨rfl, rfl⟩ | ⟨e, rfl, he⟩
  · refine ⟨pL ot 0 0 0 v.toInt64, ?_, fun _ => by rw [gL_pL, if_pos ⟨rfl, rfl, rfl⟩]⟩
    simp (disch := omega) only [sm_il, zl, inb_t, ix_n, gd_tt, nm_v]
  · have he : (e, code) ∈ [(3, 1), (2, 2)] := he
    rcases List.mem_cons.mp he with he | he
    · cases he
      exact ⟨ot, rfl, fun z => absurd z (by decide)⟩
    · cases List.mem_singleton.mp he
      exact ⟨ot, rfl, fun z => absurd z (by decide)⟩
theorem z_reckoned (h : sX6_reckoned x0 a1 = some r) (hA : Ans P3 r code v) : ∃ o', sL_reckoned x0 ot a1 = some (o', nI code) ∧ (nI code = nI 0 → gL o' 0 0 0 = v.toInt64) := by
  unfold sL_reckoned
  rw [h, bd_e]
  rcases hA with ⟨rfl, rfl⟩ | ⟨e, rfl, he⟩
  · refine ⟨pL ot 0 0 0 v.toInt64, ?_, fun _ => by rw [gL_pL, if_pos ⟨rfl, rfl, rfl⟩]⟩
    simp (disch := omega) only [sm_il, zl, inb_t, ix_n, gd_tt, nm_v]
  · have he : (e, code) ∈ [(3, 1)] := he
    cases List.mem_singleton.mp he
    exact ⟨ot, rfl, fun z => absurd z (by decide)⟩
theorem z_letter (h : sX6_letter x0 a1 a2 = some r) (hA : Ans P3 r code v) : ∃ o', sL_letter x0 ot a1 a2 = some (o', nI code) ∧ (nI code = nI 0 → gL o' 0 0 0 = v.toInt64) := by
  unfold sL_letter
  rw [h, bd_e]
  rcases hA with ⟨rfl, rfl⟩ | ⟨e, rfl, he⟩
  · refine ⟨pL ot 0 0 0 v.toInt64, ?_, fun _ => by rw [gL_pL, if_pos ⟨rfl, rfl, rfl⟩]⟩
    simp (disch := omega) only [sm_il, zl, inb_t, ix_n, gd_tt, nm_v]
  · have he : (e, code) ∈ [(3, 1)] := he
    cases List.mem_singleton.mp he
    exact ⟨ot, rfl, fun z => absurd z (by decide)⟩
theorem z_heard (h : sX6_heard x0 a1 a2 = some r) (hA : Ans P3 r code v) : ∃ o', sL_heard x0 ot a1 a2 = some (o', nI code) ∧ (nI code = nI 0 → gL o' 0 0 0 = v.toInt64) := by
  unfold sL_heard
  rw [h, bd_e]
  rcases hA with ⟨rfl, rfl⟩ | ⟨e, rfl, he⟩
  · refine ⟨pL ot 0 0 0 v.toInt64, ?_, fun _ => by rw [gL_pL, if_pos ⟨rfl, rfl, rfl⟩]⟩
    simp (disch := omega) only [sm_il, zl, inb_t, ix_n, gd_tt, nm_v]
  · have he : (e, code) ∈ [(3, 1)] := he
    cases List.mem_singleton.mp he
    exact ⟨ot, rfl, fun z => absurd z (by decide)⟩
theorem z_knows (h : sX6_knows x0 a1 a2 = some r) (hA : Ans P3 r code v) : ∃ o', sL_knows x0 ot a1 a2 = some (o', nI code) ∧ (nI code = nI 0 → gL o' 0 0 0 = if v = nI 0 then (0 : Int64) else (1 : Int64)) := by
  unfold sL_knows
  rw [h, bd_e]
  rcases hA with ⟨rfl, rfl⟩ | ⟨e, rfl, he⟩
  · by_cases hz : v = nI 0
    · refine ⟨pL ot 0 0 0 (0 : Int64), ?_, fun _ => by rw [gL_pL, if_pos ⟨rfl, rfl, rfl⟩, if_pos hz]⟩
      simp (disch := omega) only [sm_il, zl, inb_t, ix_n, gd_tt, nm_v, hz, ↓reduceIte]
    · refine ⟨pL ot 0 0 0 (1 : Int64), ?_, fun _ => by rw [gL_pL, if_pos ⟨rfl, rfl, rfl⟩, if_neg hz]⟩
      simp (disch := omega) only [sm_il, zl, inb_t, ix_n, gd_tt, nm_v, hz, ↓reduceIte]
  · have he : (e, code) ∈ [(3, 1)] := he
    cases List.mem_singleton.mp he
    exact ⟨ot, rfl, fun z => absurd z (by decide)⟩
theorem z_why (h : sX6_why x0 a1 = some r) (hA : Ans P3 r code v) : ∃ o', sL_why x0 ot a1 = some (o', nI code) ∧ (nI code = nI 0 → gL o' 0 0 0 = v.toInt64) := by
  unfold sL_why
  rw [h, bd_e]
  rcases hA with ⟨rfl, rfl⟩ | ⟨e, rfl, he⟩
  · refine ⟨pL ot 0 0 0 v.toInt64, ?_, fun _ => by rw [gL_pL, if_pos ⟨rfl, rfl, rfl⟩]⟩
    simp (disch := omega) only [sm_il, zl, inb_t, ix_n, gd_tt, nm_v]
  · have he : (e, code) ∈ [(3, 1)] := he
    cases List.mem_singleton.mp he
    exact ⟨ot, rfl, fun z => absurd z (by decide)⟩
theorem z_whyNot (h : sX6_whyNot x0 a1 a2 = some r) (hA : Ans P3 r code v) : ∃ o', sL_whyNot x0 ot a1 a2 = some (o', nI code) ∧ (nI code = nI 0 → gL o' 0 0 0 = v.toInt64) := by
  unfold sL_whyNot
  rw [h, bd_e]
  rcases hA with ⟨rfl, rfl⟩ | ⟨e, rfl, he⟩
  · refine ⟨pL ot 0 0 0 v.toInt64, ?_, fun _ => by rw [gL_pL, if_pos ⟨rfl, rfl, rfl⟩]⟩
    simp (disch := omega) only [sm_il, zl, inb_t, ix_n, gd_tt, nm_v]
  · have he : (e, code) ∈ [(3, 1)] := he
    cases List.mem_singleton.mp he
    exact ⟨ot, rfl, fun z => absurd z (by decide)⟩
theorem z_dueIn (h : sX6_dueIn x0 a1 = some r) (hA : Ans P3 r code v) : ∃ o', sL_dueIn x0 ot a1 = some (o', nI code) ∧ (nI code = nI 0 → gL o' 0 0 0 = v.toInt64) := by
  unfold sL_dueIn
  rw [h, bd_e]
  rcases hA with ⟨rfl, rfl⟩ | ⟨e, rfl, he⟩
  · refine ⟨pL ot 0 0 0 v.toInt64, ?_, fun _ => by rw [gL_pL, if_pos ⟨rfl, rfl, rfl⟩]⟩
    simp (disch := omega) only [sm_il, zl, inb_t, ix_n, gd_tt, nm_v]
  · have he : (e, code) ∈ [(3, 1)] := he
    cases List.mem_singleton.mp he
    exact ⟨ot, rfl, fun z => absurd z (by decide)⟩
theorem z_hidden (h : sX6_hidden x0 a1 = some r) (hA : Ans P3 r code v) : ∃ o', sL_hidden x0 ot a1 = some (o', nI code) ∧ (nI code = nI 0 → gL o' 0 0 0 = v.toInt64) := by
  unfold sL_hidden
  rw [h, bd_e]
  rcases hA with ⟨rfl, rfl⟩ | ⟨e, rfl, he⟩
  · refine ⟨pL ot 0 0 0 v.toInt64, ?_, fun _ => by rw [gL_pL, if_pos ⟨rfl, rfl, rfl⟩]⟩
    simp (disch := omega) only [sm_il, zl, inb_t, ix_n, gd_tt, nm_v]
  · have he : (e, code) ∈ [(3, 1)] := he
    cases List.mem_singleton.mp he
    exact ⟨ot, rfl, fun z => absurd z (by decide)⟩
theorem z_hops (h : sX6_hops x0 a1 a2 = some r) (hA : Ans P3 r code v) : ∃ o', sL_hops x0 ot a1 a2 = some (o', nI code) ∧ (nI code = nI 0 → gL o' 0 0 0 = v.toInt64) := by
  unfold sL_hops
  rw [h, bd_e]
  rcases hA with ⟨rfl, rfl⟩ | ⟨e, rfl, he⟩
  · refine ⟨pL ot 0 0 0 v.toInt64, ?_, fun _ => by rw [gL_pL, if_pos ⟨rfl, rfl, rfl⟩]⟩
    simp (disch := omega) only [sm_il, zl, inb_t, ix_n, gd_tt, nm_v]
  · have he : (e, code) ∈ [(3, 1)] := he
    cases List.mem_singleton.mp he
    exact ⟨ot, rfl, fun z => absurd z (by decide)⟩
theorem z_ears (h : sX6_ears x0 a1 = some r) (hA : Ans P3 r code v) : ∃ o', sL_ears x0 ot a1 = some (o', nI code) ∧ (nI code = nI 0 → gL o' 0 0 0 = v.toInt64) := by
  unfold sL_ears
  rw [h, bd_e]
  rcases hA with ⟨rfl, rfl⟩ | ⟨e, rfl, he⟩
  · refine ⟨pL ot 0 0 0 v.toInt64, ?_, fun _ => by rw [gL_pL, if_pos ⟨rfl, rfl, rfl⟩]⟩
    simp (disch := omega) only [sm_il, zl, inb_t, ix_n, gd_tt, nm_v]
  · have he : (e, code) ∈ [(3, 1)] := he
    cases List.mem_singleton.mp he
    exact ⟨ot, rfl, fun z => absurd z (by decide)⟩
theorem z_window (h : sX6_window x0 a1 = some r) (hA : Ans P3 r code v) : ∃ o', sL_window x0 ot a1 = some (o', nI code) ∧ (nI code = nI 0 → gL o' 0 0 0 = v.toInt64) := by
  unfold sL_window
  rw [h, bd_e]
  rcases hA with ⟨rfl, rfl⟩ | ⟨e, rfl, he⟩
  · refine ⟨pL ot 0 0 0 v.toInt64, ?_, fun _ => by rw [gL_pL, if_pos ⟨rfl, rfl, rfl⟩]⟩
    simp (disch := omega) only [sm_il, zl, inb_t, ix_n, gd_tt, nm_v]
  · have he : (e, code) ∈ [(3, 1)] := he
    cases List.mem_singleton.mp he
    exact ⟨ot, rfl, fun z => absurd z (by decide)⟩
theorem z_reportByte (h : sX6_reportByte pg a1 = some r) (hA : Ans P3 r code v) : ∃ o', sL_reportByte pg ot a1 = some (o', nI code) ∧ (nI code = nI 0 → gL o' 0 0 0 = v.toInt64) := by
  unfold sL_reportByte
  rw [h, bd_e]
  rcases hA with ⟨rfl, rfl⟩ | ⟨e, rfl, he⟩
  · refine ⟨pL ot 0 0 0 v.toInt64, ?_, fun _ => by rw [gL_pL, if_pos ⟨rfl, rfl, rfl⟩]⟩
    simp (disch := omega) only [sm_il, zl, inb_t, ix_n, gd_tt, nm_v]
  · have he : (e, code) ∈ [(3, 1)] := he
    cases List.mem_singleton.mp he
    exact ⟨ot, rfl, fun z => absurd z (by decide)⟩
theorem z_stateIn {y1 : St} (h : sX6_stateIn x0 x1 a1 a2 = some (y1, r)) (hA : Ans P32 r code v) : ∃ o', sL_stateIn x0 x1 ot a1 a2 = some (y1, o', nI code) ∧ (nI code = nI 0 → gL o' 0 0 0 = v.toInt64) := by
  unfold sL_stateIn
  rw [h, bd_e]
  rcases hA with ⟨rfl, rfl⟩ | ⟨e, rfl, he⟩
  · refine ⟨pL ot 0 0 0 v.toInt64, ?_, fun _ => by rw [gL_pL, if_pos ⟨rfl, rfl, rfl⟩]⟩
    simp (disch := omega) only [sm_il, zl, inb_t, ix_n, gd_tt, nm_v]
  · have he : (e, code) ∈ [(3, 1), (2, 2)] := he
    rcases List.mem_cons.mp he with he | he
    · cases he
      exact ⟨ot, rfl, fun z => absurd z (by decide)⟩
    · cases List.mem_singleton.mp he
      exact ⟨ot, rfl, fun z => absurd z (by decide)⟩
theorem z_energyIn {y1 : St} (h : sX6_energyIn x0 x1 a1 a2 = some (y1, r)) (hA : Ans P32 r code v) : ∃ o', sL_energyIn x0 x1 ot a1 a2 = some (y1, o', nI code) ∧ (nI code = nI 0 → gL o' 0 0 0 = v.toInt64) := by
  unfold sL_energyIn
  rw [h, bd_e]
  rcases hA with ⟨rfl, rfl⟩ | ⟨e, rfl, he⟩
  · refine ⟨pL ot 0 0 0 v.toInt64, ?_, fun _ => by rw [gL_pL, if_pos ⟨rfl, rfl, rfl⟩]⟩
    simp (disch := omega) only [sm_il, zl, inb_t, ix_n, gd_tt, nm_v]
  · have he : (e, code) ∈ [(3, 1), (2, 2)] := he
    rcases List.mem_cons.mp he with he | he
    · cases he
      exact ⟨ot, rfl, fun z => absurd z (by decide)⟩
    · cases List.mem_singleton.mp he
      exact ⟨ot, rfl, fun z => absurd z (by decide)⟩
theorem z_collisionsIn {y1 : St} (h : sX6_collisionsIn x0 x1 a1 = some (y1, r)) (hA : Ans P2 r code v) : ∃ o', sL_collisionsIn x0 x1 ot a1 = some (y1, o', nI code) ∧ (nI code = nI 0 → gL o' 0 0 0 = v.toInt64) := by
  unfold sL_collisionsIn
  rw [h, bd_e]
  rcases hA with ⟨rfl, rfl⟩ | ⟨e, rfl, he⟩
  · refine ⟨pL ot 0 0 0 v.toInt64, ?_, fun _ => by rw [gL_pL, if_pos ⟨rfl, rfl, rfl⟩]⟩
    simp (disch := omega) only [sm_il, zl, inb_t, ix_n, gd_tt, nm_v]
  · have he : (e, code) ∈ [(2, 1)] := he
    cases List.mem_singleton.mp he
    exact ⟨ot, rfl, fun z => absurd z (by decide)⟩
theorem z_knowsIn {y1 : St} (h : sX6_knowsIn x0 x1 a1 a2 = some (y1, r)) (hA : Ans P3 r code v) : ∃ o', sL_knowsIn x0 x1 ot a1 a2 = some (y1, o', nI code) ∧ (nI code = nI 0 → gL o' 0 0 0 = v.toInt64) := by
  unfold sL_knowsIn
  rw [h, bd_e]
  rcases hA with ⟨rfl, rfl⟩ | ⟨e, rfl, he⟩
  · refine ⟨pL ot 0 0 0 v.toInt64, ?_, fun _ => by rw [gL_pL, if_pos ⟨rfl, rfl, rfl⟩]⟩
    simp (disch := omega) only [sm_il, zl, inb_t, ix_n, gd_tt, nm_v]
  · have he : (e, code) ∈ [(3, 1)] := he
    cases List.mem_singleton.mp he
    exact ⟨ot, rfl, fun z => absurd z (by decide)⟩
theorem z_outIn {y1 : St} (h : sX6_outIn x0 x1 a1 = some (y1, r)) (hA : Ans P3 r code v) : ∃ o', sL_outIn x0 x1 ot a1 = some (y1, o', nI code) ∧ (nI code = nI 0 → gL o' 0 0 0 = v.toInt64) := by
  unfold sL_outIn
  rw [h, bd_e]
  rcases hA with ⟨rfl, rfl⟩ | ⟨e, rfl, he⟩
  · refine ⟨pL ot 0 0 0 v.toInt64, ?_, fun _ => by rw [gL_pL, if_pos ⟨rfl, rfl, rfl⟩]⟩
    simp (disch := omega) only [sm_il, zl, inb_t, ix_n, gd_tt, nm_v]
  · have he : (e, code) ∈ [(3, 1)] := he
    cases List.mem_singleton.mp he
    exact ⟨ot, rfl, fun z => absurd z (by decide)⟩
theorem z_sendsIn {y1 : St} (h : sX6_sendsIn x0 x1 a1 = some (y1, r)) (hA : Ans P3 r code v) : ∃ o', sL_sendsIn x0 x1 ot a1 = some (y1, o', nI code) ∧ (nI code = nI 0 → gL o' 0 0 0 = v.toInt64) := by
  unfold sL_sendsIn
  rw [h, bd_e]
  rcases hA with ⟨rfl, rfl⟩ | ⟨e, rfl, he⟩
  · refine ⟨pL ot 0 0 0 v.toInt64, ?_, fun _ => by rw [gL_pL, if_pos ⟨rfl, rfl, rfl⟩]⟩
    simp (disch := omega) only [sm_il, zl, inb_t, ix_n, gd_tt, nm_v]
  · have he : (e, code) ∈ [(3, 1)] := he
    cases List.mem_singleton.mp he
    exact ⟨ot, rfl, fun z => absurd z (by decide)⟩
theorem z_wellIn {y1 : St} (h : sX6_wellIn x0 x1 a1 = some (y1, r)) (hA : Ans P3 r code v) : ∃ o', sL_wellIn x0 x1 ot a1 = some (y1, o', nI code) ∧ (nI code = nI 0 → gL o' 0 0 0 = v.toInt64) := by
  unfold sL_wellIn
  rw [h, bd_e]
  rcases hA with ⟨rfl, rfl⟩ | ⟨e, rfl, he⟩
  · refine ⟨pL ot 0 0 0 v.toInt64, ?_, fun _ => by rw [gL_pL, if_pos ⟨rfl, rfl, rfl⟩]⟩
    simp (disch := omega) only [sm_il, zl, inb_t, ix_n, gd_tt, nm_v]
  · have he : (e, code) ∈ [(3, 1)] := he
    cases List.mem_singleton.mp he
    exact ⟨ot, rfl, fun z => absurd z (by decide)⟩
theorem z_bestAt {y1 : St} (h : sX6_bestAt x0 x1 a1 = some (y1, r)) (hA : Ans P3 r code v) : ∃ o', sL_bestAt x0 x1 ot a1 = some (y1, o', nI code) ∧ (nI code = nI 0 → gL o' 0 0 0 = v.toInt64) := by
  unfold sL_bestAt
  rw [h, bd_e]
  rcases hA with ⟨rfl, rfl⟩ | ⟨e, rfl, he⟩
  · refine ⟨pL ot 0 0 0 v.toInt64, ?_, fun _ => by rw [gL_pL, if_pos ⟨rfl, rfl, rfl⟩]⟩
    simp (disch := omega) only [sm_il, zl, inb_t, ix_n, gd_tt, nm_v]
  · have he : (e, code) ∈ [(3, 1)] := he
    cases List.mem_singleton.mp he
    exact ⟨ot, rfl, fun z => absurd z (by decide)⟩
theorem z_bestEvery {y1 : St} (h : sX6_bestEvery x0 x1 a1 = some (y1, r)) (hA : Ans P3 r code v) : ∃ o', sL_bestEvery x0 x1 ot a1 = some (y1, o', nI code) ∧ (nI code = nI 0 → gL o' 0 0 0 = v.toInt64) := by
  unfold sL_bestEvery
  rw [h, bd_e]
  rcases hA with ⟨rfl, rfl⟩ | ⟨e, rfl, he⟩
  · refine ⟨pL ot 0 0 0 v.toInt64, ?_, fun _ => by rw [gL_pL, if_pos ⟨rfl, rfl, rfl⟩]⟩
    simp (disch := omega) only [sm_il, zl, inb_t, ix_n, gd_tt, nm_v]
  · have he : (e, code) ∈ [(3, 1)] := he
    cases List.mem_singleton.mp he
    exact ⟨ot, rfl, fun z => absurd z (by decide)⟩
theorem z_run {y1 : St} {ps1 : Nat → St} {c1 : St} (h : sX6_run x0 ps c a1 = some (y1, ps1, c1, r)) (hA : Ans [(2, 1), (1, 2)] r code v) : ∃ o', sL_run x0 ps c ot a1 = some (y1, ps1, c1, o', nI code) ∧ (nI code = nI 0 → gL o' 0 0 0 = v.toInt64) := by
  unfold sL_run
  rw [h, bd_e]
  rcases hA with ⟨rfl, rfl⟩ | ⟨e, rfl, he⟩
  · refine ⟨pL ot 0 0 0 v.toInt64, ?_, fun _ => by rw [gL_pL, if_pos ⟨rfl, rfl, rfl⟩]⟩
    simp (disch := omega) only [sm_il, zl, inb_t, ix_n, gd_tt, nm_v]
  · have he : (e, code) ∈ [(2, 1), (1, 2)] := he
    rcases List.mem_cons.mp he with he | he
    · cases he
      exact ⟨ot, rfl, fun z => absurd z (by decide)⟩
    · cases List.mem_singleton.mp he
      exact ⟨ot, rfl, fun z => absurd z (by decide)⟩
theorem z_wake {y1 : St} {ps1 : Nat → St} {c1 : St} (h : sX6_wake x0 ps c a1 = some (y1, ps1, c1, r)) (hA : Ans [(3, 1), (1, 2)] r code v) : ∃ o', sL_wake x0 ps c ot a1 = some (y1, ps1, c1, o', nI code) ∧ (nI code = nI 0 → gL o' 0 0 0 = v.toInt64) := by
  unfold sL_wake
  rw [h, bd_e]
  rcases hA with ⟨rfl, rfl⟩ | ⟨e, rfl, he⟩
  · refine ⟨pL ot 0 0 0 v.toInt64, ?_, fun _ => by rw [gL_pL, if_pos ⟨rfl, rfl, rfl⟩]⟩
    simp (disch := omega) only [sm_il, zl, inb_t, ix_n, gd_tt, nm_v]
  · have he : (e, code) ∈ [(3, 1), (1, 2)] := he
    rcases List.mem_cons.mp he with he | he
    · cases he
      exact ⟨ot, rfl, fun z => absurd z (by decide)⟩
    · cases List.mem_singleton.mp he
      exact ⟨ot, rfl, fun z => absurd z (by decide)⟩
theorem z_setEvery {y1 : St} {ps1 : Nat → St} {c1 : St} (h : sX6_setEvery x0 ps c a1 a2 = some (y1, ps1, c1, r)) (hA : Ans P32 r code v) : ∃ o', sL_setEvery x0 ps c ot a1 a2 = some (y1, ps1, c1, o', nI code) ∧ (nI code = nI 0 → gL o' 0 0 0 = v.toInt64) := by
  unfold sL_setEvery
  rw [h, bd_e]
  rcases hA with ⟨rfl, rfl⟩ | ⟨e, rfl, he⟩
  · refine ⟨pL ot 0 0 0 v.toInt64, ?_, fun _ => by rw [gL_pL, if_pos ⟨rfl, rfl, rfl⟩]⟩
    simp (disch := omega) only [sm_il, zl, inb_t, ix_n, gd_tt, nm_v]
  · have he : (e, code) ∈ [(3, 1), (2, 2)] := he
    rcases List.mem_cons.mp he with he | he
    · cases he
      exact ⟨ot, rfl, fun z => absurd z (by decide)⟩
    · cases List.mem_singleton.mp he
      exact ⟨ot, rfl, fun z => absurd z (by decide)⟩
theorem z_setAt {y1 : St} {ps1 : Nat → St} {c1 : St} (h : sX6_setAt x0 ps c a1 a2 = some (y1, ps1, c1, r)) (hA : Ans P32 r code v) : ∃ o', sL_setAt x0 ps c ot a1 a2 = some (y1, ps1, c1, o', nI code) ∧ (nI code = nI 0 → gL o' 0 0 0 = v.toInt64) := by
  unfold sL_setAt
  rw [h, bd_e]
  rcases hA with ⟨rfl, rfl⟩ | ⟨e, rfl, he⟩
  · refine ⟨pL ot 0 0 0 v.toInt64, ?_, fun _ => by rw [gL_pL, if_pos ⟨rfl, rfl, rfl⟩]⟩
    simp (disch := omega) only [sm_il, zl, inb_t, ix_n, gd_tt, nm_v]
  · have he : (e, code) ∈ [(3, 1), (2, 2)] := he
    rcases List.mem_cons.mp he with he | he
    · cases he
      exact ⟨ot, rfl, fun z => absurd z (by decide)⟩
    · cases List.mem_singleton.mp he
      exact ⟨ot, rfl, fun z => absurd z (by decide)⟩
theorem z_charge {y1 : St} {ps1 : Nat → St} {c1 : St} (h : sX6_charge x0 ps c a1 a2 = some (y1, ps1, c1, r)) (hA : Ans P32 r code v) : ∃ o', sL_charge x0 ps c ot a1 a2 = some (y1, ps1, c1, o', nI code) ∧ (nI code = nI 0 → gL o' 0 0 0 = v.toInt64) := by
  unfold sL_charge
  rw [h, bd_e]
  rcases hA with ⟨rfl, rfl⟩ | ⟨e, rfl, he⟩
  · refine ⟨pL ot 0 0 0 v.toInt64, ?_, fun _ => by rw [gL_pL, if_pos ⟨rfl, rfl, rfl⟩]⟩
    simp (disch := omega) only [sm_il, zl, inb_t, ix_n, gd_tt, nm_v]
  · have he : (e, code) ∈ [(3, 1), (2, 2)] := he
    rcases List.mem_cons.mp he with he | he
    · cases he
      exact ⟨ot, rfl, fun z => absurd z (by decide)⟩
    · cases List.mem_singleton.mp he
      exact ⟨ot, rfl, fun z => absurd z (by decide)⟩
theorem z_setNear {y1 : St} {ps1 : Nat → St} {c1 : St} (h : sX6_setNear x0 ps c a1 a2 a3 = some (y1, ps1, c1, r)) (hA : Ans P32 r code v) : ∃ o', sL_setNear x0 ps c ot a1 a2 a3 = some (y1, ps1, c1, o', nI code) ∧ (nI code = nI 0 → gL o' 0 0 0 = if v = nI 0 then (0 : Int64) else (1 : Int64)) := by
  unfold sL_setNear
  rw [h, bd_e]
  rcases hA with ⟨rfl, rfl⟩ | ⟨e, rfl, he⟩
  · by_cases hz : v = nI 0
    · refine ⟨pL ot 0 0 0 (0 : Int64), ?_, fun _ => by rw [gL_pL, if_pos ⟨rfl, rfl, rfl⟩, if_pos hz]⟩
      simp (disch := omega) only [sm_il, zl, inb_t, ix_n, gd_tt, nm_v, hz, ↓reduceIte]
    · refine ⟨pL ot 0 0 0 (1 : Int64), ?_, fun _ => by rw [gL_pL, if_pos ⟨rfl, rfl, rfl⟩, if_neg hz]⟩
      simp (disch := omega) only [sm_il, zl, inb_t, ix_n, gd_tt, nm_v, hz, ↓reduceIte]
  · have he : (e, code) ∈ [(3, 1), (2, 2)] := he
    rcases List.mem_cons.mp he with he | he
    · cases he
      exact ⟨ot, rfl, fun z => absurd z (by decide)⟩
    · cases List.mem_singleton.mp he
      exact ⟨ot, rfl, fun z => absurd z (by decide)⟩
theorem z_setTries {y1 : St} {ps1 : Nat → St} {c1 : St} (h : sX6_setTries x0 ps c a1 = some (y1, ps1, c1, r)) (hA : Ans P2 r code v) : ∃ o', sL_setTries x0 ps c ot a1 = some (y1, ps1, c1, o', nI code) ∧ (nI code = nI 0 → gL o' 0 0 0 = v.toInt64) := by
  unfold sL_setTries
  rw [h, bd_e]
  rcases hA with ⟨rfl, rfl⟩ | ⟨e, rfl, he⟩
  · refine ⟨pL ot 0 0 0 v.toInt64, ?_, fun _ => by rw [gL_pL, if_pos ⟨rfl, rfl, rfl⟩]⟩
    simp (disch := omega) only [sm_il, zl, inb_t, ix_n, gd_tt, nm_v]
  · have he : (e, code) ∈ [(2, 1)] := he
    cases List.mem_singleton.mp he
    exact ⟨ot, rfl, fun z => absurd z (by decide)⟩
theorem z_feed {c1 : St} (h : sX6_feed c a1 a2 a3 a4 a5 = some (c1, r)) (hA : Ans [(1, 1)] r code v) : ∃ o', sL_feed c ot a1 a2 a3 a4 a5 = some (c1, o', nI code) ∧ (nI code = nI 0 → gL o' 0 0 0 = v.toInt64) := by
  unfold sL_feed
  rw [h, bd_e]
  rcases hA with ⟨rfl, rfl⟩ | ⟨e, rfl, he⟩
  · refine ⟨pL ot 0 0 0 v.toInt64, ?_, fun _ => by rw [gL_pL, if_pos ⟨rfl, rfl, rfl⟩]⟩
    simp (disch := omega) only [sm_il, zl, inb_t, ix_n, gd_tt, nm_v]
  · have he : (e, code) ∈ [(1, 1)] := he
    cases List.mem_singleton.mp he
    exact ⟨ot, rfl, fun z => absurd z (by decide)⟩
theorem z_truncate {c1 : St} (h : sX6_truncate c a1 = some (c1, r)) (hA : Ans P2 r code v) : ∃ o', sL_truncate c ot a1 = some (c1, o', nI code) ∧ (nI code = nI 0 → gL o' 0 0 0 = v.toInt64) := by
  unfold sL_truncate
  rw [h, bd_e]
  rcases hA with ⟨rfl, rfl⟩ | ⟨e, rfl, he⟩
  · refine ⟨pL ot 0 0 0 v.toInt64, ?_, fun _ => by rw [gL_pL, if_pos ⟨rfl, rfl, rfl⟩]⟩
    simp (disch := omega) only [sm_il, zl, inb_t, ix_n, gd_tt, nm_v]
  · have he : (e, code) ∈ [(2, 1)] := he
    cases List.mem_singleton.mp he
    exact ⟨ot, rfl, fun z => absurd z (by decide)⟩
theorem z_readText {y1 : St} {y2 : St} {ta1 : St} {d1 : St} {c1 : St} (h : sX6_readText x0 x1 ta d c = some (y1, y2, ta1, d1, c1, r)) (hA : Ans [(2, 1)] r code v) : ∃ o', sL_readText x0 x1 ta d c ot = some (y1, y2, ta1, d1, c1, o', nI code) ∧ (nI code = nI 0 → gL o' 0 0 0 = v.toInt64) := by
  unfold sL_readText
  rw [h, bd_e]
  rcases hA with ⟨rfl, rfl⟩ | ⟨e, rfl, he⟩
  · refine ⟨pL ot 0 0 0 v.toInt64, ?_, fun _ => by rw [gL_pL, if_pos ⟨rfl, rfl, rfl⟩]⟩
    simp (disch := omega) only [sm_il, zl, inb_t, ix_n, gd_tt, nm_v]
  · have he : (e, code) ∈ [(2, 1)] := he
    cases List.mem_singleton.mp he
    exact ⟨ot, rfl, fun z => absurd z (by decide)⟩
theorem z_runScript {y1 : St} {ps1 : Nat → St} {tb1 : St} {S1 : St} {c1 : St} (h : sX6_runScript x0 ps tb S c = some (y1, ps1, tb1, S1, c1, r)) (hA : Ans [(2, 1)] r code v) : ∃ o', sL_runScript x0 ps tb S c ot = some (y1, ps1, tb1, S1, c1, o', nI code) ∧ (nI code = nI 0 → gL o' 0 0 0 = v.toInt64) := by
  unfold sL_runScript
  rw [h, bd_e]
  rcases hA with ⟨rfl, rfl⟩ | ⟨e, rfl, he⟩
  · refine ⟨pL ot 0 0 0 v.toInt64, ?_, fun _ => by rw [gL_pL, if_pos ⟨rfl, rfl, rfl⟩]⟩
    simp (disch := omega) only [sm_il, zl, inb_t, ix_n, gd_tt, nm_v]
  · have he : (e, code) ∈ [(2, 1)] := he
    cases List.mem_singleton.mp he
    exact ⟨ot, rfl, fun z => absurd z (by decide)⟩
theorem z_restore {y1 : St} {c1 : St} (h : sX6_restore x0 x2 c = some (y1, c1, r)) (hA : Ans [(1, 1)] r code v) : ∃ o', sL_restore x0 x2 c ot = some (y1, c1, o', nI code) ∧ (nI code = nI 0 → gL o' 0 0 0 = v.toInt64) := by
  unfold sL_restore
  rw [h, bd_e]
  rcases hA with ⟨rfl, rfl⟩ | ⟨e, rfl, he⟩
  · refine ⟨pL ot 0 0 0 v.toInt64, ?_, fun _ => by rw [gL_pL, if_pos ⟨rfl, rfl, rfl⟩]⟩
    simp (disch := omega) only [sm_il, zl, inb_t, ix_n, gd_tt, nm_v]
  · have he : (e, code) ∈ [(1, 1)] := he
    cases List.mem_singleton.mp he
    exact ⟨ot, rfl, fun z => absurd z (by decide)⟩
end
