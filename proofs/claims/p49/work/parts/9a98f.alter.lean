/-! stage B: slots leave the names; changes of one number -/
def kp (o : Option St) (L : Nat → Nat → Nat → Int64) : Prop := ∀ y, o = some y → y.2 = L
def kp2 (o : Option (St × Int32)) (L : Nat → Nat → Nat → Int64) : Prop := ∀ y, o = some y → y.1.2 = L
section
variable {L : Nat → Nat → Nat → Int64} {α : Type}
theorem kp_some {x : St} (h : x.2 = L) : kp (some x) L := fun y e => by rw [← Option.some.inj e]; exact h
theorem kp_none : kp none L := fun y e => by cases e
theorem kp_ite {c : Prop} [Decidable c] {a b : Option St} (h1 : kp a L) (h2 : kp b L) : kp (if c then a else b) L := by
  by_cases h : c
  · rw [if_pos h]; exact h1
  · rw [if_neg h]; exact h2
theorem kp_gd {c : Bool} {a : Option St} (h : kp a L) : kp (gd c a) L := by
  cases c
  · exact kp_none
  · exact h
theorem kp_nm {a : α} {f : α → Option St} (h : kp (f a) L) : kp (nm a f) L := h
theorem kp_bd {o : Option St} {f : St → Option St} (h : kp o L) (h2 : ∀ y, y.2 = L → kp (f y) L) : kp (bd o f) L := by
  cases o with
  | none => exact kp_none
  | some a => exact h2 a (h a rfl)
theorem kp_bdv {o : Option α} {f : α → Option St} (h2 : ∀ v, kp (f v) L) : kp (bd o f) L := by
  cases o with
  | none => exact kp_none
  | some a => exact h2 a
theorem kp_bd2 {o : Option (St × Int32)} {f : St × Int32 → Option St} (h : kp2 o L) (h2 : ∀ y, y.1.2 = L → kp (f y) L) : kp (bd o f) L := by
  cases o with
  | none => exact kp_none
  | some a => exact h2 a (h a rfl)
theorem k2_some {x : St × Int32} (h : x.1.2 = L) : kp2 (some x) L := fun y e => by rw [← Option.some.inj e]; exact h
theorem k2_none : kp2 none L := fun y e => by cases e
theorem k2_ite {c : Prop} [Decidable c] {a b : Option (St × Int32)} (h1 : kp2 a L) (h2 : kp2 b L) : kp2 (if c then a else b) L := by
  by_cases h : c
  · rw [if_pos h]; exact h1
  · rw [if_neg h]; exact h2
theorem k2_gd {c : Bool} {a : Option (St × Int32)} (h : kp2 a L) : kp2 (gd c a) L := by
  cases c
  · exact k2_none
  · exact h
theorem k2_nm {a : α} {f : α → Option (St × Int32)} (h : kp2 (f a) L) : kp2 (nm a f) L := h
theorem k2_bd {o : Option St} {f : St → Option (St × Int32)} (h : kp o L) (h2 : ∀ y, y.2 = L → kp2 (f y) L) : kp2 (bd o f) L := by
  cases o with
  | none => exact k2_none
  | some a => exact h2 a (h a rfl)
theorem k2_bd2 {o : Option (St × Int32)} {f : St × Int32 → Option (St × Int32)} (h : kp2 o L) (h2 : ∀ y, y.1.2 = L → kp2 (f y) L) : kp2 (bd o f) L := by
  cases o with
  | none => exact k2_none
  | some a => exact h2 a (h a rfl)
theorem k2_bdv {o : Option α} {f : α → Option (St × Int32)} (h2 : ∀ v, kp2 (f v) L) : kp2 (bd o f) L := by
  cases o with
  | none => exact k2_none
  | some a => exact h2 a
variable {x : St}
theorem kl_listen (o : Nat) (h : x.2 = L) : kp (sX0_startListening o x) L := by
  unfold sX0_startListening
  exact kp_nm (kp_nm (kp_nm (kp_some h)))
theorem kl_asleep (o : Nat) (h : x.2 = L) : kp (sX0_fallAsleep o x) L := by
  unfold sX0_fallAsleep
  exact kp_nm (kp_nm (kp_nm (kp_some h)))
theorem kl_send15 (o : Nat) : ∀ (F : Nat) (x : St) (a : Int32), x.2 = L → kp (sX0_startSending_b15 F o x a) L
  | 0, _, _, _ => kp_none
  | F + 1, x, a, h => by
    simp only [sX0_startSending_b15]
    exact kp_ite (kp_some h) (kp_gd (kp_nm (kp_nm (kl_send15 o F _ _ h))))
theorem kl_send (o : Nat) (h : x.2 = L) : kp (sX0_startSending o x) L := by
  unfold sX0_startSending
  exact kp_nm (kp_nm (kl_send15 o FU _ _ h))
theorem kl_wake (o : Nat) (h : x.2 = L) : kp (sX5_wakeOrSkip o x) L := by
  have h37 : kp (sX5_wakeOrSkip_b37 o x) L := by
    unfold sX5_wakeOrSkip_b37
    exact kp_bd (kl_listen o h) fun y hy => kp_some hy
  unfold sX5_wakeOrSkip
  exact kp_ite h37 (kp_ite h37 (kp_bdv fun v => kp_ite h37 (kp_nm (kp_some h))))
theorem kl_draw (o : Nat) (h : x.2 = L) : kp (sX5_waitByDraw o x) L := by
  unfold sX5_waitByDraw
  exact kp_bdv fun v => kp_nm (kp_nm (kp_nm (kp_ite (kp_gd (kp_nm (kp_nm (kp_some h)))) (kp_nm (kp_some h)))))
theorem kl_waitOn (o : Nat) (h : x.2 = L) : kp (sX5_waitOn o x) L := by
  unfold sX5_waitOn
  exact kp_nm (kp_ite (kp_some h) (kp_bd (kl_send o h) fun y hy => kp_some hy))
theorem kl_change : ∀ (F : Nat) (x : St) (a : Int32), x.2 = L → kp (sX5_changeStates_b2 F x a) L
  | 0, _, _, _ => kp_none
  | F + 1, x, a, h => by
    simp only [sX5_changeStates_b2]
    exact kp_ite (kp_some h) (kp_gd (kp_nm (kp_ite (kp_bdv fun v => kp_ite (kp_nm (kl_change F _ _ h)) (kp_bd (kl_wake _ h) fun y hy => kp_nm (kl_change F _ _ hy))) (kp_ite (kp_nm (kp_nm (kp_ite (kp_nm (kl_change F _ _ h)) (kp_bd (kl_draw _ h) fun y hy => kp_nm (kl_change F _ _ hy))))) (kp_ite (kp_ite (kp_nm (kl_change F _ _ h)) (kp_bd (kl_waitOn _ h) fun y hy => kp_nm (kl_change F _ _ hy))) (kp_nm (kl_change F _ _ h)))))))
theorem kl_slotPay (o : Nat) (a : Int32) (h : x.2 = L) : kp (sX0_payForSlot o x a) L := by
  unfold sX0_payForSlot
  exact kp_nm (kp_nm (kp_nm (kp_ite (kp_some h) (kp_nm (kp_nm (kp_some h))))))
theorem kl_pay : ∀ (F : Nat) (x : St) (a : Int32), x.2 = L → kp (sX5_payForStates_b2 F x a) L
  | 0, _, _, _ => kp_none
  | F + 1, x, a, h => by
    simp only [sX5_payForStates_b2]
    exact kp_ite (kp_some h) (kp_gd (kp_ite (kp_nm (kl_pay F _ _ h)) (kp_gd (kp_nm (kp_gd (kp_nm (kp_gd (kp_bd (kl_slotPay _ _ h) fun y hy => kp_nm (kl_pay F _ _ hy)))))))))
theorem kl_ear80 (k19 : St → Int32 → Option St) (hk : ∀ y a, y.2 = L → kp (k19 y a) L) (o2 : Nat) : ∀ (F : Nat) (x : St) (a1 a3 a4 : Int32), x.2 = L → kp (sX5_listenToSenders_b80 F k19 x a1 o2 a3 a4) L
  | 0, _, _, _, _, _ => kp_none
  | F + 1, x, a1, a3, a4, h => by
    simp only [sX5_listenToSenders_b80]
    exact kp_ite (kp_nm (hk _ _ h)) (kp_bdv fun v => kp_ite (kp_nm (kl_ear80 k19 hk o2 F _ _ _ _ h)) (kp_gd (kp_gd (kp_ite (kp_nm (kl_ear80 k19 hk o2 F _ _ _ _ h)) (kp_gd (kp_bdv fun w => kp_gd (kp_nm (kp_nm (kl_ear80 k19 hk o2 F _ _ _ _ h)))))))))
theorem kl_ear19 : ∀ (F : Nat) (x : St) (a : Int32), x.2 = L → kp (sX5_listenToSenders_b19 F x a) L
  | 0, _, _, _ => kp_none
  | F + 1, x, a, h => by
    have h55 : ∀ (y : St) (b s : Int32) (o : Nat), y.2 = L → kp (sX5_listenToSenders_b55 (fun x' a1' => sX5_listenToSenders_b19 F x' a1') y b o s) L := fun y b s o hy => by
      unfold sX5_listenToSenders_b55
      have h80 : ∀ z : St, z.2 = L → kp (sX5_listenToSenders_b80 FU (fun x' a1' => sX5_listenToSenders_b19 F x' a1') z b o s 0) L := fun z hz => kl_ear80 _ (fun y a hy => kl_ear19 F y a hy) o FU z b s 0 hz
      exact kp_ite (h80 _ hy) (kp_bdv fun v => kp_ite (h80 _ hy) (kp_nm (h80 _ hy)))
    simp only [sX5_listenToSenders_b19]
    exact kp_ite (kp_some h) (kp_gd (kp_bdv fun v => kp_ite (h55 _ _ _ _ h) (h55 _ _ _ _ h)))
theorem kl_hear (h : x.2 = L) : kp (sX5_listenToSenders x) L := by
  unfold sX5_listenToSenders
  exact kp_bdv fun v => kp_nm (kp_ite (kl_ear19 FU _ _ h) (kp_some h))
theorem kl_tell (o : Nat) : ∀ (F : Nat) (x : St) (a2 a3 a4 : Int32), x.2 = L → kp2 (sX5_tellEars_b5 F o x a2 a3 a4) L
  | 0, _, _, _, _, _ => k2_none
  | F + 1, x, a2, a3, a4, h => by
    simp only [sX5_tellEars_b5]
    exact k2_ite (k2_gd (k2_some h)) (k2_gd (k2_gd (k2_nm (k2_gd (k2_ite (k2_nm (kl_tell o F _ _ _ _ h)) (k2_gd (k2_gd (k2_nm (k2_nm (kl_tell o F _ _ _ _ h))))))))))
theorem kl_endOne (o : Nat) (a : Int32) (h : x.2 = L) : kp2 (sX5_endSending o x a) L := by
  unfold sX5_endSending
  refine k2_bd2 (kl_tell o FU _ _ _ _ h) fun y hy => k2_ite (k2_nm (k2_ite (k2_some hy) (k2_nm (k2_nm (k2_bd (kl_asleep o hy) fun z hz => k2_some hz))))) (k2_nm (k2_nm (k2_bd (kl_asleep o hy) fun z hz => k2_some hz)))
theorem kl_end : ∀ (F : Nat) (x : St) (a : Int32), x.2 = L → kp (sX5_endSendings_b2 F x a) L
  | 0, _, _, _ => kp_none
  | F + 1, x, a, h => by
    simp only [sX5_endSendings_b2]
    exact kp_ite (kp_some h) (kp_gd (kp_ite (kp_nm (kl_end F _ _ h)) (kp_nm (kp_nm (kp_ite (kp_nm (kl_end F _ _ h)) (kp_bd2 (kl_endOne _ _ h) fun y hy => kp_ite (kp_nm (kl_end F _ _ hy)) (kp_bd (kl_draw _ hy) fun z hz => kp_nm (kl_end F _ _ hz))))))))
theorem kl_pass : ∀ (F : Nat) (x : St) (a b : Int32), x.2 = L → kp (sX5_pass_b2 F x a b) L
  | 0, _, _, _, _ => kp_none
  | F + 1, x, a, b, h => by
    simp only [sX5_pass_b2]
    exact kp_ite (kp_some h) (kp_nm (kp_bd (kl_change FU _ _ h) fun y hy => kp_bd (kl_pay FU _ _ hy) fun y hy => kp_bd (kl_hear hy) fun y hy => kp_bd (kl_end FU _ _ hy) fun y hy => kp_nm (kl_pass F _ _ _ hy)))
theorem pass_L {x' : St} {a : Int32} (h : sX5_pass x a = some x') : x'.2 = x.2 := kl_pass FU x a 0 rfl x' h
end
theorem NWd.of2 {n : Nat} {x x' : St} {w : Nat → Int64} (h : NWd n x w) (e : x'.2 = x.2) : NWd n x' w :=
  ⟨fun b hb => by
    obtain ⟨l, h1, h2, h3⟩ := h.1 b hb
    refine ⟨l, h1, ?_, h3⟩
    show x'.2 (b + 1) 0 0 = _
    rw [e]; exact h2, h.2⟩
section
variable {n t cm wl wm k : Nat} {q : Bool} {x x' m : St} {f f' : Nat → Int32}
/-- charged -/
theorem s_charge (h : WR n t cm wl wm q 99 x f) (hk : k < n) {by' : Nat} (hb : by' ≤ 999) : ∃ x' f' v, sX0_takeEnergy (k + 1) x (nI by') = some x' ∧ gI x' (k + 1) 0 5 = v ∧ sX7_charges (sr m f) (nI k) (nI by') = some (sr m f', v) ∧ WR n t cm wl wm q 99 x' f' ∧ x'.2 = x.2 := by
  have hn := h.n8
  obtain ⟨⟨⟨d0, d00⟩, d1, d2, d3, d4, d5, d6, d7, d8, d9, d10, d11, d12, d13, d14, d15⟩, ⟨p, g, l, s, en, st, lf, fl, a, sk, h1, h2, h3, h4, h5, h6, h7, h8, h9, h10, h11, h12⟩, hs⟩ := h.2.1 k hk
  obtain ⟨E, hE⟩ : ∃ E, min 9999 (en + by') = E := ⟨_, rfl⟩
  have hE1 : (if nI (en + by') < nI 9999 then nI (en + by') else nI 9999) = nI E := by
    by_cases hz : en + by' < 9999
    · rw [if_pos (nI_lt hz (by omega)), show en + by' = E by omega]
    · rw [if_neg (nI_nlt (by omega) (by omega)), show 9999 = E by omega]
  have hE2 : sX7_lesser (nI 9999) (nI (en + by')) = some (nI E) := by
    unfold sX7_lesser
    by_cases hz : en + by' ≤ 9999
    · rw [if_pos (nI_le hz (by omega)), show en + by' = E by omega]
    · rw [if_neg (nI_ge (by omega) (by omega)), show 9999 = E by omega]
  by_cases h0 : st = 4
  · subst h0
    refine ⟨pI (pI (pI (pI x (k + 1) 0 5 (nI E)) (k + 1) 0 6 (nI 0)) (k + 1) 0 7 (nI 0)) (k + 1) 0 8 (nI 0), upd (upd (upd (upd f (21 + 43 * k + 7) (nI 0)) (21 + 43 * k + 5) (nI 0)) (21 + 43 * k + 6) (nI 0)) (21 + 43 * k + 4) (nI E), nI E, ?_, ?_, ?_, ?_, rfl⟩
    · unfold sX0_takeEnergy sX0_fallAsleep
      simp only [zl]
      rw [h5, nI_add, hE1]
      simp (disch := omega) only [zl, zm, nI_add, pk_mul, inb_t, ix_n, gd_tt, bd_e, nm_v, ite_not, ↓reduceIte, le_t, le_f, lt_t, lt_f, eq_t, eq_f, mone_f, mone_f2, gI_pI, gL_pL, gI_pL, gL_pI, qe, qn, not_true_eq_false, not_false_eq_true, true_and, and_true, false_and, and_false, and_self, Nat.add_right_cancel_iff, h6]
    · simp (disch := omega) only [gI_pI, gL_pL, gI_pL, gL_pI, qe, qn, not_true_eq_false, not_false_eq_true, true_and, and_true, false_and, and_false, and_self, Nat.add_right_cancel_iff, ↓reduceIte]
    · unfold sX7_charges sX7_charges_b24 sX7_enters
      simp only [zl]
      simp (disch := omega) only [zl, zm, nI_add, pk_mul, inb_t, ix_n, gd_tt, bd_e, nm_v, ite_not, ↓reduceIte, le_t, le_f, lt_t, lt_f, eq_t, eq_f, mone_f, mone_f2, m_isAt _ rfl, d6, h6, decide_true, Bool.toNat_true, m_sets, m_of, upd_e, qe, qn, d5, h5, hE2]
    · refine h.one hk (Or.inl rfl) (fun z => z) (fun b hb => ?_) ?_ (fun i hi hi2 => ?_) ?_ ?_
      · rw [bv_ne hb, bv_ne hb, bv_ne hb, bv_ne hb]
      · rw [hd_k, hd_k, hd_k, hd_k]; exact h.1.cg fun i hi => by simp (disch := omega) only [upd_e, qn, ↓reduceIte]
      · simp (disch := omega) only [upd_e, qn, ↓reduceIte]
      · simp (disch := omega) only [gI_pI, gL_pL, gI_pL, gL_pI, qn, qe, not_true_eq_false, not_false_eq_true, true_and, and_true, false_and, and_false, and_self, Nat.add_right_cancel_iff, ↓reduceIte]
      · refine ⟨⟨⟨?_, ?_⟩, ?_, ?_, ?_, ?_, ?_, ?_, ?_, ?_, ?_, ?_, ?_, ?_, fun k hk => ?_, fun o ho => ?_, fun o ho hob => ?_⟩, ⟨p, g, l, s, E, 0, 0, 0, a, sk, ?_, ?_, ?_, ?_, ?_, ?_, ?_, ?_, ?_, ?_, ?_, by omega⟩, ?_⟩
        all_goals try simp (disch := omega) only [upd_e, gI_pI, gL_pL, gI_pL, gL_pI, qn, qe, not_true_eq_false, not_false_eq_true, true_and, and_true, false_and, and_false, and_self, Nat.add_right_cancel_iff, ↓reduceIte]
        all_goals first | assumption | rfl | exact d13 _ (by assumption) | exact d14 _ (by assumption) | exact d15 _ (by assumption) (by assumption) | (rw [Nat.add_comm]; done) | skip
        · exact fun z => absurd z (by decide)
  · refine ⟨pI x (k + 1) 0 5 (nI E), upd f (21 + 43 * k + 4) (nI E), nI E, ?_, ?_, ?_, ?_, rfl⟩
    · unfold sX0_takeEnergy
      simp only [zl]
      rw [h5, nI_add, hE1]
      simp (disch := omega) only [zl, zm, nI_add, pk_mul, inb_t, ix_n, gd_tt, bd_e, nm_v, ite_not, ↓reduceIte, le_t, le_f, lt_t, lt_f, eq_t, eq_f, mone_f, mone_f2, gI_pI, gL_pL, gI_pL, gL_pI, qe, qn, not_true_eq_false, not_false_eq_true, true_and, and_true, false_and, and_false, and_self, Nat.add_right_cancel_iff, h6]
    · simp (disch := omega) only [gI_pI, gL_pL, gI_pL, gL_pI, qe, qn, not_true_eq_false, not_false_eq_true, true_and, and_true, false_and, and_false, and_self, Nat.add_right_cancel_iff, ↓reduceIte]
    · unfold sX7_charges sX7_charges_b24
      simp only [zl]
      simp (disch := omega) only [zl, zm, nI_add, pk_mul, inb_t, ix_n, gd_tt, bd_e, nm_v, ite_not, ↓reduceIte, le_t, le_f, lt_t, lt_f, eq_t, eq_f, mone_f, mone_f2, m_isAt _ rfl, d6, h6, decide_false, Bool.toNat_false, m_sets, m_of, upd_e, qe, qn, d5, h5, hE2]
    · refine h.one hk (Or.inl rfl) (fun z => z) (fun b hb => ?_) ?_ (fun i hi hi2 => ?_) ?_ ?_
      · rw [bv_ne hb]
      · rw [hd_k]; exact h.1.cg fun i hi => by simp (disch := omega) only [upd_e, qn, ↓reduceIte]
      · simp (disch := omega) only [upd_e, qn, ↓reduceIte]
      · simp (disch := omega) only [gI_pI, gL_pL, gI_pL, gL_pI, qn, qe, not_true_eq_false, not_false_eq_true, true_and, and_true, false_and, and_false, and_self, Nat.add_right_cancel_iff, ↓reduceIte]
      · refine ⟨⟨⟨?_, ?_⟩, ?_, ?_, ?_, ?_, ?_, ?_, ?_, ?_, ?_, ?_, ?_, ?_, fun k hk => ?_, fun o ho => ?_, fun o ho hob => ?_⟩, ⟨p, g, l, s, E, st, lf, fl, a, sk, ?_, ?_, ?_, ?_, ?_, ?_, ?_, ?_, ?_, ?_, ?_, by omega⟩, ?_⟩
        all_goals try simp (disch := omega) only [upd_e, gI_pI, gL_pL, gI_pL, gL_pI, qn, qe, not_true_eq_false, not_false_eq_true, true_and, and_true, false_and, and_false, and_self, Nat.add_right_cancel_iff, ↓reduceIte]
        all_goals first | assumption | rfl | exact d13 _ (by assumption) | exact d14 _ (by assumption) | exact d15 _ (by assumption) (by assumption) | (rw [Nat.add_comm]; done) | skip
        · intro h3
          obtain ⟨⟨a', s1, s2, s3, s4⟩, s5⟩ := hs h3
          refine ⟨⟨a', ?_, s2, s3, fun o ho hob => ?_⟩, fun hq => ?_⟩
          · simp (disch := omega) only [upd_e, gI_pI, gL_pL, gI_pL, gL_pI, qn, qe, not_true_eq_false, not_false_eq_true, true_and, and_true, false_and, and_false, and_self, Nat.add_right_cancel_iff, ↓reduceIte]; exact s1
          · simp (disch := omega) only [upd_e, gI_pI, gL_pL, gI_pL, gL_pI, qn, qe, not_true_eq_false, not_false_eq_true, true_and, and_true, false_and, and_false, and_self, Nat.add_right_cancel_iff, ↓reduceIte]; exact s4 o ho hob
          · first | exact s5 hq | (simp (disch := omega) only [upd_e, gI_pI, gL_pL, gI_pL, gL_pI, qn, qe, not_true_eq_false, not_false_eq_true, true_and, and_true, false_and, and_false, and_self, Nat.add_right_cancel_iff, ↓reduceIte]; exact s5 hq)
/-- other tries -/
theorem r_tries (h : WR n t cm wl wm q 99 x f) {v : Nat} (hv : v ≤ 9) : WR n t cm wl wm q 99 (pI x 0 0 3 (nI v)) (upd f 2 (nI v)) := by
  obtain ⟨⟨c, w', tr, sn, w1, w2, w3, w4, w5, w6, w7, w8, w9, w10, w11, w12, w13, w14, w15, w16, w17, w18, w19, w20, w21, w22, w23, w24, w25⟩, j4, j5⟩ := h
  refine ⟨⟨c, w', v, sn, w1, w2, w3, w4, w5, w6, hv, w8, ?_, ?_, ?_, ?_, ?_, ?_, fun k hk => ?_, ?_, ?_, ?_, ?_, ?_, ?_, ?_, ?_, ?_, fun k hk => ?_⟩, fun b hb => ?_, fun b hb o ho => ?_⟩
  all_goals try simp (disch := omega) only [upd_e, gI_pI, gL_pL, gI_pL, gL_pI, qn, qe, not_true_eq_false, not_false_eq_true, true_and, and_true, false_and, and_false, and_self, Nat.add_right_cancel_iff, ↓reduceIte]
  all_goals first | assumption | exact w15 _ (by assumption) | exact w25 _ (by assumption) | skip
  · rw [bv_0]
    exact (j4 b hb).cg (by simp (disch := omega) only [upd_e, qn, ↓reduceIte]) (fun w hw => by simp (disch := omega) only [upd_e, qn, ↓reduceIte]) w1 (fun z => z) (Or.inr rfl) hb
  · have hNN : ∀ b, NB (pI x 0 0 3 (nI v)) b = NB x b := fun b => by unfold NB; rw [bv_0]
    rw [hNN] at ho ⊢
    exact j5 b hb o ho
/-- two become near or far -/
theorem r_near {b o : Nat} (h : WR n t cm wl wm q 99 x f) (hb : b < n) (ho : o < n) (hbo : ¬ b = o) : WR n t cm wl wm q 99 (pI (pI x (b + 1) 0 10 (nI (NB x b ^^^ 2 ^ o))) (o + 1) 0 10 (nI (NB x o ^^^ 2 ^ b))) (upd (upd f (13 + b) (nI (NB x b ^^^ 2 ^ o))) (13 + o) (nI (NB x o ^^^ 2 ^ b))) := by
  have hn := h.n8
  have h2 : ∀ k, k < n → 2 ^ k < 256 := fun k hk => Nat.pow_lt_pow_right (a := 2) (n := 8) (by decide) (by omega)
  have hA : NB x b ^^^ 2 ^ o < 256 := Nat.xor_lt_two_pow (n := 8) (h.nb hb).2 (h2 o ho)
  have hB : NB x o ^^^ 2 ^ b < 256 := Nat.xor_lt_two_pow (n := 8) (h.nb ho).2 (h2 b hb)
  obtain ⟨j3, j4, j5⟩ := h
  have hNB : ∀ k, NB (pI (pI x (b + 1) 0 10 (nI (NB x b ^^^ 2 ^ o))) (o + 1) 0 10 (nI (NB x o ^^^ 2 ^ b))) k = if k = o then NB x o ^^^ 2 ^ b else if k = b then NB x b ^^^ 2 ^ o else NB x k := fun k => by
    unfold NB at hA hB ⊢
    rw [gI_pI]
    by_cases hko : k = o
    · rw [if_pos (by omega), if_pos hko, ix_n (by omega)]
    · rw [if_neg (by omega), if_neg hko, gI_pI]
      by_cases hkb : k = b
      · rw [if_pos (by omega), if_pos hkb, ix_n (by omega)]
      · rw [if_neg (by omega), if_neg hkb]
  refine ⟨?_, fun k hk => ?_, fun k hk i hi => ?_⟩
  · rw [hd_k, hd_k]; exact j3.cg fun i hi => by simp (disch := omega) only [upd_e, qn, ↓reduceIte]
  · obtain ⟨⟨⟨d0, d00⟩, d1, d2, d3, d4, d5, d6, d7, d8, d9, d10, d11, d12, d13, d14, d15⟩, ⟨p, g, l, s, en, st, lf, fl, a, sk, h1, h2, h3, h4, h5, h6, h7, h8, h9, h10, h11, h12⟩, hs⟩ := j4 k hk
    by_cases hko : k = o
    · subst hko
      refine ⟨⟨⟨?_, ?_⟩, ?_, ?_, ?_, ?_, ?_, ?_, ?_, ?_, ?_, ?_, ?_, ?_, fun k hk => ?_, fun o ho => ?_, fun o ho hob => ?_⟩, ⟨p, g, l, s, en, st, lf, fl, NB x k ^^^ 2 ^ b, sk, ?_, ?_, ?_, ?_, ?_, ?_, ?_, ?_, ?_, ?_, ?_, by omega⟩, ?_⟩
      all_goals try simp (disch := omega) only [upd_e, gI_pI, gL_pL, gI_pL, gL_pI, qn, qe, not_true_eq_false, not_false_eq_true, true_and, and_true, false_and, and_false, and_self, Nat.add_right_cancel_iff, ↓reduceIte]
      all_goals first | assumption | rfl | exact d13 _ (by assumption) | exact d14 _ (by assumption) | exact d15 _ (by assumption) (by assumption) | (rw [Nat.add_comm]; done) | skip
      · intro h3
        obtain ⟨⟨a', s1, s2, s3, s4⟩, s5⟩ := hs h3
        refine ⟨⟨a', ?_, s2, s3, fun o ho hob => ?_⟩, fun hq => ?_⟩
        · simp (disch := omega) only [upd_e, gI_pI, gL_pL, gI_pL, gL_pI, qn, qe, not_true_eq_false, not_false_eq_true, true_and, and_true, false_and, and_false, and_self, Nat.add_right_cancel_iff, ↓reduceIte]; exact s1
        · simp (disch := omega) only [upd_e, gI_pI, gL_pL, gI_pL, gL_pI, qn, qe, not_true_eq_false, not_false_eq_true, true_and, and_true, false_and, and_false, and_self, Nat.add_right_cancel_iff, ↓reduceIte]; exact s4 o ho hob
        · first | exact s5 hq | (simp (disch := omega) only [upd_e, gI_pI, gL_pL, gI_pL, gL_pI, qn, qe, not_true_eq_false, not_false_eq_true, true_and, and_true, false_and, and_false, and_self, Nat.add_right_cancel_iff, ↓reduceIte]; exact s5 hq)
    · by_cases hkb : k = b
      · subst hkb
        refine ⟨⟨⟨?_, ?_⟩, ?_, ?_, ?_, ?_, ?_, ?_, ?_, ?_, ?_, ?_, ?_, ?_, fun k hk => ?_, fun o ho => ?_, fun o ho hob => ?_⟩, ⟨p, g, l, s, en, st, lf, fl, NB x k ^^^ 2 ^ o, sk, ?_, ?_, ?_, ?_, ?_, ?_, ?_, ?_, ?_, ?_, ?_, by omega⟩, ?_⟩
        all_goals try simp (disch := omega) only [upd_e, gI_pI, gL_pL, gI_pL, gL_pI, qn, qe, not_true_eq_false, not_false_eq_true, true_and, and_true, false_and, and_false, and_self, Nat.add_right_cancel_iff, ↓reduceIte]
        all_goals first | assumption | rfl | exact d13 _ (by assumption) | exact d14 _ (by assumption) | exact d15 _ (by assumption) (by assumption) | (rw [Nat.add_comm]; done) | skip
        · intro h3
          obtain ⟨⟨a', s1, s2, s3, s4⟩, s5⟩ := hs h3
          refine ⟨⟨a', ?_, s2, s3, fun o ho hob => ?_⟩, fun hq => ?_⟩
          · simp (disch := omega) only [upd_e, gI_pI, gL_pL, gI_pL, gL_pI, qn, qe, not_true_eq_false, not_false_eq_true, true_and, and_true, false_and, and_false, and_self, Nat.add_right_cancel_iff, ↓reduceIte]; exact s1
          · simp (disch := omega) only [upd_e, gI_pI, gL_pL, gI_pL, gL_pI, qn, qe, not_true_eq_false, not_false_eq_true, true_and, and_true, false_and, and_false, and_self, Nat.add_right_cancel_iff, ↓reduceIte]; exact s4 o ho hob
          · first | exact s5 hq | (simp (disch := omega) only [upd_e, gI_pI, gL_pL, gI_pL, gL_pI, qn, qe, not_true_eq_false, not_false_eq_true, true_and, and_true, false_and, and_false, and_self, Nat.add_right_cancel_iff, ↓reduceIte]; exact s5 hq)
      · rw [bv_ne hko, bv_ne hkb]
        exact (j4 k hk).cg (by simp (disch := omega) only [upd_e, qn, ↓reduceIte]) (fun w hw => by simp (disch := omega) only [upd_e, qn, ↓reduceIte]) hn (fun z => z) (Or.inr rfl) hk
  · rw [hNB] at hi ⊢
    have hx : ∀ a c j, (a ^^^ 2 ^ c).testBit j = true ↔ ((a.testBit j = true ∧ ¬ c = j) ∨ (a.testBit j = false ∧ c = j)) := fun a c j => by
      rw [Nat.testBit_xor, Nat.testBit_two_pow]
      by_cases hcj : c = j
      · rw [decide_eq_true hcj]; cases a.testBit j <;> simp [hcj]
      · rw [decide_eq_false hcj]; cases a.testBit j <;> simp [hcj]
    have near : ∀ a, a < n → ∀ c, (NB x a).testBit c = true → c < n ∧ ¬ c = a ∧ (NB x c).testBit a = true := fun a ha c hc => j5 a ha c hc
    have far : ∀ a c, a < n → c < n → (NB x a).testBit c = false → (NB x c).testBit a = false := fun a c ha hc hf => by
      cases hz : (NB x c).testBit a with
      | false => rfl
      | true => rw [(near c hc a hz).2.2] at hf; cases hf
    by_cases hko : k = o
    · subst hko
      rw [if_pos rfl] at hi
      rcases (hx _ _ _).mp hi with ⟨q1, q2⟩ | ⟨q1, q2⟩
      · obtain ⟨r1, r2, r3⟩ := near k hk i q1
        refine ⟨r1, r2, ?_⟩
        rw [if_neg r2, if_neg (fun z => q2 z.symm)]; exact r3
      · subst q2
        refine ⟨hb, hbo, ?_⟩
        rw [if_neg hbo, if_pos rfl]
        exact (hx _ _ _).mpr (Or.inr ⟨far k b hk hb q1, rfl⟩)
    · by_cases hkb : k = b
      · subst hkb
        rw [if_neg hko, if_pos rfl] at hi
        rcases (hx _ _ _).mp hi with ⟨q1, q2⟩ | ⟨q1, q2⟩
        · obtain ⟨r1, r2, r3⟩ := near k hk i q1
          refine ⟨r1, r2, ?_⟩
          rw [if_neg (fun z => q2 z.symm), if_neg r2]; exact r3
        · subst q2
          refine ⟨ho, fun z => hbo z.symm, ?_⟩
          rw [if_pos rfl]
          exact (hx _ _ _).mpr (Or.inr ⟨far k o hk ho q1, rfl⟩)
      · rw [if_neg hko, if_neg hkb] at hi
        obtain ⟨r1, r2, r3⟩ := near k hk i hi
        refine ⟨r1, r2, ?_⟩
        by_cases hio : i = o
        · subst hio
          rw [if_pos rfl]
          exact (hx _ _ _).mpr (Or.inl ⟨r3, fun z => hkb z.symm⟩)
        · by_cases hib : i = b
          · subst hib
            rw [if_neg hio, if_pos rfl]
            exact (hx _ _ _).mpr (Or.inl ⟨r3, fun z => hko z.symm⟩)
          · rw [if_neg hio, if_neg hib]; exact r3
/-- near or far, on both sides -/
theorem s_near {b o : Nat} {N : Bool} (h : WR n t cm wl wm q 99 x f) (hb : b < n) (ho : o < n) (hbo : ¬ b = o) (hN : ¬ (NB x b).testBit o = N) : ∃ x' f', sX5_switchNear x (nI b) (nI o) = some x' ∧ sX7_nears (sr m f) (nI b) (nI o) (nI N.toNat) = some (sr m f') ∧ WR n t cm wl wm q 99 x' f' ∧ x'.2 = x.2 := by
  have hn := h.n8
  have hxb := h.nb hb
  have hxo := h.nb ho
  have hfb := h.fb hb
  have hfo := h.fb ho
  have hsym := h.sym hb ho
  refine ⟨_, _, ?_, ?_, r_near h hb ho hbo, rfl⟩
  · unfold sX5_switchNear
    simp (disch := omega) only [zl, zm, nI_add, pk_mul, inb_t, ix_n, gd_tt, bd_e, nm_v, ite_not, ↓reduceIte, le_t, le_f, lt_t, lt_f, eq_t, eq_f, mone_f, mone_f2, sh1, hxb.1, gI_pI, gL_pL, gI_pL, gL_pI, qe, qn, not_true_eq_false, not_false_eq_true, true_and, and_true, false_and, and_false, and_self, Nat.add_right_cancel_iff, hxo.1, n_xor]
  · have hor : ∀ a c, a.testBit c = false → a ||| 2 ^ c = a ^^^ 2 ^ c := fun a c hz => Nat.eq_of_testBit_eq fun i => by
      rw [Nat.testBit_or, Nat.testBit_xor, Nat.testBit_two_pow]
      by_cases hci : c = i
      · subst hci; rw [hz]; simp
      · rw [decide_eq_false hci]; simp
    have hand : ∀ a c, a < 256 → a.testBit c = true → a &&& (2 ^ c ^^^ 255) = a ^^^ 2 ^ c := fun a c ha hz => Nat.eq_of_testBit_eq fun i => by
      rw [Nat.testBit_and, Nat.testBit_xor, Nat.testBit_xor, b255, Nat.testBit_two_pow]
      by_cases h8 : i < 8
      · rw [decide_eq_true h8]
        by_cases hci : c = i
        · subst hci; rw [hz]; simp
        · rw [decide_eq_false hci]; simp
      · have h9 : a.testBit i = false := Nat.testBit_lt_two_pow (Nat.lt_of_lt_of_le ha (Nat.pow_le_pow_right (n := 2) (by decide) (by omega : 8 ≤ i)))
        by_cases hci : c = i
        · subst hci; rw [h9] at hz; cases hz
        · rw [h9, decide_eq_false hci]; simp
    unfold sX7_nears sX7_nears_b51
    cases N with
    | true =>
      have h1 : (NB x b).testBit o = false := by cases hz : (NB x b).testBit o <;> simp_all
      have h2 : (NB x o).testBit b = false := by rw [← hsym]; exact h1
      rw [← hor _ _ h1, ← hor _ _ h2]
      simp (disch := omega) only [zl, zm, nI_add, pk_mul, inb_t, ix_n, gd_tt, bd_e, nm_v, ite_not, ↓reduceIte, le_t, le_f, lt_t, lt_f, eq_t, eq_f, mone_f, mone_f2, sh1, Bool.toNat_true, sr_row, hfb.1, hfo.1, sr_pI, upd_e, qn, qe]
      rw [n_or, n_or]
    | false =>
      have h1 : (NB x b).testBit o = true := by cases hz : (NB x b).testBit o <;> simp_all
      have h2 : (NB x o).testBit b = true := by rw [← hsym]; exact h1
      rw [← hand _ _ hfb.2 h1, ← hand _ _ hfo.2 h2, ← n_not hfb.2, ← n_not hfo.2]
      simp (disch := omega) only [zl, zm, nI_add, pk_mul, inb_t, ix_n, gd_tt, bd_e, nm_v, ite_not, ↓reduceIte, le_t, le_f, lt_t, lt_f, eq_t, eq_f, mone_f, mone_f2, sh1, Bool.toNat_false, sr_row, hfb.1, hfo.1, sr_pI, upd_e, qn, qe]
end
