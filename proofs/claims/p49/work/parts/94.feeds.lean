/-! the law feeds its text -/
section
variable {g : GX} {ξ : XI} {a b : Nat} {T : va_W} {pc : Nat} {lo : List (Nat × Value)} {rest : List Value} {own : String} {cc : ByteArray} {nL FR LO RC RS : Nat}
theorem F_drop {x y c : Nat × va_E} {st : List Value} (k : L g a b (x :: y :: T) pc lo st) : L g a b (x :: y :: c :: T) pc lo st :=
  L_perm ((List.Perm.cons x (List.Perm.swap c y T)).trans (List.Perm.swap c x (y :: T))) (L_tail k)
theorem F_in {x y c : Nat × va_E} {st : List Value} (k : L g a b (x :: y :: c :: T) pc lo st) : L g a b (c :: x :: y :: T) pc lo st :=
  L_perm ((List.Perm.swap x c (y :: T)).trans (List.Perm.cons x (List.Perm.swap y c T))) k
theorem F_chr (X : CL g own cc nL FR LO RC RS) (E : XE g ξ) {index z z2 : Nat} {f2 : Nat → Int32} {t : List Int32} {i c : Int32} (ht : t.length ≤ 1300 ∧ ∀ i, i < t.length → f2 i = t.getD i 0) (hi : inb i t.length = true) (hc0 : c = t.getD (ix i) 0) (hc1 : inb c 128 = true) (hw : Cond.methodLink own index yJ0_charAt_5068e ∈ WG) (hR : (4 ≤ FR ∧ 100 ≤ LO) ∧ (a ≤ RC ∧ b ≤ RS)) (hc : (rest.map fun v => v.category).sum ≤ 8) (hd : decode cc pc = .ok (.invokevirtual index, 3)) (kk : L g a b ((z, .inr (12, [.ref z2, .int 0, .int 0, .int 0])) :: (z2, .inl ((gκ g).2.1 2, t.length, .inl f2)) :: T) (pc + 3) lo (.int c :: rest)) : L g a b ((z, .inr (12, [.ref z2, .int 0, .int 0, .int 0])) :: (z2, .inl ((gκ g).2.1 2, t.length, .inl f2)) :: T) pc lo (.int i :: .ref z :: rest) := by
  have hlt := inb_lt hi
  obtain ⟨k, hk, rfl⟩ : ∃ k, k < t.length ∧ i = nI k := by
    obtain ⟨k, h1, h2⟩ := vp_in_of (inb_vp hi) (by omega)
    exact ⟨k, h1, h2⟩
  obtain ⟨c9, hc9, rfl⟩ : ∃ k, k < 128 ∧ c = nI k := by
    obtain ⟨k, h1, h2⟩ := vp_in_of (inb_vp hc1) (by decide)
    exact ⟨k, h1, h2⟩
  rw [ix_n (by omega)] at hc0
  refine L_cV X E (q := vcl 12) (As := [.int (nI k)]) (rest := rest) (cm_J0_charAt_5068e 0 rfl 1 rfl ht.1 hk hc9 (by rw [ht.2 k hk]; exact hc0.symm)) cal_J0_charAt_5068e hw wI_J0_charAt_5068e wS_J0_charAt_5068e 0 rfl rfl ⟨⟨by omega, by omega⟩, hR.2⟩ rfl rfl hc hd (fun rv T hT => ?_)
  obtain ⟨rfl, hT⟩ := hT
  rw [hT]
  exact kk
end
def sL_feeds_b20 (fuel : Nat) (k4 : TT → Nat → Int32 → Int32 → Option (TT × Int32)) (t : List Int32) (T : TT) (u : Nat) (a3 : Int32) (a5 : Int32) (f9 : Nat → Int32) : Option (TT × Int32) := match fuel with
  | 0 => none
  | m + 1 =>
  if (20 : Int32) ≤ a5 then
  gd (inb (0 : Int32) 5) (gd (inb (1 : Int32) 5) (gd (inb (2 : Int32) 5) (gd (inb (3 : Int32) 5) (gd (inb (4 : Int32) 5) (bd (sT_X6_feed T (f9 (ix (0 : Int32))) (f9 (ix (1 : Int32))) (f9 (ix (2 : Int32))) (f9 (ix (3 : Int32))) (f9 (ix (4 : Int32)))) fun q14 =>
  nm (a3 + (20 : Int32)) fun v15 =>
  k4 q14.1 u q14.2 v15)))))
  else
  gd (inb (a5 / (4 : Int32)) 5) (if (nI t.length) ≤ (a3 + a5) then
  nm (((f9 (ix (a5 / (4 : Int32)))) <<< ((8 : Int32) &&& (31 : Int32))) ||| (32 : Int32)) fun v18 =>
  gd (inb (a5 / (4 : Int32)) 5) (nm (upd f9 (ix (a5 / (4 : Int32))) v18) fun f20 =>
  nm (a5 + (1 : Int32)) fun v21 =>
  sL_feeds_b20 m k4 t T u a3 v21 f20)
  else
  gd (inb (a3 + a5) t.length) (nm (t.getD (ix (a3 + a5)) 0) fun v23 =>
  gd (inb v23 128) (nm (((f9 (ix (a5 / (4 : Int32)))) <<< ((8 : Int32) &&& (31 : Int32))) ||| v23) fun v25 =>
  gd (inb (a5 / (4 : Int32)) 5) (nm (upd f9 (ix (a5 / (4 : Int32))) v25) fun f27 =>
  nm (a5 + (1 : Int32)) fun v28 =>
  sL_feeds_b20 m k4 t T u a3 v28 f27))))
def sL_feeds_b4 (fuel : Nat) (t : List Int32) (T : TT) (u : Nat) (a2 : Int32) (a3 : Int32) : Option (TT × Int32) := match fuel with
  | 0 => none
  | m + 1 =>
  if (nI t.length) ≤ a3 then
  if ¬ (if nI t.length = 0 then (1 : Int32) else (0 : Int32)) = 0 then
  some (T, (1 : Int32))
  else
  if a2 < (nI t.length) then
  some (T, (0 : Int32))
  else
  bd (sT_X6_truncate T (nI t.length)) fun q4 =>
  if ¬ q4.2 = (nI t.length) then
  some (q4.1, (0 : Int32))
  else
  some (q4.1, (1 : Int32))
  else
  gd (ltN u 40) (sL_feeds_b20 FU (fun T' u' a2' a3' => sL_feeds_b4 m t T' u' a2' a3') t T (u + 1) a3 (0 : Int32) (fun _ => 0))
def sL_feeds (t : List Int32) (T : TT) : Option (TT × Int32) :=
  sL_feeds_b4 FU t T 0 (0 : Int32) (0 : Int32)
set_option maxRecDepth 20000 in
theorem gL_feeds_b20 {g : GX} {ξ : XI} {B : va_W} {t : List Int32} {z z2 : Nat} {f2 : Nat → Int32} {res : TT × Int32} {k4 : TT → Nat → Int32 → Int32 → Option (TT × Int32)} (X : CL g RL cL_feeds 6 7 120 40 640) (E : XE g ξ) (ht : t.length ≤ 1300 ∧ ∀ i, i < t.length → f2 i = t.getD i 0) (hf : FinMi g cL_feeds .boolean (fun rv T9 => rv = some (.int res.2) ∧ T9 = (z, .inr (12, [.ref z2, .int 0, .int 0, .int 0])) :: (z2, .inl ((gκ g).2.1 2, t.length, .inl f2)) :: (B ++ wsO (gκ g) res.1)) 40 640) (hk4 : ∀ (T' : TT) (u' : Nat) (a2' : Int32) (a3' : Int32) (hu' : u' ≤ 40), k4 T' u' a2' a3' = some res → L g (1 * u') (16 * u') ((z, .inr (12, [.ref z2, .int 0, .int 0, .int 0])) :: (z2, .inl ((gκ g).2.1 2, t.length, .inl f2)) :: (B ++ wsO (gκ g) T')) 4 [(0, .ref (xE (gκ g) 8 0 0)), (1, .ref z), (2, .int a2'), (3, .int a3')] []) : ∀ (m : Nat) (q9 : Nat) (T : TT) (u : Nat) (a3 : Int32) (a5 : Int32) (f9 : Nat → Int32) (hu : u ≤ 40) (h : sL_feeds_b20 m k4 t T u a3 a5 f9 = some res), L g (1 * u) (16 * u) ((z, .inr (12, [.ref z2, .int 0, .int 0, .int 0])) :: (z2, .inl ((gκ g).2.1 2, t.length, .inl f2)) :: (q9, .inl ((gκ g).2.1 1, 5, .inl f9)) :: (B ++ wsO (gκ g) T)) 20 [(0, .ref (xE (gκ g) 8 0 0)), (1, .ref z), (3, .int a3), (4, .ref q9), (5, .int a5)] [] := by
  intro m
  induction m with
  | zero => intro q9 T u a3 a5 f9 hu h; unfold sL_feeds_b20 at h; cases h
  | succ m ih =>
    intro q9 T u a3 a5 f9 hu h
    unfold sL_feeds_b20 at h
    refine L_iload X 4 dL_feeds_20 rfl ?_
    refine L_bipush X (v := (20 : Int32)) dL_feeds_22 (by decide) ?_
    refine L_icmp_ge X (tgt := 75) dL_feeds_24 (by decide) (fun c8 => ?_) (fun c8 => ?_)
    · have h := it_t c8 h
      refine L_aload_n X 0 dL_feeds_75 rfl rfl ?_
      refine L_aload X 3 dL_feeds_76 rfl ?_
      refine L_iconst X (v := (0 : Int32)) dL_feeds_78 (by decide) ?_
      obtain ⟨g9, h⟩ := gd_some h
      refine L_iald X 2 rfl g9 dL_feeds_79 ?_
      refine L_aload X 3 dL_feeds_80 rfl ?_
      refine L_iconst X (v := (1 : Int32)) dL_feeds_82 (by decide) ?_
      obtain ⟨g10, h⟩ := gd_some h
      refine L_iald X 2 rfl g10 dL_feeds_83 ?_
      refine L_aload X 3 dL_feeds_84 rfl ?_
      refine L_iconst X (v := (2 : Int32)) dL_feeds_86 (by decide) ?_
      obtain ⟨g11, h⟩ := gd_some h
      refine L_iald X 2 rfl g11 dL_feeds_87 ?_
      refine L_aload X 3 dL_feeds_88 rfl ?_
      refine L_iconst X (v := (3 : Int32)) dL_feeds_90 (by decide) ?_
      obtain ⟨g12, h⟩ := gd_some h
      refine L_iald X 2 rfl g12 dL_feeds_91 ?_
      refine L_aload X 3 dL_feeds_92 rfl ?_
      refine L_iconst X (v := (4 : Int32)) dL_feeds_94 (by decide) ?_
      obtain ⟨g13, h⟩ := gd_some h
      refine L_iald X 2 rfl g13 dL_feeds_95 ?_
      obtain ⟨q14, hq14, h⟩ := bd_some h
      refine L_cC X (B := ((z, .inr (12, [.ref z2, .int 0, .int 0, .int 0])) :: (z2, .inl ((gκ g).2.1 2, t.length, .inl f2)) :: (q9, .inl ((gκ g).2.1 1, 5, .inl f9)) :: B)) (Tl' := (z, .inr (12, [.ref z2, .int 0, .int 0, .int 0])) :: (z2, .inl ((gκ g).2.1 2, t.length, .inl f2)) :: (q9, .inl ((gκ g).2.1 1, 5, .inl f9)) :: (B ++ wsO (gκ g) q14.1)) rfl rfl (fun κ => gT_X6_feed (r := q14) hq14) cal_X6_feed wM_L_26 wI_X6_feed wS_X6_feed ⟨⟨(Nat.le_of_ble_eq_true rfl), (Nat.le_of_ble_eq_true rfl)⟩, by omega, by omega⟩ (As := [.int (f9 (ix (0 : Int32))), .int (f9 (ix (1 : Int32))), .int (f9 (ix (2 : Int32))), .int (f9 (ix (3 : Int32))), .int (f9 (ix (4 : Int32)))]) (rest := []) rfl rfl (Nat.le_of_ble_eq_true rfl) dL_feeds_96 rfl ?_
      refine L_istore_n X (lv' := [(2, .int q14.2), (0, .ref (xE (gκ g) 8 0 0)), (1, .ref z), (3, .int a3), (4, .ref q9), (5, .int a5)]) dL_feeds_99 rfl (by decide) rfl ?_
      obtain ⟨v15, ev15, h⟩ := nm_some h
      refine L_iinc X (v := v15) (lv' := [(3, .int v15), (2, .int q14.2), (0, .ref (xE (gκ g) 8 0 0)), (1, .ref z), (4, .ref q9), (5, .int a5)]) 3 dL_feeds_100 rfl (by rw [ev15]; rfl) (by decide) rfl ?_
      refine L_goto X (tgt := 4) dL_feeds_103 (by decide) ?_
      refine F_drop ?_
      refine L_sub [2, 3, 1, 0] rfl ?_
      exact hk4 q14.1 u q14.2 v15 (by omega) h
    · have h := it_f c8 h
      refine L_aload X 3 dL_feeds_27 rfl ?_
      refine L_iload X 4 dL_feeds_29 rfl ?_
      refine L_iconst X (v := (4 : Int32)) dL_feeds_31 (by decide) ?_
      refine L_idiv X dL_feeds_32 (by decide) ?_
      refine L_aload X 3 dL_feeds_33 rfl ?_
      refine L_iload X 4 dL_feeds_35 rfl ?_
      refine L_iconst X (v := (4 : Int32)) dL_feeds_37 (by decide) ?_
      refine L_idiv X dL_feeds_38 (by decide) ?_
      obtain ⟨g16, h⟩ := gd_some h
      refine L_iald X 2 rfl g16 dL_feeds_39 ?_
      refine L_bipush X (v := (8 : Int32)) dL_feeds_40 (by decide) ?_
      refine L_ishl X dL_feeds_42 ?_
      refine L_iload_n X 2 dL_feeds_43 rfl rfl ?_
      refine L_iload X 4 dL_feeds_44 rfl ?_
      refine L_iadd X dL_feeds_46 ?_
      refine L_aload_n X 1 dL_feeds_47 rfl rfl ?_
      refine L_cV X E (q := vcl 12) (As := []) (rest := [.int (a3 + a5), .int ((f9 (ix (a5 / (4 : Int32)))) <<< ((8 : Int32) &&& (31 : Int32))), .int (a5 / (4 : Int32)), .ref q9]) (cm_J0_length_8abf5 0 rfl 1 rfl) cal_J0_length_8abf5 wM_L_16 wI_J0_length_8abf5 wS_J0_length_8abf5 0 rfl rfl ⟨⟨(Nat.le_of_ble_eq_true rfl), (Nat.le_of_ble_eq_true rfl)⟩, by omega, by omega⟩ rfl rfl (Nat.le_of_ble_eq_true rfl) dL_feeds_48 (fun rv T9 hT9 => ?_)
      obtain ⟨rfl, hT9⟩ := hT9
      rw [hT9]
      refine L_icmp_ge X (tgt := 65) dL_feeds_51 (by decide) (fun c17 => ?_) (fun c17 => ?_)
      · have h := it_t c17 h
        refine L_bipush X (v := (32 : Int32)) dL_feeds_65 (by decide) ?_
        refine L_ior X dL_feeds_67 ?_
        obtain ⟨v18, ev18, h⟩ := nm_some h
        refine L_nmi ev18 ?_
        obtain ⟨g19, h⟩ := gd_some h
        obtain ⟨f20, ef20, h⟩ := nm_some h
        refine L_iast X (T' := (z, .inr (12, [.ref z2, .int 0, .int 0, .int 0])) :: (z2, .inl ((gκ g).2.1 2, t.length, .inl f2)) :: (q9, .inl ((gκ g).2.1 1, 5, .inl f20)) :: (B ++ wsO (gκ g) T)) 2 rfl g19 (by rw [ef20]; rfl) dL_feeds_68 ?_
        obtain ⟨v21, ev21, h⟩ := nm_some h
        refine L_iinc X (v := v21) (lv' := [(5, .int v21), (0, .ref (xE (gκ g) 8 0 0)), (1, .ref z), (3, .int a3), (4, .ref q9)]) 4 dL_feeds_69 rfl (by rw [ev21]; rfl) (by decide) rfl ?_
        refine L_goto X (tgt := 20) dL_feeds_72 (by decide) ?_
        refine L_sub [1, 2, 3, 4, 0] rfl ?_
        exact ih _ T u a3 v21 f20 (by omega) h
      · have h := it_f c17 h
        refine L_aload_n X 1 dL_feeds_54 rfl rfl ?_
        refine L_iload_n X 2 dL_feeds_55 rfl rfl ?_
        refine L_iload X 4 dL_feeds_56 rfl ?_
        refine L_iadd X dL_feeds_58 ?_
        obtain ⟨g22, h⟩ := gd_some h
        obtain ⟨v23, ev23, h⟩ := nm_some h
        obtain ⟨g24, h⟩ := gd_some h
        refine F_chr X E (rest := [.int ((f9 (ix (a5 / (4 : Int32)))) <<< ((8 : Int32) &&& (31 : Int32))), .int (a5 / (4 : Int32)), .ref q9]) ht g22 ev23 g24 wM_L_22 ⟨⟨(Nat.le_of_ble_eq_true rfl), (Nat.le_of_ble_eq_true rfl)⟩, by omega, by omega⟩ (Nat.le_of_ble_eq_true rfl) dL_feeds_59 ?_
        refine L_goto X (tgt := 67) dL_feeds_62 (by decide) ?_
        refine L_ior X dL_feeds_67 ?_
        obtain ⟨v25, ev25, h⟩ := nm_some h
        refine L_nmi ev25 ?_
        obtain ⟨g26, h⟩ := gd_some h
        obtain ⟨f27, ef27, h⟩ := nm_some h
        refine L_iast X (T' := (z, .inr (12, [.ref z2, .int 0, .int 0, .int 0])) :: (z2, .inl ((gκ g).2.1 2, t.length, .inl f2)) :: (q9, .inl ((gκ g).2.1 1, 5, .inl f27)) :: (B ++ wsO (gκ g) T)) 2 rfl g26 (by rw [ef27]; rfl) dL_feeds_68 ?_
        obtain ⟨v28, ev28, h⟩ := nm_some h
        refine L_iinc X (v := v28) (lv' := [(5, .int v28), (0, .ref (xE (gκ g) 8 0 0)), (1, .ref z), (3, .int a3), (4, .ref q9)]) 4 dL_feeds_69 rfl (by rw [ev28]; rfl) (by decide) rfl ?_
        refine L_goto X (tgt := 20) dL_feeds_72 (by decide) ?_
        refine L_sub [1, 2, 3, 4, 0] rfl ?_
        exact ih _ T u a3 v28 f27 (by omega) h
set_option maxRecDepth 20000 in
theorem gL_feeds_b4 {g : GX} {ξ : XI} {B : va_W} {t : List Int32} {z z2 : Nat} {f2 : Nat → Int32} {res : TT × Int32}  (X : CL g RL cL_feeds 6 7 120 40 640) (E : XE g ξ) (ht : t.length ≤ 1300 ∧ ∀ i, i < t.length → f2 i = t.getD i 0) (hf : FinMi g cL_feeds .boolean (fun rv T9 => rv = some (.int res.2) ∧ T9 = (z, .inr (12, [.ref z2, .int 0, .int 0, .int 0])) :: (z2, .inl ((gκ g).2.1 2, t.length, .inl f2)) :: (B ++ wsO (gκ g) res.1)) 40 640)  : ∀ (m : Nat) (T : TT) (u : Nat) (a2 : Int32) (a3 : Int32) (hu : u ≤ 40) (h : sL_feeds_b4 m t T u a2 a3 = some res), L g (1 * u) (16 * u) ((z, .inr (12, [.ref z2, .int 0, .int 0, .int 0])) :: (z2, .inl ((gκ g).2.1 2, t.length, .inl f2)) :: (B ++ wsO (gκ g) T)) 4 [(0, .ref (xE (gκ g) 8 0 0)), (1, .ref z), (2, .int a2), (3, .int a3)] [] := by
  intro m
  induction m with
  | zero => intro T u a2 a3 hu h; unfold sL_feeds_b4 at h; cases h
  | succ m ih =>
    intro T u a2 a3 hu h
    unfold sL_feeds_b4 at h
    refine L_iload_n X 3 dL_feeds_4 rfl rfl ?_
    refine L_aload_n X 1 dL_feeds_5 rfl rfl ?_
    refine L_cV X E (q := vcl 12) (As := []) (rest := [.int a3]) (cm_J0_length_8abf5 0 rfl 1 rfl) cal_J0_length_8abf5 wM_L_16 wI_J0_length_8abf5 wS_J0_length_8abf5 0 rfl rfl ⟨⟨(Nat.le_of_ble_eq_true rfl), (Nat.le_of_ble_eq_true rfl)⟩, by omega, by omega⟩ rfl rfl (Nat.le_of_ble_eq_true rfl) dL_feeds_6 (fun rv T9 hT9 => ?_)
    obtain ⟨rfl, hT9⟩ := hT9
    rw [hT9]
    refine L_icmp_ge X (tgt := 106) dL_feeds_9 (by decide) (fun c1 => ?_) (fun c1 => ?_)
    · have h := it_t c1 h
      refine L_aload_n X 1 dL_feeds_106 rfl rfl ?_
      refine L_cV X E (q := vcl 12) (As := []) (rest := []) (cm_J0_isEmpty_aae02 0 rfl 1 rfl) cal_J0_isEmpty_aae02 wM_L_32 wI_J0_isEmpty_aae02 wS_J0_isEmpty_aae02 0 rfl rfl ⟨⟨(Nat.le_of_ble_eq_true rfl), (Nat.le_of_ble_eq_true rfl)⟩, by omega, by omega⟩ rfl rfl (Nat.le_of_ble_eq_true rfl) dL_feeds_107 (fun rv T9 hT9 => ?_)
      obtain ⟨rfl, hT9⟩ := hT9
      rw [hT9]
      refine L_if_ne X (tgt := 136) dL_feeds_110 (by decide) (fun c2 => ?_) (fun c2 => ?_)
      · have h := it_t c2 h
        refine L_iconst X (v := (1 : Int32)) dL_feeds_136 (by decide) ?_
        refine L_goto X (tgt := 141) dL_feeds_137 (by decide) ?_
        refine L_widen (a' := 40) (b' := 640) (by omega) (by omega) ?_
        obtain rfl := Option.some.inj h
        exact hf _ _ _ _ dL_feeds_141 (isb_n (by decide)) ⟨rfl, rfl⟩
      · have h := it_f (fun k => k c2) h
        refine L_iload_n X 2 dL_feeds_113 rfl rfl ?_
        refine L_aload_n X 1 dL_feeds_114 rfl rfl ?_
        refine L_cV X E (q := vcl 12) (As := []) (rest := [.int a2]) (cm_J0_length_8abf5 0 rfl 1 rfl) cal_J0_length_8abf5 wM_L_16 wI_J0_length_8abf5 wS_J0_length_8abf5 0 rfl rfl ⟨⟨(Nat.le_of_ble_eq_true rfl), (Nat.le_of_ble_eq_true rfl)⟩, by omega, by omega⟩ rfl rfl (Nat.le_of_ble_eq_true rfl) dL_feeds_115 (fun rv T9 hT9 => ?_)
        obtain ⟨rfl, hT9⟩ := hT9
        rw [hT9]
        refine L_icmp_lt X (tgt := 140) dL_feeds_118 (by decide) (fun c3 => ?_) (fun c3 => ?_)
        · have h := it_t c3 h
          refine L_iconst X (v := (0 : Int32)) dL_feeds_140 (by decide) ?_
          refine L_widen (a' := 40) (b' := 640) (by omega) (by omega) ?_
          obtain rfl := Option.some.inj h
          exact hf _ _ _ _ dL_feeds_141 (isb_n (by decide)) ⟨rfl, rfl⟩
        · have h := it_f c3 h
          refine L_aload_n X 0 dL_feeds_121 rfl rfl ?_
          refine L_aload_n X 1 dL_feeds_122 rfl rfl ?_
          refine L_cV X E (q := vcl 12) (As := []) (rest := [.ref (xE (gκ g) 8 0 0)]) (cm_J0_length_8abf5 0 rfl 1 rfl) cal_J0_length_8abf5 wM_L_16 wI_J0_length_8abf5 wS_J0_length_8abf5 0 rfl rfl ⟨⟨(Nat.le_of_ble_eq_true rfl), (Nat.le_of_ble_eq_true rfl)⟩, by omega, by omega⟩ rfl rfl (Nat.le_of_ble_eq_true rfl) dL_feeds_123 (fun rv T9 hT9 => ?_)
          obtain ⟨rfl, hT9⟩ := hT9
          rw [hT9]
          obtain ⟨q4, hq4, h⟩ := bd_some h
          refine L_cC X (B := ((z, .inr (12, [.ref z2, .int 0, .int 0, .int 0])) :: (z2, .inl ((gκ g).2.1 2, t.length, .inl f2)) :: B)) (Tl' := (z, .inr (12, [.ref z2, .int 0, .int 0, .int 0])) :: (z2, .inl ((gκ g).2.1 2, t.length, .inl f2)) :: (B ++ wsO (gκ g) q4.1)) rfl rfl (fun κ => gT_X6_truncate (r := q4) hq4) cal_X6_truncate wM_L_36 wI_X6_truncate wS_X6_truncate ⟨⟨(Nat.le_of_ble_eq_true rfl), (Nat.le_of_ble_eq_true rfl)⟩, by omega, by omega⟩ (As := [.int (nI t.length)]) (rest := []) rfl rfl (Nat.le_of_ble_eq_true rfl) dL_feeds_126 rfl ?_
          refine L_aload_n X 1 dL_feeds_129 rfl rfl ?_
          refine L_cV X E (q := vcl 12) (As := []) (rest := [.int q4.2]) (cm_J0_length_8abf5 0 rfl 1 rfl) cal_J0_length_8abf5 wM_L_16 wI_J0_length_8abf5 wS_J0_length_8abf5 0 rfl rfl ⟨⟨(Nat.le_of_ble_eq_true rfl), (Nat.le_of_ble_eq_true rfl)⟩, by omega, by omega⟩ rfl rfl (Nat.le_of_ble_eq_true rfl) dL_feeds_130 (fun rv T9 hT9 => ?_)
          obtain ⟨rfl, hT9⟩ := hT9
          rw [hT9]
          refine L_icmp_ne X (tgt := 140) dL_feeds_133 (by decide) (fun c5 => ?_) (fun c5 => ?_)
          · have h := it_t c5 h
            refine L_iconst X (v := (0 : Int32)) dL_feeds_140 (by decide) ?_
            refine L_widen (a' := 40) (b' := 640) (by omega) (by omega) ?_
            obtain rfl := Option.some.inj h
            exact hf _ _ _ _ dL_feeds_141 (isb_n (by decide)) ⟨rfl, rfl⟩
          · have h := it_f (fun k => k c5) h
            refine L_iconst X (v := (1 : Int32)) dL_feeds_136 (by decide) ?_
            refine L_goto X (tgt := 141) dL_feeds_137 (by decide) ?_
            refine L_widen (a' := 40) (b' := 640) (by omega) (by omega) ?_
            obtain rfl := Option.some.inj h
            exact hf _ _ _ _ dL_feeds_141 (isb_n (by decide)) ⟨rfl, rfl⟩
    · have h := it_f c1 h
      refine L_iconst X (v := (5 : Int32)) dL_feeds_12 (by decide) ?_
      obtain ⟨g6, h⟩ := gd_some h
      have g6 := of_decide_eq_true g6
      refine L_newa X (atype := .int) (ty := .int) (t := 0) (N := 5) (a0 := (5, .inl (fun _ => 0))) rfl wA_144 rfl (fun _ => rfl) (by decide) (by decide) (Nat.le_of_ble_eq_true rfl) (by omega) (by omega) dL_feeds_13 (fun q7 => ?_)
      refine L_widen (a' := 1 * (u + 1)) (b' := 16 * (u + 1)) (by omega) (by omega) ?_
      refine F_in ?_
      refine L_astore X (lv' := [(4, .ref q7), (0, .ref (xE (gκ g) 8 0 0)), (1, .ref z), (2, .int a2), (3, .int a3)]) dL_feeds_15 (by decide) rfl ?_
      refine L_iconst X (v := (0 : Int32)) dL_feeds_17 (by decide) ?_
      refine L_istore X (lv' := [(5, .int (0 : Int32)), (4, .ref q7), (0, .ref (xE (gκ g) 8 0 0)), (1, .ref z), (2, .int a2), (3, .int a3)]) dL_feeds_18 (by decide) rfl ?_
      refine L_sub [2, 3, 5, 1, 0] rfl ?_
      exact gL_feeds_b20 X E ht hf (fun y0 y1 y2 y3 y4 h => ih y0 y1 y2 y3 y4 h) FU _ T (u + 1) a3 (0 : Int32) (fun _ => 0) (by omega) h
set_option maxRecDepth 20000 in
theorem cw_L_feeds {l : Launch} {κ : KX} {ξ : XI} {B : va_W} {t : List Int32} {z z2 : Nat} {f2 : Nat → Int32} {T : TT} {res : TT × Int32} (ht : t.length ≤ 1300 ∧ ∀ i, i < t.length → f2 i = t.getD i 0) (h : sL_feeds t T = some res) : CtM l κ ξ yL_feeds cL_feeds 6 (some .boolean) 7 120 40 640 [.ref (xE κ 8 0 0), .ref z] ((z, .inr (12, [.ref z2, .int 0, .int 0, .int 0])) :: (z2, .inl (κ.2.1 2, t.length, .inl f2)) :: (B ++ wsO κ T)) (fun rv T9 => rv = some (.int res.2) ∧ T9 = (z, .inr (12, [.ref z2, .int 0, .int 0, .int 0])) :: (z2, .inl (κ.2.1 2, t.length, .inl f2)) :: (B ++ wsO κ res.1)) := by
  refine CtM_i RL rfl (by decide +kernel) (Nat.le_of_ble_eq_true rfl) (fun g hgl hgκ X E hf => ?_)
  subst hgl; subst hgκ
  unfold sL_feeds at h
  refine L_iconst X (v := (0 : Int32)) dL_feeds_0 (by decide) ?_
  refine L_istore_n X (lv' := [(2, .int (0 : Int32)), (0, .ref (xE (gκ g) 8 0 0)), (1, .ref z)]) dL_feeds_1 rfl (by decide) rfl ?_
  refine L_iconst X (v := (0 : Int32)) dL_feeds_2 (by decide) ?_
  refine L_istore_n X (lv' := [(3, .int (0 : Int32)), (2, .int (0 : Int32)), (0, .ref (xE (gκ g) 8 0 0)), (1, .ref z)]) dL_feeds_3 rfl (by decide) rfl ?_
  refine L_sub [2, 3, 1, 0] rfl ?_
  exact gL_feeds_b4 X E ht hf FU T 0 (0 : Int32) (0 : Int32) (by omega) h
