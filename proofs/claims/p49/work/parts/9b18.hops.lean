/-! stage B: hops go both ways -/
section
variable {n k j i : Nat} {N : Nat → Nat}
/-- one step away, or none -/
def adN (N : Nat → Nat) (a b : Nat) : Prop := b = a ∨ (N a).testBit b = true
theorem it_right (hN : ∀ a, a < n → ∀ b, (N a).testBit b = true → b < n) {a0 : Nat} (h0 : ∀ b, a0.testBit b = true → b < n) : ∀ i, (∀ b, (itN N n a0 i).testBit b = true → b < n) ∧ ∀ b, (itN N n a0 (i + 1)).testBit b = true ↔ ∃ m, (itN N n a0 i).testBit m = true ∧ adN N m b := by
  intro i
  have hb : ∀ b, (itN N n a0 i).testBit b = true → b < n := by
    induction i with
    | zero => exact h0
    | succ i ih =>
      intro b hb
      have h1 : (wnN N (itN N n a0 i) n).testBit b = true := hb
      rcases (wnN_bit N _ n b).mp h1 with h | ⟨m, hm, -, h⟩
      · exact ih b h
      · exact hN m hm b h
  refine ⟨hb, fun b => ?_⟩
  show (wnN N (itN N n a0 i) n).testBit b = true ↔ _
  rw [wnN_bit]
  constructor
  · rintro (h | ⟨m, hm, h1, h2⟩)
    · exact ⟨b, h, Or.inl rfl⟩
    · exact ⟨m, h1, Or.inr h2⟩
  · rintro ⟨m, h1, rfl | h2⟩
    · exact Or.inl h1
    · exact Or.inr ⟨m, hb m h1, h1, h2⟩
theorem two_bit (k b : Nat) : (2 ^ k).testBit b = true ↔ b = k := by
  rw [Nat.testBit_two_pow]
  exact ⟨fun h => (of_decide_eq_true h).symm, fun h => decide_eq_true h.symm⟩
/-- from the other end -/
theorem it_left (hN : ∀ a, a < n → ∀ b, (N a).testBit b = true → b < n) : ∀ i k b, k < n → ((itN N n (2 ^ k) (i + 1)).testBit b = true ↔ ∃ m, m < n ∧ adN N k m ∧ (itN N n (2 ^ m) i).testBit b = true) := by
  intro i
  induction i with
  | zero =>
    intro k b hk
    rw [((it_right hN (a0 := 2 ^ k) (fun b hb => by rw [(two_bit k b).mp hb]; exact hk)) 0).2 b]
    constructor
    · rintro ⟨m, h1, h2⟩
      have h1' := (two_bit k m).mp h1
      subst h1'
      refine ⟨b, ?_, h2, (two_bit b b).mpr rfl⟩
      rcases h2 with rfl | h2
      · exact hk
      · exact hN _ hk b h2
    · rintro ⟨m, h0, h1, h2⟩
      have h2' := (two_bit m b).mp h2
      subst h2'
      exact ⟨k, (two_bit k k).mpr rfl, h1⟩
  | succ i ih =>
    intro k b hk
    rw [((it_right hN (a0 := 2 ^ k) (fun b hb => by rw [(two_bit k b).mp hb]; exact hk)) (i + 1)).2 b]
    constructor
    · rintro ⟨m, h1, h2⟩
      obtain ⟨m2, g0, g1, g2⟩ := (ih k m hk).mp h1
      refine ⟨m2, g0, g1, ?_⟩
      exact (((it_right hN (a0 := 2 ^ m2) (fun b hb => by rw [(two_bit m2 b).mp hb]; exact g0)) i).2 b).mpr ⟨m, g2, h2⟩
    · rintro ⟨m, h0, h1, h2⟩
      obtain ⟨m2, g1, g2⟩ := (((it_right hN (a0 := 2 ^ m) (fun b hb => by rw [(two_bit m b).mp hb]; exact h0)) i).2 b).mp h2
      exact ⟨m2, (ih k m2 hk).mpr ⟨m, h0, h1, g1⟩, g2⟩
theorem it_sym (hN : ∀ a, a < n → ∀ b, (N a).testBit b = true → b < n) (hS : ∀ a b, a < n → b < n → (N a).testBit b = (N b).testBit a) : ∀ i k j, k < n → j < n → (itN N n (2 ^ k) i).testBit j = (itN N n (2 ^ j) i).testBit k := by
  have hA : ∀ a b, a < n → b < n → (adN N a b ↔ adN N b a) := fun a b ha hb => by
    unfold adN
    rw [hS a b ha hb]
    exact ⟨fun h => h.imp Eq.symm id, fun h => h.imp Eq.symm id⟩
  intro i
  induction i with
  | zero =>
    intro k j hk hj
    show (2 ^ k).testBit j = (2 ^ j).testBit k
    rw [Nat.testBit_two_pow, Nat.testBit_two_pow]
    exact decide_eq_decide.mpr eq_comm
  | succ i ih =>
    intro k j hk hj
    have h1 := ((it_right hN (a0 := 2 ^ k) (fun b hb => by rw [(two_bit k b).mp hb]; exact hk)) i)
    refine Bool.eq_iff_iff.mpr ?_
    rw [h1.2 j, it_left hN i j k hj]
    constructor
    · rintro ⟨m, g1, g2⟩
      have hm := h1.1 m g1
      exact ⟨m, hm, (hA m j hm hj).mp g2, by rw [← ih k m hk hm]; exact g1⟩
    · rintro ⟨m, hm, g1, g2⟩
      exact ⟨m, by rw [ih k m hk hm]; exact g2, (hA m j hm hj).mpr g1⟩
theorem hp_it (d : Nat) : ∀ a i, hpV N n j d (itN N n a i) i = match d with | 0 => mone | d + 1 => if (itN N n a i).testBit j = true then nI i else hpV N n j d (itN N n a (i + 1)) (i + 1) := by
  intro a i
  cases d <;> rfl
theorem hp_sym (hN : ∀ a, a < n → ∀ b, (N a).testBit b = true → b < n) (hS : ∀ a b, a < n → b < n → (N a).testBit b = (N b).testBit a) (hk : k < n) (hj : j < n) : hpV N n j 8 (2 ^ k) 0 = hpV N n k 8 (2 ^ j) 0 := by
  have key : ∀ d i, hpV N n j d (itN N n (2 ^ k) i) i = hpV N n k d (itN N n (2 ^ j) i) i := by
    intro d
    induction d with
    | zero => intro i; rfl
    | succ d ih =>
      intro i
      rw [hp_it (d + 1), hp_it (d + 1)]
      dsimp only
      rw [it_sym hN hS i k j hk hj, ih (i + 1)]
  exact key 8 0
theorem hp_self (hk : k < n) : hpV N n k 8 (2 ^ k) 0 = nI 0 := if_pos ((two_bit k k).mpr rfl)
end
