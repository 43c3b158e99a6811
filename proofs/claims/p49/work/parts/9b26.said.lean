/-! stage B: the statements of a text that is known -/
def dN (v : Nat) : List Nat := if v < 10 then [48 + v] else if v < 100 then [48 + v / 10, 48 + v % 10] else [48 + v / 100, 48 + v / 10 % 10, 48 + v % 10]
def wBea : List Nat := [98, 101, 97, 99, 111, 110]
def wEve : List Nat := [101, 118, 101, 114, 121]
def wAtw : List Nat := [97, 116]
def wLis : List Nat := [108, 105, 115, 116, 101, 110, 115]
def wSen : List Nat := [115, 101, 110, 100, 115]
def wEne : List Nat := [101, 110, 101, 114, 103, 121]
def wCos : List Nat := [99, 111, 115, 116, 115]
def wSee : List Nat := [115, 101, 101, 100]
def wTri : List Nat := [116, 114, 105, 101, 115]
def wMem : List Nat := [109, 101, 109, 111, 114, 121]
def wNea : List Nat := [110, 101, 97, 114]
def PTX : List (List Nat × Nat) → List Nat → List Nat
  | [], l => [59] ++ l
  | (w, v) :: r, l => [32] ++ (w ++ ([32] ++ (dN v ++ PTX r l)))
def PTY : List (List Nat × Nat) → List Nat → List Nat
  | [], l => [59] ++ l
  | (w, v) :: r, l => w ++ ([32] ++ (dN v ++ PTX r l))
def PTS : List (List Nat × Nat) → List Nat
  | [] => []
  | _ :: _ => [32]
def opP (w : List Nat) (o : Option Nat) : List (List Nat × Nat) := match o with
  | none => []
  | some v => [(w, v)]
def PTOK (r : List (List Nat × Nat)) : Prop := ∀ q, q ∈ r → okL q.1 ∧ q.2 < 1000
theorem dN_ok : ∀ v, v < 1000 → (1 ≤ (dN v).length ∧ (dN v).length ≤ 3) ∧ (dN v).all lxD = true ∧ dvN (dN v) = v := by decide +kernel
section
variable {B : Nat → Nat} {len c i n p k v : Nat} {t t' x d : St} {l l' b s : List Nat} {r : List (List Nat × Nat)}
theorem PTX_S (r : List (List Nat × Nat)) (l : List Nat) : PTX r l = PTS r ++ PTY r l := by
  cases r with
  | nil => rfl
  | cons q r => rfl
theorem hd_L (hb : okL b) (l : List Nat) : hdN lxS (b ++ l) = true := by
  obtain ⟨h1, h2, h3⟩ := hb
  cases b with
  | nil => exact absurd h1 (by decide)
  | cons a b =>
    have ha := h3 a (List.mem_cons_self ..)
    show (!lxS a) = true
    have : lxS a = false := by
      unfold lxS
      rw [decide_eq_false (by omega), decide_eq_false (by omega)]
      rfl
    rw [this]; rfl
theorem hd_D (hv : v < 1000) (l : List Nat) : hdN lxS (dN v ++ l) = true := by
  obtain ⟨⟨h1, h2⟩, h3, h4⟩ := dN_ok v hv
  cases hd : dN v with
  | nil => rw [hd] at h1; exact absurd h1 (by decide)
  | cons a b =>
    rw [hd] at h3
    have ha := lxD_of (List.all_eq_true.mp h3 a (List.mem_cons_self ..))
    show (!lxS a) = true
    have : lxS a = false := by
      unfold lxS
      rw [decide_eq_false (by omega), decide_eq_false (by omega)]
      rfl
    rw [this]; rfl
theorem all_L (hb : okL b) : b.all lxL = true := List.all_eq_true.mpr fun a ha => by
  have := hb.2.2 a ha
  unfold lxL
  rw [decide_eq_true this.1, decide_eq_true this.2]; rfl
theorem PTY_hd (hr : PTOK r) : hdN lxS (PTY r l) = true := by
  cases r with
  | nil => rfl
  | cons q r => exact hd_L (hr q (List.mem_cons_self ..)).1 _
/-- a word, and a blank behind it -/
theorem k_word (h : RDP B len c (b ++ ([32] ++ l)) t) (hb : okL b) (hl : hdN lxS l = true) : gI t 0 0 5 = nI 1 ∧ gL t 0 0 7 = lN (cpN b) ∧ ∃ t', sX4_advance t = some t' ∧ RDP B len c l t' :=
  h.tok (tok_word hb.1 hb.2.1 (all_L hb) rfl rfl hl)
/-- a word with a sign behind it -/
theorem k_word0 (h : RDP B len c (b ++ ([59] ++ l)) t) (hb : okL b) : gI t 0 0 5 = nI 1 ∧ gL t 0 0 7 = lN (cpN b) ∧ ∃ t', sX4_advance t = some t' ∧ RDP B len c ([59] ++ l) t' :=
  RDP.tok (s := []) h (tok_word hb.1 hb.2.1 (all_L hb) rfl rfl rfl)
theorem hd_DL (hv : v < 1000) (l : List Nat) : hdN lxL (dN v ++ l) = true := by
  obtain ⟨⟨h1, h2⟩, h3, h4⟩ := dN_ok v hv
  cases hd : dN v with
  | nil => rw [hd] at h1; exact absurd h1 (by decide)
  | cons a b =>
    rw [hd] at h3
    have ha := lxD_L (List.all_eq_true.mp h3 a (List.mem_cons_self ..))
    show (!lxL a) = true
    rw [ha]; rfl
/-- a word with a number behind it -/
theorem k_wordD (h : RDP B len c (b ++ (dN v ++ l)) t) (hb : okL b) (hv : v < 1000) : gI t 0 0 5 = nI 1 ∧ gL t 0 0 7 = lN (cpN b) ∧ ∃ t', sX4_advance t = some t' ∧ RDP B len c (dN v ++ l) t' :=
  RDP.tok (s := []) h (tok_word hb.1 hb.2.1 (all_L hb) rfl (hd_DL hv l) (hd_D hv l))
theorem k_numB {lo hi : Nat} (h : RDP B len c (dN v ++ ([32] ++ l)) t) (hl : hdN lxS l = true) (h1 : lo ≤ v) (h2 : v ≤ hi) (h3 : hi ≤ 999) : ∃ t', sX4_takeNumber t (nI lo) (nI hi) = some (t', nI v) ∧ RDP B len c l t' := by
  obtain ⟨⟨g1, g2⟩, g3, g4⟩ := dN_ok v (by omega)
  have := k_number (lo := lo) (hi := hi) h g1 g2 g3 rfl rfl hl (by omega) (by omega) h3
  rw [g4] at this
  exact this
theorem k_num0 {lo hi : Nat} (h : RDP B len c (dN v ++ ([59] ++ l)) t) (h1 : lo ≤ v) (h2 : v ≤ hi) (h3 : hi ≤ 999) : ∃ t', sX4_takeNumber t (nI lo) (nI hi) = some (t', nI v) ∧ RDP B len c ([59] ++ l) t' := by
  obtain ⟨⟨g1, g2⟩, g3, g4⟩ := dN_ok v (by omega)
  have := k_number (s := []) (l := [59] ++ l) (lo := lo) (hi := hi) h g1 g2 g3 rfl rfl rfl (by omega) (by omega) h3
  rw [g4] at this
  exact this
theorem k_numP {lo hi : Nat} (h : RDP B len c (dN v ++ PTX r l) t) (hr : PTOK r) (h1 : lo ≤ v) (h2 : v ≤ hi) (h3 : hi ≤ 999) : ∃ t', sX4_takeNumber t (nI lo) (nI hi) = some (t', nI v) ∧ RDP B len c (PTY r l) t' := by
  obtain ⟨⟨g1, g2⟩, g3, g4⟩ := dN_ok v (by omega)
  rw [PTX_S] at h
  have := k_number (lo := lo) (hi := hi) h g1 g2 g3 (by cases r <;> rfl) (by cases r <;> rfl) (PTY_hd hr) (by omega) (by omega) h3
  rw [g4] at this
  exact this
/-- a part that may be told: told -/
theorem k_partY {w : Nat} {W : Int64} {l0 : List Nat} {lo hi wo : Nat} (hw : WDX w W l0) (h : RDP B len c (PTY ((l0, v) :: r) l) t) (hr : PTOK ((l0, v) :: r)) (h1 : lo ≤ v) (h2 : v ≤ hi) (h3 : hi ≤ 999) : ∃ t', sX3_readPart w t (nI lo) (nI hi) (nI wo) = some (t', nI v) ∧ RDP B len c (PTY r l) t' := by
  obtain ⟨q1, q2⟩ := hr _ (List.mem_cons_self ..)
  obtain ⟨e1, e2, t1, e3, e4⟩ := k_word h q1 (hd_D q2 _)
  obtain ⟨t2, e5, e6⟩ := k_numP e4 (fun q hq => hr q (List.mem_cons_of_mem _ hq)) h1 h2 h3
  have hw1 := k_isWord hw q1 e1 e2
  rw [decide_eq_true rfl] at hw1
  refine ⟨t2, ?_, e6⟩
  unfold sX3_readPart
  rw [hw1, bd_e, if_pos (by decide), e3, bd_e, e5, bd_e]
/-- not told -/
theorem k_partN {w : Nat} {W : Int64} {l0 : List Nat} {lo hi wo : Int32} (hw : WDX w W l0) (h : RDP B len c (PTY r l) t) (hr : PTOK r) (hne : ∀ q, r.head? = some q → ¬ q.1 = l0) (hl : hdN lxS l = true) : sX3_readPart w t lo hi wo = some (t, wo) := by
  unfold sX3_readPart
  cases r with
  | nil =>
    obtain ⟨e1, -⟩ := RDP.tok (s := []) h (tok_sign rfl hl)
    rw [k_noWord e1 (by omega) (by omega), bd_e, if_neg (by decide)]
  | cons q r =>
    obtain ⟨q1, q2⟩ := hr _ (List.mem_cons_self ..)
    obtain ⟨e1, e2, t1, e3, e4⟩ := k_word h q1 (hd_D q2 _)
    have hw1 := k_isWord hw q1 e1 e2
    rw [decide_eq_false (hne q rfl)] at hw1
    rw [hw1, bd_e, if_neg (by decide)]
theorem k_part {w : Nat} {W : Int64} {l0 : List Nat} {lo hi wo : Nat} {o : Option Nat} (hw : WDX w W l0) (h : RDP B len c (PTY (opP l0 o ++ r) l) t) (hr : PTOK (opP l0 o ++ r)) (hne : ∀ q, r.head? = some q → ¬ q.1 = l0) (hl : hdN lxS l = true) (hv : ∀ v, o = some v → lo ≤ v ∧ v ≤ hi) (h3 : hi ≤ 999) : ∃ t', sX3_readPart w t (nI lo) (nI hi) (nI wo) = some (t', nI (o.getD wo)) ∧ RDP B len c (PTY r l) t' := by
  cases o with
  | none => exact ⟨t, k_partN hw h hr hne hl, h⟩
  | some v => exact k_partY hw h hr (hv v rfl).1 (hv v rfl).2 h3
theorem ok_w : okL wBea ∧ okL wEve ∧ okL wAtw ∧ okL wLis ∧ okL wSen ∧ okL wEne ∧ okL wCos ∧ okL wSee ∧ okL wTri ∧ okL wMem ∧ okL wNea := by
  refine ⟨?_, ?_, ?_, ?_, ?_, ?_, ?_, ?_, ?_, ?_, ?_⟩ <;> exact ⟨by decide, by decide, by decide⟩
theorem ok_nm (hn : n < 8) : okL [97 + n] := ⟨Nat.le_refl 1, (by omega : 1 ≤ 8), fun c hc => by rw [List.mem_singleton] at hc; omega⟩
theorem ptok_op {w : List Nat} {o : Option Nat} (hw : okL w) (ho : ∀ v, o = some v → v < 1000) (hr : PTOK r) : PTOK (opP w o ++ r) := fun q hq => by
  rcases List.mem_append.mp hq with z | z
  · cases o with
    | none => cases z
    | some v =>
      rw [show opP w (some v) = [(w, v)] from rfl, List.mem_singleton] at z
      subst z
      exact ⟨hw, ho v rfl⟩
  · exact hr q z
/-- which statement it is -/
theorem k_first (h1 : gI t 0 0 5 = nI 1) (ho : okL b) (h2 : gL t 0 0 7 = lN (cpN b)) : sX4_isWord 13 t = some (nI (decide (b = wCos)).toNat) ∧ sX4_isWord 14 t = some (nI (decide (b = wSee)).toNat) ∧ sX4_isWord 15 t = some (nI (decide (b = wTri)).toNat) ∧ sX4_isWord 16 t = some (nI (decide (b = wMem)).toNat) ∧ sX4_isWord 17 t = some (nI (decide (b = wBea)).toNat) ∧ sX4_isWord 10 t = some (nI (decide (b = wNea)).toNat) :=
  ⟨k_isWord wd_costs ho h1 h2, k_isWord wd_seed ho h1 h2, k_isWord wd_tries ho h1 h2, k_isWord wd_memory ho h1 h2, k_isWord wd_beacon ho h1 h2, k_isWord wd_near ho h1 h2⟩
def bcT (n p : Nat) (og ol os oe : Option Nat) (l : List Nat) : List Nat := wBea ++ ([32] ++ ([97 + n] ++ ([32] ++ (wEve ++ (dN p ++ PTX (opP wAtw og ++ (opP wLis ol ++ (opP wSen os ++ (opP wEne oe ++ [])))) l)))))
theorem k_beacon {og ol os oe : Option Nat} (h : RDP B len c (bcT n p og ol os oe l) t) (hn : n < 8) (hx : gI x 0 0 2 = nI n) (hno : ∀ k, k < n → ¬ gL x (k + 1) 0 0 = lN (cpN [97 + n])) (hp : 2 ≤ p) (hp2 : p ≤ 99) (hg : ∀ v, og = some v → 0 ≤ v ∧ v ≤ p - 1) (hl : ∀ v, ol = some v → 1 ≤ v ∧ v ≤ 9) (hs : ∀ v, os = some v → 1 ≤ v ∧ v ≤ 9) (he : ∀ v, oe = some v → 1 ≤ v ∧ v ≤ 999) (hh : hdN lxS l = true) : ∃ x1 t', sX0_begin (n + 1) x (lN (cpN [97 + n])) = some x1 ∧ gI t 0 0 5 = nI 1 ∧ sX3_readStatement x t d = some (XBC x1 n (nI p) (nI (og.getD 0)) (nI (ol.getD 2)) (nI (os.getD 2)) (nI (oe.getD 999)), t', d, nI 1) ∧ RDP B len c ([59] ++ l) t' := by
  obtain ⟨o1, o2, o3, o4, o5, o6, -⟩ := ok_w
  have P0 : PTOK [] := fun q hq => by cases hq
  have P1 := ptok_op (o := oe) o6 (fun v hv => by have := he v hv; omega) P0
  have P2 := ptok_op (o := os) o5 (fun v hv => by have := hs v hv; omega) P1
  have P3 := ptok_op (o := ol) o4 (fun v hv => by have := hl v hv; omega) P2
  have P4 := ptok_op (o := og) o3 (fun v hv => by have := hg v hv; omega) P3
  have n1 : ∀ q, (opP wEne oe ++ []).head? = some q → ¬ q.1 = wSen := fun q hq => by
    cases oe <;> first | (cases hq; done) | (cases hq; dsimp only; decide)
  have n2 : ∀ q, (opP wSen os ++ (opP wEne oe ++ [])).head? = some q → ¬ q.1 = wLis := fun q hq => by
    cases os <;> cases oe <;> first | (cases hq; done) | (cases hq; dsimp only; decide)
  have n3 : ∀ q, (opP wLis ol ++ (opP wSen os ++ (opP wEne oe ++ []))).head? = some q → ¬ q.1 = wAtw := fun q hq => by
    cases ol <;> cases os <;> cases oe <;> first | (cases hq; done) | (cases hq; dsimp only; decide)
  obtain ⟨a1, a2, t1, a3, a4⟩ := k_word h o1 (hd_L (ok_nm hn) _)
  obtain ⟨b1, b2, t2, b3, b4⟩ := k_word a4 (ok_nm hn) (hd_L o2 _)
  obtain ⟨c1, c2, t3, c3, c4⟩ := k_wordD b4 o2 (show p < 1000 by omega)
  obtain ⟨t4, d1, d2⟩ := k_numP (lo := 2) (hi := 99) c4 P4 hp hp2 (by omega)
  obtain ⟨t5, e1, e2⟩ := k_part (lo := 0) (hi := p - 1) (wo := 0) wd_at d2 P4 n3 hh hg (by omega)
  obtain ⟨t6, f1, f2⟩ := k_part (lo := 1) (hi := 9) (wo := 2) wd_listens e2 P3 n2 hh hl (by omega)
  obtain ⟨t7, g1, g2⟩ := k_part (lo := 1) (hi := 9) (wo := 2) wd_sends f2 P2 n1 hh hs (by omega)
  obtain ⟨t8, h1, h2⟩ := k_part (lo := 1) (hi := 999) (wo := 999) wd_energy g2 P1 (fun q hq => by cases hq) hh he (by omega)
  obtain ⟨x1, x2, x3, x4, x5, x6⟩ := c_begin (o := n) x (lN (cpN [97 + n]))
  have hf := c_findN (v := lN (cpN [97 + n])) (by omega) hx hno
  obtain ⟨w1, w2, w3, w4, w5, w6⟩ := k_first a1 o1 a2
  have hev := k_isWord wd_every o2 c1 c2
  rw [decide_eq_true (show wEve = [101, 118, 101, 114, 121] from rfl)] at hev
  have hx1 : gI x1 0 0 2 = nI n := by rw [(x6 0 (by omega)).1]; exact hx
  have v1 : og.getD 0 ≤ 98 := by
    cases og with
    | none => exact Nat.zero_le _
    | some v => have := hg v rfl; show v ≤ 98; omega
  have v2 : ol.getD 2 ≤ 9 := by
    cases ol with
    | none => show 2 ≤ 9; omega
    | some v => exact (hl v rfl).2
  have v3 : os.getD 2 ≤ 9 := by
    cases os with
    | none => show 2 ≤ 9; omega
    | some v => exact (hs v rfl).2
  have v4 : oe.getD 999 ≤ 999 := by
    cases oe with
    | none => exact Nat.le_refl _
    | some v => exact (he v rfl).2
  have hnew : sX3_takeNewName (n + 1) x t1 = some (x1, t2, nI 1) := by
    unfold sX3_takeNewName
    rw [b2]
    simp (disch := omega) only [zl, zm, nI_add, pk_mul, inb_t, ix_n, gd_tt, bd_e, nm_v, ite_not, ↓reduceIte, le_t, le_f, lt_t, lt_f, eq_t, eq_f, mone_f, mone_f2, b1, hf, x2, b3]
  have htw : sX4_takeWord 7 t2 = some (t3, nI 1) := by
    unfold sX4_takeWord
    rw [hev, bd_e, if_pos (by decide), c3]
    rfl
  have hz : nI p - nI 1 = nI (p - 1) := zs (by omega)
  refine ⟨x1, t8, x2, a1, ?_, h2⟩
  have hrb : sX3_readBeacon x t = some (XBC x1 n (nI p) (nI (og.getD 0)) (nI (ol.getD 2)) (nI (os.getD 2)) (nI (oe.getD 999)), t8, nI 1) := by
    have q158 : sX3_readBeacon_b158 x1 t8 (n + 1) (nI p) (nI (og.getD 0)) (nI (ol.getD 2)) (nI (os.getD 2)) (nI (oe.getD 999)) = some (XBC x1 n (nI p) (nI (og.getD 0)) (nI (ol.getD 2)) (nI (os.getD 2)) (nI (oe.getD 999)), t8, nI 1) := by
      have : gI (pI (pI (pI (pI (pI x1 (n + 1) 0 1 (nI p)) (n + 1) 0 2 (nI (og.getD 0))) (n + 1) 0 3 (nI (ol.getD 2))) (n + 1) 0 4 (nI (os.getD 2))) (n + 1) 0 5 (nI (oe.getD 999))) 0 0 2 = nI n := by
        repeat rw [gI_pI, if_neg (by omega)]
        exact hx1
      unfold sX3_readBeacon_b158 XBC
      simp (disch := omega) only [↓nm_v, zl, zm, nI_add, pk_mul, inb_t, ix_n, gd_tt, bd_e, nm_v, ite_not, ↓reduceIte, le_t, le_f, lt_t, lt_f, eq_t, eq_f, mone_f, mone_f2, this]
    have q133 : sX3_readBeacon_b133 x1 t7 (n + 1) (nI p) (nI (og.getD 0)) (nI (ol.getD 2)) (nI (os.getD 2)) = some (XBC x1 n (nI p) (nI (og.getD 0)) (nI (ol.getD 2)) (nI (os.getD 2)) (nI (oe.getD 999)), t8, nI 1) := by
      unfold sX3_readBeacon_b133
      simp (disch := omega) only [↓nm_v, zl, zm, nI_add, pk_mul, inb_t, ix_n, gd_tt, bd_e, nm_v, ite_not, ↓reduceIte, le_t, le_f, lt_t, lt_f, eq_t, eq_f, mone_f, mone_f2, h1, q158]
    have q111 : sX3_readBeacon_b111 x1 t6 (n + 1) (nI p) (nI (og.getD 0)) (nI (ol.getD 2)) = some (XBC x1 n (nI p) (nI (og.getD 0)) (nI (ol.getD 2)) (nI (os.getD 2)) (nI (oe.getD 999)), t8, nI 1) := by
      unfold sX3_readBeacon_b111
      simp (disch := omega) only [↓nm_v, zl, zm, nI_add, pk_mul, inb_t, ix_n, gd_tt, bd_e, nm_v, ite_not, ↓reduceIte, le_t, le_f, lt_t, lt_f, eq_t, eq_f, mone_f, mone_f2, g1, q133]
    have q89 : sX3_readBeacon_b89 x1 t5 (n + 1) (nI p) (nI (og.getD 0)) = some (XBC x1 n (nI p) (nI (og.getD 0)) (nI (ol.getD 2)) (nI (os.getD 2)) (nI (oe.getD 999)), t8, nI 1) := by
      unfold sX3_readBeacon_b89
      simp (disch := omega) only [↓nm_v, zl, zm, nI_add, pk_mul, inb_t, ix_n, gd_tt, bd_e, nm_v, ite_not, ↓reduceIte, le_t, le_f, lt_t, lt_f, eq_t, eq_f, mone_f, mone_f2, f1, q111]
    unfold sX3_readBeacon
    simp (disch := omega) only [↓nm_v, zl, zm, nI_add, pk_mul, inb_t, ix_n, gd_tt, bd_e, nm_v, ite_not, ↓reduceIte, le_t, le_f, lt_t, lt_f, eq_t, eq_f, mone_f, mone_f2, hx, a3, hnew, htw, d1, hz, e1, q89]
  have z0 : decide (wBea = wCos) = false := by decide
  have z1 : decide (wBea = wSee) = false := by decide
  have z2 : decide (wBea = wTri) = false := by decide
  have z3 : decide (wBea = wMem) = false := by decide
  have z4 : decide (wBea = wBea) = true := by decide
  rw [z0] at w1
  rw [z1] at w2
  rw [z2] at w3
  rw [z3] at w4
  rw [z4] at w5
  unfold sX3_readStatement
  simp (disch := omega) only [↓nm_v, zl, zm, nI_add, pk_mul, inb_t, ix_n, gd_tt, bd_e, nm_v, ite_not, ↓reduceIte, le_t, le_f, lt_t, lt_f, eq_t, eq_f, mone_f, mone_f2, w1, w2, w3, w4, w5, Bool.toNat_true, Bool.toNat_false, hrb, show isb (nI 1) = true from rfl]
end
