/-! THE TOKENS of a text, as both programs read them -/
theorem qi {q N : Nat} (h : q < N) (hN : N < 2147483648) : qc_in (zI (q : Int)) N ∧ (zI (q : Int)).toNatClampNeg = q := by
  have e : (zI (q : Int)).toNatClampNeg = q := by rw [zI_cl (by omega) (by omega)]; omega
  refine ⟨?_, e⟩
  intro z
  rcases z with z | z
  · have z' : zI (q : Int) < zI 0 := z
    rw [zI_lt (by omega) (by omega) (by omega) (by omega)] at z'
    omega
  · rw [e] at z
    omega
theorem zI_or (a b : Nat) : zI (a : Int) ||| zI (b : Int) = zI ((a ||| b : Nat) : Int) := by
  unfold zI
  rw [Int32.ofInt_eq_ofNat, Int32.ofInt_eq_ofNat, Int32.ofInt_eq_ofNat]
  apply Int32.toBitVec_inj.1
  rw [Int32.toBitVec_or]
  apply BitVec.eq_of_toNat_eq
  simp [Int32.toBitVec_ofNat, BitVec.toNat_or, BitVec.toNat_ofNat, Nat.or_mod_two_pow]
theorem sh_d : ∀ s : Fin 32, ((zI s.val &&& zI 31).toBitVec.smod 32).toNat = s.val := by decide +kernel
theorem zI_shl (d : Nat) {s : Nat} (hs : s < 32) : zI (d : Int) <<< (zI (s : Int) &&& zI 31) = zI ((d * 2 ^ s : Nat) : Int) := by
  apply Int32.toBitVec_inj.1
  rw [Int32.toBitVec_shiftLeft]
  apply BitVec.eq_of_toNat_eq
  have e := sh_d ⟨s, hs⟩
  dsimp only at e
  rw [BitVec.shiftLeft_eq', BitVec.toNat_shiftLeft, e]
  unfold zI
  rw [Int32.ofInt_eq_ofNat, Int32.ofInt_eq_ofNat]
  show (BitVec.ofNat 32 d).toNat <<< s % 2 ^ 32 = (BitVec.ofNat 32 (d * 2 ^ s)).toNat
  rw [BitVec.toNat_ofNat, BitVec.toNat_ofNat, Nat.shiftLeft_eq, Nat.mul_mod, Nat.mod_mod, ← Nat.mul_mod]
theorem or_add {a b i : Nat} (h : b < 2 ^ i) : (2 ^ i * a) ||| b = 2 ^ i * a + b := (Nat.two_pow_add_eq_or_of_lt h a).symm
/-- the text: its bytes, and how many -/
def TX (T : Nat → Int32) (B : Nat → Nat) (n : Nat) : Prop := n ≤ 700 ∧ ∀ k, k < 700 → T k = zI (B k : Nat) ∧ B k < 256
def scan (f : Nat → Bool) : Nat → Nat → Nat
  | 0, p => p
  | d + 1, p => if f p = true then scan f d (p + 1) else p
theorem scan_b (f : Nat → Bool) : ∀ d p, p ≤ scan f d p ∧ scan f d p ≤ p + d ∧ (∀ q, p ≤ q → q < scan f d p → f q = true) ∧ (scan f d p < p + d → f (scan f d p) = false) := by
  intro d
  induction d with
  | zero => intro p; exact ⟨Nat.le_refl _, Nat.le_refl _, fun q h1 h2 => absurd h2 (by show ¬ q < p; omega), fun h => absurd h (by show ¬ p < p + 0; omega)⟩
  | succ d ih =>
    intro p
    show p ≤ (if f p = true then scan f d (p + 1) else p) ∧ (if f p = true then scan f d (p + 1) else p) ≤ p + (d + 1) ∧ (∀ q, p ≤ q → q < (if f p = true then scan f d (p + 1) else p) → f q = true) ∧ ((if f p = true then scan f d (p + 1) else p) < p + (d + 1) → f (if f p = true then scan f d (p + 1) else p) = false)
    cases e : f p
    · rw [if_neg (by decide)]
      exact ⟨by omega, by omega, fun q h1 h2 => by omega, fun _ => e⟩
    · rw [if_pos rfl]
      obtain ⟨h1, h2, h3, h4⟩ := ih (p + 1)
      refine ⟨by omega, by omega, ?_, fun h => h4 (by omega)⟩
      intro q q1 q2
      by_cases c : q = p
      · rw [c]; exact e
      · exact h3 q (by omega) q2
def isB (b : Nat) : Bool := decide (b = 10 ∨ b = 32)
def isL (b : Nat) : Bool := decide (97 ≤ b ∧ b ≤ 122)
def isD (b : Nat) : Bool := decide (48 ≤ b ∧ b ≤ 57)
/-- where the next token starts, and where it ends -/
def tP (B : Nat → Nat) (n A : Nat) : Nat := scan (fun p => isB (B p)) (n - A) A
def tE (B : Nat → Nat) (n A : Nat) : Nat := if n ≤ tP B n A then tP B n A else if isL (B (tP B n A)) = true then scan (fun p => isL (B p)) (n - tP B n A) (tP B n A) else if isD (B (tP B n A)) = true then scan (fun p => isD (B p)) (n - tP B n A) (tP B n A) else tP B n A + 1
/-- letters, five bits each -/
def dgt (B : Nat → Nat) (p len j : Nat) : Nat := if j < len then B (p + j) - 96 else 0
def hn (B : Nat → Nat) (p len : Nat) : Nat → Nat
  | 0 => 0
  | i + 1 => hn B p len i * 32 + dgt B p len i
/-- a number's digits, up to a limit -/
def dg (B : Nat → Nat) (L : Nat) : Nat → Nat → Nat → Nat
  | 0, _, v => v
  | d + 1, q, v => dg B L d (q + 1) (if v < L then v * 10 + (B q - 48) else v)
/-- the words of the language -/
def wtx (w : Nat) : List Nat := [[98, 97, 110, 100], [103, 117, 97, 114, 100], [115, 112, 97, 99, 101], [111, 114, 100, 101, 114, 115], [108, 111, 115, 115], [117, 115, 101, 114], [102, 105, 120, 101, 100], [98, 108, 111, 99, 107], [108, 105, 110, 107], [115, 108, 111, 116, 115], [115, 101, 101, 100]].getD w []
def wl (w : Nat) : Nat := (wtx w).length
def wch (w j : Nat) : Nat := (wtx w).getD j 0
def wo (w : Nat) : Nat := [0, 5, 11, 17, 24, 29, 34, 40, 46, 51, 57, 62].getD w 0
def wc (w : Nat) : Nat := [68620288, 256952448, 654347424, 522327635, 419023872, 724748288, 211555456, 80186720, 412560384, 650629728, 642945024].getD w 0
def mtB (B : Nat → Nat) (p len w : Nat) : Bool := decide (len = wl w) && (List.range (wl w)).all (fun j => decide (B (p + j) = wch w j))
theorem mtB_iff {B : Nat → Nat} {p len w : Nat} : mtB B p len w = true ↔ (len = wl w ∧ ∀ j, j < wl w → B (p + j) = wch w j) := by
  unfold mtB
  rw [Bool.and_eq_true, decide_eq_true_eq, List.all_eq_true]
  constructor
  · intro ⟨h1, h2⟩
    exact ⟨h1, fun j hj => of_decide_eq_true (h2 j (List.mem_range.2 hj))⟩
  · intro ⟨h1, h2⟩
    exact ⟨h1, fun j hj => decide_eq_true (h2 j (List.mem_range.1 hj))⟩
def wI (B : Nat → Nat) (p len : Nat) : Int := fnd (fun w => if mtB B p len w = true then some ((w : Nat) : Int) else none) (-1) 11 0
theorem wI_some {B : Nat → Nat} {p len : Nat} : ∀ d w, (fnd (fun w => if mtB B p len w = true then some ((w : Nat) : Int) else none) (-1) d w = -1 ∧ ∀ v, w ≤ v → v < w + d → mtB B p len v = false) ∨ ∃ v, w ≤ v ∧ v < w + d ∧ mtB B p len v = true ∧ fnd (fun w => if mtB B p len w = true then some ((w : Nat) : Int) else none) (-1) d w = (v : Int) := by
  intro d
  induction d with
  | zero => intro w; exact Or.inl ⟨rfl, fun v h1 h2 => by omega⟩
  | succ d ih =>
    intro w
    have e0 : fnd (fun w => if mtB B p len w = true then some ((w : Nat) : Int) else none) (-1) (d + 1) w = (if mtB B p len w = true then some ((w : Nat) : Int) else none).getD (fnd (fun w => if mtB B p len w = true then some ((w : Nat) : Int) else none) (-1) d (w + 1)) := rfl
    rw [e0]
    cases e : mtB B p len w
    · rw [if_neg (by decide)]
      rcases ih (w + 1) with ⟨h1, h2⟩ | ⟨v, v1, v2, v3, v4⟩
      · refine Or.inl ⟨h1, ?_⟩
        intro v h3 h4
        by_cases c : v = w
        · rw [c]; exact e
        · exact h2 v (by omega) (by omega)
      · exact Or.inr ⟨v, by omega, by omega, v3, v4⟩
    · exact Or.inr ⟨w, by omega, by omega, e, rfl⟩
theorem wd_ok : ∀ w : Fin 11, wo w.val + wl w.val + 1 = wo (w.val + 1) ∧ wo (w.val + 1) ≤ 62 ∧ qc_ch (wo w.val + wl w.val) = zI 32 ∧ 1 ≤ wl w.val ∧ wl w.val ≤ 6 := by decide +kernel
theorem wd_ch : ∀ (w : Fin 11) (j : Fin 6), j.val < wl w.val → qc_ch (wo w.val + j.val) = zI (wch w.val j.val : Nat) ∧ 97 ≤ wch w.val j.val ∧ wch w.val j.val ≤ 122 := by decide +kernel
theorem hn_lt {B : Nat → Nat} {p len : Nat} (hL : ∀ j, j < len → 97 ≤ B (p + j) ∧ B (p + j) ≤ 122) : ∀ i, hn B p len i < 32 ^ i := by
  intro i
  induction i with
  | zero => exact Nat.one_pos
  | succ i ih =>
    have : dgt B p len i < 32 := by
      unfold dgt
      split
      · rename_i c
        have := hL i c
        omega
      · omega
    show hn B p len i * 32 + dgt B p len i < 32 ^ (i + 1)
    rw [Nat.pow_succ]
    omega
theorem hn_pad {B : Nat → Nat} {p len : Nat} : ∀ d, hn B p len (len + d) = hn B p len len * 32 ^ d := by
  intro d
  induction d with
  | zero => rw [Nat.add_zero, Nat.pow_zero, Nat.mul_one]
  | succ d ih =>
    show hn B p len (len + d) * 32 + dgt B p len (len + d) = _
    rw [ih, show dgt B p len (len + d) = 0 from if_neg (by omega), Nat.pow_succ, Nat.add_zero, Nat.mul_assoc]

theorem pk_0 {B : Nat → Nat} {p len : Nat} (h6 : len ≤ 6) (hL : ∀ j, j < len → 97 ≤ B (p + j) ∧ B (p + j) ≤ 122) : hn B p len 6 = 68620288 ↔ mtB B p len 0 = true := by
  rw [mtB_iff]
  have e : hn B p len 6 = (((((0 * 32 + dgt B p len 0) * 32 + dgt B p len 1) * 32 + dgt B p len 2) * 32 + dgt B p len 3) * 32 + dgt B p len 4) * 32 + dgt B p len 5 := rfl
  have g : ∀ j, (j < len → dgt B p len j = B (p + j) - 96 ∧ 97 ≤ B (p + j) ∧ B (p + j) ≤ 122) ∧ (len ≤ j → dgt B p len j = 0) := fun j => ⟨fun h => ⟨if_pos h, hL j h⟩, fun h => if_neg (by omega)⟩
  have g0 := g 0
  have g1 := g 1
  have g2 := g 2
  have g3 := g 3
  have g4 := g 4
  have g5 := g 5
  show _ ↔ (len = 4 ∧ ∀ j, j < 4 → B (p + j) = wch 0 j)
  rw [e]
  constructor
  · intro h
    have k : len = 4 ∧ B (p + 0) = 98 ∧ B (p + 1) = 97 ∧ B (p + 2) = 110 ∧ B (p + 3) = 100 := by omega
    refine ⟨k.1, ?_⟩
    intro j hj
    have hj' : j = 0 ∨ j = 1 ∨ j = 2 ∨ j = 3 := by omega
    rcases hj' with rfl | rfl | rfl | rfl
    · exact k.2.1
    · exact k.2.2.1
    · exact k.2.2.2.1
    · exact k.2.2.2.2
  · intro ⟨h1, h2⟩
    have k0 : B (p + 0) = 98 := h2 0 (by omega)
    have k1 : B (p + 1) = 97 := h2 1 (by omega)
    have k2 : B (p + 2) = 110 := h2 2 (by omega)
    have k3 : B (p + 3) = 100 := h2 3 (by omega)
    omega
theorem pk_1 {B : Nat → Nat} {p len : Nat} (h6 : len ≤ 6) (hL : ∀ j, j < len → 97 ≤ B (p + j) ∧ B (p + j) ≤ 122) : hn B p len 6 = 256952448 ↔ mtB B p len 1 = true := by
  rw [mtB_iff]
  have e : hn B p len 6 = (((((0 * 32 + dgt B p len 0) * 32 + dgt B p len 1) * 32 + dgt B p len 2) * 32 + dgt B p len 3) * 32 + dgt B p len 4) * 32 + dgt B p len 5 := rfl
  have g : ∀ j, (j < len → dgt B p len j = B (p + j) - 96 ∧ 97 ≤ B (p + j) ∧ B (p + j) ≤ 122) ∧ (len ≤ j → dgt B p len j = 0) := fun j => ⟨fun h => ⟨if_pos h, hL j h⟩, fun h => if_neg (by omega)⟩
  have g0 := g 0
  have g1 := g 1
  have g2 := g 2
  have g3 := g 3
  have g4 := g 4
  have g5 := g 5
  show _ ↔ (len = 5 ∧ ∀ j, j < 5 → B (p + j) = wch 1 j)
  rw [e]
  constructor
  · intro h
    have k : len = 5 ∧ B (p + 0) = 103 ∧ B (p + 1) = 117 ∧ B (p + 2) = 97 ∧ B (p + 3) = 114 ∧ B (p + 4) = 100 := by omega
    refine ⟨k.1, ?_⟩
    intro j hj
    have hj' : j = 0 ∨ j = 1 ∨ j = 2 ∨ j = 3 ∨ j = 4 := by omega
    rcases hj' with rfl | rfl | rfl | rfl | rfl
    · exact k.2.1
    · exact k.2.2.1
    · exact k.2.2.2.1
    · exact k.2.2.2.2.1
    · exact k.2.2.2.2.2
  · intro ⟨h1, h2⟩
    have k0 : B (p + 0) = 103 := h2 0 (by omega)
    have k1 : B (p + 1) = 117 := h2 1 (by omega)
    have k2 : B (p + 2) = 97 := h2 2 (by omega)
    have k3 : B (p + 3) = 114 := h2 3 (by omega)
    have k4 : B (p + 4) = 100 := h2 4 (by omega)
    omega
theorem pk_2 {B : Nat → Nat} {p len : Nat} (h6 : len ≤ 6) (hL : ∀ j, j < len → 97 ≤ B (p + j) ∧ B (p + j) ≤ 122) : hn B p len 6 = 654347424 ↔ mtB B p len 2 = true := by
  rw [mtB_iff]
  have e : hn B p len 6 = (((((0 * 32 + dgt B p len 0) * 32 + dgt B p len 1) * 32 + dgt B p len 2) * 32 + dgt B p len 3) * 32 + dgt B p len 4) * 32 + dgt B p len 5 := rfl
  have g : ∀ j, (j < len → dgt B p len j = B (p + j) - 96 ∧ 97 ≤ B (p + j) ∧ B (p + j) ≤ 122) ∧ (len ≤ j → dgt B p len j = 0) := fun j => ⟨fun h => ⟨if_pos h, hL j h⟩, fun h => if_neg (by omega)⟩
  have g0 := g 0
  have g1 := g 1
  have g2 := g 2
  have g3 := g 3
  have g4 := g 4
  have g5 := g 5
  show _ ↔ (len = 5 ∧ ∀ j, j < 5 → B (p + j) = wch 2 j)
  rw [e]
  constructor
  · intro h
    have k : len = 5 ∧ B (p + 0) = 115 ∧ B (p + 1) = 112 ∧ B (p + 2) = 97 ∧ B (p + 3) = 99 ∧ B (p + 4) = 101 := by omega
    refine ⟨k.1, ?_⟩
    intro j hj
    have hj' : j = 0 ∨ j = 1 ∨ j = 2 ∨ j = 3 ∨ j = 4 := by omega
    rcases hj' with rfl | rfl | rfl | rfl | rfl
    · exact k.2.1
    · exact k.2.2.1
    · exact k.2.2.2.1
    · exact k.2.2.2.2.1
    · exact k.2.2.2.2.2
  · intro ⟨h1, h2⟩
    have k0 : B (p + 0) = 115 := h2 0 (by omega)
    have k1 : B (p + 1) = 112 := h2 1 (by omega)
    have k2 : B (p + 2) = 97 := h2 2 (by omega)
    have k3 : B (p + 3) = 99 := h2 3 (by omega)
    have k4 : B (p + 4) = 101 := h2 4 (by omega)
    omega
theorem pk_3 {B : Nat → Nat} {p len : Nat} (h6 : len ≤ 6) (hL : ∀ j, j < len → 97 ≤ B (p + j) ∧ B (p + j) ≤ 122) : hn B p len 6 = 522327635 ↔ mtB B p len 3 = true := by
  rw [mtB_iff]
  have e : hn B p len 6 = (((((0 * 32 + dgt B p len 0) * 32 + dgt B p len 1) * 32 + dgt B p len 2) * 32 + dgt B p len 3) * 32 + dgt B p len 4) * 32 + dgt B p len 5 := rfl
  have g : ∀ j, (j < len → dgt B p len j = B (p + j) - 96 ∧ 97 ≤ B (p + j) ∧ B (p + j) ≤ 122) ∧ (len ≤ j → dgt B p len j = 0) := fun j => ⟨fun h => ⟨if_pos h, hL j h⟩, fun h => if_neg (by omega)⟩
  have g0 := g 0
  have g1 := g 1
  have g2 := g 2
  have g3 := g 3
  have g4 := g 4
  have g5 := g 5
  show _ ↔ (len = 6 ∧ ∀ j, j < 6 → B (p + j) = wch 3 j)
  rw [e]
  constructor
  · intro h
    have k : len = 6 ∧ B (p + 0) = 111 ∧ B (p + 1) = 114 ∧ B (p + 2) = 100 ∧ B (p + 3) = 101 ∧ B (p + 4) = 114 ∧ B (p + 5) = 115 := by omega
    refine ⟨k.1, ?_⟩
    intro j hj
    have hj' : j = 0 ∨ j = 1 ∨ j = 2 ∨ j = 3 ∨ j = 4 ∨ j = 5 := by omega
    rcases hj' with rfl | rfl | rfl | rfl | rfl | rfl
    · exact k.2.1
    · exact k.2.2.1
    · exact k.2.2.2.1
    · exact k.2.2.2.2.1
    · exact k.2.2.2.2.2.1
    · exact k.2.2.2.2.2.2
  · intro ⟨h1, h2⟩
    have k0 : B (p + 0) = 111 := h2 0 (by omega)
    have k1 : B (p + 1) = 114 := h2 1 (by omega)
    have k2 : B (p + 2) = 100 := h2 2 (by omega)
    have k3 : B (p + 3) = 101 := h2 3 (by omega)
    have k4 : B (p + 4) = 114 := h2 4 (by omega)
    have k5 : B (p + 5) = 115 := h2 5 (by omega)
    omega
theorem pk_4 {B : Nat → Nat} {p len : Nat} (h6 : len ≤ 6) (hL : ∀ j, j < len → 97 ≤ B (p + j) ∧ B (p + j) ≤ 122) : hn B p len 6 = 419023872 ↔ mtB B p len 4 = true := by
  rw [mtB_iff]
  have e : hn B p len 6 = (((((0 * 32 + dgt B p len 0) * 32 + dgt B p len 1) * 32 + dgt B p len 2) * 32 + dgt B p len 3) * 32 + dgt B p len 4) * 32 + dgt B p len 5 := rfl
  have g : ∀ j, (j < len → dgt B p len j = B (p + j) - 96 ∧ 97 ≤ B (p + j) ∧ B (p + j) ≤ 122) ∧ (len ≤ j → dgt B p len j = 0) := fun j => ⟨fun h => ⟨if_pos h, hL j h⟩, fun h => if_neg (by omega)⟩
  have g0 := g 0
  have g1 := g 1
  have g2 := g 2
  have g3 := g 3
  have g4 := g 4
  have g5 := g 5
  show _ ↔ (len = 4 ∧ ∀ j, j < 4 → B (p + j) = wch 4 j)
  rw [e]
  constructor
  · intro h
    have k : len = 4 ∧ B (p + 0) = 108 ∧ B (p + 1) = 111 ∧ B (p + 2) = 115 ∧ B (p + 3) = 115 := by omega
    refine ⟨k.1, ?_⟩
    intro j hj
    have hj' : j = 0 ∨ j = 1 ∨ j = 2 ∨ j = 3 := by omega
    rcases hj' with rfl | rfl | rfl | rfl
    · exact k.2.1
    · exact k.2.2.1
    · exact k.2.2.2.1
    · exact k.2.2.2.2
  · intro ⟨h1, h2⟩
    have k0 : B (p + 0) = 108 := h2 0 (by omega)
    have k1 : B (p + 1) = 111 := h2 1 (by omega)
    have k2 : B (p + 2) = 115 := h2 2 (by omega)
    have k3 : B (p + 3) = 115 := h2 3 (by omega)
    omega
theorem pk_5 {B : Nat → Nat} {p len : Nat} (h6 : len ≤ 6) (hL : ∀ j, j < len → 97 ≤ B (p + j) ∧ B (p + j) ≤ 122) : hn B p len 6 = 724748288 ↔ mtB B p len 5 = true := by
  rw [mtB_iff]
  have e : hn B p len 6 = (((((0 * 32 + dgt B p len 0) * 32 + dgt B p len 1) * 32 + dgt B p len 2) * 32 + dgt B p len 3) * 32 + dgt B p len 4) * 32 + dgt B p len 5 := rfl
  have g : ∀ j, (j < len → dgt B p len j = B (p + j) - 96 ∧ 97 ≤ B (p + j) ∧ B (p + j) ≤ 122) ∧ (len ≤ j → dgt B p len j = 0) := fun j => ⟨fun h => ⟨if_pos h, hL j h⟩, fun h => if_neg (by omega)⟩
  have g0 := g 0
  have g1 := g 1
  have g2 := g 2
  have g3 := g 3
  have g4 := g 4
  have g5 := g 5
  show _ ↔ (len = 4 ∧ ∀ j, j < 4 → B (p + j) = wch 5 j)
  rw [e]
  constructor
  · intro h
    have k : len = 4 ∧ B (p + 0) = 117 ∧ B (p + 1) = 115 ∧ B (p + 2) = 101 ∧ B (p + 3) = 114 := by omega
    refine ⟨k.1, ?_⟩
    intro j hj
    have hj' : j = 0 ∨ j = 1 ∨ j = 2 ∨ j = 3 := by omega
    rcases hj' with rfl | rfl | rfl | rfl
    · exact k.2.1
    · exact k.2.2.1
    · exact k.2.2.2.1
    · exact k.2.2.2.2
  · intro ⟨h1, h2⟩
    have k0 : B (p + 0) = 117 := h2 0 (by omega)
    have k1 : B (p + 1) = 115 := h2 1 (by omega)
    have k2 : B (p + 2) = 101 := h2 2 (by omega)
    have k3 : B (p + 3) = 114 := h2 3 (by omega)
    omega
theorem pk_6 {B : Nat → Nat} {p len : Nat} (h6 : len ≤ 6) (hL : ∀ j, j < len → 97 ≤ B (p + j) ∧ B (p + j) ≤ 122) : hn B p len 6 = 211555456 ↔ mtB B p len 6 = true := by
  rw [mtB_iff]
  have e : hn B p len 6 = (((((0 * 32 + dgt B p len 0) * 32 + dgt B p len 1) * 32 + dgt B p len 2) * 32 + dgt B p len 3) * 32 + dgt B p len 4) * 32 + dgt B p len 5 := rfl
  have g : ∀ j, (j < len → dgt B p len j = B (p + j) - 96 ∧ 97 ≤ B (p + j) ∧ B (p + j) ≤ 122) ∧ (len ≤ j → dgt B p len j = 0) := fun j => ⟨fun h => ⟨if_pos h, hL j h⟩, fun h => if_neg (by omega)⟩
  have g0 := g 0
  have g1 := g 1
  have g2 := g 2
  have g3 := g 3
  have g4 := g 4
  have g5 := g 5
  show _ ↔ (len = 5 ∧ ∀ j, j < 5 → B (p + j) = wch 6 j)
  rw [e]
  constructor
  · intro h
    have k : len = 5 ∧ B (p + 0) = 102 ∧ B (p + 1) = 105 ∧ B (p + 2) = 120 ∧ B (p + 3) = 101 ∧ B (p + 4) = 100 := by omega
    refine ⟨k.1, ?_⟩
    intro j hj
    have hj' : j = 0 ∨ j = 1 ∨ j = 2 ∨ j = 3 ∨ j = 4 := by omega
    rcases hj' with rfl | rfl | rfl | rfl | rfl
    · exact k.2.1
    · exact k.2.2.1
    · exact k.2.2.2.1
    · exact k.2.2.2.2.1
    · exact k.2.2.2.2.2
  · intro ⟨h1, h2⟩
    have k0 : B (p + 0) = 102 := h2 0 (by omega)
    have k1 : B (p + 1) = 105 := h2 1 (by omega)
    have k2 : B (p + 2) = 120 := h2 2 (by omega)
    have k3 : B (p + 3) = 101 := h2 3 (by omega)
    have k4 : B (p + 4) = 100 := h2 4 (by omega)
    omega
theorem pk_7 {B : Nat → Nat} {p len : Nat} (h6 : len ≤ 6) (hL : ∀ j, j < len → 97 ≤ B (p + j) ∧ B (p + j) ≤ 122) : hn B p len 6 = 80186720 ↔ mtB B p len 7 = true := by
  rw [mtB_iff]
  have e : hn B p len 6 = (((((0 * 32 + dgt B p len 0) * 32 + dgt B p len 1) * 32 + dgt B p len 2) * 32 + dgt B p len 3) * 32 + dgt B p len 4) * 32 + dgt B p len 5 := rfl
  have g : ∀ j, (j < len → dgt B p len j = B (p + j) - 96 ∧ 97 ≤ B (p + j) ∧ B (p + j) ≤ 122) ∧ (len ≤ j → dgt B p len j = 0) := fun j => ⟨fun h => ⟨if_pos h, hL j h⟩, fun h => if_neg (by omega)⟩
  have g0 := g 0
  have g1 := g 1
  have g2 := g 2
  have g3 := g 3
  have g4 := g 4
  have g5 := g 5
  show _ ↔ (len = 5 ∧ ∀ j, j < 5 → B (p + j) = wch 7 j)
  rw [e]
  constructor
  · intro h
    have k : len = 5 ∧ B (p + 0) = 98 ∧ B (p + 1) = 108 ∧ B (p + 2) = 111 ∧ B (p + 3) = 99 ∧ B (p + 4) = 107 := by omega
    refine ⟨k.1, ?_⟩
    intro j hj
    have hj' : j = 0 ∨ j = 1 ∨ j = 2 ∨ j = 3 ∨ j = 4 := by omega
    rcases hj' with rfl | rfl | rfl | rfl | rfl
    · exact k.2.1
    · exact k.2.2.1
    · exact k.2.2.2.1
    · exact k.2.2.2.2.1
    · exact k.2.2.2.2.2
  · intro ⟨h1, h2⟩
    have k0 : B (p + 0) = 98 := h2 0 (by omega)
    have k1 : B (p + 1) = 108 := h2 1 (by omega)
    have k2 : B (p + 2) = 111 := h2 2 (by omega)
    have k3 : B (p + 3) = 99 := h2 3 (by omega)
    have k4 : B (p + 4) = 107 := h2 4 (by omega)
    omega
theorem pk_8 {B : Nat → Nat} {p len : Nat} (h6 : len ≤ 6) (hL : ∀ j, j < len → 97 ≤ B (p + j) ∧ B (p + j) ≤ 122) : hn B p len 6 = 412560384 ↔ mtB B p len 8 = true := by
  rw [mtB_iff]
  have e : hn B p len 6 = (((((0 * 32 + dgt B p len 0) * 32 + dgt B p len 1) * 32 + dgt B p len 2) * 32 + dgt B p len 3) * 32 + dgt B p len 4) * 32 + dgt B p len 5 := rfl
  have g : ∀ j, (j < len → dgt B p len j = B (p + j) - 96 ∧ 97 ≤ B (p + j) ∧ B (p + j) ≤ 122) ∧ (len ≤ j → dgt B p len j = 0) := fun j => ⟨fun h => ⟨if_pos h, hL j h⟩, fun h => if_neg (by omega)⟩
  have g0 := g 0
  have g1 := g 1
  have g2 := g 2
  have g3 := g 3
  have g4 := g 4
  have g5 := g 5
  show _ ↔ (len = 4 ∧ ∀ j, j < 4 → B (p + j) = wch 8 j)
  rw [e]
  constructor
  · intro h
    have k : len = 4 ∧ B (p + 0) = 108 ∧ B (p + 1) = 105 ∧ B (p + 2) = 110 ∧ B (p + 3) = 107 := by omega
    refine ⟨k.1, ?_⟩
    intro j hj
    have hj' : j = 0 ∨ j = 1 ∨ j = 2 ∨ j = 3 := by omega
    rcases hj' with rfl | rfl | rfl | rfl
    · exact k.2.1
    · exact k.2.2.1
    · exact k.2.2.2.1
    · exact k.2.2.2.2
  · intro ⟨h1, h2⟩
    have k0 : B (p + 0) = 108 := h2 0 (by omega)
    have k1 : B (p + 1) = 105 := h2 1 (by omega)
    have k2 : B (p + 2) = 110 := h2 2 (by omega)
    have k3 : B (p + 3) = 107 := h2 3 (by omega)
    omega
theorem pk_9 {B : Nat → Nat} {p len : Nat} (h6 : len ≤ 6) (hL : ∀ j, j < len → 97 ≤ B (p + j) ∧ B (p + j) ≤ 122) : hn B p len 6 = 650629728 ↔ mtB B p len 9 = true := by
  rw [mtB_iff]
  have e : hn B p len 6 = (((((0 * 32 + dgt B p len 0) * 32 + dgt B p len 1) * 32 + dgt B p len 2) * 32 + dgt B p len 3) * 32 + dgt B p len 4) * 32 + dgt B p len 5 := rfl
  have g : ∀ j, (j < len → dgt B p len j = B (p + j) - 96 ∧ 97 ≤ B (p + j) ∧ B (p + j) ≤ 122) ∧ (len ≤ j → dgt B p len j = 0) := fun j => ⟨fun h => ⟨if_pos h, hL j h⟩, fun h => if_neg (by omega)⟩
  have g0 := g 0
  have g1 := g 1
  have g2 := g 2
  have g3 := g 3
  have g4 := g 4
  have g5 := g 5
  show _ ↔ (len = 5 ∧ ∀ j, j < 5 → B (p + j) = wch 9 j)
  rw [e]
  constructor
  · intro h
    have k : len = 5 ∧ B (p + 0) = 115 ∧ B (p + 1) = 108 ∧ B (p + 2) = 111 ∧ B (p + 3) = 116 ∧ B (p + 4) = 115 := by omega
    refine ⟨k.1, ?_⟩
    intro j hj
    have hj' : j = 0 ∨ j = 1 ∨ j = 2 ∨ j = 3 ∨ j = 4 := by omega
    rcases hj' with rfl | rfl | rfl | rfl | rfl
    · exact k.2.1
    · exact k.2.2.1
    · exact k.2.2.2.1
    · exact k.2.2.2.2.1
    · exact k.2.2.2.2.2
  · intro ⟨h1, h2⟩
    have k0 : B (p + 0) = 115 := h2 0 (by omega)
    have k1 : B (p + 1) = 108 := h2 1 (by omega)
    have k2 : B (p + 2) = 111 := h2 2 (by omega)
    have k3 : B (p + 3) = 116 := h2 3 (by omega)
    have k4 : B (p + 4) = 115 := h2 4 (by omega)
    omega
theorem pk_10 {B : Nat → Nat} {p len : Nat} (h6 : len ≤ 6) (hL : ∀ j, j < len → 97 ≤ B (p + j) ∧ B (p + j) ≤ 122) : hn B p len 6 = 642945024 ↔ mtB B p len 10 = true := by
  rw [mtB_iff]
  have e : hn B p len 6 = (((((0 * 32 + dgt B p len 0) * 32 + dgt B p len 1) * 32 + dgt B p len 2) * 32 + dgt B p len 3) * 32 + dgt B p len 4) * 32 + dgt B p len 5 := rfl
  have g : ∀ j, (j < len → dgt B p len j = B (p + j) - 96 ∧ 97 ≤ B (p + j) ∧ B (p + j) ≤ 122) ∧ (len ≤ j → dgt B p len j = 0) := fun j => ⟨fun h => ⟨if_pos h, hL j h⟩, fun h => if_neg (by omega)⟩
  have g0 := g 0
  have g1 := g 1
  have g2 := g 2
  have g3 := g 3
  have g4 := g 4
  have g5 := g 5
  show _ ↔ (len = 4 ∧ ∀ j, j < 4 → B (p + j) = wch 10 j)
  rw [e]
  constructor
  · intro h
    have k : len = 4 ∧ B (p + 0) = 115 ∧ B (p + 1) = 101 ∧ B (p + 2) = 101 ∧ B (p + 3) = 100 := by omega
    refine ⟨k.1, ?_⟩
    intro j hj
    have hj' : j = 0 ∨ j = 1 ∨ j = 2 ∨ j = 3 := by omega
    rcases hj' with rfl | rfl | rfl | rfl
    · exact k.2.1
    · exact k.2.2.1
    · exact k.2.2.2.1
    · exact k.2.2.2.2
  · intro ⟨h1, h2⟩
    have k0 : B (p + 0) = 115 := h2 0 (by omega)
    have k1 : B (p + 1) = 101 := h2 1 (by omega)
    have k2 : B (p + 2) = 101 := h2 2 (by omega)
    have k3 : B (p + 3) = 100 := h2 3 (by omega)
    omega
theorem pk_all {B : Nat → Nat} {p len : Nat} (h6 : len ≤ 6) (hL : ∀ j, j < len → 97 ≤ B (p + j) ∧ B (p + j) ≤ 122) : ∀ w, w < 11 → (hn B p len 6 = wc w ↔ mtB B p len w = true) := by
  intro w hw
  have : w = 0 ∨ w = 1 ∨ w = 2 ∨ w = 3 ∨ w = 4 ∨ w = 5 ∨ w = 6 ∨ w = 7 ∨ w = 8 ∨ w = 9 ∨ w = 10 := by omega
  rcases this with rfl | rfl | rfl | rfl | rfl | rfl | rfl | rfl | rfl | rfl | rfl
  · exact pk_0 h6 hL
  · exact pk_1 h6 hL
  · exact pk_2 h6 hL
  · exact pk_3 h6 hL
  · exact pk_4 h6 hL
  · exact pk_5 h6 hL
  · exact pk_6 h6 hL
  · exact pk_7 h6 hL
  · exact pk_8 h6 hL
  · exact pk_9 h6 hL
  · exact pk_10 h6 hL
