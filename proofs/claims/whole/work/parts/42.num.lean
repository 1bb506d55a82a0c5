/-! NUMBERS: the whole numbers within the machine's ints -/
def zI (z : Int) : Int32 := Int32.ofInt z
theorem zI_add (a b : Int) : zI a + zI b = zI (a + b) := (Int32.ofInt_add a b).symm
theorem zI_sub (a b : Int) : zI a - zI b = zI (a - b) := (Int32.ofInt_sub a b).symm
theorem zI_mul (a b : Int) : zI a * zI b = zI (a * b) := (Int32.ofInt_mul a b).symm
theorem zI_neg (a : Int) : -zI a = zI (-a) := (Int32.ofInt_neg a).symm
theorem zI_toInt {a : Int} (h : -2147483648 ≤ a) (h' : a < 2147483648) : (zI a).toInt = a := Int32.toInt_ofInt_of_le (by omega) (by omega)
theorem zI_le {a b : Int} (h1 : -2147483648 ≤ a) (h2 : a < 2147483648) (h3 : -2147483648 ≤ b) (h4 : b < 2147483648) : zI a ≤ zI b ↔ a ≤ b := by
  rw [Int32.le_iff_toInt_le, zI_toInt h1 h2, zI_toInt h3 h4]
theorem zI_lt {a b : Int} (h1 : -2147483648 ≤ a) (h2 : a < 2147483648) (h3 : -2147483648 ≤ b) (h4 : b < 2147483648) : zI a < zI b ↔ a < b := by
  rw [Int32.lt_iff_toInt_lt, zI_toInt h1 h2, zI_toInt h3 h4]
theorem zI_eq {a b : Int} (h1 : -2147483648 ≤ a) (h2 : a < 2147483648) (h3 : -2147483648 ≤ b) (h4 : b < 2147483648) : zI a = zI b ↔ a = b := by
  rw [← Int32.toInt_inj, zI_toInt h1 h2, zI_toInt h3 h4]
theorem zI_cl {a : Int} (h : -2147483648 ≤ a) (h' : a < 2147483648) : (zI a).toNatClampNeg = a.toNat := Int32.toNatClampNeg_ofInt_of_le (by omega) (by omega)
theorem zL : (0 : Int32) = zI 0 ∧ (1 : Int32) = zI 1 ∧ (2 : Int32) = zI 2 ∧ (3 : Int32) = zI 3 ∧ (4 : Int32) = zI 4 ∧ (5 : Int32) = zI 5 ∧ (6 : Int32) = zI 6 ∧ (7 : Int32) = zI 7 ∧ (8 : Int32) = zI 8 ∧ (9 : Int32) = zI 9 ∧ (10 : Int32) = zI 10 ∧ (11 : Int32) = zI 11 ∧ (12 : Int32) = zI 12 ∧ (16 : Int32) = zI 16 ∧ (19 : Int32) = zI 19 ∧ (20 : Int32) = zI 20 ∧ (24 : Int32) = zI 24 ∧ (25 : Int32) = zI 25 ∧ (30 : Int32) = zI 30 ∧ (31 : Int32) = zI 31 ∧ (32 : Int32) = zI 32 ∧ (48 : Int32) = zI 48 ∧ (57 : Int32) = zI 57 ∧ (59 : Int32) = zI 59 ∧ (60 : Int32) = zI 60 ∧ (61 : Int32) = zI 61 ∧ (62 : Int32) = zI 62 ∧ (63 : Int32) = zI 63 ∧ (73 : Int32) = zI 73 ∧ (79 : Int32) = zI 79 ∧ (96 : Int32) = zI 96 ∧ (97 : Int32) = zI 97 ∧ (99 : Int32) = zI 99 ∧ (122 : Int32) = zI 122 ∧ (127 : Int32) = zI 127 ∧ (180 : Int32) = zI 180 ∧ (255 : Int32) = zI 255 ∧ (600 : Int32) = zI 600 ∧ (680 : Int32) = zI 680 ∧ (700 : Int32) = zI 700 ∧ (1000 : Int32) = zI 1000 ∧ (1202 : Int32) = zI 1202 ∧ (1501 : Int32) = zI 1501 ∧ (12345 : Int32) = zI 12345 ∧ (99999 : Int32) = zI 99999 ∧ (1000000 : Int32) = zI 1000000 ∧ (68620288 : Int32) = zI 68620288 ∧ (80186720 : Int32) = zI 80186720 ∧ (211555456 : Int32) = zI 211555456 ∧ (252645135 : Int32) = zI 252645135 ∧ (256952448 : Int32) = zI 256952448 ∧ (412560384 : Int32) = zI 412560384 ∧ (419023872 : Int32) = zI 419023872 ∧ (522327635 : Int32) = zI 522327635 ∧ (642945024 : Int32) = zI 642945024 ∧ (650629728 : Int32) = zI 650629728 ∧ (654347424 : Int32) = zI 654347424 ∧ (724748288 : Int32) = zI 724748288 ∧ (858993459 : Int32) = zI 858993459 ∧ (1103515245 : Int32) = zI 1103515245 ∧ (1431655765 : Int32) = zI 1431655765 ∧ (2147483647 : Int32) = zI 2147483647 := by decide
theorem zI_of (x : Int32) : x = zI x.toInt := (Int32.ofInt_toInt x).symm
theorem nI_zI (n : Nat) : nI n = zI n := (Int32.ofInt_eq_ofNat).symm
theorem zT_add {a b : Int} (h : 0 ≤ a) (h' : 0 ≤ b) : (a + b).toNat = a.toNat + b.toNat := Int.toNat_add h h'
theorem zT_mul {a b : Int} (h : 0 ≤ a) (h' : 0 ≤ b) : (a * b).toNat = a.toNat * b.toNat := Int.toNat_mul h h'
theorem zc_a (a b : Nat) : ((a + b : Nat) : Int) = (a : Int) + (b : Int) := by omega
theorem zc_m (a b : Nat) : ((a * b : Nat) : Int) = (a : Int) * (b : Int) := Int.natCast_mul a b
theorem zc_l : ((0 : Nat) : Int) = 0 ∧ ((1 : Nat) : Int) = 1 ∧ ((2 : Nat) : Int) = 2 ∧ ((3 : Nat) : Int) = 3 ∧ ((4 : Nat) : Int) = 4 ∧ ((5 : Nat) : Int) = 5 ∧ ((6 : Nat) : Int) = 6 ∧ ((8 : Nat) : Int) = 8 := by decide
theorem iteT {α : Type} {c : Prop} {d : Decidable c} {a b : α} (h : c) : @ite α c d a b = a := if_pos h
theorem iteF {α : Type} {c : Prop} {d : Decidable c} {a b : α} (h : ¬ c) : @ite α c d a b = b := if_neg h
theorem qG {α : Type} (f : Nat → Nat → α) (t j t' j' : Nat) (v : α) : qc_u2 f t j v t' j' = if t' = t ∧ j' = j then v else f t' j' := by
  unfold qc_u2 qc_u
  by_cases h : t' = t
  · subst h
    by_cases h2 : j' = j
    · simp [h2]
    · simp [h2]
  · simp [h]
theorem qG1 {α : Type} (f : Nat → α) (k j : Nat) (v : α) : qc_u f k v j = if j = k then v else f j := rfl
/-! a truth value as an int -/
def bI (b : Bool) : Int32 := if b = true then zI 1 else zI 0
theorem bI_0 (b : Bool) : bI b = zI 0 ↔ b = false := by cases b <;> decide
theorem bI_1 (b : Bool) : bI b = zI 1 ↔ b = true := by cases b <;> decide
theorem bI_p {p : Prop} {d : Decidable p} (h : p) : bI (@decide p d) = zI 1 := by rw [decide_eq_true h]; rfl
theorem bI_n {p : Prop} {d : Decidable p} (h : ¬ p) : bI (@decide p d) = zI 0 := by rw [decide_eq_false h]; rfl
theorem bI_T : bI true = zI 1 := rfl
theorem bI_F : bI false = zI 0 := rfl
/-! a loop of a counter -/
def it {σ : Type} (st : Nat → σ → σ) : Nat → Nat → σ → σ
  | 0, _, s => s
  | d + 1, k, s => it st d (k + 1) (st k s)
theorem it_run {σ β : Type} (L : Nat → Nat → σ → Option β) (st : Nat → σ → σ) (fin : σ → Option β) (n : Nat) (hs : ∀ f k s, k < n → L (f + 1) k s = L f (k + 1) (st k s)) (he : ∀ f s, L (f + 1) n s = fin s) : ∀ d k f s, k + d = n → d < f → L f k s = fin (it st d k s) := by
  intro d
  induction d with
  | zero =>
    intro k f s hk hf
    obtain ⟨g, rfl⟩ : ∃ g, f = g + 1 := ⟨f - 1, by omega⟩
    have : k = n := by omega
    subst this
    exact he g s
  | succ d ih =>
    intro k f s hk hf
    obtain ⟨g, rfl⟩ : ∃ g, f = g + 1 := ⟨f - 1, by omega⟩
    rw [hs g k s (by omega), ih (k + 1) g (st k s) (by omega) (by omega)]
    rfl
/-- with something that stays so -/
theorem it_runI {σ β : Type} (L : Nat → Nat → σ → Option β) (st : Nat → σ → σ) (fin : σ → Option β) (n : Nat) (Inv : Nat → σ → Prop) (hs : ∀ f k s, k < n → Inv k s → L (f + 1) k s = L f (k + 1) (st k s) ∧ Inv (k + 1) (st k s)) (he : ∀ f s, Inv n s → L (f + 1) n s = fin s) : ∀ d k f s, k + d = n → d < f → Inv k s → L f k s = fin (it st d k s) ∧ Inv n (it st d k s) := by
  intro d
  induction d with
  | zero =>
    intro k f s hk hf hi
    obtain ⟨g, rfl⟩ : ∃ g, f = g + 1 := ⟨f - 1, by omega⟩
    have : k = n := by omega
    subst this
    exact ⟨he g s hi, hi⟩
  | succ d ih =>
    intro k f s hk hf hi
    obtain ⟨g, rfl⟩ : ∃ g, f = g + 1 := ⟨f - 1, by omega⟩
    obtain ⟨e1, e2⟩ := hs g k s (by omega) hi
    rw [e1]
    exact ih (k + 1) g (st k s) (by omega) (by omega) e2
/-! a search of a counter: the first for which something is -/
def fnd {β : Type} (st : Nat → Option β) (z : β) : Nat → Nat → β
  | 0, _ => z
  | d + 1, k => (st k).getD (fnd st z d (k + 1))
theorem fnd_run {β : Type} (L : Nat → Nat → Option β) (st : Nat → Option β) (z : β) (n : Nat) (hs : ∀ f k, k < n → L (f + 1) k = match st k with | some r => some r | none => L f (k + 1)) (he : ∀ f, L (f + 1) n = some z) : ∀ d k f, k + d = n → d < f → L f k = some (fnd st z d k) := by
  intro d
  induction d with
  | zero =>
    intro k f hk hf
    obtain ⟨g, rfl⟩ : ∃ g, f = g + 1 := ⟨f - 1, by omega⟩
    have : k = n := by omega
    subst this
    exact he g
  | succ d ih =>
    intro k f hk hf
    obtain ⟨g, rfl⟩ : ∃ g, f = g + 1 := ⟨f - 1, by omega⟩
    rw [hs g k (by omega)]
    unfold fnd
    cases e : st k with
    | some r => rfl
    | none => exact ih (k + 1) g (by omega) (by omega)
