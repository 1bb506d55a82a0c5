/-! HOW MANY bits a long has: what Long.bitCount works out, byte by byte -/
theorem and_step (a b c d : Nat) (h1 : a < 256) (h2 : c < 256) : (a + 256 * b) &&& (c + 256 * d) = (a &&& c) + 256 * (b &&& d) := by
  have e1 : ((a + 256 * b) &&& (c + 256 * d)) % 2 ^ 8 = a &&& c := by
    rw [Nat.and_mod_two_pow, show (a + 256 * b) % 2 ^ 8 = a by omega, show (c + 256 * d) % 2 ^ 8 = c by omega]
  have e2 : ((a + 256 * b) &&& (c + 256 * d)) >>> 8 = b &&& d := by
    rw [Nat.shiftRight_and_distrib, Nat.shiftRight_eq_div_pow, Nat.shiftRight_eq_div_pow, show (a + 256 * b) / 2 ^ 8 = b by omega, show (c + 256 * d) / 2 ^ 8 = d by omega]
  rw [Nat.shiftRight_eq_div_pow] at e2
  have e3 := Nat.div_add_mod ((a + 256 * b) &&& (c + 256 * d)) (2 ^ 8)
  rw [e1, e2] at e3
  omega
def hz (f : Nat → Nat) : Nat → Nat → Nat
  | 0, _ => 0
  | d + 1, k => f k + 256 * hz f d (k + 1)
theorem hz_cg {f g : Nat → Nat} : ∀ d k, (∀ i, k ≤ i → i < k + d → f i = g i) → hz f d k = hz g d k := by
  intro d
  induction d with
  | zero => intro k _; rfl
  | succ d ih =>
    intro k h
    show f k + 256 * hz f d (k + 1) = g k + 256 * hz g d (k + 1)
    rw [h k (by omega) (by omega), ih (k + 1) (fun i h1 h2 => h i (by omega) (by omega))]
theorem hz_and {f : Nat → Nat} {m : Nat} (hf : ∀ i, f i < 256) (hm : m < 256) : ∀ d k, hz f d k &&& hz (fun _ => m) d k = hz (fun i => f i &&& m) d k := by
  intro d
  induction d with
  | zero => intro k; show 0 &&& 0 = 0; decide
  | succ d ih =>
    intro k
    show (f k + 256 * hz f d (k + 1)) &&& (m + 256 * hz (fun _ => m) d (k + 1)) = (f k &&& m) + 256 * hz (fun i => f i &&& m) d (k + 1)
    rw [and_step _ _ _ _ (hf k) hm, ih]
theorem hz_add {f g : Nat → Nat} : ∀ d k, hz f d k + hz g d k = hz (fun i => f i + g i) d k := by
  intro d
  induction d with
  | zero => intro k; rfl
  | succ d ih =>
    intro k
    show f k + 256 * hz f d (k + 1) + (g k + 256 * hz g d (k + 1)) = f k + g k + 256 * hz (fun i => f i + g i) d (k + 1)
    rw [← ih]
    omega
theorem hz_sub {f g : Nat → Nat} (h : ∀ i, g i ≤ f i) : ∀ d k, hz g d k ≤ hz f d k ∧ hz f d k - hz g d k = hz (fun i => f i - g i) d k := by
  intro d
  induction d with
  | zero => intro k; exact ⟨Nat.le_refl _, rfl⟩
  | succ d ih =>
    intro k
    have h1 := h k
    obtain ⟨h2, h3⟩ := ih (k + 1)
    have e1 : hz f (d + 1) k = f k + 256 * hz f d (k + 1) := rfl
    have e2 : hz g (d + 1) k = g k + 256 * hz g d (k + 1) := rfl
    have e3 : hz (fun i => f i - g i) (d + 1) k = f k - g k + 256 * hz (fun i => f i - g i) d (k + 1) := rfl
    rw [e1, e2, e3, ← h3]
    omega
theorem hz_lt {f : Nat → Nat} (hf : ∀ i, f i < 256) : ∀ d k, hz f d k < 256 ^ d := by
  intro d
  induction d with
  | zero => intro k; exact Nat.one_pos
  | succ d ih =>
    intro k
    have := ih (k + 1)
    have h1 := hf k
    show f k + 256 * hz f d (k + 1) < 256 ^ (d + 1)
    rw [Nat.pow_succ]
    omega
theorem hz_sc (f : Nat → Nat) : ∀ d k, hz (fun i => f (i + 1)) d k = hz f d (k + 1) := by
  intro d
  induction d with
  | zero => intro k; rfl
  | succ d ih =>
    intro k
    show f (k + 1) + 256 * hz (fun i => f (i + 1)) d (k + 1) = f (k + 1) + 256 * hz f d (k + 1 + 1)
    rw [ih]
theorem hz_ext {f : Nat → Nat} : ∀ d k, f (k + d) = 0 → hz f (d + 1) k = hz f d k := by
  intro d
  induction d with
  | zero =>
    intro k h
    show f k + 256 * 0 = 0
    rw [Nat.add_zero] at h
    omega
  | succ d ih =>
    intro k h
    have := ih (k + 1) (by rw [show k + 1 + d = k + (d + 1) by omega]; exact h)
    show f k + 256 * hz f (d + 1) (k + 1) = f k + 256 * hz f d (k + 1)
    rw [this]
theorem hz_8 {f : Nat → Nat} {d k : Nat} (hf : f k < 256) (h0 : f (k + (d + 1)) = 0) : hz f (d + 1) k / 256 = hz (fun i => f (i + 1)) (d + 1) k := by
  rw [hz_sc, hz_ext d (k + 1) (by rw [show k + 1 + d = k + (d + 1) by omega]; exact h0)]
  show (f k + 256 * hz f d (k + 1)) / 256 = _
  omega
theorem hz_2 {f : Nat → Nat} : ∀ d k, f (k + d) = 0 → hz f d k / 2 = hz (fun i => f i / 2 + 128 * (f (i + 1) % 2)) d k := by
  intro d
  induction d with
  | zero => intro k _; show 0 / 2 = 0; decide
  | succ d ih =>
    intro k h
    have hx := ih (k + 1) (by rw [show k + 1 + d = k + (d + 1) by omega]; exact h)
    have hm : hz f d (k + 1) % 2 = f (k + 1) % 2 := by
      cases d with
      | zero =>
        rw [show f (k + 1) = 0 from h]
        rfl
      | succ d =>
        show (f (k + 1) + 256 * hz f d (k + 1 + 1)) % 2 = _
        omega
    show (f k + 256 * hz f d (k + 1)) / 2 = f k / 2 + 128 * (f (k + 1) % 2) + 256 * hz (fun i => f i / 2 + 128 * (f (i + 1) % 2)) d (k + 1)
    rw [← hx]
    omega
theorem hz_4 {f : Nat → Nat} : ∀ d k, f (k + d) = 0 → hz f d k / 4 = hz (fun i => f i / 4 + 64 * (f (i + 1) % 4)) d k := by
  intro d
  induction d with
  | zero => intro k _; show 0 / 4 = 0; decide
  | succ d ih =>
    intro k h
    have hx := ih (k + 1) (by rw [show k + 1 + d = k + (d + 1) by omega]; exact h)
    have hm : hz f d (k + 1) % 4 = f (k + 1) % 4 := by
      cases d with
      | zero =>
        rw [show f (k + 1) = 0 from h]
        rfl
      | succ d =>
        show (f (k + 1) + 256 * hz f d (k + 1 + 1)) % 4 = _
        omega
    show (f k + 256 * hz f d (k + 1)) / 4 = f k / 4 + 64 * (f (k + 1) % 4) + 256 * hz (fun i => f i / 4 + 64 * (f (i + 1) % 4)) d (k + 1)
    rw [← hx]
    omega
theorem hz_16 {f : Nat → Nat} : ∀ d k, f (k + d) = 0 → hz f d k / 16 = hz (fun i => f i / 16 + 16 * (f (i + 1) % 16)) d k := by
  intro d
  induction d with
  | zero => intro k _; show 0 / 16 = 0; decide
  | succ d ih =>
    intro k h
    have hx := ih (k + 1) (by rw [show k + 1 + d = k + (d + 1) by omega]; exact h)
    have hm : hz f d (k + 1) % 16 = f (k + 1) % 16 := by
      cases d with
      | zero =>
        rw [show f (k + 1) = 0 from h]
        rfl
      | succ d =>
        show (f (k + 1) + 256 * hz f d (k + 1 + 1)) % 16 = _
        omega
    show (f k + 256 * hz f d (k + 1)) / 16 = f k / 16 + 16 * (f (k + 1) % 16) + 256 * hz (fun i => f i / 16 + 16 * (f (i + 1) % 16)) d (k + 1)
    rw [← hx]
    omega
/-- the bytes of a number -/
def byt (X i : Nat) : Nat := X / 256 ^ i % 256
theorem hz_byt (X : Nat) : ∀ d k, hz (byt X) d k = X / 256 ^ k % 256 ^ d := by
  intro d
  induction d with
  | zero => intro k; show 0 = _; rw [Nat.pow_zero, Nat.mod_one]
  | succ d ih =>
    intro k
    show X / 256 ^ k % 256 + 256 * hz (byt X) d (k + 1) = _
    rw [ih, Nat.pow_succ 256 d, Nat.mul_comm (256 ^ d) 256, Nat.mod_mul, Nat.div_div_eq_div_mul, ← Nat.pow_succ]
theorem byt_8 {X : Nat} (h : X < 18446744073709551616) {i : Nat} (hi : 8 ≤ i) : byt X i = 0 := by
  unfold byt
  have h1 : 256 ^ 8 ≤ 256 ^ i := Nat.pow_le_pow_right (by omega) hi
  have h2 : (256 : Nat) ^ 8 = 18446744073709551616 := by decide
  rw [Nat.div_eq_of_lt (by omega)]
def pop8 (b : Nat) : Nat := b % 2 + b / 2 % 2 + b / 4 % 2 + b / 8 % 2 + b / 16 % 2 + b / 32 % 2 + b / 64 % 2 + b / 128 % 2
def sw1 (b : Nat) : Nat := b - (b / 2 &&& 85)
def sw2 (b : Nat) : Nat := (sw1 b &&& 51) + (sw1 b / 4 &&& 51)
theorem sw_d : ∀ b : Fin 256, (b.val / 2 &&& 85) ≤ b.val ∧ sw1 b.val < 256 ∧ sw2 b.val < 256 ∧ sw2 b.val % 16 ≤ 4 ∧ sw2 b.val / 16 ≤ 4 ∧ (sw2 b.val + sw2 b.val / 16) % 16 = pop8 b.val ∧ pop8 b.val ≤ 8 := by decide +kernel
theorem sw_a : ∀ (p : Fin 128) (r : Fin 2), (p.val + 128 * r.val) &&& 85 = p.val &&& 85 := by decide +kernel
theorem sw_b : ∀ (p : Fin 64) (r : Fin 4), (p.val + 64 * r.val) &&& 51 = p.val &&& 51 := by decide +kernel
theorem sw_0 : sw1 0 = 0 ∧ sw2 0 = 0 ∧ pop8 0 = 0 := by decide
def nL (x : Int64) : Nat := x.toBitVec.toNat
theorem nL_lt (x : Int64) : nL x < 18446744073709551616 := x.toBitVec.isLt
theorem nL_sub {a b : Int64} (h : nL b ≤ nL a) : nL (a - b) = nL a - nL b := by
  have h1 := nL_lt a
  have h2 := nL_lt b
  unfold nL at *
  rw [Int64.toBitVec_sub, BitVec.toNat_sub]
  omega
theorem nL_add {a b : Int64} (h : nL a + nL b < 18446744073709551616) : nL (a + b) = nL a + nL b := by
  unfold nL at *
  rw [Int64.toBitVec_add, BitVec.toNat_add]
  omega
theorem nL_and (a b : Int64) : nL (a &&& b) = nL a &&& nL b := by
  unfold nL
  rw [Int64.toBitVec_and, BitVec.toNat_and]
theorem nL_shr (a : Int64) {s : UInt64} {k : Nat} (hs : s.toNat = k) (hk : k < 64) : nL ((a.toUInt64 >>> s).toInt64) = nL a / 2 ^ k := by
  show (a.toUInt64 >>> s).toNat = _
  rw [UInt64.toNat_shiftRight, hs, Nat.mod_eq_of_lt hk, Nat.shiftRight_eq_div_pow]
  rfl
theorem sm_add2 (g : Nat → Nat) : ∀ a b k, sm g (a + b) k = sm g a k + sm g b (k + a) := by
  intro a
  induction a with
  | zero => intro b k; rw [Nat.zero_add, Nat.add_zero]; show _ = 0 + _; rw [Nat.zero_add]
  | succ a ih =>
    intro b k
    rw [show a + 1 + b = (a + b) + 1 by omega]
    show g k + sm g (a + b) (k + 1) = g k + sm g a (k + 1) + sm g b (k + (a + 1))
    rw [ih, show k + 1 + a = k + (a + 1) by omega]
    omega
theorem bJ_n (x : Int64) (c : Nat) : b1 (bJ x c) = nL x / 2 ^ c % 2 := by
  unfold bJ nL b1
  rw [BitVec.getLsbD_eq_getElem?_getD]
  by_cases h : x.toBitVec.toNat.testBit c = true
  · have e := h
    rw [Nat.testBit_eq_decide_div_mod_eq, decide_eq_true_eq] at e
    have : (x.toBitVec[c]?.getD false) = true := by
      rw [← BitVec.getLsbD_eq_getElem?_getD]
      exact h
    rw [if_pos this, e]
  · have e := h
    rw [Nat.testBit_eq_decide_div_mod_eq, decide_eq_true_eq] at e
    have : ¬ (x.toBitVec[c]?.getD false) = true := by
      rw [← BitVec.getLsbD_eq_getElem?_getD]
      exact h
    rw [if_neg this]
    omega
theorem sm_byte (x : Int64) (i : Nat) : sm (fun c => b1 (bJ x c)) 8 (8 * i) = pop8 (byt (nL x) i) := by
  have e : sm (fun c => b1 (bJ x c)) 8 (8 * i) = b1 (bJ x (8 * i)) + (b1 (bJ x (8 * i + 1)) + (b1 (bJ x (8 * i + 2)) + (b1 (bJ x (8 * i + 3)) + (b1 (bJ x (8 * i + 4)) + (b1 (bJ x (8 * i + 5)) + (b1 (bJ x (8 * i + 6)) + (b1 (bJ x (8 * i + 7)) + 0))))))) := rfl
  rw [e]
  simp only [bJ_n, Nat.pow_add, ← Nat.div_div_eq_div_mul]
  have h8 : 2 ^ (8 * i) = 256 ^ i := by rw [Nat.pow_mul]
  rw [h8]
  unfold pop8 byt
  generalize nL x / 256 ^ i = Y
  omega
theorem x_long (x : Int64) : P_J13_bitCount_95d88 x = some (zI (sm (fun c => b1 (bJ x c)) 64 0 : Nat)) := by
  have hlt := nL_lt x
  have b256 : ∀ i, byt (nL x) i < 256 := fun i => Nat.mod_lt _ (by omega)
  have D : ∀ i, _ := fun i => sw_d ⟨byt (nL x) i, b256 i⟩
  dsimp only at D
  have Z : ∀ i, 8 ≤ i → byt (nL x) i = 0 := fun i hi => byt_8 hlt hi
  have e0 : nL x = hz (byt (nL x)) 8 0 := by
    rw [hz_byt, Nat.pow_zero, Nat.div_one, Nat.mod_eq_of_lt (by rw [show (256 : Nat) ^ 8 = 18446744073709551616 from by decide]; exact hlt)]
  have key : wp (P_J13_bitCount_95d88 x) (fun r => r = zI (sm (fun c => b1 (bJ x c)) 64 0 : Nat)) := by
    unfold P_J13_bitCount_95d88
    refine wp_let fun x1 h1 => wp_let fun x2 h2 => wp_let fun x3 h3 => wp_let fun x4 h4 => wp_let fun x5 h5 => wp_let fun x6 h6 => wp_some ?_
    have s1 := nL_shr x (s := (1 : Int32).toInt64.toUInt64 &&& Int64.toUInt64 63) (k := 1) (by decide) (by omega)
    have s2 := nL_shr x1 (s := (2 : Int32).toInt64.toUInt64 &&& Int64.toUInt64 63) (k := 2) (by decide) (by omega)
    have s4 := nL_shr x2 (s := (4 : Int32).toInt64.toUInt64 &&& Int64.toUInt64 63) (k := 4) (by decide) (by omega)
    have s8 := nL_shr x3 (s := (8 : Int32).toInt64.toUInt64 &&& Int64.toUInt64 63) (k := 8) (by decide) (by omega)
    have s16 := nL_shr x4 (s := (16 : Int32).toInt64.toUInt64 &&& Int64.toUInt64 63) (k := 16) (by decide) (by omega)
    have s32 := nL_shr x5 (s := (32 : Int32).toInt64.toUInt64 &&& Int64.toUInt64 63) (k := 32) (by decide) (by omega)
    have q85 : nL (6148914691236517205 : Int64) = hz (fun _ => 85) 8 0 := by decide
    have q51 : nL (3689348814741910323 : Int64) = hz (fun _ => 51) 8 0 := by decide
    have q15 : nL (1085102592571150095 : Int64) = hz (fun _ => 15) 8 0 := by decide
    -- the first
    have a1 : nL (((x.toUInt64 >>> ((1 : Int32).toInt64.toUInt64 &&& Int64.toUInt64 63)).toInt64) &&& (6148914691236517205 : Int64)) = hz (fun i => byt (nL x) i / 2 &&& 85) 8 0 := by
      rw [nL_and, s1, q85, show nL x / 2 ^ 1 = hz (byt (nL x)) 8 0 / 2 by rw [← e0], hz_2 8 0 (Z _ (by omega)), hz_and (fun i => by have := b256 i; omega) (by omega)]
      refine hz_cg 8 0 ?_
      intro i _ _
      have := b256 i
      exact sw_a ⟨byt (nL x) i / 2, by omega⟩ ⟨byt (nL x) (i + 1) % 2, by omega⟩
    have n1 : nL x1 = hz (fun i => sw1 (byt (nL x) i)) 8 0 := by
      have hs := hz_sub (f := byt (nL x)) (g := fun i => byt (nL x) i / 2 &&& 85) (fun i => (D i).1) 8 0
      have hle : nL (((x.toUInt64 >>> ((1 : Int32).toInt64.toUInt64 &&& Int64.toUInt64 63)).toInt64) &&& (6148914691236517205 : Int64)) ≤ nL x := by
        rw [a1]
        exact Nat.le_trans hs.1 (Nat.le_of_eq e0.symm)
      rw [h1, nL_sub hle, a1]
      exact (congrArg (fun y => y - hz (fun i => byt (nL x) i / 2 &&& 85) 8 0) e0).trans hs.2
    -- the second
    have a2 : nL (((x1.toUInt64 >>> ((2 : Int32).toInt64.toUInt64 &&& Int64.toUInt64 63)).toInt64) &&& (3689348814741910323 : Int64)) = hz (fun i => sw1 (byt (nL x) i) / 4 &&& 51) 8 0 := by
      rw [nL_and, s2, q51, n1, show (2 : Nat) ^ 2 = 4 from rfl, hz_4 8 0 (by rw [Z _ (by omega)]; exact sw_0.1), hz_and (fun i => by have := (D i).2.1; omega) (by omega)]
      refine hz_cg 8 0 ?_
      intro i _ _
      have := (D i).2.1
      exact sw_b ⟨sw1 (byt (nL x) i) / 4, by omega⟩ ⟨sw1 (byt (nL x) (i + 1)) % 4, by omega⟩
    have a2' : nL (x1 &&& (3689348814741910323 : Int64)) = hz (fun i => sw1 (byt (nL x) i) &&& 51) 8 0 := by
      rw [nL_and, q51, n1, hz_and (fun i => (D i).2.1) (by omega)]
    have b2 : hz (fun i => sw1 (byt (nL x) i) &&& 51) 8 0 + hz (fun i => sw1 (byt (nL x) i) / 4 &&& 51) 8 0 = hz (fun i => sw2 (byt (nL x) i)) 8 0 := hz_add 8 0
    have l2 : hz (fun i => sw2 (byt (nL x) i)) 8 0 < 18446744073709551616 := hz_lt (fun i => (D i).2.2.1) 8 0
    have n2 : nL x2 = hz (fun i => sw2 (byt (nL x) i)) 8 0 := by
      rw [h2, nL_add (by rw [a2, a2', b2]; exact l2), a2, a2', b2]
    -- the third
    have a3 : nL ((x2.toUInt64 >>> ((4 : Int32).toInt64.toUInt64 &&& Int64.toUInt64 63)).toInt64) = hz (fun i => sw2 (byt (nL x) i) / 16 + 16 * (sw2 (byt (nL x) (i + 1)) % 16)) 8 0 := by
      rw [s4, n2, show (2 : Nat) ^ 4 = 16 from rfl, hz_16 8 0 (by rw [Z _ (by omega)]; exact sw_0.2.1)]
    have b3 : hz (fun i => sw2 (byt (nL x) i)) 8 0 + hz (fun i => sw2 (byt (nL x) i) / 16 + 16 * (sw2 (byt (nL x) (i + 1)) % 16)) 8 0 = hz (fun i => sw2 (byt (nL x) i) + (sw2 (byt (nL x) i) / 16 + 16 * (sw2 (byt (nL x) (i + 1)) % 16))) 8 0 := hz_add 8 0
    have d3 : ∀ i, sw2 (byt (nL x) i) + (sw2 (byt (nL x) i) / 16 + 16 * (sw2 (byt (nL x) (i + 1)) % 16)) < 256 := by
      intro i
      have t1 := (D i).2.2.2.1
      have t2 := (D i).2.2.2.2.1
      have t3 := (D (i + 1)).2.2.2.1
      omega
    have n3 : nL x3 = hz (fun i => pop8 (byt (nL x) i)) 8 0 := by
      rw [h3, nL_and, nL_add (by rw [a3, n2, b3]; exact hz_lt d3 8 0), a3, n2, b3, q15, hz_and d3 (by omega)]
      refine hz_cg 8 0 ?_
      intro i _ _
      have t := (D i).2.2.2.2.2.1
      show (sw2 (byt (nL x) i) + (sw2 (byt (nL x) i) / 16 + 16 * (sw2 (byt (nL x) (i + 1)) % 16))) &&& (2 ^ 4 - 1) = _
      rw [Nat.and_two_pow_sub_one_eq_mod, ← t]
      omega
    -- the rest
    have p8 : ∀ i, pop8 (byt (nL x) i) ≤ 8 := fun i => (D i).2.2.2.2.2.2
    have pz : ∀ i, 8 ≤ i → pop8 (byt (nL x) i) = 0 := fun i hi => by rw [Z i hi]; exact sw_0.2.2
    generalize hp : (fun i => pop8 (byt (nL x) i)) = p at n3
    have p8 : ∀ i, p i ≤ 8 := fun i => by rw [← hp]; exact p8 i
    have pz : ∀ i, 8 ≤ i → p i = 0 := fun i hi => by rw [← hp]; exact pz i hi
    have n4 : nL x4 = hz (fun i => p i + p (i + 1)) 8 0 := by
      have e : nL ((x3.toUInt64 >>> ((8 : Int32).toInt64.toUInt64 &&& Int64.toUInt64 63)).toInt64) = hz (fun i => p (i + 1)) 8 0 := by
        rw [s8, n3, show (2 : Nat) ^ 8 = 256 from rfl, hz_8 (by have := p8 0; omega) (pz _ (by omega))]
      have l : hz (fun i => p i + p (i + 1)) 8 0 < 18446744073709551616 := hz_lt (fun i => by have := p8 i; have := p8 (i + 1); omega) 8 0
      have b : hz p 8 0 + hz (fun i => p (i + 1)) 8 0 = hz (fun i => p i + p (i + 1)) 8 0 := hz_add 8 0
      rw [h4, nL_add (by rw [e, n3, b]; exact l), e, n3, b]
    have n5 : nL x5 = hz (fun i => p i + p (i + 1) + (p (i + 2) + p (i + 3))) 8 0 := by
      have e : nL ((x4.toUInt64 >>> ((16 : Int32).toInt64.toUInt64 &&& Int64.toUInt64 63)).toInt64) = hz (fun i => p (i + 2) + p (i + 3)) 8 0 := by
        rw [s16, n4, show (2 : Nat) ^ 16 = 256 * 256 from rfl, ← Nat.div_div_eq_div_mul, hz_8 (by have := p8 0; have := p8 (0 + 1); omega) (by rw [pz _ (by omega), pz _ (by omega)]), hz_8 (by have := p8 (0 + 1); have := p8 (0 + 1 + 1); omega) (by rw [pz _ (by omega), pz _ (by omega)])]
      have l : hz (fun i => p i + p (i + 1) + (p (i + 2) + p (i + 3))) 8 0 < 18446744073709551616 := hz_lt (fun i => by have := p8 i; have := p8 (i + 1); have := p8 (i + 2); have := p8 (i + 3); omega) 8 0
      have b : hz (fun i => p i + p (i + 1)) 8 0 + hz (fun i => p (i + 2) + p (i + 3)) 8 0 = hz (fun i => p i + p (i + 1) + (p (i + 2) + p (i + 3))) 8 0 := hz_add 8 0
      rw [h5, nL_add (by rw [e, n4, b]; exact l), e, n4, b]
    have n6 : nL x6 = hz (fun i => p i + p (i + 1) + (p (i + 2) + p (i + 3)) + (p (i + 4) + p (i + 5) + (p (i + 6) + p (i + 7)))) 8 0 := by
      have e : nL ((x5.toUInt64 >>> ((32 : Int32).toInt64.toUInt64 &&& Int64.toUInt64 63)).toInt64) = hz (fun i => p (i + 4) + p (i + 5) + (p (i + 6) + p (i + 7))) 8 0 := by
        rw [s32, n5, show (2 : Nat) ^ 32 = 256 * 256 * 256 * 256 from rfl, ← Nat.div_div_eq_div_mul, ← Nat.div_div_eq_div_mul, ← Nat.div_div_eq_div_mul]
        have t : ∀ j, p j ≤ 8 := p8
        rw [hz_8 (by have := t 0; have := t (0 + 1); have := t (0 + 2); have := t (0 + 3); omega) (by rw [pz _ (by omega), pz _ (by omega), pz _ (by omega), pz _ (by omega)])]
        rw [hz_8 (by have := t (0 + 1); have := t (0 + 1 + 1); have := t (0 + 1 + 2); have := t (0 + 1 + 3); omega) (by rw [pz _ (by omega), pz _ (by omega), pz _ (by omega), pz _ (by omega)])]
        rw [hz_8 (by have := t (0 + 1 + 1); have := t (0 + 1 + 1 + 1); have := t (0 + 1 + 1 + 2); have := t (0 + 1 + 1 + 3); omega) (by rw [pz _ (by omega), pz _ (by omega), pz _ (by omega), pz _ (by omega)])]
        rw [hz_8 (by have := t (0 + 1 + 1 + 1); have := t (0 + 1 + 1 + 1 + 1); have := t (0 + 1 + 1 + 1 + 2); have := t (0 + 1 + 1 + 1 + 3); omega) (by rw [pz _ (by omega), pz _ (by omega), pz _ (by omega), pz _ (by omega)])]
      have l : hz (fun i => p i + p (i + 1) + (p (i + 2) + p (i + 3)) + (p (i + 4) + p (i + 5) + (p (i + 6) + p (i + 7)))) 8 0 < 18446744073709551616 := hz_lt (fun i => by have := p8 i; have := p8 (i + 1); have := p8 (i + 2); have := p8 (i + 3); have := p8 (i + 4); have := p8 (i + 5); have := p8 (i + 6); have := p8 (i + 7); omega) 8 0
      have b : hz (fun i => p i + p (i + 1) + (p (i + 2) + p (i + 3))) 8 0 + hz (fun i => p (i + 4) + p (i + 5) + (p (i + 6) + p (i + 7))) 8 0 = hz (fun i => p i + p (i + 1) + (p (i + 2) + p (i + 3)) + (p (i + 4) + p (i + 5) + (p (i + 6) + p (i + 7)))) 8 0 := hz_add 8 0
      rw [h6, nL_add (by rw [e, n5, b]; exact l), e, n5, b]
    -- the answer
    have hsum : sm (fun c => b1 (bJ x c)) 64 0 = p 0 + (p 1 + (p 2 + (p 3 + (p 4 + (p 5 + (p 6 + p 7)))))) := by
      rw [← hp]
      have e := sm_add2 (fun c => b1 (bJ x c))
      rw [show (64 : Nat) = 8 + (8 + (8 + (8 + (8 + (8 + (8 + 8)))))) from rfl, e, e, e, e, e, e, e]
      have f := sm_byte x
      show sm _ 8 (8 * 0) + (sm _ 8 (8 * 1) + (sm _ 8 (8 * 2) + (sm _ 8 (8 * 3) + (sm _ 8 (8 * 4) + (sm _ 8 (8 * 5) + (sm _ 8 (8 * 6) + sm _ 8 (8 * 7))))))) = _
      rw [f, f, f, f, f, f, f, f]
    rw [hsum]
    unfold zI
    rw [Int32.ofInt_eq_ofNat]
    apply Int32.toBitVec_inj.1
    apply BitVec.eq_of_toNat_eq
    rw [Int32.toBitVec_and, BitVec.toNat_and, Int64.toBitVec_toInt32, BitVec.signExtend_eq_setWidth_of_le _ (by omega), BitVec.toNat_setWidth]
    have n6' : x6.toBitVec.toNat = p 0 + p (0 + 1) + (p (0 + 2) + p (0 + 3)) + (p (0 + 4) + p (0 + 5) + (p (0 + 6) + p (0 + 7))) + 256 * hz (fun i => p i + p (i + 1) + (p (i + 2) + p (i + 3)) + (p (i + 4) + p (i + 5) + (p (i + 6) + p (i + 7)))) 7 1 := n6
    rw [n6', show (127 : Int32).toBitVec.toNat = 2 ^ 7 - 1 from by decide, Nat.and_two_pow_sub_one_eq_mod]
    show _ = (BitVec.ofNat 32 (p 0 + (p 1 + (p 2 + (p 3 + (p 4 + (p 5 + (p 6 + p 7)))))))).toNat
    rw [BitVec.toNat_ofNat]
    have := p8 0
    have := p8 1
    have := p8 2
    have := p8 3
    have := p8 4
    have := p8 5
    have := p8 6
    have := p8 7
    simp only [Nat.zero_add]
    omega
  obtain ⟨r, e1, e2⟩ := key
  rw [e1, e2]
theorem m_bl {M : Nat → Nat → Int32} {V : sV} (hbd : M 2 0 = zI (v_bd V).val) (hsh : ∀ c, 1 ≤ c → c ≤ (v_bd V).val → M 13 (12 + c) = bI (v_sh V c)) : ∀ d c f n, c + d = (v_bd V).val + 1 → d < f → 1 ≤ c → n ≤ c → P_X7_blockedMany_4 M f (zI (n : Nat)) (zI c) = some (zI ((n + sm (fun c => b1 (v_sh V c)) d c : Nat) : Int)) := by
  intro d
  induction d with
  | zero =>
    intro c f n hc hf h1 hn
    obtain ⟨g, rfl⟩ : ∃ g, f = g + 1 := ⟨f - 1, by omega⟩
    rw [P_X7_blockedMany_4, hbd, if_pos (by rw [zI_lt] <;> omega)]
    rfl
  | succ d ih =>
    intro c f n hc hf h1 hn
    obtain ⟨g, rfl⟩ : ∃ g, f = g + 1 := ⟨f - 1, by omega⟩
    have hb : b1 (v_sh V c) ≤ 1 := by unfold b1; split <;> omega
    have := ih (c + 1) g (n + b1 (v_sh V c)) (by omega) (by omega) (by omega) (by omega)
    have e0 : n + sm (fun c => b1 (v_sh V c)) (d + 1) c = n + b1 (v_sh V c) + sm (fun c => b1 (v_sh V c)) d (c + 1) := by
      show n + (b1 (v_sh V c) + _) = _
      omega
    rw [e0, ← this, P_X7_blockedMany_4, hbd, if_neg (by rw [zI_lt] <;> omega)]
    have i12 : qc_in ((12 : Int32) + zI (c : Int)) 79 := by
      simp (disch := omega) only [zI_add, zI_sub, zI_mul, zI_neg, zL, zI_le, zI_lt, zI_eq, zI_cl, zA0, zI_if, Int.toNat_natCast, zT_add, zT_mul, Int.reduceToNat, Nat.add_zero, Nat.zero_add, Int.add_zero, Int.zero_add, zc_a, zc_l, Option.bind_some, qc_let, qc_in, qc_bo, iteT, iteF, and_self, if_true, if_false, qG]
      omega
    have r12 : ((12 : Int32) + zI (c : Int)).toNatClampNeg = 12 + c := by
      simp only [zL]
      rw [zI_add, zI_cl (by omega) (by omega)]
      omega
    rw [if_pos i12, r12, hsh c h1 (by omega), bI_b1]
    simp only [qc_let, zL, zI_add, zc_a, zc_l]
theorem st_46 : St_46 Rel := by
  intro I J w M a ⟨V, n, h0⟩
  have h := RelV_0 h0 (zI 0)
  have hR : Rel I J w (qc_u2 M 0 0 (zI 0)) := ⟨V, n, h⟩
  have go : ∃ y, P_X6_count I J a = some y ∧ P_X7_count M a = some (y, qc_u2 M 0 0 (zI 0)) := by
    obtain ⟨hS, hM, hT, hP, hH, hK, hW, hN⟩ := h
    have h6 : (v_us V).val ≤ 6 := hM.2.2.2.2.2.2.2.2.2.2.2.2.2.2.1
    unfold P_X6_count P_X7_count
    simp only [zL, qc_lE]
    have two : ∀ x y : Int32, x = y → some (y, qc_u2 M 0 0 (zI 0)) = some (x, qc_u2 M 0 0 (zI 0)) := by
      intro x y e
      rw [e]
    by_cases c0 : a = zI 0
    · rw [if_pos c0, if_pos c0]
      exact ⟨_, rfl, two _ _ (hS.1.trans hM.1.symm)⟩
    rw [if_neg c0, if_neg c0]
    by_cases c1 : a = zI 1
    · rw [if_pos c1, if_pos c1]
      exact ⟨_, rfl, two _ _ (hS.2.1.trans hT.1.symm)⟩
    rw [if_neg c1, if_neg c1]
    by_cases c2 : a = zI 2
    · rw [if_pos c2, if_pos c2]
      exact ⟨_, rfl, two _ _ (hS.2.2.1.trans hT.2.1.symm)⟩
    rw [if_neg c2, if_neg c2]
    by_cases c3 : a = zI 3
    · rw [if_pos c3, if_pos c3]
      exact ⟨_, rfl, two _ _ (hS.2.2.2.1.trans hT.2.2.1.symm)⟩
    rw [if_neg c3, if_neg c3]
    by_cases c4 : a = zI 4
    · rw [if_pos c4, if_pos c4]
      exact ⟨_, rfl, two _ _ (hS.2.2.2.2.1.trans hT.2.2.2.1.symm)⟩
    rw [if_neg c4, if_neg c4]
    by_cases c5 : a = zI 5
    · rw [if_pos c5, if_pos c5]
      have e1 := x_long (J 2 6)
      have e2 := m_bl hT.1 hM.2.2.2.2.2.2.2.2.2.2.2.2.2.1 (v_bd V).val 1 qc_fu 0 (by omega) (by unfold qc_fu; omega) (by omega) (by omega)
      have e2' : P_X7_blockedMany (qc_u2 M 0 0 (zI 0)) = some (zI (sm (fun c => b1 (v_sh V c)) (v_bd V).val 1 : Nat)) := by
        rw [Nat.zero_add] at e2
        exact e2
      have e3 : sm (fun c => b1 (bJ (J 2 6) c)) 64 0 = sm (fun c => b1 (v_sh V c)) (v_bd V).val 1 := by
        have hb := (v_bd V).isLt
        have hx : ∀ i, i < 64 → bJ (J 2 6) i = v_sh V i := hS.2.2.2.2.2.2.2.2.2.2.2.2.2
        have f1 : sm (fun c => b1 (bJ (J 2 6) c)) 64 0 = sm (fun c => b1 (v_sh V c)) 64 0 := sm_cg _ _ (fun i _ hi => by show b1 _ = b1 _; rw [hx i (by omega)])
        have g1 : sm (fun c => b1 (v_sh V c)) 1 0 = 0 := by
          rw [sm_0]
          intro i _ hi
          rw [hT.2.2.2.2.2.2.2.2 i (by omega) (by omega)]
          rfl
        have g2 : sm (fun c => b1 (v_sh V c)) (63 - (v_bd V).val) (0 + 1 + (v_bd V).val) = 0 := by
          rw [sm_0]
          intro i _ hi
          rw [hT.2.2.2.2.2.2.2.2 i (by omega) (by omega)]
          rfl
        have g3 := sm_add2 (fun c => b1 (v_sh V c)) 1 ((v_bd V).val + (63 - (v_bd V).val)) 0
        rw [show 1 + ((v_bd V).val + (63 - (v_bd V).val)) = 64 by omega, sm_add2, g1, g2] at g3
        simp only [Nat.zero_add, Nat.add_zero] at g3
        rw [f1, g3]
      rw [e1, e2', e3]
      exact ⟨_, rfl, rfl⟩
    rw [if_neg c5, if_neg c5]
    by_cases c6 : a = zI 6
    · rw [if_pos c6, if_pos c6, x_tuned hS, m_tuned hM, Option.bind_some, Option.bind_some, set_c _ (by omega)]
      exact ⟨_, rfl, rfl⟩
    rw [if_neg c6, if_neg c6]
    by_cases c7 : a = zI 7
    · rw [if_pos c7, if_pos c7]
      exact ⟨_, rfl, two _ _ (hH.2.1.trans hH.2.2.1.symm)⟩
    rw [if_neg c7, if_neg c7]
    by_cases c8 : a = zI 8
    · rw [if_pos c8, if_pos c8]
      obtain ⟨k, _, k1, k2⟩ := hP.2.1
      exact ⟨_, rfl, two _ _ (k1.trans k2.symm)⟩
    rw [if_neg c8, if_neg c8]
    exact ⟨_, rfl, rfl⟩
  obtain ⟨y, e1, e2⟩ := go
  exact ⟨_, _, e1, e2, rfl, hR⟩
