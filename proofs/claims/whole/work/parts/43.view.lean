/-! A SCENE, as numbers: what both programs mean by it -/
abbrev sV : Type := (Fin 9 × Fin 61 × Fin 6 × Fin 21 × Fin 8) × ((Nat → Fin 3) × (Nat → Fin 61) × (Nat → Fin 61) × (Nat → Fin 61) × (Nat → Fin 31) × (Nat → Fin 256)) × (Nat → Fin 100) × (Nat → Fin 101) × (Nat → Bool)
def v_us (V : sV) : Fin 9 := V.1.1
def v_bd (V : sV) : Fin 61 := V.1.2.1
def v_gd (V : sV) : Fin 6 := V.1.2.2.1
def v_sp (V : sV) : Fin 21 := V.1.2.2.2.1
def v_od (V : sV) : Fin 8 := V.1.2.2.2.2
def v_st (V : sV) : Nat → Fin 3 := V.2.1.1
def v_lo (V : sV) : Nat → Fin 61 := V.2.1.2.1
def v_hi (V : sV) : Nat → Fin 61 := V.2.1.2.2.1
def v_ch (V : sV) : Nat → Fin 61 := V.2.1.2.2.2.1
def v_pw (V : sV) : Nat → Fin 31 := V.2.1.2.2.2.2.1
def v_sl (V : sV) : Nat → Fin 256 := V.2.1.2.2.2.2.2
def v_ls (V : sV) : Nat → Fin 100 := V.2.2.1
def v_lk (V : sV) : Nat → Fin 101 := V.2.2.2.1
def v_sh (V : sV) : Nat → Bool := V.2.2.2.2
/-- what a link takes off, in the class and in the reference -/
def lkX (k : Nat) (v : Fin 101) : Int := if k % 4 = 0 then 0 else if (v : Nat) = 100 then 1000 else (v : Nat)
def lkM (v : Fin 101) : Int := if (v : Nat) = 100 then -2 else (v : Nat)
/-- a bit of a long -/
def bJ (x : Int64) (c : Nat) : Bool := x.toBitVec.getLsbD c
/-- the class's scene at a token -/
def SX (I : Nat → Nat → Int32) (J : Nat → Nat → Int64) (p : Nat) (V : sV) : Prop :=
  I p 0 = zI (v_us V).val ∧ I p 1 = zI (v_bd V).val ∧ I p 2 = zI (v_gd V).val ∧ I p 3 = zI (v_sp V).val ∧ I p 4 = zI (v_od V).val ∧
  (∀ u, u < 8 → I (p + 1 + 3) u = zI (v_st V u).val) ∧ (∀ u, u < 8 → I (p + 1 + 4) u = zI (v_lo V u).val) ∧ (∀ u, u < 8 → I (p + 1 + 5) u = zI (v_hi V u).val) ∧
  (∀ u, u < 8 → I (p + 1 + 6) u = zI (v_ch V u).val) ∧ (∀ u, u < 8 → I (p + 1 + 7) u = zI (v_pw V u).val) ∧ (∀ u, u < 8 → I (p + 1 + 8) u = zI (v_sl V u).val) ∧
  (∀ k, k < 3 → I (p + 1 + 0) k = zI (v_ls V k).val) ∧ (∀ k, k < 9 → I (p + 1 + 1) k = zI (lkX k (v_lk V k))) ∧ (∀ c, c < 64 → bJ (J p 6) c = v_sh V c)
/-- the reference's state -/
def MX (M : Nat → Nat → Int32) (V : sV) : Prop :=
  M 2 7 = zI (v_us V).val ∧ M 0 30 = zI (v_bd V).val ∧ M 0 31 = zI (v_gd V).val ∧ M 0 32 = zI (v_sp V).val ∧ M 0 33 = zI (v_od V).val ∧
  (∀ u, u < (v_us V).val → M 5 u = zI (v_st V u).val) ∧ (∀ u, u < (v_us V).val → M 7 u = zI (v_lo V u).val) ∧ (∀ u, u < (v_us V).val → ∃ h : Fin 61, M 8 u = zI h.val ∧ (v_hi V u).val = if (v_bd V).val ≤ h.val then (v_bd V).val else h.val) ∧
  (∀ u, u < (v_us V).val → M 13 u = zI (v_ch V u).val) ∧ (∀ u, u < (v_us V).val → M 13 (6 + u) = zI (v_pw V u).val) ∧ (∀ u, u < (v_us V).val → M 13 (73 + u) = zI (v_sl V u).val) ∧
  (∀ k, k < 3 → M 2 (4 + k) = zI (v_ls V k).val) ∧ (∀ k, k < 9 → M 11 k = zI (lkM (v_lk V k))) ∧ (∀ c, 1 ≤ c → c ≤ (v_bd V).val → M 13 (12 + c) = bI (v_sh V c)) ∧
  (v_us V).val ≤ 6 ∧ (∀ u, u < (v_us V).val → 1 ≤ (v_lo V u).val)
/-! sets of users, as bits -/
def sSet (f : Nat → Bool) (n k : Nat) (a : Int32) : Int32 := it (fun k a => if f k = true then a ||| (zI 1 <<< (zI k &&& zI 31)) else a) n k a
/-! what is so in a scene -/
def dist (a b : Nat) : Nat := if a ≤ b then b - a else a - b
def crowdS (V : sV) (a b : Nat) : Bool := decide (a ≠ b ∧ (v_st V a).val = (v_st V b).val ∧ 0 < (v_ch V a).val ∧ 0 < (v_ch V b).val ∧ (v_sl V a).val &&& (v_sl V b).val ≠ 0 ∧ dist (v_ch V a).val (v_ch V b).val < (v_sp V).val)
def rightS (V : sV) (u : Nat) : Bool := decide ((v_lo V u).val ≤ (v_ch V u).val ∧ (v_ch V u).val ≤ (v_hi V u).val ∧ v_sh V (v_ch V u).val = false)
theorem nI_and (a b : Nat) : zI a &&& zI b = zI ((a &&& b : Nat) : Int) := by
  unfold zI
  rw [Int32.ofInt_eq_ofNat, Int32.ofInt_eq_ofNat, Int32.ofInt_eq_ofNat]
  apply Int32.toBitVec_inj.1
  rw [Int32.toBitVec_and]
  apply BitVec.eq_of_toNat_eq
  simp [Int32.toBitVec_ofNat, BitVec.toNat_and, BitVec.toNat_ofNat, Nat.and_mod_two_pow]
theorem zA0 {a b : Nat} (h : a < 2147483648) : zI ((a &&& b : Nat) : Int) = zI 0 ↔ a &&& b = 0 := by
  have : a &&& b ≤ a := Nat.and_le_left
  rw [zI_eq (by omega) (by omega) (by omega) (by omega)]
  omega
theorem zI_if {c : Prop} {d : Decidable c} {a b : Int} : @ite Int32 c d (zI a) (zI b) = zI (@ite Int c d a b) := by
  by_cases h : c
  · rw [if_pos h, if_pos h]
  · rw [if_neg h, if_neg h]
