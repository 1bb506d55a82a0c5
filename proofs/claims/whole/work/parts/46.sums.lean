/-! SUMS over a counter -/
def sm (g : Nat → Nat) : Nat → Nat → Nat
  | 0, _ => 0
  | d + 1, k => g k + sm g d (k + 1)
def b1 (b : Bool) : Nat := if b = true then 1 else 0
theorem b1_T : b1 true = 1 := rfl
theorem b1_F : b1 false = 0 := rfl
theorem bI_b1 (b : Bool) : bI b = zI (b1 b) := by cases b <;> rfl
theorem it_sm (g : Nat → Nat) : ∀ d k n, it (fun k (a : Int32) => a + zI (g k)) d k (zI ((n : Nat) : Int)) = zI ((n + sm g d k : Nat) : Int) := by
  intro d
  induction d with
  | zero => intro k n; rfl
  | succ d ih =>
    intro k n
    unfold it sm
    rw [zI_add, show ((n : Int) + (g k : Int)) = ((n + g k : Nat) : Int) by omega, ih, Nat.add_assoc]
theorem it_cg {σ : Type} {s1 s2 : Nat → σ → σ} : ∀ d k a, (∀ i s, k ≤ i → i < k + d → s1 i s = s2 i s) → it s1 d k a = it s2 d k a := by
  intro d
  induction d with
  | zero => intro k a _; rfl
  | succ d ih =>
    intro k a h
    unfold it
    rw [h k a (by omega) (by omega)]
    exact ih (k + 1) _ (fun i s h1 h2 => h i s (by omega) (by omega))
theorem sm_cg {g h : Nat → Nat} : ∀ d k, (∀ i, k ≤ i → i < k + d → g i = h i) → sm g d k = sm h d k := by
  intro d
  induction d with
  | zero => intro k _; rfl
  | succ d ih =>
    intro k e
    unfold sm
    rw [e k (by omega) (by omega), ih (k + 1) (fun i h1 h2 => e i (by omega) (by omega))]
theorem sm_le {g : Nat → Nat} {b : Nat} : ∀ d k, (∀ i, k ≤ i → i < k + d → g i ≤ b) → sm g d k ≤ b * d := by
  intro d
  induction d with
  | zero => intro k _; unfold sm; omega
  | succ d ih =>
    intro k e
    have e1 := e k (by omega) (by omega)
    have e2 := ih (k + 1) (fun i h1 h2 => e i (by omega) (by omega))
    unfold sm
    rw [Nat.mul_succ]
    omega
theorem sm_0 {g : Nat → Nat} : ∀ d k, sm g d k = 0 ↔ ∀ i, k ≤ i → i < k + d → g i = 0 := by
  intro d
  induction d with
  | zero => intro k; exact ⟨fun _ i h1 h2 => by omega, fun _ => rfl⟩
  | succ d ih =>
    intro k
    unfold sm
    rw [Nat.add_eq_zero_iff, ih]
    constructor
    · intro ⟨h1, h2⟩ i hi hj
      by_cases e : i = k
      · rw [e]; exact h1
      · exact h2 i (by omega) (by omega)
    · intro h
      exact ⟨h k (by omega) (by omega), fun i hi hj => h i (by omega) (by omega)⟩
/-! sets as bits: what is in them, and how many -/
theorem sSet_cg {f g : Nat → Bool} {d k : Nat} {a : Int32} (h : ∀ i, k ≤ i → i < k + d → f i = g i) : sSet f d k a = sSet g d k a := by
  unfold sSet
  refine it_cg d k a ?_
  intro i s h1 h2
  rw [h i h1 h2]
/-- a set of at most eight as a function of eight truth values -/
def s8 (b0 b1 b2 b3 b4 b5 b6 b7 : Bool) : Nat → Bool
  | 0 => b0
  | 1 => b1
  | 2 => b2
  | 3 => b3
  | 4 => b4
  | 5 => b5
  | 6 => b6
  | 7 => b7
  | _ => false
theorem s8_of (f : Nat → Bool) {i : Nat} (h : i < 8) : f i = s8 (f 0) (f 1) (f 2) (f 3) (f 4) (f 5) (f 6) (f 7) i := by
  have : i = 0 ∨ i = 1 ∨ i = 2 ∨ i = 3 ∨ i = 4 ∨ i = 5 ∨ i = 6 ∨ i = 7 := by omega
  rcases this with rfl | rfl | rfl | rfl | rfl | rfl | rfl | rfl <;> rfl
theorem sSet_d : ∀ (n : Fin 9) (b0 b1 b2 b3 b4 b5 b6 b7 : Bool), (∀ u : Fin 8, (sSet (s8 b0 b1 b2 b3 b4 b5 b6 b7) n.val 0 (zI 0) >>> (zI u.val &&& zI 31)) &&& zI 1 = bI (decide (u.val < n.val) && s8 b0 b1 b2 b3 b4 b5 b6 b7 u.val)) := by decide +kernel
theorem sSet_c : ∀ (n : Fin 9) (b0 b1 b2 b3 b4 b5 b6 b7 : Bool), P_J6_bitCount_0f7a4 (sSet (s8 b0 b1 b2 b3 b4 b5 b6 b7) n.val 0 (zI 0)) = some (zI (sm (fun u => if s8 b0 b1 b2 b3 b4 b5 b6 b7 u = true then 1 else 0) n.val 0)) := by decide +kernel
theorem sSet_m : ∀ (n : Fin 7) (b0 b1 b2 b3 b4 b5 : Bool), P_X7_bits (sSet (s8 b0 b1 b2 b3 b4 b5 false false) n.val 0 (zI 0)) = some (zI (sm (fun u => if s8 b0 b1 b2 b3 b4 b5 false false u = true then 1 else 0) n.val 0)) := by decide +kernel
theorem sSet_0 : ∀ (n : Fin 9) (b0 b1 b2 b3 b4 b5 b6 b7 : Bool), decide (sSet (s8 b0 b1 b2 b3 b4 b5 b6 b7) n.val 0 (zI 0) = zI 0) = decide (sm (fun u => if s8 b0 b1 b2 b3 b4 b5 b6 b7 u = true then 1 else 0) n.val 0 = 0) := by decide +kernel
