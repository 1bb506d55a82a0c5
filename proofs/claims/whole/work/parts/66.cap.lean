/-! HOW MANY candidates there can be -/
theorem cf_cg {f g : Nat → Bool} : ∀ d a, (∀ i, a ≤ i → i < a + d → f i = g i) → cf f d a = cf g d a := by
  intro d
  induction d with
  | zero => intro a _; rfl
  | succ d ih =>
    intro a h
    unfold cf
    rw [h a (by omega) (by omega), ih (a + 1) (fun i h1 h2 => h i (by omega) (by omega))]
theorem cf_nil {f : Nat → Bool} : ∀ d a, (∀ i, a ≤ i → i < a + d → f i = false) → cf f d a = [] := by
  intro d
  induction d with
  | zero => intro a _; rfl
  | succ d ih =>
    intro a h
    unfold cf
    rw [if_neg (by rw [h a (by omega) (by omega)]; decide), ih (a + 1) (fun i h1 h2 => h i (by omega) (by omega))]
theorem cf_ext (f : Nat → Bool) : ∀ d e a, cf f d a = cf (fun u => decide (u < a + d) && f u) (d + e) a := by
  intro d
  induction d with
  | zero =>
    intro e a
    symm
    apply cf_nil
    intro i h1 _
    rw [decide_eq_false (by omega), Bool.false_and]
  | succ d ih =>
    intro e a
    rw [show d + 1 + e = (d + e) + 1 by omega]
    show (if f a = true then a :: cf f d (a + 1) else cf f d (a + 1)) = (if (decide (a < a + (d + 1)) && f a) = true then a :: cf (fun u => decide (u < a + (d + 1)) && f u) (d + e) (a + 1) else cf (fun u => decide (u < a + (d + 1)) && f u) (d + e) (a + 1))
    rw [decide_eq_true (by omega), Bool.true_and, ih e (a + 1), show a + 1 + d = a + (d + 1) by omega]
def tab (n : Nat) : Nat := [0, 0, 7, 30, 78, 160, 285, 462, 700].getD n 0
set_option maxRecDepth 20000 in
theorem cap8 : ∀ b0 b1 b2 b3 b4 b5 b6 b7 : Bool, (cand1 (cf (s8 b0 b1 b2 b3 b4 b5 b6 b7) 8 0) (cf (s8 b0 b1 b2 b3 b4 b5 b6 b7) 8 0) 0).length + (cand1 (cf (s8 b0 b1 b2 b3 b4 b5 b6 b7) 8 0) (cf (s8 b0 b1 b2 b3 b4 b5 b6 b7) 8 0) 1).length + (cand1 (cf (s8 b0 b1 b2 b3 b4 b5 b6 b7) 8 0) (cf (s8 b0 b1 b2 b3 b4 b5 b6 b7) 8 0) 2).length + (cand1 (cf (s8 b0 b1 b2 b3 b4 b5 b6 b7) 8 0) (cf (s8 b0 b1 b2 b3 b4 b5 b6 b7) 8 0) 3).length + (cand1 (cf (s8 b0 b1 b2 b3 b4 b5 b6 b7) 8 0) (cf (s8 b0 b1 b2 b3 b4 b5 b6 b7) 8 0) 4).length + (cand1 (cf (s8 b0 b1 b2 b3 b4 b5 b6 b7) 8 0) (cf (s8 b0 b1 b2 b3 b4 b5 b6 b7) 8 0) 5).length ≤ tab (cf (s8 b0 b1 b2 b3 b4 b5 b6 b7) 8 0).length := by decide +kernel
theorem cap_site (V : sV) (s : Nat) : (candK V s 6 0).length ≤ tab (crew V s).length := by
  have e : ∃ f : Nat → Bool, crew V s = cf (s8 (f 0) (f 1) (f 2) (f 3) (f 4) (f 5) (f 6) (f 7)) 8 0 := by
    refine ⟨fun u => decide (u < 0 + (v_us V).val) && thereS V s u, ?_⟩
    unfold crew
    rw [cf_ext (thereS V s) (v_us V).val (8 - (v_us V).val) 0, show (v_us V).val + (8 - (v_us V).val) = 8 by omega]
    exact cf_cg 8 0 (fun i _ hi => s8_of (fun u => decide (u < 0 + (v_us V).val) && thereS V s u) (by omega))
  obtain ⟨f, e⟩ := e
  have h := cap8 (f 0) (f 1) (f 2) (f 3) (f 4) (f 5) (f 6) (f 7)
  rw [← e] at h
  have h0 : ∀ k, (cand0 V s k).length ≤ (cand1 (crew V s) (crew V s) k).length := by
    intro k
    unfold cand0
    split
    · exact Nat.le_refl _
    · exact Nat.zero_le _
  have e6 : candK V s 6 0 = cand0 V s 0 ++ (cand0 V s 1 ++ (cand0 V s 2 ++ (cand0 V s 3 ++ (cand0 V s 4 ++ (cand0 V s 5 ++ []))))) := rfl
  rw [e6]
  simp only [List.length_append, List.length_nil]
  have a0 := h0 0
  have a1 := h0 1
  have a2 := h0 2
  have a3 := h0 3
  have a4 := h0 4
  have a5 := h0 5
  omega
theorem cap_sum : ∀ a b c : Fin 9, (a.val + b.val + c.val ≤ 8 → tab a.val + tab b.val + tab c.val ≤ 700) ∧ (a.val + b.val + c.val ≤ 6 → tab a.val + tab b.val + tab c.val ≤ 285) := by decide +kernel
theorem sm_add (f g : Nat → Nat) : ∀ d k, sm f d k + sm g d k = sm (fun i => f i + g i) d k := by
  intro d
  induction d with
  | zero => intro k; rfl
  | succ d ih =>
    intro k
    have := ih (k + 1)
    show f k + sm f d (k + 1) + (g k + sm g d (k + 1)) = f k + g k + sm (fun i => f i + g i) d (k + 1)
    omega
theorem crew_sum (V : sV) : (crew V 0).length + (crew V 1).length + (crew V 2).length ≤ (v_us V).val := by
  unfold crew
  rw [cf_len, cf_len, cf_len, sm_add, sm_add]
  have : sm (fun i => b1 (thereS V 0 i) + b1 (thereS V 1 i) + b1 (thereS V 2 i)) (v_us V).val 0 ≤ 1 * (v_us V).val := by
    refine sm_le _ 0 ?_
    intro i _ _
    unfold b1 thereS
    simp only [decide_eq_true_eq]
    split <;> split <;> split <;> omega
  omega
theorem cap_b (V : sV) : (candT V 3 0).length ≤ 700 ∧ ((v_us V).val ≤ 6 → (candT V 3 0).length ≤ 285) := by
  have hs := crew_sum V
  have c0 := (CG_crew V 0).2.2
  have c1 := (CG_crew V 1).2.2
  have c2 := (CG_crew V 2).2.2
  have k0 := cap_site V 0
  have k1 := cap_site V 1
  have k2 := cap_site V 2
  have hc := cap_sum ⟨(crew V 0).length, by omega⟩ ⟨(crew V 1).length, by omega⟩ ⟨(crew V 2).length, by omega⟩
  dsimp only at hc
  have e : (candT V 3 0).length = (candK V 0 6 0).length + (candK V 1 6 0).length + (candK V 2 6 0).length := by
    have e6 : candT V 3 0 = candK V 0 6 0 ++ (candK V 1 6 0 ++ (candK V 2 6 0 ++ [])) := rfl
    rw [e6]
    simp only [List.length_append, List.length_nil]
    omega
  constructor
  · have := hc.1 (by omega)
    omega
  · intro h6
    have := hc.2 (by omega)
    omega
