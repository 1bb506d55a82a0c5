/-! SMALL QUESTIONS of both sides -/
theorem zAll (a : Int32) : ∃ z : Int, a = zI z ∧ -2147483648 ≤ z ∧ z < 2147483648 := ⟨a.toInt, zI_of a, by have := Int32.le_toInt a; omega, by have := Int32.toInt_lt a; omega⟩
theorem x_isUser {I : Nat → Nat → Int32} {J : Nat → Nat → Int64} {p : Nat} {V : sV} (h : SX I J p V) {z : Int} (h1 : -2147483648 ≤ z) (h2 : z < 2147483648) : P_X4_isUser I p (zI z) = some (bI (decide (0 ≤ z ∧ z < (v_us V).val))) := by
  have hus := h.1
  unfold P_X4_isUser
  simp (disch := omega) only [zI_add, zI_sub, zI_mul, zI_neg, zL, zI_le, zI_lt, zI_eq, zI_cl, zA0, zI_if, Int.toNat_natCast, zT_add, zT_mul, Int.reduceToNat, Nat.add_zero, Nat.zero_add, Int.add_zero, Int.zero_add, zc_a, zc_l, Option.bind_some, qc_let, qc_in, qc_bo, iteT, iteF, and_self, if_true, if_false, qG, hus]
  repeat' split
  all_goals try simp (disch := omega) only [zI_add, zI_sub, zI_mul, zI_neg, zL, zI_le, zI_lt, zI_eq, zI_cl, zA0, zI_if, Int.toNat_natCast, zT_add, zT_mul, Int.reduceToNat, Nat.add_zero, Nat.zero_add, Int.add_zero, Int.zero_add, zc_a, zc_l, Option.bind_some, qc_let, qc_in, qc_bo, iteT, iteF, and_self, if_true, if_false, qG, true_or, or_true, if_true]
  all_goals first | (exfalso; omega) | (rw [bI_n (by omega)]) | (rw [bI_p (by omega)])
theorem m_isUser {M : Nat → Nat → Int32} {V : sV} (h : MX M V) {z : Int} (h1 : -2147483648 ≤ z) (h2 : z < 2147483648) : P_X7_isUser M (zI z) = some (bI (decide (0 ≤ z ∧ z < (v_us V).val))) := by
  have hus := h.1
  unfold P_X7_isUser P_X7_users
  simp (disch := omega) only [zI_add, zI_sub, zI_mul, zI_neg, zL, zI_le, zI_lt, zI_eq, zI_cl, zA0, zI_if, Int.toNat_natCast, zT_add, zT_mul, Int.reduceToNat, Nat.add_zero, Nat.zero_add, Int.add_zero, Int.zero_add, zc_a, zc_l, Option.bind_some, qc_let, qc_in, qc_bo, iteT, iteF, and_self, if_true, if_false, qG, hus]
  repeat' split
  all_goals try simp (disch := omega) only [zI_add, zI_sub, zI_mul, zI_neg, zL, zI_le, zI_lt, zI_eq, zI_cl, zA0, zI_if, Int.toNat_natCast, zT_add, zT_mul, Int.reduceToNat, Nat.add_zero, Nat.zero_add, Int.add_zero, Int.zero_add, zc_a, zc_l, Option.bind_some, qc_let, qc_in, qc_bo, iteT, iteF, and_self, if_true, if_false, qG, true_or, or_true, if_true]
  all_goals first | (exfalso; omega) | (rw [bI_n (by omega)]) | (rw [bI_p (by omega)])
theorem x_isChannel {I : Nat → Nat → Int32} {J : Nat → Nat → Int64} {p : Nat} {V : sV} (h : SX I J p V) {z : Int} (h1 : -2147483648 ≤ z) (h2 : z < 2147483648) : P_X4_isChannel I p (zI z) = some (bI (decide (1 ≤ z ∧ z ≤ (v_bd V).val))) := by
  have hbd := h.2.1
  unfold P_X4_isChannel
  simp (disch := omega) only [zI_add, zI_sub, zI_mul, zI_neg, zL, zI_le, zI_lt, zI_eq, zI_cl, zA0, zI_if, Int.toNat_natCast, zT_add, zT_mul, Int.reduceToNat, Nat.add_zero, Nat.zero_add, Int.add_zero, Int.zero_add, zc_a, zc_l, Option.bind_some, qc_let, qc_in, qc_bo, iteT, iteF, and_self, if_true, if_false, qG, hbd]
  repeat' split
  all_goals try simp (disch := omega) only [zI_add, zI_sub, zI_mul, zI_neg, zL, zI_le, zI_lt, zI_eq, zI_cl, zA0, zI_if, Int.toNat_natCast, zT_add, zT_mul, Int.reduceToNat, Nat.add_zero, Nat.zero_add, Int.add_zero, Int.zero_add, zc_a, zc_l, Option.bind_some, qc_let, qc_in, qc_bo, iteT, iteF, and_self, if_true, if_false, qG, true_or, or_true, if_true]
  all_goals first | (exfalso; omega) | (rw [bI_n (by omega)]) | (rw [bI_p (by omega)])
theorem m_isChannel {M : Nat → Nat → Int32} {V : sV} (h : TM M V) {z : Int} (h1 : -2147483648 ≤ z) (h2 : z < 2147483648) : P_X7_isChannel M (zI z) = some (bI (decide (1 ≤ z ∧ z ≤ (v_bd V).val))) := by
  have hbd := h.1
  unfold P_X7_isChannel
  simp (disch := omega) only [zI_add, zI_sub, zI_mul, zI_neg, zL, zI_le, zI_lt, zI_eq, zI_cl, zA0, zI_if, Int.toNat_natCast, zT_add, zT_mul, Int.reduceToNat, Nat.add_zero, Nat.zero_add, Int.add_zero, Int.zero_add, zc_a, zc_l, Option.bind_some, qc_let, qc_in, qc_bo, iteT, iteF, and_self, if_true, if_false, qG, hbd]
  repeat' split
  all_goals try simp (disch := omega) only [zI_add, zI_sub, zI_mul, zI_neg, zL, zI_le, zI_lt, zI_eq, zI_cl, zA0, zI_if, Int.toNat_natCast, zT_add, zT_mul, Int.reduceToNat, Nat.add_zero, Nat.zero_add, Int.add_zero, Int.zero_add, zc_a, zc_l, Option.bind_some, qc_let, qc_in, qc_bo, iteT, iteF, and_self, if_true, if_false, qG, true_or, or_true, if_true]
  all_goals first | (exfalso; omega) | (rw [bI_n (by omega)]) | (rw [bI_p (by omega)])
theorem x_isShut {J : Nat → Nat → Int64} {p c : Nat} (h : c < 64) : P_X4_isShut J p (zI c) = some (bI (bJ (J p 6) c)) := by
  unfold P_X4_isShut
  by_cases e : bJ (J p 6) c = true
  · rw [if_neg (by rw [bj_cmp _ h, e]; decide), e]
    rfl
  · have e : bJ (J p 6) c = false := by simpa using e
    rw [if_pos ((bj_cmp _ h).2 e), e]
    rfl
/-- who is a user: nobody, or a number -/
theorem user_cases {I : Nat → Nat → Int32} {J : Nat → Nat → Int64} {M : Nat → Nat → Int32} {V : sV} (h : SX I J 2 V) (hM : MX M V) (a : Int32) : (P_X4_isUser I 2 a = some (zI 0) ∧ P_X7_isUser M a = some (zI 0)) ∨ (∃ u : Nat, u < (v_us V).val ∧ a = zI u ∧ P_X4_isUser I 2 a = some (zI 1) ∧ P_X7_isUser M a = some (zI 1)) := by
  obtain ⟨z, rfl, h1, h2⟩ := zAll a
  rw [x_isUser h h1 h2, m_isUser hM h1 h2]
  by_cases e : 0 ≤ z ∧ z < (v_us V).val
  · right
    refine ⟨z.toNat, by omega, by congr 1; omega, ?_, ?_⟩ <;> rw [bI_p e]
  · left
    constructor <;> rw [bI_n e]
theorem chan_cases {I : Nat → Nat → Int32} {J : Nat → Nat → Int64} {M : Nat → Nat → Int32} {V : sV} (h : SX I J 2 V) (hM : TM M V) (a : Int32) : (P_X4_isChannel I 2 a = some (zI 0) ∧ P_X7_isChannel M a = some (zI 0)) ∨ (∃ c : Fin 61, 1 ≤ c.val ∧ c.val ≤ (v_bd V).val ∧ a = zI c.val ∧ P_X4_isChannel I 2 a = some (zI 1) ∧ P_X7_isChannel M a = some (zI 1)) := by
  obtain ⟨z, rfl, h1, h2⟩ := zAll a
  rw [x_isChannel h h1 h2, m_isChannel hM h1 h2]
  by_cases e : 1 ≤ z ∧ z ≤ (v_bd V).val
  · right
    refine ⟨⟨z.toNat, by omega⟩, ?_, ?_, ?_, ?_, ?_⟩
    · show 1 ≤ z.toNat; omega
    · show z.toNat ≤ _; omega
    · congr 1; show z = (z.toNat : Int); omega
    · rw [bI_p e]
    · rw [bI_p e]
  · left
    constructor <;> rw [bI_n e]
