/-! THE REFERENCE'S STATE: what its small questions answer -/
theorem m_without {x : Int} (h1 : -2147483648 < x) (h2 : x < 2147483648) : P_X7_without (zI x) = some (zI (if 0 ≤ x then x else -x)) := by
  unfold P_X7_without
  simp (disch := omega) only [zI_add, zI_sub, zI_mul, zI_neg, zL, zI_le, zI_lt, zI_eq, zI_cl, zA0, zI_if, Int.toNat_natCast, zT_add, zT_mul, Int.reduceToNat, Nat.add_zero, Nat.zero_add, Int.add_zero, Int.zero_add, zc_a, zc_l, Option.bind_some, qc_let, qc_in, qc_bo, iteT, iteF, if_true, if_false, qG]
  split <;> rfl
theorem m_crowd {M : Nat → Nat → Int32} {V : sV} (h : MX M V) {a b : Nat} (ha : a < (v_us V).val) (hb : b < (v_us V).val) : P_X7_crowd M (zI a) (zI b) = some (bI (crowdS V a b)) := by
  obtain ⟨hus, hbd, hgd, hsp, hod, hst, hlo, hhi, hch, hpw, hsl, hls, hlk, hsh, h6, hl1⟩ := h
  unfold P_X7_crowd crowdS dist
  simp (disch := omega) only [zI_add, zI_sub, zI_mul, zI_neg, zL, zI_le, zI_lt, zI_eq, zI_cl, zA0, zI_if, Int.toNat_natCast, zT_add, zT_mul, Int.reduceToNat, Nat.add_zero, Nat.zero_add, Int.add_zero, Int.zero_add, zc_a, zc_l, Option.bind_some, qc_let, qc_in, qc_bo, iteT, iteF, if_true, if_false, qG, hst, hch, hsl, hsp, nI_and, m_without]
  repeat' split
  all_goals try simp (disch := omega) only [zI_add, zI_sub, zI_mul, zI_neg, zL, zI_le, zI_lt, zI_eq, zI_cl, zA0, zI_if, Int.toNat_natCast, zT_add, zT_mul, Int.reduceToNat, Nat.add_zero, Nat.zero_add, Int.add_zero, Int.zero_add, zc_a, zc_l, Option.bind_some, qc_let, qc_in, qc_bo, iteT, iteF, if_true, if_false, qG, true_or, or_true, if_true]
  all_goals first | (exfalso; omega) | (rw [bI_n (by omega)]) | (rw [bI_p (by omega)])
theorem m_crowdsOf {M : Nat → Nat → Int32} {V : sV} (h : MX M V) {a : Nat} (ha : a < (v_us V).val) : P_X7_crowdsOf M (zI a) = some (sSet (crowdS V a) (v_us V).val 0 (zI 0)) := by
  have hus := h.1
  unfold P_X7_crowdsOf
  simp only [zL]
  refine it_run (fun f k s => P_X7_crowdsOf_4 M f (zI a) s (zI k)) (fun k a_1 => if crowdS V a k = true then a_1 ||| (zI 1 <<< (zI k &&& zI 31)) else a_1) some (v_us V).val ?_ ?_ (v_us V).val 0 qc_fu (zI 0) (by omega) (by unfold qc_fu; omega)
  · intro f k s hk
    simp (disch := omega) only [P_X7_crowdsOf_4, P_X7_crowdsOf_27, P_X7_users, zI_add, zI_sub, zI_mul, zI_neg, zL, zI_le, zI_lt, zI_eq, zI_cl, zA0, zI_if, Int.toNat_natCast, zT_add, zT_mul, Int.reduceToNat, Nat.add_zero, Nat.zero_add, Int.add_zero, Int.zero_add, zc_a, zc_l, Option.bind_some, qc_let, qc_in, qc_bo, iteT, iteF, if_true, if_false, qG, hus, m_crowd h ha hk, bI_0]
    cases e : crowdS V a k <;> simp
  · intro f s
    simp (disch := omega) only [P_X7_crowdsOf_4, P_X7_users, zI_add, zI_sub, zI_mul, zI_neg, zL, zI_le, zI_lt, zI_eq, zI_cl, zA0, zI_if, Int.toNat_natCast, zT_add, zT_mul, Int.reduceToNat, Nat.add_zero, Nat.zero_add, Int.add_zero, Int.zero_add, zc_a, zc_l, Option.bind_some, qc_let, qc_in, qc_bo, iteT, iteF, if_true, if_false, qG, hus]
