/-! products, product, hits, hitBy, bySort, worst, rank, loudest, when, clearance -/
theorem eX_g {I I' : Nat → Nat → Int32} (h : ∀ t, t < 22 ∨ 32 < t → I' t = I t) : eX I I' := eX_m (fun t ht => h t (by omega))
theorem eJ_g {J J' : Nat → Nat → Int64} (h : gJ J J') : eJ J J' := fun t ht => h t (by omega)
theorem both_fill {V : sV} {n : Nat} {I : Nat → Nat → Int32} {J : Nat → Nat → Int64} {w : Nat → Nat} {M : Nat → Nat → Int32} (h : RelV V n I J w M) : ∃ I' J' M', P_X2_fill I J 2 = some (I', J') ∧ P_X7_laysProducts M = some M' ∧ XL I' V (prods V) ∧ ML M' V (prods V) ∧ RelV V n I' J' w M' ∧ (prods V).length ≤ 285 := by
  have h6 : (v_us V).val ≤ 6 := h.2.1.2.2.2.2.2.2.2.2.2.2.2.2.2.2.1
  have hcap := (cap_b V).2 h6
  obtain ⟨r, r1, r2, r3, r4⟩ := x_fill (by omega) h.1
  obtain ⟨M', m1, m2, m3⟩ := m_lays_prods h.2.1 (by omega)
  exact ⟨r.1, r.2, M', r1, m1, r4, m3, RelV_e (eX_g r2) (eJ_g r3) (eP_M m2) h, (prods_len V).2 h6⟩
theorem strN_c (V : sV) {L : List Qd} (h : L.length ≤ 300) : (strN V L : Int) < 100000 := by
  have := strN_b V L
  omega
theorem couples_b (V : sV) : couples V ≤ 64 := by
  unfold couples
  refine Nat.le_trans (sm_le (b := 8) _ _ ?_) (by omega)
  intro i _ _
  refine Nat.le_trans (sm_le (b := 1) _ _ ?_) (by omega)
  intro j _ _
  unfold b1
  split <;> omega
theorem st_12 : St_12 Rel := by
  intro I J w M a ⟨V, n, h0⟩
  have h := RelV_0 h0 (zI 0)
  obtain ⟨I', J', M', e1, e2, e3, e4, e5, e6⟩ := both_fill h
  unfold P_X6_products P_X7_products
  simp only [zI_add, zI_sub, zI_mul, zI_neg, zL, qc_let]
  rw [e1, e2]
  simp only [Option.bind_some]
  by_cases c0 : a = zI 0
  · rw [if_pos c0, if_pos c0]
    exact ⟨_, _, rfl, rfl, e3.1.trans e4.1.symm, V, n, e5⟩
  · rw [if_neg c0, if_neg c0]
    by_cases c1 : a = zI 1
    · rw [if_pos c1, if_pos c1, x_sumOfSort e3 (by omega) (by omega) (by omega) (by omega) (by omega), m_heard e4 (by omega)]
      refine ⟨_, _, rfl, rfl, ?_, V, n, e5⟩
      show zI _ = zI _
      congr 2
    · rw [if_neg c1, if_neg c1]
      by_cases c2 : a = zI 2
      · rw [if_pos c2, if_pos c2, m_allHits e5.2.1 e4 (by omega)]
        exact ⟨_, _, rfl, rfl, e3.2.1, V, n, e5⟩
      · rw [if_neg c2, if_neg c2]
        by_cases c3 : a = zI 3
        · rw [if_pos c3, if_pos c3, x_couples e5.1, m_allCrowds e5.2.1]
          exact ⟨_, _, rfl, rfl, rfl, V, n, e5⟩
        · rw [if_neg c3, if_neg c3]
          exact ⟨_, _, rfl, rfl, rfl, V, n, e5⟩
theorem st_13 : St_13 Rel := by
  intro I J w M a b ⟨V, n, h0⟩
  have h := RelV_0 h0 (zI 0)
  obtain ⟨I', J', M', e1, e2, e3, e4, e5, e6⟩ := both_fill h
  obtain ⟨x, rfl, x1, x2⟩ := zAll a
  obtain ⟨y, rfl, y1, y2⟩ := zAll b
  unfold P_X6_product P_X7_product
  simp only [zI_add, zI_sub, zI_mul, zI_neg, zL, qc_let]
  rw [e1, e2]
  simp only [Option.bind_some]
  rw [e3.1, e4.1]
  by_cases c1 : x < 0
  · have d1 : zI x < zI 0 := by rw [zI_lt] <;> omega
    rw [if_pos d1, if_pos d1]; exact ⟨_, _, rfl, rfl, rfl, V, n, e5⟩
  · have d1 : ¬ zI x < zI 0 := by rw [zI_lt] <;> omega
    rw [if_neg d1, if_neg d1]
    by_cases c2 : x < ((prods V).length : Int)
    · have d2 : zI x < zI ((prods V).length : Int) := by rw [zI_lt] <;> omega
      have d3 : ¬ zI ((prods V).length : Int) ≤ zI x := by rw [zI_le] <;> omega
      rw [if_neg d3, if_pos d2]
      obtain ⟨i, rfl⟩ : ∃ i : Nat, x = (i : Int) := ⟨x.toNat, by omega⟩
      have hi : i < (prods V).length := by omega
      obtain ⟨hq, h24, h25, h26, h27, h28, h29, h30, h31⟩ := e3.2.2 i hi
      obtain ⟨_, h16, h17, h18, h19, h20, h21, h22⟩ := e4.2 i hi
      by_cases c3 : 0 ≤ y ∧ y ≤ 6
      · have hy : y = 0 ∨ y = 1 ∨ y = 2 ∨ y = 3 ∨ y = 4 ∨ y = 5 ∨ y = 6 := by omega
        rcases hy with rfl | rfl | rfl | rfl | rfl | rfl | rfl
        · simp (disch := omega) only [zI_add, zI_sub, zI_mul, zI_neg, zL, zI_le, zI_lt, zI_eq, zI_cl, zA0, zI_if, Int.toNat_natCast, zT_add, zT_mul, Int.reduceToNat, Nat.add_zero, Nat.zero_add, Int.add_zero, Int.zero_add, zc_a, zc_l, Option.bind_some, qc_let, qc_in, qc_bo, ↓reduceIte, zYT, zYF, zYt, zYf, zYe, zYn, nYT, nYF, nYt, nYf, nYe, nYn, or_false, false_or, or_true, true_or, not_false_eq_true, not_true_eq_false, and_self, and_true, true_and, and_false, false_and, qG, if_true, if_false, Nat.reduceAdd]
          exact ⟨_, _, rfl, rfl, h24.trans h16.symm, V, n, e5⟩
        · simp (disch := omega) only [zI_add, zI_sub, zI_mul, zI_neg, zL, zI_le, zI_lt, zI_eq, zI_cl, zA0, zI_if, Int.toNat_natCast, zT_add, zT_mul, Int.reduceToNat, Nat.add_zero, Nat.zero_add, Int.add_zero, Int.zero_add, zc_a, zc_l, Option.bind_some, qc_let, qc_in, qc_bo, ↓reduceIte, zYT, zYF, zYt, zYf, zYe, zYn, nYT, nYF, nYt, nYf, nYe, nYn, or_false, false_or, or_true, true_or, not_false_eq_true, not_true_eq_false, and_self, and_true, true_and, and_false, false_and, qG, if_true, if_false, Nat.reduceAdd]
          exact ⟨_, _, rfl, rfl, h25.trans h17.symm, V, n, e5⟩
        · simp (disch := omega) only [zI_add, zI_sub, zI_mul, zI_neg, zL, zI_le, zI_lt, zI_eq, zI_cl, zA0, zI_if, Int.toNat_natCast, zT_add, zT_mul, Int.reduceToNat, Nat.add_zero, Nat.zero_add, Int.add_zero, Int.zero_add, zc_a, zc_l, Option.bind_some, qc_let, qc_in, qc_bo, ↓reduceIte, zYT, zYF, zYt, zYf, zYe, zYn, nYT, nYF, nYt, nYf, nYe, nYn, or_false, false_or, or_true, true_or, not_false_eq_true, not_true_eq_false, and_self, and_true, true_and, and_false, false_and, qG, if_true, if_false, Nat.reduceAdd]
          exact ⟨_, _, rfl, rfl, h26.trans h18.symm, V, n, e5⟩
        · simp (disch := omega) only [zI_add, zI_sub, zI_mul, zI_neg, zL, zI_le, zI_lt, zI_eq, zI_cl, zA0, zI_if, Int.toNat_natCast, zT_add, zT_mul, Int.reduceToNat, Nat.add_zero, Nat.zero_add, Int.add_zero, Int.zero_add, zc_a, zc_l, Option.bind_some, qc_let, qc_in, qc_bo, ↓reduceIte, zYT, zYF, zYt, zYf, zYe, zYn, nYT, nYF, nYt, nYf, nYe, nYn, or_false, false_or, or_true, true_or, not_false_eq_true, not_true_eq_false, and_self, and_true, true_and, and_false, false_and, qG, if_true, if_false, Nat.reduceAdd]
          exact ⟨_, _, rfl, rfl, h27.trans h19.symm, V, n, e5⟩
        · simp (disch := omega) only [zI_add, zI_sub, zI_mul, zI_neg, zL, zI_le, zI_lt, zI_eq, zI_cl, zA0, zI_if, Int.toNat_natCast, zT_add, zT_mul, Int.reduceToNat, Nat.add_zero, Nat.zero_add, Int.add_zero, Int.zero_add, zc_a, zc_l, Option.bind_some, qc_let, qc_in, qc_bo, ↓reduceIte, zYT, zYF, zYt, zYf, zYe, zYn, nYT, nYF, nYt, nYf, nYe, nYn, or_false, false_or, or_true, true_or, not_false_eq_true, not_true_eq_false, and_self, and_true, true_and, and_false, false_and, qG, if_true, if_false, Nat.reduceAdd]
          exact ⟨_, _, rfl, rfl, h28.trans h20.symm, V, n, e5⟩
        · simp (disch := omega) only [zI_add, zI_sub, zI_mul, zI_neg, zL, zI_le, zI_lt, zI_eq, zI_cl, zA0, zI_if, Int.toNat_natCast, zT_add, zT_mul, Int.reduceToNat, Nat.add_zero, Nat.zero_add, Int.add_zero, Int.zero_add, zc_a, zc_l, Option.bind_some, qc_let, qc_in, qc_bo, ↓reduceIte, zYT, zYF, zYt, zYf, zYe, zYn, nYT, nYF, nYt, nYf, nYe, nYn, or_false, false_or, or_true, true_or, not_false_eq_true, not_true_eq_false, and_self, and_true, true_and, and_false, false_and, qG, if_true, if_false, Nat.reduceAdd]
          exact ⟨_, _, rfl, rfl, h29.trans h21.symm, V, n, e5⟩
        · simp (disch := omega) only [zI_add, zI_sub, zI_mul, zI_neg, zL, zI_le, zI_lt, zI_eq, zI_cl, zA0, zI_if, Int.toNat_natCast, zT_add, zT_mul, Int.reduceToNat, Nat.add_zero, Nat.zero_add, Int.add_zero, Int.zero_add, zc_a, zc_l, Option.bind_some, qc_let, qc_in, qc_bo, ↓reduceIte, zYT, zYF, zYt, zYf, zYe, zYn, nYT, nYF, nYt, nYf, nYe, nYn, or_false, false_or, or_true, true_or, not_false_eq_true, not_true_eq_false, and_self, and_true, true_and, and_false, false_and, qG, if_true, if_false, Nat.reduceAdd, m_hitsOf e5.2.1 e4 (show (prods V).length ≤ 300 by omega) hi]
          exact ⟨_, _, rfl, rfl, h30, V, n, e5⟩
      · have k0 : ¬ zI y = zI 0 := by rw [zI_eq] <;> omega
        have k1 : ¬ zI y = zI 1 := by rw [zI_eq] <;> omega
        have k2 : ¬ zI y = zI 2 := by rw [zI_eq] <;> omega
        have k3 : ¬ zI y = zI 3 := by rw [zI_eq] <;> omega
        have k4 : ¬ zI y = zI 4 := by rw [zI_eq] <;> omega
        have k5 : ¬ zI y = zI 5 := by rw [zI_eq] <;> omega
        have k6 : ¬ zI y = zI 6 := by rw [zI_eq] <;> omega
        rw [if_neg k0, if_neg k1, if_neg k2, if_neg k3, if_neg k4, if_neg k5, if_neg k6]
        by_cases c4 : y < 0
        · rw [if_pos (show zI y < zI 0 by rw [zI_lt] <;> omega)]; exact ⟨_, _, rfl, rfl, rfl, V, n, e5⟩
        · rw [if_neg (show ¬ zI y < zI 0 by rw [zI_lt] <;> omega), if_neg (show ¬ zI y ≤ zI 6 by rw [zI_le] <;> omega)]; exact ⟨_, _, rfl, rfl, rfl, V, n, e5⟩
    · rw [if_pos (show zI ((prods V).length : Int) ≤ zI x by rw [zI_le] <;> omega), if_neg (show ¬ zI x < zI ((prods V).length : Int) by rw [zI_lt] <;> omega)]; exact ⟨_, _, rfl, rfl, rfl, V, n, e5⟩
theorem st_14 : St_14 Rel := by
  intro I J w M a ⟨V, n, h0⟩
  have h := RelV_0 h0 (zI 0)
  have h6 : (v_us V).val ≤ 6 := h.2.1.2.2.2.2.2.2.2.2.2.2.2.2.2.2.1
  unfold P_X6_hits P_X7_hits_
  simp only [zI_add, zI_sub, zI_mul, zI_neg, zL, qc_let]
  rcases user_cases h.1 h.2.1 a with ⟨e1, e2⟩ | ⟨u, hu, rfl, e1, e2⟩
  · rw [e1, e2]
    exact ⟨_, _, rfl, rfl, rfl, V, n, h⟩
  · rw [e1, e2]
    have hx := (SX_at9 h.1 (show u < 8 by omega)).1
    have hm : qc_u2 M 0 0 (zI 0) 13 u = zI (v_ch V u).val := h.2.1.2.2.2.2.2.2.2.2.1 u hu
    obtain ⟨I', J', M', e1, e2, e3, e4, e5, e6⟩ := both_fill h
    rw [e1, e2]
    simp (disch := omega) only [zI_add, zI_sub, zI_mul, zI_neg, zL, zI_le, zI_lt, zI_eq, zI_cl, zA0, zI_if, Int.toNat_natCast, zT_add, zT_mul, Int.reduceToNat, Nat.add_zero, Nat.zero_add, Int.add_zero, Int.zero_add, zc_a, zc_l, Option.bind_some, qc_in, iteT, iteF, hx, hm]
    by_cases c : (v_ch V u).val = 0
    · rw [if_pos (by omega), if_pos (by omega)]
      exact ⟨_, _, rfl, rfl, rfl, V, n, h⟩
    · rw [if_neg (by omega), if_neg (by omega), x_strikesOn e3 (by omega) hu, m_strikesOn e5.2.1 e4 (by omega) hu]
      exact ⟨_, _, rfl, rfl, rfl, V, n, e5⟩
theorem st_28 : St_28 Rel := by
  intro I J w M a b ⟨V, n, h0⟩
  have h := RelV_0 h0 (zI 0)
  obtain ⟨I', J', M', e1, e2, e3, e4, e5, e6⟩ := both_fill h
  obtain ⟨x, rfl, x1, x2⟩ := zAll a
  obtain ⟨y, rfl, y1, y2⟩ := zAll b
  unfold P_X6_bySort P_X7_bySort
  simp only [zI_add, zI_sub, zI_mul, zI_neg, zL, qc_let]
  rw [e1, e2]
  simp (disch := omega) only [Option.bind_some, zI_lt, zI_le, zI_eq]
  by_cases c1 : x < 0
  · rw [if_pos c1, if_pos c1]; exact ⟨_, _, rfl, rfl, rfl, V, n, h⟩
  · rw [if_neg c1, if_neg c1]
    by_cases c2 : 6 ≤ x
    · rw [if_pos c2, if_pos c2]; exact ⟨_, _, rfl, rfl, rfl, V, n, h⟩
    · rw [if_neg c2, if_neg c2]
      by_cases c3 : y < 0
      · rw [if_pos c3, if_pos c3]; exact ⟨_, _, rfl, rfl, rfl, V, n, h⟩
      · rw [if_neg c3, if_neg c3]
        by_cases c4 : y ≤ 2
        · rw [if_pos c4, if_pos c4, x_sumOfSort e3 (by omega) (by omega) (by omega) (by omega) (by omega), m_bySort e5.2.1 e4 (by omega) (by omega) (by omega) (by omega) (by omega)]
          exact ⟨_, _, rfl, rfl, rfl, V, n, e5⟩
        · rw [if_neg c4, if_neg c4]; exact ⟨_, _, rfl, rfl, rfl, V, n, h⟩
theorem st_26 : St_26 Rel := by
  intro I J w M ⟨V, n, h0⟩
  have h := RelV_0 h0 (zI 0)
  obtain ⟨I', J', M', e1, e2, e3, e4, e5, e6⟩ := both_fill h
  obtain ⟨r, m1, m2, m3, m4⟩ := m_worst h.2.1
  unfold P_X6_worst P_X7_worst
  simp only [zI_add, zI_sub, zI_mul, zI_neg, zL, qc_let]
  rw [e1, m1]
  simp only [Option.bind_some]
  rw [e5.1.1, x_worst e3 (by omega)]
  refine ⟨_, _, rfl, rfl, m2.symm, V, n, ?_⟩
  have hX : eX I I' := by
    obtain ⟨r', r1, r2, r3, r4⟩ := x_fill (by omega) h.1
    rw [e1] at r1
    have r1 := Option.some.inj r1
    subst r1
    exact eX_g r2
  have hJ : eJ J J' := by
    obtain ⟨r', r1, r2, r3, r4⟩ := x_fill (by omega) h.1
    rw [e1] at r1
    have r1 := Option.some.inj r1
    subst r1
    exact eJ_g r3
  exact RelV_e hX hJ (eP_M m3) h
