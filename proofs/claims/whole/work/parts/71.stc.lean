/-! nearest -/
def nearStep (V : sV) (u k : Nat) (s : Int × Nat) : Int × Nat :=
  if k = u ∨ (v_st V k).val ≠ (v_st V u).val ∨ (v_ch V k).val = 0 ∨ (v_ch V u).val = 0 then s else if s.1 < 0 ∨ dist (v_ch V u).val (v_ch V k).val < s.2 then ((k : Int), dist (v_ch V u).val (v_ch V k).val) else s
theorem x_isTunedAt {I : Nat → Nat → Int32} {J : Nat → Nat → Int64} {p : Nat} {V : sV} (h : SX I J p V) {a s : Nat} (ha : a < 8) (hs : s < 3) : P_X4_isTunedAt I p (zI a) (zI s) = some (bI (decide (0 < (v_ch V a).val ∧ (v_st V a).val = s))) := by
  obtain ⟨hus, hbd, hgd, hsp, hod, hst, hlo, hhi, hch, hpw, hsl, hls, hlk, hsh⟩ := h
  unfold P_X4_isTunedAt
  simp (disch := omega) only [zI_add, zI_sub, zI_mul, zI_neg, zL, zI_le, zI_lt, zI_eq, zI_cl, zA0, zI_if, Int.toNat_natCast, zT_add, zT_mul, Int.reduceToNat, Nat.add_zero, Nat.zero_add, Int.add_zero, Int.zero_add, zc_a, zc_l, Option.bind_some, qc_let, qc_in, qc_bo, iteT, iteF, and_self, if_true, if_false, qG, hst, hch]
  repeat' split
  all_goals try simp (disch := omega) only [zI_add, zI_sub, zI_mul, zI_neg, zL, zI_le, zI_lt, zI_eq, zI_cl, zA0, zI_if, Int.toNat_natCast, zT_add, zT_mul, Int.reduceToNat, Nat.add_zero, Nat.zero_add, Int.add_zero, Int.zero_add, zc_a, zc_l, Option.bind_some, qc_let, qc_in, qc_bo, iteT, iteF, and_self, if_true, if_false, qG, true_or, or_true, if_true]
  all_goals first | (exfalso; omega) | (rw [bI_n (by omega)]) | (rw [bI_p (by omega)])
theorem near_same (V : sV) {u : Nat} (h : (v_ch V u).val = 0) : ∀ d k s, it (nearStep V u) d k s = s := by
  intro d
  induction d with
  | zero => intro k s; rfl
  | succ d ih =>
    intro k s
    show it (nearStep V u) d (k + 1) (nearStep V u k s) = s
    rw [ih]
    unfold nearStep
    rw [if_pos (by omega)]
theorem dist_if (a b : Nat) : (if 0 ≤ (a : Int) - b then (a : Int) - b else 0 - ((a : Int) - b)) = (dist b a : Nat) := by
  unfold dist
  split <;> split <;> omega
theorem dist_b {a b : Nat} (h : a ≤ 60) (h' : b ≤ 60) : dist a b ≤ 60 := by
  unfold dist
  split <;> omega
theorem dist_c (a b : Nat) : dist a b = dist b a := by
  unfold dist
  split <;> split <;> omega
theorem x_nearest {I : Nat → Nat → Int32} {J : Nat → Nat → Int64} {p : Nat} {V : sV} (h : SX I J p V) {u : Nat} (hu : u < (v_us V).val) : P_X4_nearestOfSite I p (zI u) = some (zI (it (nearStep V u) (v_us V).val 0 (-2, 0)).1) := by
  have hh := h
  obtain ⟨hus, hbd, hgd, hsp, hod, hst, hlo, hhi, hch, hpw, hsl, hls, hlk, hsh⟩ := h
  unfold P_X4_nearestOfSite
  simp only [zI_add, zI_sub, zI_mul, zI_neg, zL]
  by_cases c0 : (v_ch V u).val = 0
  · rw [near_same V c0]
    obtain ⟨g, hg⟩ : ∃ g, qc_fu = g + 1 := ⟨99999, rfl⟩
    rw [hg]
    simp (disch := omega) only [P_X4_nearestOfSite_8, zI_add, zI_sub, zI_mul, zI_neg, zL, zI_le, zI_lt, zI_eq, zI_cl, zA0, zI_if, Int.toNat_natCast, zT_add, zT_mul, Int.reduceToNat, Nat.add_zero, Nat.zero_add, Int.add_zero, Int.zero_add, zc_a, zc_l, Option.bind_some, qc_let, qc_in, qc_bo, iteT, iteF, and_self, if_true, if_false, qG, hus, hch]
  · have key := it_runI (fun f k (s : Int × Nat) => P_X4_nearestOfSite_8 I p f (zI u) (zI s.1) (zI (s.2 : Nat)) (zI k)) (nearStep V u) (fun s => some (zI s.1)) (v_us V).val (fun k s => -2 ≤ s.1 ∧ s.1 < 9 ∧ s.2 ≤ 60) (by
      intro f k s hk ⟨i1, i2, i3⟩
      have hd := dist_b (a := (v_ch V u).val) (b := (v_ch V k).val) (by omega) (by omega)
      constructor
      · simp (disch := omega) only [P_X4_nearestOfSite_8, P_X4_nearestOfSite_82, P_X4_nearestOfSite_76, zI_add, zI_sub, zI_mul, zI_neg, zL, zI_cl, Int.toNat_natCast, zc_a, zc_l, qc_let, qc_in, Option.bind_some, hus, hch, hst, x_isTunedAt hh (show k < 8 by omega) (show (v_st V u).val < 3 by omega), bI_0, zI_lt, zI_le, zI_eq, iteT, iteF, zI_if, dist_if, decide_eq_false_iff_not]
        unfold nearStep
        by_cases c1 : k = u
        · rw [if_pos (by omega), if_pos (Or.inl c1)]
        · rw [if_neg (by omega)]
          by_cases c2 : 0 < (v_ch V k).val ∧ (v_st V k).val = (v_st V u).val
          · rw [if_neg (by simpa using c2), if_neg (show ¬ (k = u ∨ (v_st V k).val ≠ (v_st V u).val ∨ (v_ch V k).val = 0 ∨ (v_ch V u).val = 0) by omega)]
            rw [dist_c (v_ch V k).val]
            by_cases c3 : s.1 < 0
            · rw [if_pos c3, if_pos (Or.inl c3)]
            · rw [if_neg c3]
              by_cases c4 : dist (v_ch V u).val (v_ch V k).val < s.2
              · rw [if_neg (by rw [zI_le] <;> omega), if_pos (Or.inr c4)]
              · rw [if_pos (by rw [zI_le] <;> omega), if_neg (by omega)]
          · rw [if_pos (by simpa using c2), if_pos (by omega)]
      · unfold nearStep
        split
        · exact ⟨i1, i2, i3⟩
        · split
          · exact ⟨by show (-2 : Int) ≤ k; omega, by show (k : Int) < 9; omega, hd⟩
          · exact ⟨i1, i2, i3⟩) (by
      intro f s ⟨i1, i2, i3⟩
      simp (disch := omega) only [P_X4_nearestOfSite_8, zI_add, zI_sub, zI_mul, zI_neg, zL, zI_le, zI_lt, zI_eq, zI_cl, zA0, zI_if, Int.toNat_natCast, zT_add, zT_mul, Int.reduceToNat, Nat.add_zero, Nat.zero_add, Int.add_zero, Int.zero_add, zc_a, zc_l, Option.bind_some, qc_let, qc_in, qc_bo, iteT, iteF, and_self, if_true, if_false, qG, hus]) (v_us V).val 0 qc_fu (-2, 0) (by omega) (by unfold qc_fu; omega) ⟨by decide, by decide, by decide⟩
    exact key.1
theorem m_nearest {M : Nat → Nat → Int32} {V : sV} (h : MX M V) {u : Nat} (hu : u < (v_us V).val) : P_X7_nearest_20 qc_fu M (zI u) (zI (-2)) (zI 0) = some (zI (it (nearStep V u) (v_us V).val 0 (-2, 0)).1, M) := by
  have hh := h
  obtain ⟨hus, hbd, hgd, hsp, hod, hst, hlo, hhi, hch, hpw, hsl, hls, hlk, hsh, h6, hl1⟩ := h
  have key := it_runI (fun f k (s : Int × Nat) => P_X7_nearest_20 f M (zI u) (zI s.1) (zI k)) (nearStep V u) (fun s => some (zI s.1, M)) (v_us V).val (fun k s => s.1 = -2 ∨ (0 ≤ s.1 ∧ s.1 < (v_us V).val ∧ s.2 = dist (v_ch V u).val (v_ch V s.1.toNat).val)) (by
      intro f k s hk hi
      have b1 : -2 ≤ s.1 ∧ s.1 < 9 := by omega
      constructor
      · have one : k = u ∨ (v_st V k).val ≠ (v_st V u).val ∨ (v_ch V k).val = 0 ∨ (v_ch V u).val = 0 → P_X7_nearest_20 (f + 1) M (zI u) (zI s.1) (zI k) = P_X7_nearest_20 f M (zI u) (zI s.1) (zI ((k + 1 : Nat) : Int)) := by
          intro hc
          by_cases c1 : k = u
          · simp (disch := omega) only [P_X7_nearest_20, P_X7_nearest_124, P_X7_users, zI_add, zI_sub, zI_mul, zI_neg, zL, zI_le, zI_lt, zI_eq, zI_cl, zA0, zI_if, Int.toNat_natCast, zT_add, zT_mul, Int.reduceToNat, Nat.add_zero, Nat.zero_add, Int.add_zero, Int.zero_add, zc_a, zc_l, Option.bind_some, qc_let, qc_in, qc_bo, ↓reduceIte, zYT, zYF, zYt, zYf, zYe, zYn, nYT, nYF, nYt, nYf, nYe, nYn, or_false, false_or, or_true, true_or, not_false_eq_true, not_true_eq_false, and_self, and_true, true_and, and_false, false_and, qG, if_true, if_false, hus, hch, hst]
          · by_cases c2 : (v_st V k).val = (v_st V u).val
            · by_cases c3 : (v_ch V k).val = 0
              · simp (disch := omega) only [P_X7_nearest_20, P_X7_nearest_124, P_X7_users, zI_add, zI_sub, zI_mul, zI_neg, zL, zI_le, zI_lt, zI_eq, zI_cl, zA0, zI_if, Int.toNat_natCast, zT_add, zT_mul, Int.reduceToNat, Nat.add_zero, Nat.zero_add, Int.add_zero, Int.zero_add, zc_a, zc_l, Option.bind_some, qc_let, qc_in, qc_bo, ↓reduceIte, zYT, zYF, zYt, zYf, zYe, zYn, nYT, nYF, nYt, nYf, nYe, nYn, or_false, false_or, or_true, true_or, not_false_eq_true, not_true_eq_false, and_self, and_true, true_and, and_false, false_and, qG, if_true, if_false, hus, hch, hst]
              · have c4 : (v_ch V u).val = 0 := by omega
                simp (disch := omega) only [P_X7_nearest_20, P_X7_nearest_124, P_X7_users, zI_add, zI_sub, zI_mul, zI_neg, zL, zI_le, zI_lt, zI_eq, zI_cl, zA0, zI_if, Int.toNat_natCast, zT_add, zT_mul, Int.reduceToNat, Nat.add_zero, Nat.zero_add, Int.add_zero, Int.zero_add, zc_a, zc_l, Option.bind_some, qc_let, qc_in, qc_bo, ↓reduceIte, zYT, zYF, zYt, zYf, zYe, zYn, nYT, nYF, nYt, nYf, nYe, nYn, or_false, false_or, or_true, true_or, not_false_eq_true, not_true_eq_false, and_self, and_true, true_and, and_false, false_and, qG, if_true, if_false, hus, hch, hst]
            · simp (disch := omega) only [P_X7_nearest_20, P_X7_nearest_124, P_X7_users, zI_add, zI_sub, zI_mul, zI_neg, zL, zI_le, zI_lt, zI_eq, zI_cl, zA0, zI_if, Int.toNat_natCast, zT_add, zT_mul, Int.reduceToNat, Nat.add_zero, Nat.zero_add, Int.add_zero, Int.zero_add, zc_a, zc_l, Option.bind_some, qc_let, qc_in, qc_bo, ↓reduceIte, zYT, zYF, zYt, zYf, zYe, zYn, nYT, nYF, nYt, nYf, nYe, nYn, or_false, false_or, or_true, true_or, not_false_eq_true, not_true_eq_false, and_self, and_true, true_and, and_false, false_and, qG, if_true, if_false, hus, hch, hst]
        show P_X7_nearest_20 (f + 1) M (zI u) (zI s.1) (zI k) = P_X7_nearest_20 f M (zI u) (zI (nearStep V u k s).1) (zI ((k + 1 : Nat) : Int))
        by_cases hc : k = u ∨ (v_st V k).val ≠ (v_st V u).val ∨ (v_ch V k).val = 0 ∨ (v_ch V u).val = 0
        · unfold nearStep
          rw [if_pos hc]
          exact one hc
        · unfold nearStep
          rw [if_neg hc]
          by_cases c5 : s.1 = -2
          · rw [if_pos (by omega)]
            simp (disch := omega) only [P_X7_nearest_20, P_X7_nearest_124, P_X7_nearest_122, P_X7_users, zI_add, zI_sub, zI_mul, zI_neg, zL, zI_le, zI_lt, zI_eq, zI_cl, zA0, zI_if, Int.toNat_natCast, zT_add, zT_mul, Int.reduceToNat, Nat.add_zero, Nat.zero_add, Int.add_zero, Int.zero_add, zc_a, zc_l, Option.bind_some, qc_let, qc_in, qc_bo, ↓reduceIte, zYT, zYF, zYt, zYf, zYe, zYn, nYT, nYF, nYt, nYf, nYe, nYn, or_false, false_or, or_true, true_or, not_false_eq_true, not_true_eq_false, and_self, and_true, true_and, and_false, false_and, qG, if_true, if_false, hus, hch, hst]
          · have hi : 0 ≤ s.1 ∧ s.1 < (v_us V).val ∧ s.2 = dist (v_ch V u).val (v_ch V s.1.toNat).val := by
              rcases hi with hi | hi
              · exact absurd hi c5
              · exact hi
            have e1 : (if 0 ≤ ((v_ch V k).val : Int) - (v_ch V u).val then ((v_ch V k).val : Int) - (v_ch V u).val else -(((v_ch V k).val : Int) - (v_ch V u).val)) = (dist (v_ch V u).val (v_ch V k).val : Nat) := by
              unfold dist
              split <;> split <;> omega
            have e2 : (if 0 ≤ ((v_ch V s.1.toNat).val : Int) - (v_ch V u).val then ((v_ch V s.1.toNat).val : Int) - (v_ch V u).val else -(((v_ch V s.1.toNat).val : Int) - (v_ch V u).val)) = (s.2 : Nat) := by
              rw [hi.2.2]
              unfold dist
              split <;> split <;> omega
            have w1 : P_X7_without (zI (((v_ch V k).val : Int) - (v_ch V u).val)) = some (zI (dist (v_ch V u).val (v_ch V k).val : Nat)) := by
              rw [m_without (by omega) (by omega), e1]
            have w2 : P_X7_without (zI (((v_ch V s.1.toNat).val : Int) - (v_ch V u).val)) = some (zI (s.2 : Nat)) := by
              rw [m_without (by omega) (by omega), e2]
            have hd := dist_b (a := (v_ch V u).val) (b := (v_ch V k).val) (by omega) (by omega)
            have hd2 : s.2 ≤ 60 := by
              rw [hi.2.2]
              exact dist_b (by omega) (by omega)
            by_cases c6 : dist (v_ch V u).val (v_ch V k).val < s.2
            · rw [if_pos (Or.inr c6)]
              simp (disch := omega) only [P_X7_nearest_20, P_X7_nearest_124, P_X7_nearest_122, P_X7_users, zI_add, zI_sub, zI_mul, zI_neg, zL, zI_le, zI_lt, zI_eq, zI_cl, zA0, zI_if, Int.toNat_natCast, zT_add, zT_mul, Int.reduceToNat, Nat.add_zero, Nat.zero_add, Int.add_zero, Int.zero_add, zc_a, zc_l, Option.bind_some, qc_let, qc_in, qc_bo, ↓reduceIte, zYT, zYF, zYt, zYf, zYe, zYn, nYT, nYF, nYt, nYf, nYe, nYn, or_false, false_or, or_true, true_or, not_false_eq_true, not_true_eq_false, and_self, and_true, true_and, and_false, false_and, qG, if_true, if_false, hus, hch, hst, w1, w2]
            · rw [if_neg (by omega)]
              simp (disch := omega) only [P_X7_nearest_20, P_X7_nearest_124, P_X7_nearest_122, P_X7_users, zI_add, zI_sub, zI_mul, zI_neg, zL, zI_le, zI_lt, zI_eq, zI_cl, zA0, zI_if, Int.toNat_natCast, zT_add, zT_mul, Int.reduceToNat, Nat.add_zero, Nat.zero_add, Int.add_zero, Int.zero_add, zc_a, zc_l, Option.bind_some, qc_let, qc_in, qc_bo, ↓reduceIte, zYT, zYF, zYt, zYf, zYe, zYn, nYT, nYF, nYt, nYf, nYe, nYn, or_false, false_or, or_true, true_or, not_false_eq_true, not_true_eq_false, and_self, and_true, true_and, and_false, false_and, qG, if_true, if_false, hus, hch, hst, w1, w2]
      · unfold nearStep
        split
        · exact hi
        · split
          · exact Or.inr ⟨by show (0 : Int) ≤ k; omega, by show (k : Int) < _; omega, rfl⟩
          · exact hi) (by
      intro f s hi
      simp (disch := omega) only [P_X7_nearest_20, P_X7_users, zI_add, zI_sub, zI_mul, zI_neg, zL, zI_le, zI_lt, zI_eq, zI_cl, zA0, zI_if, Int.toNat_natCast, zT_add, zT_mul, Int.reduceToNat, Nat.add_zero, Nat.zero_add, Int.add_zero, Int.zero_add, zc_a, zc_l, Option.bind_some, qc_let, qc_in, qc_bo, iteT, iteF, and_self, if_true, if_false, qG, hus]) (v_us V).val 0 qc_fu (-2, 0) (by omega) (by unfold qc_fu; omega) (Or.inl rfl)
  exact key.1
theorem st_35 : St_35 Rel := by
  intro I J w M a ⟨V, n, h0⟩
  have h := RelV_0 h0 (zI 0)
  unfold P_X6_nearest P_X7_nearest
  simp only [zI_add, zI_sub, zI_mul, zI_neg, zL, qc_let]
  rcases user_cases h.1 h.2.1 a with ⟨e1, e2⟩ | ⟨u, hu, rfl, e1, e2⟩
  · rw [e1, e2]
    exact ⟨_, _, rfl, rfl, rfl, V, n, h⟩
  · rw [e1, e2]
    simp (disch := omega) only [Option.bind_some, zI_eq, iteF]
    rw [x_nearest h.1 hu, m_nearest h.2.1 hu]
    exact ⟨_, _, rfl, rfl, rfl, V, n, h⟩
