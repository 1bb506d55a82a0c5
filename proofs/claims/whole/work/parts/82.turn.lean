/-! turned, left: what is laid aside, and comes back -/
def eA (M0 M : Nat → Nat → Int32) : Prop := (∀ t, (t = 1 ∨ t = 2 ∨ t = 4 ∨ t = 5 ∨ t = 7 ∨ t = 8 ∨ t = 11 ∨ t = 14) → M t = M0 t) ∧ (∀ j, j < 79 → M 15 j = M0 13 j) ∧ (∀ j, 79 ≤ j → M 13 j = M0 13 j) ∧ (∀ j, j ≠ 0 → j ≠ 41 → j ≠ 42 → j ≠ 44 → j ≠ 30 → j ≠ 31 → j ≠ 32 → j ≠ 33 → M 0 j = M0 0 j)
theorem eA_0 (M : Nat → Nat → Int32) : eA M (cpM M 15 13 0 0 79) := by
  refine ⟨?_, ?_, ?_, ?_⟩
  · intro t ht; exact cpM_ne _ _ _ _ _ _ (by omega)
  · intro j hj; rw [cpM_at, if_pos (by omega), Nat.sub_zero, Nat.zero_add]
  · intro j hj; rw [cpM_ne _ _ _ _ _ _ (by omega)]
  · intro j _ _ _ _ _ _ _ _; rw [cpM_ne _ _ _ _ _ _ (by omega)]
theorem eA_P {M0 M M' : Nat → Nat → Int32} (h : eA M0 M) (he : eP M M') : eA M0 M' := by
  refine ⟨?_, ?_, ?_, ?_⟩
  · intro t ht; rw [he.1 t (by omega) (by omega)]; exact h.1 t ht
  · rw [he.1 15 (by omega) (by omega)]; exact h.2.1
  · rw [he.1 13 (by omega) (by omega)]; exact h.2.2.1
  · intro j a b c d e f g k; rw [he.2 j b]; exact h.2.2.2 j a b c d e f g k
theorem eA_s {M0 M : Nat → Nat → Int32} (h : eA M0 M) {i : Nat} (hi : i < 79) (x : Int32) : eA M0 (qc_u2 M 13 i x) := by
  refine ⟨?_, ?_, ?_, ?_⟩
  · intro t ht; rw [u2_ne (by omega)]; exact h.1 t ht
  · rw [u2_ne (by omega)]; exact h.2.1
  · intro j hj; rw [qG, if_neg (by omega)]; exact h.2.2.1 j hj
  · rw [u2_ne (by omega)]; exact h.2.2.2
theorem eA_b {M0 M : Nat → Nat → Int32} {V : sV} (h0 : MX M0 V) (hT : TM M0 V) (h : eA M0 M) : eM M0 (toldM (cpM M 13 15 0 0 79)) := by
  refine eM_told h0 hT ?_ ?_
  · intro t ht
    by_cases c : t = 13
    · subst c
      funext j
      rw [cpM_at]
      by_cases cj : j < 79
      · rw [if_pos (by omega), Nat.sub_zero, Nat.zero_add]; exact h.2.1 j cj
      · rw [if_neg (by omega)]; exact h.2.2.1 j (by omega)
    · rw [cpM_ne _ _ _ _ _ _ c]; exact h.1 t (by omega)
  · intro j a b c d e f g k
    rw [cpM_ne _ _ _ _ _ _ (by omega)]
    exact h.2.2.2 j a b c d e f g k
/-- how much power there is in all -/
def pwN (V : sV) : Nat := sm (fun u => (v_pw V u).val) (v_us V).val 0
theorem sm_dec (f g : Nat → Nat) (u : Nat) (h1 : ∀ i, i ≠ u → g i = f i) (h2 : g u + 1 = f u) : ∀ d k, k ≤ u → u < k + d → sm g d k + 1 = sm f d k := by
  intro d
  induction d with
  | zero => intro k a b; omega
  | succ d ih =>
    intro k a b
    show g k + sm g d (k + 1) + 1 = f k + sm f d (k + 1)
    by_cases c : k = u
    · have : sm g d (k + 1) = sm f d (k + 1) := sm_cg d (k + 1) (fun i hi _ => h1 i (by omega))
      rw [this, c, ← h2]
      omega
    · rw [h1 k c]
      have := ih (k + 1) (by omega) (by omega)
      omega
theorem sm_mem {f : Nat → Nat} {u : Nat} : ∀ d k, k ≤ u → u < k + d → f u ≤ sm f d k := by
  intro d
  induction d with
  | zero => intro k a b; omega
  | succ d ih =>
    intro k a b
    show f u ≤ f k + sm f d (k + 1)
    by_cases c : k = u
    · rw [c]; omega
    · have := ih (k + 1) (by omega) (by omega)
      omega
theorem turn_loop {V0 : sV} {M0 : Nat → Nat → Int32} (h6 : (v_us V0).val ≤ 6) : ∀ (k f s : Nat) (V : sV) (I : Nat → Nat → Int32) (J : Nat → Nat → Int64) (M : Nat → Nat → Int32), pwN V = k → k < f → s + k ≤ 180 → v_us V = v_us V0 → SX I J 12 V → XL I V (prods V) → MX M V → ML M V (prods V) → eA M0 M → ∃ x I' J' M' W, P_X6_turnDown_39 f I J (zI (s : Nat)) (zI (worS V (prods V))) = some (x, I', J') ∧ P_X7_turnsDown_11 f M (zI (s : Nat)) (zI (worS V (prods V))) = some (x, M') ∧ v_us W = v_us V0 ∧ SX I' J' 12 W ∧ XL I' W (prods W) ∧ MX M' W ∧ eX I I' ∧ eJ J J' ∧ eA M0 M' := by
  intro k
  induction k with
  | zero =>
    intro f s V I J M hk hf hs hv hS hX hM hL hA
    obtain ⟨g, rfl⟩ : ∃ g, f = g + 1 := ⟨f - 1, by omega⟩
    have hw := worS_b V (prods V) (v_us V).val 0 (-2, 0) (Or.inl rfl) (by omega)
    change (worS V (prods V) = -2 ∨ (0 ≤ worS V (prods V) ∧ worS V (prods V) < _)) at hw
    refine ⟨zI (s : Nat), I, J, M, V, ?_, ?_, hv, hS, hX, hM, eX_r I, eJ_r J, hA⟩
    · by_cases c0 : 180 ≤ s
      · simp (disch := omega) only [P_X6_turnDown_39, zI_add, zI_sub, zI_mul, zI_neg, zL, zI_le, zI_lt, zI_eq, zI_cl, zA0, zI_if, Int.toNat_natCast, zT_add, zT_mul, Int.reduceToNat, Nat.add_zero, Nat.zero_add, Int.add_zero, Int.zero_add, zc_a, zc_l, Option.bind_some, qc_let, qc_in, qc_bo, ↓reduceIte, zYT, zYF, zYt, zYf, zYe, zYn, nYT, nYF, nYt, nYf, nYe, nYn, or_false, false_or, or_true, true_or, not_false_eq_true, not_true_eq_false, and_self, and_true, true_and, and_false, false_and, qG, if_true, if_false]
      · by_cases c1 : worS V (prods V) < 0
        · simp (disch := omega) only [P_X6_turnDown_39, zI_add, zI_sub, zI_mul, zI_neg, zL, zI_le, zI_lt, zI_eq, zI_cl, zA0, zI_if, Int.toNat_natCast, zT_add, zT_mul, Int.reduceToNat, Nat.add_zero, Nat.zero_add, Int.add_zero, Int.zero_add, zc_a, zc_l, Option.bind_some, qc_let, qc_in, qc_bo, ↓reduceIte, zYT, zYF, zYt, zYf, zYe, zYn, nYT, nYF, nYt, nYf, nYe, nYn, or_false, false_or, or_true, true_or, not_false_eq_true, not_true_eq_false, and_self, and_true, true_and, and_false, false_and, qG, if_true, if_false]
        · obtain ⟨u, hu⟩ : ∃ u : Nat, worS V (prods V) = (u : Int) := ⟨(worS V (prods V)).toNat, by omega⟩
          rw [hu] at hw ⊢
          have hp : I 20 u = zI (v_pw V u).val := hS.2.2.2.2.2.2.2.2.2.1 u (by omega)
          have hp0 : (v_pw V u).val = 0 := by
            have := sm_mem (f := fun u => (v_pw V u).val) (u := u) (v_us V).val 0 (by omega) (by omega)
            unfold pwN at hk
            omega
          simp (disch := omega) only [P_X6_turnDown_39, zI_add, zI_sub, zI_mul, zI_neg, zL, zI_le, zI_lt, zI_eq, zI_cl, zA0, zI_if, Int.toNat_natCast, zT_add, zT_mul, Int.reduceToNat, Nat.add_zero, Nat.zero_add, Int.add_zero, Int.zero_add, zc_a, zc_l, Option.bind_some, qc_let, qc_in, qc_bo, ↓reduceIte, zYT, zYF, zYt, zYf, zYe, zYn, nYT, nYF, nYt, nYf, nYe, nYn, or_false, false_or, or_true, true_or, not_false_eq_true, not_true_eq_false, and_self, and_true, true_and, and_false, false_and, qG, if_true, if_false, hp]
    · by_cases c1 : worS V (prods V) = -2
      · simp (disch := omega) only [P_X7_turnsDown_11, zI_add, zI_sub, zI_mul, zI_neg, zL, zI_le, zI_lt, zI_eq, zI_cl, zA0, zI_if, Int.toNat_natCast, zT_add, zT_mul, Int.reduceToNat, Nat.add_zero, Nat.zero_add, Int.add_zero, Int.zero_add, zc_a, zc_l, Option.bind_some, qc_let, qc_in, qc_bo, ↓reduceIte, zYT, zYF, zYt, zYf, zYe, zYn, nYT, nYF, nYt, nYf, nYe, nYn, or_false, false_or, or_true, true_or, not_false_eq_true, not_true_eq_false, and_self, and_true, true_and, and_false, false_and, qG, if_true, if_false]
      · obtain ⟨u, hu⟩ : ∃ u : Nat, worS V (prods V) = (u : Int) := ⟨(worS V (prods V)).toNat, by omega⟩
        rw [hu] at hw ⊢
        have hm : M 13 (6 + u) = zI (v_pw V u).val := hM.2.2.2.2.2.2.2.2.2.1 u (by omega)
        have hp0 : (v_pw V u).val = 0 := by
          have := sm_mem (f := fun u => (v_pw V u).val) (u := u) (v_us V).val 0 (by omega) (by omega)
          unfold pwN at hk
          omega
        simp (disch := omega) only [P_X7_turnsDown_11, zI_add, zI_sub, zI_mul, zI_neg, zL, zI_le, zI_lt, zI_eq, zI_cl, zA0, zI_if, Int.toNat_natCast, zT_add, zT_mul, Int.reduceToNat, Nat.add_zero, Nat.zero_add, Int.add_zero, Int.zero_add, zc_a, zc_l, Option.bind_some, qc_let, qc_in, qc_bo, ↓reduceIte, zYT, zYF, zYt, zYf, zYe, zYn, nYT, nYF, nYt, nYf, nYe, nYn, or_false, false_or, or_true, true_or, not_false_eq_true, not_true_eq_false, and_self, and_true, true_and, and_false, false_and, qG, if_true, if_false, hm]
  | succ k ih =>
    intro f s V I J M hk hf hs hv hS hX hM hL hA
    obtain ⟨g, rfl⟩ : ∃ g, f = g + 1 := ⟨f - 1, by omega⟩
    have hw := worS_b V (prods V) (v_us V).val 0 (-2, 0) (Or.inl rfl) (by omega)
    change (worS V (prods V) = -2 ∨ (0 ≤ worS V (prods V) ∧ worS V (prods V) < _)) at hw
    have hv2 : (v_us V).val ≤ 6 := by rw [hv]; exact h6
    by_cases c1 : worS V (prods V) = -2
    · refine ⟨zI (s : Nat), I, J, M, V, ?_, ?_, hv, hS, hX, hM, eX_r I, eJ_r J, hA⟩
      · simp (disch := omega) only [P_X6_turnDown_39, zI_add, zI_sub, zI_mul, zI_neg, zL, zI_le, zI_lt, zI_eq, zI_cl, zA0, zI_if, Int.toNat_natCast, zT_add, zT_mul, Int.reduceToNat, Nat.add_zero, Nat.zero_add, Int.add_zero, Int.zero_add, zc_a, zc_l, Option.bind_some, qc_let, qc_in, qc_bo, ↓reduceIte, zYT, zYF, zYt, zYf, zYe, zYn, nYT, nYF, nYt, nYf, nYe, nYn, or_false, false_or, or_true, true_or, not_false_eq_true, not_true_eq_false, and_self, and_true, true_and, and_false, false_and, qG, if_true, if_false]
      · simp (disch := omega) only [P_X7_turnsDown_11, zI_add, zI_sub, zI_mul, zI_neg, zL, zI_le, zI_lt, zI_eq, zI_cl, zA0, zI_if, Int.toNat_natCast, zT_add, zT_mul, Int.reduceToNat, Nat.add_zero, Nat.zero_add, Int.add_zero, Int.zero_add, zc_a, zc_l, Option.bind_some, qc_let, qc_in, qc_bo, ↓reduceIte, zYT, zYF, zYt, zYf, zYe, zYn, nYT, nYF, nYt, nYf, nYe, nYn, or_false, false_or, or_true, true_or, not_false_eq_true, not_true_eq_false, and_self, and_true, true_and, and_false, false_and, qG, if_true, if_false]
    · obtain ⟨u, hu⟩ : ∃ u : Nat, worS V (prods V) = (u : Int) := ⟨(worS V (prods V)).toNat, by omega⟩
      rw [hu] at hw ⊢
      have hul : u < (v_us V).val := by omega
      have hp : I 20 u = zI (v_pw V u).val := hS.2.2.2.2.2.2.2.2.2.1 u (by omega)
      have hm : M 13 (6 + u) = zI (v_pw V u).val := hM.2.2.2.2.2.2.2.2.2.1 u hul
      by_cases c2 : (v_pw V u).val = 0
      · refine ⟨zI (s : Nat), I, J, M, V, ?_, ?_, hv, hS, hX, hM, eX_r I, eJ_r J, hA⟩
        · simp (disch := omega) only [P_X6_turnDown_39, zI_add, zI_sub, zI_mul, zI_neg, zL, zI_le, zI_lt, zI_eq, zI_cl, zA0, zI_if, Int.toNat_natCast, zT_add, zT_mul, Int.reduceToNat, Nat.add_zero, Nat.zero_add, Int.add_zero, Int.zero_add, zc_a, zc_l, Option.bind_some, qc_let, qc_in, qc_bo, ↓reduceIte, zYT, zYF, zYt, zYf, zYe, zYn, nYT, nYF, nYt, nYf, nYe, nYn, or_false, false_or, or_true, true_or, not_false_eq_true, not_true_eq_false, and_self, and_true, true_and, and_false, false_and, qG, if_true, if_false, hp]
        · simp (disch := omega) only [P_X7_turnsDown_11, zI_add, zI_sub, zI_mul, zI_neg, zL, zI_le, zI_lt, zI_eq, zI_cl, zA0, zI_if, Int.toNat_natCast, zT_add, zT_mul, Int.reduceToNat, Nat.add_zero, Nat.zero_add, Int.add_zero, Int.zero_add, zc_a, zc_l, Option.bind_some, qc_let, qc_in, qc_bo, ↓reduceIte, zYT, zYF, zYt, zYf, zYe, zYn, nYT, nYF, nYt, nYf, nYe, nYn, or_false, false_or, or_true, true_or, not_false_eq_true, not_true_eq_false, and_self, and_true, true_and, and_false, false_and, qG, if_true, if_false, hm]
      · have hfv : (f31 ((v_pw V u).val - 1)).val = (v_pw V u).val - 1 := f31_v (by omega)
        have hz : ((f31 ((v_pw V u).val - 1)).val : Int) = ((v_pw V u).val : Int) - 1 := by rw [hfv]; omega
        have hS1 := SX_setpw hS u (f31 ((v_pw V u).val - 1))
        have hM1 := MX_pw hM hul (f31 ((v_pw V u).val - 1))
        rw [hz] at hS1 hM1
        have hS1' : SX (qc_u2 I 20 u (zI (((v_pw V u).val : Int) - 1))) J 12 (v_setpw V u (f31 ((v_pw V u).val - 1))) := hS1
        obtain ⟨r, r1, r2, r3, r4⟩ := x_fill (p := 12) (by omega) hS1'
        obtain ⟨t, t1, t2, t3, t4⟩ := m_worst hM1
        have hS2 : SX r.1 r.2 12 (v_setpw V u (f31 ((v_pw V u).val - 1))) := SX_e (fun t _ _ => r2 t (by omega)) (r3 12 (by omega)) hS1'
        have hlen := (prods_len (v_setpw V u (f31 ((v_pw V u).val - 1)))).1
        have hpn : pwN (v_setpw V u (f31 ((v_pw V u).val - 1))) = k := by
          have := sm_dec (fun i => (v_pw V i).val) (fun i => (qc_u (v_pw V) u (f31 ((v_pw V u).val - 1)) i).val) u (by
            intro i hi
            show ((if i = u then _ else v_pw V i) : Fin 31).val = _
            rw [if_neg hi]) (by
            show ((if u = u then f31 ((v_pw V u).val - 1) else v_pw V u) : Fin 31).val + 1 = _
            rw [if_pos rfl, hfv]
            omega) (v_us V).val 0 (by omega) (by omega)
          unfold pwN at hk
          show sm (fun i => (qc_u (v_pw V) u (f31 ((v_pw V u).val - 1)) i).val) (v_us V).val 0 = k
          omega
        have eI : eX I r.1 := by
          refine eX_m ?_
          intro x hx
          rw [r2 x (by omega), u2_ne (by omega)]
        obtain ⟨x, I', J', M', W, f1, f2, f3, f4, f5, f6', f7, f8, f9⟩ := ih g (s + 1) (v_setpw V u (f31 ((v_pw V u).val - 1))) r.1 r.2 t.2 hpn (by omega) (by omega) hv hS2 r4 (MX_e (eP_M t3) hM1) t4 (eA_P (eA_s hA (by omega) _) t3)
        have hus : r.1 12 0 = zI ((v_us (v_setpw V u (f31 ((v_pw V u).val - 1)))).val : Int) := hS2.1
        have hwx := x_worst r4 hlen
        simp only [zc_a, zc_l] at f1 f2
        refine ⟨x, I', J', M', W, ?_, ?_, f3, f4, f5, f6', eX_t eI f7, eJ_t (eJ_g r3) f8, f9⟩
        · rw [← f1]
          have r1' : P_X2_fill (qc_u2 I 20 u (zI (((v_pw V u).val : Int) - 1))) J 12 = some r := r1
          simp (disch := omega) only [P_X6_turnDown_39, zI_add, zI_sub, zI_mul, zI_neg, zL, zI_le, zI_lt, zI_eq, zI_cl, zA0, zI_if, Int.toNat_natCast, zT_add, zT_mul, Int.reduceToNat, Nat.add_zero, Nat.zero_add, Int.add_zero, Int.zero_add, zc_a, zc_l, Option.bind_some, qc_let, qc_in, qc_bo, ↓reduceIte, zYT, zYF, zYt, zYf, zYe, zYn, nYT, nYF, nYt, nYf, nYe, nYn, or_false, false_or, or_true, true_or, not_false_eq_true, not_true_eq_false, and_self, and_true, true_and, and_false, false_and, qG, if_true, if_false, hp, r1', hus, hwx]
        · rw [← f2]
          simp (disch := omega) only [P_X7_turnsDown_11, zI_add, zI_sub, zI_mul, zI_neg, zL, zI_le, zI_lt, zI_eq, zI_cl, zA0, zI_if, Int.toNat_natCast, zT_add, zT_mul, Int.reduceToNat, Nat.add_zero, Nat.zero_add, Int.add_zero, Int.zero_add, zc_a, zc_l, Option.bind_some, qc_let, qc_in, qc_bo, ↓reduceIte, zYT, zYF, zYt, zYf, zYe, zYn, nYT, nYF, nYt, nYf, nYe, nYn, or_false, false_or, or_true, true_or, not_false_eq_true, not_true_eq_false, and_self, and_true, true_and, and_false, false_and, qG, if_true, if_false, hm, t1, t2]
theorem both_turn {V : sV} {n : Nat} {I : Nat → Nat → Int32} {J : Nat → Nat → Int64} {w : Nat → Nat} {M : Nat → Nat → Int32} (h : RelV V n I J w M) : ∃ x I' J' M' W, P_X6_turnDown I J = some (x, I', J') ∧ P_X7_turnsDown M = some (x, M') ∧ v_us W = v_us V ∧ SX I' J' 12 W ∧ XL I' W (prods W) ∧ MX M' W ∧ eX I I' ∧ eJ J J' ∧ eA M M' := by
  have h6 : (v_us V).val ≤ 6 := h.2.1.2.2.2.2.2.2.2.2.2.2.2.2.2.2.1
  obtain ⟨r, r1, r2, r3, r4, r5⟩ := x_copy h.1
  obtain ⟨s, s1, s2, s3, s4⟩ := x_fill (p := 12) (by omega) r2
  have hS2 : SX s.1 s.2 12 V := SX_e (fun t _ _ => s2 t (by omega)) (s3 12 (by omega)) r2
  have hM1 : MX (cpM M 15 13 0 0 79) V := by
    have hM := h.2.1
    unfold MX at *
    rw [cpM_ne (t := 2) _ _ _ _ _ _ (by omega), cpM_ne (t := 0) _ _ _ _ _ _ (by omega), cpM_ne (t := 5) _ _ _ _ _ _ (by omega), cpM_ne (t := 7) _ _ _ _ _ _ (by omega), cpM_ne (t := 8) _ _ _ _ _ _ (by omega), cpM_ne (t := 11) _ _ _ _ _ _ (by omega), cpM_ne (t := 13) _ _ _ _ _ _ (by omega)]
    exact hM
  obtain ⟨t, t1, t2, t3, t4⟩ := m_worst hM1
  have hlen := (prods_len V).1
  have hpn : pwN V ≤ 180 := by
    unfold pwN
    refine Nat.le_trans (sm_le (b := 30) _ _ ?_) (by omega)
    intro i _ _
    omega
  obtain ⟨x, I', J', M', W, f1, f2, f3, f4, f5, f6', f7, f8, f9⟩ := turn_loop (M0 := M) h6 (pwN V) qc_fu 0 V s.1 s.2 t.2 rfl (by unfold qc_fu; omega) (by omega) rfl hS2 s4 (MX_e (eP_M t3) hM1) t4 (eA_P (eA_0 M) t3)
  refine ⟨x, I', J', M', W, ?_, ?_, f3, f4, f5, f6', eX_t (eX_t (eX_c r2 r4) (eX_g s2)) f7, eJ_t (eJ_t (eJ_c r5) (eJ_g s3)) f8, f9⟩
  · unfold P_X6_turnDown
    simp only [zL]
    rw [r1, Option.bind_some, s1, Option.bind_some, hS2.1, x_worst s4 hlen, Option.bind_some]
    exact f1
  · unfold P_X7_turnsDown
    simp only [zL]
    rw [m_goesAside, Option.bind_some, t1, Option.bind_some, t2]
    exact f2
theorem st_31 : St_31 Rel := by
  intro I J w M ⟨V, n, h0⟩
  have h := RelV_0 h0 (zI 0)
  have h6 : (v_us V).val ≤ 6 := h.2.1.2.2.2.2.2.2.2.2.2.2.2.2.2.2.1
  obtain ⟨x, I', J', M', W, f1, f2, f3, f4, f5, f6', f7, f8, f9⟩ := both_turn h
  have hw6 : (v_us W).val ≤ 6 := by rw [f3]; exact h6
  obtain ⟨M2, m1, m2, m3⟩ := m_lays_prods f6' (by have := (cap_b W).2 hw6; omega)
  unfold P_X6_left P_X7_left
  simp only [zL, qc_let]
  rw [f1, f2, Option.bind_some, Option.bind_some, m1, Option.bind_some, m_allHits (MX_e (eP_M m2) f6') m3 (by have := (prods_len W).2 hw6; omega), Option.bind_some, m_comesBack, Option.bind_some]
  exact ⟨_, _, rfl, rfl, f5.2.1, V, n, RelV_e f7 f8 (eA_b h.2.1 h.2.2.1 (eA_P f9 m2)) h⟩
theorem st_30 : St_30 Rel := by
  intro I J w M a ⟨V, n, h0⟩
  have h := RelV_0 h0 (zI 0)
  have h6 : (v_us V).val ≤ 6 := h.2.1.2.2.2.2.2.2.2.2.2.2.2.2.2.2.1
  obtain ⟨x, I', J', M', W, f1, f2, f3, f4, f5, f6', f7, f8, f9⟩ := both_turn h
  have hR := RelV_e f7 f8 (eA_b h.2.1 h.2.2.1 f9) h
  unfold P_X6_turned P_X7_turned P_X6_turned_19 P_X7_turned_21
  simp only [zI_add, zI_sub, zI_mul, zI_neg, zL, qc_let]
  rw [f1, f2]
  simp only [Option.bind_some]
  rw [m_comesBack]
  simp only [Option.bind_some]
  by_cases c : a = zI (-1)
  · rw [if_pos c, if_pos c, if_pos c, if_pos c]
    exact ⟨_, _, rfl, rfl, rfl, V, n, hR⟩
  · simp only [if_neg c]
    rcases user_cases h.1 h.2.1 a with ⟨e1, e2⟩ | ⟨u, hu, rfl, e1, e2⟩
    · rw [e1, e2]
      exact ⟨(zI (-2), I, J), (zI (-2), qc_u2 M 0 0 (zI 0)), rfl, rfl, rfl, V, n, h⟩
    · rw [e1, e2]
      have ez : ¬ zI 1 = zI 0 := by decide
      simp only [Option.bind_some, if_neg ez]
      have i8 : qc_in (zI (u : Int)) 8 := by simp (disch := omega) only [zI_add, zI_sub, zI_mul, zI_neg, zL, zI_le, zI_lt, zI_eq, zI_cl, zA0, zI_if, Int.toNat_natCast, zT_add, zT_mul, Int.reduceToNat, Nat.add_zero, Nat.zero_add, Int.add_zero, Int.zero_add, zc_a, zc_l, Option.bind_some, qc_let, qc_in, qc_bo, iteT, iteF, and_self, if_true, if_false, qG]; omega
      have r8 : (zI (u : Int)).toNatClampNeg = u := by rw [zI_cl (by omega) (by omega)]; omega
      have i6 : qc_in (zI 6 + zI (u : Int)) 79 := by simp (disch := omega) only [zI_add, zI_sub, zI_mul, zI_neg, zL, zI_le, zI_lt, zI_eq, zI_cl, zA0, zI_if, Int.toNat_natCast, zT_add, zT_mul, Int.reduceToNat, Nat.add_zero, Nat.zero_add, Int.add_zero, Int.zero_add, zc_a, zc_l, Option.bind_some, qc_let, qc_in, qc_bo, iteT, iteF, and_self, if_true, if_false, qG]; omega
      have r6 : (zI 6 + zI (u : Int)).toNatClampNeg = 6 + u := by rw [zI_add, zI_cl (by omega) (by omega)]; omega
      rw [if_pos i8, if_pos i6, r8, r6]
      refine ⟨_, _, rfl, rfl, ?_, V, n, hR⟩
      have hp : I' 20 u = zI (v_pw W u).val := f4.2.2.2.2.2.2.2.2.2.1 u (by omega)
      have hm : M' 13 (6 + u) = zI (v_pw W u).val := f6'.2.2.2.2.2.2.2.2.2.1 u (by rw [f3]; exact hu)
      exact hp.trans hm.symm
