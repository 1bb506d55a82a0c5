/-! quietest -/
theorem quiet_loop {V : sV} {u : Nat} (hu : u < (v_us V).val) : ∀ (d c f l : Nat) (b : Int) (I : Nat → Nat → Int32) (J : Nat → Nat → Int64) (M : Nat → Nat → Int32) (x : Fin 61), (c + d = (v_hi V u).val + 1 ∨ (d = 0 ∧ (v_hi V u).val < c)) → d < f → 1 ≤ c → c ≤ 61 → l ≤ 6000 → (b = -2 ∨ (0 ≤ b ∧ b ≤ 60)) → SX I J 12 (v_setch V u x) → SX I J 2 V → MX M V → TM M V → ∃ y I' J' M', P_X6_quietest_40 f I J (zI u) (zI b) (zI (l : Nat)) (zI c) = some (y, I', J') ∧ P_X7_quietest_28 f M (zI u) (zI b) (zI (l : Nat)) (zI c) = some (y, M') ∧ eX I I' ∧ eJ J J' ∧ eM M M' := by
  intro d
  induction d with
  | zero =>
    intro c f l b I J M x hc hf hc1 hc2 hl hb hS hS2 hM hT
    obtain ⟨g, rfl⟩ : ∃ g, f = g + 1 := ⟨f - 1, by omega⟩
    have h6 : (v_us V).val ≤ 6 := hM.2.2.2.2.2.2.2.2.2.2.2.2.2.2.1
    have hx : I 8 u = zI (v_hi V u).val := hS2.2.2.2.2.2.2.2.1 u (by omega)
    have hm : M 8 u = zI (v_hi V u).val := (hT.2.2.2.2.1 u hu).1
    refine ⟨zI b, I, J, M, ?_, ?_, eX_r I, eJ_r J, eM_r M⟩
    · simp (disch := omega) only [P_X6_quietest_40, zI_add, zI_sub, zI_mul, zI_neg, zL, zI_le, zI_lt, zI_eq, zI_cl, zA0, zI_if, Int.toNat_natCast, zT_add, zT_mul, Int.reduceToNat, Nat.add_zero, Nat.zero_add, Int.add_zero, Int.zero_add, zc_a, zc_l, Option.bind_some, qc_let, qc_in, qc_bo, ↓reduceIte, zYT, zYF, zYt, zYf, zYe, zYn, nYT, nYF, nYt, nYf, nYe, nYn, or_false, false_or, or_true, true_or, not_false_eq_true, not_true_eq_false, and_self, and_true, true_and, and_false, false_and, qG, if_true, if_false, hx]
    · simp (disch := omega) only [P_X7_quietest_28, zI_add, zI_sub, zI_mul, zI_neg, zL, zI_le, zI_lt, zI_eq, zI_cl, zA0, zI_if, Int.toNat_natCast, zT_add, zT_mul, Int.reduceToNat, Nat.add_zero, Nat.zero_add, Int.add_zero, Int.zero_add, zc_a, zc_l, Option.bind_some, qc_let, qc_in, qc_bo, ↓reduceIte, zYT, zYF, zYt, zYf, zYe, zYn, nYT, nYF, nYt, nYf, nYe, nYn, or_false, false_or, or_true, true_or, not_false_eq_true, not_true_eq_false, and_self, and_true, true_and, and_false, false_and, qG, if_true, if_false, hm]
  | succ d ih =>
    intro c f l b I J M x hc hf hc1 hc2 hl hb hS hS2 hM hT
    obtain ⟨g, rfl⟩ : ∃ g, f = g + 1 := ⟨f - 1, by omega⟩
    have h6 : (v_us V).val ≤ 6 := hM.2.2.2.2.2.2.2.2.2.2.2.2.2.2.1
    have hx : I 8 u = zI (v_hi V u).val := hS2.2.2.2.2.2.2.2.1 u (by omega)
    have hm := hT.2.2.2.2.1 u hu
    have hsh : M 13 (12 + c) = bI (v_sh V c) := hM.2.2.2.2.2.2.2.2.2.2.2.2.2.1 c hc1 (by omega)
    have xsh := x_isShut (J := J) (p := 2) (c := c) (by omega)
    rw [hS2.2.2.2.2.2.2.2.2.2.2.2.2.2 c (by omega)] at xsh
    cases es : v_sh V c
    · rw [es] at xsh hsh
      have hSc := SX_setch hS u (f61 c)
      rw [v_set2, f61_v (by omega)] at hSc
      obtain ⟨s, s1, s2, s3, s4⟩ := x_noise (p := 12) (by omega) hSc
      have s1' : P_X6_trouble (qc_u2 I 19 u (zI c)) J 12 = some s := s1
      obtain ⟨t, t1, t2, t3⟩ := m_noise hM (u := u) (c := c) hu (by omega)
      have hnb := noiS_b (v_setch V u (f61 c))
      have eI : eX I s.2.1 := by
        refine eX_m ?_
        intro k hk
        rw [s3 k (by omega), u2_ne (by omega)]
      have hS3 : SX s.2.1 s.2.2 12 (v_setch V u (f61 c)) := SX_e (fun t _ _ => s3 t (by omega)) (s4 12 (by omega)) hSc
      have hS4 : SX s.2.1 s.2.2 2 V := SX_e (fun t _ _ => eI.1 t (by omega)) (s4 2 (by omega)) hS2
      by_cases c1 : b = -2 ∨ noiS (v_setch V u (f61 c)) < l
      · obtain ⟨y, I2, J2, M2, f1, f2, f3, f4, f5⟩ := ih (c + 1) g (noiS (v_setch V u (f61 c))) (c : Int) s.2.1 s.2.2 t.2 (f61 c) (by omega) (by omega) (by omega) (by omega) hnb (by omega) hS3 hS4 (MX_e t3 hM) (TM_e t3 hT)
        simp only [zc_a, zc_l] at f1 f2
        refine ⟨y, I2, J2, M2, ?_, ?_, eX_t eI f3, eJ_t (eJ_g s4) f4, eM_t t3 f5⟩
        · rw [← f1]
          by_cases c2 : b = -2
          · simp (disch := omega) only [P_X6_quietest_40, P_X6_quietest_99, P_X6_quietest_105, zI_add, zI_sub, zI_mul, zI_neg, zL, zI_le, zI_lt, zI_eq, zI_cl, zA0, zI_if, Int.toNat_natCast, zT_add, zT_mul, Int.reduceToNat, Nat.add_zero, Nat.zero_add, Int.add_zero, Int.zero_add, zc_a, zc_l, Option.bind_some, qc_let, qc_in, qc_bo, ↓reduceIte, zYT, zYF, zYt, zYf, zYe, zYn, nYT, nYF, nYt, nYf, nYe, nYn, or_false, false_or, or_true, true_or, not_false_eq_true, not_true_eq_false, and_self, and_true, true_and, and_false, false_and, qG, if_true, if_false, hx, xsh, bI_F, s1', s2]
          · simp (disch := omega) only [P_X6_quietest_40, P_X6_quietest_99, P_X6_quietest_105, zI_add, zI_sub, zI_mul, zI_neg, zL, zI_le, zI_lt, zI_eq, zI_cl, zA0, zI_if, Int.toNat_natCast, zT_add, zT_mul, Int.reduceToNat, Nat.add_zero, Nat.zero_add, Int.add_zero, Int.zero_add, zc_a, zc_l, Option.bind_some, qc_let, qc_in, qc_bo, ↓reduceIte, zYT, zYF, zYt, zYf, zYe, zYn, nYT, nYF, nYt, nYf, nYe, nYn, or_false, false_or, or_true, true_or, not_false_eq_true, not_true_eq_false, and_self, and_true, true_and, and_false, false_and, qG, if_true, if_false, hx, xsh, bI_F, s1', s2]
        · rw [← f2]
          by_cases c2 : b = -2
          · simp (disch := omega) only [P_X7_quietest_28, P_X7_quietest_80, P_X7_quietest_86, zI_add, zI_sub, zI_mul, zI_neg, zL, zI_le, zI_lt, zI_eq, zI_cl, zA0, zI_if, Int.toNat_natCast, zT_add, zT_mul, Int.reduceToNat, Nat.add_zero, Nat.zero_add, Int.add_zero, Int.zero_add, zc_a, zc_l, Option.bind_some, qc_let, qc_in, qc_bo, ↓reduceIte, zYT, zYF, zYt, zYf, zYe, zYn, nYT, nYF, nYt, nYf, nYe, nYn, or_false, false_or, or_true, true_or, not_false_eq_true, not_true_eq_false, and_self, and_true, true_and, and_false, false_and, qG, if_true, if_false, hm.1, hsh, bI_F, t1, t2]
          · simp (disch := omega) only [P_X7_quietest_28, P_X7_quietest_80, P_X7_quietest_86, zI_add, zI_sub, zI_mul, zI_neg, zL, zI_le, zI_lt, zI_eq, zI_cl, zA0, zI_if, Int.toNat_natCast, zT_add, zT_mul, Int.reduceToNat, Nat.add_zero, Nat.zero_add, Int.add_zero, Int.zero_add, zc_a, zc_l, Option.bind_some, qc_let, qc_in, qc_bo, ↓reduceIte, zYT, zYF, zYt, zYf, zYe, zYn, nYT, nYF, nYt, nYf, nYe, nYn, or_false, false_or, or_true, true_or, not_false_eq_true, not_true_eq_false, and_self, and_true, true_and, and_false, false_and, qG, if_true, if_false, hm.1, hsh, bI_F, t1, t2]
      · obtain ⟨y, I2, J2, M2, f1, f2, f3, f4, f5⟩ := ih (c + 1) g l b s.2.1 s.2.2 t.2 (f61 c) (by omega) (by omega) (by omega) (by omega) hl hb hS3 hS4 (MX_e t3 hM) (TM_e t3 hT)
        simp only [zc_a, zc_l] at f1 f2
        refine ⟨y, I2, J2, M2, ?_, ?_, eX_t eI f3, eJ_t (eJ_g s4) f4, eM_t t3 f5⟩
        · rw [← f1]
          simp (disch := omega) only [P_X6_quietest_40, P_X6_quietest_99, P_X6_quietest_105, zI_add, zI_sub, zI_mul, zI_neg, zL, zI_le, zI_lt, zI_eq, zI_cl, zA0, zI_if, Int.toNat_natCast, zT_add, zT_mul, Int.reduceToNat, Nat.add_zero, Nat.zero_add, Int.add_zero, Int.zero_add, zc_a, zc_l, Option.bind_some, qc_let, qc_in, qc_bo, ↓reduceIte, zYT, zYF, zYt, zYf, zYe, zYn, nYT, nYF, nYt, nYf, nYe, nYn, or_false, false_or, or_true, true_or, not_false_eq_true, not_true_eq_false, and_self, and_true, true_and, and_false, false_and, qG, if_true, if_false, hx, xsh, bI_F, s1', s2]
        · rw [← f2]
          simp (disch := omega) only [P_X7_quietest_28, P_X7_quietest_80, P_X7_quietest_86, zI_add, zI_sub, zI_mul, zI_neg, zL, zI_le, zI_lt, zI_eq, zI_cl, zA0, zI_if, Int.toNat_natCast, zT_add, zT_mul, Int.reduceToNat, Nat.add_zero, Nat.zero_add, Int.add_zero, Int.zero_add, zc_a, zc_l, Option.bind_some, qc_let, qc_in, qc_bo, ↓reduceIte, zYT, zYF, zYt, zYf, zYe, zYn, nYT, nYF, nYt, nYf, nYe, nYn, or_false, false_or, or_true, true_or, not_false_eq_true, not_true_eq_false, and_self, and_true, true_and, and_false, false_and, qG, if_true, if_false, hm.1, hsh, bI_F, t1, t2]
    · rw [es] at xsh hsh
      obtain ⟨y, I2, J2, M2, f1, f2, f3, f4, f5⟩ := ih (c + 1) g l b I J M x (by omega) (by omega) (by omega) (by omega) hl hb hS hS2 hM hT
      simp only [zc_a, zc_l] at f1 f2
      refine ⟨y, I2, J2, M2, ?_, ?_, f3, f4, f5⟩
      · rw [← f1]
        simp (disch := omega) only [P_X6_quietest_40, P_X6_quietest_105, zI_add, zI_sub, zI_mul, zI_neg, zL, zI_le, zI_lt, zI_eq, zI_cl, zA0, zI_if, Int.toNat_natCast, zT_add, zT_mul, Int.reduceToNat, Nat.add_zero, Nat.zero_add, Int.add_zero, Int.zero_add, zc_a, zc_l, Option.bind_some, qc_let, qc_in, qc_bo, ↓reduceIte, zYT, zYF, zYt, zYf, zYe, zYn, nYT, nYF, nYt, nYf, nYe, nYn, or_false, false_or, or_true, true_or, not_false_eq_true, not_true_eq_false, and_self, and_true, true_and, and_false, false_and, qG, if_true, if_false, hx, xsh, bI_T]
      · rw [← f2]
        simp (disch := omega) only [P_X7_quietest_28, P_X7_quietest_86, zI_add, zI_sub, zI_mul, zI_neg, zL, zI_le, zI_lt, zI_eq, zI_cl, zA0, zI_if, Int.toNat_natCast, zT_add, zT_mul, Int.reduceToNat, Nat.add_zero, Nat.zero_add, Int.add_zero, Int.zero_add, zc_a, zc_l, Option.bind_some, qc_let, qc_in, qc_bo, ↓reduceIte, zYT, zYF, zYt, zYf, zYe, zYn, nYT, nYF, nYt, nYf, nYe, nYn, or_false, false_or, or_true, true_or, not_false_eq_true, not_true_eq_false, and_self, and_true, true_and, and_false, false_and, qG, if_true, if_false, hm.1, hsh, bI_T]
theorem st_21 : St_21 Rel := by
  intro I J w M a ⟨V, n, h0⟩
  have h := RelV_0 h0 (zI 0)
  have h6 : (v_us V).val ≤ 6 := h.2.1.2.2.2.2.2.2.2.2.2.2.2.2.2.2.1
  unfold P_X6_quietest P_X7_quietest
  simp only [zI_add, zI_sub, zI_mul, zI_neg, zL, qc_let]
  rcases user_cases h.1 h.2.1 a with ⟨e1, e2⟩ | ⟨u, hu, rfl, e1, e2⟩
  · rw [e1, e2]
    exact ⟨_, _, rfl, rfl, rfl, V, n, h⟩
  · rw [e1, e2]
    obtain ⟨r, r1, r2, r3, r4, r5⟩ := x_copy h.1
    have hS : SX r.1 r.2 12 (v_setch V u (v_ch V u)) := by rw [v_setI]; exact r2
    have hS2 : SX r.1 r.2 2 V := SX_e (fun t _ _ => r4 t (by omega)) (r5 2 (by omega)) h.1
    have hl := h.2.1.2.2.2.2.2.2.2.2.2.2.2.2.2.2.2 u hu
    obtain ⟨y, I2, J2, M2, f1, f2, f3, f4, f5⟩ := quiet_loop hu ((v_hi V u).val + 1 - (v_lo V u).val) (v_lo V u).val qc_fu 0 (-2) r.1 r.2 _ (v_ch V u) (by omega) (by unfold qc_fu; omega) hl (by omega) (by omega) (Or.inl rfl) hS hS2 h.2.1 h.2.2.1
    have hx : r.1 7 u = zI (v_lo V u).val := hS2.2.2.2.2.2.2.1 u (by omega)
    have hm : qc_u2 M 0 0 (zI 0) 7 u = zI (v_lo V u).val := h.2.1.2.2.2.2.2.2.1 u hu
    rw [r1]
    have i8 : qc_in (zI u) 8 := by simp (disch := omega) only [zI_add, zI_sub, zI_mul, zI_neg, zL, zI_le, zI_lt, zI_eq, zI_cl, zA0, zI_if, Int.toNat_natCast, zT_add, zT_mul, Int.reduceToNat, Nat.add_zero, Nat.zero_add, Int.add_zero, Int.zero_add, zc_a, zc_l, Option.bind_some, qc_let, qc_in, qc_bo, iteT, iteF, and_self, if_true, if_false, qG]; omega
    have i12 : qc_in (zI u) 12 := by simp (disch := omega) only [zI_add, zI_sub, zI_mul, zI_neg, zL, zI_le, zI_lt, zI_eq, zI_cl, zA0, zI_if, Int.toNat_natCast, zT_add, zT_mul, Int.reduceToNat, Nat.add_zero, Nat.zero_add, Int.add_zero, Int.zero_add, zc_a, zc_l, Option.bind_some, qc_let, qc_in, qc_bo, iteT, iteF, and_self, if_true, if_false, qG]; omega
    have ez : ¬ zI 1 = zI 0 := by decide
    simp only [Option.bind_some, if_neg ez, if_pos i8, if_pos i12]
    rw [zI_cl (by omega) (by omega), Int.toNat_natCast, hx, hm]
    exact ⟨_, _, f1, f2, rfl, V, n, RelV_e (eX_t (eX_c r2 r4) f3) (eJ_t (eJ_c r5) f4) f5 h⟩
