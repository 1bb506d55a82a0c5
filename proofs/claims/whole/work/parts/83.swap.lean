/-! bestSwap -/
def v_swap (V : sV) (a b : Nat) : sV := v_setch (v_setch V a (v_ch V b)) b (v_ch V a)
theorem x_swap {V : sV} {I : Nat → Nat → Int32} {J : Nat → Nat → Int64} (h : SX I J 2 V) {a b : Nat} (ha : a < 8) (hb : b < 8) : ∃ I' J', P_X6_troubleOfSwap I J (zI a) (zI b) = some (zI (noiS (v_swap V a b) : Nat), I', J') ∧ eX I I' ∧ eJ J J' := by
  obtain ⟨r, r1, r2, r3, r4, r5⟩ := x_copy h
  have h9 : ∀ u, u < 8 → r.1 9 u = zI (v_ch V u).val := by
    rw [r4 9 (by omega)]
    exact h.2.2.2.2.2.2.2.2.1
  have hS := SX_setch (SX_setch r2 a (v_ch V b)) b (v_ch V a)
  have hS' : SX (qc_u2 (qc_u2 r.1 19 a (zI (v_ch V b).val)) 19 b (zI (v_ch V a).val)) r.2 12 (v_swap V a b) := hS
  obtain ⟨s, s1, s2, s3, s4⟩ := x_noise (p := 12) (by omega) hS'
  refine ⟨s.2.1, s.2.2, ?_, ?_, eJ_t (eJ_c r5) (eJ_g s4)⟩
  · have ia : qc_in (zI (a : Int)) 8 := by simp (disch := omega) only [zI_add, zI_sub, zI_mul, zI_neg, zL, zI_le, zI_lt, zI_eq, zI_cl, zA0, zI_if, Int.toNat_natCast, zT_add, zT_mul, Int.reduceToNat, Nat.add_zero, Nat.zero_add, Int.add_zero, Int.zero_add, zc_a, zc_l, Option.bind_some, qc_let, qc_in, qc_bo, iteT, iteF, and_self, if_true, if_false, qG]; omega
    have ra : (zI (a : Int)).toNatClampNeg = a := by rw [zI_cl (by omega) (by omega)]; omega
    have ib : qc_in (zI (b : Int)) 8 := by simp (disch := omega) only [zI_add, zI_sub, zI_mul, zI_neg, zL, zI_le, zI_lt, zI_eq, zI_cl, zA0, zI_if, Int.toNat_natCast, zT_add, zT_mul, Int.reduceToNat, Nat.add_zero, Nat.zero_add, Int.add_zero, Int.zero_add, zc_a, zc_l, Option.bind_some, qc_let, qc_in, qc_bo, iteT, iteF, and_self, if_true, if_false, qG]; omega
    have rb : (zI (b : Int)).toNatClampNeg = b := by rw [zI_cl (by omega) (by omega)]; omega
    unfold P_X6_troubleOfSwap
    rw [r1]
    simp only [Option.bind_some, if_pos ia, if_pos ib, ra, rb, qc_let]
    rw [h9 b hb, u2_ne (t' := 9) (by omega), h9 a ha, s1, ← s2]
    rfl
  · refine eX_t (eX_c r2 r4) (eX_m ?_)
    intro t ht
    rw [s3 t (by omega), u2_ne (by omega), u2_ne (by omega)]
theorem m_exch {M : Nat → Nat → Int32} {a b : Nat} (ha : a < 6) (hb : b < 6) : P_X7_exchanges M (zI a) (zI b) = some (qc_u2 (qc_u2 M 13 a (M 13 b)) 13 b (M 13 a)) := by
  have ia : qc_in (zI 0 + zI (a : Int)) 79 := by simp (disch := omega) only [zI_add, zI_sub, zI_mul, zI_neg, zL, zI_le, zI_lt, zI_eq, zI_cl, zA0, zI_if, Int.toNat_natCast, zT_add, zT_mul, Int.reduceToNat, Nat.add_zero, Nat.zero_add, Int.add_zero, Int.zero_add, zc_a, zc_l, Option.bind_some, qc_let, qc_in, qc_bo, iteT, iteF, and_self, if_true, if_false, qG]; omega
  have ra : (zI 0 + zI (a : Int)).toNatClampNeg = a := by rw [zI_add, zI_cl (by omega) (by omega)]; omega
  have ib : qc_in (zI 0 + zI (b : Int)) 79 := by simp (disch := omega) only [zI_add, zI_sub, zI_mul, zI_neg, zL, zI_le, zI_lt, zI_eq, zI_cl, zA0, zI_if, Int.toNat_natCast, zT_add, zT_mul, Int.reduceToNat, Nat.add_zero, Nat.zero_add, Int.add_zero, Int.zero_add, zc_a, zc_l, Option.bind_some, qc_let, qc_in, qc_bo, iteT, iteF, and_self, if_true, if_false, qG]; omega
  have rb : (zI 0 + zI (b : Int)).toNatClampNeg = b := by rw [zI_add, zI_cl (by omega) (by omega)]; omega
  unfold P_X7_exchanges
  simp only [zL, if_pos ia, if_pos ib, ra, rb, qc_let]
theorem m_swap {V : sV} {M : Nat → Nat → Int32} (h : MX M V) {a b : Nat} (ha : a < (v_us V).val) (hb : b < (v_us V).val) (hab : a ≠ b) : ∃ M1 M2 M3 x y, P_X7_exchanges M (zI a) (zI b) = some M1 ∧ P_X7_laysProducts M1 = some M2 ∧ P_X7_allHits M2 = some x ∧ P_X7_allCrowds M2 = some y ∧ x + y = zI (noiS (v_swap V a b) : Nat) ∧ P_X7_exchanges M2 (zI a) (zI b) = some M3 ∧ eM M M3 := by
  have h6 : (v_us V).val ≤ 6 := h.2.2.2.2.2.2.2.2.2.2.2.2.2.2.1
  have hch := h.2.2.2.2.2.2.2.2.1
  have hM := MX_ch (MX_ch h ha (v_ch V b)) (u := b) hb (v_ch V a)
  have hM' : MX (qc_u2 (qc_u2 M 13 a (M 13 b)) 13 b (M 13 a)) (v_swap V a b) := by
    rw [hch a ha, hch b hb]
    exact hM
  obtain ⟨M2, x, y, e1, e2, e3, e4, e5⟩ := m_noise0 hM'
  refine ⟨_, M2, _, x, y, m_exch (by omega) (by omega), e1, e2, e3, e4, m_exch (by omega) (by omega), ?_⟩
  have e13 : M2 13 = qc_u2 (qc_u2 M 13 a (M 13 b)) 13 b (M 13 a) 13 := e5.1 13 (by omega) (by omega)
  refine ⟨?_, ?_⟩
  · intro t ht
    by_cases c : t = 13
    · subst c
      funext k
      rw [qG, qG, e13]
      have va : qc_u2 (qc_u2 M 13 a (M 13 b)) 13 b (M 13 a) 13 a = M 13 b := by
        rw [qG, if_neg (by omega), qG, if_pos ⟨rfl, rfl⟩]
      have vb : qc_u2 (qc_u2 M 13 a (M 13 b)) 13 b (M 13 a) 13 b = M 13 a := by
        rw [qG, if_pos ⟨rfl, rfl⟩]
      by_cases kb : k = b
      · rw [if_pos ⟨rfl, kb⟩, va, kb]
      · rw [if_neg (fun z => kb z.2)]
        by_cases ka : k = a
        · rw [if_pos ⟨rfl, ka⟩, vb, ka]
        · rw [if_neg (fun z => ka z.2), qG, if_neg (fun z => kb z.2), qG, if_neg (fun z => ka z.2)]
    · rw [u2_ne c, u2_ne c, e5.1 t (by omega) (by omega), u2_ne c, u2_ne c]
  · intro j h1 h2 h3 h4
    rw [u2_ne (by omega), u2_ne (by omega), e5.2 j h2, u2_ne (by omega), u2_ne (by omega)]
theorem swap_in {V : sV} {I0 : Nat → Nat → Int32} {J0 : Nat → Nat → Int64} {M0 : Nat → Nat → Int32} {a g : Nat} (ha : a < (v_us V).val) : ∀ (d o f l : Nat) (b : Int32) (I : Nat → Nat → Int32) (J : Nat → Nat → Int64) (M : Nat → Nat → Int32), o + d = (v_us V).val → d < f → a < o → l ≤ 6000 → SX I J 2 V → MX M V → eX I0 I → eJ J0 J → eM M0 M → (∀ (b : Int32) (l : Nat) I J M, l ≤ 6000 → SX I J 2 V → MX M V → eX I0 I → eJ J0 J → eM M0 M → ∃ y I' J' M', P_X6_bestSwap_14 g I J b (zI (l : Nat)) (zI ((a + 1 : Nat) : Int)) = some (y, I', J') ∧ P_X7_bestSwap_24 g M (zI (l : Nat)) b (zI ((a + 1 : Nat) : Int)) = some (y, M') ∧ eX I0 I' ∧ eJ J0 J' ∧ eM M0 M') → ∃ y I' J' M', P_X6_bestSwap_30 (P_X6_bestSwap_14 g) f I J b (zI (l : Nat)) (zI a) (zI o) = some (y, I', J') ∧ P_X7_bestSwap_37 (P_X7_bestSwap_24 g) f M (zI (l : Nat)) b (zI a) (zI o) = some (y, M') ∧ eX I0 I' ∧ eJ J0 J' ∧ eM M0 M' := by
  intro d
  induction d with
  | zero =>
    intro o f l b I J M ho hf hao hl hS hM e1 e2 e3 K
    obtain ⟨k, rfl⟩ : ∃ k, f = k + 1 := ⟨f - 1, by omega⟩
    have c : zI ((v_us V).val : Int) ≤ zI (o : Int) := by rw [zI_le] <;> omega
    rw [P_X6_bestSwap_30, P_X7_bestSwap_37, P_X7_users, hS.1, hM.1, Option.bind_some, if_pos c, if_pos c]
    have := K b l I J M hl hS hM e1 e2 e3
    simpa only [qc_let, zI_add, zI_sub, zI_mul, zI_neg, zL, zc_a, zc_l] using this
  | succ d ih =>
    intro o f l b I J M ho hf hao hl hS hM e1 e2 e3 K
    obtain ⟨k, rfl⟩ : ∃ k, f = k + 1 := ⟨f - 1, by omega⟩
    have h6 : (v_us V).val ≤ 6 := hM.2.2.2.2.2.2.2.2.2.2.2.2.2.2.1
    have xa : I 9 a = zI (v_ch V a).val := hS.2.2.2.2.2.2.2.2.1 a (by omega)
    have xo : I 9 o = zI (v_ch V o).val := hS.2.2.2.2.2.2.2.2.1 o (by omega)
    have ma : M 13 a = zI (v_ch V a).val := hM.2.2.2.2.2.2.2.2.1 a ha
    have mo : M 13 o = zI (v_ch V o).val := hM.2.2.2.2.2.2.2.2.1 o (by omega)
    have hus := hS.1
    have hms := hM.1
    by_cases c1 : (v_ch V a).val = 0 ∨ (v_ch V o).val = 0
    · obtain ⟨y, I2, J2, M2, f1, f2, f3⟩ := ih (o + 1) k l b I J M (by omega) (by omega) (by omega) hl hS hM e1 e2 e3 K
      simp only [zc_a, zc_l] at f1 f2
      refine ⟨y, I2, J2, M2, ?_, ?_, f3⟩
      · rw [← f1]
        by_cases c2 : (v_ch V a).val = 0
        · simp (disch := omega) only [P_X6_bestSwap_30, P_X6_bestSwap_93, zI_add, zI_sub, zI_mul, zI_neg, zL, zI_le, zI_lt, zI_eq, zI_cl, zA0, zI_if, Int.toNat_natCast, zT_add, zT_mul, Int.reduceToNat, Nat.add_zero, Nat.zero_add, Int.add_zero, Int.zero_add, zc_a, zc_l, Option.bind_some, qc_let, qc_in, qc_bo, ↓reduceIte, zYT, zYF, zYt, zYf, zYe, zYn, nYT, nYF, nYt, nYf, nYe, nYn, or_false, false_or, or_true, true_or, not_false_eq_true, not_true_eq_false, and_self, and_true, true_and, and_false, false_and, qG, if_true, if_false, hus, xa]
        · simp (disch := omega) only [P_X6_bestSwap_30, P_X6_bestSwap_93, zI_add, zI_sub, zI_mul, zI_neg, zL, zI_le, zI_lt, zI_eq, zI_cl, zA0, zI_if, Int.toNat_natCast, zT_add, zT_mul, Int.reduceToNat, Nat.add_zero, Nat.zero_add, Int.add_zero, Int.zero_add, zc_a, zc_l, Option.bind_some, qc_let, qc_in, qc_bo, ↓reduceIte, zYT, zYF, zYt, zYf, zYe, zYn, nYT, nYF, nYt, nYf, nYe, nYn, or_false, false_or, or_true, true_or, not_false_eq_true, not_true_eq_false, and_self, and_true, true_and, and_false, false_and, qG, if_true, if_false, hus, xa, xo]
      · rw [← f2]
        by_cases c2 : (v_ch V a).val = 0
        · simp (disch := omega) only [P_X7_bestSwap_37, P_X7_bestSwap_121, P_X7_users, zI_add, zI_sub, zI_mul, zI_neg, zL, zI_le, zI_lt, zI_eq, zI_cl, zA0, zI_if, Int.toNat_natCast, zT_add, zT_mul, Int.reduceToNat, Nat.add_zero, Nat.zero_add, Int.add_zero, Int.zero_add, zc_a, zc_l, Option.bind_some, qc_let, qc_in, qc_bo, ↓reduceIte, zYT, zYF, zYt, zYf, zYe, zYn, nYT, nYF, nYt, nYf, nYe, nYn, or_false, false_or, or_true, true_or, not_false_eq_true, not_true_eq_false, and_self, and_true, true_and, and_false, false_and, qG, if_true, if_false, hms, ma]
        · simp (disch := omega) only [P_X7_bestSwap_37, P_X7_bestSwap_121, P_X7_users, zI_add, zI_sub, zI_mul, zI_neg, zL, zI_le, zI_lt, zI_eq, zI_cl, zA0, zI_if, Int.toNat_natCast, zT_add, zT_mul, Int.reduceToNat, Nat.add_zero, Nat.zero_add, Int.add_zero, Int.zero_add, zc_a, zc_l, Option.bind_some, qc_let, qc_in, qc_bo, ↓reduceIte, zYT, zYF, zYt, zYf, zYe, zYn, nYT, nYF, nYt, nYf, nYe, nYn, or_false, false_or, or_true, true_or, not_false_eq_true, not_true_eq_false, and_self, and_true, true_and, and_false, false_and, qG, if_true, if_false, hms, ma, mo]
    · obtain ⟨I1, J1, x1, x2, x3⟩ := x_swap hS (a := a) (b := o) (by omega) (by omega)
      obtain ⟨M1, M2, M3, p, q, m1, m2, m3, m4, m5, m6, m7⟩ := m_swap hM (a := a) (b := o) ha (by omega) (by omega)
      have hnb := noiS_b (v_swap V a o)
      have hS1 : SX I1 J1 2 V := SX_e (fun t _ _ => x2.1 t (by omega)) (x3 2 (by omega)) hS
      by_cases c2 : noiS (v_swap V a o) < l
      · obtain ⟨y, I2, J2, M4, f1, f2, f3⟩ := ih (o + 1) k (noiS (v_swap V a o)) (zI (6 * (a : Int) + (o : Int))) I1 J1 M3 (by omega) (by omega) (by omega) hnb hS1 (MX_e m7 hM) (eX_t e1 x2) (eJ_t e2 x3) (eM_t e3 m7) K
        simp only [zc_a, zc_l] at f1 f2
        refine ⟨y, I2, J2, M4, ?_, ?_, f3⟩
        · rw [← f1]
          simp (disch := omega) only [P_X6_bestSwap_30, P_X6_bestSwap_93, zI_add, zI_sub, zI_mul, zI_neg, zL, zI_le, zI_lt, zI_eq, zI_cl, zA0, zI_if, Int.toNat_natCast, zT_add, zT_mul, Int.reduceToNat, Nat.add_zero, Nat.zero_add, Int.add_zero, Int.zero_add, zc_a, zc_l, Option.bind_some, qc_let, qc_in, qc_bo, ↓reduceIte, zYT, zYF, zYt, zYf, zYe, zYn, nYT, nYF, nYt, nYf, nYe, nYn, or_false, false_or, or_true, true_or, not_false_eq_true, not_true_eq_false, and_self, and_true, true_and, and_false, false_and, qG, if_true, if_false, hus, xa, xo, x1]
        · rw [← f2]
          simp (disch := omega) only [P_X7_bestSwap_37, P_X7_bestSwap_121, P_X7_users, zI_add, zI_sub, zI_mul, zI_neg, zL, zI_le, zI_lt, zI_eq, zI_cl, zA0, zI_if, Int.toNat_natCast, zT_add, zT_mul, Int.reduceToNat, Nat.add_zero, Nat.zero_add, Int.add_zero, Int.zero_add, zc_a, zc_l, Option.bind_some, qc_let, qc_in, qc_bo, ↓reduceIte, zYT, zYF, zYt, zYf, zYe, zYn, nYT, nYF, nYt, nYf, nYe, nYn, or_false, false_or, or_true, true_or, not_false_eq_true, not_true_eq_false, and_self, and_true, true_and, and_false, false_and, qG, if_true, if_false, hms, ma, mo, m1, m2, m3, m4, m5, m6]
      · obtain ⟨y, I2, J2, M4, f1, f2, f3⟩ := ih (o + 1) k l b I1 J1 M3 (by omega) (by omega) (by omega) hl hS1 (MX_e m7 hM) (eX_t e1 x2) (eJ_t e2 x3) (eM_t e3 m7) K
        simp only [zc_a, zc_l] at f1 f2
        refine ⟨y, I2, J2, M4, ?_, ?_, f3⟩
        · rw [← f1]
          simp (disch := omega) only [P_X6_bestSwap_30, P_X6_bestSwap_93, zI_add, zI_sub, zI_mul, zI_neg, zL, zI_le, zI_lt, zI_eq, zI_cl, zA0, zI_if, Int.toNat_natCast, zT_add, zT_mul, Int.reduceToNat, Nat.add_zero, Nat.zero_add, Int.add_zero, Int.zero_add, zc_a, zc_l, Option.bind_some, qc_let, qc_in, qc_bo, ↓reduceIte, zYT, zYF, zYt, zYf, zYe, zYn, nYT, nYF, nYt, nYf, nYe, nYn, or_false, false_or, or_true, true_or, not_false_eq_true, not_true_eq_false, and_self, and_true, true_and, and_false, false_and, qG, if_true, if_false, hus, xa, xo, x1]
        · rw [← f2]
          simp (disch := omega) only [P_X7_bestSwap_37, P_X7_bestSwap_121, P_X7_users, zI_add, zI_sub, zI_mul, zI_neg, zL, zI_le, zI_lt, zI_eq, zI_cl, zA0, zI_if, Int.toNat_natCast, zT_add, zT_mul, Int.reduceToNat, Nat.add_zero, Nat.zero_add, Int.add_zero, Int.zero_add, zc_a, zc_l, Option.bind_some, qc_let, qc_in, qc_bo, ↓reduceIte, zYT, zYF, zYt, zYf, zYe, zYn, nYT, nYF, nYt, nYf, nYe, nYn, or_false, false_or, or_true, true_or, not_false_eq_true, not_true_eq_false, and_self, and_true, true_and, and_false, false_and, qG, if_true, if_false, hms, ma, mo, m1, m2, m3, m4, m5, m6]
theorem swap_out {V : sV} {I0 : Nat → Nat → Int32} {J0 : Nat → Nat → Int64} {M0 : Nat → Nat → Int32} : ∀ (d a f l : Nat) (b : Int32) (I : Nat → Nat → Int32) (J : Nat → Nat → Int64) (M : Nat → Nat → Int32), a + d = (v_us V).val → d < f → l ≤ 6000 → SX I J 2 V → MX M V → eX I0 I → eJ J0 J → eM M0 M → ∃ y I' J' M', P_X6_bestSwap_14 f I J b (zI (l : Nat)) (zI a) = some (y, I', J') ∧ P_X7_bestSwap_24 f M (zI (l : Nat)) b (zI a) = some (y, M') ∧ eX I0 I' ∧ eJ J0 J' ∧ eM M0 M' := by
  intro d
  induction d with
  | zero =>
    intro a f l b I J M ha hf hl hS hM e1 e2 e3
    obtain ⟨k, rfl⟩ : ∃ k, f = k + 1 := ⟨f - 1, by omega⟩
    have c : zI ((v_us V).val : Int) ≤ zI (a : Int) := by rw [zI_le] <;> omega
    rw [P_X6_bestSwap_14, P_X7_bestSwap_24, P_X7_users, hS.1, hM.1, Option.bind_some, if_pos c, if_pos c]
    exact ⟨_, _, _, _, rfl, rfl, e1, e2, e3⟩
  | succ d ih =>
    intro a f l b I J M ha hf hl hS hM e1 e2 e3
    obtain ⟨k, rfl⟩ : ∃ k, f = k + 1 := ⟨f - 1, by omega⟩
    have c : ¬ zI ((v_us V).val : Int) ≤ zI (a : Int) := by rw [zI_le] <;> omega
    obtain ⟨y, I2, J2, M2, f1, f2, f3⟩ := swap_in (g := k) (show a < (v_us V).val by omega) ((v_us V).val - (a + 1)) (a + 1) qc_fu l b I J M (by omega) (by unfold qc_fu; omega) (by omega) hl hS hM e1 e2 e3 (fun b l I J M h1 h2 h3 h4 h5 h6 => ih (a + 1) k l b I J M (by omega) (by omega) h1 h2 h3 h4 h5 h6)
    refine ⟨y, I2, J2, M2, ?_, ?_, f3⟩
    · rw [P_X6_bestSwap_14, hS.1, if_neg c, ← f1]
      simp only [qc_let, zI_add, zI_sub, zI_mul, zI_neg, zL, zc_a, zc_l]
    · rw [P_X7_bestSwap_24, P_X7_users, hM.1, Option.bind_some, if_neg c, ← f2]
      simp only [qc_let, zI_add, zI_sub, zI_mul, zI_neg, zL, zc_a, zc_l]
theorem st_32 : St_32 Rel := by
  intro I J w M ⟨V, n, h0⟩
  have h := RelV_0 h0 (zI 0)
  obtain ⟨s, s1, s2, s3, s4⟩ := x_noise (p := 2) (by omega) h.1
  obtain ⟨M2, p, q, m1, m2, m3, m4, m5⟩ := m_noise0 h.2.1
  have hS : SX s.2.1 s.2.2 2 V := SX_e (fun t _ _ => s3 t (by omega)) (s4 2 (by omega)) h.1
  obtain ⟨y, I2, J2, M3, f1, f2, f3, f4, f5⟩ := swap_out (V := V) (I0 := I) (J0 := J) (M0 := qc_u2 M 0 0 (zI 0)) (v_us V).val 0 qc_fu (noiS V) (zI (-2)) s.2.1 s.2.2 M2 (by omega) (by unfold qc_fu; omega) (noiS_b V) hS (MX_e (eP_M m5) h.2.1) (eX_g s3) (eJ_g s4) (eP_M m5)
  unfold P_X6_bestSwap P_X7_bestSwap
  simp only [zI_add, zI_sub, zI_mul, zI_neg, zL, qc_let]
  rw [s1, m1, Option.bind_some, Option.bind_some, m2, Option.bind_some, m3, Option.bind_some, m4, s2]
  exact ⟨_, _, f1, f2, rfl, V, n, RelV_e f3 f4 f5 h⟩
