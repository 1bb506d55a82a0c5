/-! planned, spare: sets of those without a channel -/
theorem sN_d : ∀ (n : Fin 7) (b0 b1 b2 b3 b4 b5 : Bool), (sm (fun u => if s8 b0 b1 b2 b3 b4 b5 false false u = true then 2 ^ u else 0) n.val 0 < 2 ^ n.val ∧ sSet (s8 b0 b1 b2 b3 b4 b5 false false) n.val 0 (zI 0) = zI (sm (fun u => if s8 b0 b1 b2 b3 b4 b5 false false u = true then 2 ^ u else 0) n.val 0 : Nat) ∧ ∀ u : Fin 6, u.val < n.val → tb (sm (fun u => if s8 b0 b1 b2 b3 b4 b5 false false u = true then 2 ^ u else 0) n.val 0) u.val = s8 b0 b1 b2 b3 b4 b5 false false u.val) := by decide +kernel
theorem set_s (f : Nat → Bool) {n : Nat} (hn : n ≤ 6) : ∃ s, s < 64 ∧ s < 2 ^ n ∧ sSet f n 0 (zI 0) = zI (s : Nat) ∧ ∀ u, u < n → tb s u = f u := by
  have e : ∀ i, i < 6 → f i = s8 (f 0) (f 1) (f 2) (f 3) (f 4) (f 5) false false i := by
    intro i hi
    have : i = 0 ∨ i = 1 ∨ i = 2 ∨ i = 3 ∨ i = 4 ∨ i = 5 := by omega
    rcases this with rfl | rfl | rfl | rfl | rfl | rfl <;> rfl
  obtain ⟨h1, h2, h3⟩ := sN_d ⟨n, by omega⟩ (f 0) (f 1) (f 2) (f 3) (f 4) (f 5)
  dsimp only at h1 h2 h3
  have h64 : 2 ^ n ≤ 2 ^ 6 := Nat.pow_le_pow_right (by omega) hn
  refine ⟨_, by omega, h1, ?_, ?_⟩
  · rw [← h2]
    exact sSet_cg (fun i _ hi => e i (by omega))
  · intro u hu
    rw [e u (by omega)]
    exact h3 ⟨u, by omega⟩ hu
theorem unt_d : ∀ (n : Fin 7) (b0 b1 b2 b3 b4 b5 : Bool), ((zI 1 <<< (zI n.val &&& zI 31)) - zI 1) &&& (sSet (s8 b0 b1 b2 b3 b4 b5 false false) n.val 0 (zI 0) ^^^ zI (-1)) = sSet (fun u => !s8 b0 b1 b2 b3 b4 b5 false false u) n.val 0 (zI 0) := by decide +kernel
theorem unt_e (f : Nat → Bool) {n : Nat} (hn : n ≤ 6) : ((zI 1 <<< (zI n &&& zI 31)) - zI 1) &&& (sSet f n 0 (zI 0) ^^^ zI (-1)) = sSet (fun u => !f u) n 0 (zI 0) := by
  have e : ∀ i, i < 6 → f i = s8 (f 0) (f 1) (f 2) (f 3) (f 4) (f 5) false false i := by
    intro i hi
    have : i = 0 ∨ i = 1 ∨ i = 2 ∨ i = 3 ∨ i = 4 ∨ i = 5 := by omega
    rcases this with rfl | rfl | rfl | rfl | rfl | rfl <;> rfl
  have := unt_d ⟨n, by omega⟩ (f 0) (f 1) (f 2) (f 3) (f 4) (f 5)
  dsimp only at this
  rw [sSet_cg (f := f) (g := s8 (f 0) (f 1) (f 2) (f 3) (f 4) (f 5) false false) (fun i _ hi => e i (by omega)), this]
  exact sSet_cg (fun i _ hi => by rw [e i (by omega)])
theorem x_untuned {I : Nat → Nat → Int32} {J : Nat → Nat → Int64} {V : sV} (h : SX I J 12 V) (h6 : (v_us V).val ≤ 6) : P_X4_untunedUsers I 12 = some (sSet (fun u => !tunS V u) (v_us V).val 0 (zI 0)) := by
  unfold P_X4_untunedUsers P_X4_allUsers
  simp only [zI_add, zI_sub, zI_mul, zI_neg, zL, Option.bind_some]
  rw [x_tuned h, Option.bind_some, h.1, unt_e _ h6]
theorem m_without_ch {M : Nat → Nat → Int32} {V : sV} (h : MX M V) : P_X7_withoutChannels M = some (sSet (fun u => !tunS V u) (v_us V).val 0 (zI 0)) := by
  obtain ⟨hus, hbd, hgd, hsp, hod, hst, hlo, hhi, hch, hpw, hsl, hls, hlk, hsh, h6, hl1⟩ := h
  unfold P_X7_withoutChannels
  simp only [zL]
  refine it_run (fun f k s => P_X7_withoutChannels_4 M f s (zI k)) (fun k a => if (!tunS V k) = true then a ||| (zI 1 <<< (zI k &&& zI 31)) else a) some (v_us V).val ?_ ?_ (v_us V).val 0 qc_fu (zI 0) (by omega) (by unfold qc_fu; omega)
  · intro f k s hk
    by_cases c : (v_ch V k).val = 0
    · have : tunS V k = false := decide_eq_false (by omega)
      rw [this, Bool.not_false, if_pos (show true = true from rfl)]
      simp (disch := omega) only [P_X7_withoutChannels_4, P_X7_withoutChannels_29, P_X7_users, zI_add, zI_sub, zI_mul, zI_neg, zL, zI_le, zI_lt, zI_eq, zI_cl, zA0, zI_if, Int.toNat_natCast, zT_add, zT_mul, Int.reduceToNat, Nat.add_zero, Nat.zero_add, Int.add_zero, Int.zero_add, zc_a, zc_l, Option.bind_some, qc_let, qc_in, qc_bo, ↓reduceIte, zYT, zYF, zYt, zYf, zYe, zYn, nYT, nYF, nYt, nYf, nYe, nYn, or_false, false_or, or_true, true_or, not_false_eq_true, not_true_eq_false, and_self, and_true, true_and, and_false, false_and, qG, if_true, if_false, hus, hch]
    · have : tunS V k = true := decide_eq_true (by omega)
      rw [this, Bool.not_true, if_neg (show ¬ false = true by decide)]
      simp (disch := omega) only [P_X7_withoutChannels_4, P_X7_withoutChannels_29, P_X7_users, zI_add, zI_sub, zI_mul, zI_neg, zL, zI_le, zI_lt, zI_eq, zI_cl, zA0, zI_if, Int.toNat_natCast, zT_add, zT_mul, Int.reduceToNat, Nat.add_zero, Nat.zero_add, Int.add_zero, Int.zero_add, zc_a, zc_l, Option.bind_some, qc_let, qc_in, qc_bo, ↓reduceIte, zYT, zYF, zYt, zYf, zYe, zYn, nYT, nYF, nYt, nYf, nYe, nYn, or_false, false_or, or_true, true_or, not_false_eq_true, not_true_eq_false, and_self, and_true, true_and, and_false, false_and, qG, if_true, if_false, hus, hch]
  · intro f s
    simp (disch := omega) only [P_X7_withoutChannels_4, P_X7_users, zI_add, zI_sub, zI_mul, zI_neg, zL, zI_le, zI_lt, zI_eq, zI_cl, zA0, zI_if, Int.toNat_natCast, zT_add, zT_mul, Int.reduceToNat, Nat.add_zero, Nat.zero_add, Int.add_zero, Int.zero_add, zc_a, zc_l, Option.bind_some, qc_let, qc_in, qc_bo, iteT, iteF, and_self, if_true, if_false, qG, hus]
theorem MX_aside {M : Nat → Nat → Int32} {V : sV} (h : MX M V) : MX (cpM M 15 13 0 0 79) V := by
  unfold MX at *
  rw [cpM_ne (t := 2) _ _ _ _ _ _ (by omega), cpM_ne (t := 0) _ _ _ _ _ _ (by omega), cpM_ne (t := 5) _ _ _ _ _ _ (by omega), cpM_ne (t := 7) _ _ _ _ _ _ (by omega), cpM_ne (t := 8) _ _ _ _ _ _ (by omega), cpM_ne (t := 11) _ _ _ _ _ _ (by omega), cpM_ne (t := 13) _ _ _ _ _ _ (by omega)]
  exact h
theorem eA_K {M0 M M' : Nat → Nat → Int32} (h : eA M0 M) (he : eK M M') : eA M0 M' := by
  refine ⟨?_, ?_, ?_, ?_⟩
  · intro t ht; rw [he.1 t (by omega) (by omega) (by omega)]; exact h.1 t ht
  · rw [he.1 15 (by omega) (by omega) (by omega)]; exact h.2.1
  · intro j hj; rw [he.2.1 j (by omega)]; exact h.2.2.1 j hj
  · intro j a b c d e f g k; rw [he.2.2 j b c]; exact h.2.2.2 j a b c d e f g k
theorem eA_bA {M0 M : Nat → Nat → Int32} (h : eA M0 M) : eA M0 (toldM (cpM M 13 15 0 0 79)) := by
  have ne : ∀ t, t ≠ 0 → toldM (cpM M 13 15 0 0 79) t = cpM M 13 15 0 0 79 t := by
    intro t ht
    unfold toldM
    rw [u2_ne ht, u2_ne ht, u2_ne ht, u2_ne ht]
  refine ⟨?_, ?_, ?_, ?_⟩
  · intro t ht; rw [ne t (by omega), cpM_ne _ _ _ _ _ _ (by omega)]; exact h.1 t ht
  · rw [ne 15 (by omega), cpM_ne _ _ _ _ _ _ (by omega)]; exact h.2.1
  · intro j hj; rw [ne 13 (by omega), cpM_at, if_neg (by omega)]; exact h.2.2.1 j hj
  · intro j a b c d e f g k
    unfold toldM
    rw [qG, if_neg (by omega), qG, if_neg (by omega), qG, if_neg (by omega), qG, if_neg (by omega), cpM_ne _ _ _ _ _ _ (by omega)]
    exact h.2.2.2 j a b c d e f g k
/-- the search for all that have none, on both sides -/
theorem plan_both {V : sV} {I : Nat → Nat → Int32} {J : Nat → Nat → Int64} {M : Nat → Nat → Int32} (hS : SX I J 12 V) (hM : MX M V) : ∃ (s : Int32) (res x : Int) (I' : Nat → Nat → Int32) (J' : Nat → Nat → Int64) (M' : Nat → Nat → Int32) (g' : Nat → Fin 61) (L' : Nat), P_X4_untunedUsers I 12 = some s ∧ P_X7_withoutChannels M = some s ∧ P_X5_seek I J 12 s = some (zI res, I', J') ∧ P_X7_searches M s = some (zI x, M') ∧ SX I' J' 12 (v_chf V g') ∧ MX M' (v_chf V g') ∧ ((res = 0 ∧ x = (L' : Int) ∧ I' 33 2 = zI (L' : Nat) ∧ L' ≤ 600) ∨ (res = x ∧ (x = -2 ∨ x = -3))) ∧ eX I I' ∧ eJ J J' ∧ eK M M' := by
  have h6 : (v_us V).val ≤ 6 := hM.2.2.2.2.2.2.2.2.2.2.2.2.2.2.1
  obtain ⟨s, s1, s2, s3, s4⟩ := set_s (fun u => !tunS V u) h6
  obtain ⟨res, x, I', J', M', g', L', q1, q2, q3, q4, q5, q6, q7, q8, q9⟩ := seek_both s1 s2 hS hM
  refine ⟨zI (s : Nat), res, x, I', J', M', g', L', ?_, ?_, q1, q2, q3, q4, ?_, q7, q8, q9⟩
  · rw [x_untuned hS h6, s3]
  · rw [m_without_ch hM, s3]
  · rcases q6 with ⟨a, b, c, d, _⟩ | ⟨a, b, _⟩
    · exact Or.inl ⟨a, b, c, d⟩
    · exact Or.inr ⟨a, b⟩
theorem st_22 : St_22 Rel := by
  intro I J w M a ⟨V, n, h0⟩
  have h := RelV_0 h0 (zI 0)
  have h6 : (v_us V).val ≤ 6 := h.2.1.2.2.2.2.2.2.2.2.2.2.2.2.2.2.1
  unfold P_X6_planned P_X7_planned P_X6_planAll
  simp only [zI_add, zI_sub, zI_mul, zI_neg, zL, qc_let]
  rcases user_cases h.1 h.2.1 a with ⟨e1, e2⟩ | ⟨u, hu, rfl, e1, e2⟩
  · rw [e1, e2]
    exact ⟨_, _, rfl, rfl, rfl, V, n, h⟩
  · rw [e1, e2]
    have hx := (SX_at9 h.1 (show u < 8 by omega)).1
    have hm : qc_u2 M 0 0 (zI 0) 13 u = zI (v_ch V u).val := h.2.1.2.2.2.2.2.2.2.2.1 u hu
    have i8 : qc_in (zI (u : Int)) 8 := by simp (disch := omega) only [zI_add, zI_sub, zI_mul, zI_neg, zL, zI_le, zI_lt, zI_eq, zI_cl, zA0, zI_if, Int.toNat_natCast, zT_add, zT_mul, Int.reduceToNat, Nat.add_zero, Nat.zero_add, Int.add_zero, Int.zero_add, zc_a, zc_l, Option.bind_some, qc_let, qc_in, qc_bo, iteT, iteF, and_self, if_true, if_false, qG]; omega
    have r8 : (zI (u : Int)).toNatClampNeg = u := by rw [zI_cl (by omega) (by omega)]; omega
    have i0 : qc_in (zI 0 + zI (u : Int)) 79 := by simp (disch := omega) only [zI_add, zI_sub, zI_mul, zI_neg, zL, zI_le, zI_lt, zI_eq, zI_cl, zA0, zI_if, Int.toNat_natCast, zT_add, zT_mul, Int.reduceToNat, Nat.add_zero, Nat.zero_add, Int.add_zero, Int.zero_add, zc_a, zc_l, Option.bind_some, qc_let, qc_in, qc_bo, iteT, iteF, and_self, if_true, if_false, qG]; omega
    have r0 : (zI 0 + zI (u : Int)).toNatClampNeg = u := by rw [zI_add, zI_cl (by omega) (by omega)]; omega
    have ez : ¬ zI 1 = zI 0 := by decide
    simp only [Option.bind_some, if_neg ez, if_pos i8, if_pos i0, r8, r0, hx, hm]
    by_cases c : (v_ch V u).val = 0
    · have k : zI ((v_ch V u).val : Int) ≤ zI 0 := by rw [zI_le] <;> omega
      obtain ⟨r, r1, r2, r3, r4, r5⟩ := x_copy h.1
      obtain ⟨s, res, x, I', J', M', g', L', p1, p2, p3, p4, p5, p6, p7, p8, p9, p10⟩ := plan_both r2 (MX_aside h.2.1)
      have hR := RelV_e (eX_t (eX_c r2 r4) p8) (eJ_t (eJ_c r5) p9) (eA_b h.2.1 h.2.2.1 (eA_K (eA_0 _) p10)) h
      rw [if_pos k, if_pos k, r1, m_goesAside]
      simp only [Option.bind_some]
      rw [p1, p2]
      simp only [Option.bind_some]
      rw [p3, p4]
      simp only [Option.bind_some]
      rw [m_comesBack]
      simp only [Option.bind_some]
      rcases p7 with ⟨a1, a2, a3, a4⟩ | ⟨a1, a2⟩
      · have k1 : zI res = zI 0 := by rw [a1]
        have k2 : zI 0 ≤ zI x := by rw [zI_le] <;> omega
        have y1 : I' 19 u = zI (g' u).val := p5.2.2.2.2.2.2.2.2.1 u (by omega)
        have y2 : M' 13 u = zI (g' u).val := p6.2.2.2.2.2.2.2.2.1 u hu
        rw [if_pos k1, if_pos k2, y1, y2]
        exact ⟨_, _, rfl, rfl, rfl, V, n, hR⟩
      · have k1 : ¬ zI res = zI 0 := by rw [zI_eq] <;> omega
        have k2 : ¬ zI 0 ≤ zI x := by rw [zI_le] <;> omega
        rw [if_neg k1, if_neg k2, a1]
        exact ⟨_, _, rfl, rfl, rfl, V, n, hR⟩
    · have k : ¬ zI ((v_ch V u).val : Int) ≤ zI 0 := by rw [zI_le] <;> omega
      rw [if_neg k, if_neg k]
      exact ⟨_, _, rfl, rfl, rfl, V, n, h⟩
theorem spare_loop {V : sV} {u : Nat} (hu : u < (v_us V).val) {M0 : Nat → Nat → Int32} (h0 : MX M0 V) (hT : TM M0 V) : ∀ (d c f : Nat) (acc : Int32) (I : Nat → Nat → Int32) (J : Nat → Nat → Int64) (M : Nat → Nat → Int32), c + d = (v_bd V).val + 1 → d < f → SX I J 2 V → eM M0 M → eA M0 M → ∃ y I' J' M', P_X6_spare_17 f I J (zI u) acc (zI c) = some (y, I', J') ∧ P_X7_spare_23 f M (zI u) acc (zI c) = some (y, M') ∧ eX I I' ∧ eJ J J' ∧ eM M0 M' := by
  have h6 : (v_us V).val ≤ 6 := h0.2.2.2.2.2.2.2.2.2.2.2.2.2.2.1
  have i0 : qc_in (zI 0 + zI (u : Int)) 79 := by simp (disch := omega) only [zI_add, zI_sub, zI_mul, zI_neg, zL, zI_le, zI_lt, zI_eq, zI_cl, zA0, zI_if, Int.toNat_natCast, zT_add, zT_mul, Int.reduceToNat, Nat.add_zero, Nat.zero_add, Int.add_zero, Int.zero_add, zc_a, zc_l, Option.bind_some, qc_let, qc_in, qc_bo, iteT, iteF, and_self, if_true, if_false, qG]; omega
  have r0 : (zI 0 + zI (u : Int)).toNatClampNeg = u := by rw [zI_add, zI_cl (by omega) (by omega)]; omega
  intro d
  induction d with
  | zero =>
    intro c f acc I J M hc hf hS he hA
    obtain ⟨g, rfl⟩ : ∃ g, f = g + 1 := ⟨f - 1, by omega⟩
    have hM := MX_e he h0
    have k : zI ((v_bd V).val : Int) < zI (c : Int) := by rw [zI_lt] <;> omega
    rw [P_X6_spare_17, P_X7_spare_23, hS.2.1, hM.2.1, if_pos k, if_pos k]
    exact ⟨_, _, _, _, rfl, rfl, eX_r I, eJ_r J, he⟩
  | succ d ih =>
    intro c f acc I J M hc hf hS he hA
    obtain ⟨g, rfl⟩ : ∃ g, f = g + 1 := ⟨f - 1, by omega⟩
    have hM := MX_e he h0
    have k : ¬ zI ((v_bd V).val : Int) < zI (c : Int) := by rw [zI_lt] <;> omega
    obtain ⟨r, r1, r2, r3, r4, r5⟩ := x_copy hS
    obtain ⟨t, t1, t2, t3, t4, t5⟩ := x_fits r2 (u := u) (c := c) (by omega) (by omega)
    have hMc := MX_ch hM hu (f61 c)
    rw [f61_v (by omega)] at hMc
    obtain ⟨m, m1, m2, m3⟩ := m_clean hMc
    have hA1 : eA M0 m.2 := eA_P (eA_s hA (by omega) _) m3
    have eI : eX I t.2.1 := eX_t (eX_c r2 r4) t4
    have eJ' : eJ J t.2.2 := eJ_t (eJ_c r5) t5
    -- what follows a turn
    have go : ∀ (acc' : Int32) (I1 : Nat → Nat → Int32) (J1 : Nat → Nat → Int64) (M1 : Nat → Nat → Int32), eX I I1 → eJ J J1 → eA M0 M1 → ∃ y I' J' M', P_X6_spare_17 g I1 J1 (zI u) acc' (zI ((c : Int) + 1)) = some (y, I', J') ∧ P_X7_spare_61 (P_X7_spare_23 g) M1 (zI u) acc' (zI c) = some (y, M') ∧ eX I I' ∧ eJ J J' ∧ eM M0 M' := by
      intro acc' I1 J1 M1 a1 a2 a3
      have hS1 : SX I1 J1 2 V := SX_e (fun t _ _ => a1.1 t (by omega)) (a2 2 (by omega)) hS
      obtain ⟨y, I', J', M', k1, k2, k3, k4, k5⟩ := ih (c + 1) g acc' I1 J1 (toldM (cpM M1 13 15 0 0 79)) (by omega) (by omega) hS1 (eA_b h0 hT a3) (eA_bA a3)
      simp only [zc_a, zc_l] at k1 k2
      refine ⟨y, I', J', M', k1, ?_, eX_t a1 k3, eJ_t a2 k4, k5⟩
      unfold P_X7_spare_61
      rw [m_comesBack]
      simp only [Option.bind_some, zI_add, zI_sub, zI_mul, zI_neg, zL, qc_let]
      exact k2
    rw [P_X6_spare_17, P_X7_spare_23, hS.2.1, hM.2.1, if_neg k, if_neg k]
    simp only [zL]
    rw [r1, if_pos i0, r0]
    simp only [qc_let, Option.bind_some]
    rw [t1, m1]
    simp only [Option.bind_some]
    rw [t2, m2]
    simp only [bI_0, P_X6_spare_76, qc_let, zI_add, zI_sub, zI_mul, zI_neg, zL]
    cases cleanS (v_setch V u (f61 c))
    · rw [if_pos (show false = false from rfl), if_pos (show false = false from rfl)]
      exact go acc t.2.1 t.2.2 m.2 eI eJ' hA1
    · rw [if_neg (show ¬ true = false by decide), if_neg (show ¬ true = false by decide)]
      obtain ⟨s, res, x, I', J', M', g', L', p1, p2, p3, p4, p5, p6, p7, p8, p9, p10⟩ := plan_both t3 (MX_e (eP_M m3) hMc)
      rw [p1, p2]
      simp only [Option.bind_some]
      rw [p3, p4]
      simp only [Option.bind_some]
      have hA2 := eA_K hA1 p10
      rcases p7 with ⟨a1, a2, a3, a4⟩ | ⟨a1, a2⟩
      · have k1 : zI res = zI 0 := by rw [a1]
        have k2 : ¬ zI x < zI 0 := by rw [zI_lt] <;> omega
        rw [if_pos k1, if_neg k2]
        exact go _ I' J' M' (eX_t eI p8) (eJ_t eJ' p9) hA2
      · have k1 : ¬ zI res = zI 0 := by rw [zI_eq] <;> omega
        have k2 : zI x < zI 0 := by rw [zI_lt] <;> omega
        rw [if_neg k1, if_pos k2]
        exact go _ I' J' M' (eX_t eI p8) (eJ_t eJ' p9) hA2
theorem st_37 : St_37 Rel := by
  intro I J w M a ⟨V, n, h0⟩
  have h := RelV_0 h0 (zI 0)
  unfold P_X6_spare P_X7_spare
  simp only [zI_add, zI_sub, zI_mul, zI_neg, zL, qc_let]
  rcases user_cases h.1 h.2.1 a with ⟨e1, e2⟩ | ⟨u, hu, rfl, e1, e2⟩
  · rw [e1, e2]
    exact ⟨_, _, rfl, rfl, rfl, V, n, h⟩
  · rw [e1, e2]
    have ez : ¬ zI 1 = zI 0 := by decide
    have ea : eM (qc_u2 M 0 0 (zI 0)) (cpM (qc_u2 M 0 0 (zI 0)) 15 13 0 0 79) := ⟨fun t ht => cpM_ne _ _ _ _ _ _ (by omega), fun j _ _ _ _ => by rw [cpM_ne _ _ _ _ _ _ (by omega)]⟩
    obtain ⟨y, I2, J2, M2, f1, f2, f3, f4, f5⟩ := spare_loop hu h.2.1 h.2.2.1 (v_bd V).val 1 qc_fu (zI 0) I J _ (by omega) (by unfold qc_fu; omega) h.1 ea (eA_0 _)
    simp only [Option.bind_some, if_neg ez]
    rw [m_goesAside]
    simp only [Option.bind_some]
    exact ⟨_, _, f1, f2, rfl, V, n, RelV_e f3 f4 f5 h⟩
