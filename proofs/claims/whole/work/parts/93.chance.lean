/-! CHANNELS LOST BY CHANCE -/
theorem dr_x (x : Int32) : ∃ m : Nat, m < 32768 ∧ (x &&& zI 2147483647) >>> (zI 16 &&& zI 31) = zI m := by
  refine ⟨(x.toBitVec.toNat % 2 ^ 31) / 2 ^ 16, ?_, ?_⟩
  · have : x.toBitVec.toNat % 2 ^ 31 < 2 ^ 31 := Nat.mod_lt _ (by omega)
    omega
  · apply Int32.toBitVec_inj.1
    have hs : ((zI 16 &&& zI 31).toBitVec.smod 32#32).toNat = 16 := by decide
    have e1 : ((x &&& zI 2147483647) >>> (zI 16 &&& zI 31)).toBitVec = (x.toBitVec &&& (2147483647#32)).sshiftRight' ((zI 16 &&& zI 31).toBitVec.smod 32#32) := rfl
    have hm : (x.toBitVec &&& (2147483647#32)).msb = false := by
      rw [BitVec.msb_and]
      have : (2147483647#32).msb = false := by decide
      rw [this, Bool.and_false]
    have e2 : (zI (((x.toBitVec.toNat % 2 ^ 31) / 2 ^ 16 : Nat) : Int)).toBitVec = BitVec.ofNat 32 ((x.toBitVec.toNat % 2 ^ 31) / 2 ^ 16) := by
      rw [← nI_zI]
      rfl
    rw [e1, e2]
    unfold BitVec.sshiftRight'
    rw [hs, BitVec.sshiftRight_eq_of_msb_false hm]
    apply BitVec.eq_of_toNat_eq
    rw [BitVec.toNat_ushiftRight, BitVec.toNat_and, BitVec.toNat_ofNat, BitVec.toNat_ofNat]
    have e3 : 2147483647 % 2 ^ 32 = 2 ^ 31 - 1 := by decide
    rw [e3, Nat.and_two_pow_sub_one_eq_mod, Nat.shiftRight_eq_div_pow]
    have : x.toBitVec.toNat % 2 ^ 31 < 2 ^ 31 := Nat.mod_lt _ (by omega)
    rw [Nat.mod_eq_of_lt (a := x.toBitVec.toNat % 2 ^ 31 / 2 ^ 16)]
    omega
theorem dr_m {m b : Nat} (hm : m < 32768) (hb : 1 ≤ b) (hb2 : b ≤ 60) : zI m - zI m / zI b * zI b = zI (m % b : Nat) := by
  obtain ⟨q, hq⟩ : ∃ q, q = m / b := ⟨_, rfl⟩
  have hq2 : q ≤ m := by rw [hq]; exact Nat.div_le_self _ _
  have e : zI (m : Int) / zI (b : Int) = zI (q : Int) := by
    apply Int32.toInt_inj.1
    rw [Int32.toInt_div, zI_toInt (by omega) (by omega), zI_toInt (by omega) (by omega), zI_toInt (by omega) (by omega)]
    have : Int.tdiv (m : Int) (b : Int) = (q : Int) := by rw [hq]; rfl
    rw [this]
    exact Int.bmod_eq_of_le (by omega) (by omega)
  rw [e, zI_mul, zI_sub]
  congr 1
  have := Nat.div_add_mod m b
  rw [← hq] at this
  have e2 : (q : Int) * (b : Int) = ((b * q : Nat) : Int) := by
    rw [← Int.natCast_mul, Nat.mul_comm]
  rw [e2]
  omega
def eG (M0 M : Nat → Nat → Int32) : Prop := (∀ t, (t = 1 ∨ t = 2 ∨ t = 4 ∨ t = 5 ∨ t = 7 ∨ t = 8 ∨ t = 11 ∨ t = 14) → M t = M0 t) ∧ (∀ j, j < 79 → M 24 j = M0 13 j) ∧ (∀ j, 79 ≤ j → M 13 j = M0 13 j) ∧ (∀ j, j ≠ 0 → j ≠ 41 → j ≠ 42 → j ≠ 44 → M 0 j = M0 0 j)
theorem eG_K {M0 M M' : Nat → Nat → Int32} (h : eG M0 M) (he : eK M M') : eG M0 M' := by
  refine ⟨?_, ?_, ?_, ?_⟩
  · intro t ht; rw [he.1 t (by omega) (by omega) (by omega)]; exact h.1 t ht
  · rw [he.1 24 (by omega) (by omega) (by omega)]; exact h.2.1
  · intro j hj; rw [he.2.1 j (by omega)]; exact h.2.2.1 j hj
  · intro j a b c d; rw [he.2.2 j b c]; exact h.2.2.2 j a b c d
theorem eG_s {M0 M : Nat → Nat → Int32} (h : eG M0 M) {i : Nat} (hi : i < 79) (x : Int32) : eG M0 (qc_u2 M 13 i x) := by
  refine ⟨?_, ?_, ?_, ?_⟩
  · intro t ht; rw [u2_ne (by omega)]; exact h.1 t ht
  · rw [u2_ne (by omega)]; exact h.2.1
  · intro j hj; rw [qG, if_neg (by omega)]; exact h.2.2.1 j hj
  · intro j a b c d; rw [u2_ne (by omega)]; exact h.2.2.2 j a b c d
theorem eG_4 {M0 M : Nat → Nat → Int32} (h : eG M0 M) (x : Int32) : eG M0 (qc_u2 M 0 44 x) := by
  refine ⟨?_, ?_, ?_, ?_⟩
  · intro t ht; rw [u2_ne (by omega)]; exact h.1 t ht
  · rw [u2_ne (by omega)]; exact h.2.1
  · intro j hj; rw [u2_ne (by omega)]; exact h.2.2.1 j hj
  · intro j a b c d; rw [qG, if_neg (by omega)]; exact h.2.2.2 j a b c d
theorem eG_M {M0 M : Nat → Nat → Int32} (h : eG M0 M) : eM M0 (cpM M 13 24 0 0 79) := by
  refine ⟨?_, ?_⟩
  · intro t ht
    by_cases c : t = 13
    · subst c
      funext j
      rw [cpM_at]
      by_cases cj : j < 79
      · rw [if_pos (by omega), Nat.sub_zero, Nat.zero_add]; exact h.2.1 j cj
      · rw [if_neg (by omega)]; exact h.2.2.1 j (by omega)
    · rw [cpM_ne _ _ _ _ _ _ c]; exact h.1 t (by omega)
  · intro j a b c d
    rw [cpM_ne _ _ _ _ _ _ (by omega)]; exact h.2.2.2 j a b c d
theorem MX_4 {M : Nat → Nat → Int32} {V : sV} (h : MX M V) (x : Int32) : MX (qc_u2 M 0 44 x) V := by
  unfold MX at *
  rw [u2_ne (t' := 2) (by omega), u2_ne (t' := 5) (by omega), u2_ne (t' := 7) (by omega), u2_ne (t' := 8) (by omega), u2_ne (t' := 11) (by omega), u2_ne (t' := 13) (by omega), qG, if_neg (by omega), qG, if_neg (by omega), qG, if_neg (by omega), qG, if_neg (by omega)]
  exact h
theorem m_215 {M : Nat → Nat → Int32} {y : Int32} : P_X7_chance_215 M y = some (y, cpM M 13 24 0 0 79) := by
  unfold P_X7_chance_215
  simp only [zL]
  refine cp_run (fun f i M => P_X7_chance_220 f M y (zI i)) 13 24 0 0 79 (fun M => some (y, M)) (by omega) ?_ ?_ (by unfold qc_fu; omega) M
  · intro f i M hi
    simp (disch := omega) only [P_X7_chance_220, zI_add, zI_sub, zI_mul, zI_neg, zL, zI_le, zI_lt, zI_eq, zI_cl, zA0, zI_if, Int.toNat_natCast, zT_add, zT_mul, Int.reduceToNat, Nat.add_zero, Nat.zero_add, Int.add_zero, Int.zero_add, zc_a, zc_l, Option.bind_some, qc_let, qc_in, qc_bo, iteT, iteF, and_self, if_true, if_false, qG]
  · intro f M
    simp (disch := omega) only [P_X7_chance_220, zI_add, zI_sub, zI_mul, zI_neg, zL, zI_le, zI_lt, zI_eq, zI_cl, zA0, zI_if, Int.toNat_natCast, zT_add, zT_mul, Int.reduceToNat, Nat.add_zero, Nat.zero_add, Int.add_zero, Int.zero_add, zc_a, zc_l, Option.bind_some, qc_let, qc_in, qc_bo, iteT, iteF, and_self, if_true, if_false, qG]
theorem m_55 {M : Nat → Nat → Int32} {a b : Int32} : P_X7_chance_55 qc_fu M a b (zI 0) = P_X7_chance_88 qc_fu (cpM M 24 13 0 0 79) a b (zI 0) (zI 0) := by
  refine cp_run (fun f i M => P_X7_chance_55 f M a b (zI i)) 24 13 0 0 79 (fun M => P_X7_chance_88 qc_fu M a b (zI 0) (zI 0)) (by omega) ?_ ?_ (by unfold qc_fu; omega) M
  · intro f i M hi
    simp (disch := omega) only [P_X7_chance_55, zI_add, zI_sub, zI_mul, zI_neg, zL, zI_le, zI_lt, zI_eq, zI_cl, zA0, zI_if, Int.toNat_natCast, zT_add, zT_mul, Int.reduceToNat, Nat.add_zero, Nat.zero_add, Int.add_zero, Int.zero_add, zc_a, zc_l, Option.bind_some, qc_let, qc_in, qc_bo, iteT, iteF, and_self, if_true, if_false, qG]
  · intro f M
    simp (disch := omega) only [P_X7_chance_55, zI_add, zI_sub, zI_mul, zI_neg, zL, zI_le, zI_lt, zI_eq, zI_cl, zA0, zI_if, Int.toNat_natCast, zT_add, zT_mul, Int.reduceToNat, Nat.add_zero, Nat.zero_add, Int.add_zero, Int.zero_add, zc_a, zc_l, Option.bind_some, qc_let, qc_in, qc_bo, iteT, iteF, and_self, if_true, if_false, qG]
theorem one_d : ∀ u : Fin 6, zI 1 <<< (zI u.val &&& zI 31) = zI (2 ^ u.val : Nat) ∧ 2 ^ u.val < 64 ∧ tb (2 ^ u.val) u.val = true := by decide +kernel
theorem lose_loop {V : sV} (h6 : (v_us V).val ≤ 6) {K : (Nat → Nat → Int32) → Int32 → Int32 → Int32 → Int32 → Option (Int32 × (Nat → Nat → Int32))} {a2 a3 a5 : Int32} {c : Nat} (hc : c ≤ 60) {M0 : Nat → Nat → Int32} : ∀ (d u f F : Nat) (a b : Int) (I : Nat → Nat → Int32) (J : Nat → Nat → Int64) (M : Nat → Nat → Int32) (W : sV), u + d = (v_us V).val → d < f → d < F → W.1 = V.1 → SX I J 12 W → MX M W → eG M0 M → ∃ (n : Int) (I' : Nat → Nat → Int32) (J' : Nat → Nat → Int64) (M' : Nat → Nat → Int32) (W' : sV), P_X6_loseOnTrial_19 f I J (zI c) (zI a) (zI u) = some (zI (a + n), I', J') ∧ P_X7_chance_120 K F M a2 a3 (zI b) a5 (zI c) (zI u) = K M' a2 a3 (zI (b + n)) (a5 + zI 1) ∧ W'.1 = V.1 ∧ SX I' J' 12 W' ∧ MX M' W' ∧ eG M0 M' ∧ eX I I' ∧ eJ J J' ∧ M' 0 44 = M 0 44 := by
  intro d
  induction d with
  | zero =>
    intro u f F a b I J M W hu hf hF hW hS hM hG
    obtain ⟨g, rfl⟩ : ∃ g, f = g + 1 := ⟨f - 1, by omega⟩
    obtain ⟨G, rfl⟩ : ∃ G, F = G + 1 := ⟨F - 1, by omega⟩
    have hus : v_us W = v_us V := by unfold v_us; rw [hW]
    have x0 : I 12 0 = zI ((v_us V).val : Int) := by rw [← hus]; exact hS.1
    have m0 : M 2 7 = zI ((v_us V).val : Int) := by rw [← hus]; exact hM.1
    have k : zI ((v_us V).val : Int) ≤ zI (u : Int) := by rw [zI_le] <;> omega
    refine ⟨0, I, J, M, W, ?_, ?_, hW, hS, hM, hG, eX_r I, eJ_r J, rfl⟩
    · rw [P_X6_loseOnTrial_19, x0, if_pos k, Int.add_zero]
    · rw [P_X7_chance_120, P_X7_users, Option.bind_some, m0, if_pos k, Int.add_zero]
      simp only [zL, qc_let]
  | succ d ih =>
    intro u f F a b I J M W hu hf hF hW hS hM hG
    obtain ⟨g, rfl⟩ : ∃ g, f = g + 1 := ⟨f - 1, by omega⟩
    obtain ⟨G, rfl⟩ : ∃ G, F = G + 1 := ⟨F - 1, by omega⟩
    have hus : v_us W = v_us V := by unfold v_us; rw [hW]
    have x0 : I 12 0 = zI ((v_us V).val : Int) := by rw [← hus]; exact hS.1
    have m0 : M 2 7 = zI ((v_us V).val : Int) := by rw [← hus]; exact hM.1
    have k : ¬ zI ((v_us V).val : Int) ≤ zI (u : Int) := by rw [zI_le] <;> omega
    have x9 : I 19 u = zI (v_ch W u).val := hS.2.2.2.2.2.2.2.2.1 u (by omega)
    have m9 : M 13 u = zI (v_ch W u).val := hM.2.2.2.2.2.2.2.2.1 u (by rw [hus]; omega)
    have i8 : qc_in (zI (u : Int)) 8 := by simp (disch := omega) only [zI_add, zI_sub, zI_mul, zI_neg, zL, zI_le, zI_lt, zI_eq, zI_cl, zA0, zI_if, Int.toNat_natCast, zT_add, zT_mul, Int.reduceToNat, Nat.add_zero, Nat.zero_add, Int.add_zero, Int.zero_add, zc_a, zc_l, Option.bind_some, qc_let, qc_in, qc_bo, iteT, iteF, and_self, if_true, if_false, qG]; omega
    have r8 : (zI (u : Int)).toNatClampNeg = u := by rw [zI_cl (by omega) (by omega)]; omega
    have i0 : qc_in (zI 0 + zI (u : Int)) 79 := by simp (disch := omega) only [zI_add, zI_sub, zI_mul, zI_neg, zL, zI_le, zI_lt, zI_eq, zI_cl, zA0, zI_if, Int.toNat_natCast, zT_add, zT_mul, Int.reduceToNat, Nat.add_zero, Nat.zero_add, Int.add_zero, Int.zero_add, zc_a, zc_l, Option.bind_some, qc_let, qc_in, qc_bo, iteT, iteF, and_self, if_true, if_false, qG]; omega
    have r0 : (zI 0 + zI (u : Int)).toNatClampNeg = u := by rw [zI_add, zI_cl (by omega) (by omega)]; omega
    by_cases e : (v_ch W u).val = c
    · have ke : zI ((v_ch W u).val : Int) = zI (c : Int) := by rw [e]
      obtain ⟨o1, o2, o3⟩ := one_d ⟨u, by omega⟩
      dsimp only at o1 o2 o3
      obtain ⟨res, x, I', J', M', g', L', p1, p2, p3, p4, p5, p6, p7, p8, p9⟩ := seek_both (s := 2 ^ u) (V := W) o2 (by rw [hus]; exact Nat.pow_lt_pow_right (by omega) (by omega)) hS hM
      have h44 : M' 0 44 = M 0 44 := p9.2.2 44 (by omega) (by omega)
      have xe : P_X6_loseOnTrial_19 (g + 1) I J (zI c) (zI a) (zI u) = P_X6_loseOnTrial_19 g I' J' (zI c) (zI (a + 1)) (zI ((u : Int) + 1)) := by
        rw [P_X6_loseOnTrial_19, x0, if_neg k, if_pos i8, r8]
        simp only [Nat.reduceAdd, x9, zL]
        rw [if_pos ke, o1, p1]
        simp only [qc_let, Option.bind_some, P_X6_loseOnTrial_65, zL, zI_add]
      have me : ∃ M'', P_X7_chance_120 K (G + 1) M a2 a3 (zI b) a5 (zI c) (zI u) = P_X7_chance_120 K G M'' a2 a3 (zI (b + 1)) a5 (zI c) (zI ((u : Int) + 1)) ∧ MX M'' (v_chf W g') ∧ eG M0 M'' ∧ M'' 0 44 = M 0 44 := by
        rcases p6 with ⟨b1, b2, b3, b4, _⟩ | ⟨b1, b2, b3⟩
        · refine ⟨M', ?_, p4, eG_K hG p9, h44⟩
          have kx : zI 0 ≤ zI x := by rw [zI_le] <;> omega
          rw [P_X7_chance_120, P_X7_users, Option.bind_some, m0, if_neg k]
          simp only [zL]
          simp only [if_pos i0, r0, m9]
          rw [if_pos ke, o1, p2]
          simp only [qc_let, Option.bind_some, P_X7_chance_170, zL]
          rw [if_pos kx, zI_add, zI_add]
        · have hz : qc_u g' u 0 = g' := by
            funext v
            unfold qc_u
            by_cases ev : v = u
            · rw [if_pos ev, ev]
              exact (Fin.ext (b3 u (by rw [hus]; omega) o3)).symm
            · rw [if_neg ev]
          have hM2 := MX_ch p4 (u := u) (by show u < (v_us W).val; rw [hus]; omega) 0
          rw [v_chS, hz] at hM2
          refine ⟨qc_u2 M' 13 u (zI 0), ?_, hM2, eG_s (eG_K hG p9) (by omega) _, by rw [u2_ne (by omega)]; exact h44⟩
          have kx : ¬ zI 0 ≤ zI x := by rw [zI_le] <;> omega
          rw [P_X7_chance_120, P_X7_users, Option.bind_some, m0, if_neg k]
          simp only [zL]
          simp only [if_pos i0, r0, m9]
          rw [if_pos ke, o1, p2]
          simp only [qc_let, Option.bind_some, P_X7_chance_170, zL]
          rw [if_neg kx, zI_add, zI_add]
      obtain ⟨M'', y1, y2, y3, y4⟩ := me
      obtain ⟨n, I2, J2, M2, W2, z1, z2, z3, z4, z5, z6, z7, z8, z9⟩ := ih (u + 1) g G (a + 1) (b + 1) I' J' M'' (v_chf W g') (by omega) (by omega) (by omega) hW p3 y2 y3
      simp only [zc_a, zc_l] at z1 z2
      refine ⟨1 + n, I2, J2, M2, W2, ?_, ?_, z3, z4, z5, z6, eX_t p7 z7, eJ_t p8 z8, z9.trans y4⟩
      · rw [xe, z1, Int.add_assoc]
      · rw [y1, z2, Int.add_assoc]
    · have ke : ¬ zI ((v_ch W u).val : Int) = zI (c : Int) := by rw [zI_eq] <;> omega
      obtain ⟨n, I2, J2, M2, W2, z1, z2, z3, z4, z5, z6, z7, z8, z9⟩ := ih (u + 1) g G a b I J M W (by omega) (by omega) (by omega) hW hS hM hG
      simp only [zc_a, zc_l] at z1 z2
      refine ⟨n, I2, J2, M2, W2, ?_, ?_, z3, z4, z5, z6, z7, z8, z9⟩
      · rw [P_X6_loseOnTrial_19, x0, if_neg k, if_pos i8, r8]
        simp only [Nat.reduceAdd, x9, zL]
        rw [if_neg ke]
        simp only [P_X6_loseOnTrial_65, qc_let, zL, zI_add]
        exact z1
      · rw [P_X7_chance_120, P_X7_users, Option.bind_some, m0, if_neg k]
        simp only [zL]
        simp only [if_pos i0, r0, m9]
        rw [if_neg ke]
        simp only [P_X7_chance_170, qc_let, zL, zI_add]
        exact z2
theorem SX_shut {I : Nat → Nat → Int32} {J : Nat → Nat → Int64} {W : sV} {c : Nat} (hc : c < 64) (h : SX I J 12 W) : SX I (qc_u2 J 12 6 (J 12 6 ||| ((1 : Int64) <<< ((zI c).toInt64 &&& 63)))) 12 (v_setsh W (fun i => v_sh W i || decide (i = c))) := by
  obtain ⟨hus, hbd, hgd, hsp, hod, hst, hlo, hhi, hch, hpw, hsl, hls, hlk, hsh⟩ := h
  refine ⟨hus, hbd, hgd, hsp, hod, hst, hlo, hhi, hch, hpw, hsl, hls, hlk, ?_⟩
  intro x hx
  rw [qG, if_pos ⟨rfl, rfl⟩, bj_or _ hc hx, hsh x hx]
  rfl
theorem MX_shut {M : Nat → Nat → Int32} {W : sV} {c : Nat} (h1 : 1 ≤ c) (hc : c ≤ 60) (h : MX M W) : MX (qc_u2 M 13 (12 + c) (zI 1)) (v_setsh W (fun i => v_sh W i || decide (i = c))) := by
  have h0 := h
  obtain ⟨hus, hbd, hgd, hsp, hod, hst, hlo, hhi, hch, hpw, hsl, hls, hlk, hsh, h6, hl1⟩ := h
  refine MX_set h0 rfl rfl rfl rfl rfl rfl ?_ ?_ ?_ ?_
  · intro x hx; rw [qG, if_neg (by omega)]; exact hch x hx
  · intro x hx; rw [qG, if_neg (by omega)]; exact hpw x hx
  · intro x hx; rw [qG, if_neg (by omega)]; exact hsl x hx
  · intro x a b
    rw [qG]
    show _ = bI (v_sh W x || decide (x = c))
    by_cases e : x = c
    · rw [if_pos ⟨rfl, by omega⟩, decide_eq_true e, Bool.or_true]; rfl
    · rw [if_neg (fun y => e (by omega)), decide_eq_false e, Bool.or_false]
      exact hsh x a b
theorem ch_loop {V : sV} (h6 : (v_us V).val ≤ 6) (hb4 : 4 ≤ (v_bd V).val) {b : Nat} (hb : b ≤ 20) {md : Int32} {I0 : Nat → Nat → Int32} {J0 : Nat → Nat → Int64} {M0 : Nat → Nat → Int32} : ∀ (d k f F : Nat) (cnt : Int) (I : Nat → Nat → Int32) (J : Nat → Nat → Int64) (M : Nat → Nat → Int32) (W : sV), k + d = b → d < f → d < F → W.1 = V.1 → SX I J 12 W → MX M W → eG M0 M → eX I0 I → eJ J0 J → ∃ y I' J' M', P_X6_chance_62 f I J (zI b) md (M 0 44) (zI cnt) (zI k) = some (y, I', J') ∧ P_X7_chance_88 F M (zI b) md (zI cnt) (zI k) = some (y, M') ∧ eX I0 I' ∧ eJ J0 J' ∧ eM M0 M' := by
  intro d
  induction d with
  | zero =>
    intro k f F cnt I J M W hk hf hF hW hS hM hG eI eJ'
    obtain ⟨g, rfl⟩ : ∃ g, f = g + 1 := ⟨f - 1, by omega⟩
    obtain ⟨G, rfl⟩ : ∃ G, F = G + 1 := ⟨F - 1, by omega⟩
    have hus : v_us W = v_us V := by unfold v_us; rw [hW]
    have kk : zI (b : Int) ≤ zI (k : Int) := by rw [zI_le] <;> omega
    obtain ⟨r, r1, r2, r3, r4⟩ := x_clean (p := 12) (by omega) hS
    obtain ⟨m, m1, m2, m3⟩ := m_clean hM
    rw [P_X6_chance_62, P_X7_chance_88, if_pos kk, if_pos kk, x_tuned hS, m_tuned hM, r1, m1]
    simp only [Option.bind_some, m_215]
    rw [set_c _ (by rw [hus]; omega)]
    simp only [Option.bind_some, zL]
    by_cases c0 : md = zI 0
    · rw [if_pos c0, if_pos c0]
      exact ⟨_, _, _, _, rfl, rfl, eI, eJ', eG_M hG⟩
    · rw [if_neg c0, if_neg c0]
      by_cases c1 : md = zI 1
      · rw [if_pos c1, if_pos c1]
        exact ⟨_, _, _, _, rfl, rfl, eI, eJ', eG_M hG⟩
      · rw [if_neg c1, if_neg c1, r2, m2]
        have eI2 : eX I0 r.2.1 := eX_t eI (eX_m (fun t ht => r3 t (by omega)))
        have eJ2 : eJ J0 r.2.2 := eJ_t eJ' (eJ_g r4)
        have hG2 := eG_M (eG_K hG (eK_P m3))
        cases cleanS W
        · exact ⟨_, _, _, _, rfl, rfl, eI2, eJ2, hG2⟩
        · exact ⟨_, _, _, _, rfl, rfl, eI2, eJ2, hG2⟩
  | succ d ih =>
    intro k f F cnt I J M W hk hf hF hW hS hM hG eI eJ'
    obtain ⟨g, rfl⟩ : ∃ g, f = g + 1 := ⟨f - 1, by omega⟩
    obtain ⟨G, rfl⟩ : ∃ G, F = G + 1 := ⟨F - 1, by omega⟩
    have hus : v_us W = v_us V := by unfold v_us; rw [hW]
    have hbd : v_bd W = v_bd V := by unfold v_bd; rw [hW]
    have hb61 := (v_bd V).isLt
    have kk : ¬ zI (b : Int) ≤ zI (k : Int) := by rw [zI_le] <;> omega
    have x1 : I 12 1 = zI ((v_bd V).val : Int) := by rw [← hbd]; exact hS.2.1
    have m1 : M 0 30 = zI ((v_bd V).val : Int) := by rw [← hbd]; exact hM.2.1
    have n0 : ¬ zI ((v_bd V).val : Int) = zI 0 := by rw [zI_eq] <;> omega
    have n1 : zI 1 < zI ((v_bd V).val : Int) := by rw [zI_lt] <;> omega
    obtain ⟨sd, hsd⟩ : ∃ sd, sd = (M 0 44 * zI 1103515245 + zI 12345) &&& zI 2147483647 := ⟨_, rfl⟩
    obtain ⟨q, q1, q2⟩ := dr_x (M 0 44 * zI 1103515245 + zI 12345)
    rw [← hsd] at q2
    have q3 := dr_m q1 (show 1 ≤ (v_bd V).val by omega) (by omega)
    have q4 : q % (v_bd V).val < (v_bd V).val := Nat.mod_lt _ (by omega)
    obtain ⟨c, hc⟩ : ∃ c, c = q % (v_bd V).val + 1 := ⟨_, rfl⟩
    have hc1 : zI ((q % (v_bd V).val : Nat) : Int) + zI 1 = zI (c : Int) := by rw [zI_add, hc]; rfl
    have i12 : qc_in (zI 12 + zI (c : Int)) 79 := by simp (disch := omega) only [zI_add, zI_sub, zI_mul, zI_neg, zL, zI_le, zI_lt, zI_eq, zI_cl, zA0, zI_if, Int.toNat_natCast, zT_add, zT_mul, Int.reduceToNat, Nat.add_zero, Nat.zero_add, Int.add_zero, Int.zero_add, zc_a, zc_l, Option.bind_some, qc_let, qc_in, qc_bo, iteT, iteF, and_self, if_true, if_false, qG]; omega
    have r12 : (zI 12 + zI (c : Int)).toNatClampNeg = 12 + c := by rw [zI_add, zI_cl (by omega) (by omega)]; omega
    have hS1 := SX_shut (c := c) (by omega) hS
    have hM1 := MX_shut (c := c) (by omega) (by omega) (MX_4 hM sd)
    have hG1 : eG M0 (qc_u2 (qc_u2 M 0 44 sd) 13 (12 + c) (zI 1)) := eG_s (eG_4 hG sd) (by omega) _
    obtain ⟨n, I', J', M', W', z1, z2, z3, z4, z5, z6, z7, z8, z9⟩ := lose_loop h6 (K := P_X7_chance_88 G) (a2 := zI b) (a3 := md) (a5 := zI (k : Nat)) (c := c) (by omega) (v_us V).val 0 qc_fu qc_fu 0 cnt I _ _ (v_setsh W (fun i => v_sh W i || decide (i = c))) (by omega) (by unfold qc_fu; omega) (by unfold qc_fu; omega) hW hS1 hM1 hG1
    have h44 : M' 0 44 = sd := by
      rw [z9, u2_ne (by omega), qG, if_pos ⟨rfl, rfl⟩]
    have eJ2 : eJ J0 J' := by
      refine eJ_t eJ' (eJ_t ?_ z8)
      intro t ht
      unfold qc_u2 qc_u
      rw [if_neg (by omega)]
    obtain ⟨y, I2, J2, M2, w1, w2, w3, w4, w5⟩ := ih (k + 1) g G (cnt + n) I' J' M' W' (by omega) (by omega) (by omega) z3 z4 z5 z6 (eX_t eI z7) eJ2
    rw [h44] at w1
    simp only [zc_a, zc_l, Int.zero_add] at w1 w2 z1 z2
    refine ⟨y, I2, J2, M2, ?_, ?_, w3, w4, w5⟩
    · rw [P_X6_chance_62]
      simp only [zL, x1]
      rw [if_neg kk]
      simp only [qc_let, if_pos n1]
      rw [if_neg n0, ← hsd, q2, q3, hc1]
      unfold P_X6_loseOnTrial
      simp only [zL, qc_let]
      rw [z1]
      simp only [Option.bind_some, zI_add]
      exact w1
    · rw [P_X7_chance_88]
      simp only [zL]
      rw [if_neg kk, m1]
      unfold P_X7_draw
      simp only [zL, qc_let]
      rw [if_neg n0, ← hsd, qG, if_pos ⟨rfl, rfl⟩, q2, q3]
      simp only [Option.bind_some]
      rw [hc1, if_pos i12, r12, z2, zI_add]
      exact w2
theorem b20 {b : Int32} (c2 : ¬ b < zI 1) (c3 : ¬ zI 20 < b) : ∃ B : Nat, b = zI B ∧ B ≤ 20 := by
  have lo := Int32.le_toInt b
  have hi := Int32.toInt_lt b
  have lo' : -2147483648 ≤ b.toInt := by omega
  have hi' : b.toInt < 2147483648 := by omega
  have e := zI_of b
  have k2 : ¬ zI b.toInt < zI 1 := by rw [← e]; exact c2
  have k3 : ¬ zI 20 < zI b.toInt := by rw [← e]; exact c3
  rw [zI_lt lo' hi' (by omega) (by omega)] at k2
  rw [zI_lt (by omega) (by omega) lo' hi'] at k3
  refine ⟨b.toInt.toNat, ?_, by omega⟩
  have e3 : ((b.toInt.toNat : Nat) : Int) = b.toInt := by omega
  rw [e3]
  exact e
theorem ch_go {V : sV} {n : Nat} {I I1 : Nat → Nat → Int32} {J J1 : Nat → Nat → Int64} {w : Nat → Nat} {M0 : Nat → Nat → Int32} (h : RelV V n I J w M0) {b : Int32} (c2 : ¬ b < zI 1) (c3 : ¬ zI 20 < b) (hS1 : SX I1 J1 12 V) (eI : eX I I1) (eJ' : eJ J J1) (c sd : Int32) : ∃ y I' J' M', P_X6_chance_62 qc_fu I1 J1 b c sd (zI 0) (zI 0) = some (y, I', J') ∧ P_X7_chance_55 qc_fu (qc_u2 M0 0 44 sd) b c (zI 0) = some (y, M') ∧ eX I I' ∧ eJ J J' ∧ eM M0 M' := by
  have h6 : (v_us V).val ≤ 6 := h.2.1.2.2.2.2.2.2.2.2.2.2.2.2.2.2.1
  have hb4 : 4 ≤ (v_bd V).val := h.2.2.1.2.2.2.2.2.1
  obtain ⟨B, rfl, hB⟩ := b20 c2 c3
  have hG : eG M0 (cpM (qc_u2 M0 0 44 sd) 24 13 0 0 79) := by
    refine ⟨?_, ?_, ?_, ?_⟩
    · intro t ht; rw [cpM_ne _ _ _ _ _ _ (by omega), u2_ne (by omega)]
    · intro j hj; rw [cpM_at, if_pos (by omega), Nat.sub_zero, Nat.zero_add, u2_ne (by omega)]
    · intro j hj; rw [cpM_ne _ _ _ _ _ _ (by omega), u2_ne (by omega)]
    · intro j a b c d; rw [cpM_ne _ _ _ _ _ _ (by omega), qG, if_neg (by omega)]
  have hM2 : MX (cpM (qc_u2 M0 0 44 sd) 24 13 0 0 79) V := by
    have := MX_4 h.2.1 sd
    unfold MX at *
    rw [cpM_ne (t := 2) _ _ _ _ _ _ (by omega), cpM_ne (t := 0) _ _ _ _ _ _ (by omega), cpM_ne (t := 5) _ _ _ _ _ _ (by omega), cpM_ne (t := 7) _ _ _ _ _ _ (by omega), cpM_ne (t := 8) _ _ _ _ _ _ (by omega), cpM_ne (t := 11) _ _ _ _ _ _ (by omega), cpM_ne (t := 13) _ _ _ _ _ _ (by omega)]
    exact this
  have h44 : cpM (qc_u2 M0 0 44 sd) 24 13 0 0 79 0 44 = sd := by
    rw [cpM_ne _ _ _ _ _ _ (by omega), qG, if_pos ⟨rfl, rfl⟩]
  obtain ⟨y, I', J', M', w1, w2, w3, w4, w5⟩ := ch_loop h6 hb4 hB (md := c) B 0 qc_fu qc_fu 0 I1 J1 _ V (by omega) (by unfold qc_fu; omega) (by unfold qc_fu; omega) rfl hS1 hM2 hG eI eJ'
  rw [h44] at w1
  simp only [zc_l] at w1 w2
  exact ⟨y, I', J', M', w1, by rw [m_55]; exact w2, w3, w4, w5⟩
/-- no step of the kernel: what follows would be run -/
theorem qc_lE {α β : Type} (a : α) (f : α → Option β) : qc_let a f = f a := Eq.trans rfl rfl
theorem st_42 : St_42 Rel := by
  intro I J w M a b c ⟨V, n, h0⟩
  have h := RelV_0 h0 (zI 0)
  have h6 : (v_us V).val ≤ 6 := h.2.1.2.2.2.2.2.2.2.2.2.2.2.2.2.2.1
  have hb4 : 4 ≤ (v_bd V).val := h.2.2.1.2.2.2.2.2.1
  unfold P_X6_chance P_X7_chance
  simp only [zI_add, zI_sub, zI_mul, zI_neg, zL, qc_lE]
  by_cases c1 : a < zI (-1)
  · rw [if_pos c1, if_pos c1]
    exact ⟨_, _, rfl, rfl, rfl, V, n, h⟩
  rw [if_neg c1, if_neg c1]
  by_cases c2 : b < zI 1
  · rw [if_pos c2, if_pos c2]
    exact ⟨_, _, rfl, rfl, rfl, V, n, h⟩
  rw [if_neg c2, if_neg c2]
  by_cases c3 : zI 20 < b
  · rw [if_pos c3, if_pos c3]
    exact ⟨_, _, rfl, rfl, rfl, V, n, h⟩
  rw [if_neg c3, if_neg c3]
  by_cases c4 : c < zI 0
  · rw [if_pos c4, if_pos c4]
    exact ⟨_, _, rfl, rfl, rfl, V, n, h⟩
  rw [if_neg c4, if_neg c4]
  by_cases c5 : c ≤ zI 2
  · rw [if_pos c5, if_pos c5]
    obtain ⟨r, r1, r2, r3, r4, r5⟩ := x_copy h.1
    have hN := h.2.2.2.2.2.2.2
    have e25 : r.1 2 5 = qc_u2 M 0 0 (zI 0) 2 9 := by
      rw [r4 2 (by omega)]
      exact hN.2.1
    rw [r1]
    simp only [Option.bind_some]
    rw [e25]
    have go := fun sd => ch_go h c2 c3 r2 (eX_c r2 r4) (eJ_c r5) c sd
    by_cases c6 : a = zI (-1)
    · rw [if_pos c6]
      simp only [Option.bind_some]
      obtain ⟨y, I', J', M', p1, p2, p3, p4, p5⟩ := go (qc_u2 M 0 0 (zI 0) 2 9)
      exact ⟨_, _, p1, p2, rfl, V, n, RelV_e p3 p4 p5 h⟩
    · rw [if_neg c6]
      simp only [Option.bind_some]
      obtain ⟨y, I', J', M', p1, p2, p3, p4, p5⟩ := go a
      exact ⟨_, _, p1, p2, rfl, V, n, RelV_e p3 p4 p5 h⟩
  · rw [if_neg c5, if_neg c5]
    exact ⟨_, _, rfl, rfl, rfl, V, n, h⟩
