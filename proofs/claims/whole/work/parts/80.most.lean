/-! mostPower, mostGuard, mostSpace -/
theorem eM_back2 {M0 M : Nat → Nat → Int32} {i : Nat} {x : Int32} (he : eM (qc_u2 M0 13 i x) M) : eM M0 (qc_u2 M 13 i (M0 13 i)) := by
  refine ⟨?_, ?_⟩
  · intro t ht
    by_cases e : t = 13
    · subst e
      have : M 13 = qc_u2 M0 13 i x 13 := he.1 13 (by omega)
      funext k
      rw [qG, this, qG]
      by_cases ek : k = i
      · rw [if_pos ⟨rfl, ek⟩, ek]
      · rw [if_neg (fun y => ek y.2), if_neg (fun y => ek y.2)]
    · rw [u2_ne e, he.1 t ht, u2_ne e]
  · intro j h1 h2 h3 h4
    rw [qG, if_neg (by omega), he.2 j h1 h2 h3 h4, qG, if_neg (by omega)]
theorem eM_next {M0 M : Nat → Nat → Int32} {i : Nat} {x y : Int32} (he : eM (qc_u2 M0 13 i x) M) : eM (qc_u2 M0 13 i y) (qc_u2 M 13 i y) := by
  refine ⟨?_, ?_⟩
  · intro t ht
    by_cases e : t = 13
    · subst e
      have : M 13 = qc_u2 M0 13 i x 13 := he.1 13 (by omega)
      funext k
      rw [qG, this, qG, qG]
      by_cases ek : k = i
      · rw [if_pos ⟨rfl, ek⟩, if_pos ⟨rfl, ek⟩]
      · rw [if_neg (fun y => ek y.2), if_neg (fun y => ek y.2), if_neg (fun y => ek y.2)]
    · rw [u2_ne e, he.1 t ht, u2_ne e, u2_ne e]
  · intro j h1 h2 h3 h4
    rw [qG, if_neg (by omega), he.2 j h1 h2 h3 h4, qG, if_neg (by omega), qG, if_neg (by omega)]
def f31 (c : Nat) : Fin 31 := ⟨c % 31, Nat.mod_lt _ (by decide)⟩
theorem f31_v {c : Nat} (h : c ≤ 30) : (f31 c).val = c := Nat.mod_eq_of_lt (by omega)
theorem v_pw2 (V : sV) (u : Nat) (c d : Fin 31) : v_setpw (v_setpw V u c) u d = v_setpw V u d := by
  have : qc_u (v_pw (v_setpw V u c)) u d = qc_u (v_pw V) u d := by
    funext k
    show (if k = u then d else (if k = u then c else v_pw V k)) = if k = u then d else v_pw V k
    split <;> rfl
  show (V.1, (v_st V, v_lo V, v_hi V, v_ch V, qc_u (v_pw (v_setpw V u c)) u d, v_sl V), v_ls V, v_lk V, v_sh V) = _
  rw [this]
  rfl
theorem v_pwI (V : sV) (u : Nat) : v_setpw V u (v_pw V u) = V := by
  have : qc_u (v_pw V) u (v_pw V u) = v_pw V := by
    funext k
    unfold qc_u
    split
    · rename_i h; rw [h]
    · rfl
  unfold v_setpw
  rw [this]
  rfl
theorem MX_pw {M : Nat → Nat → Int32} {V : sV} (h : MX M V) {u : Nat} (hu : u < (v_us V).val) (c : Fin 31) : MX (qc_u2 M 13 (6 + u) (zI c.val)) (v_setpw V u c) := by
  have h0 := h
  obtain ⟨hus, hbd, hgd, hsp, hod, hst, hlo, hhi, hch, hpw, hsl, hls, hlk, hsh, h6, hl1⟩ := h
  refine MX_set h0 rfl rfl rfl rfl rfl rfl ?_ ?_ ?_ ?_
  · intro x hx; rw [qG, if_neg (by omega)]; exact hch x hx
  · intro x hx
    rw [qG]
    show _ = zI ((qc_u (v_pw V) u c x).val : Int)
    unfold qc_u
    by_cases e : x = u
    · rw [if_pos ⟨rfl, by omega⟩, if_pos e]
    · rw [if_neg (fun y => e (by omega)), if_neg e]; exact hpw x hx
  · intro x hx; rw [qG, if_neg (by omega)]; exact hsl x hx
  · intro x h1 h2; rw [qG, if_neg (by omega)]; exact hsh x h1 h2
theorem m_hasHits {M : Nat → Nat → Int32} {V : sV} (h : MX M V) : ∃ M', P_X7_hasHits M = some (bI (!decide (strN V (prods V) = 0)), M') ∧ eP M M' := by
  have h6 : (v_us V).val ≤ 6 := h.2.2.2.2.2.2.2.2.2.2.2.2.2.2.1
  have hcap := (cap_b V).2 h6
  have hlen := (prods_len V).2 h6
  obtain ⟨M', m1, m2, m3⟩ := m_lays_prods h (by omega)
  have hb := strN_b V (prods V)
  refine ⟨M', ?_, m2⟩
  unfold P_X7_hasHits
  simp only [zI_add, zI_sub, zI_mul, zI_neg, zL]
  rw [m1, Option.bind_some, m_allHits (MX_e (eP_M m2) h) m3 (by omega), Option.bind_some]
  by_cases c : strN V (prods V) = 0
  · rw [if_pos (by rw [zI_le] <;> omega), decide_eq_true c]; rfl
  · rw [if_neg (by rw [zI_le] <;> omega), decide_eq_false c]; rfl
theorem x_any {I : Nat → Nat → Int32} {J : Nat → Nat → Int64} {V : sV} (h : SX I J 12 V) : ∃ I' J', P_X2_anyStrike I J 12 = some (bI (!decide (strN V (prods V) = 0)), I', J') ∧ SX I' J' 12 V ∧ eX I I' ∧ eJ J J' := by
  obtain ⟨r, r1, r2, r3, r4⟩ := x_anyStrike (p := 12) (by omega) h
  refine ⟨r.2.1, r.2.2, ?_, SX_e (fun t _ _ => r3 t (by omega)) (r4 12 (by omega)) h, eX_g r3, eJ_g r4⟩
  rw [r1, ← r2]
theorem power_loop {V : sV} {u : Nat} (hu : u < (v_us V).val) {M0 : Nat → Nat → Int32} (h0 : MX M0 V) : ∀ (k f : Nat) (I : Nat → Nat → Int32) (J : Nat → Nat → Int64) (M : Nat → Nat → Int32) (x : Fin 31), k ≤ 31 → k < f → SX I J 12 (v_setpw V u x) → eM (qc_u2 M0 13 (6 + u) (zI ((k : Int) - 1))) M → ∃ y I' J' M', P_X6_mostPower_27 f I J (zI u) (zI ((k : Int) - 1)) = some (y, I', J') ∧ P_X7_mostPower_38 f M (zI u) (M0 13 (6 + u)) (zI ((k : Int) - 1)) = some (y, M') ∧ eX I I' ∧ eJ J J' ∧ eM M0 M' := by
  have h6 : (v_us V).val ≤ 6 := h0.2.2.2.2.2.2.2.2.2.2.2.2.2.2.1
  have i6 : qc_in (zI 6 + zI (u : Int)) 79 := by simp (disch := omega) only [zI_add, zI_sub, zI_mul, zI_neg, zL, zI_le, zI_lt, zI_eq, zI_cl, zA0, zI_if, Int.toNat_natCast, zT_add, zT_mul, Int.reduceToNat, Nat.add_zero, Nat.zero_add, Int.add_zero, Int.zero_add, zc_a, zc_l, Option.bind_some, qc_let, qc_in, qc_bo, iteT, iteF, and_self, if_true, if_false, qG]; omega
  have r6 : (zI 6 + zI (u : Int)).toNatClampNeg = 6 + u := by rw [zI_add, zI_cl (by omega) (by omega)]; omega
  intro k
  induction k with
  | zero =>
    intro f I J M x hk hf hS he
    obtain ⟨g, rfl⟩ : ∃ g, f = g + 1 := ⟨f - 1, by omega⟩
    have c : zI (((0 : Nat) : Int) - 1) < zI 0 := by decide
    have c2 : ¬ zI 0 ≤ zI (((0 : Nat) : Int) - 1) := by decide
    refine ⟨zI (-2), I, J, qc_u2 M 13 (6 + u) (M0 13 (6 + u)), ?_, ?_, eX_r I, eJ_r J, eM_back2 he⟩
    · rw [P_X6_mostPower_27]
      simp only [zI_add, zI_sub, zI_mul, zI_neg, zL]
      rw [if_pos (by decide)]
    · rw [P_X7_mostPower_38]
      simp only [zL]
      rw [if_pos c]
      unfold P_X7_mostPower_65
      simp only [zL]
      rw [if_pos i6, r6, if_neg c2]
      rfl
  | succ k ih =>
    intro f I J M x hk hf hS he
    obtain ⟨g, rfl⟩ : ∃ g, f = g + 1 := ⟨f - 1, by omega⟩
    have ek : ((k + 1 : Nat) : Int) - 1 = (k : Int) := by omega
    rw [ek] at he ⊢
    have c : ¬ zI (k : Int) < zI 0 := by rw [zI_lt] <;> omega
    have c2 : zI 0 ≤ zI (k : Int) := by rw [zI_le] <;> omega
    have i8 : qc_in (zI (u : Int)) 8 := by simp (disch := omega) only [zI_add, zI_sub, zI_mul, zI_neg, zL, zI_le, zI_lt, zI_eq, zI_cl, zA0, zI_if, Int.toNat_natCast, zT_add, zT_mul, Int.reduceToNat, Nat.add_zero, Nat.zero_add, Int.add_zero, Int.zero_add, zc_a, zc_l, Option.bind_some, qc_let, qc_in, qc_bo, iteT, iteF, and_self, if_true, if_false, qG]; omega
    have r8 : (zI (u : Int)).toNatClampNeg = u := by rw [zI_cl (by omega) (by omega)]; omega
    have hS1 := SX_setpw hS u (f31 k)
    rw [v_pw2, f31_v (by omega)] at hS1
    have hM1 := MX_pw h0 hu (f31 k)
    rw [f31_v (by omega)] at hM1
    have hM2 := MX_e he hM1
    obtain ⟨I1, J1, x1, x2, x3, x4⟩ := x_any hS1
    obtain ⟨M1, m1, m2⟩ := m_hasHits hM2
    have x1' : P_X2_anyStrike (qc_u2 I 20 u (zI (k : Int))) J 12 = some (bI (!decide (strN (v_setpw V u (f31 k)) (prods (v_setpw V u (f31 k))) = 0)), I1, J1) := x1
    have eI : eX I I1 := eX_t (eX_m (fun t ht => u2_ne (by omega))) x3
    have e0 : eM (qc_u2 M0 13 (6 + u) (zI (k : Int))) M1 := eM_t he (eP_M m2)
    rw [P_X6_mostPower_27, P_X7_mostPower_38]
    simp only [zL]
    rw [if_neg c, if_neg c, if_pos i8, r8]
    simp only [qc_let]
    rw [x1', m1]
    simp only [Option.bind_some, bI_0]
    by_cases cs : strN (v_setpw V u (f31 k)) (prods (v_setpw V u (f31 k))) = 0
    · rw [decide_eq_true cs]
      refine ⟨zI (k : Int), I1, J1, qc_u2 M1 13 (6 + u) (M0 13 (6 + u)), rfl, ?_, eI, x4, eM_back2 e0⟩
      unfold P_X7_mostPower_65
      simp only [zL]
      rw [if_pos (by decide), if_pos i6, r6, if_pos c2]
      rfl
    · rw [decide_eq_false cs, if_neg (by decide), if_neg (by decide), if_pos i6, r6]
      have e1 : zI (k : Int) + -zI 1 = zI ((k : Int) - 1) := by
        rw [zI_neg, zI_add]
        congr 1
      rw [e1]
      obtain ⟨y, I2, J2, M2, f1, f2, f3, f4, f5⟩ := ih g I1 J1 (qc_u2 M1 13 (6 + u) (zI ((k : Int) - 1))) (f31 k) (by omega) (by omega) x2 (eM_next e0)
      exact ⟨y, I2, J2, M2, f1, f2, eX_t eI f3, eJ_t x4 f4, f5⟩
theorem st_40 : St_40 Rel := by
  intro I J w M a ⟨V, n, h0⟩
  have h := RelV_0 h0 (zI 0)
  have h6 : (v_us V).val ≤ 6 := h.2.1.2.2.2.2.2.2.2.2.2.2.2.2.2.2.1
  unfold P_X6_mostPower P_X7_mostPower
  simp only [zL, qc_let]
  rcases user_cases h.1 h.2.1 a with ⟨e1, e2⟩ | ⟨u, hu, rfl, e1, e2⟩
  · rw [e1, e2]
    exact ⟨_, _, rfl, rfl, rfl, V, n, h⟩
  · rw [e1, e2]
    have i6 : qc_in (zI 6 + zI (u : Int)) 79 := by simp (disch := omega) only [zI_add, zI_sub, zI_mul, zI_neg, zL, zI_le, zI_lt, zI_eq, zI_cl, zA0, zI_if, Int.toNat_natCast, zT_add, zT_mul, Int.reduceToNat, Nat.add_zero, Nat.zero_add, Int.add_zero, Int.zero_add, zc_a, zc_l, Option.bind_some, qc_let, qc_in, qc_bo, iteT, iteF, and_self, if_true, if_false, qG]; omega
    have r6 : (zI 6 + zI (u : Int)).toNatClampNeg = 6 + u := by rw [zI_add, zI_cl (by omega) (by omega)]; omega
    obtain ⟨r, r1, r2, r3, r4, r5⟩ := x_copy h.1
    have hS : SX r.1 r.2 12 (v_setpw V u (v_pw V u)) := by rw [v_pwI]; exact r2
    obtain ⟨y, I2, J2, M2, f1, f2, f3, f4, f5⟩ := power_loop hu h.2.1 31 qc_fu r.1 r.2 (qc_u2 (qc_u2 M 0 0 (zI 0)) 13 (6 + u) (zI 30)) (v_pw V u) (by omega) (by unfold qc_fu; omega) hS (eM_r _)
    have ez : ¬ zI 1 = zI 0 := by decide
    rw [r1]
    simp only [Option.bind_some, if_neg ez, if_pos i6, r6]
    exact ⟨_, _, f1, f2, rfl, V, n, RelV_e (eX_t (eX_c r2 r4) f3) (eJ_t (eJ_c r5) f4) f5 h⟩
/-! what is told, laid back -/
theorem eM_told {M0 M : Nat → Nat → Int32} {V : sV} (h : MX M0 V) (hT : TM M0 V) (he : ∀ t, (t = 1 ∨ t = 2 ∨ t = 4 ∨ t = 5 ∨ t = 7 ∨ t = 8 ∨ t = 11 ∨ t = 13 ∨ t = 14) → M t = M0 t) (he2 : ∀ j, j ≠ 0 → j ≠ 41 → j ≠ 42 → j ≠ 44 → j ≠ 30 → j ≠ 31 → j ≠ 32 → j ≠ 33 → M 0 j = M0 0 j) : eM M0 (toldM M) := by
  refine ⟨?_, ?_⟩
  · intro t ht
    unfold toldM
    rw [u2_ne (by omega), u2_ne (by omega), u2_ne (by omega), u2_ne (by omega)]
    exact he t ht
  · intro j h1 h2 h3 h4
    unfold toldM
    rw [qG]
    by_cases c33 : j = 33
    · rw [if_pos ⟨rfl, c33⟩, c33, he 2 (by omega)]
      exact hT.2.2.2.1.trans h.2.2.2.2.1.symm
    · rw [if_neg (by omega), qG]
      by_cases c32 : j = 32
      · rw [if_pos ⟨rfl, c32⟩, c32, he 2 (by omega)]
        exact hT.2.2.1.trans h.2.2.2.1.symm
      · rw [if_neg (by omega), qG]
        by_cases c31 : j = 31
        · rw [if_pos ⟨rfl, c31⟩, c31, he 2 (by omega)]
          exact hT.2.1.trans h.2.2.1.symm
        · rw [if_neg (by omega), qG]
          by_cases c30 : j = 30
          · rw [if_pos ⟨rfl, c30⟩, c30, he 2 (by omega)]
            exact hT.1.trans h.2.1.symm
          · rw [if_neg (by omega)]
            exact he2 j h1 h2 h3 h4 c30 c31 c32 c33
