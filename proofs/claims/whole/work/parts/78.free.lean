/-! free, freeAt -/
theorem both_fits {V : sV} {I : Nat → Nat → Int32} {J : Nat → Nat → Int64} {M : Nat → Nat → Int32} {x : Fin 61} {u c : Nat} (hS : SX I J 12 (v_setch V u x)) (hM : MX M V) (hu : u < (v_us V).val) (hc : c ≤ 60) : ∃ I' J' M', P_X6_fitsOnTrial I J (zI u) (zI c) = some (bI (cleanS (v_setch V u (f61 c))), I', J') ∧ P_X7_fitsAt M (zI u) (zI c) = some (bI (cleanS (v_setch V u (f61 c))), M') ∧ SX I' J' 12 (v_setch V u (f61 c)) ∧ eX I I' ∧ eJ J J' ∧ eM M M' := by
  obtain ⟨r, r1, r2, r3, r4, r5⟩ := x_fits hS (u := u) (c := c) (by omega) hc
  obtain ⟨t, t1, t2, t3⟩ := m_fits hM (u := u) (c := c) hu hc
  rw [v_set2] at r2 r3
  exact ⟨r.2.1, r.2.2, t.2, by rw [r1, ← r2], by rw [t1, ← t2], r3, r4, r5, t3⟩
theorem free_loop {V : sV} {u : Nat} (hu : u < (v_us V).val) : ∀ (d c f : Nat) (acc : Int32) (I : Nat → Nat → Int32) (J : Nat → Nat → Int64) (M : Nat → Nat → Int32) (x : Fin 61), c + d = (v_bd V).val + 1 → d < f → SX I J 12 (v_setch V u x) → I 2 1 = zI (v_bd V).val → MX M V → ∃ y I' J' M', P_X6_free_28 f I J (zI u) acc (zI c) = some (y, I', J') ∧ P_X7_free_19 f M (zI u) acc (zI c) = some (y, M') ∧ eX I I' ∧ eJ J J' ∧ eM M M' := by
  intro d
  induction d with
  | zero =>
    intro c f acc I J M x hc hf hS hb hM
    obtain ⟨g, rfl⟩ : ∃ g, f = g + 1 := ⟨f - 1, by omega⟩
    have k : zI ((v_bd V).val : Int) < zI (c : Int) := by rw [zI_lt] <;> omega
    rw [P_X6_free_28, P_X7_free_19, hb, hM.2.1, if_pos k, if_pos k]
    exact ⟨_, _, _, _, rfl, rfl, eX_r I, eJ_r J, eM_r M⟩
  | succ d ih =>
    intro c f acc I J M x hc hf hS hb hM
    obtain ⟨g, rfl⟩ : ∃ g, f = g + 1 := ⟨f - 1, by omega⟩
    have k : ¬ zI ((v_bd V).val : Int) < zI (c : Int) := by rw [zI_lt] <;> omega
    obtain ⟨I', J', M', e1, e2, e3, e4, e5, e6⟩ := both_fits hS hM hu (show c ≤ 60 by omega)
    rw [P_X6_free_28, P_X7_free_19, hb, hM.2.1, if_neg k, if_neg k, e1, e2]
    simp only [Option.bind_some, P_X6_free_51, qc_let, zI_add, zI_sub, zI_mul, zI_neg, zL, bI_0]
    obtain ⟨y, I2, J2, M2, f1, f2, f3, f4, f5⟩ := ih (c + 1) g (acc + bI (cleanS (v_setch V u (f61 c)))) I' J' M' (f61 c) (by omega) (by omega) e3 (by rw [e4.1 2 (by omega)]; exact hb) (MX_e e6 hM)
    simp only [zc_a, zc_l] at f1 f2
    refine ⟨y, I2, J2, M2, ?_, ?_, eX_t e4 f3, eJ_t e5 f4, eM_t e6 f5⟩
    · rw [← f1]
      cases cleanS (v_setch V u (f61 c))
      · rw [if_pos rfl, show acc + bI false = acc from Int32.add_zero acc]
      · rw [if_neg (show ¬ true = false by decide)]
        rfl
    · rw [← f2]
      cases cleanS (v_setch V u (f61 c))
      · rfl
      · rfl
theorem st_19 : St_19 Rel := by
  intro I J w M a ⟨V, n, h0⟩
  have h := RelV_0 h0 (zI 0)
  unfold P_X6_free P_X7_free
  simp only [zI_add, zI_sub, zI_mul, zI_neg, zL, qc_let]
  rcases user_cases h.1 h.2.1 a with ⟨e1, e2⟩ | ⟨u, hu, rfl, e1, e2⟩
  · rw [e1, e2]
    exact ⟨_, _, rfl, rfl, rfl, V, n, h⟩
  · rw [e1, e2]
    obtain ⟨r, r1, r2, r3, r4, r5⟩ := x_copy h.1
    have hS : SX r.1 r.2 12 (v_setch V u (v_ch V u)) := by rw [v_setI]; exact r2
    obtain ⟨y, I2, J2, M2, f1, f2, f3, f4, f5⟩ := free_loop hu (v_bd V).val 1 qc_fu (zI 0) r.1 r.2 _ (v_ch V u) (by omega) (by unfold qc_fu; omega) hS (by rw [r4 2 (by omega)]; exact h.1.2.1) h.2.1
    rw [r1]
    simp (disch := omega) only [Option.bind_some, zI_eq, iteF]
    exact ⟨_, _, f1, f2, rfl, V, n, RelV_e (eX_t (eX_c r2 r4) f3) (eJ_t (eJ_c r5) f4) f5 h⟩
theorem freeAt_loop {V : sV} {u : Nat} (hu : u < (v_us V).val) {z : Int} (z1 : 0 ≤ z) (z2 : z < 2147483648) : ∀ (d c f a : Nat) (t : Int) (I : Nat → Nat → Int32) (J : Nat → Nat → Int64) (M : Nat → Nat → Int32) (x : Fin 61), c + d = (v_bd V).val + 1 → d < f → t = z - (a : Int) → 0 ≤ t → a ≤ c → SX I J 12 (v_setch V u x) → I 2 1 = zI (v_bd V).val → MX M V → ∃ y I' J' M', P_X6_freeAt_33 f I J (zI u) (zI z) (zI (a : Nat)) (zI c) = some (y, I', J') ∧ P_X7_freeAt_24 f M (zI u) (zI t) (zI c) = some (y, M') ∧ eX I I' ∧ eJ J J' ∧ eM M M' := by
  intro d
  induction d with
  | zero =>
    intro c f a t I J M x hc hf ht ht0 hac hS hb hM
    obtain ⟨g, rfl⟩ : ∃ g, f = g + 1 := ⟨f - 1, by omega⟩
    have k : zI ((v_bd V).val : Int) < zI (c : Int) := by rw [zI_lt] <;> omega
    rw [P_X6_freeAt_33, P_X7_freeAt_24, hb, hM.2.1, if_pos k, if_pos k]
    exact ⟨_, _, _, _, rfl, rfl, eX_r I, eJ_r J, eM_r M⟩
  | succ d ih =>
    intro c f a t I J M x hc hf ht ht0 hac hS hb hM
    obtain ⟨g, rfl⟩ : ∃ g, f = g + 1 := ⟨f - 1, by omega⟩
    have k : ¬ zI ((v_bd V).val : Int) < zI (c : Int) := by rw [zI_lt] <;> omega
    obtain ⟨I', J', M', e1, e2, e3, e4, e5, e6⟩ := both_fits hS hM hu (show c ≤ 60 by omega)
    rw [P_X6_freeAt_33, P_X7_freeAt_24, hb, hM.2.1, if_neg k, if_neg k, e1, e2]
    simp only [Option.bind_some, P_X6_freeAt_66, P_X7_freeAt_56, qc_let, zI_add, zI_sub, zI_mul, zI_neg, zL, bI_0]
    cases cleanS (v_setch V u (f61 c))
    · rw [if_pos (show false = false from rfl), if_pos (show false = false from rfl)]
      obtain ⟨y, I2, J2, M2, f1, f2, f3, f4, f5⟩ := ih (c + 1) g a t I' J' M' (f61 c) (by omega) (by omega) ht ht0 (by omega) e3 (by rw [e4.1 2 (by omega)]; exact hb) (MX_e e6 hM)
      simp only [zc_a, zc_l] at f1 f2
      exact ⟨y, I2, J2, M2, f1, f2, eX_t e4 f3, eJ_t e5 f4, eM_t e6 f5⟩
    · rw [if_neg (show ¬ true = false by decide), if_neg (show ¬ true = false by decide)]
      by_cases c1 : (a : Int) = z
      · have d1 : zI (a : Int) = zI z := by rw [c1]
        have d2 : zI t = zI 0 := by rw [show t = 0 by omega]
        rw [if_pos d1, if_pos d2]
        exact ⟨_, _, _, _, rfl, rfl, e4, e5, e6⟩
      · have d1 : ¬ zI (a : Int) = zI z := by rw [zI_eq] <;> omega
        have d2 : ¬ zI t = zI 0 := by rw [zI_eq] <;> omega
        rw [if_neg d1, if_neg d2]
        obtain ⟨y, I2, J2, M2, f1, f2, f3, f4, f5⟩ := ih (c + 1) g (a + 1) (t + -1) I' J' M' (f61 c) (by omega) (by omega) (by omega) (by omega) (by omega) e3 (by rw [e4.1 2 (by omega)]; exact hb) (MX_e e6 hM)
        simp only [zc_a, zc_l] at f1 f2
        exact ⟨y, I2, J2, M2, f1, f2, eX_t e4 f3, eJ_t e5 f4, eM_t e6 f5⟩
theorem st_20 : St_20 Rel := by
  intro I J w M a b ⟨V, n, h0⟩
  have h := RelV_0 h0 (zI 0)
  unfold P_X6_freeAt P_X7_freeAt
  simp only [zI_add, zI_sub, zI_mul, zI_neg, zL, qc_let]
  rcases user_cases h.1 h.2.1 a with ⟨e1, e2⟩ | ⟨u, hu, rfl, e1, e2⟩
  · rw [e1, e2]
    exact ⟨_, _, rfl, rfl, rfl, V, n, h⟩
  · rw [e1, e2]
    obtain ⟨z, rfl, z1, z2⟩ := zAll b
    simp (disch := omega) only [Option.bind_some, zI_eq, iteF]
    by_cases c : 0 ≤ z
    · have d1 : zI 0 ≤ zI z := by rw [zI_le] <;> omega
      obtain ⟨r, r1, r2, r3, r4, r5⟩ := x_copy h.1
      have hS : SX r.1 r.2 12 (v_setch V u (v_ch V u)) := by rw [v_setI]; exact r2
      obtain ⟨y, I2, J2, M2, f1, f2, f3, f4, f5⟩ := freeAt_loop hu c z2 (v_bd V).val 1 qc_fu 0 z r.1 r.2 _ (v_ch V u) (by omega) (by unfold qc_fu; omega) (by omega) c (by omega) hS (by rw [r4 2 (by omega)]; exact h.1.2.1) h.2.1
      rw [if_pos d1, if_pos d1, r1]
      simp only [Option.bind_some]
      exact ⟨_, _, f1, f2, rfl, V, n, RelV_e (eX_t (eX_c r2 r4) f3) (eJ_t (eJ_c r5) f4) f5 h⟩
    · have d1 : ¬ zI 0 ≤ zI z := by rw [zI_le] <;> omega
      rw [if_neg d1, if_neg d1]
      exact ⟨_, _, rfl, rfl, rfl, V, n, h⟩
/-! how much noise there is -/
def noiS (V : sV) : Nat := strN V (prods V) + couples V
theorem noiS_b (V : sV) : noiS V ≤ 6000 := by
  have := strN_b V (prods V)
  have := (prods_len V).1
  have := couples_b V
  unfold noiS
  omega
theorem x_noise {I : Nat → Nat → Int32} {J : Nat → Nat → Int64} {p : Nat} {V : sV} (hp : p ≤ 12) (h : SX I J p V) : wp (P_X6_trouble I J p) (fun r => r.1 = zI (noiS V : Nat) ∧ (∀ t, t < 22 ∨ 32 < t → r.2.1 t = I t) ∧ gJ J r.2.2) := by
  unfold P_X6_trouble
  refine wp_bind (x_fill hp h) ?_
  intro r ⟨r1, r2, r3⟩
  have hS : SX r.1 r.2 p V := SX_e (fun t _ _ => r1 t (by omega)) (r2 p (by omega)) h
  rw [x_couples hS, Option.bind_some, r3.2.1, zI_add]
  refine wp_some ⟨?_, r1, r2⟩
  unfold noiS
  show zI _ = zI _
  congr 1
theorem m_noise0 {M : Nat → Nat → Int32} {V : sV} (h : MX M V) : ∃ M' x y, P_X7_laysProducts M = some M' ∧ P_X7_allHits M' = some x ∧ P_X7_allCrowds M' = some y ∧ x + y = zI (noiS V : Nat) ∧ eP M M' := by
  have h6 : (v_us V).val ≤ 6 := h.2.2.2.2.2.2.2.2.2.2.2.2.2.2.1
  have hcap := (cap_b V).2 h6
  obtain ⟨M', m1, m2, m3⟩ := m_lays_prods h (by omega)
  have hM' := MX_e (eP_M m2) h
  refine ⟨M', _, _, m1, m_allHits hM' m3 (by have := (prods_len V).2 h6; omega), m_allCrowds hM', ?_, m2⟩
  rw [zI_add]
  unfold noiS
  congr 1
theorem m_noise {M : Nat → Nat → Int32} {V : sV} (h : MX M V) {u c : Nat} (hu : u < (v_us V).val) (hc : c ≤ 60) : wp (P_X7_noiseAt M (zI u) (zI c)) (fun r => r.1 = zI (noiS (v_setch V u (f61 c)) : Nat) ∧ eM M r.2) := by
  have hM := MX_ch h hu (f61 c)
  rw [f61_v hc] at hM
  have h6 : (v_us V).val ≤ 6 := h.2.2.2.2.2.2.2.2.2.2.2.2.2.2.1
  obtain ⟨M', x, y, e1, e2, e3, e4, e5⟩ := m_noise0 hM
  unfold P_X7_noiseAt
  simp (disch := omega) only [zI_add, zI_sub, zI_mul, zI_neg, zL, zI_cl, Int.toNat_natCast, Int.zero_add, qc_in, zI_lt, iteT, qc_let]
  rw [e1, Option.bind_some, e2, Option.bind_some, e3, Option.bind_some]
  exact wp_some ⟨e4, eM_back e5⟩
theorem ifT_go {V : sV} {n : Nat} {I : Nat → Nat → Int32} {J : Nat → Nat → Int64} {w : Nat → Nat} {M : Nat → Nat → Int32} (h : RelV V n I J w M) {u c : Nat} (hu : u < (v_us V).val) (hc : c ≤ 60) : ∃ q r, P_X6_ifTuned_28 I J (zI u) (zI c) = some q ∧ ((P_X7_noiseAt M (zI u) (zI c)).bind fun q5 => some (q5.1, q5.2)) = some r ∧ q.1 = r.1 ∧ Rel q.2.1 q.2.2 w r.2 := by
  obtain ⟨r, r1, r2, r3, r4, r5⟩ := x_copy h.1
  have hS := SX_setch r2 u (f61 c)
  rw [f61_v hc] at hS
  obtain ⟨s, s1, s2, s3, s4⟩ := x_noise (p := 12) (by omega) hS
  obtain ⟨t, t1, t2, t3⟩ := m_noise h.2.1 hu hc
  have s1' : P_X6_trouble (qc_u2 r.1 19 u (zI c)) r.2 12 = some s := s1
  unfold P_X6_ifTuned_28
  rw [r1, t1]
  simp (disch := omega) only [zI_add, zI_sub, zI_mul, zI_neg, zL, zI_cl, Int.toNat_natCast, qc_in, zI_lt, iteT, qc_let, Option.bind_some]
  rw [s1']
  refine ⟨_, _, rfl, rfl, ?_, V, n, ?_⟩
  · show s.1 = t.1
    rw [s2, t2]
  · refine RelV_e ?_ (eJ_t (eJ_c r5) (eJ_g s4)) t3 h
    refine eX_t (eX_c r2 r4) (eX_m ?_)
    intro k hk
    show s.2.1 k = r.1 k
    rw [s3 k (by omega), u2_ne (by omega)]
theorem st_27 : St_27 Rel := by
  intro I J w M a b ⟨V, n, h0⟩
  have h := RelV_0 h0 (zI 0)
  unfold P_X6_ifTuned P_X7_ifTuned
  simp only [zI_add, zI_sub, zI_mul, zI_neg, zL, qc_let]
  rcases user_cases h.1 h.2.1 a with ⟨e1, e2⟩ | ⟨u, hu, rfl, e1, e2⟩
  · rw [e1, e2]
    exact ⟨_, _, rfl, rfl, rfl, V, n, h⟩
  · rw [e1, e2]
    simp (disch := omega) only [Option.bind_some, zI_eq, iteF]
    by_cases eb : b = zI 0
    · subst eb
      rw [if_pos rfl, if_pos rfl]
      exact ifT_go h (c := 0) hu (by omega)
    · rw [if_neg eb, if_neg eb]
      rcases chan_cases h.1 h.2.2.1 b with ⟨e3, e4⟩ | ⟨c, hc1, hc2, rfl, e3, e4⟩
      · rw [e3, e4]
        exact ⟨_, _, rfl, rfl, rfl, V, n, h⟩
      · rw [e3, e4]
        simp (disch := omega) only [Option.bind_some, zI_eq, iteF]
        exact ifT_go h (c := c.val) hu (by omega)
