/-! tune, power, slots, block -/
theorem SX_at9 {I : Nat → Nat → Int32} {J : Nat → Nat → Int64} {V : sV} (h : SX I J 2 V) {u : Nat} (hu : u < 8) : I 9 u = zI (v_ch V u).val ∧ I 10 u = zI (v_pw V u).val ∧ I 11 u = zI (v_sl V u).val := by
  obtain ⟨hus, hbd, hgd, hsp, hod, hst, hlo, hhi, hch, hpw, hsl, hls, hlk, hsh⟩ := h
  exact ⟨hch u hu, hpw u hu, hsl u hu⟩
theorem tune_go {V : sV} {n : Nat} {I : Nat → Nat → Int32} {J : Nat → Nat → Int64} {w : Nat → Nat} {M : Nat → Nat → Int32} (h : RelV V n I J w M) {u : Nat} (hu : u < (v_us V).val) (c : Fin 61) : ∃ q r, P_X6_tune_28 I J w (zI u) (zI c.val) = some q ∧ P_X7_tune_27 M (zI u) (zI c.val) = some r ∧ q.1 = r.1 ∧ Rel q.2.1 q.2.2.1 q.2.2.2 r.2 := by
  obtain ⟨I', J', w', M', n', e1, e2, e3, e4, e5, e6, e7⟩ := push_rem h
  unfold P_X6_tune_28 P_X7_tune_27
  rw [e1, e2]
  have h6 : (v_us V).val ≤ 6 := h.2.1.2.2.2.2.2.2.2.2.2.2.2.2.2.2.1
  simp (disch := omega) only [zI_add, zI_sub, zI_mul, zI_neg, zL, zI_le, zI_lt, zI_eq, zI_cl, zA0, zI_if, Int.toNat_natCast, zT_add, zT_mul, Int.reduceToNat, Nat.add_zero, Nat.zero_add, Int.add_zero, Int.zero_add, zc_a, zc_l, Option.bind_some, qc_let, qc_in, qc_bo, iteT, iteF, and_self, if_true, if_false, qG]
  refine ⟨_, _, rfl, rfl, ?_, _, _, RelV_ch e3 hu c⟩
  show I' 9 u = M 13 u
  rw [(SX_at9 e3.1 (by omega)).1, ← e6]
  exact (e3.2.1.2.2.2.2.2.2.2.2.1 u hu).symm
theorem st_4 : St_4 Rel := by
  intro I J w M a b ⟨V, n, h0⟩
  have h := RelV_0 h0 (zI 0)
  unfold P_X6_tune P_X7_tune
  simp only [zI_add, zI_sub, zI_mul, zI_neg, zL, qc_let]
  rcases user_cases h.1 h.2.1 a with ⟨e1, e2⟩ | ⟨u, hu, rfl, e1, e2⟩
  · rw [e1, e2]
    simp (disch := omega) only [zI_add, zI_sub, zI_mul, zI_neg, zL, zI_le, zI_lt, zI_eq, zI_cl, zA0, zI_if, Int.toNat_natCast, zT_add, zT_mul, Int.reduceToNat, Nat.add_zero, Nat.zero_add, Int.add_zero, Int.zero_add, zc_a, zc_l, Option.bind_some, qc_let, qc_in, qc_bo, iteT, iteF, and_self, if_true, if_false, qG]
    exact ⟨_, _, rfl, rfl, rfl, V, n, h⟩
  · rw [e1, e2]
    simp (disch := omega) only [Option.bind_some, zI_eq, iteF]
    by_cases eb : b = zI 0
    · subst eb
      simp only [if_true]
      exact tune_go h hu (0 : Fin 61)
    · rw [if_neg eb, if_neg eb]
      rcases chan_cases h.1 h.2.2.1 b with ⟨e3, e4⟩ | ⟨c, hc1, hc2, rfl, e3, e4⟩
      · rw [e3, e4]
        simp (disch := omega) only [zI_add, zI_sub, zI_mul, zI_neg, zL, zI_le, zI_lt, zI_eq, zI_cl, zA0, zI_if, Int.toNat_natCast, zT_add, zT_mul, Int.reduceToNat, Nat.add_zero, Nat.zero_add, Int.add_zero, Int.zero_add, zc_a, zc_l, Option.bind_some, qc_let, qc_in, qc_bo, iteT, iteF, and_self, if_true, if_false, qG]
        exact ⟨_, _, rfl, rfl, rfl, V, n, h⟩
      · rw [e3, e4]
        simp (disch := omega) only [Option.bind_some, zI_eq, iteF]
        exact tune_go h hu c
theorem st_6 : St_6 Rel := by
  intro I J w M a b ⟨V, n, h0⟩
  have h := RelV_0 h0 (zI 0)
  have h6 : (v_us V).val ≤ 6 := h.2.1.2.2.2.2.2.2.2.2.2.2.2.2.2.2.1
  unfold P_X6_power P_X7_power
  simp only [zI_add, zI_sub, zI_mul, zI_neg, zL, qc_let]
  rcases user_cases h.1 h.2.1 a with ⟨e1, e2⟩ | ⟨u, hu, rfl, e1, e2⟩
  · rw [e1, e2]
    simp (disch := omega) only [zI_add, zI_sub, zI_mul, zI_neg, zL, zI_le, zI_lt, zI_eq, zI_cl, zA0, zI_if, Int.toNat_natCast, zT_add, zT_mul, Int.reduceToNat, Nat.add_zero, Nat.zero_add, Int.add_zero, Int.zero_add, zc_a, zc_l, Option.bind_some, qc_let, qc_in, qc_bo, iteT, iteF, and_self, if_true, if_false, qG]
    exact ⟨_, _, rfl, rfl, rfl, V, n, h⟩
  · rw [e1, e2]
    obtain ⟨z, rfl, h1, h2⟩ := zAll b
    simp (disch := omega) only [Option.bind_some, zI_eq, zI_lt, zI_le, iteF]
    by_cases c1 : z < 0
    · rw [if_pos c1, if_pos c1]
      exact ⟨_, _, rfl, rfl, rfl, V, n, h⟩
    · rw [if_neg c1, if_neg c1]
      by_cases c2 : z ≤ 30
      · rw [if_pos c2, if_pos c2]
        obtain ⟨I', J', w', M', n', e1, e2, e3, e4, e5, e6, e7⟩ := push_rem h
        rw [e1, e2]
        simp (disch := omega) only [zI_add, zI_sub, zI_mul, zI_neg, zL, zI_le, zI_lt, zI_eq, zI_cl, zA0, zI_if, Int.toNat_natCast, zT_add, zT_mul, Int.reduceToNat, Nat.add_zero, Nat.zero_add, Int.add_zero, Int.zero_add, zc_a, zc_l, Option.bind_some, qc_let, qc_in, qc_bo, iteT, iteF, and_self, if_true, if_false, qG]
        have e8 := RelV_pw e3 hu ⟨z.toNat, by omega⟩
        have e9 : ((⟨z.toNat, by omega⟩ : Fin 31).val : Int) = z := by show ((z.toNat : Nat) : Int) = z; omega
        rw [e9] at e8
        refine ⟨_, _, rfl, rfl, ?_, _, _, e8⟩
        show I' 10 u = qc_u2 M 0 0 (zI 0) 13 (6 + u)
        rw [(SX_at9 e3.1 (by omega)).2.1, ← e6]
        exact (e3.2.1.2.2.2.2.2.2.2.2.2.1 u hu).symm
      · rw [if_neg c2, if_neg c2]
        exact ⟨_, _, rfl, rfl, rfl, V, n, h⟩
theorem st_7 : St_7 Rel := by
  intro I J w M a b ⟨V, n, h0⟩
  have h := RelV_0 h0 (zI 0)
  have h6 : (v_us V).val ≤ 6 := h.2.1.2.2.2.2.2.2.2.2.2.2.2.2.2.2.1
  unfold P_X6_slots P_X7_slots
  simp only [zI_add, zI_sub, zI_mul, zI_neg, zL, qc_let]
  rcases user_cases h.1 h.2.1 a with ⟨e1, e2⟩ | ⟨u, hu, rfl, e1, e2⟩
  · rw [e1, e2]
    simp (disch := omega) only [zI_add, zI_sub, zI_mul, zI_neg, zL, zI_le, zI_lt, zI_eq, zI_cl, zA0, zI_if, Int.toNat_natCast, zT_add, zT_mul, Int.reduceToNat, Nat.add_zero, Nat.zero_add, Int.add_zero, Int.zero_add, zc_a, zc_l, Option.bind_some, qc_let, qc_in, qc_bo, iteT, iteF, and_self, if_true, if_false, qG]
    exact ⟨_, _, rfl, rfl, rfl, V, n, h⟩
  · rw [e1, e2]
    obtain ⟨z, rfl, h1, h2⟩ := zAll b
    simp (disch := omega) only [Option.bind_some, zI_eq, zI_lt, zI_le, iteF]
    by_cases c1 : z < 1
    · rw [if_pos c1, if_pos c1]
      exact ⟨_, _, rfl, rfl, rfl, V, n, h⟩
    · rw [if_neg c1, if_neg c1]
      by_cases c2 : z ≤ 255
      · rw [if_pos c2, if_pos c2]
        obtain ⟨I', J', w', M', n', e1, e2, e3, e4, e5, e6, e7⟩ := push_rem h
        rw [e1, e2]
        simp (disch := omega) only [zI_add, zI_sub, zI_mul, zI_neg, zL, zI_le, zI_lt, zI_eq, zI_cl, zA0, zI_if, Int.toNat_natCast, zT_add, zT_mul, Int.reduceToNat, Nat.add_zero, Nat.zero_add, Int.add_zero, Int.zero_add, zc_a, zc_l, Option.bind_some, qc_let, qc_in, qc_bo, iteT, iteF, and_self, if_true, if_false, qG]
        have e8 := RelV_sl e3 hu ⟨z.toNat, by omega⟩
        have e9 : ((⟨z.toNat, by omega⟩ : Fin 256).val : Int) = z := by show ((z.toNat : Nat) : Int) = z; omega
        rw [e9] at e8
        refine ⟨_, _, rfl, rfl, ?_, _, _, e8⟩
        show I' 11 u = qc_u2 M 0 0 (zI 0) 13 (73 + u)
        rw [(SX_at9 e3.1 (by omega)).2.2, ← e6]
        exact (e3.2.1.2.2.2.2.2.2.2.2.2.2.1 u hu).symm
      · rw [if_neg c2, if_neg c2]
        exact ⟨_, _, rfl, rfl, rfl, V, n, h⟩
theorem bI_not (b : Bool) : zI 1 - bI b = bI (!b) := by cases b <;> decide
theorem st_5 : St_5 Rel := by
  intro I J w M a ⟨V, n, h0⟩
  have h := RelV_0 h0 (zI 0)
  unfold P_X6_block P_X7_block
  simp only [zI_add, zI_sub, zI_mul, zI_neg, zL, qc_let]
  rcases chan_cases h.1 h.2.2.1 a with ⟨e1, e2⟩ | ⟨c, hc1, hc2, rfl, e1, e2⟩
  · rw [e1, e2]
    simp (disch := omega) only [zI_add, zI_sub, zI_mul, zI_neg, zL, zI_le, zI_lt, zI_eq, zI_cl, zA0, zI_if, Int.toNat_natCast, zT_add, zT_mul, Int.reduceToNat, Nat.add_zero, Nat.zero_add, Int.add_zero, Int.zero_add, zc_a, zc_l, Option.bind_some, qc_let, qc_in, qc_bo, iteT, iteF, and_self, if_true, if_false, qG]
    exact ⟨_, _, rfl, rfl, rfl, V, n, h⟩
  · rw [e1, e2]
    simp (disch := omega) only [Option.bind_some, zI_eq, iteF]
    obtain ⟨I', J', w', M', n', e1, e2, e3, e4, e5, e6, e7⟩ := push_rem h
    rw [e1, e2]
    simp only [Option.bind_some]
    have hm : M' 13 (12 + c.val) = bI (v_sh V c.val) := e3.2.1.2.2.2.2.2.2.2.2.2.2.2.2.2.1 c.val hc1 hc2
    have hx : ∀ i, i < 64 → bJ (J' 2 6) i = v_sh V i := e3.1.2.2.2.2.2.2.2.2.2.2.2.2.2
    rw [x_isShut (by omega), qG, if_pos ⟨rfl, rfl⟩, bj_xor _ (by omega) (by omega), hx _ (by omega), decide_eq_true (rfl : c.val = c.val), Bool.xor_true]
    simp (disch := omega) only [zI_add, zI_sub, zI_mul, zI_neg, zL, zI_le, zI_lt, zI_eq, zI_cl, zA0, zI_if, Int.toNat_natCast, zT_add, zT_mul, Int.reduceToNat, Nat.add_zero, Nat.zero_add, Int.add_zero, Int.zero_add, zc_a, zc_l, Option.bind_some, qc_let, qc_in, qc_bo, iteT, iteF, and_self, if_true, if_false, qG, hm, bI_not, bI_0]
    have hR : RelV (v_setsh V (fun i => v_sh V i ^^ decide (i = c.val))) n' I' (qc_u2 J' 2 6 (J' 2 6 ^^^ (1 : Int64) <<< ((zI c.val).toInt64 &&& 63))) w' (qc_u2 M' 13 (12 + c.val) (bI !v_sh V c.val)) := by
      have hM := e3.2.1
      have hT := e3.2.2.1
      obtain ⟨hus, hbd, hgd, hsp, hod, hst, hlo, hhi, hch, hpw, hsl, hls, hlk, hsh, h6, hl1⟩ := hM
      refine RelV_set e3 rfl rfl rfl rfl rfl rfl ?_ ?_ ?_ ?_ ?_ ?_ ?_ (fun _ _ => rfl) rfl ?_
      · intro x hx; rw [qG, if_neg (by omega)]; exact hch x hx
      · intro x hx; rw [qG, if_neg (by omega)]; exact hpw x hx
      · intro x hx; rw [qG, if_neg (by omega)]; exact hsl x hx
      · intro x h1 h2
        rw [qG]
        show _ = bI (v_sh V x ^^ decide (x = c.val))
        by_cases e : x = c.val
        · rw [if_pos ⟨rfl, by omega⟩, decide_eq_true e, Bool.xor_true, e]
        · rw [if_neg (fun y => e (by omega)), decide_eq_false e, Bool.xor_false]
          exact hsh x h1 h2
      · intro x h1 h2
        show (v_sh V x ^^ decide (x = c.val)) = false
        rw [hT.2.2.2.2.2.2.2.2 x h1 h2, decide_eq_false (by omega)]
        rfl
      · intro x h1 h2; rw [qG, if_neg (by omega)]
      · obtain ⟨hus, hbd, hgd, hsp, hod, hst, hlo, hhi, hch, hpw, hsl, hls, hlk, hsh⟩ := e3.1
        refine ⟨hus, hbd, hgd, hsp, hod, hst, hlo, hhi, hch, hpw, hsl, hls, hlk, ?_⟩
        intro x hx'
        rw [qG, if_pos ⟨rfl, rfl⟩, bj_xor _ (by omega) hx', hsh x hx']
        rfl
      · intro t ht
        unfold qc_u2 qc_u
        rw [if_neg (by omega)]
    cases ev : v_sh V c.val
    · rw [ev] at hR
      exact ⟨_, _, rfl, rfl, rfl, _, _, hR⟩
    · rw [ev] at hR
      exact ⟨_, _, rfl, rfl, rfl, _, _, hR⟩
