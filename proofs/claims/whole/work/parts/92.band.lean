/-! THE LEAST BAND -/
def v_nb (V : sV) (n : Nat) : sV := ((v_us V, f61 n, v_gd V, v_sp V, v_od V), (v_st V, v_lo V, (fun u => if u < (v_us V).val ∧ n < (v_hi V u).val then f61 n else v_hi V u), v_ch V, v_pw V, v_sl V), v_ls V, v_lk V, fun c => v_sh V c || (decide (n < c) && decide (c ≤ 60)))
theorem full_d : ∀ n : Fin 7, (zI 1 <<< (zI n.val &&& zI 31)) - zI 1 = zI (2 ^ n.val - 1 : Nat) ∧ 2 ^ n.val - 1 < 64 ∧ 2 ^ n.val - 1 < 2 ^ n.val ∧ (∀ u : Fin 7, u.val < n.val → tb (2 ^ n.val - 1) u.val = true) ∧ (2 ^ n.val - 1 = 0 ↔ n.val = 0) := by decide +kernel
theorem x_nar35 {V : sV} {n : Nat} (hn : n ≤ 60) (h8 : (v_us V).val ≤ 8) {J : Nat → Nat → Int64} : ∀ (d u f : Nat) (I : Nat → Nat → Int32), u + d = (v_us V).val → d < f → I 12 0 = zI (v_us V).val → (∀ k, u ≤ k → k < 8 → I 18 k = zI (v_hi V k).val) → wp (P_X4_narrowTo_35 12 f I J (zI n) (zI u)) (fun r => r.2 = J ∧ (∀ t, t ≠ 18 → r.1 t = I t) ∧ (∀ k, k < u → r.1 18 k = I 18 k) ∧ (∀ k, u ≤ k → k < 8 → r.1 18 k = zI (if k < (v_us V).val ∧ n < (v_hi V k).val then f61 n else v_hi V k).val)) := by
  intro d
  induction d with
  | zero =>
    intro u f I hu hf h0 hh
    obtain ⟨g, rfl⟩ : ∃ g, f = g + 1 := ⟨f - 1, by omega⟩
    have c : zI ((v_us V).val : Int) ≤ zI (u : Int) := by rw [zI_le] <;> omega
    rw [P_X4_narrowTo_35, h0, if_pos c]
    refine wp_some ⟨rfl, fun _ _ => rfl, fun _ _ => rfl, ?_⟩
    intro k h1 h2
    rw [if_neg (by omega)]
    exact hh k h1 h2
  | succ d ih =>
    intro u f I hu hf h0 hh
    obtain ⟨g, rfl⟩ : ∃ g, f = g + 1 := ⟨f - 1, by omega⟩
    have c : ¬ zI ((v_us V).val : Int) ≤ zI (u : Int) := by rw [zI_le] <;> omega
    have i8 : qc_in (zI (u : Int)) 8 := by simp (disch := omega) only [zI_add, zI_sub, zI_mul, zI_neg, zL, zI_le, zI_lt, zI_eq, zI_cl, zA0, zI_if, Int.toNat_natCast, zT_add, zT_mul, Int.reduceToNat, Nat.add_zero, Nat.zero_add, Int.add_zero, Int.zero_add, zc_a, zc_l, Option.bind_some, qc_let, qc_in, qc_bo, iteT, iteF, and_self, if_true, if_false, qG]; omega
    have r8 : (zI (u : Int)).toNatClampNeg = u := by rw [zI_cl (by omega) (by omega)]; omega
    have e : (if zI (n : Int) < zI ((v_hi V u).val : Int) then zI (n : Int) else zI ((v_hi V u).val : Int)) = zI (if u < (v_us V).val ∧ n < (v_hi V u).val then f61 n else v_hi V u).val := by
      by_cases c : n < (v_hi V u).val
      · rw [if_pos (by rw [zI_lt] <;> omega), if_pos ⟨by omega, c⟩, f61_v hn]
      · rw [if_neg (by rw [zI_lt] <;> omega), if_neg (fun z => c z.2)]
    have hx := hh u (by omega) (by omega)
    rw [P_X4_narrowTo_35, h0, if_neg c, if_pos i8, if_pos i8, r8]
    simp only [Nat.reduceAdd, hx, e, qc_let, zL, zI_add]
    have := ih (u + 1) g (qc_u2 I 18 u (zI (if u < (v_us V).val ∧ n < (v_hi V u).val then f61 n else v_hi V u).val)) (by omega) (by omega) (by rw [u2_ne (by omega)]; exact h0) (by
      intro k h1 h2
      rw [qG, if_neg (by omega)]
      exact hh k (by omega) h2)
    simp only [zc_a, zc_l] at this
    refine wp_mono this ?_
    intro r ⟨k1, k2, k3, k4⟩
    refine ⟨k1, ?_, ?_, ?_⟩
    · intro t ht; rw [k2 t ht, u2_ne ht]
    · intro k hk; rw [k3 k (by omega), qG, if_neg (by omega)]
    · intro k h1 h2
      by_cases c : k = u
      · subst c
        rw [k3 k (by omega), qG, if_pos ⟨rfl, rfl⟩]
      · exact k4 k (by omega) h2
theorem x_nar9 {n : Nat} (hn : n ≤ 60) {I : Nat → Nat → Int32} : ∀ (d c f : Nat) (J : Nat → Nat → Int64), c + d = 61 → d < f → ∃ J', P_X4_narrowTo_9 12 f I J (zI n) (zI c) = P_X4_narrowTo_35 12 qc_fu I J' (zI n) (zI 0) ∧ (∀ t, t ≠ 12 → J' t = J t) ∧ ∀ i, i < 64 → bJ (J' 12 6) i = (bJ (J 12 6) i || (decide (c ≤ i) && decide (i ≤ 60))) := by
  intro d
  induction d with
  | zero =>
    intro c f J hc hf
    obtain ⟨g, rfl⟩ : ∃ g, f = g + 1 := ⟨f - 1, by omega⟩
    have k : zI 60 < zI (c : Int) := by rw [zI_lt] <;> omega
    rw [P_X4_narrowTo_9]
    simp only [zL]
    rw [if_pos k]
    refine ⟨J, rfl, fun _ _ => rfl, ?_⟩
    intro i hi
    by_cases c1 : c ≤ i
    · rw [decide_eq_false (show ¬ i ≤ 60 by omega), Bool.and_false, Bool.or_false]
    · rw [decide_eq_false c1, Bool.false_and, Bool.or_false]
  | succ d ih =>
    intro c f J hc hf
    obtain ⟨g, rfl⟩ : ∃ g, f = g + 1 := ⟨f - 1, by omega⟩
    have k : ¬ zI 60 < zI (c : Int) := by rw [zI_lt] <;> omega
    obtain ⟨J', j1, j2, j3⟩ := ih (c + 1) g (qc_u2 J 12 6 (J 12 6 ||| ((1 : Int64) <<< ((zI (c : Int)).toInt64 &&& 63)))) (by omega) (by omega)
    simp only [zc_a, zc_l] at j1
    refine ⟨J', ?_, ?_, ?_⟩
    · rw [P_X4_narrowTo_9]
      simp only [zL, qc_let, zI_add]
      rw [if_neg k]
      exact j1
    · intro t ht
      rw [j2 t ht]
      funext j
      rw [qG, if_neg (by omega)]
    · intro i hi
      rw [j3 i hi, qG, if_pos ⟨rfl, rfl⟩, bj_or _ (by omega) hi]
      by_cases c1 : i = c
      · rw [decide_eq_true c1, decide_eq_true (show c ≤ i by omega), decide_eq_true (show i ≤ 60 by omega)]
        simp
      · rw [decide_eq_false c1, Bool.or_false]
        by_cases c2 : c ≤ i
        · rw [decide_eq_true c2, decide_eq_true (show c + 1 ≤ i by omega)]
        · rw [decide_eq_false c2, decide_eq_false (show ¬ c + 1 ≤ i by omega)]
theorem x_narrow {I : Nat → Nat → Int32} {J : Nat → Nat → Int64} {V : sV} {n : Nat} (hn : n ≤ 60) (h : SX I J 12 V) : wp (P_X4_narrowTo I J 12 (zI n)) (fun r => SX r.1 r.2 12 (v_nb V n) ∧ (∀ t, t ≠ 12 → t ≠ 18 → r.1 t = I t) ∧ (∀ t, t ≠ 12 → r.2 t = J t)) := by
  obtain ⟨xus, xbd, xgd, xsp, xod, xst, xlo, xhi, xch, xpw, xsl, xls, xlk, xsh⟩ := h
  unfold P_X4_narrowTo
  simp only [zL, qc_let, zI_add]
  obtain ⟨J', j1, j2, j3⟩ := x_nar9 hn (I := qc_u2 I 12 1 (zI n)) (60 - n) (n + 1) qc_fu J (by omega) (by unfold qc_fu; omega)
  simp only [zc_a, zc_l] at j1
  rw [j1]
  have w0 : qc_u2 I 12 1 (zI n) 12 0 = zI (v_us V).val := by rw [qG, if_neg (by omega)]; exact xus
  have w1 : ∀ k, 0 ≤ k → k < 8 → qc_u2 I 12 1 (zI n) 18 k = zI (v_hi V k).val := by
    intro k _ hk
    rw [u2_ne (by omega)]
    exact xhi k hk
  have h9 := (v_us V).isLt
  have := x_nar35 hn (by omega) (J := J') (v_us V).val 0 qc_fu (qc_u2 I 12 1 (zI n)) (by omega) (by unfold qc_fu; omega) w0 w1
  refine wp_mono this ?_
  intro r ⟨k1, k2, k3, k4⟩
  have t12 : ∀ j, j ≠ 1 → r.1 12 j = I 12 j := by
    intro j hj
    rw [k2 12 (by omega), qG, if_neg (by omega)]
  have tn : ∀ t, t ≠ 12 → t ≠ 18 → r.1 t = I t := by
    intro t a b
    rw [k2 t b, u2_ne a]
  refine ⟨⟨?_, ?_, ?_, ?_, ?_, ?_, ?_, ?_, ?_, ?_, ?_, ?_, ?_, ?_⟩, tn, ?_⟩
  · rw [t12 0 (by omega)]; exact xus
  · show r.1 12 1 = zI (f61 n).val
    rw [k2 12 (by omega), qG, if_pos ⟨rfl, rfl⟩, f61_v hn]
  · rw [t12 2 (by omega)]; exact xgd
  · rw [t12 3 (by omega)]; exact xsp
  · rw [t12 4 (by omega)]; exact xod
  · show ∀ u, u < 8 → r.1 16 u = zI (v_st V u).val
    rw [tn 16 (by omega) (by omega)]; exact xst
  · show ∀ u, u < 8 → r.1 17 u = zI (v_lo V u).val
    rw [tn 17 (by omega) (by omega)]; exact xlo
  · intro u hu
    exact k4 u (by omega) hu
  · show ∀ u, u < 8 → r.1 19 u = zI (v_ch V u).val
    rw [tn 19 (by omega) (by omega)]; exact xch
  · show ∀ u, u < 8 → r.1 20 u = zI (v_pw V u).val
    rw [tn 20 (by omega) (by omega)]; exact xpw
  · show ∀ u, u < 8 → r.1 21 u = zI (v_sl V u).val
    rw [tn 21 (by omega) (by omega)]; exact xsl
  · show ∀ u, u < 3 → r.1 13 u = zI (v_ls V u).val
    rw [tn 13 (by omega) (by omega)]; exact xls
  · show ∀ u, u < 9 → r.1 14 u = zI (lkX u (v_lk V u))
    rw [tn 14 (by omega) (by omega)]; exact xlk
  · intro c hc
    rw [k1, j3 c hc, xsh c hc]
    rfl
  · intro t ht
    rw [k1, j2 t ht]
theorem x_great {I : Nat → Nat → Int32} {J : Nat → Nat → Int64} {V : sV} (h : SX I J 2 V) (h8 : (v_us V).val ≤ 8) : ∀ (d u f G : Nat), u + d = (v_us V).val → d < f → G ≤ 60 → (∀ k, k < u → (v_lo V k).val ≤ G) → (G = 0 ∨ ∃ k, k < (v_us V).val ∧ (v_lo V k).val = G) → ∃ G' : Nat, P_X4_greatestLow_4 I 2 f (zI G) (zI u) = some (zI G') ∧ G' ≤ 60 ∧ (∀ k, k < (v_us V).val → (v_lo V k).val ≤ G') ∧ (G' = 0 ∨ ∃ k, k < (v_us V).val ∧ (v_lo V k).val = G') := by
  intro d
  induction d with
  | zero =>
    intro u f G hu hf hG h1 h2
    obtain ⟨g, rfl⟩ : ∃ g, f = g + 1 := ⟨f - 1, by omega⟩
    have e : u = (v_us V).val := by omega
    subst e
    have c : zI ((v_us V).val : Int) ≤ zI ((v_us V).val : Int) := by rw [zI_le] <;> omega
    have h0 : I 2 0 = zI ((v_us V).val : Int) := h.1
    rw [P_X4_greatestLow_4, h0, if_pos c]
    exact ⟨G, rfl, hG, h1, h2⟩
  | succ d ih =>
    intro u f G hu hf hG h1 h2
    obtain ⟨g, rfl⟩ : ∃ g, f = g + 1 := ⟨f - 1, by omega⟩
    have c : ¬ zI ((v_us V).val : Int) ≤ zI (u : Int) := by rw [zI_le] <;> omega
    have h0 : I 2 0 = zI ((v_us V).val : Int) := h.1
    have hx : I 7 u = zI (v_lo V u).val := h.2.2.2.2.2.2.1 u (by omega)
    have hb := (v_lo V u).isLt
    have i8 : qc_in (zI (u : Int)) 8 := by simp (disch := omega) only [zI_add, zI_sub, zI_mul, zI_neg, zL, zI_le, zI_lt, zI_eq, zI_cl, zA0, zI_if, Int.toNat_natCast, zT_add, zT_mul, Int.reduceToNat, Nat.add_zero, Nat.zero_add, Int.add_zero, Int.zero_add, zc_a, zc_l, Option.bind_some, qc_let, qc_in, qc_bo, iteT, iteF, and_self, if_true, if_false, qG]; omega
    have r8 : (zI (u : Int)).toNatClampNeg = u := by rw [zI_cl (by omega) (by omega)]; omega
    rw [P_X4_greatestLow_4, h0, if_neg c, if_pos i8, r8]
    simp only [Nat.reduceAdd, hx, qc_let, zL, zI_add]
    by_cases cg : G < (v_lo V u).val
    · rw [if_pos (by rw [zI_lt] <;> omega)]
      have := ih (u + 1) g (v_lo V u).val (by omega) (by omega) (by omega) (by
        intro k hk
        by_cases e : k = u
        · rw [e]; exact Nat.le_refl _
        · have := h1 k (by omega); omega) (Or.inr ⟨u, by omega, rfl⟩)
      simpa only [zc_a, zc_l] using this
    · rw [if_neg (by rw [zI_lt] <;> omega)]
      have := ih (u + 1) g G (by omega) (by omega) hG (by
        intro k hk
        by_cases e : k = u
        · rw [e]; omega
        · exact h1 k (by omega)) h2
      simpa only [zc_a, zc_l] using this
/-! the reference: all are wanted -/
theorem m_full32 {s : Nat} {x : Int32} {us : Nat} (h6 : us ≤ 6) (hs : s < 64) (ht : ∀ u, u < us → tb s u = true) : ∀ (d u f : Nat) (M : Nat → Nat → Int32), u + d = us → d < f → M 2 7 = zI us → P_X7_searches_32 f M (zI s) x (zI u) = P_X7_searches_64 qc_fu (fun t j => if t = 13 ∧ u ≤ j ∧ j < us then zI 0 else M t j) (zI s) x := by
  intro d
  induction d with
  | zero =>
    intro u f M hu hf h0
    obtain ⟨g, rfl⟩ : ∃ g, f = g + 1 := ⟨f - 1, by omega⟩
    have c : zI (us : Int) ≤ zI (u : Int) := by rw [zI_le] <;> omega
    rw [P_X7_searches_32, P_X7_users, Option.bind_some, h0, if_pos c]
    congr 1
    funext t j
    rw [if_neg (by omega)]
  | succ d ih =>
    intro u f M hu hf h0
    obtain ⟨g, rfl⟩ : ∃ g, f = g + 1 := ⟨f - 1, by omega⟩
    have c : ¬ zI (us : Int) ≤ zI (u : Int) := by rw [zI_le] <;> omega
    have i79 : qc_in (zI 0 + zI (u : Int)) 79 := by simp (disch := omega) only [zI_add, zI_sub, zI_mul, zI_neg, zL, zI_le, zI_lt, zI_eq, zI_cl, zA0, zI_if, Int.toNat_natCast, zT_add, zT_mul, Int.reduceToNat, Nat.add_zero, Nat.zero_add, Int.add_zero, Int.zero_add, zc_a, zc_l, Option.bind_some, qc_let, qc_in, qc_bo, iteT, iteF, and_self, if_true, if_false, qG]; omega
    have r79 : (zI 0 + zI (u : Int)).toNatClampNeg = u := by rw [zI_add, zI_cl (by omega) (by omega)]; omega
    have et := tb_d hs (show u < 8 by omega)
    rw [ht u (by omega)] at et
    rw [P_X7_searches_32, P_X7_users, Option.bind_some, h0, if_neg c]
    simp only [zL]
    rw [et, if_pos (show bI true = zI 1 by decide), if_pos i79, r79]
    simp only [P_X7_searches_58, qc_let, zI_add, zL]
    have := ih (u + 1) g (qc_u2 M 13 u (zI 0)) (by omega) (by omega) (by rw [u2_ne (by omega)]; exact h0)
    simp only [zc_a, zc_l] at this
    rw [this]
    congr 1
    funext t j
    rw [qG]
    by_cases c1 : t = 13 ∧ u + 1 ≤ j ∧ j < us
    · rw [if_pos c1, if_pos (by omega)]
    · rw [if_neg c1]
      by_cases c2 : t = 13 ∧ j = u
      · rw [if_pos c2, if_pos (by omega)]
      · rw [if_neg c2, if_neg (by omega)]
def eB (M0 M : Nat → Nat → Int32) : Prop := (∀ t, (t = 1 ∨ t = 2 ∨ t = 4 ∨ t = 5 ∨ t = 7 ∨ t = 8 ∨ t = 11 ∨ t = 14) → M t = M0 t) ∧ (∀ j, j < 79 → M 15 j = M0 13 j) ∧ (∀ j, 6 ≤ j → M 13 j = M0 13 j) ∧ (∀ j, j ≠ 0 → j ≠ 41 → j ≠ 42 → j ≠ 44 → j ≠ 30 → M 0 j = M0 0 j)
theorem eB_A {M0 M : Nat → Nat → Int32} (h : eB M0 M) : eA M0 M := ⟨h.1, h.2.1, fun j hj => h.2.2.1 j (by omega), fun j a b c d e _ _ _ => h.2.2.2 j a b c d e⟩
/-- the state with the band n and the channels as they were -/
def m_bs (V : sV) (n : Nat) (M : Nat → Nat → Int32) : Nat → Nat → Int32 := fun t j => if t = 13 ∧ j < (v_us V).val then zI (v_ch V j).val else qc_u2 M 0 30 (zI n) t j
theorem eB_K {M0 M M' : Nat → Nat → Int32} {V : sV} {n : Nat} (h6 : (v_us V).val ≤ 6) (h : eB M0 M) (he : eK (m_bs V n M) M') : eB M0 M' := by
  have ne : ∀ t, t ≠ 0 → t ≠ 13 → m_bs V n M t = M t := by
    intro t a b
    funext j
    unfold m_bs
    rw [if_neg (fun z => b z.1), u2_ne a]
  refine ⟨?_, ?_, ?_, ?_⟩
  · intro t ht; rw [he.1 t (by omega) (by omega) (by omega), ne t (by omega) (by omega)]; exact h.1 t ht
  · rw [he.1 15 (by omega) (by omega) (by omega), ne 15 (by omega) (by omega)]; exact h.2.1
  · intro j hj
    rw [he.2.1 j hj]
    unfold m_bs
    rw [if_neg (by omega), u2_ne (by omega)]
    exact h.2.2.1 j hj
  · intro j a b c d e
    rw [he.2.2 j b c]
    unfold m_bs
    rw [if_neg (by omega), qG, if_neg (by omega)]
    exact h.2.2.2 j a b c d e
theorem MX_bs {M0 M : Nat → Nat → Int32} {V : sV} {n : Nat} (hn : n ≤ 60) (h0 : MX M0 V) (hT : TM M0 V) (h : eB M0 M) : MX (m_bs V n M) (v_nb V n) := by
  obtain ⟨mus, mbd, mgd, msp, mod, mst, mlo, mhi, mch, mpw, msl, mls, mlk, msh, m6, ml1⟩ := h0
  obtain ⟨t1, t2, t3, t4, t5, t6, t7, t8, t9⟩ := hT
  have ne : ∀ t, t ≠ 0 → t ≠ 13 → (t = 2 ∨ t = 5 ∨ t = 7 ∨ t = 8 ∨ t = 11) → m_bs V n M t = M0 t := by
    intro t a b c
    rw [← h.1 t (by omega)]
    funext j
    unfold m_bs
    rw [if_neg (fun z => b z.1), u2_ne a]
  have sl : ∀ j, j = 31 ∨ j = 32 ∨ j = 33 → m_bs V n M 0 j = M0 0 j := by
    intro j hj
    unfold m_bs
    rw [if_neg (by omega), qG, if_neg (by omega)]
    exact h.2.2.2 j (by omega) (by omega) (by omega) (by omega) (by omega)
  have r13 : ∀ j, 6 ≤ j → m_bs V n M 13 j = M0 13 j := by
    intro j hj
    unfold m_bs
    rw [if_neg (by omega), u2_ne (by omega)]
    exact h.2.2.1 j hj
  unfold MX
  rw [ne 2 (by omega) (by omega) (by omega), ne 5 (by omega) (by omega) (by omega), ne 7 (by omega) (by omega) (by omega), ne 8 (by omega) (by omega) (by omega), ne 11 (by omega) (by omega) (by omega), sl 31 (by omega), sl 32 (by omega), sl 33 (by omega)]
  refine ⟨mus, ?_, mgd, msp, mod, mst, mlo, ?_, ?_, ?_, ?_, mls, mlk, ?_, m6, ml1⟩
  · show m_bs V n M 0 30 = zI (f61 n).val
    unfold m_bs
    rw [if_neg (by omega), qG, if_pos ⟨rfl, rfl⟩, f61_v hn]
  · intro u hu
    have hu' : u < (v_us V).val := hu
    refine ⟨v_hi V u, (t5 u hu').1, ?_⟩
    show (if u < (v_us V).val ∧ n < (v_hi V u).val then f61 n else v_hi V u).val = if (f61 n).val ≤ (v_hi V u).val then (f61 n).val else (v_hi V u).val
    rw [f61_v hn]
    by_cases c : n < (v_hi V u).val
    · rw [if_pos ⟨hu', c⟩, if_pos (by omega), f61_v hn]
    · rw [if_neg (fun z => c z.2)]
      by_cases c2 : n ≤ (v_hi V u).val
      · rw [if_pos c2]; omega
      · rw [if_neg c2]
  · intro u hu
    have hu' : u < (v_us V).val := hu
    unfold m_bs
    rw [if_pos ⟨rfl, hu'⟩]
    rfl
  · intro u hu
    have hu' : u < (v_us V).val := hu
    rw [r13 _ (by omega)]; exact mpw u hu'
  · intro u hu
    have hu' : u < (v_us V).val := hu
    rw [r13 _ (by omega)]; exact msl u hu'
  · intro c h1 h2
    have h2' : c ≤ (f61 n).val := h2
    rw [f61_v hn] at h2'
    have es : v_sh (v_nb V n) c = v_sh V c := by
      show (v_sh V c || (decide (n < c) && decide (c ≤ 60))) = v_sh V c
      rw [decide_eq_false (show ¬ n < c by omega), Bool.false_and, Bool.or_false]
    rw [r13 _ (by omega), es]
    by_cases cb : c ≤ (v_bd V).val
    · exact msh c h1 cb
    · rw [t8 c (by omega) (by omega), t9 c (by omega) (by omega)]
      rfl
theorem m_bsearch {M0 M : Nat → Nat → Int32} {V : sV} {n : Nat} (h0 : MX M0 V) (h : eB M0 M) : P_X7_searches (qc_u2 M 0 30 (zI n)) (zI (2 ^ (v_us V).val - 1 : Nat)) = P_X7_searches (m_bs V n M) (zI (2 ^ (v_us V).val - 1 : Nat)) := by
  have h6 : (v_us V).val ≤ 6 := h0.2.2.2.2.2.2.2.2.2.2.2.2.2.2.1
  obtain ⟨f1, f2, f3, f4, f5⟩ := full_d ⟨(v_us V).val, by omega⟩
  dsimp only at f1 f2 f3 f4 f5
  by_cases c : (v_us V).val = 0
  · congr 1
    funext t j
    unfold m_bs
    rw [if_neg (by omega)]
  · have us1 : qc_u2 (qc_u2 M 0 30 (zI n)) 0 42 (zI 0) 2 7 = zI ((v_us V).val : Int) := by
      rw [u2_ne (by omega), u2_ne (by omega), h.1 2 (by omega)]; exact h0.1
    have us2 : qc_u2 (m_bs V n M) 0 42 (zI 0) 2 7 = zI ((v_us V).val : Int) := by
      rw [u2_ne (by omega)]
      unfold m_bs
      rw [if_neg (by omega), u2_ne (by omega), h.1 2 (by omega)]; exact h0.1
    have k : ¬ zI ((2 ^ (v_us V).val - 1 : Nat) : Int) = zI 0 := by rw [zI_eq] <;> omega
    unfold P_X7_searches
    simp only [zL, qc_let]
    rw [if_neg k, if_neg k]
    refine congrArg (Option.bind _) (funext fun q => ?_)
    have ht : ∀ u, u < (v_us V).val → tb (2 ^ (v_us V).val - 1) u = true := fun u hu => f4 ⟨u, by omega⟩ hu
    have a1 := m_full32 (x := q) h6 f2 ht (v_us V).val 0 qc_fu _ (by omega) (by unfold qc_fu; omega) us1
    have a2 := m_full32 (x := q) h6 f2 ht (v_us V).val 0 qc_fu _ (by omega) (by unfold qc_fu; omega) us2
    have a1' : P_X7_searches_32 qc_fu (qc_u2 (qc_u2 M 0 30 (zI n)) 0 42 (zI 0)) (zI ((2 ^ (v_us V).val - 1 : Nat) : Int)) q (zI 0) = _ := a1
    have a2' : P_X7_searches_32 qc_fu (qc_u2 (m_bs V n M) 0 42 (zI 0)) (zI ((2 ^ (v_us V).val - 1 : Nat) : Int)) q (zI 0) = _ := a2
    have eq : (fun t j => if t = 13 ∧ 0 ≤ j ∧ j < (v_us V).val then zI 0 else qc_u2 (qc_u2 M 0 30 (zI n)) 0 42 (zI 0) t j) = (fun t j => if t = 13 ∧ 0 ≤ j ∧ j < (v_us V).val then zI 0 else qc_u2 (m_bs V n M) 0 42 (zI 0) t j) := by
      funext t j
      by_cases c1 : t = 13 ∧ 0 ≤ j ∧ j < (v_us V).val
      · rw [if_pos c1, if_pos c1]
      · rw [if_neg c1, if_neg c1, qG (qc_u2 M 0 30 (zI n)) 0 42, qG (m_bs V n M) 0 42]
        unfold m_bs
        by_cases c2 : t = 0 ∧ j = 42
        · rw [if_pos c2, if_pos c2]
        · rw [if_neg c2, if_neg c2, if_neg (fun z => c1 ⟨z.1, by omega, z.2⟩)]
    rw [a1', a2', eq]
/-- one band on both sides -/
theorem band_one {V : sV} {I0 : Nat → Nat → Int32} {J0 : Nat → Nat → Int64} {M0 : Nat → Nat → Int32} (hS0 : SX I0 J0 2 V) (hM0 : MX M0 V) (hTM : TM M0 V) {n : Nat} (hn : n ≤ 60) {I : Nat → Nat → Int32} {J : Nat → Nat → Int64} {M : Nat → Nat → Int32} (eI : eX I0 I) (eJ' : eJ J0 J) (hB : eB M0 M) : ∃ (r r2 : (Nat → Nat → Int32) × (Nat → Nat → Int64)) (res x : Int) (I' : Nat → Nat → Int32) (J' : Nat → Nat → Int64) (M' : Nat → Nat → Int32), P_X4_copyFrom I J 12 2 = some r ∧ P_X4_narrowTo r.1 r.2 12 (zI n) = some r2 ∧ P_X4_allUsers r2.1 12 = some (zI (2 ^ (v_us V).val - 1 : Nat)) ∧ P_X5_seek r2.1 r2.2 12 (zI (2 ^ (v_us V).val - 1 : Nat)) = some (zI res, I', J') ∧ P_X7_searches (qc_u2 M 0 30 (zI n)) (zI (2 ^ (v_us V).val - 1 : Nat)) = some (zI x, M') ∧ ((res = 0 ∧ 0 ≤ x ∧ x ≤ 600 ∧ ∀ u, u < (v_us V).val → (v_lo V u).val ≤ n) ∨ (res = x ∧ (x = -2 ∨ x = -3))) ∧ eX I0 I' ∧ eJ J0 J' ∧ eB M0 M' := by
  have h6 : (v_us V).val ≤ 6 := hM0.2.2.2.2.2.2.2.2.2.2.2.2.2.2.1
  obtain ⟨f1, f2, f3, f4, f5⟩ := full_d ⟨(v_us V).val, by omega⟩
  dsimp only at f1 f2 f3 f4 f5
  have hS : SX I J 2 V := SX_e (fun t _ _ => eI.1 t (by omega)) (eJ' 2 (by omega)) hS0
  obtain ⟨r, r1, r2, r3, r4, r5⟩ := x_copy hS
  obtain ⟨q, q1, q2, q3, q4⟩ := x_narrow hn r2
  obtain ⟨res, x, I', J', M', g', L', p1, p2, p3, p4, p5, p6, p7, p8, p9⟩ := seek_both (s := 2 ^ (v_us V).val - 1) (V := v_nb V n) f2 f3 q2 (MX_bs hn hM0 hTM hB)
  refine ⟨r, q, res, x, I', J', M', r1, q1, ?_, p1, ?_, ?_, ?_, ?_, ?_⟩
  · unfold P_X4_allUsers
    simp only [zL]
    rw [q2.1, ← f1]
    rfl
  · rw [m_bsearch hM0 hB]; exact p2
  · rcases p6 with ⟨a1, a2, a3, a4, a5⟩ | ⟨a1, a2, _⟩
    · refine Or.inl ⟨a1, by omega, by omega, ?_⟩
      intro u hu
      have := a5 u hu (f4 ⟨u, by omega⟩ hu)
      have e2 : (v_lo V u).val ≤ (if u < (v_us V).val ∧ n < (v_hi V u).val then f61 n else v_hi V u).val := this
      by_cases c : n < (v_hi V u).val
      · rw [if_pos ⟨hu, c⟩, f61_v hn] at e2; exact e2
      · rw [if_neg (fun z => c z.2)] at e2; omega
    · exact Or.inr ⟨a1, a2⟩
  · exact eX_t eI (eX_t (eX_c r2 r4) (eX_t (eX_m (fun t ht => q3 t (by omega) (by omega))) p7))
  · exact eJ_t eJ' (eJ_t (eJ_c r5) (eJ_t (fun t ht => q4 t (by omega)) p8))
  · exact eB_K h6 hB p9
theorem m_band_dead {V : sV} {I0 : Nat → Nat → Int32} {J0 : Nat → Nat → Int64} {M0 : Nat → Nat → Int32} (hS0 : SX I0 J0 2 V) (hM0 : MX M0 V) (hTM : TM M0 V) {u : Nat} (hu : u < (v_us V).val) : ∀ (d n F : Nat) (M : Nat → Nat → Int32), n + d = (v_lo V u).val → d < F → eB M0 M → ∃ M' F', P_X7_leastBand_14 F M (zI (-2)) (zI n) = P_X7_leastBand_14 F' M' (zI (-2)) (zI ((v_lo V u).val : Nat)) ∧ eB M0 M' ∧ F = F' + d := by
  have h6 : (v_us V).val ≤ 6 := hM0.2.2.2.2.2.2.2.2.2.2.2.2.2.2.1
  obtain ⟨f1, f2, f3, f4, f5⟩ := full_d ⟨(v_us V).val, by omega⟩
  dsimp only at f1 f2 f3 f4 f5
  have hlo := (v_lo V u).isLt
  intro d
  induction d with
  | zero =>
    intro n F M hn hF hB
    have e : n = (v_lo V u).val := by omega
    subst e
    exact ⟨M, F, rfl, hB, rfl⟩
  | succ d ih =>
    intro n F M hn hF hB
    obtain ⟨G, rfl⟩ : ∃ G, F = G + 1 := ⟨F - 1, by omega⟩
    obtain ⟨r, r2, res, x, I', J', M', p1, p2, p3, p4, p5, p6, p7, p8, p9⟩ := band_one hS0 hM0 hTM (n := n) (by omega) (eX_r I0) (eJ_r J0) hB
    have hx : x = -2 ∨ x = -3 := by
      rcases p6 with ⟨_, _, _, a⟩ | ⟨_, a⟩
      · have := a u hu; omega
      · exact a
    obtain ⟨M2, F2, k1, k2, k3⟩ := ih (n + 1) G M' (by omega) (by omega) p9
    simp only [zc_a, zc_l] at k1
    refine ⟨M2, F2, ?_, k2, by omega⟩
    rw [← k1]
    have c : ¬ zI 60 < zI (n : Int) := by rw [zI_lt] <;> omega
    have kx : zI x < zI 0 := by rw [zI_lt] <;> omega
    have us1 : qc_u2 M 0 30 (zI n) 2 7 = zI ((v_us V).val : Int) := by
      rw [u2_ne (by omega), hB.1 2 (by omega)]; exact hM0.1
    rw [P_X7_leastBand_14]
    simp only [zI_add, zI_sub, zI_mul, zI_neg, zL, if_neg c, if_true, qc_let, P_X7_users, Option.bind_some, us1]
    rw [f1, p5, Option.bind_some]
    dsimp only
    rw [if_pos kx, P_X7_leastBand_48]
    simp only [zI_add, zI_sub, zI_mul, zI_neg, zL, qc_let]
theorem band_loop {V : sV} {I0 : Nat → Nat → Int32} {J0 : Nat → Nat → Int64} {M0 : Nat → Nat → Int32} (hS0 : SX I0 J0 2 V) (hM0 : MX M0 V) (hTM : TM M0 V) : ∀ (d n f F : Nat) (I : Nat → Nat → Int32) (J : Nat → Nat → Int64) (M : Nat → Nat → Int32), n + d = 61 → d < f → d < F → eX I0 I → eJ J0 J → eB M0 M → ∃ y I' J' M', P_X6_leastBand_12 f I J (zI n) = some (y, I', J') ∧ P_X7_leastBand_14 F M (zI (-2)) (zI n) = some (y, M') ∧ eX I0 I' ∧ eJ J0 J' ∧ eM M0 M' := by
  have h6 : (v_us V).val ≤ 6 := hM0.2.2.2.2.2.2.2.2.2.2.2.2.2.2.1
  obtain ⟨f1, f2, f3, f4, f5⟩ := full_d ⟨(v_us V).val, by omega⟩
  dsimp only at f1 f2 f3 f4 f5
  intro d
  induction d with
  | zero =>
    intro n f F I J M hn hf hF eI eJ' hB
    obtain ⟨g, rfl⟩ : ∃ g, f = g + 1 := ⟨f - 1, by omega⟩
    obtain ⟨G, rfl⟩ : ∃ G, F = G + 1 := ⟨F - 1, by omega⟩
    have c : zI 60 < zI (n : Int) := by rw [zI_lt] <;> omega
    rw [P_X6_leastBand_12, P_X7_leastBand_14]
    simp only [zI_add, zI_sub, zI_mul, zI_neg, zL, if_pos c, m_comesBack, Option.bind_some]
    exact ⟨_, _, _, _, rfl, rfl, eI, eJ', eA_b hM0 hTM (eB_A hB)⟩
  | succ d ih =>
    intro n f F I J M hn hf hF eI eJ' hB
    obtain ⟨g, rfl⟩ : ∃ g, f = g + 1 := ⟨f - 1, by omega⟩
    obtain ⟨G, rfl⟩ : ∃ G, F = G + 1 := ⟨F - 1, by omega⟩
    have c : ¬ zI 60 < zI (n : Int) := by rw [zI_lt] <;> omega
    obtain ⟨r, r2, res, x, I', J', M', p1, p2, p3, p4, p5, p6, p7, p8, p9⟩ := band_one hS0 hM0 hTM (n := n) (by omega) eI eJ' hB
    have us1 : qc_u2 M 0 30 (zI n) 2 7 = zI ((v_us V).val : Int) := by
      rw [u2_ne (by omega), hB.1 2 (by omega)]; exact hM0.1
    have xe : P_X6_leastBand_12 (g + 1) I J (zI n) = if zI res = zI 0 then some (zI n, I', J') else P_X6_leastBand_12 g I' J' (zI ((n : Int) + 1)) := by
      rw [P_X6_leastBand_12]
      simp only [zI_add, zI_sub, zI_mul, zI_neg, zL, if_neg c, p1, p2, p3, p4, Option.bind_some, qc_let]
    have me : P_X7_leastBand_14 (G + 1) M (zI (-2)) (zI n) = if zI x < zI 0 then P_X7_leastBand_14 G M' (zI (-2)) (zI ((n : Int) + 1)) else P_X7_leastBand_14 G M' (zI n) (zI ((n : Int) + 1)) := by
      rw [P_X7_leastBand_14]
      simp only [zI_add, zI_sub, zI_mul, zI_neg, zL, if_neg c, if_true, qc_let, P_X7_users, Option.bind_some, us1]
      rw [f1, p5, Option.bind_some]
      simp only [P_X7_leastBand_48, zI_add, zI_sub, zI_mul, zI_neg, zL, qc_let]
    rw [xe, me]
    rcases p6 with ⟨a1, a2, a3, _⟩ | ⟨a1, a2⟩
    · have k1 : zI res = zI 0 := by rw [a1]
      have k2 : ¬ zI x < zI 0 := by rw [zI_lt] <;> omega
      rw [if_pos k1, if_neg k2]
      obtain ⟨G2, rfl⟩ : ∃ G2, G = G2 + 1 := ⟨G - 1, by omega⟩
      have k3 : ¬ zI (n : Int) = zI (-2) := by rw [zI_eq] <;> omega
      have e : P_X7_leastBand_14 (G2 + 1) M' (zI n) (zI ((n : Int) + 1)) = some (zI n, toldM (cpM M' 13 15 0 0 79)) := by
        rw [P_X7_leastBand_14]
        simp only [zI_add, zI_sub, zI_mul, zI_neg, zL, if_neg k3, m_comesBack, Option.bind_some]
        split <;> rfl
      rw [e]
      exact ⟨_, _, _, _, rfl, rfl, p7, p8, eA_b hM0 hTM (eB_A p9)⟩
    · have k1 : ¬ zI res = zI 0 := by rw [zI_eq] <;> omega
      have k2 : zI x < zI 0 := by rw [zI_lt] <;> omega
      rw [if_neg k1, if_pos k2]
      have := ih (n + 1) g G I' J' M' (by omega) (by omega) (by omega) p7 p8 p9
      simpa only [zc_a, zc_l] using this
theorem st_24 : St_24 Rel := by
  intro I J w M ⟨V, n, h0⟩
  have h := RelV_0 h0 (zI 0)
  have h9 := (v_us V).isLt
  obtain ⟨G, g1, g2, g3, g4⟩ := x_great h.1 (by omega) (v_us V).val 0 qc_fu 0 (by omega) (by unfold qc_fu; omega) (by omega) (fun k hk => by omega) (Or.inl rfl)
  have hB : eB (qc_u2 M 0 0 (zI 0)) (cpM (qc_u2 M 0 0 (zI 0)) 15 13 0 0 79) := by
    have ea := eA_0 (qc_u2 M 0 0 (zI 0))
    refine ⟨ea.1, ea.2.1, ?_, ?_⟩
    · intro j _; rw [cpM_ne _ _ _ _ _ _ (by omega)]
    · intro j _ _ _ _ _; rw [cpM_ne _ _ _ _ _ _ (by omega)]
  have fin : ∃ y I' J' M', P_X6_leastBand_12 qc_fu I J (if zI 4 < zI (G : Nat) then zI (G : Nat) else zI 4) = some (y, I', J') ∧ P_X7_leastBand_14 qc_fu (cpM (qc_u2 M 0 0 (zI 0)) 15 13 0 0 79) (zI (-2)) (zI 4) = some (y, M') ∧ eX I I' ∧ eJ J J' ∧ eM (qc_u2 M 0 0 (zI 0)) M' := by
    by_cases c : 4 < G
    · rcases g4 with g4 | ⟨u, hu, e⟩
      · omega
      · obtain ⟨M', F', k1, k2, k3⟩ := m_band_dead h.1 h.2.1 h.2.2.1 hu (G - 4) 4 qc_fu (cpM (qc_u2 M 0 0 (zI 0)) 15 13 0 0 79) (by omega) (by unfold qc_fu; omega) hB
        have k1' : P_X7_leastBand_14 qc_fu (cpM (qc_u2 M 0 0 (zI 0)) 15 13 0 0 79) (zI (-2)) (zI 4) = _ := k1
        have hfu : qc_fu = 100000 := rfl
        rw [if_pos (by rw [zI_lt] <;> omega), k1', e]
        exact band_loop h.1 h.2.1 h.2.2.1 (61 - G) G qc_fu F' I J M' (by omega) (by omega) (by omega) (eX_r I) (eJ_r J) k2
    · rw [if_neg (by rw [zI_lt] <;> omega)]
      exact band_loop h.1 h.2.1 h.2.2.1 57 4 qc_fu qc_fu I J _ (by omega) (by unfold qc_fu; omega) (by unfold qc_fu; omega) (eX_r I) (eJ_r J) hB
  obtain ⟨y, I', J', M', p1, p2, p3, p4, p5⟩ := fin
  have g1' : P_X4_greatestLow_4 I 2 qc_fu (zI 0) (zI 0) = some (zI (G : Nat)) := g1
  unfold P_X6_leastBand P_X7_leastBand P_X4_greatestLow
  simp only [zI_add, zI_sub, zI_mul, zI_neg, zL, qc_let, m_goesAside, Option.bind_some]
  rw [g1', Option.bind_some]
  exact ⟨_, _, p1, p2, rfl, V, n, RelV_e p3 p4 p5 h⟩
