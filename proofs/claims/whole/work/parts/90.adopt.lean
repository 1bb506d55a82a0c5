/-! WHAT WAS FOUND IS SO: complete -/
def eF (M0 M : Nat → Nat → Int32) : Prop := (∀ t, (t = 1 ∨ t = 2 ∨ t = 4 ∨ t = 5 ∨ t = 7 ∨ t = 8 ∨ t = 11 ∨ t = 14) → M t = M0 t) ∧ (∀ j, 6 ≤ j → M 13 j = M0 13 j) ∧ (∀ j, j ≠ 0 → j ≠ 41 → j ≠ 42 → j ≠ 44 → M 0 j = M0 0 j)
theorem eF_of {M0 M M' : Nat → Nat → Int32} (h : eM M0 M) (h' : eK M M') : eF M0 M' := ⟨fun t ht => by rw [h'.1 t (by omega) (by omega) (by omega)]; exact h.1 t (by omega), fun j hj => by rw [h'.2.1 j hj, h.1 13 (by omega)], fun j a b c d => by rw [h'.2.2 j b c]; exact h.2 j a b c d⟩
def swM (M : Nat → Nat → Int32) (n : Nat) : Nat → Nat → Int32 := qc_u (qc_u M 13 (va_cpy (M 15) (M 13) 0 0 n)) 15 (va_cpy (M 13) (M 15) 0 0 n)
theorem swM_13 (M : Nat → Nat → Int32) (n j : Nat) : swM M n 13 j = if j < n then M 15 j else M 13 j := by
  show va_cpy (M 15) (M 13) 0 0 n j = _
  exact cpy0 _ _ _ _
theorem swM_15 (M : Nat → Nat → Int32) (n j : Nat) : swM M n 15 j = if j < n then M 13 j else M 15 j := by
  show va_cpy (M 13) (M 15) 0 0 n j = _
  exact cpy0 _ _ _ _
theorem swM_ne (M : Nat → Nat → Int32) (n : Nat) {t : Nat} (h : t ≠ 13) (h' : t ≠ 15) : swM M n t = M t := by
  unfold swM qc_u
  rw [if_neg h', if_neg h]
theorem m_swapsIn {M : Nat → Nat → Int32} : P_X7_swapsIn M = (P_X7_remembers (swM M 79)).bind fun q2 => (P_X7_comesBack q2).bind fun q3 => some q3 := by
  have key : ∀ n, n ≤ 79 → it (fun i (X : Nat → Nat → Int32) => qc_u2 (qc_u2 X 13 i (X 15 i)) 15 i (X 13 i)) n 0 M = swM M n := by
    intro n
    induction n with
    | zero =>
      intro _
      funext t j
      by_cases c : t = 13
      · subst c; rw [swM_13, if_neg (by omega)]; rfl
      · by_cases d : t = 15
        · subst d; rw [swM_15, if_neg (by omega)]; rfl
        · rw [swM_ne M 0 c d]; rfl
    | succ n ih =>
      intro hn
      rw [it_snoc, ih (by omega), Nat.zero_add]
      funext t j
      rw [qG, qG]
      by_cases c : t = 13
      · subst c
        rw [if_neg (by omega), swM_13, swM_13, swM_15, if_neg (show ¬ n < n by omega)]
        by_cases e : j = n
        · rw [if_pos ⟨rfl, e⟩, if_pos (by omega), e]
        · rw [if_neg (fun z => e z.2)]
          by_cases g : j < n
          · rw [if_pos g, if_pos (by omega)]
          · rw [if_neg g, if_neg (by omega)]
      · by_cases d : t = 15
        · subst d
          rw [swM_15 M (n + 1)]
          by_cases e : j = n
          · rw [if_pos ⟨rfl, e⟩, if_pos (show j < n + 1 by omega), swM_13, if_neg (show ¬ n < n by omega), e]
          · rw [if_neg (fun z => e z.2), if_neg (fun z => c z.1), swM_15]
            by_cases g : j < n
            · rw [if_pos g, if_pos (by omega)]
            · rw [if_neg g, if_neg (by omega)]
        · rw [if_neg (fun z => d z.1), if_neg (fun z => c z.1), swM_ne M _ c d, swM_ne M _ c d]
  unfold P_X7_swapsIn
  simp only [zL]
  refine (it_run (fun f i X => P_X7_swapsIn_2 f X (zI i)) (fun i X => qc_u2 (qc_u2 X 13 i (X 15 i)) 15 i (X 13 i)) (fun X => (P_X7_remembers X).bind fun q2 => (P_X7_comesBack q2).bind fun q3 => some q3) 79 ?_ ?_ 79 0 qc_fu M (by omega) (by unfold qc_fu; omega)).trans ?_
  · intro f i X hi
    have i79 : qc_in (zI (i : Int)) 79 := by simp (disch := omega) only [zI_add, zI_sub, zI_mul, zI_neg, zL, zI_le, zI_lt, zI_eq, zI_cl, zA0, zI_if, Int.toNat_natCast, zT_add, zT_mul, Int.reduceToNat, Nat.add_zero, Nat.zero_add, Int.add_zero, Int.zero_add, zc_a, zc_l, Option.bind_some, qc_let, qc_in, qc_bo, iteT, iteF, and_self, if_true, if_false, qG]; omega
    have r79 : (zI (i : Int)).toNatClampNeg = i := by rw [zI_cl (by omega) (by omega)]; omega
    have k : ¬ zI 79 ≤ zI (i : Int) := by rw [zI_le] <;> omega
    rw [P_X7_swapsIn_2]
    simp only [zI_add, zI_sub, zI_mul, zI_neg, zL, if_neg k, if_pos i79, r79, qc_let, zc_a, zc_l]
  · intro f X
    rw [P_X7_swapsIn_2]
    simp only [zL]
    rw [if_pos (by decide)]
  · rw [key 79 (by omega)]
theorem adopt_both {V : sV} {n : Nat} {I I1 : Nat → Nat → Int32} {J J1 : Nat → Nat → Int64} {w : Nat → Nat} {M M1 : Nat → Nat → Int32} {g : Nat → Fin 61} (h : RelV V n I J w M) (eI : eX I I1) (eJ' : eJ J J1) (hA : eA M M1) (hF : eF M M1) (hS1 : SX I1 J1 12 (v_chf V g)) (hM1 : MX M1 (v_chf V g)) : ∃ I' J' w' M' n', P_X6_adoptTrial I1 J1 w = some (I', J', w') ∧ P_X7_swapsIn M1 = some M' ∧ RelV (v_chf V g) n' I' J' w' M' ∧ I' 33 2 = I1 33 2 := by
  have e2 : eM M (swM M1 79) := by
    refine ⟨?_, ?_⟩
    · intro t ht
      by_cases c : t = 13
      · subst c
        funext j
        rw [swM_13]
        by_cases cj : j < 79
        · rw [if_pos cj]; exact hA.2.1 j cj
        · rw [if_neg cj]; exact hA.2.2.1 j (by omega)
      · rw [swM_ne _ _ c (by omega)]; exact hF.1 t (by omega)
    · intro j a b c d
      rw [swM_ne _ _ (by omega) (by omega)]
      exact hF.2.2 j a b c d
  obtain ⟨I2, J2, w', M3, n', p1, p2, p3, p4, p5, p6, p7⟩ := push_rem (RelV_e eI eJ' e2 h)
  have hrow : ∀ j, j < 79 → toldM (cpM M3 13 15 0 0 79) 13 j = M1 13 j := by
    intro j hj
    unfold toldM
    rw [u2_ne (by omega), u2_ne (by omega), u2_ne (by omega), u2_ne (by omega), cpM_at, if_pos (by omega), Nat.sub_zero, Nat.zero_add, p7, swM_15, if_pos hj]
  have hne : ∀ t, t ≠ 0 → t ≠ 13 → toldM (cpM M3 13 15 0 0 79) t = M3 t := by
    intro t a b
    unfold toldM
    rw [u2_ne a, u2_ne a, u2_ne a, u2_ne a, cpM_ne _ _ _ _ _ _ b]
  have hsl : ∀ j, toldM (cpM M3 13 15 0 0 79) 0 j = M3 0 j := by
    intro j
    have hM3 := p3.2.1
    have hT3 := p3.2.2.1
    unfold toldM
    rw [qG, qG, qG, qG, cpM_ne (t := 0) _ _ _ _ _ _ (by omega), cpM_ne (t := 2) _ _ _ _ _ _ (by omega)]
    by_cases c33 : j = 33
    · rw [if_pos ⟨rfl, c33⟩, c33]; exact hT3.2.2.2.1.trans hM3.2.2.2.2.1.symm
    · rw [if_neg (by omega)]
      by_cases c32 : j = 32
      · rw [if_pos ⟨rfl, c32⟩, c32]; exact hT3.2.2.1.trans hM3.2.2.2.1.symm
      · rw [if_neg (by omega)]
        by_cases c31 : j = 31
        · rw [if_pos ⟨rfl, c31⟩, c31]; exact hT3.2.1.trans hM3.2.2.1.symm
        · rw [if_neg (by omega)]
          by_cases c30 : j = 30
          · rw [if_pos ⟨rfl, c30⟩, c30]; exact hT3.1.trans hM3.2.1.symm
          · rw [if_neg (by omega)]
  have hch19 : ∀ u, u < 8 → I2 19 u = zI (g u).val := by
    intro u hu
    rw [p5 19 (by omega) (by omega)]
    exact hS1.2.2.2.2.2.2.2.2.1 u hu
  refine ⟨qc_u I2 9 (va_cpy (I2 19) (I2 9) 0 0 8), J2, w', toldM (cpM M3 13 15 0 0 79), n', ?_, ?_, ?_, ?_⟩
  · unfold P_X6_adoptTrial P_X4_copyChannels
    rw [p1]
    rfl
  · rw [m_swapsIn, p2, Option.bind_some, m_comesBack]
    rfl
  · have iN : ∀ t, t ≠ 9 → qc_u I2 9 (va_cpy (I2 19) (I2 9) 0 0 8) t = I2 t := by
      intro t ht
      unfold qc_u
      rw [if_neg ht]
    obtain ⟨hS, hM, hT, hP, hH, hK, hW, hN⟩ := p3
    obtain ⟨xus, xbd, xgd, xsp, xod, xst, xlo, xhi, xch, xpw, xsl, xls, xlk, xsh⟩ := hS
    have hM0 := hM
    obtain ⟨mus, mbd, mgd, msp, mod, mst, mlo, mhi, mch, mpw, msl, mls, mlk, msh, m6, ml1⟩ := hM
    have hRR : ∀ q k, 37 ≤ q → IR I2 J2 M3 V q k → IR (qc_u I2 9 (va_cpy (I2 19) (I2 9) 0 0 8)) J2 (toldM (cpM M3 13 15 0 0 79)) (v_chf V g) q k := by
      intro q k hq hr
      unfold IR IX IM at *
      rw [iN _ (by omega), iN _ (by omega), iN _ (by omega), hne 14 (by omega) (by omega)]
      exact hr
    refine ⟨?_, ?_, ?_, ?_, ?_, ?_, hW, ?_⟩
    · refine ⟨?_, ?_, ?_, ?_, ?_, ?_, ?_, ?_, ?_, ?_, ?_, ?_, ?_, xsh⟩
      · rw [iN 2 (by omega)]; exact xus
      · rw [iN 2 (by omega)]; exact xbd
      · rw [iN 2 (by omega)]; exact xgd
      · rw [iN 2 (by omega)]; exact xsp
      · rw [iN 2 (by omega)]; exact xod
      · show ∀ u, u < 8 → qc_u I2 9 (va_cpy (I2 19) (I2 9) 0 0 8) 6 u = _; rw [iN 6 (by omega)]; exact xst
      · show ∀ u, u < 8 → qc_u I2 9 (va_cpy (I2 19) (I2 9) 0 0 8) 7 u = _; rw [iN 7 (by omega)]; exact xlo
      · show ∀ u, u < 8 → qc_u I2 9 (va_cpy (I2 19) (I2 9) 0 0 8) 8 u = _; rw [iN 8 (by omega)]; exact xhi
      · intro u hu
        show qc_u I2 9 (va_cpy (I2 19) (I2 9) 0 0 8) 9 u = zI ((g u).val : Int)
        rw [qc_u_s, cpyr _ _ hu]
        exact hch19 u hu
      · show ∀ u, u < 8 → qc_u I2 9 (va_cpy (I2 19) (I2 9) 0 0 8) 10 u = _; rw [iN 10 (by omega)]; exact xpw
      · show ∀ u, u < 8 → qc_u I2 9 (va_cpy (I2 19) (I2 9) 0 0 8) 11 u = _; rw [iN 11 (by omega)]; exact xsl
      · show ∀ u, u < 3 → qc_u I2 9 (va_cpy (I2 19) (I2 9) 0 0 8) 3 u = _; rw [iN 3 (by omega)]; exact xls
      · show ∀ u, u < 9 → qc_u I2 9 (va_cpy (I2 19) (I2 9) 0 0 8) 4 u = _; rw [iN 4 (by omega)]; exact xlk
    · unfold MX
      rw [hne 2 (by omega) (by omega), hne 5 (by omega) (by omega), hne 7 (by omega) (by omega), hne 8 (by omega) (by omega), hne 11 (by omega) (by omega), hsl 30, hsl 31, hsl 32, hsl 33]
      refine ⟨mus, mbd, mgd, msp, mod, mst, mlo, mhi, ?_, ?_, ?_, mls, mlk, ?_, m6, ml1⟩
      · intro u hu
        have hu' : u < (v_us V).val := hu
        rw [hrow u (by omega)]; exact hM1.2.2.2.2.2.2.2.2.1 u hu
      · intro u hu
        have hu' : u < (v_us V).val := hu
        rw [hrow _ (by omega)]; exact hM1.2.2.2.2.2.2.2.2.2.1 u hu
      · intro u hu
        have hu' : u < (v_us V).val := hu
        rw [hrow _ (by omega)]; exact hM1.2.2.2.2.2.2.2.2.2.2.1 u hu
      · intro c h1 h2
        have h2' : c ≤ (v_bd V).val := h2
        rw [hrow _ (by omega)]; exact hM1.2.2.2.2.2.2.2.2.2.2.2.2.2.1 c h1 h2
    · obtain ⟨t1, t2, t3, t4, t5, t6, t7, t8, t9⟩ := hT
      unfold TM
      rw [hne 2 (by omega) (by omega), hne 8 (by omega) (by omega)]
      refine ⟨t1, t2, t3, t4, t5, t6, t7, ?_, t9⟩
      intro c h1 h2
      have h1' : (v_bd V).val < c := h1
      rw [hrow _ (by omega), hF.2.1 _ (by omega)]
      exact h.2.2.1.2.2.2.2.2.2.2.1 c h1' h2
    · unfold TP at *
      rw [iN 0 (by omega), iN 1 (by omega), hne 1 (by omega) (by omega), hsl 2, hsl 23, hsl 24]
      exact hP
    · obtain ⟨a1, a2, a3, a4⟩ := hH
      refine ⟨a1, ?_, ?_, ?_⟩
      · rw [iN 35 (by omega)]; exact a2
      · rw [hsl 28]; exact a3
      · intro k hk
        exact hRR _ _ (hW.2.1 k (by omega)).1 (a4 k hk)
    · obtain ⟨b, b1, b2, b3⟩ := hK
      refine ⟨b, ?_, ?_, fun hb => hRR _ _ (by omega) (b3 hb)⟩
      · rw [iN 0 (by omega)]; exact b1
      · rw [hsl 29]; exact b2
    · unfold NM at *
      rw [iN 2 (by omega), iN 5 (by omega), iN 14 (by omega), hne 2 (by omega) (by omega), hne 4 (by omega) (by omega)]
      exact hN
  · show qc_u I2 9 _ 33 2 = _
    unfold qc_u
    rw [if_neg (by omega), p4]
theorem st_8 : St_8 Rel := by
  intro I J w M ⟨V, n, h0⟩
  have h := RelV_0 h0 (zI 0)
  obtain ⟨r, r1, r2, r3, r4, r5⟩ := x_copy h.1
  obtain ⟨s, res, x, I', J', M', g', L', p1, p2, p3, p4, p5, p6, p7, p8, p9, p10⟩ := plan_both r2 (MX_aside h.2.1)
  have eI := eX_t (eX_c r2 r4) p8
  have eJ' := eJ_t (eJ_c r5) p9
  have hA := eA_K (eA_0 (qc_u2 M 0 0 (zI 0))) p10
  have hR := RelV_e eI eJ' (eA_b h.2.1 h.2.2.1 hA) h
  have ea : eM (qc_u2 M 0 0 (zI 0)) (cpM (qc_u2 M 0 0 (zI 0)) 15 13 0 0 79) := ⟨fun t ht => cpM_ne _ _ _ _ _ _ (by omega), fun j _ _ _ _ => by rw [cpM_ne _ _ _ _ _ _ (by omega)]⟩
  unfold P_X6_complete P_X7_complete P_X6_planAll
  simp only [zI_add, zI_sub, zI_mul, zI_neg, zL, qc_let]
  rw [r1, m_goesAside]
  simp only [Option.bind_some]
  rw [p1, p2]
  simp only [Option.bind_some]
  rw [p3, p4]
  simp only [Option.bind_some]
  rcases p7 with ⟨a1, a2, a3, a4⟩ | ⟨a1, a2⟩
  · have k1 : zI res = zI 0 := by rw [a1]
    rw [if_pos k1, a3]
    by_cases c : L' = 0
    · have k2 : zI (L' : Int) ≤ zI 0 := by rw [zI_le] <;> omega
      have k3 : ¬ zI 0 < zI x := by rw [zI_lt] <;> omega
      rw [if_pos k2, if_neg k3, m_comesBack, a2]
      exact ⟨_, _, rfl, rfl, rfl, V, n, hR⟩
    · have k2 : ¬ zI (L' : Int) ≤ zI 0 := by rw [zI_le] <;> omega
      have k3 : zI 0 < zI x := by rw [zI_lt] <;> omega
      obtain ⟨I3, J3, w3, M3, n3, q1, q2, q3, q4⟩ := adopt_both h eI eJ' hA (eF_of ea p10) p5 p6
      rw [if_neg k2, if_pos k3, q1, q2, a2]
      refine ⟨_, _, rfl, rfl, ?_, _, _, q3⟩
      show I3 33 2 = zI (L' : Int)
      rw [q4, a3]
  · have k1 : ¬ zI res = zI 0 := by rw [zI_eq] <;> omega
    have k3 : ¬ zI 0 < zI x := by rw [zI_lt] <;> omega
    rw [if_neg k1, if_neg k3, m_comesBack, a1]
    exact ⟨_, _, rfl, rfl, rfl, V, n, hR⟩
