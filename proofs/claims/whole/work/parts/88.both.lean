theorem nf_unclean {V1 : sV} {u : Nat} (hu : u < (v_us V1).val) (h0 : (v_ch V1 u).val = 0) (hn : cleanS V1 = false) : ∀ (d c f L : Nat) (y : Fin 61) (M : Nat → Nat → Int32), (c + d = (v_hi V1 u).val + 1 ∨ (d = 0 ∧ (v_hi V1 u).val < c)) → c ≤ 61 → d < f → MX M (v_setch V1 u y) → M 0 42 = zI (L : Nat) → L + d < 600 → ∃ M' y', P_X7_nextFit_33 f M (zI u) (zI c) = some (zI 0, M') ∧ MX M' (v_setch V1 u y') ∧ eK M M' := by
  intro d
  induction d with
  | zero =>
    intro c f L y M hc hc2 hf hM hL hL2
    obtain ⟨g, rfl⟩ : ∃ g, f = g + 1 := ⟨f - 1, by omega⟩
    exact ⟨M, y, nf_end hM hu (by show (v_hi V1 u).val < c; omega) hc2, hM, eK_r M⟩
  | succ d ih =>
    intro c f L y M hc hc2 hf hM hL hL2
    obtain ⟨g, rfl⟩ : ∃ g, f = g + 1 := ⟨f - 1, by omega⟩
    obtain ⟨M6, e1, e2, e3, e4⟩ := nf_look hM (u := u) (c := c) hu (by show c ≤ (v_hi V1 u).val; omega) hL (by omega)
    rw [v_set2] at e2
    have e1' := e1 g
    rw [v_set2, unclean h0 hn, if_neg (show ¬ false = true by decide)] at e1'
    obtain ⟨M', y', k1, k2, k3⟩ := ih (c + 1) g (L + 1) (f61 c) M6 (by omega) (by omega) (by omega) e2 e3 (by omega)
    exact ⟨M', y', by rw [e1']; exact k1, k2, eK_t e4 k3⟩
theorem m_unclean {V1 : sV} {u F : Nat} {s : Int32} (hu : u < (v_us V1).val) (h0 : v_ch V1 u = 0) (hn : cleanS V1 = false) {M : Nat → Nat → Int32} (hM : MX M V1) (hL : M 0 42 = zI 0) (hx : P_X7_aheadOf s (zI u) = some (zI (-1))) : ∃ M', P_X7_searches_64 (F + 2) M s (zI u) = some (zI (-2), M') ∧ MX M' V1 ∧ eK M M' := by
  have h6 : (v_us V1).val ≤ 6 := hM.2.2.2.2.2.2.2.2.2.2.2.2.2.2.1
  have hl1 := hM.2.2.2.2.2.2.2.2.2.2.2.2.2.2.2 u hu
  have h0' : (v_ch V1 u).val = 0 := by rw [h0]; rfl
  have i0 : qc_in (zI (u : Int)) 79 := by simp (disch := omega) only [zI_add, zI_sub, zI_mul, zI_neg, zL, zI_le, zI_lt, zI_eq, zI_cl, zA0, zI_if, Int.toNat_natCast, zT_add, zT_mul, Int.reduceToNat, Nat.add_zero, Nat.zero_add, Int.add_zero, Int.zero_add, zc_a, zc_l, Option.bind_some, qc_let, qc_in, qc_bo, iteT, iteF, and_self, if_true, if_false, qG]; omega
  have r0 : (zI (u : Int)).toNatClampNeg = u := by rw [zI_cl (by omega) (by omega)]; omega
  have n1 : ¬ zI (u : Int) = zI (-1) := by rw [zI_eq] <;> omega
  have n2 : ¬ zI 6 ≤ zI (u : Int) := by rw [zI_le] <;> omega
  have hMI : MX M (v_setch V1 u (v_ch V1 u)) := by rw [v_setI]; exact hM
  have hfr : fromS V1 u = (v_lo V1 u).val := by unfold fromS; rw [if_pos h0']
  obtain ⟨M', y', k1, k2, k3⟩ := nf_unclean hu h0' hn ((v_hi V1 u).val + 1 - (v_lo V1 u).val) (v_lo V1 u).val qc_fu 0 (v_ch V1 u) M (by omega) (by omega) (by unfold qc_fu; omega) hMI hL (by omega)
  have e := nf_start hM hu
  rw [hfr, k1] at e
  have hM2 := MX_ch k2 (u := u) hu 0
  rw [v_set2, ← h0, v_setI] at hM2
  have hM3 : MX (qc_u2 M' 13 u (zI 0)) V1 := by
    rw [h0] at hM2
    exact hM2
  have z3 : ¬ zI 0 = zI (-3) := by decide
  refine ⟨qc_u2 M' 13 u (zI 0), ?_, hM3, eK_t k3 (eK_s M' (by omega) _)⟩
  rw [show F + 2 = (F + 1) + 1 from rfl, P_X7_searches_64]
  simp only [zI_add, zI_sub, zI_mul, zI_neg, zL, if_neg n1, if_neg n2, e, Option.bind_some, if_neg z3, Int.zero_add, if_pos i0, r0, qc_let, if_true, hx]
  rw [P_X7_searches_64]
  simp only [zI_add, zI_sub, zI_mul, zI_neg, zL, if_true]
  unfold P_X7_searches_127
  simp only [zI_add, zI_sub, zI_mul, zI_neg, zL, if_true]
  rfl
theorem tb_00 (u : Nat) : tb 0 u = false := by
  unfold tb
  rw [Nat.zero_shiftRight]
  rfl
theorem seek_both {V : sV} {s : Nat} (hs : s < 64) (hs2 : s < 2 ^ (v_us V).val) {I : Nat → Nat → Int32} {J : Nat → Nat → Int64} {M : Nat → Nat → Int32} (hS : SX I J 12 V) (hM : MX M V) : ∃ (res x : Int) (I' : Nat → Nat → Int32) (J' : Nat → Nat → Int64) (M' : Nat → Nat → Int32) (g' : Nat → Fin 61) (L' : Nat), P_X5_seek I J 12 (zI s) = some (zI res, I', J') ∧ P_X7_searches M (zI s) = some (zI x, M') ∧ SX I' J' 12 (v_chf V g') ∧ MX M' (v_chf V g') ∧ (∀ u, u < (v_us V).val → tb s u = false → g' u = v_ch V u) ∧ ((res = 0 ∧ x = (L' : Int) ∧ I' 33 2 = zI (L' : Nat) ∧ L' ≤ 600 ∧ ∀ u, u < (v_us V).val → tb s u = true → (v_lo V u).val ≤ (v_hi V u).val) ∨ (res = x ∧ (x = -2 ∨ x = -3) ∧ ∀ u, u < (v_us V).val → tb s u = true → (g' u).val = 0)) ∧ eX I I' ∧ eJ J J' ∧ eK M M' := by
  have h6 : (v_us V).val ≤ 6 := hM.2.2.2.2.2.2.2.2.2.2.2.2.2.2.1
  obtain ⟨I1, y1, y2, y3, y4, y5⟩ := x_unt hs h6 hS
  have hS1 : SX (qc_u2 I1 33 2 (zI 0)) J 12 (v_chf V (unf V s (v_us V).val)) := SX_e (fun t _ _ => u2_ne (by omega)) rfl y2
  obtain ⟨r, r1, r2, r3, r4⟩ := x_clean (p := 12) (by omega) hS1
  have hS2 : SX r.2.1 r.2.2 12 (v_chf V (unf V s (v_us V).val)) := SX_e (fun t _ _ => r3 t (by omega)) (r4 12 (by omega)) hS1
  have hW2 : WK r.2.1 (cf (tb s) (v_us V).val 0) := by
    unfold WK at *
    rw [r3 33 (by omega), r3 34 (by omega)]
    have q1 : qc_u2 I1 33 2 (zI 0) 33 1 = I1 33 1 := by rw [qG, if_neg (by omega)]
    have q2 : qc_u2 I1 33 2 (zI 0) 34 = I1 34 := by rw [u2_ne (by omega)]
    rw [q1, q2]
    exact y3
  have hL2 : r.2.1 33 2 = zI ((0 : Nat) : Int) := by
    rw [r3 33 (by omega), qG, if_pos ⟨rfl, rfl⟩]
    rfl
  have eI : eX I r.2.1 := by
    refine eX_m ?_
    intro t ht
    rw [r3 t (by omega), u2_ne (by omega), y4 t (by omega) (by omega) (by omega)]
  have inv3 : ∀ u, u < (v_us V).val → tb s u = false → unf V s (v_us V).val u = v_ch V u := by
    intro u hu ht
    unfold unf
    rw [if_neg (fun z => by rw [ht] at z; exact absurd z.2 (by decide))]
  have inv0 : ∀ u, u < (v_us V).val → tb s u = true → (unf V s (v_us V).val u).val = 0 := by
    intro u hu ht
    unfold unf
    rw [if_pos ⟨hu, ht⟩]
    rfl
  have hmem : ∀ i (h : i < (cf (tb s) (v_us V).val 0).length), (cf (tb s) (v_us V).val 0)[i] < (v_us V).val ∧ tb s (cf (tb s) (v_us V).val 0)[i] = true := by
    intro i h
    have := cf_mem _ _ _ (List.getElem_mem h)
    exact ⟨by omega, this.2.2⟩
  have xe : P_X5_seek I J 12 (zI s) = if cleanS (v_chf V (unf V s (v_us V).val)) = true then P_X5_seek_28 12 qc_fu r.2.1 r.2.2 (zI s) (zI ((0 : Nat) : Int)) (zI ((0 : Nat) : Int)) else some (zI (-2), r.2.1, r.2.2) := by
    unfold P_X5_seek
    simp only [zI_add, zI_sub, zI_mul, zI_neg, zL]
    rw [y1, Option.bind_some]
    simp only [qc_let]
    rw [r1, Option.bind_some, r2]
    simp only [bI_0]
    cases cleanS (v_chf V (unf V s (v_us V).val)) <;> rfl
  by_cases c0 : s = 0
  · subst c0
    have hV : v_chf V (unf V 0 (v_us V).val) = V := by
      have : unf V 0 (v_us V).val = v_ch V := by
        funext u
        unfold unf
        rw [if_neg (fun z => by rw [tb_00] at z; exact absurd z.2 (by decide))]
      rw [this, v_chI]
    have hM0 : MX (qc_u2 M 0 42 (zI 0)) V := MX_l hM _
    obtain ⟨m, m1, m2, m3⟩ := m_clean hM0
    have me : P_X7_searches M (zI ((0 : Nat) : Int)) = some (zI (if cleanS V = true then 0 else -2), m.2) := by
      unfold P_X7_searches
      simp only [zI_add, zI_sub, zI_mul, zI_neg, zL, qc_let]
      rw [if_pos (show zI ((0 : Nat) : Int) = zI 0 from rfl), m1, Option.bind_some, m2]
      simp only [bI_0]
      cases cleanS V <;> rfl
    have hlen : (cf (tb 0) (v_us V).val 0).length = 0 := (tb_0 ⟨(v_us V).val, by omega⟩ ⟨0, by omega⟩ hs2).2 rfl
    rw [hV] at xe hS2
    have eKm : eK M m.2 := eK_t (eK_l M _) (eK_P m3)
    have hMm : MX m.2 (v_chf V (v_ch V)) := by rw [v_chI]; exact MX_e (eP_M m3) hM0
    have hSm : SX r.2.1 r.2.2 12 (v_chf V (v_ch V)) := by rw [v_chI]; exact hS2
    cases ec : cleanS V
    · rw [ec] at xe me
      refine ⟨-2, -2, r.2.1, r.2.2, m.2, v_ch V, 0, ?_, ?_, hSm, hMm, fun _ _ _ => rfl, Or.inr ⟨rfl, Or.inl rfl, ?_⟩, eI, eJ_g r4, eKm⟩
      · rw [xe]; rfl
      · rw [me]; rfl
      · intro u _ ht; rw [tb_00] at ht; exact absurd ht (by decide)
    · rw [ec] at xe me
      refine ⟨0, 0, r.2.1, r.2.2, m.2, v_ch V, 0, ?_, ?_, hSm, hMm, fun _ _ _ => rfl, Or.inl ⟨rfl, rfl, hL2, by omega, fun u _ ht => by rw [tb_00] at ht; exact absurd ht (by decide)⟩, eI, eJ_g r4, eKm⟩
      · rw [xe, if_pos (show true = true from rfl)]
        obtain ⟨g, hg⟩ : ∃ g, qc_fu = g + 1 := ⟨99999, rfl⟩
        have w1 := hW2.1
        rw [hlen] at w1
        rw [hg, P_X5_seek_28]
        simp only [zL]
        rw [if_neg (by decide), if_neg (by decide), w1, if_pos (by decide)]
        exact x_168 (p := 0) (m := 0) w1 (by omega) (by omega) (by omega) (by omega)
      · rw [me]; rfl
  · have hpos : 0 < (cf (tb s) (v_us V).val 0).length := by
      have := tb_0 ⟨(v_us V).val, by omega⟩ ⟨s, hs⟩ hs2
      dsimp only at this
      omega
    have nx0 := nx_0 ⟨(v_us V).val, by omega⟩ ⟨s, hs⟩ hs2
    dsimp only at nx0
    obtain ⟨M1, k0, k1, k2, k3⟩ := m_srch32 (x := zI ((cf (tb s) (v_us V).val 0).getD 0 6 : Nat)) hs h6 (v_us V).val 0 qc_fu (qc_u2 M 0 42 (zI 0)) (by omega) (by unfold qc_fu; omega) (by rw [unf_0]; exact MX_l hM _)
    have hML : M1 0 42 = zI ((0 : Nat) : Int) := by
      rw [k3, qG, if_pos ⟨rfl, rfl⟩]
      rfl
    have me : P_X7_searches M (zI s) = P_X7_searches_64 qc_fu M1 (zI s) (zI ((cf (tb s) (v_us V).val 0).getD 0 6 : Nat)) := by
      unfold P_X7_searches
      simp only [zI_add, zI_sub, zI_mul, zI_neg, zL, qc_let]
      rw [if_neg (by rw [zI_eq] <;> omega), nx0, Option.bind_some]
      exact k0
    cases ec : cleanS (v_chf V (unf V s (v_us V).val))
    · rw [ec, if_neg (show ¬ false = true by decide)] at xe
      have hm0 := hmem 0 hpos
      have hgd : (cf (tb s) (v_us V).val 0).getD 0 6 = (cf (tb s) (v_us V).val 0)[0] := by
        rw [List.getD_eq_getElem?_getD, List.getElem?_eq_getElem hpos]
        rfl
      have nx2 := nx_2 ⟨(v_us V).val, by omega⟩ ⟨s, hs⟩ ⟨0, by omega⟩ hs2 hpos
      dsimp only at nx2
      rw [if_pos rfl, hgd] at nx2
      obtain ⟨F, hF⟩ : ∃ F, qc_fu = F + 2 := ⟨99998, rfl⟩
      obtain ⟨M', u1, u2, u3⟩ := m_unclean (F := F) (s := zI s) (V1 := v_chf V (unf V s (v_us V).val)) hm0.1 (by
        show unf V s (v_us V).val _ = 0
        unfold unf
        rw [if_pos ⟨hm0.1, hm0.2⟩]) ec k1 hML nx2
      refine ⟨-2, -2, r.2.1, r.2.2, M', unf V s (v_us V).val, 0, xe, ?_, hS2, u2, inv3, Or.inr ⟨rfl, Or.inl rfl, inv0⟩, eI, eJ_g r4, eK_t (eK_t (eK_l M _) k2) u3⟩
      rw [me, hF, hgd]
      exact u1
    · rw [ec, if_pos (show true = true from rfl)] at xe
      obtain ⟨res, x, I', J', M', g', L', q1, q2, q3, q4, q5, q6, q7, q8, q9⟩ := seek_loop hs hs2 h6 qc_fu qc_fu 0 0 0 (unf V s (v_us V).val) r.2.1 r.2.2 M1 (by unfold qc_fu; omega) (Nat.le_refl _) (by omega) (by omega) (by omega) (by omega) hS2 k1 hW2 hL2 hML (by
        intro i h _
        exact inv0 _ (hmem i h).1 (hmem i h).2) (by
        intro u hu ht
        exact Or.inl (inv0 u hu ht)) inv3 (fun i h hi => by omega)
      refine ⟨res, x, I', J', M', g', L', ?_, ?_, q3, q4, q5, ?_, eX_t eI q7, eJ_t (eJ_g r4) q8, eK_t (eK_t (eK_l M _) k2) q9⟩
      · rw [xe]; exact q1
      · rw [me]; exact q2
      · rcases q6 with ⟨a1, a2, a3, a4, _, a6⟩ | q6
        · exact Or.inl ⟨a1, a2, a3, a4, a6⟩
        · exact Or.inr q6
