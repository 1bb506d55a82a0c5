/-! LINES: a block -/
theorem x_52 {I : Nat → Nat → Int32} {last : Nat} (hl : last ≤ 60) : ∀ (d k f : Nat) (J : Nat → Nat → Int64), k + d = last + 1 → d < f → ∃ J', P_X3_readBlock_52 f I J (zI (last : Nat)) (zI (k : Nat)) = some (I, J') ∧ (∀ t, t ≠ 122 → J' t = J t) ∧ ∀ i, i < 64 → bJ (J' 122 6) i = (bJ (J 122 6) i || (decide (k ≤ i) && decide (i ≤ last))) := by
  intro d
  induction d with
  | zero =>
    intro k f J hk hf
    obtain ⟨g, rfl⟩ : ∃ g, f = g + 1 := ⟨f - 1, by omega⟩
    refine ⟨J, ?_, fun _ _ => rfl, ?_⟩
    · rw [P_X3_readBlock_52, if_pos (by rw [zI_lt] <;> omega)]
    · intro i hi
      by_cases c : k ≤ i
      · rw [decide_eq_false (show ¬ i ≤ last by omega), Bool.and_false, Bool.or_false]
      · rw [decide_eq_false c, Bool.false_and, Bool.or_false]
  | succ d ih =>
    intro k f J hk hf
    obtain ⟨g, rfl⟩ : ∃ g, f = g + 1 := ⟨f - 1, by omega⟩
    obtain ⟨J', e1, e2, e3⟩ := ih (k + 1) g (qc_u2 J 122 6 (J 122 6 ||| ((1 : Int64) <<< ((zI k).toInt64 &&& 63)))) (by omega) (by omega)
    refine ⟨J', ?_, ?_, ?_⟩
    · rw [P_X3_readBlock_52, if_neg (by rw [zI_lt] <;> omega), ← e1]
      simp only [qc_lE, zL, zI_add]
      rfl
    · intro t ht
      rw [e2 t ht]
      unfold qc_u2 qc_u
      rw [if_neg ht]
    · intro i hi
      rw [e3 i hi, qG, if_pos ⟨rfl, rfl⟩, bj_or _ (by omega) hi]
      by_cases c : i = k
      · rw [decide_eq_true c, decide_eq_true (show k ≤ i by omega), decide_eq_true (show i ≤ last by omega)]
        simp
      · rw [decide_eq_false c, Bool.or_false]
        by_cases c2 : k ≤ i
        · rw [decide_eq_true c2, decide_eq_true (show k + 1 ≤ i by omega)]
        · rw [decide_eq_false c2, decide_eq_false (show ¬ k + 1 ≤ i by omega)]
theorem m_57 {last bl : Nat} (hl : last ≤ 60) : ∀ (d k f : Nat) (M : Nat → Nat → Int32), k + d = last + 1 → d < f → M 2 18 = zI (bl : Nat) → ∃ M', P_X7_readBlock_57 f M (zI (last : Nat)) (zI (k : Nat)) = some M' ∧ (∀ t j, (t ≠ 12 ∨ j < 61) → (t ≠ 2 ∨ j ≠ 18) → M' t j = M t j) ∧ M' 2 18 = zI ((bl + 1 : Nat) : Int) ∧ ∀ i, i < 61 → M' 12 (61 + i) = if k ≤ i ∧ i ≤ last then zI 1 else M 12 (61 + i) := by
  have b8 : ∀ N : Nat → Nat → Int32, P_X7_reading N (zI 8) = some (N 2 18) := fun N => m_reading (j := 8) (by omega)
  have w8 : ∀ (N : Nat → Nat → Int32) (x : Int32), P_X7_reads N (zI 8) x = some (qc_u2 N 2 18 x) := fun N x => m_reads (j := 8) (by omega) x
  intro d
  induction d with
  | zero =>
    intro k f M hk hf hb
    obtain ⟨g, rfl⟩ : ∃ g, f = g + 1 := ⟨f - 1, by omega⟩
    refine ⟨qc_u2 M 2 18 (zI ((bl + 1 : Nat) : Int)), ?_, ?_, ?_, ?_⟩
    · rw [P_X7_readBlock_57, if_pos (by rw [zI_lt] <;> omega)]
      simp only [zL]
      rw [b8, Option.bind_some, w8, Option.bind_some, hb, zI_add]
      rfl
    · intro t j c1 c2
      rw [qG, if_neg (by omega)]
    · rw [qG, if_pos ⟨rfl, rfl⟩]
    · intro i hi
      rw [qG, if_neg (by omega), if_neg (by omega)]
  | succ d ih =>
    intro k f M hk hf hb
    obtain ⟨g, rfl⟩ : ∃ g, f = g + 1 := ⟨f - 1, by omega⟩
    obtain ⟨iq, rq⟩ := qi (q := 61 + k) (N := 122) (by omega) (by omega)
    have e61 : zI 61 + zI (k : Int) = zI ((61 + k : Nat) : Int) := by rw [zI_add]; rfl
    obtain ⟨M', e1, e2, e3, e4⟩ := ih (k + 1) g (qc_u2 M 12 (61 + k) (zI 1)) (by omega) (by omega) (by rw [qG, if_neg (by omega)]; exact hb)
    refine ⟨M', ?_, ?_, e3, ?_⟩
    · rw [P_X7_readBlock_57, if_neg (by rw [zI_lt] <;> omega), ← e1]
      simp only [zL]
      rw [e61]
      simp only [if_pos iq, rq, qc_lE, zI_add]
      have : vp_nar .boolean (zI 1) = zI 1 := by decide
      rw [this]
      rfl
    · intro t j c1 c2
      rw [e2 t j c1 c2, qG, if_neg (by omega)]
    · intro i hi
      rw [e4 i hi, qG]
      by_cases c : i = k
      · rw [if_neg (by omega), if_pos ⟨rfl, by omega⟩, if_pos (by omega)]
      · by_cases c2 : k ≤ i ∧ i ≤ last
        · rw [if_pos (by omega), if_pos c2]
        · rw [if_neg (by omega), if_neg (by omega), if_neg c2]
theorem ln_block {T : Nat → Int32} {B : Nat → Nat} {n A us bd bl : Nat} {I : Nat → Nat → Int32} {J : Nat → Nat → Int64} {M : Nat → Nat → Int32} (hT : TX T B n) (c : CX T n I M) (h : LSt B n A I M) (hS : SR us bd bl I J M) : ∃ I' J' M', P_X3_readBlock I J = some (I', J') ∧ P_X7_readBlock M = some M' ∧ (∀ t, t ≠ 122 → J' t = J t) ∧ LN B n (tE B n A) I I' J' M M' := by
  have hbl : I 121 10 = zI (bl : Nat) := hS.2.2.2.2.1.2.1
  have mbl : M 2 18 = zI (bl : Nat) := hS.2.2.2.2.1.2.2.1
  have l6 : bl ≤ 6 := hS.2.2.2.2.1.1
  have bd4 : 4 ≤ bd ∧ bd ≤ 60 := ⟨hS.2.2.1.1, hS.2.2.1.2.1⟩
  have ibd : I 122 1 = zI (bd : Nat) := hS.2.2.1.2.2.1
  have mbd : M 2 10 = zI (bd : Nat) := hS.2.2.1.2.2.2
  have fM0 : FM M (qc_u2 M 0 14 (zI 1)) := FM_u (FM_r M) (by omega) _
  have c0 : CX T n I (qc_u2 M 0 14 (zI 1)) := CX_F c (FI_r I) fM0
  have h0 : LSt B n A I (qc_u2 M 0 14 (zI 1)) := LSt_e (fun _ _ _ => rfl) (fun j _ _ => by rw [qG, if_neg (by omega)]) h
  have n0 : SRn us bd bl I J (qc_u2 M 0 14 (zI 1)) := SRn_0 (fun t j ht => by rw [qG, if_neg (by omega)]) (SR_n hS)
  have b8 : ∀ N : Nat → Nat → Int32, P_X7_reading N (zI 8) = some (N 2 18) := fun N => m_reading (j := 8) (by omega)
  have b0 : ∀ N : Nat → Nat → Int32, P_X7_reading N (zI 0) = some (N 2 10) := fun N => m_reading (j := 0) (by omega)
  have rdM : P_X7_readBlock M = if zI (bl : Nat) = zI 6 then (P_X7_wrong (qc_u2 M 0 14 (zI 1)) (zI 2)).bind fun q16 => P_X7_readBlock_21 q16 else P_X7_readBlock_21 (qc_u2 M 0 14 (zI 1)) := by
    unfold P_X7_readBlock
    simp only [zL, qc_lE]
    have e18 : qc_u2 M 0 14 (zI 1) 2 18 = zI (bl : Nat) := by rw [qG, if_neg (by omega)]; exact mbl
    rw [b8, Option.bind_some, e18]
  have rdX : P_X3_readBlock I J = if zI (bl : Nat) < zI 6 then P_X3_readBlock_14 I J else (P_X3_fail I (zI 2)).bind fun q8 => P_X3_readBlock_14 q8 J := by
    unfold P_X3_readBlock
    simp only [zL]
    rw [hbl]
  -- from the first number on
  have rest : ∀ (I1 M1 M2 : Nat → Nat → Int32), P_X7_goOn M1 = some M2 → FI I (qc_u2 I1 121 10 (zI ((bl + 1 : Nat) : Int))) → FM M M2 → I1 121 10 = zI (bl : Nat) → I1 122 1 = zI (bd : Nat) → M2 2 10 = zI (bd : Nat) → GQ B n (tE B n A) (fun I' M' => SRn us bd bl (qc_u2 I' 121 10 (zI (bl : Nat))) J M' ∧ M' 0 14 = zI 1 ∧ I' 121 10 = zI ((bl + 1 : Nat) : Int) ∧ bl < 6) (qc_u2 I1 121 10 (zI ((bl + 1 : Nat) : Int))) M2 → ∃ I' J' M', P_X3_readBlock_14 I1 J = some (I', J') ∧ P_X7_readBlock_21 M1 = some M' ∧ (∀ t, t ≠ 122 → J' t = J t) ∧ LN B n (tE B n A) I I' J' M M' := by
    intro I1 M1 M2 g1 F1 F2 i10 i1 m10 hG
    have hst : ∀ (I1 I2 M1 M2 : Nat → Nat → Int32), fX I1 I2 → gX M1 M2 → (SRn us bd bl (qc_u2 I1 121 10 (zI (bl : Nat))) J M1 ∧ M1 0 14 = zI 1 ∧ I1 121 10 = zI ((bl + 1 : Nat) : Int) ∧ bl < 6) → (SRn us bd bl (qc_u2 I2 121 10 (zI (bl : Nat))) J M2 ∧ M2 0 14 = zI 1 ∧ I2 121 10 = zI ((bl + 1 : Nat) : Int) ∧ bl < 6) := by
      intro I1 I2 M1 M2 a b ⟨z1, z2, z3, z4⟩
      refine ⟨SRn_f (fun t j cc => ?_) b z1, (b 0 14 (by omega)).trans z2, (a 121 10 (by omega)).trans z3, z4⟩
      rw [qG, qG]
      by_cases z : t = 121 ∧ j = 10
      · rw [if_pos z, if_pos z]
      · rw [if_neg z, if_neg z]; exact a t j cc
    obtain ⟨v, I3, M3, s1, s2, s3, s4, s5, s6, s7, s8⟩ := num_Q (a := 1) (b := bd) hst hT (CX_F c F1 F2) hG (by omega) (by omega)
    obtain ⟨w, I4, M4, t1, t2, t3, t4, t5, t6, t7, t8⟩ := num_Q (a := v) (b := bd) hst hT s7 s8 s4 (by omega)
    have i31 : I3 122 1 = zI (bd : Nat) := by rw [s5 122 1 (by omega), qG, if_neg (by omega)]; exact i1
    have m31 : M3 2 10 = zI (bd : Nat) := by rw [s6 2 10 (by omega)]; exact m10
    have s1' : P_X3_takeNumber (qc_u2 I1 121 10 (zI ((bl + 1 : Nat) : Int))) (zI 1) (zI (bd : Nat)) = some (zI (v : Nat), I3) := s1
    have s2' : P_X7_numeral M2 (zI 1) (zI (bd : Nat)) = some (zI (v : Nat), M3) := s2
    obtain ⟨J', x1, x2, x3⟩ := x_52 (I := I4) (last := w) (by omega) (w + 1 - v) v qc_fu J (by omega) (by unfold qc_fu; omega)
    have xr : P_X3_readBlock_14 I1 J = some (I4, J') := by
      unfold P_X3_readBlock_14
      simp only [zL, qc_lE]
      rw [i10, zI_add]
      show ((P_X3_takeNumber (qc_u2 I1 121 10 (zI ((bl + 1 : Nat) : Int))) (zI 1) (qc_u2 I1 121 10 (zI ((bl + 1 : Nat) : Int)) 122 1)).bind _) = _
      rw [qG, if_neg (by omega), i1, s1', Option.bind_some]
      dsimp only
      rw [i31, t1, Option.bind_some]
      exact x1
    have mr : ∀ N, (if M4 0 21 = zI 0 then P_X7_readBlock_57 qc_fu M4 (zI (w : Nat)) (zI (v : Nat)) else some M4) = some N → P_X7_readBlock_21 M1 = some N := by
      intro N hN
      unfold P_X7_readBlock_21
      simp only [zL]
      rw [g1, Option.bind_some, b0, Option.bind_some, m10, s2', Option.bind_some]
      dsimp only
      rw [b0, Option.bind_some, m31, t2, Option.bind_some]
      exact hN
    have G1 : FI I I4 := FI_t (FI_t F1 (FI_f s5)) (FI_f t5)
    have G2 : FM M M4 := FM_t (FM_t F2 (FM_g s6)) (FM_g t6)
    rcases t8 with t8 | ⟨A', a1, a2, r1, r2, r3, r4⟩
    · exact ⟨I4, J', M4, xr, mr M4 (if_neg (fl_m t8)), x2, G1, G2, us, bd, bl, Or.inl t8⟩
    · obtain ⟨h1, h2, h3, h4, h5, h6⟩ := r1
      obtain ⟨g1', g2', g3', sh, g4', g5', g6', g7'⟩ := h5
      obtain ⟨M5, y1, y2, y3, y4⟩ := m_57 (last := w) (bl := bl) (by omega) (w + 1 - v) v qc_fu M4 (by omega) (by unfold qc_fu; omega) g3'
      have nI : ∀ t j, (t ≠ 121 ∨ j ≠ 10) → I4 t j = qc_u2 I4 121 10 (zI (bl : Nat)) t j := fun t j z => by rw [qG, if_neg (by omega)]
      refine ⟨I4, J', M5, xr, mr M5 (by rw [if_pos a2.2.2.1]; exact y1), x2, G1, ?_, us, bd, bl + 1, Or.inr ⟨A', a1, ALt_e (fun _ _ _ => rfl) (fun j _ _ => y2 0 j (by omega) (by omega)) a2, SR_y ⟨?_, ?_, ?_, ?_, ?_, ?_⟩ ?_⟩⟩
      · intro t j z
        rw [y2 t j (by omega) (by omega)]
        exact G2 t j z
      · exact S1_c (fun j _ _ => nI 122 j (by omega)) (fun j => nI 123 j (by omega)) (fun j _ _ _ => y2 2 j (by omega) (by omega)) h1
      · exact T1_c (nI 121 11 (by omega)) (fun j => y2 3 j (by omega) (by omega)) h2
      · exact S2_c (nI 122 1 (by omega)) (y2 2 10 (by omega) (by omega)) h3
      · exact S3_c (fun t j _ _ => nI t j (by omega)) (nI 122 0 (by omega)) (nI 121 12 (by omega)) (nI 121 13 (by omega)) (fun t j _ _ => y2 t j (by omega) (by omega)) (y2 2 17 (by omega) (by omega)) h4
      · refine ⟨by omega, r3, y3, fun i => sh i || (decide (v ≤ i) && decide (i ≤ w)), ?_, ?_, ?_, fun z => by omega⟩
        · intro i hi
          rw [x3 i hi, g4' i hi]
        · intro i hi
          rw [y4 i hi, g5' i hi]
          show _ = bI (sh i || (decide (v ≤ i) && decide (i ≤ w)))
          by_cases cc : v ≤ i ∧ i ≤ w
          · rw [if_pos cc, decide_eq_true cc.1, decide_eq_true cc.2]
            simp [bI]
          · rw [if_neg cc]
            have : (decide (v ≤ i) && decide (i ≤ w)) = false := by
              rw [← Bool.decide_and]
              exact decide_eq_false cc
            rw [this, Bool.or_false]
        · intro i z hi
          show (sh i || (decide (v ≤ i) && decide (i ≤ w))) = false
          rw [g6' i z hi, Bool.false_or]
          rcases z with z | z
          · rw [decide_eq_false (show ¬ v ≤ i by omega), Bool.false_and]
          · rw [decide_eq_false (show ¬ i ≤ w by omega), Bool.and_false]
      · exact S5_c (fun j => nI 124 j (by omega)) (fun j => y2 11 j (by omega) (by omega)) h6
      · rw [y2 0 14 (by omega) (by omega), r2, decide_eq_true (by omega)]
        rfl
  by_cases c6 : bl = 6
  · obtain ⟨I1, M1, e1, e2, e3, e4, e5⟩ := both_fail h0 (k := zI 2) (by decide)
    obtain ⟨I', J', M', k1, k2, k3, k4⟩ := rest I1 M1 M1 (fl_goOn e3) (FI_u (FI_f e4) (by omega) _) (FM_t fM0 (FM_g e5)) ((e4 121 10 (by omega)).trans hbl) ((e4 122 1 (by omega)).trans ibd) (by rw [e5 2 10 (by omega), qG, if_neg (by omega)]; exact mbd) (Or.inl (FLt_c (fun j _ _ => by rw [qG, if_neg (by omega)]) (fun _ _ _ => rfl) e3))
    refine ⟨I', J', M', ?_, ?_, k3, k4⟩
    · rw [rdX, if_neg (by rw [zI_lt] <;> omega), e1, Option.bind_some, k1]
    · rw [rdM, if_pos (by rw [zI_eq] <;> omega), e2, Option.bind_some, k2]
  · obtain ⟨M2, m1, m2, m3⟩ := b_goOn hT c0 h0
    have e : qc_u2 (qc_u2 I 121 10 (zI ((bl + 1 : Nat) : Int))) 121 10 (zI (bl : Nat)) = I := by
      funext t k
      rw [qG, qG]
      by_cases z : t = 121 ∧ k = 10
      · rw [if_pos z, z.1, z.2, hbl]
      · rw [if_neg z, if_neg z]
    have hsr : SRn us bd bl (qc_u2 (qc_u2 I 121 10 (zI ((bl + 1 : Nat) : Int))) 121 10 (zI (bl : Nat))) J M2 := by
      rw [e]
      exact SRn_f (fX_r I) (gX_N m2) n0
    obtain ⟨I', J', M', k1, k2, k3, k4⟩ := rest I (qc_u2 M 0 14 (zI 1)) M2 m1 (FI_u (FI_r I) (by omega) _) (FM_t fM0 (FM_g (gX_N m2))) hbl ibd (by rw [m2 2 10 (by omega), qG, if_neg (by omega)]; exact mbd) (Or.inr ⟨_, Nat.le_refl _, ALt_e (fun j _ _ => by rw [qG, if_neg (by omega)]) (fun _ _ _ => rfl) m3, hsr, by rw [m2 0 14 (by omega), qG, if_pos ⟨rfl, rfl⟩], by rw [qG, if_pos ⟨rfl, rfl⟩], by omega⟩)
    refine ⟨I', J', M', ?_, ?_, k3, k4⟩
    · rw [rdX, if_pos (by rw [zI_lt] <;> omega), k1]
    · rw [rdM, if_neg (by rw [zI_eq] <;> omega), k2]
