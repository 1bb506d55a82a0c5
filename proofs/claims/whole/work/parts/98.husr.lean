theorem SRn_0 {us bd bl : Nat} {I : Nat → Nat → Int32} {J : Nat → Nat → Int64} {M M' : Nat → Nat → Int32} (hM : ∀ t j, t ≠ 0 → M' t j = M t j) (h : SRn us bd bl I J M) : SRn us bd bl I J M' := by
  obtain ⟨h1, h2, h3, h4, h5, h6⟩ := h
  exact ⟨S1_c (fun _ _ _ => rfl) (fun _ => rfl) (fun j _ _ _ => hM 2 j (by omega)) h1, T1_c rfl (fun j => hM 3 j (by omega)) h2, S2_c rfl (hM 2 10 (by omega)) h3, S3_c (fun _ _ _ _ => rfl) rfl rfl rfl (fun t j _ _ => hM t j (by omega)) (hM 2 17 (by omega)) h4, S4_c rfl (hM 2 18 (by omega)) rfl (fun j => hM 12 j (by omega)) h5, S5_c (fun _ => rfl) (fun j => hM 11 j (by omega)) h6⟩
theorem tok_goOn {M M' : Nat → Nat → Int32} (h : M 0 21 = zI 0) (e : P_X7_goOn M = some M') : P_X7_token M = some M' := by
  unfold P_X7_goOn at e
  simp only [zL] at e
  rw [if_pos h] at e
  cases x : P_X7_token M with
  | none => rw [x] at e; cases e
  | some y => rw [x] at e; exact e
/-- one number of a user, told and laid in both -/
theorem ustep {T : Nat → Int32} {B : Nat → Nat} {n p us bd a b t mt : Nat} {P : (Nat → Nat → Int32) → (Nat → Nat → Int32) → Prop} {P' : Nat → (Nat → Nat → Int32) → (Nat → Nat → Int32) → Prop} {I0 M0 I M : Nat → Nat → Int32} (hP : ∀ I I' M M', fX I I' → gX M M' → P I M → P I' M') (hW : ∀ (v : Nat) (I M : Nat → Nat → Int32), a ≤ v → v ≤ b → P I M → P' v (qc_u2 I t us (zI (v : Nat))) (qc_u2 M mt (6 + us) (zI (v : Nat)))) (ht : 124 < t) (hmt : 4 ≤ mt ∧ mt ≤ 10) (hT : TX T B n) (c : CX T n I M) (h : GQ B n p P I M) (hK : I 122 1 = zI (bd : Nat) ∧ I 122 0 = zI (us : Nat) ∧ M 2 10 = zI (bd : Nat) ∧ M 2 17 = zI (us : Nat)) (f1 : FI I0 I) (f2 : FM M0 M) (hab : a ≤ b) (hb : b ≤ 99999) : ∃ (v : Nat) (I' M' : Nat → Nat → Int32), P_X3_takeNumber I (zI (a : Nat)) (zI (b : Nat)) = some (zI (v : Nat), I') ∧ P_X7_numeral M (zI (a : Nat)) (zI (b : Nat)) = some (zI (v : Nat), M') ∧ a ≤ v ∧ v ≤ b ∧ CX T n (qc_u2 I' t us (zI (v : Nat))) (qc_u2 M' mt (6 + us) (zI (v : Nat))) ∧ GQ B n p (P' v) (qc_u2 I' t us (zI (v : Nat))) (qc_u2 M' mt (6 + us) (zI (v : Nat))) ∧ (qc_u2 I' t us (zI (v : Nat)) 122 1 = zI (bd : Nat) ∧ qc_u2 I' t us (zI (v : Nat)) 122 0 = zI (us : Nat) ∧ qc_u2 M' mt (6 + us) (zI (v : Nat)) 2 10 = zI (bd : Nat) ∧ qc_u2 M' mt (6 + us) (zI (v : Nat)) 2 17 = zI (us : Nat)) ∧ FI I0 (qc_u2 I' t us (zI (v : Nat))) ∧ FM M0 (qc_u2 M' mt (6 + us) (zI (v : Nat))) := by
  obtain ⟨v, I', M', e1, e2, e3, e4, e5, e6, e7, e8⟩ := num_Q hP hT c h hab hb
  have k1 : FI I' (qc_u2 I' t us (zI (v : Nat))) := FI_u (FI_r I') (by omega) _
  have k2 : FM M' (qc_u2 M' mt (6 + us) (zI (v : Nat))) := FM_u (FM_r M') (by omega) _
  refine ⟨v, I', M', e1, e2, e3, e4, CX_F e7 k1 k2, GQ_u (fun j _ _ => by rw [qG, if_neg (by omega)]) (fun j _ _ => by rw [qG, if_neg (by omega)]) (hW v I' M' e3 e4) e8, ⟨?_, ?_, ?_, ?_⟩, FI_t (FI_t f1 (FI_f e5)) k1, FM_t (FM_t f2 (FM_g e6)) k2⟩
  · rw [qG, if_neg (by omega), e5 122 1 (by omega)]; exact hK.1
  · rw [qG, if_neg (by omega), e5 122 0 (by omega)]; exact hK.2.1
  · rw [qG, if_neg (by omega), e6 2 10 (by omega)]; exact hK.2.2.1
  · rw [qG, if_neg (by omega), e6 2 17 (by omega)]; exact hK.2.2.2
theorem ln_user {T : Nat → Int32} {B : Nat → Nat} {n A us bd bl : Nat} {I : Nat → Nat → Int32} {J : Nat → Nat → Int64} {M : Nat → Nat → Int32} (hT : TX T B n) (c : CX T n I M) (h : LSt B n A I M) (hS : SR us bd bl I J M) : ∃ I' M', P_X3_readUser I = some I' ∧ P_X7_readUser M = some M' ∧ LN B n (tE B n A) I I' J M M' := by
  have hus : I 122 0 = zI (us : Nat) := hS.2.2.2.1.2.1
  have mus : M 2 17 = zI (us : Nat) := hS.2.2.2.1.2.2.1
  have u6 : us ≤ 6 := hS.2.2.2.1.1
  have fM0 : FM M (qc_u2 M 0 14 (zI 1)) := FM_u (FM_r M) (by omega) _
  have c0 : CX T n I (qc_u2 M 0 14 (zI 1)) := CX_F c (FI_r I) fM0
  have h0 : LSt B n A I (qc_u2 M 0 14 (zI 1)) := LSt_e (fun _ _ _ => rfl) (fun j _ _ => by rw [qG, if_neg (by omega)]) h
  have n0 : SRn us bd bl I J (qc_u2 M 0 14 (zI 1)) := SRn_0 (fun t j ht => by rw [qG, if_neg (by omega)]) (SR_n hS)
  have r7 := m_reading (M := qc_u2 M 0 14 (zI 1)) (j := 7) (by omega)
  have r7' : P_X7_reading (qc_u2 M 0 14 (zI 1)) (zI 7) = some (zI (us : Nat)) := by
    have e : qc_u2 M 0 14 (zI 1) 2 17 = zI (us : Nat) := by rw [qG, if_neg (by omega)]; exact mus
    rw [← e]
    exact r7
  have e6 : zI 6 + zI (us : Int) = zI ((6 + us : Nat) : Int) := by rw [zI_add]; rfl
  have rdM : P_X7_readUser M = if zI ((6 + us : Nat) : Int) = zI 12 then (P_X7_wrong (qc_u2 M 0 14 (zI 1)) (zI 2)).bind fun q38 => P_X7_readUser_26 q38 (zI ((6 + us : Nat) : Int)) else P_X7_readUser_26 (qc_u2 M 0 14 (zI 1)) (zI ((6 + us : Nat) : Int)) := by
    unfold P_X7_readUser
    simp only [zL, qc_lE]
    rw [r7', Option.bind_some, e6]
  generalize hM0 : qc_u2 M 0 14 (zI 1) = M0 at *
  have m014 : M0 0 14 = zI 1 := by rw [← hM0, qG, if_pos ⟨rfl, rfl⟩]
  by_cases c6 : us = 6
  · obtain ⟨I1, M1, e1, e2, e3, e4, e5⟩ := both_fail h0 (k := zI 2) (by decide)
    refine ⟨I1, M1, ?_, ?_, FI_f e4, FM_t fM0 (FM_g e5), us, bd, bl, Or.inl e3⟩
    · unfold P_X3_readUser
      simp only [zL, qc_lE]
      rw [hus, if_neg (by rw [zI_lt] <;> omega), e1]
      rfl
    · rw [rdM, if_pos (by rw [zI_eq] <;> omega), e2, Option.bind_some]
      unfold P_X7_readUser_26
      rw [fl_goOn e3, Option.bind_some]
      simp only [zL]
      rw [if_neg (fl_m e3)]
  have us5 : us < 6 := by omega
  obtain ⟨M1, m1, m2, m3⟩ := b_goOn hT c0 h0
  have c1 : CX T n I M1 := CX_f c0 (fX_r I) (gX_N m2)
  have n1 : SRn us bd bl I J M1 := SRn_f (fX_r I) (gX_N m2) n0
  have f1 : FM M M1 := FM_t fM0 (FM_g (gX_N m2))
  have m114 : M1 0 14 = zI 1 := by rw [m2 0 14 (by omega)]; exact m014
  obtain ⟨q, q2, q3, q4⟩ := x_name hT c1 m3
  have nq : SRn us bd bl q J M1 := SRn_f (fX_N q2) (gX_r M1) n1
  have m117 : M1 2 17 = zI (us : Nat) := nq.2.2.2.1.2.2.1
  have r17 := m_reading (M := M1) (j := 7) (by omega)
  have r17' : P_X7_reading M1 (zI 7) = some (zI (us : Nat)) := by
    rw [← m117]
    exact r17
  have e26 : P_X7_readUser_26 M0 (zI ((6 + us : Nat) : Int)) = if M1 0 19 = zI 1 then (P_X7_namedAt M1 (zI 6) (zI (us : Nat)) (M1 0 20)).bind fun q30 => if q30 = -zI 1 then P_X7_readUser_79 M1 (zI ((6 + us : Nat) : Int)) else (P_X7_wrong M1 (zI 3)).bind fun q32 => P_X7_readUser_79 q32 (zI ((6 + us : Nat) : Int)) else (P_X7_wrong M1 (zI 1)).bind fun q33 => P_X7_readUser_79 q33 (zI ((6 + us : Nat) : Int)) := by
    unfold P_X7_readUser_26
    rw [m1, Option.bind_some]
    simp only [zL]
    rw [if_pos m3.2.2.1, r17', Option.bind_some]
  have rdM' : P_X7_readUser M = P_X7_readUser_26 M0 (zI ((6 + us : Nat) : Int)) := by rw [rdM, if_neg (by rw [zI_eq] <;> omega)]
  have rdX : P_X3_readUser I = (P_X3_takeName I).bind fun q21 => (P_X4_userOfName q21.2 122 q21.1).bind fun q22 => if q22 < zI 0 then P_X3_readUser_41 q21.2 (zI (us : Nat)) q21.1 else (P_X3_fail q21.2 (zI 3)).bind fun q24 => P_X3_readUser_41 q24 (zI (us : Nat)) q21.1 := by
    unfold P_X3_readUser
    simp only [zL, qc_lE]
    rw [hus, if_pos (by rw [zI_lt] <;> omega)]
  have f79 : ∀ M2 : Nat → Nat → Int32, M2 0 21 ≠ zI 0 → ∀ x, P_X7_readUser_79 M2 x = some M2 := by
    intro M2 h2 x
    unfold P_X7_readUser_79
    simp only [zL]
    rw [if_neg h2]
  rw [rdX, rdM', e26]
  have flt : ∀ k : Int32, k ≠ zI 0 → ∃ I2 M2, P_X3_fail q k = some I2 ∧ P_X7_wrong M1 k = some M2 ∧ FLt I2 M2 ∧ fX q I2 ∧ gX M1 M2 := fun k hk => both_fail q3 hk
  rcases q4 with ⟨k1, v, v1, v2, v3, v4⟩ | ⟨k1, k2⟩
  · -- a name
    rw [v4, Option.bind_some, if_pos k1, v3]
    dsimp only
    rcases both_named u6 nq.2.2.2.1.2.1 (fun u hu => (nq.2.2.2.1.2.2.2.1 u hu).1) (zI (v : Nat)) with ⟨w1, w2, w3⟩ | ⟨u, w0, w1, w2, w3⟩
    · -- a new one
      rw [w1, w2, Option.bind_some, Option.bind_some, if_pos (show zI (-1) < zI 0 by decide), if_pos (show zI (-1) = -zI 1 by decide)]
      obtain ⟨iq, rq⟩ := qi (q := us) (N := 8) (by omega) (by omega)
      obtain ⟨jq, sq⟩ := qi (q := 6 + us) (N := 12) (by omega) (by omega)
      have F1 : FI I (qc_u2 q 125 us (zI (v : Nat))) := FI_u (FI_f (fX_N q2)) (by omega) _
      have F2 : FM M (qc_u2 M1 4 (6 + us) (zI (v : Nat))) := FM_u f1 (by omega) _
      have cq : CX T n (qc_u2 q 125 us (zI (v : Nat))) (qc_u2 M1 4 (6 + us) (zI (v : Nat))) := CX_F c F1 F2
      have lq : LSt B n (tE B n A) (qc_u2 q 125 us (zI (v : Nat))) (qc_u2 M1 4 (6 + us) (zI (v : Nat))) := LSt_e (fun j _ _ => by rw [qG, if_neg (by omega)]) (fun j _ _ => by rw [qG, if_neg (by omega)]) q3
      obtain ⟨M2, g1, g2, g3⟩ := b_goOn hT cq lq
      have g1' := tok_goOn lq.2.2.1 g1
      have tb := tok_b B m3.1
      have P0 : GQ B n (tE B n A) (fun I M => SRn us bd bl I J M ∧ M 0 14 = zI 1 ∧ I 125 us = zI (v : Nat) ∧ M 4 (6 + us) = zI (v : Nat)) (qc_u2 q 125 us (zI (v : Nat))) M2 := by
        refine Or.inr ⟨_, Nat.le_trans tb.1 tb.2.1, g3, SRn_f (fX_r _) (gX_N g2) (SRn_M (by omega) (SRn_I (by omega) ⟨by omega, by omega, by omega, by omega, by omega⟩ nq)), ?_, by rw [qG, if_pos ⟨rfl, rfl⟩], ?_⟩
        · rw [g2 0 14 (by omega), qG, if_neg (by omega)]; exact m114
        · rw [g2 4 (6 + us) (by omega), qG, if_pos ⟨rfl, rfl⟩]
      have hK0 : qc_u2 q 125 us (zI (v : Nat)) 122 1 = zI (bd : Nat) ∧ qc_u2 q 125 us (zI (v : Nat)) 122 0 = zI (us : Nat) ∧ M2 2 10 = zI (bd : Nat) ∧ M2 2 17 = zI (us : Nat) := by
        refine ⟨?_, ?_, ?_, ?_⟩
        · rw [qG, if_neg (by omega)]; exact nq.2.2.1.2.2.1
        · rw [qG, if_neg (by omega)]; exact nq.2.2.2.1.2.1
        · rw [g2 2 10 (by omega), qG, if_neg (by omega)]; exact nq.2.2.1.2.2.2
        · rw [g2 2 17 (by omega), qG, if_neg (by omega)]; exact m117
      have bd4 : 4 ≤ bd ∧ bd ≤ 60 := ⟨nq.2.2.1.1, nq.2.2.1.2.1⟩
      obtain ⟨s, I3, M3, s1, s2, s3, s4, s5, s6, s7, s8, s9⟩ := ustep (a := 0) (b := 2) (t := 126) (mt := 5) (P' := fun s I M => SRn us bd bl I J M ∧ M 0 14 = zI 1 ∧ I 125 us = zI (v : Nat) ∧ M 4 (6 + us) = zI (v : Nat) ∧ I 126 us = zI (s : Nat) ∧ M 5 (6 + us) = zI (s : Nat)) (fun I I' M M' a b ⟨z1, z2, z3, z4⟩ => ⟨SRn_f a b z1, (b 0 14 (by omega)).trans z2, (a 125 us (by omega)).trans z3, (b 4 _ (by omega)).trans z4⟩) (fun v I M a b ⟨z1, z2, z3, z4⟩ => ⟨SRn_M (by omega) (SRn_I (by omega) ⟨fun _ => ⟨⟨v, by omega⟩, rfl⟩, by omega, by omega, by omega, by omega⟩ z1), by rw [qG, if_neg (by omega)]; exact z2, by rw [qG, if_neg (by omega)]; exact z3, by rw [qG, if_neg (by omega)]; exact z4, by rw [qG, if_pos ⟨rfl, rfl⟩], by rw [qG, if_pos ⟨rfl, rfl⟩]⟩) (by omega) (by omega) hT (CX_F cq (FI_r _) (FM_g (gX_N g2))) P0 hK0 F1 (FM_t F2 (FM_g (gX_N g2))) (by omega) (by omega)
      obtain ⟨w, I4, M4, x1, x2, x3, x4, x5, x6, x7, x8, x9⟩ := ustep (a := 0) (b := 30) (t := 130) (mt := 6) (P' := fun w I M => SRn us bd bl I J M ∧ M 0 14 = zI 1 ∧ I 125 us = zI (v : Nat) ∧ M 4 (6 + us) = zI (v : Nat) ∧ I 126 us = zI (s : Nat) ∧ M 5 (6 + us) = zI (s : Nat) ∧ I 130 us = zI (w : Nat) ∧ M 6 (6 + us) = zI (w : Nat)) (fun I I' M M' a b ⟨z1, z2, z3, z4, z5, z6⟩ => ⟨SRn_f a b z1, (b 0 14 (by omega)).trans z2, (a 125 us (by omega)).trans z3, (b 4 _ (by omega)).trans z4, (a 126 us (by omega)).trans z5, (b 5 _ (by omega)).trans z6⟩) (fun w I M a b ⟨z1, z2, z3, z4, z5, z6⟩ => ⟨SRn_M (by omega) (SRn_I (by omega) ⟨by omega, fun _ => ⟨⟨w, by omega⟩, rfl⟩, by omega, by omega, by omega⟩ z1), by rw [qG, if_neg (by omega)]; exact z2, by rw [qG, if_neg (by omega)]; exact z3, by rw [qG, if_neg (by omega)]; exact z4, by rw [qG, if_neg (by omega)]; exact z5, by rw [qG, if_neg (by omega)]; exact z6, by rw [qG, if_pos ⟨rfl, rfl⟩], by rw [qG, if_pos ⟨rfl, rfl⟩]⟩) (by omega) (by omega) hT s5 s6 s7 s8 s9 (by omega) (by omega)
      obtain ⟨lo, I5, M5, y1, y2, y3, y4, y5, y6, y7, y8, y9⟩ := ustep (a := 1) (b := bd) (t := 127) (mt := 7) (P' := fun lo I M => SRn us bd bl I J M ∧ M 0 14 = zI 1 ∧ I 125 us = zI (v : Nat) ∧ M 4 (6 + us) = zI (v : Nat) ∧ I 126 us = zI (s : Nat) ∧ M 5 (6 + us) = zI (s : Nat) ∧ I 130 us = zI (w : Nat) ∧ M 6 (6 + us) = zI (w : Nat) ∧ I 127 us = zI (lo : Nat) ∧ M 7 (6 + us) = zI (lo : Nat)) (fun I I' M M' a b ⟨z1, z2, z3, z4, z5, z6, z7, z8⟩ => ⟨SRn_f a b z1, (b 0 14 (by omega)).trans z2, (a 125 us (by omega)).trans z3, (b 4 _ (by omega)).trans z4, (a 126 us (by omega)).trans z5, (b 5 _ (by omega)).trans z6, (a 130 us (by omega)).trans z7, (b 6 _ (by omega)).trans z8⟩) (fun lo I M a b ⟨z1, z2, z3, z4, z5, z6, z7, z8⟩ => ⟨SRn_M (by omega) (SRn_I (by omega) ⟨by omega, by omega, fun _ => ⟨⟨lo, by omega⟩, rfl⟩, by omega, by omega⟩ z1), by rw [qG, if_neg (by omega)]; exact z2, by rw [qG, if_neg (by omega)]; exact z3, by rw [qG, if_neg (by omega)]; exact z4, by rw [qG, if_neg (by omega)]; exact z5, by rw [qG, if_neg (by omega)]; exact z6, by rw [qG, if_neg (by omega)]; exact z7, by rw [qG, if_neg (by omega)]; exact z8, by rw [qG, if_pos ⟨rfl, rfl⟩], by rw [qG, if_pos ⟨rfl, rfl⟩]⟩) (by omega) (by omega) hT x5 x6 x7 x8 x9 (by omega) (by omega)
      obtain ⟨hi, I6, M6, z1, z2, z3, z4, z5, z6, z7, z8, z9⟩ := ustep (a := lo) (b := bd) (t := 128) (mt := 8) (P' := fun hi I M => SRn us bd bl I J M ∧ M 0 14 = zI 1 ∧ I 125 us = zI (v : Nat) ∧ M 4 (6 + us) = zI (v : Nat) ∧ I 126 us = zI (s : Nat) ∧ M 5 (6 + us) = zI (s : Nat) ∧ I 130 us = zI (w : Nat) ∧ M 6 (6 + us) = zI (w : Nat) ∧ I 127 us = zI (lo : Nat) ∧ M 7 (6 + us) = zI (lo : Nat) ∧ I 128 us = zI (hi : Nat) ∧ M 8 (6 + us) = zI (hi : Nat)) (fun I I' M M' a b ⟨z1, z2, z3, z4, z5, z6, z7, z8, z9, z10⟩ => ⟨SRn_f a b z1, (b 0 14 (by omega)).trans z2, (a 125 us (by omega)).trans z3, (b 4 _ (by omega)).trans z4, (a 126 us (by omega)).trans z5, (b 5 _ (by omega)).trans z6, (a 130 us (by omega)).trans z7, (b 6 _ (by omega)).trans z8, (a 127 us (by omega)).trans z9, (b 7 _ (by omega)).trans z10⟩) (fun hi I M a b ⟨z1, z2, z3, z4, z5, z6, z7, z8, z9, z10⟩ => ⟨SRn_M (by omega) (SRn_I (by omega) ⟨by omega, by omega, by omega, fun _ => ⟨⟨hi, by omega⟩, rfl⟩, by omega⟩ z1), by rw [qG, if_neg (by omega)]; exact z2, by rw [qG, if_neg (by omega)]; exact z3, by rw [qG, if_neg (by omega)]; exact z4, by rw [qG, if_neg (by omega)]; exact z5, by rw [qG, if_neg (by omega)]; exact z6, by rw [qG, if_neg (by omega)]; exact z7, by rw [qG, if_neg (by omega)]; exact z8, by rw [qG, if_neg (by omega)]; exact z9, by rw [qG, if_neg (by omega)]; exact z10, by rw [qG, if_pos ⟨rfl, rfl⟩], by rw [qG, if_pos ⟨rfl, rfl⟩]⟩) (by omega) (by omega) hT y5 y6 y7 y8 y9 y4 (by omega)
      -- the rest of it
      have eI127 : qc_u2 I5 127 us (zI (lo : Nat)) 127 us = zI (lo : Nat) := by rw [qG, if_pos ⟨rfl, rfl⟩]
      have eM7 : qc_u2 M5 7 (6 + us) (zI (lo : Nat)) 7 (6 + us) = zI (lo : Nat) := by rw [qG, if_pos ⟨rfl, rfl⟩]
      generalize hI5 : qc_u2 I5 127 us (zI (lo : Nat)) = J5 at *
      generalize hM5 : qc_u2 M5 7 (6 + us) (zI (lo : Nat)) = N5 at *
      generalize hI4 : qc_u2 I4 130 us (zI (w : Nat)) = J4 at *
      generalize hM4 : qc_u2 M4 6 (6 + us) (zI (w : Nat)) = N4 at *
      generalize hI3 : qc_u2 I3 126 us (zI (s : Nat)) = J3 at *
      generalize hM3 : qc_u2 M3 5 (6 + us) (zI (s : Nat)) = N3 at *
      generalize hI6 : qc_u2 I6 128 us (zI (hi : Nat)) = J6 at *
      generalize hM6 : qc_u2 M6 8 (6 + us) (zI (hi : Nat)) = N6 at *
      have one : zI (us : Int) + zI 1 = zI ((us + 1 : Nat) : Int) := by rw [zI_add]; rfl
      refine ⟨qc_u2 (qc_u2 J6 131 us (zI 255)) 122 0 (zI ((us + 1 : Nat) : Int)), qc_u2 (qc_u2 (qc_u2 N6 9 (6 + us) (zI 0)) 10 (6 + us) (zI 0)) 2 17 (zI ((us + 1 : Nat) : Int)), ?_, ?_, FI_u (FI_u z8 (by omega) _) (by omega) _, FM_u (FM_u (FM_u z9 (by omega) _) (by omega) _) (by omega) _, us + 1, bd, bl, ?_⟩
      · have s1' : P_X3_takeNumber (qc_u2 q 125 us (zI (v : Nat))) (zI 0) (zI 2) = some (zI (s : Nat), I3) := s1
        have x1' : P_X3_takeNumber J3 (zI 0) (zI 30) = some (zI (w : Nat), I4) := x1
        have y1' : P_X3_takeNumber J4 (zI 1) (zI (bd : Nat)) = some (zI (lo : Nat), I5) := y1
        unfold P_X3_readUser_41
        simp only [if_pos iq, rq, zL, qc_lE]
        rw [s1', Option.bind_some]
        dsimp only
        rw [hI3, x1', Option.bind_some]
        dsimp only
        rw [hI4, x7.1, y1', Option.bind_some]
        dsimp only
        rw [hI5, eI127, y7.1, z1, Option.bind_some]
        dsimp only
        rw [hI6, qG, if_neg (show ¬ (122 = 131 ∧ 0 = us) by omega), z7.2.1, one]
      · have s2' : P_X7_numeral M2 (zI 0) (zI 2) = some (zI (s : Nat), M3) := s2
        have x2' : P_X7_numeral N3 (zI 0) (zI 30) = some (zI (w : Nat), M4) := x2
        have y2' : P_X7_numeral N4 (zI 1) (zI (bd : Nat)) = some (zI (lo : Nat), M5) := y2
        have b0 : ∀ N : Nat → Nat → Int32, P_X7_reading N (zI 0) = some (N 2 10) := fun N => m_reading (j := 0) (by omega)
        have b7 : ∀ N : Nat → Nat → Int32, P_X7_reading N (zI 7) = some (N 2 17) := fun N => m_reading (j := 7) (by omega)
        have w7 : ∀ (N : Nat → Nat → Int32) (x : Int32), P_X7_reads N (zI 7) x = some (qc_u2 N 2 17 x) := fun N x => m_reads (j := 7) (by omega) x
        unfold P_X7_readUser_79
        simp only [if_pos jq, sq, zL, qc_lE]
        rw [if_pos m3.2.2.1, v3, g1', Option.bind_some, s2', Option.bind_some]
        dsimp only
        rw [hM3, x2', Option.bind_some]
        dsimp only
        rw [hM4, b0, Option.bind_some, x7.2.2.1, y2', Option.bind_some]
        dsimp only
        rw [hM5, b0, Option.bind_some, eM7, y7.2.2.1, z2, Option.bind_some]
        dsimp only
        rw [hM6, b7, Option.bind_some, w7, Option.bind_some]
        rw [qG, if_neg (show ¬ (2 = 10 ∧ 17 = 6 + us) by omega), qG, if_neg (show ¬ (2 = 9 ∧ 17 = 6 + us) by omega), z7.2.2.2, one]
      · rcases z6 with z6 | ⟨A', a1, a2, r1, r2, r3, r4, r5, r6, r7, r8, r9, r10, r11, r12⟩
        · exact Or.inl (FLt_c (fun j _ _ => by rw [qG, if_neg (by omega), qG, if_neg (by omega)]) (fun j _ _ => by rw [qG, if_neg (by omega), qG, if_neg (by omega), qG, if_neg (by omega)]) z6)
        · refine Or.inr ⟨A', a1, ALt_e (fun j _ _ => by rw [qG, if_neg (by omega), qG, if_neg (by omega)]) (fun j _ _ => by rw [qG, if_neg (by omega), qG, if_neg (by omega), qG, if_neg (by omega)]) a2, SR_y (SRn_user us5 (SRn_M (by omega) (SRn_M (by omega) (SRn_I (by omega) ⟨by omega, by omega, by omega, by omega, fun _ => ⟨255, rfl⟩⟩ r1))) ?_ ?_ ?_) ?_⟩
          · have i129 : J6 129 us = zI 0 := r1.2.2.2.1.2.2.2.2.2.2.1 us (by omega) (by omega)
            refine ⟨?_, ?_, ?_, ?_, ⟨lo, hi, y3, z3, z4, ?_, ?_, ?_, ?_⟩, ⟨0, by omega, by omega, ?_, ?_⟩, ⟨0, by omega, ?_, ?_⟩⟩
            · rw [qG, if_neg (by omega), qG, if_neg (by omega), qG, if_neg (by omega), r3, r4]
            · rw [qG, if_neg (by omega), r3, Ne, zI_eq (by omega) (by omega) (by omega) (by omega)]
              omega
            · rw [qG, if_neg (by omega), qG, if_neg (by omega), qG, if_neg (by omega)]
              exact ⟨s, by omega, by omega, r5, r6⟩
            · rw [qG, if_neg (by omega), qG, if_neg (by omega), qG, if_neg (by omega)]
              exact ⟨w, by omega, by omega, r7, r8⟩
            · rw [qG, if_neg (by omega)]; exact r9
            · rw [qG, if_neg (by omega), qG, if_neg (by omega)]; exact r10
            · rw [qG, if_neg (by omega)]; exact r11
            · rw [qG, if_neg (by omega), qG, if_neg (by omega)]; exact r12
            · rw [qG, if_neg (by omega)]; exact i129
            · rw [qG, if_neg (by omega), qG, if_pos ⟨rfl, rfl⟩]; rfl
            · rw [qG, if_pos ⟨rfl, rfl⟩]; rfl
            · rw [qG, if_pos ⟨rfl, rfl⟩, if_pos rfl]; rfl
          · rw [qG, if_neg (by omega), qG, if_pos ⟨rfl, rfl⟩]
          · rw [qG, if_pos ⟨rfl, rfl⟩]
          · rw [qG, if_neg (by omega), qG, if_neg (by omega), qG, if_neg (by omega), r2, decide_eq_true (by omega)]
            rfl
    · -- one that has been told
      obtain ⟨I2, M2, e1, e2, e3, e4, e5⟩ := flt (zI 3) (by decide)
      obtain ⟨I3, g1, g2, g3⟩ := x_41f us5 (fl_x e3) (zI (v : Nat))
      refine ⟨I3, M2, ?_, ?_, FI_t (FI_t (FI_f (fX_N q2)) (FI_f e4)) g2, FM_t f1 (FM_g e5), us, bd, bl, Or.inl (FLt_c g3 (fun _ _ _ => rfl) e3)⟩
      · rw [w2, Option.bind_some, if_neg (by rw [zI_lt] <;> omega), e1, Option.bind_some, g1]
      · rw [w3, Option.bind_some, if_neg (by rw [zI_neg, zI_eq] <;> omega), e2, Option.bind_some, f79 M2 (fl_m e3)]
  · -- no name
    obtain ⟨I2, M2, e1, e2, e3, e4, e5⟩ := flt (zI 1) (by decide)
    obtain ⟨I3, g1, g2, g3⟩ := x_41f us5 (fl_x e3) (zI 0)
    have n2 : SRn us bd bl I2 J M2 := SRn_f e4 e5 nq
    refine ⟨I3, M2, ?_, ?_, FI_t (FI_t (FI_f (fX_N q2)) (FI_f e4)) g2, FM_t f1 (FM_g e5), us, bd, bl, Or.inl (FLt_c g3 (fun _ _ _ => rfl) e3)⟩
    · rw [k2, e1, Option.bind_some, Option.bind_some]
      dsimp only
      rcases both_named u6 n2.2.2.2.1.2.1 (fun u hu => (n2.2.2.2.1.2.2.2.1 u hu).1) (zI 0) with ⟨w1, w2, w3⟩ | ⟨u, w0, w1, w2, w3⟩
      · rw [w1, Option.bind_some, if_pos (show zI (-1) < zI 0 by decide), g1]
      · exact absurd w1 (n2.2.2.2.1.2.2.2.1 u w0).2.1
    · rw [if_neg k1, e2, Option.bind_some, f79 M2 (fl_m e3)]
