/-! LINES: a channel or slots of a user -/
def rfX (tt jj : Nat) (bf : (Nat → Nat → Int32) → Int32) (I : Nat → Nat → Int32) (a1 : Int32) : Option ((Nat → Nat → Int32)) :=
  qc_let (qc_u2 I 121 jj ((I 121 jj) ||| ((1 : Int32) <<< (a1 &&& 31)))) fun I1 =>
  (P_X3_takeNumber I1 (1 : Int32) (bf I1)).bind fun q2 =>
  if qc_in a1 8 then
  qc_let (qc_u2 q2.2 tt a1.toNatClampNeg q2.1) fun I3 =>
  some I3
  else none
def roX (tt jj : Nat) (bf : (Nat → Nat → Int32) → Int32) (I : Nat → Nat → Int32) : Option ((Nat → Nat → Int32)) :=
  (P_X3_takeUser I).bind fun q5 =>
  if 0 ≤ q5.1 then
  (if ((q5.2 121 jj) >>> (q5.1 &&& 31)) &&& (1 : Int32) = 0 then
  rfX tt jj bf q5.2 q5.1
  else
  (P_X3_fail q5.2 (3 : Int32)).bind fun q8 =>
  rfX tt jj bf q8 q5.1)
  else
  some q5.2
def roM (o : Nat) (bf : (Nat → Nat → Int32) → Option Int32) (I1 : Nat → Nat → Int32) : Option ((Nat → Nat → Int32)) :=
  (P_X7_userOnce I1 o).bind fun q2 =>
  (bf q2.2).bind fun q3 =>
  (P_X7_numeral q2.2 (1 : Int32) q3).bind fun q4 =>
  if q4.2 0 21 = 0 then
  (if qc_in ((6 : Int32) + q2.1) 12 then
  qc_let (qc_u2 q4.2 o ((6 : Int32) + q2.1).toNatClampNeg q4.1) fun I6 =>
  some I6
  else none)
  else
  some q4.2
theorem ro_x1 (I : Nat → Nat → Int32) : P_X3_readFixed I = roX 129 12 (fun I => I 122 1) I := rfl
theorem ro_x2 (I : Nat → Nat → Int32) : P_X3_readSlots I = roX 131 13 (fun _ => 255) I := rfl
theorem ro_m1 (M : Nat → Nat → Int32) : P_X7_readFixed M = roM 9 (fun M => P_X7_reading M (0 : Int32)) (qc_u2 M 0 14 (1 : Int32)) := rfl
theorem ro_m2 (M : Nat → Nat → Int32) : P_X7_readSlots M = roM 10 (fun _ => some (255 : Int32)) M := rfl
theorem bit_d : ∀ (fb : Fin 64) (u : Fin 6), (((zI fb.val >>> (zI u.val &&& zI 31)) &&& zI 1 = zI 0) ↔ fb.val.testBit u.val = false) ∧ zI fb.val ||| (zI 1 <<< (zI u.val &&& zI 31)) = zI ((fb.val ||| 2 ^ u.val : Nat) : Int) := by decide +kernel
theorem ln_ro {T : Nat → Int32} {B : Nat → Nat} {n A us bd bl tt jj o b : Nat} {bf : (Nat → Nat → Int32) → Int32} {bg : (Nat → Nat → Int32) → Option Int32} {I : Nat → Nat → Int32} {J : Nat → Nat → Int64} {M : Nat → Nat → Int32} (hT : TX T B n) (c : CX T n I M) (h : LSt B n A I M) (hS : SRn us bd bl I J M) (hj : jj = 12 ∨ jj = 13) (ht : 124 < tt ∧ tt ≤ 131) (ho : o = 9 ∨ o = 10) (hb1 : 1 ≤ b) (hb : b ≤ 255) (hbf : ∀ I' : Nat → Nat → Int32, I' 122 1 = I 122 1 → bf I' = zI (b : Nat)) (hbg : ∀ M' : Nat → Nat → Int32, M' 2 10 = M 2 10 → bg M' = some (zI (b : Nat))) (hB : SB us (I 121 jj) (M o)) (hfl : 0 < us → M 0 14 = bI (decide (0 < us ∨ 0 < bl)))
    (hU : ∀ (u v : Nat) (I' M' : Nat → Nat → Int32) (fb : Fin 64), u < us → 1 ≤ v → v ≤ b → I 121 jj = zI fb.val → fb.val.testBit u = false → I' 121 jj = zI ((fb.val ||| 2 ^ u : Nat) : Int) → SRn us bd bl (qc_u2 I' 121 jj (I 121 jj)) J M' → SRn us bd bl (qc_u2 I' tt u (zI (v : Nat))) J (qc_u2 M' o (6 + u) (zI (v : Nat)))) :
    ∃ I' M', roX tt jj bf I = some I' ∧ roM o bg M = some M' ∧ LN B n (tE B n A) I I' J M M' := by
  have jc : (121 : Nat) = 121 ∧ jj ≠ 1 ∧ jj ≠ 9 ∨ 121 < 121 := by omega
  have h121 : 121 < tt := by omega
  have u6 : us ≤ 6 := hS.2.2.2.1.1
  obtain ⟨M1, m1, m2, m3⟩ := b_goOn hT c h
  have c1 : CX T n I M1 := CX_f c (fX_r I) (gX_N m2)
  have n1 : SRn us bd bl I J M1 := SRn_f (fX_r I) (gX_N m2) hS
  have f1 : FM M M1 := FM_g (gX_N m2)
  obtain ⟨q, q2, q3, q4⟩ := x_name hT c1 m3
  have nq : SRn us bd bl q J M1 := SRn_f (fX_N q2) (gX_r M1) n1
  have fq : FI I q := FI_f (fX_N q2)
  have m117 : M1 2 17 = zI (us : Nat) := nq.2.2.2.1.2.2.1
  have rd7 : ∀ N : Nat → Nat → Int32, P_X7_reading N (zI 7) = some (N 2 17) := fun N => m_reading (j := 7) (by omega)
  have e1 : P_X7_userOnce M o = if M1 0 19 = zI 1 then P_X7_userOnce_26 o M1 else (P_X7_wrong M1 (zI 1)).bind fun q17 => P_X7_userOnce_26 o q17 := by
    unfold P_X7_userOnce
    rw [m1, Option.bind_some]
    simp only [zL]
    rw [if_pos m3.2.2.1]
  -- the reference once there is a fault
  have f88 : ∀ (N : Nat → Nat → Int32) (x : Int32), N 0 21 ≠ zI 0 → ∃ y, P_X7_userOnce_88 o N x = some (y, N) := by
    intro N x hN
    unfold P_X7_userOnce_88 P_X7_goOn
    simp only [zL]
    rw [if_neg hN, Option.bind_some]
    by_cases z : x = -zI 1
    · rw [if_pos z]; exact ⟨_, rfl⟩
    · rw [if_neg z]; exact ⟨_, rfl⟩
  have fin : ∀ (N : Nat → Nat → Int32) (y : Int32), N 0 21 ≠ zI 0 → N 2 10 = M 2 10 → P_X7_userOnce M o = some (y, N) → roM o bg M = some N := by
    intro N y hN h10 e
    unfold roM
    simp only [zL]
    rw [e, Option.bind_some, hbg N h10, Option.bind_some, nu_f hN, Option.bind_some, if_neg hN]
  -- the class once there is a fault
  have x_rf : ∀ (I1 : Nat → Nat → Int32) (u : Nat), u < 6 → I1 121 7 ≠ zI 0 → ∃ I', rfX tt jj bf I1 (zI (u : Nat)) = some I' ∧ FI I1 I' ∧ ∀ j, 3 ≤ j → j ≤ 8 → I' 121 j = I1 121 j := by
    intro I1 u hu h7
    obtain ⟨iq, rq⟩ := qi (q := u) (N := 8) (by omega) (by omega)
    have tc : tt = 121 ∧ u ≠ 1 ∧ u ≠ 9 ∨ 121 < tt := Or.inr h121
    refine ⟨qc_u2 (qc_u2 I1 121 jj ((I1 121 jj) ||| (zI 1 <<< (zI (u : Nat) &&& zI 31)))) tt u (zI 1), ?_, ?_, ?_⟩
    · unfold rfX
      simp only [zL, qc_lE, if_pos iq, rq]
      rw [tn_f (by rw [qG, if_neg (by omega)]; exact h7), Option.bind_some]
    · exact FI_u (FI_u (FI_r I1) jc _) tc _
    · intro j j1 j2
      rw [qG, if_neg (by omega), qG, if_neg (by omega)]
  have tU : ∀ (v : Int32) (q1 : Nat → Nat → Int32), P_X3_takeName I = some (v, q1) → P_X3_takeUser I = (P_X4_userOfName q1 122 v).bind fun q2 => if zI 0 ≤ q2 then some (q2, q1) else (P_X3_fail q1 (zI 4)).bind fun q4 => some (q2, q4) := by
    intro v q1 e
    unfold P_X3_takeUser
    simp only [zL]
    rw [e, Option.bind_some]
  rcases q4 with ⟨k1, v, v1, v2, v3, v4⟩ | ⟨k1, k2⟩
  · have t1 := tU _ _ v4
    rw [if_pos k1] at e1
    have e26 : P_X7_userOnce_26 o M1 = (P_X7_namedAt M1 (zI 6) (zI (us : Nat)) (zI (v : Nat))).bind fun v5 => if v5 = -zI 1 then (P_X7_wrong M1 (zI 4)).bind fun q13 => P_X7_userOnce_88 o q13 v5 else if M1 0 21 = zI 0 then (if qc_in (zI 6 + v5) 12 then if M1 o (zI 6 + v5).toNatClampNeg ≤ zI 0 then P_X7_userOnce_88 o M1 v5 else (P_X7_wrong M1 (zI 3)).bind fun q12 => P_X7_userOnce_88 o q12 v5 else none) else P_X7_userOnce_88 o M1 v5 := by
      unfold P_X7_userOnce_26
      simp only [zL]
      rw [if_pos m3.2.2.1, rd7, Option.bind_some, m117, v3]
      cases P_X7_namedAt M1 (zI 6) (zI (us : Nat)) (zI (v : Nat)) with
      | none => rfl
      | some y => rfl
    rcases both_named u6 nq.2.2.2.1.2.1 (fun u hu => (nq.2.2.2.1.2.2.2.1 u hu).1) (zI (v : Nat)) with ⟨w1, w2, w3⟩ | ⟨u, w0, w1, w2, w3⟩
    · -- not told
      obtain ⟨I2, M2, g1, g2, g3, g4, g5⟩ := both_fail q3 (k := zI 4) (by decide)
      obtain ⟨y, hy⟩ := f88 M2 (zI (-1)) (fl_m g3)
      refine ⟨I2, M2, ?_, fin M2 y (fl_m g3) ((g5 2 10 (by omega)).trans (m2 2 10 (by omega))) ?_, FI_t fq (FI_f g4), FM_t f1 (FM_g g5), us, bd, bl, Or.inl g3⟩
      · unfold roX
        rw [t1, w1, Option.bind_some, if_neg (show ¬ zI 0 ≤ zI (-1) by decide), g1, Option.bind_some, Option.bind_some]
        simp only [zL]
        rw [if_neg (show ¬ zI 0 ≤ zI (-1) by decide)]
      · rw [e1, e26, w2, Option.bind_some, if_pos (show zI (-1) = -zI 1 by decide), g2, Option.bind_some, hy]
    · obtain ⟨jq, sq⟩ := qi (q := 6 + u) (N := 12) (by omega) (by omega)
      have e6 : zI 6 + zI (u : Int) = zI ((6 + u : Nat) : Int) := by rw [zI_add]; rfl
      have hBq : SB us (q 121 jj) (M1 o) := SB_c (q2 121 jj (by omega)) (fun _ _ => m2 o _ (by omega)) hB
      obtain ⟨fb, b1', b2⟩ := hBq
      have b2u := b2 u (by omega)
      obtain ⟨d1, d2⟩ := bit_d fb ⟨u, by omega⟩
      dsimp only at d1 d2
      have hrow : ∃ z : Nat, z < 256 ∧ M1 o (6 + u) = zI (z : Nat) := by
        have hu := nq.2.2.2.1.2.2.2.1 u w0
        rcases ho with rfl | rfl
        · obtain ⟨z, z1, z2, z3, z4⟩ := hu.2.2.2.2.2.1
          have := nq.2.2.1.2.1
          exact ⟨z, by omega, z4⟩
        · obtain ⟨z, z1, z2, z3⟩ := hu.2.2.2.2.2.2
          exact ⟨z, z1, z2⟩
      obtain ⟨z, hz, hz2⟩ := hrow
      have eX0 : roX tt jj bf I = if (q 121 jj >>> (zI (u : Nat) &&& zI 31)) &&& zI 1 = zI 0 then rfX tt jj bf q (zI (u : Nat)) else (P_X3_fail q (zI 3)).bind fun q8 => rfX tt jj bf q8 (zI (u : Nat)) := by
        unfold roX
        rw [t1, w2, Option.bind_some, if_pos (show zI 0 ≤ zI (u : Nat) by rw [zI_le] <;> omega), Option.bind_some]
        simp only [zL]
        rw [if_pos (show zI 0 ≤ zI (u : Nat) by rw [zI_le] <;> omega)]
      have eM0 : P_X7_userOnce M o = if M1 o (6 + u) ≤ zI 0 then P_X7_userOnce_88 o M1 (zI (u : Nat)) else (P_X7_wrong M1 (zI 3)).bind fun q12 => P_X7_userOnce_88 o q12 (zI (u : Nat)) := by
        rw [e1, e26, w3, Option.bind_some, if_neg (show ¬ zI (u : Nat) = -zI 1 by rw [zI_neg, zI_eq] <;> omega), if_pos m3.2.2.1, e6]
        simp only [if_pos jq, sq]
      rw [b1'] at eX0
      rw [hz2] at eM0 b2u
      cases eb : fb.val.testBit u
      · -- for the first time
        have hz0 : z = 0 := by
          by_cases zz : z = 0
          · exact zz
          · exfalso
            have := b2u.2 ⟨w0, by rw [Ne, zI_eq] <;> omega⟩
            rw [eb] at this
            exact absurd this (by decide)
        subst hz0
        rw [if_pos (d1.2 eb)] at eX0
        rw [if_pos (show zI ((0 : Nat) : Int) ≤ zI 0 by decide)] at eM0
        obtain ⟨iq, rq⟩ := qi (q := u) (N := 8) (by omega) (by omega)
        obtain ⟨M2, g1, g2, g3⟩ := b_goOn hT (CX_f c1 (fX_N q2) (gX_r M1)) q3
        have eM1 : P_X7_userOnce M o = some (zI (u : Nat), M2) := by
          rw [eM0]
          unfold P_X7_userOnce_88
          rw [g1, Option.bind_some]
          simp only [zL]
          rw [if_neg (show ¬ zI (u : Nat) = -zI 1 by rw [zI_neg, zI_eq] <;> omega)]
          rfl
        have hq' : qc_u2 q 121 jj (zI fb.val ||| (zI 1 <<< (zI (u : Nat) &&& zI 31))) 121 jj = zI ((fb.val ||| 2 ^ u : Nat) : Int) := by
          rw [qG, if_pos ⟨rfl, rfl⟩, d2]
        have cq : CX T n (qc_u2 q 121 jj (zI fb.val ||| (zI 1 <<< (zI (u : Nat) &&& zI 31)))) M2 := CX_F c (FI_u fq (by omega) _) (FM_t f1 (FM_g (gX_N g2)))
        have iq0 : I 121 jj = zI fb.val := (q2 121 jj (by omega)).symm.trans b1'
        have tb := tok_b B m3.1
        have P0 : GQ B n (tE B n A) (fun I' M' => SRn us bd bl (qc_u2 I' 121 jj (I 121 jj)) J M' ∧ M' 0 14 = M 0 14 ∧ I' 121 jj = zI ((fb.val ||| 2 ^ u : Nat) : Int)) (qc_u2 q 121 jj (zI fb.val ||| (zI 1 <<< (zI (u : Nat) &&& zI 31)))) M2 := by
          refine Or.inr ⟨_, Nat.le_trans tb.1 tb.2.1, ALt_e (fun j _ _ => by rw [qG, if_neg (by omega)]) (fun _ _ _ => rfl) g3, ?_, (g2 0 14 (by omega)).trans (m2 0 14 (by omega)), hq'⟩
          have e : qc_u2 (qc_u2 q 121 jj (zI fb.val ||| (zI 1 <<< (zI (u : Nat) &&& zI 31)))) 121 jj (I 121 jj) = q := by
            funext t k
            rw [qG, qG]
            by_cases z : t = 121 ∧ k = jj
            · rw [if_pos z, z.1, z.2, iq0, b1']
            · rw [if_neg z, if_neg z]
          rw [e]
          exact SRn_f (fX_r q) (gX_N g2) nq
        obtain ⟨v', I3, M3, s1, s2, s3, s4, s5, s6, s7, s8⟩ := num_Q (a := 1) (b := b) (fun I1 I2 M1 M2 a b ⟨z1, z2, z3⟩ => ⟨SRn_f (fun t j cc => by
            rw [qG, qG]
            by_cases z : t = 121 ∧ j = jj
            · rw [if_pos z, if_pos z]
            · rw [if_neg z, if_neg z]; exact a t j cc) b z1, (b 0 14 (by omega)).trans z2, (a 121 jj (by omega)).trans z3⟩) hT cq P0 hb1 (by omega)
        have F1 : FI I (qc_u2 I3 tt u (zI (v' : Nat))) := FI_u (FI_t (FI_u fq (by omega) _) (FI_f s5)) (by omega) _
        have F2 : FM M M3 := FM_t (FM_t f1 (FM_g (gX_N g2))) (FM_g s6)
        have xr : roX tt jj bf I = some (qc_u2 I3 tt u (zI (v' : Nat))) := by
          have s1' : P_X3_takeNumber (qc_u2 q 121 jj (zI fb.val ||| (zI 1 <<< (zI (u : Nat) &&& zI 31)))) (zI 1) (zI (b : Nat)) = some (zI (v' : Nat), I3) := s1
          rw [eX0]
          unfold rfX
          simp only [zL, qc_lE, if_pos iq, rq]
          rw [b1', hbf _ (by rw [qG, if_neg (by omega)]; exact q2 122 1 (by omega)), s1', Option.bind_some]
        have mr : ∀ N, (if M3 0 21 = zI 0 then some (qc_u2 M3 o (6 + u) (zI (v' : Nat))) else some M3) = some N → roM o bg M = some N := by
          intro N hN
          have s2' : P_X7_numeral M2 (zI 1) (zI (b : Nat)) = some (zI (v' : Nat), M3) := s2
          unfold roM
          simp only [zL]
          rw [eM1, Option.bind_some, hbg M2 ((g2 2 10 (by omega)).trans (m2 2 10 (by omega))), Option.bind_some, s2', Option.bind_some]
          dsimp only
          rw [e6]
          simp only [if_pos jq, sq, qc_lE]
          exact hN
        rcases s8 with s8 | ⟨A', a1, a2, r1, r2, r3⟩
        · refine ⟨_, M3, xr, mr M3 (if_neg (fl_m s8)), F1, F2, us, bd, bl, Or.inl (FLt_c (fun j _ _ => by rw [qG, if_neg (by omega)]) (fun _ _ _ => rfl) s8)⟩
        · refine ⟨_, _, xr, mr _ (if_pos a2.2.2.1), F1, FM_u F2 (by omega) _, us, bd, bl, Or.inr ⟨A', a1, ALt_e (fun j _ _ => by rw [qG, if_neg (by omega)]) (fun j _ _ => by rw [qG, if_neg (by omega)]) a2, SR_y (hU u v' I3 M3 fb w0 s3 s4 iq0 eb r3 r1) ?_⟩⟩
          rw [qG, if_neg (by omega), r2]
          exact hfl (by omega)
      · -- once more
        have hz0 : z ≠ 0 := by
          intro zz
          have := (b2u.1 eb).2
          rw [zz] at this
          exact this rfl
        rw [if_neg (fun y => by have := d1.1 y; rw [eb] at this; exact absurd this (by decide))] at eX0
        rw [if_neg (by rw [zI_le] <;> omega)] at eM0
        obtain ⟨I2, M2, g1, g2, g3, g4, g5⟩ := both_fail q3 (k := zI 3) (by decide)
        obtain ⟨y, hy⟩ := f88 M2 (zI (u : Nat)) (fl_m g3)
        obtain ⟨I3, p1, p2, p3⟩ := x_rf I2 u (by omega) (fl_x g3)
        refine ⟨I3, M2, ?_, fin M2 y (fl_m g3) ((g5 2 10 (by omega)).trans (m2 2 10 (by omega))) ?_, FI_t (FI_t fq (FI_f g4)) p2, FM_t f1 (FM_g g5), us, bd, bl, Or.inl (FLt_c p3 (fun _ _ _ => rfl) g3)⟩
        · rw [eX0, g1, Option.bind_some, p1]
        · rw [eM0, g2, Option.bind_some, hy]
  · -- no name
    obtain ⟨I2, M2, g1, g2, g3, g4, g5⟩ := both_fail q3 (k := zI 1) (by decide)
    have n2 : SRn us bd bl I2 J M2 := SRn_f g4 g5 nq
    obtain ⟨y, hy⟩ := f88 M2 (zI 0) (fl_m g3)
    refine ⟨I2, M2, ?_, fin M2 y (fl_m g3) ((g5 2 10 (by omega)).trans (m2 2 10 (by omega))) ?_, FI_t fq (FI_f g4), FM_t f1 (FM_g g5), us, bd, bl, Or.inl g3⟩
    · have t0 : P_X3_takeName I = some (zI 0, I2) := by rw [k2, g1]; rfl
      unfold roX
      rw [tU _ _ t0]
      rcases both_named u6 n2.2.2.2.1.2.1 (fun u hu => (n2.2.2.2.1.2.2.2.1 u hu).1) (zI 0) with ⟨w1, w2, w3⟩ | ⟨u, w0, w1, w2, w3⟩
      · rw [w1, Option.bind_some, if_neg (show ¬ zI 0 ≤ zI (-1) by decide), x_fail1 (fl_x g3), Option.bind_some, Option.bind_some]
        simp only [zL]
        rw [if_neg (show ¬ zI 0 ≤ zI (-1) by decide)]
      · exact absurd w1 (n2.2.2.2.1.2.2.2.1 u w0).2.1
    · rw [e1, if_neg k1, g2, Option.bind_some]
      unfold P_X7_userOnce_26
      simp only [zL]
      rw [if_neg (fl_m g3), Option.bind_some, if_neg (show ¬ zI 0 = -zI 1 by decide), if_neg (fl_m g3), hy]
theorem SRn_fix {us bd bl u v : Nat} {x : Int32} {I1 : Nat → Nat → Int32} {J : Nat → Nat → Int64} {M1 : Nat → Nat → Int32} {fb : Fin 64} (u6 : us ≤ 6) (bd4 : bd ≤ 60) (hu : u < us) (hv1 : 1 ≤ v) (hv2 : v ≤ bd) (b1' : x = zI fb.val) (b3 : I1 121 12 = zI ((fb.val ||| 2 ^ u : Nat) : Int)) (hn : SRn us bd bl (qc_u2 I1 121 12 x) J M1) : SRn us bd bl (qc_u2 I1 129 u (zI (v : Nat))) J (qc_u2 M1 9 (6 + u) (zI (v : Nat))) := by
  obtain ⟨h1, h2, h3, h4, h5, h6⟩ := hn
  have nI : ∀ t j, (t ≠ 121 ∨ j ≠ 12) → (t ≠ 129 ∨ j ≠ u) → qc_u2 I1 129 u (zI (v : Nat)) t j = qc_u2 I1 121 12 x t j := fun t j a b => by rw [qG, if_neg (by omega), qG, if_neg (by omega)]
  have nM : ∀ t j, (t ≠ 9 ∨ j ≠ 6 + u) → qc_u2 M1 9 (6 + u) (zI (v : Nat)) t j = M1 t j := fun t j a => by rw [qG, if_neg (by omega)]
  refine ⟨S1_c (fun j _ _ => nI 122 j (by omega) (by omega)) (fun j => nI 123 j (by omega) (by omega)) (fun j _ _ _ => nM 2 j (by omega)) h1, T1_c (nI 121 11 (by omega) (by omega)) (fun j => nM 3 j (by omega)) h2, S2_c (nI 122 1 (by omega) (by omega)) (nM 2 10 (by omega)) h3, ?_, S4_c (nI 121 10 (by omega) (by omega)) (nM 2 18 (by omega)) rfl (fun j => nM 12 j (by omega)) h5, S5_c (fun j => nI 124 j (by omega) (by omega)) (fun j => nM 11 j (by omega)) h6⟩
  obtain ⟨g1, g2, g3, g4, g5, g6, g7, g8⟩ := h4
  refine ⟨g1, (nI 122 0 (by omega) (by omega)).trans g2, (nM 2 17 (by omega)).trans g3, ?_, ?_, SB_c (nI 121 13 (by omega) (by omega)) (fun u' _ => nM 10 _ (by omega)) g6, ?_, ?_⟩
  · intro u' hu'
    by_cases c : u' = u
    · subst c
      obtain ⟨x1, x2, x3, x4, x5, x6, x7⟩ := g4 u' hu'
      rw [qG, if_neg (by omega)] at x1 x2
      unfold SU
      rw [nI 125 u' (by omega) (by omega), nI 126 u' (by omega) (by omega), nI 127 u' (by omega) (by omega), nI 128 u' (by omega) (by omega), nI 130 u' (by omega) (by omega), nI 131 u' (by omega) (by omega), nM 4 _ (by omega), nM 5 _ (by omega), nM 6 _ (by omega), nM 7 _ (by omega), nM 8 _ (by omega), nM 10 _ (by omega)]
      refine ⟨by rw [qG, if_neg (by omega)]; exact x1, by rw [qG, if_neg (by omega)]; exact x2, x3, x4, x5, ⟨v, by omega, by omega, ?_, ?_⟩, x7⟩
      · rw [qG, if_pos ⟨rfl, rfl⟩]
      · rw [qG, if_pos ⟨rfl, rfl⟩]
    · exact SU_c (fun t' _ _ => nI t' u' (by omega) (by omega)) (fun t' _ _ => nM t' _ (by omega)) (g4 u' hu')
  · obtain ⟨fb', f1, f2⟩ := g5
    have ef : fb' = fb := by
      rw [qG, if_pos ⟨rfl, rfl⟩, b1'] at f1
      apply Fin.ext
      rw [zI_eq (by omega) (by omega) (by omega) (by omega)] at f1
      omega
    subst ef
    obtain ⟨d1, d2, d3, d4⟩ := tld_d fb' ⟨u, by omega⟩
    dsimp only at d3 d4
    refine ⟨⟨fb'.val ||| 2 ^ u, d3⟩, ?_, ?_⟩
    · rw [qG, if_neg (by omega), b3]
    · intro u' hu'
      have d5 := d4 ⟨u', hu'⟩
      dsimp only at d5
      show ((fb'.val ||| 2 ^ u).testBit u' = true) ↔ _
      rw [d5]
      by_cases c : u' = u
      · subst c
        rw [decide_eq_true rfl, Bool.or_true]
        refine ⟨fun _ => ⟨hu, ?_⟩, fun _ => rfl⟩
        rw [qG, if_pos ⟨rfl, rfl⟩, Ne, zI_eq (by omega) (by omega) (by omega) (by omega)]
        omega
      · rw [decide_eq_false c, Bool.or_false, f2 u' hu', nM 9 _ (by omega)]
  · intro u' a b
    have := g7 u' a b
    rw [nI 129 u' (by omega) (by omega)]
    exact this
  · intro u' hu'
    rw [nI 126 u' (by omega) (by omega), nI 127 u' (by omega) (by omega), nI 128 u' (by omega) (by omega), nI 130 u' (by omega) (by omega), nI 131 u' (by omega) (by omega)]
    exact g8 u' hu'
theorem ln_fixed {T : Nat → Int32} {B : Nat → Nat} {n A us bd bl : Nat} {I : Nat → Nat → Int32} {J : Nat → Nat → Int64} {M : Nat → Nat → Int32} (hT : TX T B n) (c : CX T n I M) (h : LSt B n A I M) (hS : SR us bd bl I J M) : ∃ I' M', P_X3_readFixed I = some I' ∧ P_X7_readFixed M = some M' ∧ LN B n (tE B n A) I I' J M M' := by
  have u6 : us ≤ 6 := hS.2.2.2.1.1
  have bd4 : 4 ≤ bd ∧ bd ≤ 60 := ⟨hS.2.2.1.1, hS.2.2.1.2.1⟩
  have fM0 : FM M (qc_u2 M 0 14 (zI 1)) := FM_u (FM_r M) (by omega) _
  have c0 : CX T n I (qc_u2 M 0 14 (zI 1)) := CX_F c (FI_r I) fM0
  have h0 : LSt B n A I (qc_u2 M 0 14 (zI 1)) := LSt_e (fun _ _ _ => rfl) (fun j _ _ => by rw [qG, if_neg (by omega)]) h
  have n0 : SRn us bd bl I J (qc_u2 M 0 14 (zI 1)) := SRn_0 (fun t j ht => by rw [qG, if_neg (by omega)]) (SR_n hS)
  obtain ⟨I', M', e1, e2, e3, e4, e5⟩ := ln_ro (tt := 129) (jj := 12) (o := 9) (b := bd) (bf := fun I => I 122 1) (bg := fun M => P_X7_reading M (zI 0)) hT c0 h0 n0 (Or.inl rfl) (by omega) (Or.inl rfl) (by omega) (by omega) (fun I' hI => hI.trans n0.2.2.1.2.2.1) (fun M' hM => (m_reading (j := 0) (by omega)).trans (congrArg some (hM.trans n0.2.2.1.2.2.2))) n0.2.2.2.1.2.2.2.2.1 (fun hp => by rw [qG, if_pos ⟨rfl, rfl⟩, decide_eq_true (Or.inl hp)]; rfl) (fun u v I1 M1 fb hu hv1 hv2 b1' b2 b3 hn => SRn_fix u6 bd4.2 hu hv1 hv2 b1' b3 hn)
  refine ⟨I', M', by rw [ro_x1]; exact e1, ?_, e3, FM_t fM0 e4, e5⟩
  rw [ro_m1]
  exact e2
theorem SRn_slt {us bd bl u v : Nat} {x : Int32} {I1 : Nat → Nat → Int32} {J : Nat → Nat → Int64} {M1 : Nat → Nat → Int32} {fb : Fin 64} (u6 : us ≤ 6) (bd4 : bd ≤ 60) (hu : u < us) (hv1 : 1 ≤ v) (hv2 : v ≤ 255) (b1' : x = zI fb.val) (b3 : I1 121 13 = zI ((fb.val ||| 2 ^ u : Nat) : Int)) (hn : SRn us bd bl (qc_u2 I1 121 13 x) J M1) : SRn us bd bl (qc_u2 I1 131 u (zI (v : Nat))) J (qc_u2 M1 10 (6 + u) (zI (v : Nat))) := by
  obtain ⟨h1, h2, h3, h4, h5, h6⟩ := hn
  have nI : ∀ t j, (t ≠ 121 ∨ j ≠ 13) → (t ≠ 131 ∨ j ≠ u) → qc_u2 I1 131 u (zI (v : Nat)) t j = qc_u2 I1 121 13 x t j := fun t j a b => by rw [qG, if_neg (by omega), qG, if_neg (by omega)]
  have nM : ∀ t j, (t ≠ 10 ∨ j ≠ 6 + u) → qc_u2 M1 10 (6 + u) (zI (v : Nat)) t j = M1 t j := fun t j a => by rw [qG, if_neg (by omega)]
  refine ⟨S1_c (fun j _ _ => nI 122 j (by omega) (by omega)) (fun j => nI 123 j (by omega) (by omega)) (fun j _ _ _ => nM 2 j (by omega)) h1, T1_c (nI 121 11 (by omega) (by omega)) (fun j => nM 3 j (by omega)) h2, S2_c (nI 122 1 (by omega) (by omega)) (nM 2 10 (by omega)) h3, ?_, S4_c (nI 121 10 (by omega) (by omega)) (nM 2 18 (by omega)) rfl (fun j => nM 12 j (by omega)) h5, S5_c (fun j => nI 124 j (by omega) (by omega)) (fun j => nM 11 j (by omega)) h6⟩
  obtain ⟨g1, g2, g3, g4, g5, g6, g7, g8⟩ := h4
  refine ⟨g1, (nI 122 0 (by omega) (by omega)).trans g2, (nM 2 17 (by omega)).trans g3, ?_, SB_c (nI 121 12 (by omega) (by omega)) (fun u' _ => nM 9 _ (by omega)) g5, ?_, ?_, ?_⟩
  · intro u' hu'
    by_cases c : u' = u
    · subst c
      obtain ⟨x1, x2, x3, x4, x5, x6, x7⟩ := g4 u' hu'
      rw [qG, if_neg (by omega)] at x1 x2
      unfold SU
      rw [nI 125 u' (by omega) (by omega), nI 126 u' (by omega) (by omega), nI 127 u' (by omega) (by omega), nI 128 u' (by omega) (by omega), nI 130 u' (by omega) (by omega), nI 129 u' (by omega) (by omega), nM 4 _ (by omega), nM 5 _ (by omega), nM 6 _ (by omega), nM 7 _ (by omega), nM 8 _ (by omega), nM 9 _ (by omega)]
      refine ⟨by rw [qG, if_neg (by omega)]; exact x1, by rw [qG, if_neg (by omega)]; exact x2, x3, x4, x5, x6, ⟨v, by omega, ?_, ?_⟩⟩
      · rw [qG, if_pos ⟨rfl, rfl⟩]
      · rw [qG, if_pos ⟨rfl, rfl⟩, if_neg (by omega)]
    · exact SU_c (fun t' _ _ => nI t' u' (by omega) (by omega)) (fun t' _ _ => nM t' _ (by omega)) (g4 u' hu')
  · obtain ⟨fb', f1, f2⟩ := g6
    have ef : fb' = fb := by
      rw [qG, if_pos ⟨rfl, rfl⟩, b1'] at f1
      apply Fin.ext
      rw [zI_eq (by omega) (by omega) (by omega) (by omega)] at f1
      omega
    subst ef
    obtain ⟨d1, d2, d3, d4⟩ := tld_d fb' ⟨u, by omega⟩
    dsimp only at d3 d4
    refine ⟨⟨fb'.val ||| 2 ^ u, d3⟩, ?_, ?_⟩
    · rw [qG, if_neg (by omega), b3]
    · intro u' hu'
      have d5 := d4 ⟨u', hu'⟩
      dsimp only at d5
      show ((fb'.val ||| 2 ^ u).testBit u' = true) ↔ _
      rw [d5]
      by_cases c : u' = u
      · subst c
        rw [decide_eq_true rfl, Bool.or_true]
        refine ⟨fun _ => ⟨hu, ?_⟩, fun _ => rfl⟩
        rw [qG, if_pos ⟨rfl, rfl⟩, Ne, zI_eq (by omega) (by omega) (by omega) (by omega)]
        omega
      · rw [decide_eq_false c, Bool.or_false, f2 u' hu', nM 10 _ (by omega)]
  · intro u' a b
    have := g7 u' a b
    rw [nI 129 u' (by omega) (by omega)]
    exact this
  · intro u' hu'
    obtain ⟨y1, y2, y3, y4, y5⟩ := g8 u' hu'
    rw [nI 126 u' (by omega) (by omega), nI 127 u' (by omega) (by omega), nI 128 u' (by omega) (by omega), nI 130 u' (by omega) (by omega)]
    refine ⟨y1, y2, y3, y4, ?_⟩
    by_cases c : u' = u
    · subst c
      exact ⟨⟨v, by omega⟩, by rw [qG, if_pos ⟨rfl, rfl⟩]⟩
    · rw [nI 131 u' (by omega) (by omega)]
      exact y5
theorem ln_slots {T : Nat → Int32} {B : Nat → Nat} {n A us bd bl : Nat} {I : Nat → Nat → Int32} {J : Nat → Nat → Int64} {M : Nat → Nat → Int32} (hT : TX T B n) (c : CX T n I M) (h : LSt B n A I M) (hS : SR us bd bl I J M) : ∃ I' M', P_X3_readSlots I = some I' ∧ P_X7_readSlots M = some M' ∧ LN B n (tE B n A) I I' J M M' := by
  have u6 : us ≤ 6 := hS.2.2.2.1.1
  have n0 := SR_n hS
  obtain ⟨I', M', e1, e2, e3, e4, e5⟩ := ln_ro (tt := 131) (jj := 13) (o := 10) (b := 255) (bf := fun _ => zI 255) (bg := fun _ => some (zI 255)) hT c h n0 (Or.inr rfl) (by omega) (Or.inr rfl) (by omega) (by omega) (fun _ _ => rfl) (fun _ _ => rfl) n0.2.2.2.1.2.2.2.2.2.1 (fun _ => hS.2.2.2.2.2.2) (fun u v I1 M1 fb hu hv1 hv2 b1' b2 b3 hn => SRn_slt u6 n0.2.2.1.2.1 hu hv1 hv2 b1' b3 hn)
  refine ⟨I', M', by rw [ro_x2]; exact e1, ?_, e3, e4, e5⟩
  rw [ro_m2]
  exact e2
