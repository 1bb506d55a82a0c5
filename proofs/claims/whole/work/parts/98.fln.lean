/-! LINES: those that are told once -/
def FI (I I' : Nat → Nat → Int32) : Prop := ∀ t j, ¬ (t = 121 ∧ j ≠ 1 ∧ j ≠ 9 ∨ 121 < t) → I' t j = I t j
def FM (M M' : Nat → Nat → Int32) : Prop := ∀ t j, ¬ (t = 2 ∧ 10 ≤ j ∨ t = 3 ∨ 4 ≤ t ∧ t ≤ 10 ∧ 6 ≤ j ∨ t = 11 ∧ 9 ≤ j ∨ t = 12 ∧ 61 ≤ j ∨ t = 0 ∧ (j = 14 ∨ 17 ≤ j ∧ j ≤ 22)) → M' t j = M t j
theorem FI_r (I : Nat → Nat → Int32) : FI I I := fun _ _ _ => rfl
theorem FM_r (M : Nat → Nat → Int32) : FM M M := fun _ _ _ => rfl
theorem FI_t {I I' I'' : Nat → Nat → Int32} (h : FI I I') (h' : FI I' I'') : FI I I'' := fun t j c => (h' t j c).trans (h t j c)
theorem FM_t {M M' M'' : Nat → Nat → Int32} (h : FM M M') (h' : FM M' M'') : FM M M'' := fun t j c => (h' t j c).trans (h t j c)
theorem FI_f {I I' : Nat → Nat → Int32} (h : fX I I') : FI I I' := fun t j c => h t j (by omega)
theorem FM_g {M M' : Nat → Nat → Int32} (h : gX M M') : FM M M' := fun t j c => h t j (by omega)
theorem FI_u {I I' : Nat → Nat → Int32} (h : FI I I') {t0 j0 : Nat} (c0 : t0 = 121 ∧ j0 ≠ 1 ∧ j0 ≠ 9 ∨ 121 < t0) (x : Int32) : FI I (qc_u2 I' t0 j0 x) := fun t j c => by rw [qG, if_neg (by omega)]; exact h t j c
theorem FM_u {M M' : Nat → Nat → Int32} (h : FM M M') {t0 j0 : Nat} (c0 : t0 = 2 ∧ 10 ≤ j0 ∨ t0 = 3 ∨ 4 ≤ t0 ∧ t0 ≤ 10 ∧ 6 ≤ j0 ∨ t0 = 11 ∧ 9 ≤ j0 ∨ t0 = 12 ∧ 61 ≤ j0 ∨ t0 = 0 ∧ (j0 = 14 ∨ 17 ≤ j0 ∧ j0 ≤ 22)) (x : Int32) : FM M (qc_u2 M' t0 j0 x) := fun t j c => by rw [qG, if_neg (by omega)]; exact h t j c
theorem CX_F {T : Nat → Int32} {n : Nat} {I I' M M' : Nat → Nat → Int32} (h : CX T n I M) (hI : FI I I') (hM : FM M M') : CX T n I' M' := CX_e h (funext fun j => hI 1 j (by omega)) (hI 121 1 (by omega)) (funext fun j => hM 1 j (by omega)) (hM 0 16 (by omega))
/-- both go on, or both have the same fault -/
def GS (B : Nat → Nat) (n p us bd bl : Nat) (I : Nat → Nat → Int32) (J : Nat → Nat → Int64) (M : Nat → Nat → Int32) : Prop := FLt I M ∨ ∃ A, p ≤ A ∧ ALt B n A I M ∧ SR us bd bl I J M
theorem num_G {T : Nat → Int32} {B : Nat → Nat} {n p us bd bl a b : Nat} {I : Nat → Nat → Int32} {J : Nat → Nat → Int64} {M : Nat → Nat → Int32} (hT : TX T B n) (c : CX T n I M) (h : GS B n p us bd bl I J M) (hab : a ≤ b) (hb : b ≤ 99999) : ∃ (v : Nat) (I' M' : Nat → Nat → Int32), P_X3_takeNumber I (zI (a : Nat)) (zI (b : Nat)) = some (zI (v : Nat), I') ∧ P_X7_numeral M (zI (a : Nat)) (zI (b : Nat)) = some (zI (v : Nat), M') ∧ a ≤ v ∧ v ≤ b ∧ fX I I' ∧ gX M M' ∧ CX T n I' M' ∧ GS B n p us bd bl I' J M' := by
  rcases h with h | ⟨A, hA, h, hS⟩
  · obtain ⟨v, I', M', e1, e2, e3, e4, e5, e6, _, e8, e9⟩ := num_ST (p := 0) hT c (Or.inr h) hab hb
    exact ⟨v, I', M', e1, e2, e3, e4, e5, e6, e8, Or.inl (e9 h)⟩
  · obtain ⟨v, I', M', e1, e2, e3, e4, e5, e6, e7⟩ := num_AL hT c h hab hb
    refine ⟨v, I', M', e1, e2, e3, e4, e5, e6, CX_f c e5 e6, ?_⟩
    rcases e7 with ⟨x1, x2⟩ | e7
    · exact Or.inr ⟨_, by omega, x2, SR_f e5 e6 hS⟩
    · exact Or.inl e7
theorem GS_u {B : Nat → Nat} {n p us bd bl us' bd' bl' : Nat} {I I' : Nat → Nat → Int32} {J J' : Nat → Nat → Int64} {M M' : Nat → Nat → Int32} (hI : ∀ j, 3 ≤ j → j ≤ 8 → I' 121 j = I 121 j) (hM : ∀ j, 17 ≤ j → j ≤ 22 → M' 0 j = M 0 j) (hS : SR us bd bl I J M → SR us' bd' bl' I' J' M') (h : GS B n p us bd bl I J M) : GS B n p us' bd' bl' I' J' M' := by
  rcases h with h | ⟨A, hA, ⟨a1, a2, a3, a4, a5⟩, hR⟩
  · exact Or.inl (FLt_e h (hI 7 (by omega) (by omega)) (hI 8 (by omega) (by omega)) (hM 21 (by omega) (by omega)) (hM 22 (by omega) (by omega)))
  · refine Or.inr ⟨A, hA, ⟨a1, ⟨(hI 7 (by omega) (by omega)).trans a2.1, (hI 8 (by omega) (by omega)).trans a2.2⟩, (hM 21 (by omega) (by omega)).trans a3, (hI 3 (by omega) (by omega)).trans a4, ?_⟩, hS hR⟩
    unfold MT at *
    rw [hM 17 (by omega) (by omega), hM 18 (by omega) (by omega), hM 19 (by omega) (by omega), hM 20 (by omega) (by omega)]
    exact a5
theorem vp_1 : vp_nar .boolean (1 : Int32) = zI 1 := by decide
theorem m_reads {M : Nat → Nat → Int32} {j : Nat} (hj : j < 10) (x : Int32) : P_X7_reads M (zI (j : Nat)) x = some (qc_u2 M 2 (10 + j) x) := by
  obtain ⟨iq, rq⟩ := qi (q := 10 + j) (N := 20) (by omega) (by omega)
  have e : zI 10 + zI (j : Int) = zI ((10 + j : Nat) : Int) := by rw [zI_add]; rfl
  unfold P_X7_reads
  simp only [zL]
  rw [e]
  simp only [if_pos iq, rq, qc_lE]
theorem m_reading {M : Nat → Nat → Int32} {j : Nat} (hj : j < 10) : P_X7_reading M (zI (j : Nat)) = some (M 2 (10 + j)) := by
  obtain ⟨iq, rq⟩ := qi (q := 10 + j) (N := 20) (by omega) (by omega)
  have e : zI 10 + zI (j : Int) = zI ((10 + j : Nat) : Int) := by rw [zI_add]; rfl
  unfold P_X7_reading
  simp only [zL]
  rw [e]
  simp only [if_pos iq, rq]
/-- a word that may stand once -/
theorem both_once {T : Nat → Int32} {B : Nat → Nat} {n A us bd bl k : Nat} {I : Nat → Nat → Int32} {J : Nat → Nat → Int64} {M : Nat → Nat → Int32} (hT : TX T B n) (c : CX T n I M) (hk : k < 6) (h : LSt B n A I M) (hS : SR us bd bl I J M) : ∃ I' M', P_X3_tellOnce I (zI ((2 ^ k : Nat) : Int)) = some I' ∧ P_X7_once M (zI (wB1 k : Nat)) = some M' ∧ FI I I' ∧ FM M M' ∧ GS B n (tE B n A) us bd bl I' J M' := by
  obtain ⟨b, t1, t2⟩ := told_m hS.2.1 hk
  have hw : wB1 k < 11 := by unfold wB1; split <;> omega
  obtain ⟨iq, rq⟩ := qi (q := wB1 k) (N := 11) hw (by omega)
  have hm : P_X7_once M (zI (wB1 k : Nat)) = if bI b = zI 0 then P_X7_once_14 M (zI (wB1 k : Nat)) else (P_X7_wrong M (zI 3)).bind fun q6 => P_X7_once_14 q6 (zI (wB1 k : Nat)) := by
    unfold P_X7_once
    simp only [if_pos iq, rq]
    rw [t2]
    simp only [zL]
  have h14 : ∀ M, P_X7_once_14 M (zI (wB1 k : Nat)) = (P_X7_goOn (qc_u2 M 3 (wB1 k) (zI 1))).bind fun q2 => some q2 := by
    intro M
    unfold P_X7_once_14
    simp only [if_pos iq, rq, vp_1, qc_lE]
  have hx : P_X3_tellOnce I (zI ((2 ^ k : Nat) : Int)) = if I 121 11 &&& zI ((2 ^ k : Nat) : Int) = zI 0 then some (qc_u2 I 121 11 (I 121 11 ||| zI ((2 ^ k : Nat) : Int))) else (P_X3_fail I (zI 3)).bind fun q3 => some (qc_u2 q3 121 11 (q3 121 11 ||| zI ((2 ^ k : Nat) : Int))) := by
    unfold P_X3_tellOnce
    simp only [zL, qc_lE]
  cases b
  · have hS2 := SR_told hk hS
    have c2 : CX T n (qc_u2 I 121 11 (I 121 11 ||| zI ((2 ^ k : Nat) : Int))) (qc_u2 M 3 (wB1 k) (zI 1)) := CX_F c (FI_u (FI_r I) (by omega) _) (FM_u (FM_r M) (by omega) _)
    have h2 : LSt B n A (qc_u2 I 121 11 (I 121 11 ||| zI ((2 ^ k : Nat) : Int))) (qc_u2 M 3 (wB1 k) (zI 1)) := by
      obtain ⟨a1, a2, a3, a4, a5⟩ := h
      refine ⟨a1, ⟨by rw [qG, if_neg (by omega)]; exact a2.1, by rw [qG, if_neg (by omega)]; exact a2.2⟩, by rw [qG, if_neg (by omega)]; exact a3, ?_, ?_⟩
      · unfold XT at *
        rw [qG, if_neg (by omega), qG, if_neg (by omega), qG, if_neg (by omega), qG, if_neg (by omega)]
        exact a4
      · unfold MT at *
        rw [u2_ne (by omega)]
        exact a5
    obtain ⟨M', m1, m2, m3⟩ := b_goOn hT c2 h2
    refine ⟨_, M', by rw [hx, if_pos (t1.2 rfl)], ?_, FI_u (FI_r I) (by omega) _, FM_t (FM_u (FM_r M) (by omega) _) (FM_g (gX_N m2)), Or.inr ⟨_, Nat.le_refl _, m3, SR_f (fX_r _) (gX_N m2) hS2⟩⟩
    rw [hm, if_pos (show bI false = zI 0 from rfl), h14, m1]
    rfl
  · obtain ⟨I1, M1, e1, e2, e3, e4, e5⟩ := both_fail h (k := zI 3) (by decide)
    have f2 : FLt (qc_u2 I1 121 11 (I1 121 11 ||| zI ((2 ^ k : Nat) : Int))) (qc_u2 M1 3 (wB1 k) (zI 1)) := FLt_e e3 (by rw [qG, if_neg (by omega)]) (by rw [qG, if_neg (by omega)]) (by rw [qG, if_neg (by omega)]) (by rw [qG, if_neg (by omega)])
    refine ⟨_, _, ?_, ?_, FI_u (FI_f e4) (by omega) _, FM_u (FM_g e5) (by omega) _, Or.inl f2⟩
    · rw [hx, if_neg (fun z => absurd (t1.1 z) (by decide)), e1]
      rfl
    · rw [hm, if_neg (show ¬ bI true = zI 0 by decide), e2, Option.bind_some, h14, fl_goOn f2]
      rfl
theorem fl_once {k : Nat} {I M : Nat → Nat → Int32} (hk : k < 6) (h : FLt I M) : ∃ I' M', P_X3_tellOnce I (zI ((2 ^ k : Nat) : Int)) = some I' ∧ P_X7_once M (zI (wB1 k : Nat)) = some M' ∧ FI I I' ∧ FM M M' ∧ FLt I' M' := by
  have hw : wB1 k < 11 := by unfold wB1; split <;> omega
  obtain ⟨iq, rq⟩ := qi (q := wB1 k) (N := 11) hw (by omega)
  have f2 : FLt (qc_u2 I 121 11 (I 121 11 ||| zI ((2 ^ k : Nat) : Int))) (qc_u2 M 3 (wB1 k) (zI 1)) := FLt_e h (by rw [qG, if_neg (by omega)]) (by rw [qG, if_neg (by omega)]) (by rw [qG, if_neg (by omega)]) (by rw [qG, if_neg (by omega)])
  refine ⟨_, _, ?_, ?_, FI_u (FI_r I) (by omega) _, FM_u (FM_r M) (by omega) _, f2⟩
  · unfold P_X3_tellOnce
    simp only [zL, qc_lE]
    rw [x_fail1 (fl_x h)]
    by_cases c : I 121 11 &&& zI ((2 ^ k : Nat) : Int) = zI 0
    · rw [if_pos c]
    · rw [if_neg c]; rfl
  · have h14 : P_X7_once_14 M (zI (wB1 k : Nat)) = some (qc_u2 M 3 (wB1 k) (zI 1)) := by
      unfold P_X7_once_14
      simp only [if_pos iq, rq, vp_1, qc_lE]
      rw [fl_goOn f2]
      rfl
    unfold P_X7_once
    simp only [if_pos iq, rq, zL]
    rw [m_wrong1 (fl_m h), Option.bind_some, h14]
    by_cases c : M 3 (wB1 k) = zI 0
    · rw [if_pos c]
    · rw [if_neg c]
/-- what a line does, in both -/
def LN (B : Nat → Nat) (n p : Nat) (I I' : Nat → Nat → Int32) (J' : Nat → Nat → Int64) (M M' : Nat → Nat → Int32) : Prop := FI I I' ∧ FM M M' ∧ ∃ us bd bl, GS B n p us bd bl I' J' M'
theorem ln_num {T : Nat → Int32} {B : Nat → Nat} {n A us bd bl k i a b : Nat} {I : Nat → Nat → Int32} {J : Nat → Nat → Int64} {M : Nat → Nat → Int32} (hT : TX T B n) (c : CX T n I M) (hk : k < 6) (hi : i < 4) (hab : a ≤ b) (hb : b < cN i) (h1 : i = 1 → 1 ≤ a) (h : LSt B n A I M) (hS : SR us bd bl I J M) : ∃ I' M', ((P_X3_tellOnce I (zI ((2 ^ k : Nat) : Int))).bind fun q10 => (P_X3_takeNumber q10 (zI (a : Nat)) (zI (b : Nat))).bind fun q11 => qc_let (qc_u2 q11.2 122 (i + 2) q11.1) fun I12 => some (I12, J)) = some (I', J) ∧ P_X7_readOnce M (zI (wB1 k : Nat)) (zI ((cM i - 10 : Nat) : Int)) (zI (a : Nat)) (zI (b : Nat)) = some M' ∧ LN B n (tE B n A) I I' J M M' := by
  obtain ⟨I1, M1, e1, e2, e3, e4, e5⟩ := both_once hT c hk h hS
  have hb2 : b ≤ 99999 := by
    unfold cN at hb
    split at hb
    · omega
    · split at hb
      · omega
      · split at hb
        · omega
        · split at hb <;> omega
  obtain ⟨v, I2, M2, v1, v2, v3, v4, v5, v6, v7, v8⟩ := num_G hT (CX_F c e3 e4) e5 hab hb2
  have hci : cI i = (122, i + 2) := if_pos hi
  have hcm : 10 + (cM i - 10) = cM i ∧ cM i - 10 < 10 ∧ 11 ≤ cM i := by
    unfold cM
    split
    · omega
    · split <;> omega
  have hG := GS_u (I' := qc_u2 I2 (cI i).1 (cI i).2 (zI (v : Nat))) (M' := qc_u2 M2 2 (cM i) (zI (v : Nat))) (fun j _ _ => by rw [qG, hci, if_neg (by omega)]) (fun j _ _ => by rw [qG, if_neg (by omega)]) (SR_num (k := i) (v := v) (by omega) (by omega) (fun z => by have := h1 z; omega)) v8
  rw [hci] at hG
  refine ⟨_, _, ?_, ?_, FI_u (FI_t e3 (FI_f v5)) (by omega) _, FM_u (FM_t e4 (FM_g v6)) (by omega) _, _, _, _, hG⟩
  · rw [e1, Option.bind_some, v1, Option.bind_some]
    rfl
  · unfold P_X7_readOnce
    rw [e2, Option.bind_some, v2, Option.bind_some, m_reads hcm.2.1, Option.bind_some, hcm.1]
theorem ln_loss {T : Nat → Int32} {B : Nat → Nat} {n A us bd bl : Nat} {I : Nat → Nat → Int32} {J : Nat → Nat → Int64} {M : Nat → Nat → Int32} (hT : TX T B n) (c : CX T n I M) (h : LSt B n A I M) (hS : SR us bd bl I J M) : ∃ I' M', ((P_X3_tellOnce I (zI 16)).bind fun q16 => (P_X3_takeNumber q16 (zI 0) (zI 99)).bind fun q17 => qc_let (qc_u2 q17.2 123 0 q17.1) fun I18 => (P_X3_takeNumber I18 (zI 0) (zI 99)).bind fun q19 => qc_let (qc_u2 q19.2 123 1 q19.1) fun I20 => (P_X3_takeNumber I20 (zI 0) (zI 99)).bind fun q21 => qc_let (qc_u2 q21.2 123 2 q21.1) fun I22 => some (I22, J)) = some (I', J) ∧ P_X7_readLoss M = some M' ∧ LN B n (tE B n A) I I' J M M' := by
  obtain ⟨I1, M1, e1, e2, e3, e4, e5⟩ := both_once (k := 4) hT c (by omega) h hS
  have e1' : P_X3_tellOnce I (zI 16) = some I1 := e1
  have e2' : P_X7_once M (zI 4) = some M1 := e2
  have step : ∀ (i : Nat) (I1 M1 : Nat → Nat → Int32), i < 3 → CX T n I1 M1 → GS B n (tE B n A) us bd bl I1 J M1 → FI I I1 → FM M M1 → ∃ (v : Nat) (I2 M2 : Nat → Nat → Int32), P_X3_takeNumber I1 (zI 0) (zI 99) = some (zI (v : Nat), I2) ∧ P_X7_numeral M1 (zI 0) (zI 99) = some (zI (v : Nat), M2) ∧ CX T n (qc_u2 I2 123 i (zI (v : Nat))) (qc_u2 M2 2 (14 + i) (zI (v : Nat))) ∧ GS B n (tE B n A) us bd bl (qc_u2 I2 123 i (zI (v : Nat))) J (qc_u2 M2 2 (14 + i) (zI (v : Nat))) ∧ FI I (qc_u2 I2 123 i (zI (v : Nat))) ∧ FM M (qc_u2 M2 2 (14 + i) (zI (v : Nat))) := by
    intro i I1 M1 hi c1 g1 f1 f2
    obtain ⟨v, I2, M2, v1, v2, v3, v4, v5, v6, v7, v8⟩ := num_G (a := 0) (b := 99) hT c1 g1 (by omega) (by omega)
    have k1 : FI I (qc_u2 I2 123 i (zI (v : Nat))) := FI_u (FI_t f1 (FI_f v5)) (by omega) _
    have k2 : FM M (qc_u2 M2 2 (14 + i) (zI (v : Nat))) := FM_u (FM_t f2 (FM_g v6)) (by omega) _
    refine ⟨v, I2, M2, v1, v2, CX_F c k1 k2, ?_, k1, k2⟩
    have hci : cI (i + 4) = (123, i) := by
      unfold cI
      rw [if_neg (by omega), show i + 4 - 4 = i by omega]
    have hcm : cM (i + 4) = 14 + i := by
      unfold cM
      rw [if_neg (by omega), if_neg (by omega)]
      omega
    have hcn : cN (i + 4) = 100 := by
      unfold cN
      rw [if_neg (by omega), if_neg (by omega), if_neg (by omega), if_neg (by omega)]
    have hG := GS_u (I' := qc_u2 I2 (cI (i + 4)).1 (cI (i + 4)).2 (zI (v : Nat))) (M' := qc_u2 M2 2 (cM (i + 4)) (zI (v : Nat))) (fun j _ _ => by rw [qG, hci, if_neg (by omega)]) (fun j _ _ => by rw [qG, if_neg (by omega)]) (SR_num (k := i + 4) (v := v) (by omega) (by omega) (fun z => by omega)) v8
    rw [hci, hcm] at hG
    exact hG
  obtain ⟨v0, I2, M2, a1, a2, a3, a4, a5, a6⟩ := step 0 I1 M1 (by omega) (CX_F c e3 e4) e5 e3 e4
  obtain ⟨v1, I3, M3, b1', b2, b3, b4, b5, b6⟩ := step 1 _ _ (by omega) a3 a4 a5 a6
  obtain ⟨v2, I4, M4, c1, c2, c3, c4, c5, c6⟩ := step 2 _ _ (by omega) b3 b4 b5 b6
  refine ⟨_, _, ?_, ?_, c5, c6, _, _, _, c4⟩
  · rw [e1', Option.bind_some, a1, Option.bind_some]
    simp only [qc_lE]
    rw [b1', Option.bind_some]
    rw [c1, Option.bind_some]
  · have r : ∀ (j : Nat) (M : Nat → Nat → Int32) (x : Int32), j < 3 → P_X7_reads M (zI 4 + zI (j : Nat)) x = some (qc_u2 M 2 (14 + j) x) := by
      intro j M x hj
      have e : zI 4 + zI (j : Int) = zI ((4 + j : Nat) : Int) := by rw [zI_add]; rfl
      rw [e, m_reads (by omega), show 10 + (4 + j) = 14 + j by omega]
    have s : ∀ (g j : Nat) (M M2 : Nat → Nat → Int32) (v : Nat), j < 3 → P_X7_numeral M (zI 0) (zI 99) = some (zI (v : Nat), M2) → P_X7_readLoss_7 (g + 1) M (zI (j : Nat)) = P_X7_readLoss_7 g (qc_u2 M2 2 (14 + j) (zI (v : Nat))) (zI ((j + 1 : Nat) : Int)) := by
      intro g j M M2 v hj hn
      rw [P_X7_readLoss_7]
      simp only [zL]
      rw [if_neg (by rw [zI_le] <;> omega), hn, Option.bind_some]
      dsimp only
      rw [r j _ _ hj, Option.bind_some]
      simp only [qc_lE, zI_add]
      rfl
    unfold P_X7_readLoss
    simp only [zL]
    rw [e2', Option.bind_some]
    have ef : qc_fu = 99996 + 1 + 1 + 1 + 1 := rfl
    have s0 := s (99996 + 1 + 1 + 1) 0 M1 M2 v0 (by omega) a2
    have s1 := s (99996 + 1 + 1) 1 _ M3 v1 (by omega) b2
    have s2 := s (99996 + 1) 2 _ M4 v2 (by omega) c2
    have s0' : P_X7_readLoss_7 qc_fu M1 (zI 0) = P_X7_readLoss_7 (99996 + 1 + 1 + 1) (qc_u2 M2 2 (14 + 0) (zI (v0 : Nat))) (zI ((1 : Nat) : Int)) := by
      rw [ef]
      exact s0
    have s2' : P_X7_readLoss_7 (99996 + 1) (qc_u2 M4 2 (14 + 2) (zI (v2 : Nat))) (zI ((2 + 1 : Nat) : Int)) = some (qc_u2 M4 2 (14 + 2) (zI (v2 : Nat))) := by
      rw [P_X7_readLoss_7]
      simp only [zL]
      rw [if_pos (by decide)]
    rw [s0', s1, s2, s2']
theorem ln_band {T : Nat → Int32} {B : Nat → Nat} {n A us bd bl : Nat} {I : Nat → Nat → Int32} {J : Nat → Nat → Int64} {M : Nat → Nat → Int32} (hT : TX T B n) (c : CX T n I M) (h : LSt B n A I M) (hS : SR us bd bl I J M) : ∃ I' M', P_X3_readBand I = some I' ∧ P_X7_readBand M = some M' ∧ LN B n (tE B n A) I I' J M M' := by
  have hus : I 122 0 = zI (us : Nat) := hS.2.2.2.1.2.1
  have hbl : I 121 10 = zI (bl : Nat) := hS.2.2.2.2.1.2.1
  have h14 := hS.2.2.2.2.2.2
  have u6 : us ≤ 6 := hS.2.2.2.1.1
  have l6 : bl ≤ 6 := hS.2.2.2.2.1.1
  have rest : ∀ (us bd bl : Nat) (I1 M1 : Nat → Nat → Int32), CX T n I1 M1 → (∃ I2 M2, P_X3_tellOnce I1 (zI ((2 ^ 0 : Nat) : Int)) = some I2 ∧ P_X7_once M1 (zI (wB1 0 : Nat)) = some M2 ∧ FI I1 I2 ∧ FM M1 M2 ∧ GS B n (tE B n A) us bd bl I2 J M2 ∧ (FLt I2 M2 ∨ (us = 0 ∧ bl = 0))) → ∃ I' M', P_X3_readBand_22 I1 = some I' ∧ P_X7_readOnce M1 (zI 0) (zI 0) (zI 4) (zI 60) = some M' ∧ FI I1 I' ∧ FM M1 M' ∧ ∃ us bd bl, GS B n (tE B n A) us bd bl I' J M' := by
    intro us bd bl I1 M1 c1 ⟨I2, M2, e1, e2, e3, e4, e5, e6⟩
    obtain ⟨v, I3, M3, v1, v2, v3, v4, v5, v6, v7, v8⟩ := num_G (a := 4) (b := 60) hT (CX_F c1 e3 e4) e5 (by omega) (by omega)
    have e1' : P_X3_tellOnce I1 (zI 1) = some I2 := e1
    have e2' : P_X7_once M1 (zI 0) = some M2 := e2
    have v1' : P_X3_takeNumber I2 (zI 4) (zI 60) = some (zI (v : Nat), I3) := v1
    have v2' : P_X7_numeral M2 (zI 4) (zI 60) = some (zI (v : Nat), M3) := v2
    have r0 := m_reads (M := M3) (j := 0) (by omega) (zI (v : Nat))
    have r0' : P_X7_reads M3 (zI 0) (zI (v : Nat)) = some (qc_u2 M3 2 10 (zI (v : Nat))) := r0
    refine ⟨qc_u2 I3 122 1 (zI (v : Nat)), qc_u2 M3 2 10 (zI (v : Nat)), ?_, ?_, FI_u (FI_t e3 (FI_f v5)) (by omega) _, FM_u (FM_t e4 (FM_g v6)) (by omega) _, ?_⟩
    · unfold P_X3_readBand_22
      simp only [zL]
      rw [e1', Option.bind_some, v1', Option.bind_some]
      rfl
    · unfold P_X7_readOnce
      rw [e2', Option.bind_some, v2', Option.bind_some]
      dsimp only
      rw [r0', Option.bind_some]
    · have nI : ∀ j, 3 ≤ j → j ≤ 8 → qc_u2 I3 122 1 (zI (v : Nat)) 121 j = I3 121 j := fun j _ _ => by rw [qG, if_neg (by omega)]
      have nM : ∀ j, 17 ≤ j → j ≤ 22 → qc_u2 M3 2 10 (zI (v : Nat)) 0 j = M3 0 j := fun j _ _ => by rw [qG, if_neg (by omega)]
      rcases e6 with e6 | ⟨rfl, rfl⟩
      · rcases v8 with v8 | ⟨A', x1, x2, x3⟩
        · exact ⟨us, bd, bl, Or.inl (FLt_e v8 (nI 7 (by omega) (by omega)) (nI 8 (by omega) (by omega)) (nM 21 (by omega) (by omega)) (nM 22 (by omega) (by omega)))⟩
        · obtain ⟨v', I'', M'', w1, w2, w3, w4, w5, w6, w7, w8, w9⟩ := num_ST (p := 0) (a := 4) (b := 60) hT (CX_F c1 e3 e4) (Or.inr e6) (by omega) (by omega)
          rw [v1] at w1
          have := w9 e6
          have e : I3 = I'' := congrArg Prod.snd (Option.some.inj w1)
          exact absurd x2.2.1.1 (by rw [e]; exact fl_x this)
      · exact ⟨0, v, 0, GS_u nI nM (SR_band v3 v4) v8⟩
  by_cases cc : 0 < us ∨ 0 < bl
  · obtain ⟨I1, M1, e1, e2, e3, e4, e5⟩ := both_fail h (k := zI 1) (by decide)
    obtain ⟨I2, M2, g1, g2, g3, g4, g5⟩ := fl_once (k := 0) (by omega) e3
    obtain ⟨I', M', k1, k2, k3, k4, k5⟩ := rest us bd bl I1 M1 (CX_f c e4 e5) ⟨I2, M2, g1, g2, g3, g4, Or.inl g5, Or.inl g5⟩
    refine ⟨I', M', ?_, ?_, FI_t (FI_f e4) k3, FM_t (FM_g e5) k4, k5⟩
    · have h17 : P_X3_readBand_17 I = some I' := by
        unfold P_X3_readBand_17
        simp only [zL]
        rw [e1, Option.bind_some, k1]
      unfold P_X3_readBand
      simp only [zL]
      rw [hus, hbl, h17]
      by_cases c1 : 0 < us
      · rw [if_pos (by rw [zI_lt] <;> omega)]
      · rw [if_neg (by rw [zI_lt] <;> omega), if_neg (by rw [zI_le] <;> omega)]
    · unfold P_X7_readBand
      simp only [zL]
      rw [h14, decide_eq_true cc, if_neg (show ¬ bI true = zI 0 by decide), e2, Option.bind_some, k2]
      rfl
  · have us0 : us = 0 := by omega
    have bl0 : bl = 0 := by omega
    obtain ⟨I2, M2, g1, g2, g3, g4, g5⟩ := both_once (k := 0) hT c (by omega) h hS
    obtain ⟨I', M', k1, k2, k3, k4, k5⟩ := rest us bd bl I M c ⟨I2, M2, g1, g2, g3, g4, g5, Or.inr ⟨us0, bl0⟩⟩
    refine ⟨I', M', ?_, ?_, k3, k4, k5⟩
    · unfold P_X3_readBand
      simp only [zL]
      rw [hus, hbl, if_neg (by rw [zI_lt] <;> omega), if_pos (by rw [zI_le] <;> omega), k1]
    · unfold P_X7_readBand
      simp only [zL]
      rw [h14, decide_eq_false cc, if_pos (show bI false = zI 0 from rfl), k2]
      rfl
