/-! text -/
theorem rd_lo {I : Nat → Nat → Int32} {a : Int32} {t j : Nat} (h : t < 121) : iRd (qc_cI I) a t j = I t j := by
  unfold iRd iSc122
  simp (disch := omega) only [qG, iteF]
  unfold qc_cI
  rw [if_pos h]
theorem rd_hi {I : Nat → Nat → Int32} {a : Int32} {t j : Nat} (h : 125 ≤ t) : iRd (qc_cI I) a t j = zI 0 := by
  unfold iRd iSc122
  simp (disch := omega) only [qG, iteF]
  unfold qc_cI
  rw [if_neg (by omega)]
  rfl
theorem lkX_d : ∀ k : Fin 9, lkX k.val 100 = if k.val % 4 = 0 then 0 else 1000 := by decide
/-- nothing has been read yet -/
theorem SR_init {I M : Nat → Nat → Int32} {J : Nat → Nat → Int64} (i0 : I 122 0 = zI 0 ∧ I 122 1 = zI 30 ∧ I 122 2 = zI 0 ∧ I 122 3 = zI 1 ∧ I 122 4 = zI 2 ∧ I 122 5 = zI 0) (i1 : I 123 0 = zI 5 ∧ I 123 1 = zI 10 ∧ I 123 2 = zI 20) (i2 : ∀ k, k < 9 → I 124 k = zI (if k % 4 = 0 then 0 else 1000)) (i3 : ∀ t u, 125 ≤ t → t ≤ 131 → u < 8 → I t u = zI 0) (i4 : I 121 10 = zI 0 ∧ I 121 11 = zI 0 ∧ I 121 12 = zI 0 ∧ I 121 13 = zI 0) (j0 : J 122 6 = 0) (m0 : M 2 10 = zI 30 ∧ M 2 11 = zI 0 ∧ M 2 12 = zI 1 ∧ M 2 13 = zI 2 ∧ M 2 14 = zI 5 ∧ M 2 15 = zI 10 ∧ M 2 16 = zI 20 ∧ M 2 17 = zI 0 ∧ M 2 18 = zI 0 ∧ M 2 19 = zI 0) (m1 : ∀ k, k < 9 → M 11 (9 + k) = zI (-2)) (m2 : ∀ k, k < 11 → M 3 k = zI 0) (m3 : ∀ c, c < 61 → M 12 (61 + c) = zI 0) (m4 : M 0 14 = zI 0) : SR 0 30 0 I J M := by
  obtain ⟨a0, a1, a2, a3, a4, a5⟩ := i0
  obtain ⟨b0, b1', b2⟩ := i1
  obtain ⟨c0, c1, c2, c3⟩ := i4
  obtain ⟨d0, d1, d2, d3, d4, d5, d6, d7, d8, d9⟩ := m0
  have sb : ∀ (x : Int32) (r : Nat → Int32), x = zI 0 → SB 0 x r := by
    intro x r e
    refine ⟨0, e, fun u hu => ?_⟩
    have : (0 : Fin 64).val.testBit u = false := Nat.zero_testBit u
    rw [this]
    exact ⟨fun z => absurd z (by decide), fun z => absurd z.1 (by omega)⟩
  refine ⟨⟨⟨0, by omega, by omega, a2, d1⟩, ⟨1, by omega, by omega, a3, d2⟩, ⟨2, by omega, by omega, a4, d3⟩, ⟨0, by omega, by omega, a5, d9⟩, ⟨5, by omega, by omega, b0, d4⟩, ⟨10, by omega, by omega, b1', d5⟩, ⟨20, by omega, by omega, b2, d6⟩⟩, ⟨0, c1, m2 0 (by omega), m2 1 (by omega), m2 2 (by omega), m2 3 (by omega), m2 4 (by omega), m2 10 (by omega)⟩, ⟨by omega, by omega, a1, d0⟩, ⟨by omega, a0, d7, fun u hu => absurd hu (by omega), sb _ _ c2, sb _ _ c3, fun u _ hu => i3 129 u (by omega) (by omega) hu, fun u hu => ⟨⟨0, i3 126 u (by omega) (by omega) hu⟩, ⟨0, i3 130 u (by omega) (by omega) hu⟩, ⟨0, i3 127 u (by omega) (by omega) hu⟩, ⟨0, i3 128 u (by omega) (by omega) hu⟩, ⟨0, i3 131 u (by omega) (by omega) hu⟩⟩⟩, ⟨by omega, c0, d8, fun _ => false, fun c hc => by rw [j0]; exact bj_0 c, fun c hc => m3 c hc, fun _ _ _ => rfl, fun _ _ _ => rfl⟩, ⟨fun _ => 100, fun k hk => ⟨?_, m1 k hk, fun _ => rfl⟩⟩, m4⟩
  rw [i2 k hk]
  have := lkX_d ⟨k, hk⟩
  dsimp only at this
  rw [this]
set_option maxHeartbeats 4000000 in
theorem st_1 : St_1 Rel := by
  intro I J w M a ⟨V, n0, h0⟩
  have h := RelV_0 h0 (zI 0)
  obtain ⟨m, hm, im, mm⟩ := h.2.2.2.1.2.1
  obtain ⟨za, rfl, a1, a2⟩ := zAll a
  have eT : P_X7_text M (zI za) = if zI za < zI 0 then some (-zI 2, qc_u2 M 0 0 (zI 0)) else if zI za ≤ zI (m : Nat) then (P_X7_readText (qc_u2 M 0 0 (zI 0)) (zI za)).bind fun q4 => qc_let (qc_u2 q4 0 2 (zI 0)) fun I5 => qc_let (qc_u2 I5 0 23 (I5 0 21)) fun I6 => (if I6 0 21 = zI 0 then some (-zI 1) else some (I6 0 22)).bind fun v8 => qc_let (qc_u2 I6 0 24 v8) fun I9 => if I9 0 21 = zI 0 then (P_X7_takeText I9).bind fun q11 => (P_X7_begins q11).bind fun q12 => qc_let (qc_u2 q12 0 28 (zI 0)) fun I13 => qc_let (qc_u2 I13 0 29 (zI 0)) fun I14 => some (I14 0 15, I14) else some (-zI 1, I9) else some (-zI 2, qc_u2 M 0 0 (zI 0)) := by
    unfold P_X7_text
    simp only [zL]
    rw [qc_lE (qc_u2 M 0 0 (zI 0)), mm]
  have n2 : (-2 : Int32) = zI (-2) := by decide
  have nz2 : -zI 2 = zI (-2) := by decide
  have z0 : (0 : Int32) = zI 0 := rfl
  by_cases k1 : za < 0
  · refine ⟨(zI (-2), qc_u2 M 0 0 (zI 0)), ?_, Or.inl ⟨Or.inl (by rw [z0, zI_lt] <;> omega), n2, V, n0, h⟩⟩
    rw [eT, if_pos (by rw [zI_lt] <;> omega), nz2]
  by_cases k2 : (m : Int) < za
  · refine ⟨(zI (-2), qc_u2 M 0 0 (zI 0)), ?_, Or.inl ⟨Or.inr (by rw [im, zI_le] <;> omega), n2, V, n0, h⟩⟩
    rw [eT, if_neg (by rw [zI_lt] <;> omega), if_neg (by rw [zI_le] <;> omega), nz2]
  -- a text is read
  obtain ⟨n, rfl⟩ : ∃ n : Nat, za = (n : Int) := ⟨za.toNat, by omega⟩
  have hn : n ≤ 700 := by omega
  obtain ⟨B0, hB⟩ := pickF (0 : Fin 256) (P := fun k (b : Fin 256) => I 1 k = zI b.val) (N := 700) h.2.2.2.1.2.2.1
  have hT : TX (I 1) (fun k => (B0 k).val) n := ⟨hn, fun k hk => ⟨hB k hk, (B0 k).isLt⟩⟩
  have iM1 : qc_u2 M 0 0 (zI 0) 1 = I 1 := h.2.2.2.1.1.symm
  generalize hB1 : (fun k => (B0 k).val) = B at hT
  rw [if_neg (by rw [zI_lt] <;> omega), if_pos (by rw [zI_le] <;> omega)] at eT
  -- the class's reader
  have jrd : jRd (qc_cJ J) 122 6 = 0 := by
    unfold jRd
    rw [qG, if_pos ⟨rfl, rfl⟩]
  have jlo : ∀ t, t < 121 → jRd (qc_cJ J) t = J t := by
    intro t ht
    unfold jRd qc_cJ qc_u2 qc_u
    rw [if_neg (by omega)]
    exact if_pos ht
  have rlo : ∀ t j, t < 121 → iRd (qc_cI I) (zI (n : Nat)) t j = I t j := fun t j ht => rd_lo ht
  have rhi : ∀ t j, 125 ≤ t → iRd (qc_cI I) (zI (n : Nat)) t j = zI 0 := fun t j ht => rd_hi ht
  have r121 : iRd (qc_cI I) (zI (n : Nat)) 121 1 = zI (n : Nat) ∧ iRd (qc_cI I) (zI (n : Nat)) 121 3 = zI 0 ∧ iRd (qc_cI I) (zI (n : Nat)) 121 7 = zI 0 ∧ iRd (qc_cI I) (zI (n : Nat)) 121 8 = zI (-1) ∧ iRd (qc_cI I) (zI (n : Nat)) 121 9 = zI 0 ∧ iRd (qc_cI I) (zI (n : Nat)) 121 10 = zI 0 ∧ iRd (qc_cI I) (zI (n : Nat)) 121 11 = zI 0 ∧ iRd (qc_cI I) (zI (n : Nat)) 121 12 = zI 0 ∧ iRd (qc_cI I) (zI (n : Nat)) 121 13 = zI 0 := by
    unfold iRd
    simp [qG]
    decide
  have r122 : iRd (qc_cI I) (zI (n : Nat)) 122 0 = zI 0 ∧ iRd (qc_cI I) (zI (n : Nat)) 122 1 = zI 30 ∧ iRd (qc_cI I) (zI (n : Nat)) 122 2 = zI 0 ∧ iRd (qc_cI I) (zI (n : Nat)) 122 3 = zI 1 ∧ iRd (qc_cI I) (zI (n : Nat)) 122 4 = zI 2 ∧ iRd (qc_cI I) (zI (n : Nat)) 122 5 = zI 0 := by
    unfold iRd iSc122
    simp [qG]
    decide
  have r123 : iRd (qc_cI I) (zI (n : Nat)) 123 0 = zI 5 ∧ iRd (qc_cI I) (zI (n : Nat)) 123 1 = zI 10 ∧ iRd (qc_cI I) (zI (n : Nat)) 123 2 = zI 20 := by
    unfold iRd iSc122
    simp [qG]
    decide
  have r124 : ∀ k, k < 9 → iRd (qc_cI I) (zI (n : Nat)) 124 k = zI (if k % 4 = 0 then 0 else 1000) := by
    intro k hk
    have : k = 0 ∨ k = 1 ∨ k = 2 ∨ k = 3 ∨ k = 4 ∨ k = 5 ∨ k = 6 ∨ k = 7 ∨ k = 8 := by omega
    unfold iRd iSc122
    rcases this with rfl | rfl | rfl | rfl | rfl | rfl | rfl | rfl | rfl <;> (simp [qG]; try decide)
  generalize hI0 : iRd (qc_cI I) (zI (n : Nat)) = I0 at *
  generalize hJ0 : jRd (qc_cJ J) = J0 at *
  obtain ⟨I1, x1, x2, x3⟩ := x_next hT (A := 0) (by omega) (I := I0) (funext fun j => rlo 1 j (by omega)) r121.1 r121.2.1
  -- the reference's
  generalize hM0 : qc_u2 M 0 0 (zI 0) = M0 at *
  obtain ⟨M2, f1, f2, f3, f4, f5, f6, f7⟩ := m_fresh (qc_u2 (qc_u2 (qc_u2 (qc_u2 M0 0 16 (zI (n : Nat))) 0 17 (zI 0)) 0 21 (zI 0)) 0 15 (zI 0))
  have g0 : ∀ t j, ¬ (t = 2 ∧ 10 ≤ j ∨ t = 3 ∨ t = 11 ∧ 9 ≤ j ∨ t = 12 ∧ 61 ≤ j ∨ t = 0 ∧ 14 ≤ j ∧ j ≤ 22) → M2 t j = M0 t j := by
    intro t j cc
    rw [f7 t j (by omega), qG, if_neg (by omega), qG, if_neg (by omega), qG, if_neg (by omega), qG, if_neg (by omega)]
  have g16 : M2 0 16 = zI (n : Nat) := by rw [f7 0 16 (by omega), qG, if_neg (by omega), qG, if_neg (by omega), qG, if_neg (by omega), qG, if_pos ⟨rfl, rfl⟩]
  have g17 : M2 0 17 = zI 0 := by rw [f7 0 17 (by omega), qG, if_neg (by omega), qG, if_neg (by omega), qG, if_pos ⟨rfl, rfl⟩]
  have g21 : M2 0 21 = zI 0 := by rw [f7 0 21 (by omega), qG, if_neg (by omega), qG, if_pos ⟨rfl, rfl⟩]
  have g15 : M2 0 15 = zI 0 := by rw [f7 0 15 (by omega), qG, if_pos ⟨rfl, rfl⟩]
  have gM1 : M2 1 = I 1 := by
    funext j
    rw [g0 1 j (by omega), iM1]
  obtain ⟨M3, y1, y2, y3⟩ := m_token hT (A := 0) (by omega) n 0 qc_fu M2 (by omega) (by unfold qc_fu; omega) gM1 g16 g17 rfl
  have y1' : P_X7_token M2 = some M3 := y1
  have c3 : CX (I 1) n I1 M3 := ⟨((fN_1 x2).1).trans (funext fun j => rlo 1 j (by omega)), ((fN_1 x2).2).trans r121.1, ((gN_1 y2).1).trans gM1, ((gN_1 y2).2).trans g16⟩
  have l3 : LSt B n 0 I1 M3 := ⟨by omega, ⟨(x2 121 7 (by omega)).trans r121.2.2.1, (x2 121 8 (by omega)).trans r121.2.2.2.1⟩, (y2 0 21 (by omega)).trans g21, x3, y3⟩
  have s3 : SR 0 30 0 I1 J0 M3 := by
    refine SR_f (fX_N x2) (gX_N y2) (SR_init r122 r123 r124 (fun t u ht _ _ => rhi t u ht) ⟨r121.2.2.2.2.2.1, r121.2.2.2.2.2.2.1, r121.2.2.2.2.2.2.2.1, r121.2.2.2.2.2.2.2.2⟩ jrd f2 f3 f4 f5 f6)
  obtain ⟨I4, J4, M4, v1, v2, v3, v4, v5, v6⟩ := both_all hT n 0 qc_fu qc_fu 0 30 0 0 I1 J0 M3 (by omega) (by unfold qc_fu; omega) (by unfold qc_fu; omega) c3 l3 s3 ((x2 121 9 (by omega)).trans r121.2.2.2.2.1) ((y2 0 15 (by omega)).trans g15) (by omega)
  have eX : P_X3_readAll I0 J0 = some (I4, J4) := by
    unfold P_X3_readAll
    rw [x1, Option.bind_some, v1]
  have eR : P_X7_readText M0 (zI (n : Nat)) = some M4 := by
    unfold P_X7_readText
    simp only [zL, qc_lE]
    rw [f1, Option.bind_some, y1', Option.bind_some, v2]
  rw [eR, Option.bind_some] at eT
  have i4lo : ∀ t j, t < 121 → I4 t j = I t j := fun t j ht => (v4 t j (by omega)).trans ((x2 t j (by omega)).trans (rlo t j ht))
  have j4lo : ∀ t, t < 121 → J4 t = J t := fun t ht => (v3 t (by omega)).trans (jlo t ht)
  have m4lo : ∀ t j, ¬ (t = 2 ∧ 10 ≤ j ∨ t = 3 ∨ 4 ≤ t ∧ t ≤ 10 ∧ 6 ≤ j ∨ t = 11 ∧ 9 ≤ j ∨ t = 12 ∧ 61 ≤ j ∨ t = 0 ∧ 14 ≤ j ∧ j ≤ 22) → M4 t j = M0 t j := fun t j cc => (v5 t j (by omega)).trans ((y2 t j (by omega)).trans (g0 t j (by omega)))
  have hb1 : ∀ k, k < 700 → ∃ b : Fin 256, I 1 k = zI b.val := h.2.2.2.1.2.2.1
  rcases v6 with v6 | ⟨⟨p1, p2⟩, p3, p4, us, bd, bl, p5⟩
  · -- a fault
    obtain ⟨k, q1, q2, q3, q4⟩ := v6
    have q3' : M4 0 21 ≠ zI 0 := by rw [q3]; exact q1
    have eT2 : P_X7_text M (zI (n : Int)) = some (-zI 1, qc_u2 (qc_u2 (qc_u2 M4 0 2 (zI 0)) 0 23 (M4 0 21)) 0 24 (M4 0 22)) := by
      rw [eT]
      simp only [qc_lE]
      simp (disch := first | exact q3' | omega) only [qG, iteF, Option.bind_some]
    refine ⟨_, eT2, Or.inr ⟨by rw [z0, zI_lt] <;> omega, by rw [im, zI_le] <;> omega, (I4, J4), qc_u2 I4 0 1 0, qc_u2 (qc_u2 I4 0 1 0) 0 2 (qc_u2 I4 0 1 0 121 7), qc_u2 (qc_u2 (qc_u2 I4 0 1 0) 0 2 (qc_u2 I4 0 1 0 121 7)) 0 3 (qc_u2 (qc_u2 I4 0 1 0) 0 2 (qc_u2 I4 0 1 0 121 7) 121 8), eX, rfl, rfl, rfl, Or.inl ⟨?_, (show (-1 : Int32) = -zI 1 by decide), V, n0, ?_⟩⟩⟩
    · rw [qG, if_neg (by omega), qG, if_pos ⟨rfl, rfl⟩, qG, if_neg (by omega), q2]
      exact q1
    · show RelV V n0 (qc_u2 (qc_u2 (qc_u2 I4 0 1 0) 0 2 (qc_u2 I4 0 1 0 121 7)) 0 3 (qc_u2 (qc_u2 I4 0 1 0) 0 2 (qc_u2 I4 0 1 0 121 7) 121 8)) J4 w (qc_u2 (qc_u2 (qc_u2 M4 0 2 (zI 0)) 0 23 (M4 0 21)) 0 24 (M4 0 22))
      refine RelV_text h ?_ ?_ j4lo ?_ ?_
      · intro t ht ht0
        rw [u2_ne (by omega), u2_ne (by omega), u2_ne (by omega)]
        exact funext fun j => i4lo t j ht
      · rw [qG, if_neg (by omega), qG, if_neg (by omega), qG, if_neg (by omega)]
        exact i4lo 0 10 (by omega)
      · intro t j cc
        rw [qG, if_neg (by omega), qG, if_neg (by omega), qG, if_neg (by omega)]
        exact m4lo t j (by omega)
      · refine ⟨?_, ⟨0, by omega, ?_, ?_⟩, ?_, ?_, ?_⟩
        · rw [u2_ne (by omega), u2_ne (by omega), u2_ne (by omega), u2_ne (by omega), u2_ne (by omega), u2_ne (by omega)]
          funext j
          rw [i4lo 1 j (by omega), m4lo 1 j (by omega), iM1]
        · rw [qG, if_neg (by omega), qG, if_neg (by omega), qG, if_pos ⟨rfl, rfl⟩]
          rfl
        · rw [qG, if_neg (by omega), qG, if_neg (by omega), qG, if_pos ⟨rfl, rfl⟩]
          rfl
        · intro k hk
          rw [u2_ne (by omega), u2_ne (by omega), u2_ne (by omega), i4lo 1 k (by omega)]
          exact hb1 k hk
        · rw [qG, if_neg (by omega), qG, if_pos ⟨rfl, rfl⟩, qG, if_neg (by omega), qG, if_neg (by omega), qG, if_pos ⟨rfl, rfl⟩, q2, q3]
        · rw [qG, if_pos ⟨rfl, rfl⟩, qG, if_neg (by omega), qG, if_neg (by omega), qG, if_pos ⟨rfl, rfl⟩, q4]
  · -- none
    have mk := mk_rel (us := us) (bd := bd) (bl := bl) (I := I4) (J := J4) (N := qc_u2 (qc_u2 (qc_u2 M4 0 2 (zI 0)) 0 23 (zI 0)) 0 24 (zI (-1))) (X := fun t => qc_u2 (qc_u2 (qc_u2 (qc_u2 (qc_u2 I4 0 1 0) 0 2 (zI 0)) 0 3 (zI (-1))) 0 10 0) 35 1 0 (sg t)) (JX := fun t => J4 (sg t)) (w := w) (SRn_0 (fun t j ht => by rw [qG, if_neg (by omega), qG, if_neg (by omega), qG, if_neg (by omega)]) (SR_n p5))
      (by
        intro t j h1 h2
        have e : sg t = t + 120 := if_pos ⟨h1, h2⟩
        try dsimp only
        rw [e, qG, if_neg (by omega), qG, if_neg (by omega), qG, if_neg (by omega), qG, if_neg (by omega), qG, if_neg (by omega)])
      rfl
      (by
        have e : sg 1 = 1 := if_neg (by omega)
        try dsimp only
        rw [e, u2_ne (by omega), u2_ne (by omega), u2_ne (by omega), u2_ne (by omega), u2_ne (by omega), u2_ne (by omega), u2_ne (by omega), u2_ne (by omega)]
        funext j
        rw [i4lo 1 j (by omega), m4lo 1 j (by omega), iM1])
      (by
        have e : sg 0 = 0 := if_neg (by omega)
        try dsimp only
        rw [e, qG, if_neg (by omega), qG, if_neg (by omega), qG, if_neg (by omega), qG, if_neg (by omega), qG, if_pos ⟨rfl, rfl⟩]
        rfl)
      (by rw [qG, if_neg (by omega), qG, if_neg (by omega), qG, if_pos ⟨rfl, rfl⟩])
      (by
        intro k hk
        have e : sg 1 = 1 := if_neg (by omega)
        try dsimp only
        rw [e, u2_ne (by omega), u2_ne (by omega), u2_ne (by omega), u2_ne (by omega), u2_ne (by omega), i4lo 1 k (by omega)]
        exact hb1 k hk)
      (by
        have e : sg 0 = 0 := if_neg (by omega)
        try dsimp only
        rw [e, qG, if_neg (by omega), qG, if_neg (by omega), qG, if_neg (by omega), qG, if_pos ⟨rfl, rfl⟩, qG, if_neg (by omega), qG, if_pos ⟨rfl, rfl⟩])
      (by
        have e : sg 0 = 0 := if_neg (by omega)
        try dsimp only
        rw [e, qG, if_neg (by omega), qG, if_neg (by omega), qG, if_pos ⟨rfl, rfl⟩, qG, if_pos ⟨rfl, rfl⟩])
      (by
        have e : sg 35 = 35 := sg_o (by omega)
        try dsimp only
        rw [e, qG, if_pos ⟨rfl, rfl⟩]
        rfl)
      (by
        have e : sg 0 = 0 := if_neg (by omega)
        try dsimp only
        rw [e, qG, if_neg (by omega), qG, if_pos ⟨rfl, rfl⟩]
        rfl)
      h.2.2.2.2.2.2.1
      (by
        have e : sg 14 = 14 := sg_o (by omega)
        try dsimp only
        rw [e, u2_ne (by omega), u2_ne (by omega), u2_ne (by omega), u2_ne (by omega), u2_ne (by omega)]
        have e2 : I4 14 = I 14 := funext fun j => i4lo 14 j (by omega)
        rw [e2]
        exact h.2.2.2.2.2.2.2.2.2.2)
    obtain ⟨N1, N2, k1', k2', k3, k4⟩ := mk
    have nz1 : -zI 1 = zI (-1) := by decide
    have eT2 : P_X7_text M (zI (n : Int)) = some (qc_u2 (qc_u2 N2 0 28 (zI 0)) 0 29 (zI 0) 0 15, qc_u2 (qc_u2 N2 0 28 (zI 0)) 0 29 (zI 0)) := by
      rw [eT]
      simp only [qc_lE]
      simp (disch := omega) only [qG, iteF]
      rw [if_pos p3, Option.bind_some]
      try simp (disch := omega) only [qG, iteF]
      rw [if_pos p3, p3, nz1, k1', Option.bind_some, k2', Option.bind_some]
    refine ⟨_, eT2, Or.inr ⟨by rw [z0, zI_lt] <;> omega, by rw [im, zI_le] <;> omega, (I4, J4), qc_u2 I4 0 1 0, qc_u2 (qc_u2 I4 0 1 0) 0 2 (qc_u2 I4 0 1 0 121 7), qc_u2 (qc_u2 (qc_u2 I4 0 1 0) 0 2 (qc_u2 I4 0 1 0 121 7)) 0 3 (qc_u2 (qc_u2 I4 0 1 0) 0 2 (qc_u2 I4 0 1 0 121 7) 121 8), eX, rfl, rfl, rfl, Or.inr ⟨?_, qc_u2 (qc_u2 (qc_u2 (qc_u2 I4 0 1 0) 0 2 (qc_u2 I4 0 1 0 121 7)) 0 3 (qc_u2 (qc_u2 I4 0 1 0) 0 2 (qc_u2 I4 0 1 0 121 7) 121 8)) 0 10 0, qc_u2 (qc_u2 (qc_u2 (qc_u2 (qc_u2 I4 0 1 0) 0 2 (qc_u2 I4 0 1 0 121 7)) 0 3 (qc_u2 (qc_u2 I4 0 1 0) 0 2 (qc_u2 I4 0 1 0 121 7) 121 8)) 0 10 0) 35 1 0, rfl, rfl, ?_, ?_⟩⟩⟩
    · rw [qG, if_neg (by omega), qG, if_pos ⟨rfl, rfl⟩, qG, if_neg (by omega), p1]
      rfl
    · show qc_u2 (qc_u2 (qc_u2 (qc_u2 (qc_u2 I4 0 1 0) 0 2 (qc_u2 I4 0 1 0 121 7)) 0 3 _) 0 10 0) 35 1 0 121 9 = qc_u2 (qc_u2 N2 0 28 (zI 0)) 0 29 (zI 0) 0 15
      rw [qG, if_neg (by omega), qG, if_neg (by omega), qG, if_neg (by omega), qG, if_neg (by omega), qG, if_neg (by omega), qG, if_neg (by omega), qG, if_neg (by omega), k3 15 (by omega), qG, if_neg (by omega), qG, if_neg (by omega), qG, if_neg (by omega), p4]
    · have e7 : qc_u2 I4 0 1 0 121 7 = zI 0 := by rw [qG, if_neg (by omega)]; exact p1
      have e8 : qc_u2 (qc_u2 I4 0 1 0) 0 2 (zI 0) 121 8 = zI (-1) := by rw [qG, if_neg (by omega), qG, if_neg (by omega)]; exact p2
      show Rel (fun t => qc_u2 (qc_u2 (qc_u2 (qc_u2 (qc_u2 I4 0 1 0) 0 2 (qc_u2 I4 0 1 0 121 7)) 0 3 (qc_u2 (qc_u2 I4 0 1 0) 0 2 (qc_u2 I4 0 1 0 121 7) 121 8)) 0 10 0) 35 1 0 (sg t)) (fun t => J4 (sg t)) w _
      rw [e7, e8]
      exact k4
