/-! A CHANGE IS REMEMBERED on both sides -/
theorem remM_ne (M : Nat → Nat → Int32) (n : Nat) {t : Nat} (h : t ≠ 14) (h0 : t ≠ 0) : remM M n t = M t := by
  unfold remM
  by_cases e : n = 20
  · rw [if_pos e]
    unfold qc_u2 qc_u
    rw [if_neg h0, cpM_ne _ _ _ _ _ _ h, if_neg h0, cpM_ne _ _ _ _ _ _ h]
  · rw [if_neg e]
    unfold qc_u2 qc_u
    rw [if_neg h0, cpM_ne _ _ _ _ _ _ h]
theorem remM_0 (M : Nat → Nat → Int32) (n : Nat) {j : Nat} (h : j ≠ 28) : remM M n 0 j = M 0 j := by
  unfold remM
  by_cases e : n = 20
  · rw [if_pos e, qG, if_neg (by omega), cpM_ne _ _ _ _ _ _ (by omega), qG, if_neg (by omega), cpM_ne _ _ _ _ _ _ (by omega)]
  · rw [if_neg e, qG, if_neg (by omega), cpM_ne _ _ _ _ _ _ (by omega)]
theorem remM_28 (M : Nat → Nat → Int32) {n : Nat} (hn : n ≤ 20) : remM M n 0 28 = zI ((if n = 20 then 20 else n + 1 : Nat) : Int) := by
  unfold remM
  by_cases e : n = 20
  · rw [if_pos e, if_pos e, qG, if_pos ⟨rfl, rfl⟩]
    rfl
  · rw [if_neg e, if_neg e, qG, if_pos ⟨rfl, rfl⟩]
/-- the place where it lies -/
theorem remM_new (M : Nat → Nat → Int32) {n i : Nat} (hn : n ≤ 20) (hi : i < 79) : remM M n 14 (79 * (if n = 20 then 19 else n) + i) = M 13 i := by
  unfold remM
  by_cases e : n = 20
  · rw [if_pos e, if_pos e, qG, if_neg (by omega), cpM_at, if_pos (by omega), qG, if_neg (by omega), cpM_ne _ _ _ _ _ _ (by omega)]
    rw [show 0 + (79 * 19 + i - 79 * 19) = i by omega]
  · rw [if_neg e, if_neg e, qG, if_neg (by omega), cpM_at, if_pos (by omega)]
    rw [show 0 + (79 * n + i - 79 * n) = i by omega]
theorem remM_old (M : Nat → Nat → Int32) {n k i : Nat} (hn : n ≤ 20) (hi : i < 79) (hk : k < if n = 20 then 19 else n) : remM M n 14 (79 * k + i) = M 14 (79 * (if n = 20 then k + 1 else k) + i) := by
  unfold remM
  by_cases e : n = 20
  · rw [if_pos e] at hk
    rw [if_pos e, if_pos e, qG, if_neg (by omega), cpM_at, if_neg (by omega), qG, if_neg (by omega), cpM_at, if_pos (by omega)]
    rw [show 79 + (79 * k + i - 0) = 79 * (k + 1) + i by omega]
  · rw [if_neg e] at hk
    rw [if_neg e, if_neg e, qG, if_neg (by omega), cpM_at, if_neg (by omega)]
theorem remM_img (M : Nat → Nat → Int32) {n i : Nat} (hn : n ≤ 20) (hi : i < 79) : remM M n 14 (79 * 20 + i) = M 14 (79 * 20 + i) := by
  unfold remM
  by_cases e : n = 20
  · rw [if_pos e, qG, if_neg (by omega), cpM_at, if_neg (by omega), qG, if_neg (by omega), cpM_at, if_neg (by omega)]
  · rw [if_neg e, qG, if_neg (by omega), cpM_at, if_neg (by omega)]
theorem push_rem {V : sV} {n : Nat} {I : Nat → Nat → Int32} {J : Nat → Nat → Int64} {w : Nat → Nat} {M : Nat → Nat → Int32} (h : RelV V n I J w M) : ∃ I' J' w' M' n', P_X0_push I J w 2 = some (I', J', w') ∧ P_X7_remembers M = some M' ∧ RelV V n' I' J' w' M' ∧ I' 33 = I 33 ∧ (∀ t, 12 ≤ t → t ≤ 34 → I' t = I t) ∧ M' 13 = M 13 ∧ M' 15 = M 15 := by
  obtain ⟨hS, hM, hT, hP, ⟨hn, hI, h28, hH⟩, hK, hW, hN⟩ := h
  have hM' : MX (remM M n) V := by
    unfold MX at *
    rw [remM_ne M n (t := 2) (by omega) (by omega), remM_ne M n (t := 5) (by omega) (by omega), remM_ne M n (t := 7) (by omega) (by omega), remM_ne M n (t := 8) (by omega) (by omega), remM_ne M n (t := 11) (by omega) (by omega), remM_ne M n (t := 13) (by omega) (by omega), remM_0 M n (j := 30) (by omega), remM_0 M n (j := 31) (by omega), remM_0 M n (j := 32) (by omega), remM_0 M n (j := 33) (by omega)]
    exact hM
  have hT' : TM (remM M n) V := by
    unfold TM at *
    rw [remM_ne M n (t := 2) (by omega) (by omega), remM_ne M n (t := 8) (by omega) (by omega), remM_ne M n (t := 13) (by omega) (by omega)]
    exact hT
  -- the class's side
  have hX : ∃ I' J' w' n', n' = (if n = 20 then 20 else n + 1) ∧ P_X0_push I J w 2 = some (I', J', w') ∧ WW w' ∧ (∀ t, t ≤ 34 ∨ 117 ≤ t → I' t = I t ∧ J' t = J t) ∧ I' 35 1 = zI ((n' : Nat) : Int) ∧ IX I' J' (w' (if n = 20 then 19 else n)) (imV V) ∧ (∀ k m, k < (if n = 20 then 19 else n) → IX I J (w (if n = 20 then k + 1 else k)) m → IX I' J' (w' k) m) := by
    unfold P_X0_push
    by_cases e : n = 20
    · subst e
      rw [hI]
      simp (disch := omega) only [zI_add, zI_sub, zI_mul, zI_neg, zL, zI_le, zI_lt, zI_eq, zI_cl, zA0, zI_if, Int.toNat_natCast, zT_add, zT_mul, Int.reduceToNat, Nat.add_zero, Nat.zero_add, Int.add_zero, Int.zero_add, zc_a, zc_l, Option.bind_some, qc_let, qc_in, qc_bo, iteT, iteF, and_self, if_true, if_false, qG]
      rw [x_drop hW]
      simp only [Option.bind_some]
      have hS2 : SX (qc_u2 I 35 1 (zI 19)) J 2 V := SX_e (fun t _ _ => by unfold qc_u2 qc_u; rw [if_neg (by omega)]) rfl hS
      obtain ⟨I', J', e1, e2, e3, e4, e5⟩ := x_push13 (n := 19) (by omega) (show qc_u2 I 35 1 (zI 19) 35 1 = _ by rw [qG, if_pos ⟨rfl, rfl⟩]; rfl) (WW_N hW) hS2
      refine ⟨I', J', wN w, 20, rfl, e1, WW_N hW, ?_, e3, e4, ?_⟩
      · intro t ht
        have e7 := e2 t ht
        unfold qc_u2 qc_u at e7
        rw [if_neg (by omega)] at e7
        exact e7
      · intro k m hk hm
        refine e5 k m (by omega) (by omega) ?_
        have : wN w k = w (k + 1) := by unfold wN; rw [if_pos hk]
        rw [this]
        have hq := hW.2.1 (k + 1) (by omega)
        obtain ⟨m1, m2, m3, m4⟩ := hm
        refine ⟨?_, ?_, ?_, m4⟩
        · intro u hu
          rw [qG, if_neg (by omega)]
          exact m1 u hu
        · intro u hu
          rw [qG, if_neg (by omega)]
          exact m2 u hu
        · intro u hu
          rw [qG, if_neg (by omega)]
          exact m3 u hu
    · rw [hI]
      simp (disch := omega) only [zI_add, zI_sub, zI_mul, zI_neg, zL, zI_le, zI_lt, zI_eq, zI_cl, zA0, zI_if, Int.toNat_natCast, zT_add, zT_mul, Int.reduceToNat, Nat.add_zero, Nat.zero_add, Int.add_zero, Int.zero_add, zc_a, zc_l, Option.bind_some, qc_let, qc_in, qc_bo, iteT, iteF, and_self, if_true, if_false, qG]
      obtain ⟨I', J', e1, e2, e3, e4, e5⟩ := x_push13 (n := n) (by omega) hI hW hS
      refine ⟨I', J', w, n + 1, rfl, e1, hW, ?_, e3, ?_, ?_⟩
      · exact e2
      · exact e4
      · intro k m hk hm
        exact e5 k m (by omega) (by omega) hm
  obtain ⟨I', J', w', n', hn', e1, e2, e3, e4, e5, e6⟩ := hX
  refine ⟨I', J', w', remM M n, n', e1, m_remembers hn h28, ⟨SX_e (fun t _ _ => (e3 t (by omega)).1) (e3 2 (by omega)).2 hS, hM', hT', ?_, ?_, ?_, e2, ?_⟩, (e3 33 (by omega)).1, fun t _ _ => (e3 t (by omega)).1, remM_ne M n (by omega) (by omega), remM_ne M n (by omega) (by omega)⟩
  · unfold TP at *
    rw [(e3 0 (by omega)).1, (e3 1 (by omega)).1, remM_ne M n (t := 1) (by omega) (by omega), remM_0 M n (j := 2) (by omega), remM_0 M n (j := 23) (by omega), remM_0 M n (j := 24) (by omega)]
    exact hP
  · refine ⟨by rw [hn']; split <;> omega, e4, by rw [remM_28 M hn, hn'], ?_⟩
    intro k hk
    by_cases ek : k = if n = 20 then 19 else n
    · refine ⟨imV V, by rw [ek]; exact e5, ?_, ?_⟩
      · obtain ⟨hus, hbd, hgd, hsp, hod, hst, hlo, hhi, hch, hpw, hsl, hls, hlk, hsh, h6, hl1⟩ := hM
        refine ⟨?_, ?_, ?_, ?_⟩
        · intro u hu
          rw [ek, remM_new M hn (by omega)]
          exact hch u hu
        · intro u hu
          rw [ek, remM_new M hn (by omega)]
          exact hpw u hu
        · intro u hu
          rw [ek, remM_new M hn (by omega)]
          exact hsl u hu
        · intro c h1 h2
          rw [ek, remM_new M hn (by omega)]
          by_cases hc : c ≤ (v_bd V).val
          · exact hsh c h1 hc
          · rw [hT.2.2.2.2.2.2.2.1 c (by omega) h2]
            show zI 0 = bI (v_sh V c)
            rw [hT.2.2.2.2.2.2.2.2 c (by omega) (by omega)]
            rfl
      · exact hT.2.2.2.2.2.2.2.2
    · have hk2 : k < if n = 20 then 19 else n := by
        split at hn' <;> split <;> split at ek <;> omega
      obtain ⟨m, m1, m2, m3⟩ := hH (if n = 20 then k + 1 else k) (by split at hk2 <;> split <;> omega)
      refine ⟨m, e6 k m hk2 m1, ?_, m3⟩
      obtain ⟨a1, a2, a3, a4⟩ := m2
      have h6 : (v_us V).val ≤ 6 := hM.2.2.2.2.2.2.2.2.2.2.2.2.2.2.1
      refine ⟨?_, ?_, ?_, ?_⟩
      · intro u hu
        rw [remM_old M hn (by omega) hk2]
        exact a1 u hu
      · intro u hu
        rw [remM_old M hn (by omega) hk2]
        exact a2 u hu
      · intro u hu
        rw [remM_old M hn (by omega) hk2]
        exact a3 u hu
      · intro c h1 h2
        rw [remM_old M hn (by omega) hk2]
        exact a4 c h1 h2
  · obtain ⟨b, b1, b2, b3⟩ := hK
    refine ⟨b, by rw [(e3 0 (by omega)).1]; exact b1, by rw [remM_0 M n (by omega)]; exact b2, ?_⟩
    intro hb
    obtain ⟨m, ⟨m1, m2, m3, m4⟩, ⟨a1, a2, a3, a4⟩, m5⟩ := b3 hb
    have h6 : (v_us V).val ≤ 6 := hM.2.2.2.2.2.2.2.2.2.2.2.2.2.2.1
    refine ⟨m, ⟨?_, ?_, ?_, ?_⟩, ⟨?_, ?_, ?_, ?_⟩, m5⟩
    · rw [(e3 _ (by omega)).1]; exact m1
    · rw [(e3 _ (by omega)).1]; exact m2
    · rw [(e3 _ (by omega)).1]; exact m3
    · rw [(e3 _ (by omega)).2]; exact m4
    · intro u hu
      rw [remM_img M hn (by omega)]
      exact a1 u hu
    · intro u hu
      rw [remM_img M hn (by omega)]
      exact a2 u hu
    · intro u hu
      rw [remM_img M hn (by omega)]
      exact a3 u hu
    · intro c h1 h2
      rw [remM_img M hn (by omega)]
      exact a4 c h1 h2
  · unfold NM at *
    rw [(e3 2 (by omega)).1, (e3 5 (by omega)).1, (e3 14 (by omega)).1, remM_ne M n (t := 2) (by omega) (by omega), remM_ne M n (t := 4) (by omega) (by omega)]
    exact hN
