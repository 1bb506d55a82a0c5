/-! A LINE, and all of them -/
theorem wc_b : ∀ w : Fin 11, 0 < wc w.val ∧ wc w.val < 1073741824 := by decide +kernel
theorem x_dflt {v : Nat} {I : Nat → Nat → Int32} {J : Nat → Nat → Int64} (hv : v < 1073741824) (h : ∀ w, w < 11 → v ≠ wc w) (e : (if I 121 4 = zI 1 then some (I 121 6) else some (zI 0)) = some (zI (v : Nat))) : P_X3_readLine I J = (P_X3_fail I (zI 1)).bind fun q39 => some (q39, J) := by
  have h0 : v ≠ 68620288 := h 0 (by omega)
  have h1 : v ≠ 256952448 := h 1 (by omega)
  have h2 : v ≠ 654347424 := h 2 (by omega)
  have h3 : v ≠ 522327635 := h 3 (by omega)
  have h4 : v ≠ 419023872 := h 4 (by omega)
  have h5 : v ≠ 724748288 := h 5 (by omega)
  have h6 : v ≠ 211555456 := h 6 (by omega)
  have h7 : v ≠ 80186720 := h 7 (by omega)
  have h8 : v ≠ 412560384 := h 8 (by omega)
  have h9 : v ≠ 650629728 := h 9 (by omega)
  have h10 : v ≠ 642945024 := h 10 (by omega)
  unfold P_X3_readLine
  simp only [zL]
  rw [e, Option.bind_some, if_neg (by rw [zI_eq] <;> omega), if_neg (by rw [zI_eq] <;> omega), if_neg (by rw [zI_eq] <;> omega), if_neg (by rw [zI_eq] <;> omega), if_neg (by rw [zI_eq] <;> omega), if_neg (by rw [zI_eq] <;> omega), if_neg (by rw [zI_eq] <;> omega), if_neg (by rw [zI_eq] <;> omega), if_neg (by rw [zI_eq] <;> omega), if_neg (by rw [zI_eq] <;> omega), if_neg (by rw [zI_eq] <;> omega)]
theorem both_line {T : Nat → Int32} {B : Nat → Nat} {n A us bd bl : Nat} {I : Nat → Nat → Int32} {J : Nat → Nat → Int64} {M : Nat → Nat → Int32} (hT : TX T B n) (c : CX T n I M) (h : LSt B n A I M) (hS : SR us bd bl I J M) : ∃ I' J' M', P_X3_readLine I J = some (I', J') ∧ P_X7_readLine M = P_X7_readLine_193 M' ∧ (∀ t, t ≠ 122 → J' t = J t) ∧ LN B n (tE B n A) I I' J' M M' := by
  have kind : ∀ x y : Nat, tK B n A = x → tS B n A = y → I 121 4 = zI (x : Nat) ∧ M 0 19 = zI (y : Nat) := by
    intro x y e1 e2
    exact ⟨by rw [h.2.2.2.1.2.2.1, e1], by rw [h.2.2.2.2.2.2.1, e2]⟩
  have dflt : ∀ v : Nat, v < 1073741824 → (∀ w, w < 11 → v ≠ wc w) → (if I 121 4 = zI 1 then some (I 121 6) else some (zI 0)) = some (zI (v : Nat)) → M 0 19 ≠ zI 0 → ∃ I' J' M', P_X3_readLine I J = some (I', J') ∧ P_X7_readLine M = P_X7_readLine_193 M' ∧ (∀ t, t ≠ 122 → J' t = J t) ∧ LN B n (tE B n A) I I' J' M M' := by
    intro v hv hw e hm
    obtain ⟨I1, M1, e1, e2, e3, e4, e5⟩ := both_fail h (k := zI 1) (by decide)
    refine ⟨I1, J, M1, ?_, ?_, fun _ _ => rfl, FI_f e4, FM_g e5, us, bd, bl, Or.inl e3⟩
    · rw [x_dflt hv hw e, e1]
      rfl
    · unfold P_X7_readLine
      simp only [zL]
      rw [if_neg hm, e2, Option.bind_some]
  have w0 : ∀ w, w < 11 → (0 : Nat) ≠ wc w := fun w hw => by
    have := (wc_b ⟨w, hw⟩).1
    dsimp only at this
    omega
  rcases tok_k B h.1 with ⟨k1, k2⟩ | ⟨k1, k2⟩ | ⟨k1, k2⟩ | ⟨k1, k2, _⟩ | ⟨k1, k2, w, w1, w2, w3⟩ | ⟨k1, k2, k3, k4, k5⟩
  · obtain ⟨z1, z2⟩ := kind _ _ k1 k2
    exact dflt 0 (by omega) w0 (by rw [z1, if_neg (by decide)]; rfl) (by rw [z2]; decide)
  · obtain ⟨z1, z2⟩ := kind _ _ k1 k2
    exact dflt 0 (by omega) w0 (by rw [z1, if_neg (by decide)]; rfl) (by rw [z2]; decide)
  · obtain ⟨z1, z2⟩ := kind _ _ k1 k2
    exact dflt 0 (by omega) w0 (by rw [z1, if_neg (by decide)]; rfl) (by rw [z2]; decide)
  · obtain ⟨z1, z2⟩ := kind _ _ k1 k2
    exact dflt 0 (by omega) w0 (by rw [z1, if_neg (by decide)]; rfl) (by rw [z2]; decide)
  · obtain ⟨z1, z2⟩ := kind _ _ k1 k2
    have i6 : I 121 6 = zI (wc w : Nat) := by rw [h.2.2.2.1.2.2.2.1 k1, w3]
    have m20 : M 0 20 = zI (w : Nat) := by rw [h.2.2.2.2.2.2.2.1 k2, w2]
    have e0 : (if I 121 4 = zI 1 then some (I 121 6) else some (zI 0)) = some (zI (wc w : Nat)) := by rw [z1, if_pos (by decide), i6]
    have m19 : M 0 19 = zI 0 := z2
    have hw : w = 0 ∨ w = 1 ∨ w = 2 ∨ w = 3 ∨ w = 4 ∨ w = 5 ∨ w = 6 ∨ w = 7 ∨ w = 8 ∨ w = 9 ∨ w = 10 := by omega
    have xl := P_X3_readLine.eq_1 I J
    rcases hw with rfl | rfl | rfl | rfl | rfl | rfl | rfl | rfl | rfl | rfl | rfl
    · obtain ⟨I', M', e1, e2, e3⟩ := ln_band hT c h hS
      refine ⟨I', J, M', ?_, ?_, fun _ _ => rfl, e3⟩
      · unfold P_X3_readLine
        simp only [zL]
        rw [e0, Option.bind_some, if_pos (by decide)]
        rw [e1]
        rfl
      · have e2' : P_X7_readBand M = some M' := e2
        unfold P_X7_readLine
        simp only [zL]
        rw [if_pos m19, m20, if_pos (by decide), e2', Option.bind_some]
    · obtain ⟨I', M', e1, e2, e3⟩ := ln_num (k := 1) (i := 0) (a := 0) (b := 5) hT c (by omega) (by omega) (by omega) (by decide) (by omega) h hS
      refine ⟨I', J, M', ?_, ?_, fun _ _ => rfl, e3⟩
      · unfold P_X3_readLine
        simp only [zL]
        rw [e0, Option.bind_some, if_neg (by decide), if_neg (by decide), if_neg (by decide), if_pos (by decide)]
        exact e1
      · have e2' : P_X7_readOnce M (zI 1) (zI 1) (zI 0) (zI 5) = some M' := e2
        unfold P_X7_readLine
        simp only [zL]
        rw [if_pos m19, m20, if_neg (by decide), if_pos (by decide), e2', Option.bind_some]
    · obtain ⟨I', M', e1, e2, e3⟩ := ln_num (k := 2) (i := 1) (a := 1) (b := 20) hT c (by omega) (by omega) (by omega) (by decide) (by omega) h hS
      refine ⟨I', J, M', ?_, ?_, fun _ _ => rfl, e3⟩
      · unfold P_X3_readLine
        simp only [zL]
        rw [e0, Option.bind_some, if_neg (by decide), if_neg (by decide), if_neg (by decide), if_neg (by decide), if_neg (by decide), if_neg (by decide), if_neg (by decide), if_neg (by decide), if_neg (by decide), if_pos (by decide)]
        exact e1
      · have e2' : P_X7_readOnce M (zI 2) (zI 2) (zI 1) (zI 20) = some M' := e2
        unfold P_X7_readLine
        simp only [zL]
        rw [if_pos m19, m20, if_neg (by decide), if_neg (by decide), if_pos (by decide), e2', Option.bind_some]
    · obtain ⟨I', M', e1, e2, e3⟩ := ln_num (k := 3) (i := 2) (a := 0) (b := 7) hT c (by omega) (by omega) (by omega) (by decide) (by omega) h hS
      refine ⟨I', J, M', ?_, ?_, fun _ _ => rfl, e3⟩
      · unfold P_X3_readLine
        simp only [zL]
        rw [e0, Option.bind_some, if_neg (by decide), if_neg (by decide), if_neg (by decide), if_neg (by decide), if_neg (by decide), if_neg (by decide), if_pos (by decide)]
        exact e1
      · have e2' : P_X7_readOnce M (zI 3) (zI 3) (zI 0) (zI 7) = some M' := e2
        unfold P_X7_readLine
        simp only [zL]
        rw [if_pos m19, m20, if_neg (by decide), if_neg (by decide), if_neg (by decide), if_pos (by decide), e2', Option.bind_some]
    · obtain ⟨I', M', e1, e2, e3⟩ := ln_loss hT c h hS
      refine ⟨I', J, M', ?_, ?_, fun _ _ => rfl, e3⟩
      · unfold P_X3_readLine
        simp only [zL]
        rw [e0, Option.bind_some, if_neg (by decide), if_neg (by decide), if_neg (by decide), if_neg (by decide), if_neg (by decide), if_pos (by decide)]
        exact e1
      · have e2' : P_X7_readLoss M = some M' := e2
        unfold P_X7_readLine
        simp only [zL]
        rw [if_pos m19, m20, if_neg (by decide), if_neg (by decide), if_neg (by decide), if_neg (by decide), if_pos (by decide), e2', Option.bind_some]
    · obtain ⟨I', M', e1, e2, e3⟩ := ln_user hT c h hS
      refine ⟨I', J, M', ?_, ?_, fun _ _ => rfl, e3⟩
      · unfold P_X3_readLine
        simp only [zL]
        rw [e0, Option.bind_some, if_neg (by decide), if_neg (by decide), if_neg (by decide), if_neg (by decide), if_neg (by decide), if_neg (by decide), if_neg (by decide), if_neg (by decide), if_neg (by decide), if_neg (by decide), if_pos (by decide)]
        rw [e1]
        rfl
      · have e2' : P_X7_readUser M = some M' := e2
        unfold P_X7_readLine
        simp only [zL]
        rw [if_pos m19, m20, if_neg (by decide), if_neg (by decide), if_neg (by decide), if_neg (by decide), if_neg (by decide), if_pos (by decide), e2', Option.bind_some]
    · obtain ⟨I', M', e1, e2, e3⟩ := ln_fixed hT c h hS
      refine ⟨I', J, M', ?_, ?_, fun _ _ => rfl, e3⟩
      · unfold P_X3_readLine
        simp only [zL]
        rw [e0, Option.bind_some, if_neg (by decide), if_neg (by decide), if_pos (by decide)]
        rw [e1]
        rfl
      · have e2' : P_X7_readFixed M = some M' := e2
        unfold P_X7_readLine
        simp only [zL]
        rw [if_pos m19, m20, if_neg (by decide), if_neg (by decide), if_neg (by decide), if_neg (by decide), if_neg (by decide), if_neg (by decide), if_pos (by decide), e2', Option.bind_some]
    · obtain ⟨I', J', M', e1, e2, e3, e4⟩ := ln_block hT c h hS
      refine ⟨I', J', M', ?_, ?_, e3, e4⟩
      · unfold P_X3_readLine
        simp only [zL]
        rw [e0, Option.bind_some, if_neg (by decide), if_pos (by decide)]
        rw [e1]
        rfl
      · have e2' : P_X7_readBlock M = some M' := e2
        unfold P_X7_readLine
        simp only [zL]
        rw [if_pos m19, m20, if_neg (by decide), if_neg (by decide), if_neg (by decide), if_neg (by decide), if_neg (by decide), if_neg (by decide), if_neg (by decide), if_pos (by decide), e2', Option.bind_some]
    · obtain ⟨I', M', e1, e2, e3⟩ := ln_link hT c h hS
      refine ⟨I', J, M', ?_, ?_, fun _ _ => rfl, e3⟩
      · unfold P_X3_readLine
        simp only [zL]
        rw [e0, Option.bind_some, if_neg (by decide), if_neg (by decide), if_neg (by decide), if_neg (by decide), if_pos (by decide)]
        rw [e1]
        rfl
      · have e2' : P_X7_readLink M = some M' := e2
        unfold P_X7_readLine
        simp only [zL]
        rw [if_pos m19, m20, if_neg (by decide), if_neg (by decide), if_neg (by decide), if_neg (by decide), if_neg (by decide), if_neg (by decide), if_neg (by decide), if_neg (by decide), if_pos (by decide), e2', Option.bind_some]
    · obtain ⟨I', M', e1, e2, e3⟩ := ln_slots hT c h hS
      refine ⟨I', J, M', ?_, ?_, fun _ _ => rfl, e3⟩
      · unfold P_X3_readLine
        simp only [zL]
        rw [e0, Option.bind_some, if_neg (by decide), if_neg (by decide), if_neg (by decide), if_neg (by decide), if_neg (by decide), if_neg (by decide), if_neg (by decide), if_neg (by decide), if_pos (by decide)]
        rw [e1]
        rfl
      · have e2' : P_X7_readSlots M = some M' := e2
        unfold P_X7_readLine
        simp only [zL]
        rw [if_pos m19, m20, if_neg (by decide), if_neg (by decide), if_neg (by decide), if_neg (by decide), if_neg (by decide), if_neg (by decide), if_neg (by decide), if_neg (by decide), if_neg (by decide), if_pos (by decide), e2', Option.bind_some]
    · obtain ⟨I', M', e1, e2, e3⟩ := ln_num (k := 5) (i := 3) (a := 0) (b := 99999) hT c (by omega) (by omega) (by omega) (by decide) (by omega) h hS
      refine ⟨I', J, M', ?_, ?_, fun _ _ => rfl, e3⟩
      · unfold P_X3_readLine
        simp only [zL]
        rw [e0, Option.bind_some, if_neg (by decide), if_neg (by decide), if_neg (by decide), if_neg (by decide), if_neg (by decide), if_neg (by decide), if_neg (by decide), if_pos (by decide)]
        exact e1
      · have e2' : P_X7_readOnce M (zI 10) (zI 9) (zI 0) (zI 99999) = some M' := e2
        unfold P_X7_readLine
        simp only [zL]
        rw [if_pos m19, m20, if_neg (by decide), if_neg (by decide), if_neg (by decide), if_neg (by decide), if_neg (by decide), if_neg (by decide), if_neg (by decide), if_neg (by decide), if_neg (by decide), if_neg (by decide), e2', Option.bind_some]
  · obtain ⟨z1, z2⟩ := kind _ _ k1 k2
    exact dflt _ k4 k5 (by rw [z1, if_pos (by decide), h.2.2.2.1.2.2.2.1 k1]) (by rw [z2]; decide)
def FIl (I I' : Nat → Nat → Int32) : Prop := ∀ t j, ¬ (t = 121 ∧ j ≠ 1 ∨ 121 < t) → I' t j = I t j
def FMl (M M' : Nat → Nat → Int32) : Prop := ∀ t j, ¬ (t = 2 ∧ 10 ≤ j ∨ t = 3 ∨ 4 ≤ t ∧ t ≤ 10 ∧ 6 ≤ j ∨ t = 11 ∧ 9 ≤ j ∨ t = 12 ∧ 61 ≤ j ∨ t = 0 ∧ (j = 14 ∨ j = 15 ∨ 17 ≤ j ∧ j ≤ 22)) → M' t j = M t j
theorem FIl_t {I I' I'' : Nat → Nat → Int32} (h : FIl I I') (h' : FIl I' I'') : FIl I I'' := fun t j c => (h' t j c).trans (h t j c)
theorem FMl_t {M M' M'' : Nat → Nat → Int32} (h : FMl M M') (h' : FMl M' M'') : FMl M M'' := fun t j c => (h' t j c).trans (h t j c)
theorem FIl_i {I I' : Nat → Nat → Int32} (h : FI I I') : FIl I I' := fun t j c => h t j (by omega)
theorem FMl_m {M M' : Nat → Nat → Int32} (h : FM M M') : FMl M M' := fun t j c => h t j (by omega)
theorem CX_l {T : Nat → Int32} {n : Nat} {I I' M M' : Nat → Nat → Int32} (h : CX T n I M) (hI : FIl I I') (hM : FMl M M') : CX T n I' M' := CX_e h (funext fun j => hI 1 j (by omega)) (hI 121 1 (by omega)) (funext fun j => hM 1 j (by omega)) (hM 0 16 (by omega))
/-- lines are no part of what has been read -/
theorem SR_ln {us bd bl : Nat} {I : Nat → Nat → Int32} {J : Nat → Nat → Int64} {M : Nat → Nat → Int32} (x y : Int32) (h : SR us bd bl I J M) : SR us bd bl (qc_u2 I 121 9 x) J (qc_u2 M 0 15 y) := by
  obtain ⟨h1, h2, h3, h4, h5, h6, h7⟩ := h
  have nI : ∀ t j, (t ≠ 121 ∨ j ≠ 9) → qc_u2 I 121 9 x t j = I t j := fun t j a => by rw [qG, if_neg (by omega)]
  have nM : ∀ t j, (t ≠ 0 ∨ j ≠ 15) → qc_u2 M 0 15 y t j = M t j := fun t j a => by rw [qG, if_neg (by omega)]
  exact ⟨S1_c (fun j _ _ => nI 122 j (by omega)) (fun j => nI 123 j (by omega)) (fun j _ _ _ => nM 2 j (by omega)) h1, T1_c (nI 121 11 (by omega)) (fun j => nM 3 j (by omega)) h2, S2_c (nI 122 1 (by omega)) (nM 2 10 (by omega)) h3, S3_c (fun t j _ _ => nI t j (by omega)) (nI 122 0 (by omega)) (nI 121 12 (by omega)) (nI 121 13 (by omega)) (fun t j _ _ => nM t j (by omega)) (nM 2 17 (by omega)) h4, S4_c (nI 121 10 (by omega)) (nM 2 18 (by omega)) rfl (fun j => nM 12 j (by omega)) h5, S5_c (fun j => nI 124 j (by omega)) (fun j => nM 11 j (by omega)) h6, (nM 0 14 (by omega)).trans h7⟩
theorem both_end {T : Nat → Int32} {B : Nat → Nat} {n p us bd bl ln : Nat} {I : Nat → Nat → Int32} {J : Nat → Nat → Int64} {M : Nat → Nat → Int32} (hT : TX T B n) (c : CX T n I M) (hi9 : I 121 9 = zI (ln : Nat)) (hm15 : M 0 15 = zI (ln : Nat)) (h : GS B n p us bd bl I J M) : ∃ I' M', P_X3_endLine I = some I' ∧ P_X7_readLine_193 M = some M' ∧ FIl I I' ∧ FMl M M' ∧ (FLt I' M' ∨ (∃ A, p ≤ A ∧ LSt B n A I' M' ∧ SR us bd bl I' J M' ∧ I' 121 9 = zI ((ln + 1 : Nat) : Int) ∧ M' 0 15 = zI ((ln + 1 : Nat) : Int))) := by
  have e213 : ∀ M1 M2 : Nat → Nat → Int32, P_X7_goOn M1 = some M2 → P_X7_readLine_213 M1 = some (qc_u2 M2 0 15 (M2 0 15 + zI 1)) := by
    intro M1 M2 e
    unfold P_X7_readLine_213
    simp only [zL, qc_lE]
    rw [e]
    rfl
  have one : zI (ln : Int) + zI 1 = zI ((ln + 1 : Nat) : Int) := by rw [zI_add]; rfl
  rcases h with h | ⟨A, hA, hL, hS⟩
  · refine ⟨I, qc_u2 M 0 15 (M 0 15 + zI 1), ?_, ?_, fun _ _ _ => rfl, ?_, Or.inl (FLt_c (fun _ _ _ => rfl) ?_ h)⟩
    · unfold P_X3_endLine
      simp only [zL]
      rw [if_neg (fl_x h)]
    · unfold P_X7_readLine_193
      simp only [zL]
      rw [if_neg (fl_m h)]
      exact e213 M M (fl_goOn h)
    · intro t j cc
      rw [qG, if_neg (by omega)]
    · intro j _ _
      rw [qG, if_neg (by omega)]
  · obtain ⟨q, q1, q2, q3⟩ := b_next hT c hL
    have hx : P_X3_endLine I = if q 121 4 = zI 3 then (P_X3_next (qc_u2 q 121 9 (q 121 9 + zI 1))).bind fun q6 => some q6 else (P_X3_fail q (zI 1)).bind fun q4 => some q4 := by
      unfold P_X3_endLine
      simp only [zL, qc_lE]
      rw [if_pos hL.2.1.1, q1, Option.bind_some]
    have hm : P_X7_readLine_193 M = if M 0 19 = zI 3 then P_X7_readLine_213 M else (P_X7_wrong M (zI 1)).bind fun q5 => P_X7_readLine_213 q5 := by
      unfold P_X7_readLine_193
      simp only [zL]
      rw [if_pos hL.2.2.1]
    have kind : ∀ x y : Nat, tK B n A = x → tS B n A = y → q 121 4 = zI (x : Nat) ∧ M 0 19 = zI (y : Nat) := by
      intro x y e1 e2
      exact ⟨by rw [q3.2.2.2.1.2.2.1, e1], by rw [q3.2.2.2.2.2.2.1, e2]⟩
    have other : q 121 4 ≠ zI 3 → M 0 19 ≠ zI 3 → ∃ I' M', P_X3_endLine I = some I' ∧ P_X7_readLine_193 M = some M' ∧ FIl I I' ∧ FMl M M' ∧ (FLt I' M' ∨ (∃ A, p ≤ A ∧ LSt B n A I' M' ∧ SR us bd bl I' J M' ∧ I' 121 9 = zI ((ln + 1 : Nat) : Int) ∧ M' 0 15 = zI ((ln + 1 : Nat) : Int))) := by
      intro n1 n2
      obtain ⟨I1, M1, e1, e2, e3, e4, e5⟩ := both_fail q3 (k := zI 1) (by decide)
      refine ⟨I1, qc_u2 M1 0 15 (M1 0 15 + zI 1), by rw [hx, if_neg n1, e1]; rfl, by rw [hm, if_neg n2, e2, Option.bind_some]; exact e213 M1 M1 (fl_goOn e3), FIl_i (FI_t (FI_f (fX_N q2)) (FI_f e4)), ?_, Or.inl (FLt_c (fun _ _ _ => rfl) (fun j _ _ => by rw [qG, if_neg (by omega)]) e3)⟩
      intro t j cc
      rw [qG, if_neg (by omega)]
      exact FM_g e5 t j (by omega)
    rcases tok_k B hL.1 with ⟨k1, k2⟩ | ⟨k1, k2⟩ | ⟨k1, k2⟩ | ⟨k1, k2, _⟩ | ⟨k1, k2, _⟩ | ⟨k1, k2, _⟩
    · obtain ⟨z1, z2⟩ := kind _ _ k1 k2
      exact other (by rw [z1]; decide) (by rw [z2]; decide)
    · obtain ⟨z1, z2⟩ := kind _ _ k1 k2
      have z1' : q 121 4 = zI 3 := z1
      have z2' : M 0 19 = zI 3 := z2
      have htb := tok_b B hL.1
      obtain ⟨M1, m1, m2, m3⟩ := b_goOn hT (CX_f c (fX_N q2) (gX_r M)) q3
      have f1 : FIl I (qc_u2 q 121 9 (zI ((ln + 1 : Nat) : Int))) := fun t j cc => by rw [qG, if_neg (by omega)]; exact q2 t j (by omega)
      have f2 : FMl M (qc_u2 M1 0 15 (zI ((ln + 1 : Nat) : Int))) := fun t j cc => by rw [qG, if_neg (by omega)]; exact m2 t j (by omega)
      have h15 : M1 0 15 = zI (ln : Nat) := by rw [m2 0 15 (by omega)]; exact hm15
      have h9 : q 121 9 = zI (ln : Nat) := by rw [q2 121 9 (by omega)]; exact hi9
      have hA1 : ALt B n (tE B n A) (qc_u2 q 121 9 (zI ((ln + 1 : Nat) : Int))) (qc_u2 M1 0 15 (zI ((ln + 1 : Nat) : Int))) := ALt_e (fun j _ _ => by rw [qG, if_neg (by omega)]) (fun j _ _ => by rw [qG, if_neg (by omega)]) m3
      obtain ⟨r, r1, r2, r3⟩ := b_next hT (CX_l c f1 f2) hA1
      refine ⟨r, qc_u2 M1 0 15 (zI ((ln + 1 : Nat) : Int)), ?_, ?_, FIl_t f1 (FIl_i (FI_f (fX_N r2))), f2, Or.inr ⟨tE B n A, by omega, r3, SR_f (fX_N r2) (gX_r _) (SR_ln _ _ (SR_f (fX_N q2) (gX_N m2) hS)), ?_, ?_⟩⟩
      · rw [hx, if_pos z1', h9, one, r1]
        rfl
      · rw [hm, if_pos z2', e213 M M1 m1, h15, one]
      · rw [r2 121 9 (by omega), qG, if_pos ⟨rfl, rfl⟩]
      · rw [qG, if_pos ⟨rfl, rfl⟩]
    · obtain ⟨z1, z2⟩ := kind _ _ k1 k2
      exact other (by rw [z1]; decide) (by rw [z2]; decide)
    · obtain ⟨z1, z2⟩ := kind _ _ k1 k2
      exact other (by rw [z1]; decide) (by rw [z2]; decide)
    · obtain ⟨z1, z2⟩ := kind _ _ k1 k2
      exact other (by rw [z1]; decide) (by rw [z2]; decide)
    · obtain ⟨z1, z2⟩ := kind _ _ k1 k2
      exact other (by rw [z1]; decide) (by rw [z2]; decide)
/-- all lines -/
theorem both_all {T : Nat → Int32} {B : Nat → Nat} {n : Nat} (hT : TX T B n) : ∀ (d A f F us bd bl ln : Nat) (I : Nat → Nat → Int32) (J : Nat → Nat → Int64) (M : Nat → Nat → Int32), n - A ≤ d → d + 1 < f → d + 1 < F → CX T n I M → LSt B n A I M → SR us bd bl I J M → I 121 9 = zI (ln : Nat) → M 0 15 = zI (ln : Nat) → ln ≤ A → ∃ I' J' M', P_X3_readAll_4 f I J = some (I', J') ∧ P_X7_readText_28 F M = some M' ∧ (∀ t, t ≠ 122 → J' t = J t) ∧ FIl I I' ∧ FMl M M' ∧ (FLt I' M' ∨ (PF I' ∧ M' 0 21 = zI 0 ∧ I' 121 9 = M' 0 15 ∧ ∃ us bd bl, SR us bd bl I' J' M')) := by
  intro d
  induction d with
  | zero =>
    intro A f F us bd bl ln I J M hd hf hF c h hS hi9 hm15 hln
    obtain ⟨g, rfl⟩ : ∃ g, f = g + 1 := ⟨f - 1, by omega⟩
    obtain ⟨G, rfl⟩ : ∃ G, F = G + 1 := ⟨F - 1, by omega⟩
    have htb := tok_b B h.1
    have k0 : tK B n A = 0 := by
      by_cases z : tK B n A = 0
      · exact z
      · have := htb.2.2.2 z
        have := h.1
        omega
    have k4 : tS B n A = 4 := by
      rcases tok_k B h.1 with ⟨_, k2⟩ | ⟨k1, _⟩ | ⟨k1, _⟩ | ⟨k1, _⟩ | ⟨k1, _⟩ | ⟨k1, _⟩
      · exact k2
      · omega
      · omega
      · omega
      · omega
      · omega
    have z1 : I 121 4 = zI 0 := by rw [h.2.2.2.1.2.2.1, k0]; rfl
    have z2 : M 0 19 = zI 4 := by rw [h.2.2.2.2.2.2.1, k4]; rfl
    refine ⟨I, J, M, ?_, ?_, fun _ _ => rfl, fun _ _ _ => rfl, fun _ _ _ => rfl, Or.inr ⟨h.2.1, h.2.2.1, by rw [hi9, hm15], us, bd, bl, hS⟩⟩
    · rw [P_X3_readAll_4]
      simp only [zL]
      rw [if_pos z1]
    · rw [P_X7_readText_28]
      simp only [zL]
      rw [if_pos h.2.2.1, if_pos z2]
  | succ d ih =>
    intro A f F us bd bl ln I J M hd hf hF c h hS hi9 hm15 hln
    obtain ⟨g, rfl⟩ : ∃ g, f = g + 1 := ⟨f - 1, by omega⟩
    obtain ⟨G, rfl⟩ : ∃ G, F = G + 1 := ⟨F - 1, by omega⟩
    have htb := tok_b B h.1
    have hA := h.1
    have h700 := hT.1
    by_cases k0 : tK B n A = 0
    · have k4 : tS B n A = 4 := by
        rcases tok_k B h.1 with ⟨_, k2⟩ | ⟨k1, _⟩ | ⟨k1, _⟩ | ⟨k1, _⟩ | ⟨k1, _⟩ | ⟨k1, _⟩
        · exact k2
        · omega
        · omega
        · omega
        · omega
        · omega
      have z1 : I 121 4 = zI 0 := by rw [h.2.2.2.1.2.2.1, k0]; rfl
      have z2 : M 0 19 = zI 4 := by rw [h.2.2.2.2.2.2.1, k4]; rfl
      refine ⟨I, J, M, ?_, ?_, fun _ _ => rfl, fun _ _ _ => rfl, fun _ _ _ => rfl, Or.inr ⟨h.2.1, h.2.2.1, by rw [hi9, hm15], us, bd, bl, hS⟩⟩
      · rw [P_X3_readAll_4]
        simp only [zL]
        rw [if_pos z1]
      · rw [P_X7_readText_28]
        simp only [zL]
        rw [if_pos h.2.2.1, if_pos z2]
    · have hlt := htb.2.2.2 k0
      have k4 : tK B n A < 5 ∧ tS B n A < 6 ∧ tS B n A ≠ 4 := by
        rcases tok_k B h.1 with ⟨k1, k2⟩ | ⟨k1, k2⟩ | ⟨k1, k2⟩ | ⟨k1, k2, _⟩ | ⟨k1, k2, _⟩ | ⟨k1, k2, _⟩ <;> omega
      have z1 : I 121 4 ≠ zI 0 := by rw [h.2.2.2.1.2.2.1, Ne, zI_eq] <;> omega
      have z2 : M 0 19 ≠ zI 4 := by rw [h.2.2.2.2.2.2.1, Ne, zI_eq] <;> omega
      obtain ⟨I1, J1, M1, l1, l2, l3, l4, l5, us1, bd1, bl1, l6⟩ := both_line hT c h hS
      have c1 := CX_F c l4 l5
      obtain ⟨I2, M2, e1, e2, e3, e4, e5⟩ := both_end hT c1 ((l4 121 9 (by omega)).trans hi9) ((l5 0 15 (by omega)).trans hm15) l6
      have sx : P_X3_readAll_4 (g + 1) I J = P_X3_readAll_4 g I2 J1 := by
        rw [P_X3_readAll_4]
        simp only [zL]
        rw [if_neg z1, if_pos h.2.1.1, hi9, if_neg (by rw [zI_lt] <;> omega), l1, Option.bind_some]
        dsimp only
        rw [e1, Option.bind_some]
      have sm' : P_X7_readText_28 (G + 1) M = P_X7_readText_28 G M2 := by
        rw [P_X7_readText_28]
        simp only [zL]
        rw [if_pos h.2.2.1, if_neg z2, l2, e2, Option.bind_some]
      have F1 : FIl I I2 := FIl_t (FIl_i l4) e3
      have F2 : FMl M M2 := FMl_t (FMl_m l5) e4
      rcases e5 with e5 | ⟨A', a1, a2, a3, a4, a5⟩
      · obtain ⟨g', rfl⟩ : ∃ g', g = g' + 1 := ⟨g - 1, by omega⟩
        obtain ⟨G', rfl⟩ : ∃ G', G = G' + 1 := ⟨G - 1, by omega⟩
        refine ⟨I2, J1, M2, ?_, ?_, l3, F1, F2, Or.inl e5⟩
        · rw [sx, P_X3_readAll_4]
          simp only [zL]
          by_cases z : I2 121 4 = zI 0
          · rw [if_pos z]
          · rw [if_neg z, if_neg (fl_x e5)]
        · rw [sm', P_X7_readText_28]
          simp only [zL]
          rw [if_neg (fl_m e5)]
      · obtain ⟨I3, J3, M3, r1, r2, r3, r4, r5, r6⟩ := ih A' g G us1 bd1 bl1 (ln + 1) I2 J1 M2 (by omega) (by omega) (by omega) (CX_l c F1 F2) a2 a3 a4 a5 (by omega)
        refine ⟨I3, J3, M3, by rw [sx]; exact r1, by rw [sm']; exact r2, fun t ht => (r3 t ht).trans (l3 t ht), FIl_t F1 r4, FMl_t F2 r5, r6⟩

