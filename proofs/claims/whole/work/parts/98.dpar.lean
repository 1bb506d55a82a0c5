/-! BOTH READERS, step by step -/
def fX (I I' : Nat → Nat → Int32) : Prop := ∀ t j, (t ≠ 121 ∨ j < 3 ∨ 8 < j) → I' t j = I t j
def gX (M M' : Nat → Nat → Int32) : Prop := ∀ t j, (t ≠ 0 ∨ j < 17 ∨ 22 < j) → M' t j = M t j
theorem fX_r (I : Nat → Nat → Int32) : fX I I := fun _ _ _ => rfl
theorem fX_t {I I' I'' : Nat → Nat → Int32} (h : fX I I') (h' : fX I' I'') : fX I I'' := fun t j c => (h' t j c).trans (h t j c)
theorem fX_N {I I' : Nat → Nat → Int32} (h : fN I I') : fX I I' := fun t j c => h t j (by omega)
theorem gX_r (M : Nat → Nat → Int32) : gX M M := fun _ _ _ => rfl
theorem gX_t {M M' M'' : Nat → Nat → Int32} (h : gX M M') (h' : gX M' M'') : gX M M'' := fun t j c => (h' t j c).trans (h t j c)
theorem gX_N {M M' : Nat → Nat → Int32} (h : gN M M') : gX M M' := fun t j c => h t j (by omega)
/-- the text, in both -/
def CX (T : Nat → Int32) (n : Nat) (I M : Nat → Nat → Int32) : Prop := I 1 = T ∧ I 121 1 = zI (n : Nat) ∧ M 1 = T ∧ M 0 16 = zI (n : Nat)
theorem CX_e {T : Nat → Int32} {n : Nat} {I I' M M' : Nat → Nat → Int32} (h : CX T n I M) (h1 : I' 1 = I 1) (h2 : I' 121 1 = I 121 1) (h3 : M' 1 = M 1) (h4 : M' 0 16 = M 0 16) : CX T n I' M' := ⟨h1.trans h.1, h2.trans h.2.1, h3.trans h.2.2.1, h4.trans h.2.2.2⟩
theorem CX_f {T : Nat → Int32} {n : Nat} {I I' M M' : Nat → Nat → Int32} (h : CX T n I M) (hI : fX I I') (hM : gX M M') : CX T n I' M' := CX_e h (funext fun j => hI 1 j (by omega)) (hI 121 1 (by omega)) (funext fun j => hM 1 j (by omega)) (hM 0 16 (by omega))
/-- no fault yet in the class -/
def PF (I : Nat → Nat → Int32) : Prop := I 121 7 = zI 0 ∧ I 121 8 = zI (-1)
/-- the class has read the token at A, the reference stands at it -/
def LSt (B : Nat → Nat) (n A : Nat) (I M : Nat → Nat → Int32) : Prop := A ≤ n ∧ PF I ∧ M 0 21 = zI 0 ∧ XT B n A I ∧ MT B n A M
/-- the class is about to read it -/
def ALt (B : Nat → Nat) (n A : Nat) (I M : Nat → Nat → Int32) : Prop := A ≤ n ∧ PF I ∧ M 0 21 = zI 0 ∧ I 121 3 = zI (A : Nat) ∧ MT B n A M
/-- the same fault in both -/
def FLt (I M : Nat → Nat → Int32) : Prop := ∃ k : Int32, k ≠ zI 0 ∧ I 121 7 = k ∧ M 0 21 = k ∧ I 121 8 = M 0 22
def ST (B : Nat → Nat) (n p : Nat) (I M : Nat → Nat → Int32) : Prop := (∃ A, p ≤ A ∧ ALt B n A I M) ∨ FLt I M
theorem x_fail0 {I : Nat → Nat → Int32} (h : I 121 7 = zI 0) (k : Int32) : P_X3_fail I k = some (qc_u2 (qc_u2 I 121 7 k) 121 8 (I 121 5)) := by
  unfold P_X3_fail
  simp only [zL, qc_lE]
  rw [if_pos h, qG, if_neg (by omega)]
theorem x_fail1 {I : Nat → Nat → Int32} (h : I 121 7 ≠ zI 0) (k : Int32) : P_X3_fail I k = some I := by
  unfold P_X3_fail
  simp only [zL, qc_lE]
  rw [if_neg h]
theorem m_wrong0 {M : Nat → Nat → Int32} (h : M 0 21 = zI 0) (k : Int32) : P_X7_wrong M k = some (qc_u2 (qc_u2 M 0 21 k) 0 22 (M 0 18)) := by
  unfold P_X7_wrong
  simp only [zL, qc_lE]
  rw [if_pos h, qG, if_neg (by omega)]
theorem m_wrong1 {M : Nat → Nat → Int32} (h : M 0 21 ≠ zI 0) (k : Int32) : P_X7_wrong M k = some M := by
  unfold P_X7_wrong
  simp only [zL, qc_lE]
  rw [if_neg h]
theorem fl_x {I M : Nat → Nat → Int32} (h : FLt I M) : I 121 7 ≠ zI 0 := by
  obtain ⟨k, h1, h2, _, _⟩ := h
  rw [h2]; exact h1
theorem fl_m {I M : Nat → Nat → Int32} (h : FLt I M) : M 0 21 ≠ zI 0 := by
  obtain ⟨k, h1, _, h2, _⟩ := h
  rw [h2]; exact h1
theorem FLt_e {I I' M M' : Nat → Nat → Int32} (h : FLt I M) (h1 : I' 121 7 = I 121 7) (h2 : I' 121 8 = I 121 8) (h3 : M' 0 21 = M 0 21) (h4 : M' 0 22 = M 0 22) : FLt I' M' := by
  obtain ⟨k, k1, k2, k3, k4⟩ := h
  exact ⟨k, k1, h1.trans k2, h3.trans k3, by rw [h2, h4, k4]⟩
theorem both_fail {B : Nat → Nat} {n A : Nat} {I M : Nat → Nat → Int32} (h : LSt B n A I M) {k : Int32} (hk : k ≠ zI 0) : ∃ I' M', P_X3_fail I k = some I' ∧ P_X7_wrong M k = some M' ∧ FLt I' M' ∧ fX I I' ∧ gX M M' := by
  obtain ⟨_, h7, h21, hX, hM⟩ := h
  refine ⟨_, _, x_fail0 h7.1 k, m_wrong0 h21 k, ⟨k, hk, ?_, ?_, ?_⟩, ?_, ?_⟩
  · rw [qG, if_neg (by omega), qG, if_pos ⟨rfl, rfl⟩]
  · rw [qG, if_neg (by omega), qG, if_pos ⟨rfl, rfl⟩]
  · rw [qG, if_pos ⟨rfl, rfl⟩, qG, if_pos ⟨rfl, rfl⟩, hX.2.1, hM.2.1]
  · intro t j c
    rw [qG, if_neg (by omega), qG, if_neg (by omega)]
  · intro t j c
    rw [qG, if_neg (by omega), qG, if_neg (by omega)]
theorem b_next {T : Nat → Int32} {B : Nat → Nat} {n A : Nat} {I M : Nat → Nat → Int32} (hT : TX T B n) (c : CX T n I M) (h : ALt B n A I M) : wp (P_X3_next I) (fun I' => fN I I' ∧ LSt B n A I' M) := by
  obtain ⟨hA, h7, h21, h3, hM⟩ := h
  refine wp_mono (x_next hT hA c.1 c.2.1 h3) ?_
  intro r ⟨r1, r2⟩
  exact ⟨r1, hA, ⟨(r1 121 7 (by omega)).trans h7.1, (r1 121 8 (by omega)).trans h7.2⟩, h21, r2, hM⟩
theorem b_goOn {T : Nat → Int32} {B : Nat → Nat} {n A : Nat} {I M : Nat → Nat → Int32} (hT : TX T B n) (c : CX T n I M) (h : LSt B n A I M) : wp (P_X7_goOn M) (fun M' => gN M M' ∧ ALt B n (tE B n A) I M') := by
  obtain ⟨hA, h7, h21, hX, hM⟩ := h
  have hb := tok_b B hA
  have h700 := hT.1
  unfold P_X7_goOn
  simp only [zL]
  rw [if_pos h21]
  refine wp_bind (m_token hT (A := tE B n A) hb.2.2.1 (n - tE B n A) (tE B n A) qc_fu M (by omega) (by unfold qc_fu; omega) c.2.2.1 c.2.2.2 hM.1 rfl) ?_
  intro r ⟨r1, r2⟩
  exact wp_some ⟨r1, hb.2.2.1, h7, (r1 0 21 (by omega)).trans h21, hX.1, r2⟩
theorem fl_goOn {I M : Nat → Nat → Int32} (h : FLt I M) : P_X7_goOn M = some M := by
  unfold P_X7_goOn
  simp only [zL]
  rw [if_neg (fl_m h)]
theorem n46_1 {M : Nat → Nat → Int32} (h : M 0 21 ≠ zI 0) (a : Int32) : P_X7_numeral_46 M a = some (a, M) := by
  unfold P_X7_numeral_46 P_X7_goOn
  simp only [zL]
  rw [if_neg h, if_neg h]
  rfl
theorem num_AL {T : Nat → Int32} {B : Nat → Nat} {n A a b : Nat} {I M : Nat → Nat → Int32} (hT : TX T B n) (c : CX T n I M) (h : ALt B n A I M) (hab : a ≤ b) (hb : b ≤ 99999) : ∃ (v : Nat) (I' M' : Nat → Nat → Int32), P_X3_takeNumber I (zI (a : Nat)) (zI (b : Nat)) = some (zI (v : Nat), I') ∧ P_X7_numeral M (zI (a : Nat)) (zI (b : Nat)) = some (zI (v : Nat), M') ∧ a ≤ v ∧ v ≤ b ∧ fX I I' ∧ gX M M' ∧ ((A < tE B n A ∧ ALt B n (tE B n A) I' M') ∨ FLt I' M') := by
  obtain ⟨q, q1, q2, q3⟩ := b_next hT c h
  have c' : CX T n q M := CX_f c (fX_N q2) (gX_r M)
  have htb := tok_b B h.1
  have hx : P_X3_takeNumber I (zI (a : Nat)) (zI (b : Nat)) = if q 121 4 = zI 2 then (if q 121 6 < zI (a : Nat) then (P_X3_fail q (zI 2)).bind fun q5 => some (zI (a : Nat), q5) else if q 121 6 ≤ zI (b : Nat) then some (q 121 6, q) else (P_X3_fail q (zI 2)).bind fun q7 => some (zI (a : Nat), q7)) else (P_X3_fail q (zI 1)).bind fun q8 => some (zI (a : Nat), q8) := by
    unfold P_X3_takeNumber
    simp only [zL]
    rw [if_pos h.2.1.1, q1, Option.bind_some]
  have hm : P_X7_numeral M (zI (a : Nat)) (zI (b : Nat)) = if M 0 19 = zI 2 then (if M 0 20 < zI (a : Nat) then P_X7_numeral_41 M (zI (a : Nat)) else if M 0 20 ≤ zI (b : Nat) then P_X7_numeral_46 M (zI (a : Nat)) else P_X7_numeral_41 M (zI (a : Nat))) else (P_X7_wrong M (zI 1)).bind fun q9 => P_X7_numeral_46 q9 (zI (a : Nat)) := by
    unfold P_X7_numeral
    simp only [zL]
    rw [if_pos h.2.2.1]
  have bad : ∀ k : Int32, k ≠ zI 0 → ∃ I' M', ((P_X3_fail q k).bind fun q5 => some (zI (a : Nat), q5)) = some (zI (a : Nat), I') ∧ ((P_X7_wrong M k).bind fun q9 => P_X7_numeral_46 q9 (zI (a : Nat))) = some (zI (a : Nat), M') ∧ fX I I' ∧ gX M M' ∧ FLt I' M' := by
    intro k hk
    obtain ⟨I', M', e1, e2, e3, e4, e5⟩ := both_fail q3 hk
    refine ⟨I', M', by rw [e1]; rfl, ?_, fX_t (fX_N q2) e4, e5, e3⟩
    rw [e2, Option.bind_some, n46_1 (fl_m e3)]
  have h41 : P_X7_numeral_41 M (zI (a : Nat)) = (P_X7_wrong M (zI 2)).bind fun q9 => P_X7_numeral_46 q9 (zI (a : Nat)) := by
    unfold P_X7_numeral_41
    simp only [zL]
  have kind : ∀ x y : Nat, tK B n A = x → tS B n A = y → q 121 4 = zI (x : Nat) ∧ M 0 19 = zI (y : Nat) := by
    intro x y e1 e2
    exact ⟨by rw [q3.2.2.2.1.2.2.1, e1], by rw [q3.2.2.2.2.2.2.1, e2]⟩
  have other : q 121 4 ≠ zI 2 → M 0 19 ≠ zI 2 → ∃ (v : Nat) (I' M' : Nat → Nat → Int32), P_X3_takeNumber I (zI (a : Nat)) (zI (b : Nat)) = some (zI (v : Nat), I') ∧ P_X7_numeral M (zI (a : Nat)) (zI (b : Nat)) = some (zI (v : Nat), M') ∧ a ≤ v ∧ v ≤ b ∧ fX I I' ∧ gX M M' ∧ ((A < tE B n A ∧ ALt B n (tE B n A) I' M') ∨ FLt I' M') := by
    intro n1 n2
    obtain ⟨I', M', e1, e2, e3, e4, e5⟩ := bad (zI 1) (by decide)
    exact ⟨a, I', M', by rw [hx, if_neg n1]; exact e1, by rw [hm, if_neg n2]; exact e2, by omega, hab, e3, e4, Or.inr e5⟩
  rcases tok_k B h.1 with ⟨k1, k2⟩ | ⟨k1, k2⟩ | ⟨k1, k2⟩ | ⟨k1, k2, k3, k4, k5⟩ | ⟨k1, k2, _⟩ | ⟨k1, k2, _⟩
  · obtain ⟨z1, z2⟩ := kind _ _ k1 k2
    exact other (by rw [z1]; decide) (by rw [z2]; decide)
  · obtain ⟨z1, z2⟩ := kind _ _ k1 k2
    exact other (by rw [z1]; decide) (by rw [z2]; decide)
  · obtain ⟨z1, z2⟩ := kind _ _ k1 k2
    exact other (by rw [z1]; decide) (by rw [z2]; decide)
  · obtain ⟨z1, z2⟩ := kind _ _ k1 k2
    have z1' : q 121 4 = zI 2 := z1
    have z2' : M 0 19 = zI 2 := z2
    have v1 := q3.2.2.2.1.2.2.2.2 k1
    have v2 := q3.2.2.2.2.2.2.2.2.2 k2
    generalize dg B 1000000 (tL B n A) (tP B n A) 0 = x at k3 k5 v1
    generalize dg B 100000 (tL B n A) (tP B n A) 0 = m at k4 k5 v2
    rw [hx, hm, if_pos z1', if_pos z2', v1, v2]
    by_cases c1 : x < a
    · obtain ⟨I', M', e1, e2, e3, e4, e5⟩ := bad (zI 2) (by decide)
      rw [if_pos (show zI (x : Nat) < zI (a : Nat) by rw [zI_lt] <;> omega), if_pos (show zI (m : Nat) < zI (a : Nat) by rw [zI_lt] <;> omega), h41]
      exact ⟨a, I', M', e1, e2, by omega, hab, e3, e4, Or.inr e5⟩
    · rw [if_neg (show ¬ zI (x : Nat) < zI (a : Nat) by rw [zI_lt] <;> omega), if_neg (show ¬ zI (m : Nat) < zI (a : Nat) by rw [zI_lt] <;> omega)]
      by_cases c2 : x ≤ b
      · rw [if_pos (show zI (x : Nat) ≤ zI (b : Nat) by rw [zI_le] <;> omega), if_pos (show zI (m : Nat) ≤ zI (b : Nat) by rw [zI_le] <;> omega)]
        obtain ⟨M', e1, e2, e3⟩ := b_goOn hT c' q3
        refine ⟨x, q, M', rfl, ?_, by omega, c2, fX_N q2, gX_N e2, Or.inl ⟨htb.2.2.2 (by omega), e3⟩⟩
        unfold P_X7_numeral_46
        simp only [zL]
        rw [if_pos h.2.2.1, Option.bind_some, e1, Option.bind_some, v2, show m = x by omega]
      · obtain ⟨I', M', e1, e2, e3, e4, e5⟩ := bad (zI 2) (by decide)
        rw [if_neg (show ¬ zI (x : Nat) ≤ zI (b : Nat) by rw [zI_le] <;> omega), if_neg (show ¬ zI (m : Nat) ≤ zI (b : Nat) by rw [zI_le] <;> omega), h41]
        exact ⟨a, I', M', e1, e2, by omega, hab, e3, e4, Or.inr e5⟩
  · obtain ⟨z1, z2⟩ := kind _ _ k1 k2
    exact other (by rw [z1]; decide) (by rw [z2]; decide)
  · obtain ⟨z1, z2⟩ := kind _ _ k1 k2
    exact other (by rw [z1]; decide) (by rw [z2]; decide)
theorem num_ST {T : Nat → Int32} {B : Nat → Nat} {n p a b : Nat} {I M : Nat → Nat → Int32} (hT : TX T B n) (c : CX T n I M) (h : ST B n p I M) (hab : a ≤ b) (hb : b ≤ 99999) : ∃ (v : Nat) (I' M' : Nat → Nat → Int32), P_X3_takeNumber I (zI (a : Nat)) (zI (b : Nat)) = some (zI (v : Nat), I') ∧ P_X7_numeral M (zI (a : Nat)) (zI (b : Nat)) = some (zI (v : Nat), M') ∧ a ≤ v ∧ v ≤ b ∧ fX I I' ∧ gX M M' ∧ ST B n p I' M' ∧ CX T n I' M' ∧ (FLt I M → FLt I' M') := by
  rcases h with ⟨A, hA, h⟩ | h
  · obtain ⟨v, I', M', e1, e2, e3, e4, e5, e6, e7⟩ := num_AL hT c h hab hb
    refine ⟨v, I', M', e1, e2, e3, e4, e5, e6, ?_, CX_f c e5 e6, fun z => absurd h.2.1.1 (fl_x z)⟩
    rcases e7 with ⟨x1, x2⟩ | e7
    · exact Or.inl ⟨_, by omega, x2⟩
    · exact Or.inr e7
  · refine ⟨a, I, M, ?_, ?_, by omega, hab, fX_r I, gX_r M, Or.inr h, c, fun z => z⟩
    · unfold P_X3_takeNumber
      simp only [zL]
      rw [if_neg (fl_x h)]
    · unfold P_X7_numeral
      simp only [zL]
      rw [if_neg (fl_m h)]
/-! names -/
theorem lang0 {v : Nat} (hv : v < 1073741824) (h : ∀ w, w < 11 → v ≠ wc w) : P_X3_isOfLanguage (zI (v : Nat)) = some (zI 0) := by
  have h0 : v ≠ 68620288 := h 0 (by omega)
  have h1 : v ≠ 256952448 := h 1 (by omega)
  have h2 : v ≠ 654347424 := h 2 (by omega)
  have h3 : v ≠ 522327635 := h 3 (by omega)
  have h4 : v ≠ 419023872 := h 4 (by omega)
  have h5 : v ≠ 724748288 := h 5 (by omega)
  have h6 : v ≠ 211555456 := h 6 (by omega)
  have h7 : v ≠ 80186720 := h 7 (by omega)
  have h8 : v ≠ 412560384 := h 8 (by omega)
  have h9 : v ≠ 650629728 := h 9 (by omega)
  have h10 : v ≠ 642945024 := h 10 (by omega)
  unfold P_X3_isOfLanguage
  simp only [zL]
  rw [if_neg (by rw [zI_eq] <;> omega), if_neg (by rw [zI_eq] <;> omega), if_neg (by rw [zI_eq] <;> omega), if_neg (by rw [zI_eq] <;> omega), if_neg (by rw [zI_eq] <;> omega), if_neg (by rw [zI_eq] <;> omega), if_neg (by rw [zI_eq] <;> omega), if_neg (by rw [zI_eq] <;> omega), if_neg (by rw [zI_eq] <;> omega), if_neg (by rw [zI_eq] <;> omega), if_neg (by rw [zI_eq] <;> omega)]
theorem lang1 : ∀ w : Fin 11, P_X3_isOfLanguage (zI (wc w.val : Nat)) = some (zI 1) := by decide +kernel
theorem fnd_nm (r : Nat → Int32) (a : Int32) : ∀ (d k : Nat), (fnd (fun k => if r k = a then some (zI k) else none) (zI (-1)) d k = zI (-1) ∧ ∀ j, k ≤ j → j < k + d → r j ≠ a) ∨ ∃ j, k ≤ j ∧ j < k + d ∧ r j = a ∧ fnd (fun k => if r k = a then some (zI k) else none) (zI (-1)) d k = zI (j : Nat) := by
  intro d
  induction d with
  | zero => intro k; exact Or.inl ⟨rfl, fun j h1 h2 => by omega⟩
  | succ d ih =>
    intro k
    have e0 : fnd (fun k => if r k = a then some (zI k) else none) (zI (-1)) (d + 1) k = (if r k = a then some (zI (k : Nat)) else none).getD (fnd (fun k => if r k = a then some (zI k) else none) (zI (-1)) d (k + 1)) := rfl
    rw [e0]
    by_cases c : r k = a
    · rw [if_pos c]
      exact Or.inr ⟨k, by omega, by omega, c, rfl⟩
    · rw [if_neg c]
      rcases ih (k + 1) with ⟨h1, h2⟩ | ⟨j, j1, j2, j3, j4⟩
      · refine Or.inl ⟨h1, ?_⟩
        intro j a1 a2
        by_cases e : j = k
        · rw [e]; exact c
        · exact h2 j (by omega) (by omega)
      · exact Or.inr ⟨j, by omega, by omega, j3, j4⟩
/-- a name is looked for in both -/
theorem both_named {I M : Nat → Nat → Int32} {us : Nat} (h6 : us ≤ 6) (h0 : I 122 0 = zI (us : Nat)) (hn : ∀ u, u < us → I 125 u = M 4 (6 + u)) (a : Int32) : (P_X4_userOfName I 122 a = some (zI (-1)) ∧ P_X7_namedAt M (zI 6) (zI (us : Nat)) a = some (zI (-1)) ∧ ∀ u, u < us → I 125 u ≠ a) ∨ ∃ u, u < us ∧ I 125 u = a ∧ P_X4_userOfName I 122 a = some (zI (u : Nat)) ∧ P_X7_namedAt M (zI 6) (zI (us : Nat)) a = some (zI (u : Nat)) := by
  have e1 := x_named (p := 122) h0 (by omega) a
  have e2 := m_named (M := M) (b := 6) (us := us) (by omega) a
  have e2' : P_X7_namedAt M (zI 6) (zI (us : Nat)) a = _ := e2
  have e3 : fnd (fun k => if M 4 (6 + k) = a then some (zI k) else none) (zI (-1)) us 0 = fnd (fun k => if I (122 + 1 + 2) k = a then some (zI k) else none) (zI (-1)) us 0 := by
    have key : ∀ d k, k + d ≤ us → fnd (fun k => if M 4 (6 + k) = a then some (zI k) else none) (zI (-1)) d k = fnd (fun k => if I (122 + 1 + 2) k = a then some (zI k) else none) (zI (-1)) d k := by
      intro d
      induction d with
      | zero => intro k _; rfl
      | succ d ih =>
        intro k hk
        show (if M 4 (6 + k) = a then some (zI (k : Nat)) else none).getD (fnd (fun k => if M 4 (6 + k) = a then some (zI k) else none) (zI (-1)) d (k + 1)) = (if I 125 k = a then some (zI (k : Nat)) else none).getD (fnd (fun k => if I (122 + 1 + 2) k = a then some (zI k) else none) (zI (-1)) d (k + 1))
        rw [ih (k + 1) (by omega), hn k (by omega)]
    exact key us 0 (by omega)
  rw [e3] at e2'
  rcases fnd_nm (I 125) a us 0 with ⟨h1, h2⟩ | ⟨j, j1, j2, j3, j4⟩
  · have h1' : fnd (fun k => if I (122 + 1 + 2) k = a then some (zI k) else none) (zI (-1)) us 0 = zI (-1) := h1
    rw [h1'] at e1 e2'
    exact Or.inl ⟨e1, e2', fun u hu => h2 u (by omega) (by omega)⟩
  · have j4' : fnd (fun k => if I (122 + 1 + 2) k = a then some (zI k) else none) (zI (-1)) us 0 = zI (j : Nat) := j4
    rw [j4'] at e1 e2'
    exact Or.inr ⟨j, by omega, j3, e1, e2'⟩
/-- the class takes a name -/
theorem x_name {T : Nat → Int32} {B : Nat → Nat} {n A : Nat} {I M : Nat → Nat → Int32} (hT : TX T B n) (c : CX T n I M) (h : ALt B n A I M) : ∃ q, fN I q ∧ LSt B n A q M ∧ ((M 0 19 = zI 1 ∧ ∃ v : Nat, 1 ≤ v ∧ v < 1073741824 ∧ M 0 20 = zI (v : Nat) ∧ P_X3_takeName I = some (zI (v : Nat), q)) ∨ (M 0 19 ≠ zI 1 ∧ P_X3_takeName I = (P_X3_fail q (zI 1)).bind fun q4 => some (zI 0, q4))) := by
  obtain ⟨q, q1, q2, q3⟩ := b_next hT c h
  refine ⟨q, q2, q3, ?_⟩
  have hx : P_X3_takeName I = if q 121 4 = zI 1 then (P_X3_isOfLanguage (q 121 6)).bind fun q5 => if q5 = zI 0 then some (q 121 6, q) else (P_X3_fail q (zI 1)).bind fun q7 => some (zI 0, q7) else (P_X3_fail q (zI 1)).bind fun q4 => some (zI 0, q4) := by
    unfold P_X3_takeName
    simp only [zL]
    rw [if_pos h.2.1.1, q1, Option.bind_some]
  have kind : ∀ x y : Nat, tK B n A = x → tS B n A = y → q 121 4 = zI (x : Nat) ∧ M 0 19 = zI (y : Nat) := by
    intro x y e1 e2
    exact ⟨by rw [q3.2.2.2.1.2.2.1, e1], by rw [q3.2.2.2.2.2.2.1, e2]⟩
  rcases tok_k B h.1 with ⟨k1, k2⟩ | ⟨k1, k2⟩ | ⟨k1, k2⟩ | ⟨k1, k2, _⟩ | ⟨k1, k2, w, w1, w2, w3⟩ | ⟨k1, k2, k3, k4, k5⟩
  · obtain ⟨z1, z2⟩ := kind _ _ k1 k2
    exact Or.inr ⟨by rw [z2]; decide, by rw [hx, if_neg (by rw [z1]; decide)]⟩
  · obtain ⟨z1, z2⟩ := kind _ _ k1 k2
    exact Or.inr ⟨by rw [z2]; decide, by rw [hx, if_neg (by rw [z1]; decide)]⟩
  · obtain ⟨z1, z2⟩ := kind _ _ k1 k2
    exact Or.inr ⟨by rw [z2]; decide, by rw [hx, if_neg (by rw [z1]; decide)]⟩
  · obtain ⟨z1, z2⟩ := kind _ _ k1 k2
    exact Or.inr ⟨by rw [z2]; decide, by rw [hx, if_neg (by rw [z1]; decide)]⟩
  · obtain ⟨z1, z2⟩ := kind _ _ k1 k2
    refine Or.inr ⟨by rw [z2]; decide, ?_⟩
    have l1 := lang1 ⟨w, w1⟩
    dsimp only at l1
    rw [hx, if_pos (show q 121 4 = zI 1 from z1), q3.2.2.2.1.2.2.2.1 k1, w3, l1, Option.bind_some, if_neg (by decide)]
  · obtain ⟨z1, z2⟩ := kind _ _ k1 k2
    refine Or.inl ⟨z2, _, k3, k4, q3.2.2.2.2.2.2.2.2.1 k2, ?_⟩
    rw [hx, if_pos (show q 121 4 = zI 1 from z1), q3.2.2.2.1.2.2.2.1 k1, lang0 k4 k5, Option.bind_some, if_pos (show zI 0 = zI 0 from rfl)]
