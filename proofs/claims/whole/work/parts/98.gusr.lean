/-! LINES: a user -/
def SRn (us bd bl : Nat) (I : Nat → Nat → Int32) (J : Nat → Nat → Int64) (M : Nat → Nat → Int32) : Prop := S1 I M ∧ T1 I M ∧ S2 bd I M ∧ S3 us bd I M ∧ S4 bl bd I J M ∧ S5 I M
theorem SR_n {us bd bl : Nat} {I : Nat → Nat → Int32} {J : Nat → Nat → Int64} {M : Nat → Nat → Int32} (h : SR us bd bl I J M) : SRn us bd bl I J M := ⟨h.1, h.2.1, h.2.2.1, h.2.2.2.1, h.2.2.2.2.1, h.2.2.2.2.2.1⟩
theorem SR_y {us bd bl : Nat} {I : Nat → Nat → Int32} {J : Nat → Nat → Int64} {M : Nat → Nat → Int32} (h : SRn us bd bl I J M) (hf : M 0 14 = bI (decide (0 < us ∨ 0 < bl))) : SR us bd bl I J M := ⟨h.1, h.2.1, h.2.2.1, h.2.2.2.1, h.2.2.2.2.1, h.2.2.2.2.2, hf⟩
theorem SRn_f {us bd bl : Nat} {I I' : Nat → Nat → Int32} {J : Nat → Nat → Int64} {M M' : Nat → Nat → Int32} (hI : fX I I') (hM : gX M M') (h : SRn us bd bl I J M) : SRn us bd bl I' J M' := by
  obtain ⟨h1, h2, h3, h4, h5, h6⟩ := h
  exact ⟨S1_c (fun j _ _ => hI 122 j (by omega)) (fun j => hI 123 j (by omega)) (fun j _ _ _ => hM 2 j (by omega)) h1, T1_c (hI 121 11 (by omega)) (fun j => hM 3 j (by omega)) h2, S2_c (hI 122 1 (by omega)) (hM 2 10 (by omega)) h3, S3_c (fun t j _ _ => hI t j (by omega)) (hI 122 0 (by omega)) (hI 121 12 (by omega)) (hI 121 13 (by omega)) (fun t j _ _ => hM t j (by omega)) (hM 2 17 (by omega)) h4, S4_c (hI 121 10 (by omega)) (hM 2 18 (by omega)) rfl (fun j => hM 12 j (by omega)) h5, S5_c (fun j => hI 124 j (by omega)) (fun j => hM 11 j (by omega)) h6⟩
/-- both go on and something is so, or both have the same fault -/
def GQ (B : Nat → Nat) (n p : Nat) (P : (Nat → Nat → Int32) → (Nat → Nat → Int32) → Prop) (I M : Nat → Nat → Int32) : Prop := FLt I M ∨ ∃ A, p ≤ A ∧ ALt B n A I M ∧ P I M
theorem num_Q {T : Nat → Int32} {B : Nat → Nat} {n p a b : Nat} {P : (Nat → Nat → Int32) → (Nat → Nat → Int32) → Prop} {I M : Nat → Nat → Int32} (hP : ∀ I I' M M', fX I I' → gX M M' → P I M → P I' M') (hT : TX T B n) (c : CX T n I M) (h : GQ B n p P I M) (hab : a ≤ b) (hb : b ≤ 99999) : ∃ (v : Nat) (I' M' : Nat → Nat → Int32), P_X3_takeNumber I (zI (a : Nat)) (zI (b : Nat)) = some (zI (v : Nat), I') ∧ P_X7_numeral M (zI (a : Nat)) (zI (b : Nat)) = some (zI (v : Nat), M') ∧ a ≤ v ∧ v ≤ b ∧ fX I I' ∧ gX M M' ∧ CX T n I' M' ∧ GQ B n p P I' M' := by
  rcases h with h | ⟨A, hA, h, hS⟩
  · obtain ⟨v, I', M', e1, e2, e3, e4, e5, e6, _, e8, e9⟩ := num_ST (p := 0) hT c (Or.inr h) hab hb
    exact ⟨v, I', M', e1, e2, e3, e4, e5, e6, e8, Or.inl (e9 h)⟩
  · obtain ⟨v, I', M', e1, e2, e3, e4, e5, e6, e7⟩ := num_AL hT c h hab hb
    refine ⟨v, I', M', e1, e2, e3, e4, e5, e6, CX_f c e5 e6, ?_⟩
    rcases e7 with ⟨x1, x2⟩ | e7
    · exact Or.inr ⟨_, by omega, x2, hP _ _ _ _ e5 e6 hS⟩
    · exact Or.inl e7
theorem ALt_e {B : Nat → Nat} {n A : Nat} {I I' M M' : Nat → Nat → Int32} (hI : ∀ j, 3 ≤ j → j ≤ 8 → I' 121 j = I 121 j) (hM : ∀ j, 17 ≤ j → j ≤ 22 → M' 0 j = M 0 j) (h : ALt B n A I M) : ALt B n A I' M' := by
  obtain ⟨a1, a2, a3, a4, a5⟩ := h
  refine ⟨a1, ⟨(hI 7 (by omega) (by omega)).trans a2.1, (hI 8 (by omega) (by omega)).trans a2.2⟩, (hM 21 (by omega) (by omega)).trans a3, (hI 3 (by omega) (by omega)).trans a4, ?_⟩
  unfold MT at *
  rw [hM 17 (by omega) (by omega), hM 18 (by omega) (by omega), hM 19 (by omega) (by omega), hM 20 (by omega) (by omega)]
  exact a5
theorem LSt_e {B : Nat → Nat} {n A : Nat} {I I' M M' : Nat → Nat → Int32} (hI : ∀ j, 3 ≤ j → j ≤ 8 → I' 121 j = I 121 j) (hM : ∀ j, 17 ≤ j → j ≤ 22 → M' 0 j = M 0 j) (h : LSt B n A I M) : LSt B n A I' M' := by
  obtain ⟨a1, a2, a3, a4, a5⟩ := h
  refine ⟨a1, ⟨(hI 7 (by omega) (by omega)).trans a2.1, (hI 8 (by omega) (by omega)).trans a2.2⟩, (hM 21 (by omega) (by omega)).trans a3, ?_, ?_⟩
  · unfold XT at *
    rw [hI 3 (by omega) (by omega), hI 4 (by omega) (by omega), hI 5 (by omega) (by omega), hI 6 (by omega) (by omega)]
    exact a4
  · unfold MT at *
    rw [hM 17 (by omega) (by omega), hM 18 (by omega) (by omega), hM 19 (by omega) (by omega), hM 20 (by omega) (by omega)]
    exact a5
theorem FLt_c {I I' M M' : Nat → Nat → Int32} (hI : ∀ j, 3 ≤ j → j ≤ 8 → I' 121 j = I 121 j) (hM : ∀ j, 17 ≤ j → j ≤ 22 → M' 0 j = M 0 j) (h : FLt I M) : FLt I' M' := FLt_e h (hI 7 (by omega) (by omega)) (hI 8 (by omega) (by omega)) (hM 21 (by omega) (by omega)) (hM 22 (by omega) (by omega))
theorem GQ_u {B : Nat → Nat} {n p : Nat} {P P' : (Nat → Nat → Int32) → (Nat → Nat → Int32) → Prop} {I I' M M' : Nat → Nat → Int32} (hI : ∀ j, 3 ≤ j → j ≤ 8 → I' 121 j = I 121 j) (hM : ∀ j, 17 ≤ j → j ≤ 22 → M' 0 j = M 0 j) (hS : P I M → P' I' M') (h : GQ B n p P I M) : GQ B n p P' I' M' := by
  rcases h with h | ⟨A, hA, hL, hR⟩
  · exact Or.inl (FLt_c hI hM h)
  · exact Or.inr ⟨A, hA, ALt_e hI hM hL, hS hR⟩
/-- writes at the next user's place -/
theorem SRn_I {us bd bl : Nat} {I : Nat → Nat → Int32} {J : Nat → Nat → Int64} {M : Nat → Nat → Int32} {t : Nat} {x : Int32} (ht : 125 ≤ t ∧ t ≤ 131 ∧ t ≠ 129) (hx : (t = 126 → ∃ y : Fin 3, x = zI y.val) ∧ (t = 130 → ∃ y : Fin 31, x = zI y.val) ∧ (t = 127 → ∃ y : Fin 61, x = zI y.val) ∧ (t = 128 → ∃ y : Fin 61, x = zI y.val) ∧ (t = 131 → ∃ y : Fin 256, x = zI y.val)) (h : SRn us bd bl I J M) : SRn us bd bl (qc_u2 I t us x) J M := by
  obtain ⟨h1, h2, h3, h4, h5, h6⟩ := h
  have nI : ∀ t' j, (t' < 125 ∨ t' = 129 ∨ j ≠ us) → qc_u2 I t us x t' j = I t' j := fun t' j c => by rw [qG, if_neg (by omega)]
  refine ⟨S1_c (fun j _ _ => nI 122 j (by omega)) (fun j => nI 123 j (by omega)) (fun _ _ _ _ => rfl) h1, T1_c (nI 121 11 (by omega)) (fun _ => rfl) h2, S2_c (nI 122 1 (by omega)) rfl h3, ?_, S4_c (nI 121 10 (by omega)) rfl rfl (fun _ => rfl) h5, S5_c (fun j => nI 124 j (by omega)) (fun _ => rfl) h6⟩
  obtain ⟨g1, g2, g3, g4, g5, g6, g7, g8⟩ := h4
  refine ⟨g1, (nI 122 0 (by omega)).trans g2, g3, fun u hu => SU_c (fun t' _ _ => nI t' u (by omega)) (fun _ _ _ => rfl) (g4 u hu), SB_c (nI 121 12 (by omega)) (fun _ _ => rfl) g5, SB_c (nI 121 13 (by omega)) (fun _ _ => rfl) g6, fun u a b => by rw [nI 129 u (by omega)]; exact g7 u a b, ?_⟩
  intro u hu
  obtain ⟨k1, k2, k3, k4, k5⟩ := g8 u hu
  obtain ⟨y1, y2, y3, y4, y5⟩ := hx
  have pick : ∀ t' : Nat, ∀ Q : Int32 → Prop, Q (I t' u) → (t = t' → Q x) → Q (qc_u2 I t us x t' u) := by
    intro t' Q q1 q2
    rw [qG]
    by_cases c : t' = t ∧ u = us
    · rw [if_pos c]; exact q2 c.1.symm
    · rw [if_neg c]; exact q1
  exact ⟨pick 126 (fun z => ∃ y : Fin 3, z = zI y.val) k1 y1, pick 130 (fun z => ∃ y : Fin 31, z = zI y.val) k2 y2, pick 127 (fun z => ∃ y : Fin 61, z = zI y.val) k3 y3, pick 128 (fun z => ∃ y : Fin 61, z = zI y.val) k4 y4, pick 131 (fun z => ∃ y : Fin 256, z = zI y.val) k5 y5⟩
theorem SRn_M {us bd bl : Nat} {I : Nat → Nat → Int32} {J : Nat → Nat → Int64} {M : Nat → Nat → Int32} {t : Nat} {x : Int32} (ht : 4 ≤ t ∧ t ≤ 10) (h : SRn us bd bl I J M) : SRn us bd bl I J (qc_u2 M t (6 + us) x) := by
  obtain ⟨h1, h2, h3, h4, h5, h6⟩ := h
  have nM : ∀ t' j, (t' < 4 ∨ 10 < t' ∨ j ≠ 6 + us) → qc_u2 M t (6 + us) x t' j = M t' j := fun t' j c => by rw [qG, if_neg (by omega)]
  refine ⟨S1_c (fun _ _ _ => rfl) (fun _ => rfl) (fun j _ _ _ => nM 2 j (by omega)) h1, T1_c rfl (fun j => nM 3 j (by omega)) h2, S2_c rfl (nM 2 10 (by omega)) h3, ?_, S4_c rfl (nM 2 18 (by omega)) rfl (fun j => nM 12 j (by omega)) h5, S5_c (fun _ => rfl) (fun j => nM 11 j (by omega)) h6⟩
  obtain ⟨g1, g2, g3, g4, g5, g6, g7⟩ := h4
  exact ⟨g1, g2, (nM 2 17 (by omega)).trans g3, fun u hu => SU_c (fun _ _ _ => rfl) (fun t' _ _ => nM t' _ (by omega)) (g4 u hu), SB_c rfl (fun u hu => nM 9 _ (by omega)) g5, SB_c rfl (fun u hu => nM 10 _ (by omega)) g6, g7⟩
theorem tn_f {I : Nat → Nat → Int32} (h : I 121 7 ≠ zI 0) (a b : Int32) : P_X3_takeNumber I a b = some (a, I) := by
  unfold P_X3_takeNumber
  simp only [zL]
  rw [if_neg h]
theorem nu_f {M : Nat → Nat → Int32} (h : M 0 21 ≠ zI 0) (a b : Int32) : P_X7_numeral M a b = some (a, M) := by
  unfold P_X7_numeral
  simp only [zL]
  rw [if_neg h]
/-- the class goes on with a user though there is a fault -/
theorem x_41f {I : Nat → Nat → Int32} {us : Nat} (hus : us < 6) (h : I 121 7 ≠ zI 0) (x : Int32) : ∃ I', P_X3_readUser_41 I (zI (us : Nat)) x = some I' ∧ FI I I' ∧ ∀ j, 3 ≤ j → j ≤ 8 → I' 121 j = I 121 j := by
  obtain ⟨iq, rq⟩ := qi (q := us) (N := 8) (by omega) (by omega)
  have key : wp (P_X3_readUser_41 I (zI (us : Nat)) x) (fun I' => FI I I' ∧ ∀ j, 3 ≤ j → j ≤ 8 → I' 121 j = I 121 j) := by
    unfold P_X3_readUser_41
    simp only [if_pos iq, rq, zL]
    have st : ∀ (I1 : Nat → Nat → Int32) (t : Nat) (y : Int32), 121 < t → (FI I I1 ∧ ∀ j, 3 ≤ j → j ≤ 8 → I1 121 j = I 121 j) → (FI I (qc_u2 I1 t us y) ∧ ∀ j, 3 ≤ j → j ≤ 8 → qc_u2 I1 t us y 121 j = I 121 j) := by
      intro I1 t y ht ⟨g1, g2⟩
      exact ⟨FI_u g1 (by omega) _, fun j a b => by rw [qG, if_neg (by omega)]; exact g2 j a b⟩
    refine wp_let fun I1 g1 => ?_
    have k1 := st I 125 x (by omega) ⟨FI_r I, fun _ _ _ => rfl⟩
    rw [← g1] at k1
    rw [tn_f (by rw [k1.2 7 (by omega) (by omega)]; exact h), Option.bind_some]
    refine wp_let fun I2 g2 => ?_
    have k2 := st I1 126 (zI 0) (by omega) k1
    have g2' : I2 = qc_u2 I1 126 us (zI 0) := g2
    rw [← g2'] at k2
    rw [tn_f (by rw [k2.2 7 (by omega) (by omega)]; exact h), Option.bind_some]
    refine wp_let fun I3 g3 => ?_
    have k3 := st I2 130 (zI 0) (by omega) k2
    have g3' : I3 = qc_u2 I2 130 us (zI 0) := g3
    rw [← g3'] at k3
    rw [tn_f (by rw [k3.2 7 (by omega) (by omega)]; exact h), Option.bind_some]
    refine wp_let fun I4 g4 => ?_
    have k4 := st I3 127 (zI 1) (by omega) k3
    have g4' : I4 = qc_u2 I3 127 us (zI 1) := g4
    rw [← g4'] at k4
    rw [tn_f (by rw [k4.2 7 (by omega) (by omega)]; exact h), Option.bind_some]
    refine wp_let fun I5 g5 => ?_
    have k5 := st I4 128 (I4 127 us) (by omega) k4
    have g5' : I5 = qc_u2 I4 128 us (I4 127 us) := g5
    rw [← g5'] at k5
    refine wp_let fun I6 g6 => wp_let fun I7 g7 => wp_some ?_
    have k6 := st I5 131 (zI 255) (by omega) k5
    rw [← g6] at k6
    rw [g7]
    exact ⟨FI_u k6.1 (by omega) _, fun j a b => by rw [qG, if_neg (by omega)]; exact k6.2 j a b⟩
  obtain ⟨r, r1, r2, r3⟩ := key
  exact ⟨r, r1, r2, r3⟩
/-- one user more -/
theorem SRn_user {us bd bl : Nat} {I : Nat → Nat → Int32} {J : Nat → Nat → Int64} {M : Nat → Nat → Int32} (hus : us < 6) (h : SRn us bd bl I J M) (hU : SU bd us I M) (h9 : M 9 (6 + us) = zI 0) (h10 : M 10 (6 + us) = zI 0) : SRn (us + 1) bd bl (qc_u2 I 122 0 (zI ((us + 1 : Nat) : Int))) J (qc_u2 M 2 17 (zI ((us + 1 : Nat) : Int))) := by
  obtain ⟨h1, h2, h3, h4, h5, h6⟩ := h
  have nI : ∀ t j, (t ≠ 122 ∨ j ≠ 0) → qc_u2 I 122 0 (zI ((us + 1 : Nat) : Int)) t j = I t j := fun t j c => by rw [qG, if_neg (by omega)]
  have nM : ∀ t j, (t ≠ 2 ∨ j ≠ 17) → qc_u2 M 2 17 (zI ((us + 1 : Nat) : Int)) t j = M t j := fun t j c => by rw [qG, if_neg (by omega)]
  refine ⟨S1_c (fun j _ _ => nI 122 j (by omega)) (fun j => nI 123 j (by omega)) (fun j _ _ _ => nM 2 j (by omega)) h1, T1_c (nI 121 11 (by omega)) (fun j => nM 3 j (by omega)) h2, S2_c (nI 122 1 (by omega)) (nM 2 10 (by omega)) h3, ?_, S4_c (nI 121 10 (by omega)) (nM 2 18 (by omega)) rfl (fun j => nM 12 j (by omega)) h5, S5_c (fun j => nI 124 j (by omega)) (fun j => nM 11 j (by omega)) h6⟩
  obtain ⟨g1, g2, g3, g4, g5, g6, g7, g8⟩ := h4
  have sb : ∀ (x : Int32) (r : Nat → Int32), r (6 + us) = zI 0 → SB us x r → SB (us + 1) x r := by
    intro x r hr ⟨fb, f1, f2⟩
    refine ⟨fb, f1, ?_⟩
    intro u hu
    rw [f2 u hu]
    constructor
    · intro z; exact ⟨by omega, z.2⟩
    · intro z
      refine ⟨?_, z.2⟩
      by_cases c : u = us
      · exact absurd hr (by rw [← c]; exact z.2)
      · omega
  refine ⟨by omega, by rw [qG, if_pos ⟨rfl, rfl⟩], by rw [qG, if_pos ⟨rfl, rfl⟩], ?_, ?_, ?_, ?_, ?_⟩
  · intro u hu
    refine SU_c (fun t' _ _ => nI t' u (by omega)) (fun t' _ _ => nM t' _ (by omega)) ?_
    by_cases c : u = us
    · rw [c]; exact hU
    · exact g4 u (by omega)
  · exact sb _ _ (by rw [nM 9 _ (by omega)]; exact h9) (SB_c (nI 121 12 (by omega)) (fun u _ => nM 9 _ (by omega)) g5)
  · exact sb _ _ (by rw [nM 10 _ (by omega)]; exact h10) (SB_c (nI 121 13 (by omega)) (fun u _ => nM 10 _ (by omega)) g6)
  · intro u a b
    rw [nI 129 u (by omega)]
    exact g7 u (by omega) b
  · intro u hu
    rw [nI 126 u (by omega), nI 127 u (by omega), nI 128 u (by omega), nI 130 u (by omega), nI 131 u (by omega)]
    exact g8 u hu
