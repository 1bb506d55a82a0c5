/-! A FRESH TEXT in the reference -/
def fl (M : Nat → Nat → Int32) (t lo hi : Nat) (x : Int32) : Nat → Nat → Int32 := fun t' j => if t' = t ∧ lo ≤ j ∧ j < hi then x else M t' j
theorem fl_run {β : Type} (L : Nat → Nat → (Nat → Nat → Int32) → Option β) (t b N : Nat) (x : Int32) (fin : (Nat → Nat → Int32) → Option β) (hs : ∀ f k M, k < N → L (f + 1) k M = L f (k + 1) (qc_u2 M t (b + k) x)) (he : ∀ f M, L (f + 1) N M = fin M) : ∀ (d k f : Nat) (M : Nat → Nat → Int32), k + d = N → d < f → L f k M = fin (fl M t (b + k) (b + N) x) := by
  intro d
  induction d with
  | zero =>
    intro k f M hk hf
    obtain ⟨g, rfl⟩ : ∃ g, f = g + 1 := ⟨f - 1, by omega⟩
    have : k = N := by omega
    subst this
    rw [he]
    congr 1
    funext t' j
    unfold fl
    rw [if_neg (by omega)]
  | succ d ih =>
    intro k f M hk hf
    obtain ⟨g, rfl⟩ : ∃ g, f = g + 1 := ⟨f - 1, by omega⟩
    rw [hs g k M (by omega), ih (k + 1) g _ (by omega) (by omega)]
    congr 1
    funext t' j
    unfold fl
    rw [qG]
    by_cases c : t' = t ∧ b + k ≤ j ∧ j < b + N
    · rw [if_pos c]
      by_cases c2 : j = b + k
      · rw [if_neg (by omega), if_pos (by omega)]
      · rw [if_pos (by omega)]
    · rw [if_neg c, if_neg (by omega), if_neg (by omega)]
theorem vp_0 : vp_nar .boolean (zI 0) = zI 0 := by decide
theorem m_f108 {M : Nat → Nat → Int32} : P_X7_freshText_108 qc_fu M (zI 0) = some (qc_u2 (fl M 12 61 122 (zI 0)) 0 14 (zI 0)) := by
  have := fl_run (fun f k M => P_X7_freshText_108 f M (zI (k : Nat))) 12 61 61 (zI 0) (fun M => some (qc_u2 M 0 14 (zI 0))) (by
    intro f k M hk
    obtain ⟨iq, rq⟩ := qi (q := 61 + k) (N := 122) (by omega) (by omega)
    have e : zI 61 + zI (k : Int) = zI ((61 + k : Nat) : Int) := by rw [zI_add]; rfl
    show P_X7_freshText_108 (f + 1) M (zI (k : Nat)) = P_X7_freshText_108 f _ (zI ((k + 1 : Nat) : Int))
    rw [P_X7_freshText_108]
    simp only [zL]
    rw [if_neg (by rw [zI_le] <;> omega), e]
    simp only [if_pos iq, rq, qc_lE, vp_0, zI_add]
    rfl) (by
    intro f M
    show P_X7_freshText_108 (f + 1) M (zI ((61 : Nat) : Int)) = _
    rw [P_X7_freshText_108]
    simp only [zL, qc_lE]
    rw [if_pos (by decide)]) 61 0 qc_fu M (by omega) (by unfold qc_fu; omega)
  exact this
theorem m_f87 {M : Nat → Nat → Int32} : P_X7_freshText_87 qc_fu M (zI 0) = P_X7_freshText_108 qc_fu (fl M 3 0 11 (zI 0)) (zI 0) := by
  have := fl_run (fun f k M => P_X7_freshText_87 f M (zI (k : Nat))) 3 0 11 (zI 0) (fun M => P_X7_freshText_108 qc_fu M (zI 0)) (by
    intro f k M hk
    obtain ⟨iq, rq⟩ := qi (q := k) (N := 11) (by omega) (by omega)
    show P_X7_freshText_87 (f + 1) M (zI (k : Nat)) = P_X7_freshText_87 f _ (zI ((k + 1 : Nat) : Int))
    rw [P_X7_freshText_87]
    simp only [zL]
    rw [if_neg (by rw [zI_le] <;> omega)]
    simp only [if_pos iq, rq, qc_lE, vp_0, zI_add, Nat.zero_add]
    rfl) (by
    intro f M
    show P_X7_freshText_87 (f + 1) M (zI ((11 : Nat) : Int)) = _
    rw [P_X7_freshText_87]
    simp only [zL]
    rw [if_pos (by decide)]) 11 0 qc_fu M (by omega) (by unfold qc_fu; omega)
  exact this
theorem m_f62 {M : Nat → Nat → Int32} : P_X7_freshText_62 qc_fu M (zI 0) = P_X7_freshText_87 qc_fu (fl M 11 9 18 (zI (-2))) (zI 0) := by
  have := fl_run (fun f k M => P_X7_freshText_62 f M (zI (k : Nat))) 11 9 9 (zI (-2)) (fun M => P_X7_freshText_87 qc_fu M (zI 0)) (by
    intro f k M hk
    obtain ⟨iq, rq⟩ := qi (q := 9 + k) (N := 18) (by omega) (by omega)
    have e : zI 9 + zI (k : Int) = zI ((9 + k : Nat) : Int) := by rw [zI_add]; rfl
    show P_X7_freshText_62 (f + 1) M (zI (k : Nat)) = P_X7_freshText_62 f _ (zI ((k + 1 : Nat) : Int))
    rw [P_X7_freshText_62]
    simp only [zL]
    rw [if_neg (by rw [zI_le] <;> omega), e]
    simp only [if_pos iq, rq, qc_lE, zI_neg, zI_add]
    rfl) (by
    intro f M
    show P_X7_freshText_62 (f + 1) M (zI ((9 : Nat) : Int)) = _
    rw [P_X7_freshText_62]
    simp only [zL]
    rw [if_pos (by decide)]) 9 0 qc_fu M (by omega) (by unfold qc_fu; omega)
  exact this
theorem m_fresh (M : Nat → Nat → Int32) : ∃ M', P_X7_freshText M = some M' ∧ (M' 2 10 = zI 30 ∧ M' 2 11 = zI 0 ∧ M' 2 12 = zI 1 ∧ M' 2 13 = zI 2 ∧ M' 2 14 = zI 5 ∧ M' 2 15 = zI 10 ∧ M' 2 16 = zI 20 ∧ M' 2 17 = zI 0 ∧ M' 2 18 = zI 0 ∧ M' 2 19 = zI 0) ∧ (∀ k, k < 9 → M' 11 (9 + k) = zI (-2)) ∧ (∀ k, k < 11 → M' 3 k = zI 0) ∧ (∀ c, c < 61 → M' 12 (61 + c) = zI 0) ∧ M' 0 14 = zI 0 ∧ (∀ t j, ¬ (t = 2 ∧ 10 ≤ j ∨ t = 3 ∨ t = 11 ∧ 9 ≤ j ∨ t = 12 ∧ 61 ≤ j ∨ t = 0 ∧ j = 14) → M' t j = M t j) := by
  have r : ∀ (j : Nat) (M : Nat → Nat → Int32) (x : Int32), j < 10 → P_X7_reads M (zI (j : Nat)) x = some (qc_u2 M 2 (10 + j) x) := fun j M x hj => m_reads hj x
  have f2 := fl_run (fun f k M => P_X7_freshText_2 f M (zI (k : Nat))) 2 10 10 (zI 0) (fun M => P_X7_freshText_62 qc_fu (qc_u2 (qc_u2 (qc_u2 (qc_u2 (qc_u2 (qc_u2 M 2 10 (zI 30)) 2 12 (zI 1)) 2 13 (zI 2)) 2 14 (zI 5)) 2 15 (zI 10)) 2 16 (zI 20)) (zI 0)) (by
    intro f k M hk
    show P_X7_freshText_2 (f + 1) M (zI (k : Nat)) = P_X7_freshText_2 f _ (zI ((k + 1 : Nat) : Int))
    rw [P_X7_freshText_2]
    simp only [zL]
    rw [if_neg (by rw [zI_le] <;> omega), r k _ _ hk, Option.bind_some]
    simp only [qc_lE, zI_add]
    rfl) (by
    intro f M
    have r0 : ∀ (M : Nat → Nat → Int32) (x : Int32), P_X7_reads M (zI 0) x = some (qc_u2 M 2 10 x) := fun M x => r 0 M x (by omega)
    have r2 : ∀ (M : Nat → Nat → Int32) (x : Int32), P_X7_reads M (zI 2) x = some (qc_u2 M 2 12 x) := fun M x => r 2 M x (by omega)
    have r3 : ∀ (M : Nat → Nat → Int32) (x : Int32), P_X7_reads M (zI 3) x = some (qc_u2 M 2 13 x) := fun M x => r 3 M x (by omega)
    have r4 : ∀ (M : Nat → Nat → Int32) (x : Int32), P_X7_reads M (zI 4) x = some (qc_u2 M 2 14 x) := fun M x => r 4 M x (by omega)
    have r5 : ∀ (M : Nat → Nat → Int32) (x : Int32), P_X7_reads M (zI 5) x = some (qc_u2 M 2 15 x) := fun M x => r 5 M x (by omega)
    have r6 : ∀ (M : Nat → Nat → Int32) (x : Int32), P_X7_reads M (zI 6) x = some (qc_u2 M 2 16 x) := fun M x => r 6 M x (by omega)
    show P_X7_freshText_2 (f + 1) M (zI ((10 : Nat) : Int)) = _
    rw [P_X7_freshText_2]
    simp only [zL]
    rw [if_pos (by decide), r0, Option.bind_some, r2, Option.bind_some, r3, Option.bind_some, r4, Option.bind_some, r5, Option.bind_some, r6, Option.bind_some]) 10 0 qc_fu M (by omega) (by unfold qc_fu; omega)
  have f2' : P_X7_freshText M = P_X7_freshText_62 qc_fu (qc_u2 (qc_u2 (qc_u2 (qc_u2 (qc_u2 (qc_u2 (fl M 2 10 20 (zI 0)) 2 10 (zI 30)) 2 12 (zI 1)) 2 13 (zI 2)) 2 14 (zI 5)) 2 15 (zI 10)) 2 16 (zI 20)) (zI 0) := f2
  refine ⟨_, by rw [f2', m_f62, m_f87, m_f108], ?_, ?_, ?_, ?_, ?_, ?_⟩
  · have z : ∀ j, 10 ≤ j → j < 20 → fl M 2 10 20 (zI 0) 2 j = zI 0 := fun j a b => if_pos ⟨rfl, a, b⟩
    have e : ∀ (N : Nat → Nat → Int32) (j : Nat), qc_u2 (fl (fl (fl N 11 9 18 (zI (-2))) 3 0 11 (zI 0)) 12 61 122 (zI 0)) 0 14 (zI 0) 2 j = N 2 j := by
      intro N j
      rw [qG, if_neg (by omega)]
      unfold fl
      rw [if_neg (by omega), if_neg (by omega), if_neg (by omega)]
    rw [e, e, e, e, e, e, e, e, e, e]
    simp (disch := omega) only [qG, iteF, iteT, and_self, z]
    simp
  · intro k hk
    rw [qG, if_neg (by omega)]
    unfold fl
    rw [if_neg (by omega), if_neg (by omega), if_pos (by omega)]
  · intro k hk
    rw [qG, if_neg (by omega)]
    unfold fl
    rw [if_neg (by omega), if_pos (by omega)]
  · intro k hk
    rw [qG, if_neg (by omega)]
    unfold fl
    rw [if_pos (by omega)]
  · rw [qG, if_pos ⟨rfl, rfl⟩]
  · intro t j c
    rw [qG, if_neg (by omega)]
    unfold fl
    rw [if_neg (by omega), if_neg (by omega), if_neg (by omega), qG, if_neg (by omega), qG, if_neg (by omega), qG, if_neg (by omega), qG, if_neg (by omega), qG, if_neg (by omega), qG, if_neg (by omega), if_neg (by omega)]
