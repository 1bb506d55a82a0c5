/-! A ROW: the reference's own look at it, and what is clean there -/
def RW (V : sV) : Prop := (v_bd V).val = 60 ∧ (∀ u, (v_st V u).val = 0) ∧ (∀ u, (v_lo V u).val = 1) ∧ (∀ u, (v_hi V u).val = 60) ∧ (∀ u, (v_pw V u).val = 0) ∧ (∀ u, (v_sl V u).val = 255) ∧ (∀ k, (v_ls V k).val = 0) ∧ (∀ c, v_sh V c = false)
def hitB (V : sV) (q : Qd) : Bool := isP V q && !decide (hitsN V q = 0)
def nrR (V : sV) (a b : Nat) (c v : Int) (u : Nat) : Bool := decide (u ≠ a ∧ u ≠ b ∧ (u : Int) ≠ c ∧ (((v_ch V u).val : Int) - v).natAbs ≤ (v_gd V).val)
theorem row_lev {V : sV} (h : RW V) (q : Qd) : levS V q = 0 := by
  obtain ⟨h1, h2, h3, h4, h5, h6, h7, h8⟩ := h
  unfold levS
  simp [h5, h7]
theorem row_com {V : sV} (h : RW V) (q : Qd) : comS V q = 255 := by
  obtain ⟨h1, h2, h3, h4, h5, h6, h7, h8⟩ := h
  unfold comS
  simp only [h6]
  split <;> rfl
theorem row_hit {V : sV} (h : RW V) {k a b : Nat} {c : Int} {u : Nat} (hu : 1 ≤ (v_ch V u).val) : hitS V (k, a, b, c) u = nrR V a b c (chanS V (k, a, b, c)) u := by
  have hl := row_lev h (k, a, b, c)
  have hc := row_com h (k, a, b, c)
  obtain ⟨h1, h2, h3, h4, h5, h6, h7, h8⟩ := h
  unfold hitS mayS nrR
  rw [hl, hc, h6 u, Bool.eq_iff_iff]
  simp only [Bool.and_eq_true, decide_eq_true_eq]
  constructor
  · intro ⟨⟨_, _, x1, x2, x3, _, _⟩, x4⟩
    exact ⟨fun e => x1 e.symm, fun e => x2 e.symm, fun e => x3 e.symm, x4⟩
  · intro ⟨x1, x2, x3, x4⟩
    exact ⟨⟨by omega, by omega, fun e => x1 e.symm, fun e => x2 e.symm, fun e => x3 e.symm, by decide, Or.inl (by rw [h2, h2])⟩, x4⟩
theorem row_hitsN {V : sV} (h : RW V) (hp : ∀ i, i < (v_us V).val → 1 ≤ (v_ch V i).val) (k a b : Nat) (c : Int) : hitsN V (k, a, b, c) = sm (fun u => b1 (nrR V a b c (chanS V (k, a, b, c)) u)) (v_us V).val 0 := by
  unfold hitsN
  refine sm_cg _ _ ?_
  intro i _ hi
  show b1 _ = b1 _
  rw [row_hit h (hp i (by omega))]
set_option maxRecDepth 100000 in
theorem m_sumOf {M : Nat → Nat → Int32} {V : sV} (hus : (v_us V).val ≤ 8) (hR : ∀ i, i < (v_us V).val → M 23 i = zI (v_ch V i).val) {k a b : Nat} {c : Int} (hq : gdQ (v_us V).val (k, a, b, c)) : P_X7_sumOf M (zI k) (zI a) (zI b) (zI c) = some (zI (chanS V (k, a, b, c))) := by
  obtain ⟨g1, g2, g3, g4⟩ := hq
  dsimp only at g1 g2 g3 g4
  have hk : k = 0 ∨ k = 1 ∨ k = 2 ∨ k = 3 ∨ k = 4 ∨ k = 5 := by omega
  unfold P_X7_sumOf P_X7_timesA P_X7_timesB P_X7_timesC
  rcases hk with rfl | rfl | rfl | rfl | rfl | rfl
  case inl | inr.inl | inr.inr.inl | inr.inr.inr.inr.inl =>
    rcases g4 with ⟨g4, _, _⟩ | ⟨_, g4⟩
    · omega
    · subst g4
      simp (disch := omega) only [zI_add, zI_sub, zI_mul, zI_neg, zL, zI_le, zI_lt, zI_eq, zI_cl, zA0, zI_if, Int.toNat_natCast, zT_add, zT_mul, Int.reduceToNat, Nat.add_zero, Nat.zero_add, Int.add_zero, Int.zero_add, zc_a, zc_l, Option.bind_some, qc_let, qc_in, qc_bo, ↓reduceIte, zYT, zYF, zYt, zYf, zYe, zYn, nYT, nYF, nYt, nYf, nYe, nYn, or_false, false_or, or_true, true_or, not_false_eq_true, not_true_eq_false, and_self, and_true, true_and, and_false, false_and, qG, if_true, if_false, hR, Int.reduceNeg, Int.neg_neg]
      refine congrArg some (congrArg zI ?_)
      unfold chanS tA tB
      simp
  case inr.inr.inr.inl | inr.inr.inr.inr.inr =>
    rcases g4 with ⟨_, g4, g5⟩ | ⟨g4, _⟩
    · obtain ⟨c', rfl⟩ : ∃ c' : Nat, c = (c' : Int) := ⟨c.toNat, by omega⟩
      simp (disch := omega) only [zI_add, zI_sub, zI_mul, zI_neg, zL, zI_le, zI_lt, zI_eq, zI_cl, zA0, zI_if, Int.toNat_natCast, zT_add, zT_mul, Int.reduceToNat, Nat.add_zero, Nat.zero_add, Int.add_zero, Int.zero_add, zc_a, zc_l, Option.bind_some, qc_let, qc_in, qc_bo, ↓reduceIte, zYT, zYF, zYt, zYf, zYe, zYn, nYT, nYF, nYt, nYf, nYe, nYn, or_false, false_or, or_true, true_or, not_false_eq_true, not_true_eq_false, and_self, and_true, true_and, and_false, false_and, qG, if_true, if_false, hR, Int.reduceNeg, Int.neg_neg]
      refine congrArg some (congrArg zI ?_)
      unfold chanS tA tB tC
      simp
      try omega
    · omega
theorem m_hr16 {M : Nat → Nat → Int32} {V : sV} (hus : (v_us V).val ≤ 8) (hR : ∀ i, i < (v_us V).val → M 23 i = zI (v_ch V i).val) {a b : Nat} {c v : Int} (ha : a < 8) (hb : b < 8) (hc : -2 ≤ c ∧ c < 8) (hv : -1000 ≤ v ∧ v ≤ 1000) : ∀ (d u f : Nat), u + d = (v_us V).val → d < f → P_X7_hitsRow_16 M f (zI v) (zI (v_us V).val) (zI a) (zI b) (zI c) (zI (v_gd V).val) (zI u) = some (bI (!decide (sm (fun u => b1 (nrR V a b c v u)) d u = 0))) := by
  intro d
  induction d with
  | zero =>
    intro u f hu hf
    obtain ⟨g, rfl⟩ : ∃ g, f = g + 1 := ⟨f - 1, by omega⟩
    simp (disch := omega) only [P_X7_hitsRow_16, zI_add, zI_sub, zI_mul, zI_neg, zL, zI_le, zI_lt, zI_eq, zI_cl, zA0, zI_if, Int.toNat_natCast, zT_add, zT_mul, Int.reduceToNat, Nat.add_zero, Nat.zero_add, Int.add_zero, Int.zero_add, zc_a, zc_l, Option.bind_some, qc_let, qc_in, qc_bo, ↓reduceIte, zYT, zYF, zYt, zYf, zYe, zYn, nYT, nYF, nYt, nYf, nYe, nYn, or_false, false_or, or_true, true_or, not_false_eq_true, not_true_eq_false, and_self, and_true, true_and, and_false, false_and, qG, if_true, if_false]
    rfl
  | succ d ih =>
    intro u f hu hf
    obtain ⟨g, rfl⟩ : ∃ g, f = g + 1 := ⟨f - 1, by omega⟩
    have := ih (u + 1) g (by omega) (by omega)
    simp only [zc_a, zc_l] at this
    have e0 : sm (fun u => b1 (nrR V a b c v u)) (d + 1) u = b1 (nrR V a b c v u) + sm (fun u => b1 (nrR V a b c v u)) d (u + 1) := rfl
    have no : ∀ x : Bool, x = false → sm (fun u => b1 (nrR V a b c v u)) (d + 1) u = b1 (nrR V a b c v u) + sm (fun u => b1 (nrR V a b c v u)) d (u + 1) → nrR V a b c v u = x → sm (fun u => b1 (nrR V a b c v u)) (d + 1) u = sm (fun u => b1 (nrR V a b c v u)) d (u + 1) := by
      intro x hx e1 e2
      rw [e1, e2, hx, b1_F, Nat.zero_add]
    by_cases c1 : u = a
    · rw [no false rfl e0 (decide_eq_false (fun z => z.1 c1)), ← this]
      simp (disch := omega) only [P_X7_hitsRow_16, P_X7_hitsRow_61, zI_add, zI_sub, zI_mul, zI_neg, zL, zI_le, zI_lt, zI_eq, zI_cl, zA0, zI_if, Int.toNat_natCast, zT_add, zT_mul, Int.reduceToNat, Nat.add_zero, Nat.zero_add, Int.add_zero, Int.zero_add, zc_a, zc_l, Option.bind_some, qc_let, qc_in, qc_bo, ↓reduceIte, zYT, zYF, zYt, zYf, zYe, zYn, nYT, nYF, nYt, nYf, nYe, nYn, or_false, false_or, or_true, true_or, not_false_eq_true, not_true_eq_false, and_self, and_true, true_and, and_false, false_and, qG, if_true, if_false]
    · by_cases c2 : u = b
      · rw [no false rfl e0 (decide_eq_false (fun z => z.2.1 c2)), ← this]
        simp (disch := omega) only [P_X7_hitsRow_16, P_X7_hitsRow_61, zI_add, zI_sub, zI_mul, zI_neg, zL, zI_le, zI_lt, zI_eq, zI_cl, zA0, zI_if, Int.toNat_natCast, zT_add, zT_mul, Int.reduceToNat, Nat.add_zero, Nat.zero_add, Int.add_zero, Int.zero_add, zc_a, zc_l, Option.bind_some, qc_let, qc_in, qc_bo, ↓reduceIte, zYT, zYF, zYt, zYf, zYe, zYn, nYT, nYF, nYt, nYf, nYe, nYn, or_false, false_or, or_true, true_or, not_false_eq_true, not_true_eq_false, and_self, and_true, true_and, and_false, false_and, qG, if_true, if_false]
      · by_cases c3 : (u : Int) = c
        · rw [no false rfl e0 (decide_eq_false (fun z => z.2.2.1 c3)), ← this]
          simp (disch := omega) only [P_X7_hitsRow_16, P_X7_hitsRow_61, zI_add, zI_sub, zI_mul, zI_neg, zL, zI_le, zI_lt, zI_eq, zI_cl, zA0, zI_if, Int.toNat_natCast, zT_add, zT_mul, Int.reduceToNat, Nat.add_zero, Nat.zero_add, Int.add_zero, Int.zero_add, zc_a, zc_l, Option.bind_some, qc_let, qc_in, qc_bo, ↓reduceIte, zYT, zYF, zYt, zYf, zYe, zYn, nYT, nYF, nYt, nYf, nYe, nYn, or_false, false_or, or_true, true_or, not_false_eq_true, not_true_eq_false, and_self, and_true, true_and, and_false, false_and, qG, if_true, if_false]
        · by_cases c4 : (((v_ch V u).val : Int) - v).natAbs ≤ (v_gd V).val
          · rw [e0, show nrR V a b c v u = true from decide_eq_true ⟨c1, c2, c3, c4⟩, b1_T, decide_eq_false (show ¬ (1 + sm (fun u => b1 (nrR V a b c v u)) d (u + 1) = 0) by omega)]
            by_cases c5 : 0 ≤ ((v_ch V u).val : Int) - v
            · simp (disch := omega) only [P_X7_hitsRow_16, P_X7_hitsRow_61, zI_add, zI_sub, zI_mul, zI_neg, zL, zI_le, zI_lt, zI_eq, zI_cl, zA0, zI_if, Int.toNat_natCast, zT_add, zT_mul, Int.reduceToNat, Nat.add_zero, Nat.zero_add, Int.add_zero, Int.zero_add, zc_a, zc_l, Option.bind_some, qc_let, qc_in, qc_bo, ↓reduceIte, zYT, zYF, zYt, zYf, zYe, zYn, nYT, nYF, nYt, nYf, nYe, nYn, or_false, false_or, or_true, true_or, not_false_eq_true, not_true_eq_false, and_self, and_true, true_and, and_false, false_and, qG, if_true, if_false, hR, m_without]
              rfl
            · simp (disch := omega) only [P_X7_hitsRow_16, P_X7_hitsRow_61, zI_add, zI_sub, zI_mul, zI_neg, zL, zI_le, zI_lt, zI_eq, zI_cl, zA0, zI_if, Int.toNat_natCast, zT_add, zT_mul, Int.reduceToNat, Nat.add_zero, Nat.zero_add, Int.add_zero, Int.zero_add, zc_a, zc_l, Option.bind_some, qc_let, qc_in, qc_bo, ↓reduceIte, zYT, zYF, zYt, zYf, zYe, zYn, nYT, nYF, nYt, nYf, nYe, nYn, or_false, false_or, or_true, true_or, not_false_eq_true, not_true_eq_false, and_self, and_true, true_and, and_false, false_and, qG, if_true, if_false, hR, m_without]
              rfl
          · rw [no false rfl e0 (decide_eq_false (fun z => c4 z.2.2.2)), ← this]
            by_cases c5 : 0 ≤ ((v_ch V u).val : Int) - v
            · simp (disch := omega) only [P_X7_hitsRow_16, P_X7_hitsRow_61, zI_add, zI_sub, zI_mul, zI_neg, zL, zI_le, zI_lt, zI_eq, zI_cl, zA0, zI_if, Int.toNat_natCast, zT_add, zT_mul, Int.reduceToNat, Nat.add_zero, Nat.zero_add, Int.add_zero, Int.zero_add, zc_a, zc_l, Option.bind_some, qc_let, qc_in, qc_bo, ↓reduceIte, zYT, zYF, zYt, zYf, zYe, zYn, nYT, nYF, nYt, nYf, nYe, nYn, or_false, false_or, or_true, true_or, not_false_eq_true, not_true_eq_false, and_self, and_true, true_and, and_false, false_and, qG, if_true, if_false, hR, m_without]
            · simp (disch := omega) only [P_X7_hitsRow_16, P_X7_hitsRow_61, zI_add, zI_sub, zI_mul, zI_neg, zL, zI_le, zI_lt, zI_eq, zI_cl, zA0, zI_if, Int.toNat_natCast, zT_add, zT_mul, Int.reduceToNat, Nat.add_zero, Nat.zero_add, Int.add_zero, Int.zero_add, zc_a, zc_l, Option.bind_some, qc_let, qc_in, qc_bo, ↓reduceIte, zYT, zYF, zYt, zYf, zYe, zYn, nYT, nYF, nYt, nYf, nYe, nYn, or_false, false_or, or_true, true_or, not_false_eq_true, not_true_eq_false, and_self, and_true, true_and, and_false, false_and, qG, if_true, if_false, hR, m_without]
theorem m_hitsRow {M : Nat → Nat → Int32} {V : sV} (h : RW V) (hus : (v_us V).val ≤ 8) (hp : ∀ i, i < (v_us V).val → 1 ≤ (v_ch V i).val) (hR : ∀ i, i < (v_us V).val → M 23 i = zI (v_ch V i).val) {k a b : Nat} {c : Int} (hq : gdQ (v_us V).val (k, a, b, c)) : P_X7_hitsRow M (zI (chanS V (k, a, b, c))) (zI (v_us V).val) (zI a) (zI b) (zI c) (zI (v_gd V).val) = some (bI (hitB V (k, a, b, c))) := by
  have hb := chan_b (V := V) hq
  obtain ⟨g1, g2, g3, g4⟩ := hq
  dsimp only at g1 g2 g3 g4
  have e16 := m_hr16 (a := a) (b := b) (c := c) (v := chanS V (k, a, b, c)) hus hR (by omega) (by omega) (by omega) hb (v_us V).val 0 qc_fu (by omega) (by unfold qc_fu; omega)
  have hn := row_hitsN h hp k a b c
  have hc := row_com h (k, a, b, c)
  unfold P_X7_hitsRow hitB isP
  rw [hn, hc, h.1]
  by_cases c1 : 1 ≤ chanS V (k, a, b, c)
  · by_cases c2 : chanS V (k, a, b, c) ≤ 60
    · rw [decide_eq_true (show 1 ≤ chanS V (k, a, b, c) ∧ chanS V (k, a, b, c) ≤ ((60 : Nat) : Int) ∧ 255 ≠ 0 from ⟨c1, by omega, by decide⟩), Bool.true_and, ← e16]
      simp (disch := omega) only [zI_add, zI_sub, zI_mul, zI_neg, zL, zI_le, zI_lt, zI_eq, zI_cl, zA0, zI_if, Int.toNat_natCast, zT_add, zT_mul, Int.reduceToNat, Nat.add_zero, Nat.zero_add, Int.add_zero, Int.zero_add, zc_a, zc_l, Option.bind_some, qc_let, qc_in, qc_bo, ↓reduceIte, zYT, zYF, zYt, zYf, zYe, zYn, nYT, nYF, nYt, nYf, nYe, nYn, or_false, false_or, or_true, true_or, not_false_eq_true, not_true_eq_false, and_self, and_true, true_and, and_false, false_and, qG, if_true, if_false]
    · rw [decide_eq_false (show ¬ (1 ≤ chanS V (k, a, b, c) ∧ chanS V (k, a, b, c) ≤ ((60 : Nat) : Int) ∧ 255 ≠ 0) by omega), Bool.false_and]
      simp (disch := omega) only [zI_add, zI_sub, zI_mul, zI_neg, zL, zI_le, zI_lt, zI_eq, zI_cl, zA0, zI_if, Int.toNat_natCast, zT_add, zT_mul, Int.reduceToNat, Nat.add_zero, Nat.zero_add, Int.add_zero, Int.zero_add, zc_a, zc_l, Option.bind_some, qc_let, qc_in, qc_bo, ↓reduceIte, zYT, zYF, zYt, zYf, zYe, zYn, nYT, nYF, nYt, nYf, nYe, nYn, or_false, false_or, or_true, true_or, not_false_eq_true, not_true_eq_false, and_self, and_true, true_and, and_false, false_and, qG, if_true, if_false]
      rfl
  · rw [decide_eq_false (show ¬ (1 ≤ chanS V (k, a, b, c) ∧ chanS V (k, a, b, c) ≤ ((60 : Nat) : Int) ∧ 255 ≠ 0) by omega), Bool.false_and]
    simp (disch := omega) only [zI_add, zI_sub, zI_mul, zI_neg, zL, zI_le, zI_lt, zI_eq, zI_cl, zA0, zI_if, Int.toNat_natCast, zT_add, zT_mul, Int.reduceToNat, Nat.add_zero, Nat.zero_add, Int.add_zero, Int.zero_add, zc_a, zc_l, Option.bind_some, qc_let, qc_in, qc_bo, ↓reduceIte, zYT, zYF, zYt, zYf, zYe, zYn, nYT, nYF, nYt, nYf, nYe, nYn, or_false, false_or, or_true, true_or, not_false_eq_true, not_true_eq_false, and_self, and_true, true_and, and_false, false_and, qG, if_true, if_false]
    rfl
/-! what is wrong in a ROW, counted -/
def bad3 (V : sV) (k a b d c : Nat) : Nat := sm (fun c => b1 (decide (c ≠ a ∧ c ≠ b) && hitB V (k, a, b, (c : Int)))) d c
def badS (V : sV) (k a b : Nat) : Nat := if k = 3 ∨ k = 5 then bad3 V k a b (v_us V).val 0 else b1 (hitB V (k, a, b, -2))
def badk (V : sV) (a b k : Nat) : Nat := if wantS V k = true ∧ ¬ ((k = 0 ∨ k = 3) ∧ b < a) then badS V k a b else 0
def bad2 (V : sV) (a b : Nat) : Nat := if a = b then 0 else b1 (decide (dist (v_ch V a).val (v_ch V b).val < (v_sp V).val)) + sm (badk V a b) 6 0
def badA (V : sV) (a : Nat) : Nat := sm (bad2 V a) (v_us V).val 0
theorem m_150 {M : Nat → Nat → Int32} {V : sV} (h : RW V) (hus : (v_us V).val ≤ 8) (hp : ∀ i, i < (v_us V).val → 1 ≤ (v_ch V i).val) (hR : ∀ i, i < (v_us V).val → M 23 i = zI (v_ch V i).val) {k3 : Int32 → Int32 → Int32 → Int32 → Int32 → Option (Int32)} {k12 : Int32 → Int32 → Int32 → Int32 → Int32 → Int32 → Option (Int32)} {k56 : Int32 → Int32 → Int32 → Int32 → Int32 → Int32 → Int32 → Option (Int32)} {x2 x4 : Int32} {k a b : Nat} (ha : a < (v_us V).val) (hb : b < (v_us V).val) (hk : k = 3 ∨ k = 5) : ∀ (d c f : Nat), c + d = (v_us V).val → d < f → P_X7_isRowClean_150 M k3 k12 k56 f (zI (v_us V).val) x2 (zI (v_gd V).val) x4 (zI a) (zI b) (zI k) (zI c) = if bad3 V k a b d c = 0 then k56 (zI (v_us V).val) x2 (zI (v_gd V).val) x4 (zI a) (zI b) (zI ((k : Int) + 1)) else some (zI 0) := by
  intro d
  induction d with
  | zero =>
    intro c f hc hf
    obtain ⟨g, rfl⟩ : ∃ g, f = g + 1 := ⟨f - 1, by omega⟩
    rw [if_pos (show bad3 V k a b 0 c = 0 from rfl)]
    simp (disch := omega) only [P_X7_isRowClean_150, P_X7_isRowClean_217, zI_add, zI_sub, zI_mul, zI_neg, zL, zI_le, zI_lt, zI_eq, zI_cl, zA0, zI_if, Int.toNat_natCast, zT_add, zT_mul, Int.reduceToNat, Nat.add_zero, Nat.zero_add, Int.add_zero, Int.zero_add, zc_a, zc_l, Option.bind_some, qc_let, qc_in, qc_bo, ↓reduceIte, zYT, zYF, zYt, zYf, zYe, zYn, nYT, nYF, nYt, nYf, nYe, nYn, or_false, false_or, or_true, true_or, not_false_eq_true, not_true_eq_false, and_self, and_true, true_and, and_false, false_and, qG, if_true, if_false]
  | succ d ih =>
    intro c f hc hf
    obtain ⟨g, rfl⟩ : ∃ g, f = g + 1 := ⟨f - 1, by omega⟩
    have := ih (c + 1) g (by omega) (by omega)
    simp only [zc_a, zc_l] at this
    have e0 : bad3 V k a b (d + 1) c = b1 (decide (c ≠ a ∧ c ≠ b) && hitB V (k, a, b, (c : Int))) + bad3 V k a b d (c + 1) := rfl
    have hq : gdQ (v_us V).val (k, a, b, (c : Int)) := ⟨by omega, ha, hb, Or.inl ⟨hk, by show (0 : Int) ≤ (c : Int); omega, by show (c : Int) < _; omega⟩⟩
    have s1 := m_sumOf hus hR hq
    have s2 := m_hitsRow h hus hp hR hq
    by_cases c1 : c = a
    · rw [e0, decide_eq_false (fun z => z.1 c1), Bool.false_and, b1_F, Nat.zero_add, ← this]
      rcases hk with hk | hk
      · simp (disch := omega) only [P_X7_isRowClean_150, P_X7_isRowClean_168, P_X7_isRowClean_211, zI_add, zI_sub, zI_mul, zI_neg, zL, zI_le, zI_lt, zI_eq, zI_cl, zA0, zI_if, Int.toNat_natCast, zT_add, zT_mul, Int.reduceToNat, Nat.add_zero, Nat.zero_add, Int.add_zero, Int.zero_add, zc_a, zc_l, Option.bind_some, qc_let, qc_in, qc_bo, ↓reduceIte, zYT, zYF, zYt, zYf, zYe, zYn, nYT, nYF, nYt, nYf, nYe, nYn, or_false, false_or, or_true, true_or, not_false_eq_true, not_true_eq_false, and_self, and_true, true_and, and_false, false_and, qG, if_true, if_false]
      · simp (disch := omega) only [P_X7_isRowClean_150, P_X7_isRowClean_168, P_X7_isRowClean_211, zI_add, zI_sub, zI_mul, zI_neg, zL, zI_le, zI_lt, zI_eq, zI_cl, zA0, zI_if, Int.toNat_natCast, zT_add, zT_mul, Int.reduceToNat, Nat.add_zero, Nat.zero_add, Int.add_zero, Int.zero_add, zc_a, zc_l, Option.bind_some, qc_let, qc_in, qc_bo, ↓reduceIte, zYT, zYF, zYt, zYf, zYe, zYn, nYT, nYF, nYt, nYf, nYe, nYn, or_false, false_or, or_true, true_or, not_false_eq_true, not_true_eq_false, and_self, and_true, true_and, and_false, false_and, qG, if_true, if_false]
    · by_cases c2 : c = b
      · rw [e0, decide_eq_false (fun z => z.2 c2), Bool.false_and, b1_F, Nat.zero_add, ← this]
        rcases hk with hk | hk
        · simp (disch := omega) only [P_X7_isRowClean_150, P_X7_isRowClean_168, P_X7_isRowClean_211, zI_add, zI_sub, zI_mul, zI_neg, zL, zI_le, zI_lt, zI_eq, zI_cl, zA0, zI_if, Int.toNat_natCast, zT_add, zT_mul, Int.reduceToNat, Nat.add_zero, Nat.zero_add, Int.add_zero, Int.zero_add, zc_a, zc_l, Option.bind_some, qc_let, qc_in, qc_bo, ↓reduceIte, zYT, zYF, zYt, zYf, zYe, zYn, nYT, nYF, nYt, nYf, nYe, nYn, or_false, false_or, or_true, true_or, not_false_eq_true, not_true_eq_false, and_self, and_true, true_and, and_false, false_and, qG, if_true, if_false]
        · simp (disch := omega) only [P_X7_isRowClean_150, P_X7_isRowClean_168, P_X7_isRowClean_211, zI_add, zI_sub, zI_mul, zI_neg, zL, zI_le, zI_lt, zI_eq, zI_cl, zA0, zI_if, Int.toNat_natCast, zT_add, zT_mul, Int.reduceToNat, Nat.add_zero, Nat.zero_add, Int.add_zero, Int.zero_add, zc_a, zc_l, Option.bind_some, qc_let, qc_in, qc_bo, ↓reduceIte, zYT, zYF, zYt, zYf, zYe, zYn, nYT, nYF, nYt, nYf, nYe, nYn, or_false, false_or, or_true, true_or, not_false_eq_true, not_true_eq_false, and_self, and_true, true_and, and_false, false_and, qG, if_true, if_false]
      · rw [e0, decide_eq_true ⟨c1, c2⟩, Bool.true_and]
        cases eh : hitB V (k, a, b, (c : Int))
        · rw [b1_F, Nat.zero_add, ← this]
          rw [eh] at s2
          rcases hk with hk | hk
          · simp (disch := omega) only [P_X7_isRowClean_150, P_X7_isRowClean_168, P_X7_isRowClean_211, zI_add, zI_sub, zI_mul, zI_neg, zL, zI_le, zI_lt, zI_eq, zI_cl, zA0, zI_if, Int.toNat_natCast, zT_add, zT_mul, Int.reduceToNat, Nat.add_zero, Nat.zero_add, Int.add_zero, Int.zero_add, zc_a, zc_l, Option.bind_some, qc_let, qc_in, qc_bo, ↓reduceIte, zYT, zYF, zYt, zYf, zYe, zYn, nYT, nYF, nYt, nYf, nYe, nYn, or_false, false_or, or_true, true_or, not_false_eq_true, not_true_eq_false, and_self, and_true, true_and, and_false, false_and, qG, if_true, if_false, s1, s2, bI_0]
          · simp (disch := omega) only [P_X7_isRowClean_150, P_X7_isRowClean_168, P_X7_isRowClean_211, zI_add, zI_sub, zI_mul, zI_neg, zL, zI_le, zI_lt, zI_eq, zI_cl, zA0, zI_if, Int.toNat_natCast, zT_add, zT_mul, Int.reduceToNat, Nat.add_zero, Nat.zero_add, Int.add_zero, Int.zero_add, zc_a, zc_l, Option.bind_some, qc_let, qc_in, qc_bo, ↓reduceIte, zYT, zYF, zYt, zYf, zYe, zYn, nYT, nYF, nYt, nYf, nYe, nYn, or_false, false_or, or_true, true_or, not_false_eq_true, not_true_eq_false, and_self, and_true, true_and, and_false, false_and, qG, if_true, if_false, s1, s2, bI_0]
        · rw [b1_T, if_neg (by omega)]
          rw [eh] at s2
          rcases hk with hk | hk
          · simp (disch := omega) only [P_X7_isRowClean_150, P_X7_isRowClean_168, P_X7_isRowClean_211, zI_add, zI_sub, zI_mul, zI_neg, zL, zI_le, zI_lt, zI_eq, zI_cl, zA0, zI_if, Int.toNat_natCast, zT_add, zT_mul, Int.reduceToNat, Nat.add_zero, Nat.zero_add, Int.add_zero, Int.zero_add, zc_a, zc_l, Option.bind_some, qc_let, qc_in, qc_bo, ↓reduceIte, zYT, zYF, zYt, zYf, zYe, zYn, nYT, nYF, nYt, nYf, nYe, nYn, or_false, false_or, or_true, true_or, not_false_eq_true, not_true_eq_false, and_self, and_true, true_and, and_false, false_and, qG, if_true, if_false, s1, s2, bI_0, reduceCtorEq]
          · simp (disch := omega) only [P_X7_isRowClean_150, P_X7_isRowClean_168, P_X7_isRowClean_211, zI_add, zI_sub, zI_mul, zI_neg, zL, zI_le, zI_lt, zI_eq, zI_cl, zA0, zI_if, Int.toNat_natCast, zT_add, zT_mul, Int.reduceToNat, Nat.add_zero, Nat.zero_add, Int.add_zero, Int.zero_add, zc_a, zc_l, Option.bind_some, qc_let, qc_in, qc_bo, ↓reduceIte, zYT, zYF, zYt, zYf, zYe, zYn, nYT, nYF, nYt, nYf, nYe, nYn, or_false, false_or, or_true, true_or, not_false_eq_true, not_true_eq_false, and_self, and_true, true_and, and_false, false_and, qG, if_true, if_false, s1, s2, bI_0, reduceCtorEq]
theorem m_106 {M : Nat → Nat → Int32} {V : sV} (h : RW V) (hus : (v_us V).val ≤ 8) (hp : ∀ i, i < (v_us V).val → 1 ≤ (v_ch V i).val) (hR : ∀ i, i < (v_us V).val → M 23 i = zI (v_ch V i).val) {k3 : Int32 → Int32 → Int32 → Int32 → Int32 → Option (Int32)} {k12 : Int32 → Int32 → Int32 → Int32 → Int32 → Int32 → Option (Int32)} {k56 : Int32 → Int32 → Int32 → Int32 → Int32 → Int32 → Int32 → Option (Int32)} {x2 x4 : Int32} {k a b : Nat} (ha : a < (v_us V).val) (hb : b < (v_us V).val) (hk : k < 6) : P_X7_isRowClean_106 M k3 k12 k56 (zI (v_us V).val) x2 (zI (v_gd V).val) x4 (zI a) (zI b) (zI k) = if badS V k a b = 0 then k56 (zI (v_us V).val) x2 (zI (v_gd V).val) x4 (zI a) (zI b) (zI ((k : Int) + 1)) else some (zI 0) := by
  by_cases c1 : k = 3 ∨ k = 5
  · have := m_150 (k3 := k3) (k12 := k12) (k56 := k56) (x2 := x2) (x4 := x4) h hus hp hR ha hb c1 (v_us V).val 0 qc_fu (by omega) (by unfold qc_fu; omega)
    unfold badS
    rw [if_pos c1, ← this]
    rcases c1 with c1 | c1
    · simp (disch := omega) only [P_X7_isRowClean_106, P_X7_isRowClean_147, zI_add, zI_sub, zI_mul, zI_neg, zL, zI_le, zI_lt, zI_eq, zI_cl, zA0, zI_if, Int.toNat_natCast, zT_add, zT_mul, Int.reduceToNat, Nat.add_zero, Nat.zero_add, Int.add_zero, Int.zero_add, zc_a, zc_l, Option.bind_some, qc_let, qc_in, qc_bo, ↓reduceIte, zYT, zYF, zYt, zYf, zYe, zYn, nYT, nYF, nYt, nYf, nYe, nYn, or_false, false_or, or_true, true_or, not_false_eq_true, not_true_eq_false, and_self, and_true, true_and, and_false, false_and, qG, if_true, if_false]
    · simp (disch := omega) only [P_X7_isRowClean_106, P_X7_isRowClean_147, zI_add, zI_sub, zI_mul, zI_neg, zL, zI_le, zI_lt, zI_eq, zI_cl, zA0, zI_if, Int.toNat_natCast, zT_add, zT_mul, Int.reduceToNat, Nat.add_zero, Nat.zero_add, Int.add_zero, Int.zero_add, zc_a, zc_l, Option.bind_some, qc_let, qc_in, qc_bo, ↓reduceIte, zYT, zYF, zYt, zYf, zYe, zYn, nYT, nYF, nYt, nYf, nYe, nYn, or_false, false_or, or_true, true_or, not_false_eq_true, not_true_eq_false, and_self, and_true, true_and, and_false, false_and, qG, if_true, if_false]
  · have hq : gdQ (v_us V).val (k, a, b, -2) := ⟨by omega, ha, hb, Or.inr ⟨c1, rfl⟩⟩
    have s1 := m_sumOf hus hR hq
    have s2 := m_hitsRow h hus hp hR hq
    have r : P_X7_isRowClean_147 M k3 k12 k56 (zI (v_us V).val) x2 (zI (v_gd V).val) x4 (zI a) (zI b) (zI k) = k56 (zI (v_us V).val) x2 (zI (v_gd V).val) x4 (zI a) (zI b) (zI ((k : Int) + 1)) := by
      unfold P_X7_isRowClean_147
      obtain ⟨g, hg⟩ : ∃ g, qc_fu = g + 1 := ⟨99999, rfl⟩
      rw [hg]
      simp (disch := omega) only [P_X7_isRowClean_150, P_X7_isRowClean_217, zI_add, zI_sub, zI_mul, zI_neg, zL, zI_le, zI_lt, zI_eq, zI_cl, zA0, zI_if, Int.toNat_natCast, zT_add, zT_mul, Int.reduceToNat, Nat.add_zero, Nat.zero_add, Int.add_zero, Int.zero_add, zc_a, zc_l, Option.bind_some, qc_let, qc_in, qc_bo, ↓reduceIte, zYT, zYF, zYt, zYf, zYe, zYn, nYT, nYF, nYt, nYf, nYe, nYn, or_false, false_or, or_true, true_or, not_false_eq_true, not_true_eq_false, and_self, and_true, true_and, and_false, false_and, qG, if_true, if_false]
    unfold badS
    rw [if_neg c1]
    cases eh : hitB V (k, a, b, -2)
    · rw [eh] at s2
      rw [b1_F, if_pos rfl, ← r]
      simp (disch := omega) only [P_X7_isRowClean_106, zI_add, zI_sub, zI_mul, zI_neg, zL, zI_le, zI_lt, zI_eq, zI_cl, zA0, zI_if, Int.toNat_natCast, zT_add, zT_mul, Int.reduceToNat, Nat.add_zero, Nat.zero_add, Int.add_zero, Int.zero_add, zc_a, zc_l, Option.bind_some, qc_let, qc_in, qc_bo, ↓reduceIte, zYT, zYF, zYt, zYf, zYe, zYn, nYT, nYF, nYt, nYf, nYe, nYn, or_false, false_or, or_true, true_or, not_false_eq_true, not_true_eq_false, and_self, and_true, true_and, and_false, false_and, qG, if_true, if_false, Int.reduceNeg, s1, s2, bI_0]
    · rw [eh] at s2
      rw [b1_T, if_neg (by decide)]
      simp (disch := omega) only [P_X7_isRowClean_106, zI_add, zI_sub, zI_mul, zI_neg, zL, zI_le, zI_lt, zI_eq, zI_cl, zA0, zI_if, Int.toNat_natCast, zT_add, zT_mul, Int.reduceToNat, Nat.add_zero, Nat.zero_add, Int.add_zero, Int.zero_add, zc_a, zc_l, Option.bind_some, qc_let, qc_in, qc_bo, ↓reduceIte, zYT, zYF, zYt, zYf, zYe, zYn, nYT, nYF, nYt, nYf, nYe, nYn, or_false, false_or, or_true, true_or, not_false_eq_true, not_true_eq_false, and_self, and_true, true_and, and_false, false_and, qG, if_true, if_false, Int.reduceNeg, s1, s2, bI_0, reduceCtorEq]
theorem m_56 {M : Nat → Nat → Int32} {V : sV} (h : RW V) (hus : (v_us V).val ≤ 8) (hp : ∀ i, i < (v_us V).val → 1 ≤ (v_ch V i).val) (hR : ∀ i, i < (v_us V).val → M 23 i = zI (v_ch V i).val) {k3 : Int32 → Int32 → Int32 → Int32 → Int32 → Option (Int32)} {k12 : Int32 → Int32 → Int32 → Int32 → Int32 → Int32 → Option (Int32)} {x4 : Int32} {a b : Nat} (ha : a < (v_us V).val) (hb : b < (v_us V).val) : ∀ (d k f : Nat), k + d = 6 → d < f → P_X7_isRowClean_56 M k3 k12 f (zI (v_us V).val) (zI (v_od V).val) (zI (v_gd V).val) x4 (zI a) (zI b) (zI k) = if sm (badk V a b) d k = 0 then k12 (zI (v_us V).val) (zI (v_od V).val) (zI (v_gd V).val) x4 (zI a) (zI ((b : Int) + 1)) else some (zI 0) := by
  intro d
  induction d with
  | zero =>
    intro k f hk hf
    obtain ⟨g, rfl⟩ : ∃ g, f = g + 1 := ⟨f - 1, by omega⟩
    rw [if_pos (show sm (badk V a b) 0 k = 0 from rfl)]
    simp (disch := omega) only [P_X7_isRowClean_56, P_X7_isRowClean_223, zI_add, zI_sub, zI_mul, zI_neg, zL, zI_le, zI_lt, zI_eq, zI_cl, zA0, zI_if, Int.toNat_natCast, zT_add, zT_mul, Int.reduceToNat, Nat.add_zero, Nat.zero_add, Int.add_zero, Int.zero_add, zc_a, zc_l, Option.bind_some, qc_let, qc_in, qc_bo, ↓reduceIte, zYT, zYF, zYt, zYf, zYe, zYn, nYT, nYF, nYt, nYf, nYe, nYn, or_false, false_or, or_true, true_or, not_false_eq_true, not_true_eq_false, and_self, and_true, true_and, and_false, false_and, qG, if_true, if_false]
  | succ d ih =>
    intro k f hk hf
    obtain ⟨g, rfl⟩ : ∃ g, f = g + 1 := ⟨f - 1, by omega⟩
    have := ih (k + 1) g (by omega) (by omega)
    simp only [zc_a, zc_l] at this
    have e0 : sm (badk V a b) (d + 1) k = badk V a b k + sm (badk V a b) d (k + 1) := rfl
    have b1' := m_bit ⟨k, by omega⟩
    have b2' := m_bit2 (v_od V) ⟨k, by omega⟩
    dsimp only at b1' b2'
    have hv : (if zI (k : Int) = 0 then some (1 : Int32) else if zI (k : Int) = (3 : Int32) then some (1 : Int32) else some (0 : Int32)) = some (bI (decide (k = 0 ∨ k = 3))) := by
      by_cases d1 : k = 0
      · subst d1; rfl
      · by_cases d2 : k = 3
        · subst d2; rfl
        · rw [decide_eq_false (by omega)]
          simp (disch := omega) only [zI_add, zI_sub, zI_mul, zI_neg, zL, zI_le, zI_lt, zI_eq, zI_cl, zA0, zI_if, Int.toNat_natCast, zT_add, zT_mul, Int.reduceToNat, Nat.add_zero, Nat.zero_add, Int.add_zero, Int.zero_add, zc_a, zc_l, Option.bind_some, qc_let, qc_in, qc_bo, ↓reduceIte, zYT, zYF, zYt, zYf, zYe, zYn, nYT, nYF, nYt, nYf, nYe, nYn, or_false, false_or, or_true, true_or, not_false_eq_true, not_true_eq_false, and_self, and_true, true_and, and_false, false_and, qG, if_true, if_false]
          rfl
    have r : P_X7_isRowClean_217 M k3 k12 (P_X7_isRowClean_56 M k3 k12 g) (zI (v_us V).val) (zI (v_od V).val) (zI (v_gd V).val) x4 (zI a) (zI b) (zI k) = P_X7_isRowClean_56 M k3 k12 g (zI (v_us V).val) (zI (v_od V).val) (zI (v_gd V).val) x4 (zI a) (zI b) (zI ((k : Int) + 1)) := by
      simp only [P_X7_isRowClean_217, zI_add, zI_sub, zI_mul, zI_neg, zL, qc_let]
    have r2 := m_106 (k3 := k3) (k12 := k12) (k56 := P_X7_isRowClean_56 M k3 k12 g) (x2 := zI (v_od V).val) (x4 := x4) (k := k) h hus hp hR ha hb (by omega)
    rw [P_X7_isRowClean_56, if_neg (by simp only [zL]; rw [zI_le] <;> omega), hv, Option.bind_some, b1', Option.bind_some, r, r2, this, e0]
    simp only [zL]
    have hb0 : ¬ (wantS V k = true ∧ ¬ ((k = 0 ∨ k = 3) ∧ b < a)) → badk V a b k = 0 := fun z => if_neg z
    have hb1 : (wantS V k = true ∧ ¬ ((k = 0 ∨ k = 3) ∧ b < a)) → badk V a b k = badS V k a b := fun z => if_pos z
    have b3' : decide (zI (v_od V).val &&& zI ((2 ^ (k / 2) : Nat) : Int) = zI 0) = !wantS V k := b2'
    cases ew : wantS V k
    · rw [ew] at b3' hb0
      rw [if_pos (of_decide_eq_true b3'), hb0 (fun z => absurd z.1 (by decide)), Nat.zero_add]
    · rw [ew] at b3' hb0 hb1
      rw [if_neg (of_decide_eq_false b3')]
      by_cases d1 : k = 0 ∨ k = 3
      · rw [decide_eq_true d1, if_neg (show ¬ bI true = zI 0 by decide)]
        by_cases d2 : b < a
        · rw [if_neg (by rw [zI_le] <;> omega), hb0 (fun z => z.2 ⟨d1, d2⟩), Nat.zero_add]
        · rw [if_pos (by rw [zI_le] <;> omega), hb1 ⟨rfl, fun z => d2 z.2⟩]
          by_cases d3 : badS V k a b = 0
          · rw [if_pos d3, d3, Nat.zero_add]
          · rw [if_neg d3, if_neg (by omega)]
      · rw [decide_eq_false d1, if_pos (show bI false = zI 0 from rfl), hb1 ⟨rfl, fun z => d1 z.1⟩]
        by_cases d3 : badS V k a b = 0
        · rw [if_pos d3, d3, Nat.zero_add]
        · rw [if_neg d3, if_neg (by omega)]
theorem m_12 {M : Nat → Nat → Int32} {V : sV} (h : RW V) (hus : (v_us V).val ≤ 8) (hp : ∀ i, i < (v_us V).val → 1 ≤ (v_ch V i).val) (hR : ∀ i, i < (v_us V).val → M 23 i = zI (v_ch V i).val) {k3 : Int32 → Int32 → Int32 → Int32 → Int32 → Option (Int32)} {a : Nat} (ha : a < (v_us V).val) : ∀ (d b f : Nat), b + d = (v_us V).val → d < f → P_X7_isRowClean_12 M k3 f (zI (v_us V).val) (zI (v_od V).val) (zI (v_gd V).val) (zI (v_sp V).val) (zI a) (zI b) = if sm (bad2 V a) d b = 0 then k3 (zI (v_us V).val) (zI (v_od V).val) (zI (v_gd V).val) (zI (v_sp V).val) (zI ((a : Int) + 1)) else some (zI 0) := by
  intro d
  induction d with
  | zero =>
    intro b f hb hf
    obtain ⟨g, rfl⟩ : ∃ g, f = g + 1 := ⟨f - 1, by omega⟩
    rw [if_pos (show sm (bad2 V a) 0 b = 0 from rfl)]
    simp (disch := omega) only [P_X7_isRowClean_12, zI_add, zI_sub, zI_mul, zI_neg, zL, zI_le, zI_lt, zI_eq, zI_cl, zA0, zI_if, Int.toNat_natCast, zT_add, zT_mul, Int.reduceToNat, Nat.add_zero, Nat.zero_add, Int.add_zero, Int.zero_add, zc_a, zc_l, Option.bind_some, qc_let, qc_in, qc_bo, ↓reduceIte, zYT, zYF, zYt, zYf, zYe, zYn, nYT, nYF, nYt, nYf, nYe, nYn, or_false, false_or, or_true, true_or, not_false_eq_true, not_true_eq_false, and_self, and_true, true_and, and_false, false_and, qG, if_true, if_false]
  | succ d ih =>
    intro b f hb hf
    obtain ⟨g, rfl⟩ : ∃ g, f = g + 1 := ⟨f - 1, by omega⟩
    have := ih (b + 1) g (by omega) (by omega)
    simp only [zc_a, zc_l] at this
    have e0 : sm (bad2 V a) (d + 1) b = bad2 V a b + sm (bad2 V a) d (b + 1) := rfl
    by_cases c1 : a = b
    · rw [e0, show bad2 V a b = 0 from if_pos c1, Nat.zero_add, ← this]
      simp (disch := omega) only [P_X7_isRowClean_12, P_X7_isRowClean_223, zI_add, zI_sub, zI_mul, zI_neg, zL, zI_le, zI_lt, zI_eq, zI_cl, zA0, zI_if, Int.toNat_natCast, zT_add, zT_mul, Int.reduceToNat, Nat.add_zero, Nat.zero_add, Int.add_zero, Int.zero_add, zc_a, zc_l, Option.bind_some, qc_let, qc_in, qc_bo, ↓reduceIte, zYT, zYF, zYt, zYf, zYe, zYn, nYT, nYF, nYt, nYf, nYe, nYn, or_false, false_or, or_true, true_or, not_false_eq_true, not_true_eq_false, and_self, and_true, true_and, and_false, false_and, qG, if_true, if_false]
    · have r := m_56 (k3 := k3) (k12 := P_X7_isRowClean_12 M k3 g) (x4 := zI (v_sp V).val) (a := a) (b := b) h hus hp hR ha (by omega) 6 0 qc_fu (by omega) (by unfold qc_fu; omega)
      rw [this] at r
      have r' : P_X7_isRowClean_56 M k3 (P_X7_isRowClean_12 M k3 g) qc_fu (zI (v_us V).val) (zI (v_od V).val) (zI (v_gd V).val) (zI (v_sp V).val) (zI a) (zI b) (zI 0) = _ := r
      rw [e0, show bad2 V a b = b1 (decide (dist (v_ch V a).val (v_ch V b).val < (v_sp V).val)) + sm (badk V a b) 6 0 from if_neg c1]
      have hwo : P_X7_without (M 23 a - M 23 b) = some (zI (dist (v_ch V a).val (v_ch V b).val : Nat)) := by
        rw [hR a ha, hR b (by omega), zI_sub, m_without (by omega) (by omega)]
        refine congrArg some (congrArg zI ?_)
        unfold dist
        split <;> split <;> omega
      have hdb : dist (v_ch V a).val (v_ch V b).val ≤ 60 := by unfold dist; split <;> omega
      have ia : qc_in (zI (a : Int)) 8 := by simp (disch := omega) only [zI_add, zI_sub, zI_mul, zI_neg, zL, zI_le, zI_lt, zI_eq, zI_cl, zA0, zI_if, Int.toNat_natCast, zT_add, zT_mul, Int.reduceToNat, Nat.add_zero, Nat.zero_add, Int.add_zero, Int.zero_add, zc_a, zc_l, Option.bind_some, qc_let, qc_in, qc_bo, iteT, iteF, and_self, if_true, if_false, qG]; omega
      have ra : (zI (a : Int)).toNatClampNeg = a := by rw [zI_cl (by omega) (by omega)]; omega
      have ib : qc_in (zI (b : Int)) 8 := by simp (disch := omega) only [zI_add, zI_sub, zI_mul, zI_neg, zL, zI_le, zI_lt, zI_eq, zI_cl, zA0, zI_if, Int.toNat_natCast, zT_add, zT_mul, Int.reduceToNat, Nat.add_zero, Nat.zero_add, Int.add_zero, Int.zero_add, zc_a, zc_l, Option.bind_some, qc_let, qc_in, qc_bo, iteT, iteF, and_self, if_true, if_false, qG]; omega
      have rb : (zI (b : Int)).toNatClampNeg = b := by rw [zI_cl (by omega) (by omega)]; omega
      rw [P_X7_isRowClean_12, if_neg (by rw [zI_le] <;> omega), if_neg (by rw [zI_eq] <;> omega), if_pos ia, if_pos ib, ra, rb, hwo, Option.bind_some]
      simp only [zL]
      by_cases c2 : dist (v_ch V a).val (v_ch V b).val < (v_sp V).val
      · rw [decide_eq_true c2, b1_T, if_neg (by rw [zI_le] <;> omega), if_neg (by omega)]
      · rw [decide_eq_false c2, b1_F, if_pos (by rw [zI_le] <;> omega), Nat.zero_add, r']
        by_cases c3 : sm (badk V a b) 6 0 = 0
        · rw [if_pos c3, c3, Nat.zero_add]
        · rw [if_neg c3, if_neg (by omega)]
theorem m_3 {M : Nat → Nat → Int32} {V : sV} (h : RW V) (hus : (v_us V).val ≤ 8) (hp : ∀ i, i < (v_us V).val → 1 ≤ (v_ch V i).val) (hR : ∀ i, i < (v_us V).val → M 23 i = zI (v_ch V i).val) : ∀ (d a f : Nat), a + d = (v_us V).val → d < f → P_X7_isRowClean_3 M f (zI (v_us V).val) (zI (v_od V).val) (zI (v_gd V).val) (zI (v_sp V).val) (zI a) = some (bI (decide (sm (badA V) d a = 0))) := by
  intro d
  induction d with
  | zero =>
    intro a f ha hf
    obtain ⟨g, rfl⟩ : ∃ g, f = g + 1 := ⟨f - 1, by omega⟩
    simp (disch := omega) only [P_X7_isRowClean_3, zI_add, zI_sub, zI_mul, zI_neg, zL, zI_le, zI_lt, zI_eq, zI_cl, zA0, zI_if, Int.toNat_natCast, zT_add, zT_mul, Int.reduceToNat, Nat.add_zero, Nat.zero_add, Int.add_zero, Int.zero_add, zc_a, zc_l, Option.bind_some, qc_let, qc_in, qc_bo, ↓reduceIte, zYT, zYF, zYt, zYf, zYe, zYn, nYT, nYF, nYt, nYf, nYe, nYn, or_false, false_or, or_true, true_or, not_false_eq_true, not_true_eq_false, and_self, and_true, true_and, and_false, false_and, qG, if_true, if_false]
    rfl
  | succ d ih =>
    intro a f ha hf
    obtain ⟨g, rfl⟩ : ∃ g, f = g + 1 := ⟨f - 1, by omega⟩
    have := ih (a + 1) g (by omega) (by omega)
    simp only [zc_a, zc_l] at this
    have r := m_12 (k3 := P_X7_isRowClean_3 M g) (a := a) h hus hp hR (by omega) (v_us V).val 0 qc_fu (by omega) (by unfold qc_fu; omega)
    rw [this] at r
    have r' : P_X7_isRowClean_12 M (P_X7_isRowClean_3 M g) qc_fu (zI (v_us V).val) (zI (v_od V).val) (zI (v_gd V).val) (zI (v_sp V).val) (zI a) (zI 0) = _ := r
    have e0 : sm (badA V) (d + 1) a = sm (bad2 V a) (v_us V).val 0 + sm (badA V) d (a + 1) := rfl
    rw [P_X7_isRowClean_3, if_neg (by rw [zI_le] <;> omega)]
    simp only [zL]
    rw [r', e0]
    by_cases c : sm (bad2 V a) (v_us V).val 0 = 0
    · rw [if_pos c, c, Nat.zero_add]
    · rw [if_neg c, decide_eq_false (by omega)]
      rfl
theorem m_rowClean {M : Nat → Nat → Int32} {V : sV} (h : RW V) (hus : (v_us V).val ≤ 8) (hp : ∀ i, i < (v_us V).val → 1 ≤ (v_ch V i).val) (hR : ∀ i, i < (v_us V).val → M 23 i = zI (v_ch V i).val) : P_X7_isRowClean M (zI (v_us V).val) (zI (v_od V).val) (zI (v_gd V).val) (zI (v_sp V).val) = some (bI (decide (sm (badA V) (v_us V).val 0 = 0))) := by
  have r := m_3 h hus hp hR (v_us V).val 0 qc_fu (by omega) (by unfold qc_fu; omega)
  exact r
/-! what is clean, and what is wrong in a ROW -/
theorem ck_in {V : sV} {s j : Nat} {q : Qd} (hq : q ∈ cand0 V s j) : ∀ d k, k ≤ j → j < k + d → q ∈ candK V s d k := by
  intro d
  induction d with
  | zero => intro k h1 h2; omega
  | succ d ih =>
    intro k h1 h2
    have e : candK V s (d + 1) k = cand0 V s k ++ candK V s d (k + 1) := rfl
    rw [e, List.mem_append]
    by_cases c : k = j
    · subst c
      exact Or.inl hq
    · exact Or.inr (ih (k + 1) (by omega) (by omega))
theorem ck_out {V : sV} {s : Nat} {q : Qd} : ∀ d k, q ∈ candK V s d k → ∃ j, k ≤ j ∧ j < k + d ∧ q ∈ cand0 V s j := by
  intro d
  induction d with
  | zero => intro k h; cases h
  | succ d ih =>
    intro k h
    have e : candK V s (d + 1) k = cand0 V s k ++ candK V s d (k + 1) := rfl
    rw [e, List.mem_append] at h
    rcases h with h | h
    · exact ⟨k, by omega, by omega, h⟩
    · obtain ⟨j, j1, j2, j3⟩ := ih (k + 1) h
      exact ⟨j, by omega, by omega, j3⟩
theorem ct_out {V : sV} {q : Qd} : ∀ d s, q ∈ candT V d s → ∃ s', q ∈ candK V s' 6 0 := by
  intro d
  induction d with
  | zero => intro s h; cases h
  | succ d ih =>
    intro s h
    have e : candT V (d + 1) s = candK V s 6 0 ++ candT V d (s + 1) := rfl
    rw [e, List.mem_append] at h
    rcases h with h | h
    · exact ⟨s, h⟩
    · exact ih (s + 1) h
theorem c0_out {V : sV} {s k : Nat} {q : Qd} (h : q ∈ cand0 V s k) : wantS V k = true ∧ ∃ a b, a ∈ crew V s ∧ b ∈ crew V s ∧ a ≠ b ∧ ¬ ((k = 0 ∨ k = 3) ∧ b < a) ∧ q ∈ cand3 (crew V s) k a b := by
  unfold cand0 at h
  split at h
  · rename_i hw
    unfold cand1 cand2 at h
    rw [List.mem_flatMap] at h
    obtain ⟨a, ha, h⟩ := h
    rw [List.mem_flatMap] at h
    obtain ⟨b, hb, h⟩ := h
    split at h
    · rename_i c
      exact ⟨hw, a, b, ha, hb, c.1, c.2, h⟩
    · cases h
  · cases h
theorem c0_in {V : sV} {s k a b : Nat} {q : Qd} (hw : wantS V k = true) (ha : a ∈ crew V s) (hb : b ∈ crew V s) (hab : a ≠ b) (ho : ¬ ((k = 0 ∨ k = 3) ∧ b < a)) (h : q ∈ cand3 (crew V s) k a b) : q ∈ cand0 V s k := by
  unfold cand0
  rw [if_pos hw]
  unfold cand1 cand2
  rw [List.mem_flatMap]
  refine ⟨a, ha, ?_⟩
  rw [List.mem_flatMap]
  refine ⟨b, hb, ?_⟩
  rw [if_pos ⟨hab, ho⟩]
  exact h
theorem crew_us {V : sV} {s x : Nat} (h : x ∈ crew V s) : x < (v_us V).val := by
  have := cf_mem _ _ _ h
  omega
theorem row_crew {V : sV} (h : RW V) (hp : ∀ i, i < (v_us V).val → 1 ≤ (v_ch V i).val) {x : Nat} (hx : x < (v_us V).val) : x ∈ crew V 0 := by
  have := hp x hx
  exact cf_in _ _ _ (by omega) (by omega) (decide_eq_true ⟨h.2.1 x, by omega⟩)
theorem hitB_0 {V : sV} {q : Qd} (h : strN V (prods V) = 0) (hq : q ∈ candT V 3 0) : hitB V q = false := by
  unfold hitB
  cases e : isP V q
  · rfl
  · have := strN_in (V := V) (q := q) (prods V) (List.mem_filter.2 ⟨hq, e⟩)
    rw [decide_eq_true (show hitsN V q = 0 by omega)]
    rfl
theorem row_clean {V : sV} (h : RW V) (hp : ∀ i, i < (v_us V).val → 1 ≤ (v_ch V i).val) : cleanS V = decide (sm (badA V) (v_us V).val 0 = 0) := by
  have hw : wrongN V (v_us V).val 0 = 0 := by
    unfold wrongN
    rw [sm_0]
    intro i _ hi
    have h1 := hp i (by omega)
    have e : rightS V i = true := decide_eq_true ⟨by rw [h.2.2.1]; omega, by rw [h.2.2.2.1]; omega, h.2.2.2.2.2.2.2 _⟩
    rw [e, Bool.not_true, Bool.and_false]
    rfl
  unfold cleanS
  rw [decide_eq_true hw, Bool.true_and, Bool.eq_iff_iff]
  simp only [Bool.and_eq_true, decide_eq_true_eq]
  have hcr : ∀ a b, a < (v_us V).val → b < (v_us V).val → a ≠ b → (crowdS V a b = true ↔ dist (v_ch V a).val (v_ch V b).val < (v_sp V).val) := by
    intro a b ha hb hab
    have pa := hp a ha
    have pb := hp b hb
    unfold crowdS
    rw [decide_eq_true_eq, h.2.2.2.2.2.1, h.2.2.2.2.2.1, h.2.1, h.2.1]
    exact ⟨fun z => z.2.2.2.2.2, fun z => ⟨hab, rfl, by omega, by omega, by decide, z⟩⟩
  constructor
  · intro ⟨hc, hs⟩
    rw [sm_0]
    intro a _ ha
    unfold badA
    rw [sm_0]
    intro b _ hb
    unfold bad2
    by_cases hab : a = b
    · rw [if_pos hab]
    · rw [if_neg hab]
      have hd : ¬ dist (v_ch V a).val (v_ch V b).val < (v_sp V).val := by
        intro hd
        have h1 := (hcr a b (by omega) (by omega) hab).2 hd
        unfold couples at hc
        rw [sm_0] at hc
        by_cases lt : a < b
        · have := hc a (by omega) (by omega)
          rw [sm_0] at this
          have := this b (by omega) (by omega)
          rw [h1] at this
          exact absurd this (by decide)
        · have := hc b (by omega) (by omega)
          rw [sm_0] at this
          have := this a (by omega) (by omega)
          rw [crowdS_sym, h1] at this
          exact absurd this (by decide)
      rw [decide_eq_false hd, b1_F, Nat.zero_add, sm_0]
      intro k _ hk
      unfold badk
      by_cases c1 : wantS V k = true ∧ ¬ ((k = 0 ∨ k = 3) ∧ b < a)
      · rw [if_pos c1]
        have inT : ∀ q, q ∈ cand3 (crew V 0) k a b → hitB V q = false := by
          intro q hq
          refine hitB_0 hs ?_
          have e : candT V 3 0 = candK V 0 6 0 ++ candT V 2 1 := rfl
          rw [e, List.mem_append]
          exact Or.inl (ck_in (c0_in c1.1 (row_crew h hp (by omega)) (row_crew h hp (by omega)) hab c1.2 hq) 6 0 (by omega) (by omega))
        unfold badS
        by_cases c2 : k = 3 ∨ k = 5
        · rw [if_pos c2]
          unfold bad3
          rw [sm_0]
          intro c _ hc'
          by_cases c3 : c ≠ a ∧ c ≠ b
          · rw [decide_eq_true c3, Bool.true_and, inT (k, a, b, (c : Int)) (by
              unfold cand3
              rw [if_pos c2]
              exact List.mem_map.2 ⟨c, List.mem_filter.2 ⟨row_crew h hp (by omega), decide_eq_true c3⟩, rfl⟩)]
            rfl
          · rw [decide_eq_false c3, Bool.false_and]
            rfl
        · rw [if_neg c2, inT (k, a, b, -2) (by
            unfold cand3
            rw [if_neg c2]
            exact List.mem_singleton.2 rfl)]
          rfl
      · rw [if_neg c1]
  · intro hz
    rw [sm_0] at hz
    have hab2 : ∀ a b, a < (v_us V).val → b < (v_us V).val → a ≠ b → ¬ dist (v_ch V a).val (v_ch V b).val < (v_sp V).val ∧ ∀ k, k < 6 → badk V a b k = 0 := by
      intro a b ha hb hab
      have h1 := hz a (by omega) (by omega)
      unfold badA at h1
      rw [sm_0] at h1
      have h2 := h1 b (by omega) (by omega)
      unfold bad2 at h2
      rw [if_neg hab] at h2
      constructor
      · intro hd
        rw [decide_eq_true hd, b1_T] at h2
        omega
      · intro k hk
        have h3 : sm (badk V a b) 6 0 = 0 := by omega
        rw [sm_0] at h3
        exact h3 k (by omega) (by omega)
    constructor
    · unfold couples
      rw [sm_0]
      intro a _ ha
      rw [sm_0]
      intro b hb1 hb2
      have h1 := (hab2 a b (by omega) (by omega) (by omega)).1
      cases e : crowdS V a b
      · rfl
      · exact absurd ((hcr a b (by omega) (by omega) (by omega)).1 e) h1
    · by_cases hs : strN V (prods V) = 0
      · exact hs
      · exfalso
        obtain ⟨q, q1, q2⟩ := strN_ex (prods V) hs
        have q1' := List.mem_filter.1 q1
        obtain ⟨s, q3⟩ := ct_out 3 0 q1'.1
        obtain ⟨k, k1, k2, q4⟩ := ck_out 6 0 q3
        obtain ⟨hw', a, b, ha, hb, hab, ho, q5⟩ := c0_out q4
        have hbk := (hab2 a b (crew_us ha) (crew_us hb) hab).2 k (by omega)
        unfold badk at hbk
        rw [if_pos ⟨hw', ho⟩] at hbk
        have hit : hitB V q = true := by
          unfold hitB
          rw [q1'.2, decide_eq_false q2]
          rfl
        unfold cand3 at q5
        unfold badS at hbk
        split at q5
        · rename_i c2
          rw [if_pos c2] at hbk
          rw [List.mem_map] at q5
          obtain ⟨c, hc, e⟩ := q5
          rw [List.mem_filter] at hc
          unfold bad3 at hbk
          rw [sm_0] at hbk
          have := hbk c (by omega) (by have := crew_us hc.1; omega)
          have hd : decide (c ≠ a ∧ c ≠ b) = true := hc.2
          rw [hd, Bool.true_and, e, hit] at this
          exact absurd this (by decide)
        · rename_i c2
          rw [if_neg c2] at hbk
          rw [List.mem_singleton] at q5
          rw [← q5, hit] at hbk
          exact absurd hbk (by decide)
