/-! clearance -/
def farS (V : sV) (q : Qd) (u : Nat) : Nat := (((v_ch V u).val : Int) - chanS V q).natAbs
def clrStep (V : sV) (L : List Qd) (u i : Nat) (b : Int) : Int := if mayS V (L.getD i dq) u = true then (if b < 0 ∨ (farS V (L.getD i dq) u : Int) < b then (farS V (L.getD i dq) u : Int) else b) else b
theorem farS_b {V : sV} {q : Qd} {n u : Nat} (h : gdQ n q) : farS V q u ≤ 1100 := by
  have := chan_b (V := V) h
  unfold farS
  omega
theorem x_mayQ {I : Nat → Nat → Int32} {J : Nat → Nat → Int64} {p : Nat} {V : sV} (h : SX I J p V) {L : List Qd} (hL : XL I V L) (hlen : L.length ≤ 700) {i u : Nat} (hi : i < L.length) (hu : u < (v_us V).val) : P_X2_mayStrike I p (zI i) (zI u) = some (bI (mayS V (L.getD i dq) u)) := by
  obtain ⟨hq, h24, h25, h26, h27, h28, h29, h30, h31⟩ := hL.2.2 i hi
  rw [gD hi]
  exact x_may h (by omega) hu hq h25 h26 h27 h29 h31
theorem x_clear {I : Nat → Nat → Int32} {J : Nat → Nat → Int64} {p : Nat} {V : sV} (h : SX I J p V) {L : List Qd} (hL : XL I V L) (hlen : L.length ≤ 700) {u : Nat} (hu : u < (v_us V).val) : P_X2_nearestDistance I p (zI u) = some (zI (it (clrStep V L u) L.length 0 (-2))) := by
  have hch := h.2.2.2.2.2.2.2.2.1
  unfold P_X2_nearestDistance
  simp only [zI_add, zI_sub, zI_mul, zI_neg, zL]
  refine (it_runI (fun f k (s : Int) => P_X2_nearestDistance_6 I p f (zI u) (zI s) (zI k)) (clrStep V L u) (fun s => some (zI s)) L.length (fun k s => -2 ≤ s ∧ s ≤ 1100) ?_ ?_ L.length 0 qc_fu (-2) (by omega) (by unfold qc_fu; omega) (by omega)).1
  · intro f i s hi hs
    obtain ⟨hq, h24, h25, h26, h27, h28, h29, h30, h31⟩ := hL.2.2 i hi
    have hcb := chan_b (V := V) hq
    have hfb := farS_b (V := V) (u := u) hq
    have hmay := x_mayQ h hL hlen hi hu
    rw [gD hi] at hmay
    have ef : (if 0 ≤ chanS V L[i] - ((v_ch V u).val : Int) then chanS V L[i] - ((v_ch V u).val : Int) else 0 - (chanS V L[i] - ((v_ch V u).val : Int))) = (farS V L[i] u : Nat) := by
      unfold farS
      split <;> omega
    have e0 : P_X2_nearestDistance_6 I p (f + 1) (zI u) (zI s) (zI i) = if mayS V L[i] u = true then (if s < 0 ∨ (farS V L[i] u : Int) < s then P_X2_nearestDistance_6 I p f (zI u) (zI (farS V L[i] u : Nat)) (zI ((i + 1 : Nat) : Int)) else P_X2_nearestDistance_6 I p f (zI u) (zI s) (zI ((i + 1 : Nat) : Int))) else P_X2_nearestDistance_6 I p f (zI u) (zI s) (zI ((i + 1 : Nat) : Int)) := by
      cases em : mayS V L[i] u
      · rw [em] at hmay
        rw [if_neg (by decide)]
        simp (disch := omega) only [P_X2_nearestDistance_6, P_X2_nearestDistance_60, zI_add, zI_sub, zI_mul, zI_neg, zL, zI_le, zI_lt, zI_eq, zI_cl, zA0, zI_if, Int.toNat_natCast, zT_add, zT_mul, Int.reduceToNat, Nat.add_zero, Nat.zero_add, Int.add_zero, Int.zero_add, zc_a, zc_l, Option.bind_some, qc_let, qc_in, qc_bo, ↓reduceIte, zYT, zYF, zYt, zYf, zYe, zYn, nYT, nYF, nYt, nYf, nYe, nYn, or_false, false_or, or_true, true_or, not_false_eq_true, not_true_eq_false, and_self, and_true, true_and, and_false, false_and, qG, if_true, if_false, hL.1, hmay, bI_F]
      · rw [em] at hmay
        rw [if_pos rfl]
        by_cases c1 : s < 0
        · rw [if_pos (Or.inl c1)]
          simp (disch := omega) only [P_X2_nearestDistance_6, P_X2_nearestDistance_60, P_X2_nearestDistance_57, zI_add, zI_sub, zI_mul, zI_neg, zL, zI_cl, Int.toNat_natCast, zc_a, zc_l, qc_let, qc_in, Option.bind_some, hL.1, hmay, bI_T, hch, h28, zI_lt, zI_le, zI_eq, iteT, iteF, zI_if, ef]
        · by_cases c2 : (farS V L[i] u : Int) < s
          · rw [if_pos (Or.inr c2)]
            simp (disch := omega) only [P_X2_nearestDistance_6, P_X2_nearestDistance_60, P_X2_nearestDistance_57, zI_add, zI_sub, zI_mul, zI_neg, zL, zI_cl, Int.toNat_natCast, zc_a, zc_l, qc_let, qc_in, Option.bind_some, hL.1, hmay, bI_T, hch, h28, zI_lt, zI_le, zI_eq, iteT, iteF, zI_if, ef]
          · rw [if_neg (by omega)]
            simp (disch := omega) only [P_X2_nearestDistance_6, P_X2_nearestDistance_60, P_X2_nearestDistance_57, zI_add, zI_sub, zI_mul, zI_neg, zL, zI_cl, Int.toNat_natCast, zc_a, zc_l, qc_let, qc_in, Option.bind_some, hL.1, hmay, bI_T, hch, h28, zI_lt, zI_le, zI_eq, iteT, iteF, zI_if, ef]
    constructor
    · show P_X2_nearestDistance_6 I p (f + 1) (zI u) (zI s) (zI i) = P_X2_nearestDistance_6 I p f (zI u) (zI (clrStep V L u i s)) (zI ((i + 1 : Nat) : Int))
      rw [e0]
      unfold clrStep
      rw [gD hi]
      split
      · split <;> rfl
      · rfl
    · unfold clrStep
      rw [gD hi]
      split
      · split
        · omega
        · exact hs
      · exact hs
  · intro f s hs
    have c : zI (L.length : Int) ≤ zI (L.length : Int) := by rw [zI_le] <;> omega
    show P_X2_nearestDistance_6 I p (f + 1) (zI u) (zI s) (zI (L.length : Int)) = _
    rw [P_X2_nearestDistance_6, hL.1, if_pos c]
theorem m_clear {M : Nat → Nat → Int32} {V : sV} (h : MX M V) {L : List Qd} (hL : ML M V L) (hlen : L.length ≤ 300) {u : Nat} (hu : u < (v_us V).val) : P_X7_clearance_24 qc_fu M (zI u) (zI (-2)) (zI 0) = some (zI (it (clrStep V L u) L.length 0 (-2)), M) := by
  have hch := h.2.2.2.2.2.2.2.2.1
  have h6 : (v_us V).val ≤ 6 := h.2.2.2.2.2.2.2.2.2.2.2.2.2.2.1
  refine (it_runI (fun f k (s : Int) => P_X7_clearance_24 f M (zI u) (zI s) (zI k)) (clrStep V L u) (fun s => some (zI s, M)) L.length (fun k s => s = -2 ∨ (0 ≤ s ∧ s ≤ 1100)) ?_ ?_ L.length 0 qc_fu (-2) (by omega) (by unfold qc_fu; omega) (Or.inl rfl)).1
  · intro f i s hi hs
    obtain ⟨hq, h16, h17, h18, h19, h20, h21, h22⟩ := hL.2 i hi
    have hcb := chan_b (V := V) hq
    have hfb := farS_b (V := V) (u := u) hq
    have hmay := m_may h hL hlen hi hu
    have ef : P_X7_without (zI (((v_ch V u).val : Int) - chanS V L[i])) = some (zI (farS V L[i] u : Nat)) := by
      rw [m_without (by omega) (by omega)]
      unfold farS
      congr 2
      split <;> omega
    have e0 : P_X7_clearance_24 (f + 1) M (zI u) (zI s) (zI i) = if mayS V L[i] u = true then (if s < 0 ∨ (farS V L[i] u : Int) < s then P_X7_clearance_24 f M (zI u) (zI (farS V L[i] u : Nat)) (zI ((i + 1 : Nat) : Int)) else P_X7_clearance_24 f M (zI u) (zI s) (zI ((i + 1 : Nat) : Int))) else P_X7_clearance_24 f M (zI u) (zI s) (zI ((i + 1 : Nat) : Int)) := by
      cases em : mayS V L[i] u
      · rw [em] at hmay
        rw [if_neg (by decide)]
        simp (disch := omega) only [P_X7_clearance_24, P_X7_clearance_83, zI_add, zI_sub, zI_mul, zI_neg, zL, zI_le, zI_lt, zI_eq, zI_cl, zA0, zI_if, Int.toNat_natCast, zT_add, zT_mul, Int.reduceToNat, Nat.add_zero, Nat.zero_add, Int.add_zero, Int.zero_add, zc_a, zc_l, Option.bind_some, qc_let, qc_in, qc_bo, ↓reduceIte, zYT, zYF, zYt, zYf, zYe, zYn, nYT, nYF, nYt, nYf, nYe, nYn, or_false, false_or, or_true, true_or, not_false_eq_true, not_true_eq_false, and_self, and_true, true_and, and_false, false_and, qG, if_true, if_false, hL.1, hmay, bI_F]
      · rw [em] at hmay
        rw [if_pos rfl]
        by_cases c1 : s < 0
        · rw [if_pos (Or.inl c1)]
          have c1' : s = -2 := by omega
          simp (disch := omega) only [P_X7_clearance_24, P_X7_clearance_83, zI_add, zI_sub, zI_mul, zI_neg, zL, zI_le, zI_lt, zI_eq, zI_cl, zA0, zI_if, Int.toNat_natCast, zT_add, zT_mul, Int.reduceToNat, Nat.add_zero, Nat.zero_add, Int.add_zero, Int.zero_add, zc_a, zc_l, Option.bind_some, qc_let, qc_in, qc_bo, ↓reduceIte, zYT, zYF, zYt, zYf, zYe, zYn, nYT, nYF, nYt, nYf, nYe, nYn, or_false, false_or, or_true, true_or, not_false_eq_true, not_true_eq_false, and_self, and_true, true_and, and_false, false_and, qG, if_true, if_false, hL.1, hmay, bI_T, hch, h20, ef]
        · by_cases c2 : (farS V L[i] u : Int) < s
          · rw [if_pos (Or.inr c2)]
            simp (disch := omega) only [P_X7_clearance_24, P_X7_clearance_83, zI_add, zI_sub, zI_mul, zI_neg, zL, zI_le, zI_lt, zI_eq, zI_cl, zA0, zI_if, Int.toNat_natCast, zT_add, zT_mul, Int.reduceToNat, Nat.add_zero, Nat.zero_add, Int.add_zero, Int.zero_add, zc_a, zc_l, Option.bind_some, qc_let, qc_in, qc_bo, ↓reduceIte, zYT, zYF, zYt, zYf, zYe, zYn, nYT, nYF, nYt, nYf, nYe, nYn, or_false, false_or, or_true, true_or, not_false_eq_true, not_true_eq_false, and_self, and_true, true_and, and_false, false_and, qG, if_true, if_false, hL.1, hmay, bI_T, hch, h20, ef]
          · rw [if_neg (by omega)]
            simp (disch := omega) only [P_X7_clearance_24, P_X7_clearance_83, zI_add, zI_sub, zI_mul, zI_neg, zL, zI_le, zI_lt, zI_eq, zI_cl, zA0, zI_if, Int.toNat_natCast, zT_add, zT_mul, Int.reduceToNat, Nat.add_zero, Nat.zero_add, Int.add_zero, Int.zero_add, zc_a, zc_l, Option.bind_some, qc_let, qc_in, qc_bo, ↓reduceIte, zYT, zYF, zYt, zYf, zYe, zYn, nYT, nYF, nYt, nYf, nYe, nYn, or_false, false_or, or_true, true_or, not_false_eq_true, not_true_eq_false, and_self, and_true, true_and, and_false, false_and, qG, if_true, if_false, hL.1, hmay, bI_T, hch, h20, ef]
    constructor
    · show P_X7_clearance_24 (f + 1) M (zI u) (zI s) (zI i) = P_X7_clearance_24 f M (zI u) (zI (clrStep V L u i s)) (zI ((i + 1 : Nat) : Int))
      rw [e0]
      unfold clrStep
      rw [gD hi]
      split
      · split <;> rfl
      · rfl
    · unfold clrStep
      rw [gD hi]
      split
      · split
        · omega
        · exact hs
      · exact hs
  · intro f s hs
    have c : zI (L.length : Int) ≤ zI (L.length : Int) := by rw [zI_le] <;> omega
    show P_X7_clearance_24 (f + 1) M (zI u) (zI s) (zI (L.length : Int)) = _
    rw [P_X7_clearance_24, hL.1, if_pos c]
theorem st_34 : St_34 Rel := by
  intro I J w M a ⟨V, n, h0⟩
  have h := RelV_0 h0 (zI 0)
  obtain ⟨I', J', M', k1, k2, k3, k4, k5, k6⟩ := both_fill h
  unfold P_X6_clearance P_X7_clearance
  simp only [zI_add, zI_sub, zI_mul, zI_neg, zL, qc_let]
  rcases user_cases h.1 h.2.1 a with ⟨e1, e2⟩ | ⟨u, hu, rfl, e1, e2⟩
  · rw [e1, e2]
    exact ⟨_, _, rfl, rfl, rfl, V, n, h⟩
  · rw [e1, e2, k1, k2]
    simp (disch := omega) only [Option.bind_some, zI_eq, iteF]
    rw [x_clear k5.1 k3 (by omega) hu, m_clear k5.2.1 k4 (by omega) hu]
    exact ⟨_, _, rfl, rfl, rfl, V, n, k5⟩
/-! rank -/
def aheadS (V : sV) (L : List Qd) (u o : Nat) : Nat := b1 (decide (madeS V L u < madeS V L o ∨ (madeS V L o = madeS V L u ∧ o < u)))
theorem x_ahead {I : Nat → Nat → Int32} {V : sV} {L : List Qd} (hL : XL I V L) (hlen : L.length ≤ 700) {u : Nat} (hu : u < 8) : P_X2_makersAhead I (zI u) (zI ((v_us V).val : Int)) = some (zI (sm (aheadS V L u) (v_us V).val 0 : Nat)) := by
  unfold P_X2_makersAhead
  simp only [zL]
  rw [x_made hL hlen hu, Option.bind_some]
  refine (it_run (fun f k a => P_X2_makersAhead_12 I f (zI u) (zI ((v_us V).val : Int)) (zI (madeS V L u : Nat)) a (zI k)) (fun o a => a + zI ((aheadS V L u o : Nat) : Int)) some (v_us V).val ?_ ?_ (v_us V).val 0 qc_fu (zI 0) (by omega) (by unfold qc_fu; omega)).trans ?_
  · intro f o a ho
    have b1' := madeS_b V L u
    have b2 := madeS_b V L o
    have e0 : a + zI ((0 : Nat) : Int) = a := by
      show a + 0 = a
      exact Int32.add_zero a
    unfold aheadS
    by_cases c1 : madeS V L u < madeS V L o
    · rw [decide_eq_true (Or.inl c1), b1_T]
      simp (disch := omega) only [P_X2_makersAhead_12, P_X2_makersAhead_44, P_X2_makersAhead_47, zI_add, zI_sub, zI_mul, zI_neg, zL, zI_le, zI_lt, zI_eq, zI_cl, zA0, zI_if, Int.toNat_natCast, zT_add, zT_mul, Int.reduceToNat, Nat.add_zero, Nat.zero_add, Int.add_zero, Int.zero_add, zc_a, zc_l, Option.bind_some, qc_let, qc_in, qc_bo, ↓reduceIte, zYT, zYF, zYt, zYf, zYe, zYn, nYT, nYF, nYt, nYf, nYe, nYn, or_false, false_or, or_true, true_or, not_false_eq_true, not_true_eq_false, and_self, and_true, true_and, and_false, false_and, qG, if_true, if_false, x_made hL hlen (show o < 8 by omega)]
    · by_cases c2 : madeS V L o = madeS V L u
      · by_cases c3 : o < u
        · rw [decide_eq_true (Or.inr ⟨c2, c3⟩), b1_T]
          simp (disch := omega) only [P_X2_makersAhead_12, P_X2_makersAhead_44, P_X2_makersAhead_47, zI_add, zI_sub, zI_mul, zI_neg, zL, zI_le, zI_lt, zI_eq, zI_cl, zA0, zI_if, Int.toNat_natCast, zT_add, zT_mul, Int.reduceToNat, Nat.add_zero, Nat.zero_add, Int.add_zero, Int.zero_add, zc_a, zc_l, Option.bind_some, qc_let, qc_in, qc_bo, ↓reduceIte, zYT, zYF, zYt, zYf, zYe, zYn, nYT, nYF, nYt, nYf, nYe, nYn, or_false, false_or, or_true, true_or, not_false_eq_true, not_true_eq_false, and_self, and_true, true_and, and_false, false_and, qG, if_true, if_false, x_made hL hlen (show o < 8 by omega)]
        · rw [decide_eq_false (by omega), b1_F, e0]
          simp (disch := omega) only [P_X2_makersAhead_12, P_X2_makersAhead_44, P_X2_makersAhead_47, zI_add, zI_sub, zI_mul, zI_neg, zL, zI_le, zI_lt, zI_eq, zI_cl, zA0, zI_if, Int.toNat_natCast, zT_add, zT_mul, Int.reduceToNat, Nat.add_zero, Nat.zero_add, Int.add_zero, Int.zero_add, zc_a, zc_l, Option.bind_some, qc_let, qc_in, qc_bo, ↓reduceIte, zYT, zYF, zYt, zYf, zYe, zYn, nYT, nYF, nYt, nYf, nYe, nYn, or_false, false_or, or_true, true_or, not_false_eq_true, not_true_eq_false, and_self, and_true, true_and, and_false, false_and, qG, if_true, if_false, x_made hL hlen (show o < 8 by omega)]
      · rw [decide_eq_false (by omega), b1_F, e0]
        simp (disch := omega) only [P_X2_makersAhead_12, P_X2_makersAhead_44, P_X2_makersAhead_47, zI_add, zI_sub, zI_mul, zI_neg, zL, zI_le, zI_lt, zI_eq, zI_cl, zA0, zI_if, Int.toNat_natCast, zT_add, zT_mul, Int.reduceToNat, Nat.add_zero, Nat.zero_add, Int.add_zero, Int.zero_add, zc_a, zc_l, Option.bind_some, qc_let, qc_in, qc_bo, ↓reduceIte, zYT, zYF, zYt, zYf, zYe, zYn, nYT, nYF, nYt, nYf, nYe, nYn, or_false, false_or, or_true, true_or, not_false_eq_true, not_true_eq_false, and_self, and_true, true_and, and_false, false_and, qG, if_true, if_false, x_made hL hlen (show o < 8 by omega)]
  · intro f a
    simp (disch := omega) only [P_X2_makersAhead_12, zI_add, zI_sub, zI_mul, zI_neg, zL, zI_le, zI_lt, zI_eq, zI_cl, zA0, zI_if, Int.toNat_natCast, zT_add, zT_mul, Int.reduceToNat, Nat.add_zero, Nat.zero_add, Int.add_zero, Int.zero_add, zc_a, zc_l, Option.bind_some, qc_let, qc_in, qc_bo, iteT, iteF, and_self, if_true, if_false, qG]
  · have := it_sm (aheadS V L u) (v_us V).val 0 0
    rw [Nat.zero_add] at this
    exact congrArg some this
theorem aheadS_b (V : sV) (L : List Qd) (u : Nat) : sm (aheadS V L u) (v_us V).val 0 ≤ 8 := by
  have : sm (aheadS V L u) (v_us V).val 0 ≤ 1 * (v_us V).val := by
    refine sm_le _ 0 ?_
    intro i _ _
    unfold aheadS b1
    split <;> omega
  omega
def rnkS (V : sV) (L : List Qd) (z : Int) : Int32 := fnd (fun u => if (sm (aheadS V L u) (v_us V).val 0 : Int) = z then some (zI u) else none) (zI (-1)) (v_us V).val 0
theorem x_rank {I : Nat → Nat → Int32} {J : Nat → Nat → Int64} {V : sV} (h : SX I J 2 V) {L : List Qd} (hL : XL I V L) (hlen : L.length ≤ 700) {z : Int} (z1 : 0 ≤ z) (z2 : z < 2147483648) : P_X6_rank_30 qc_fu I J (zI z) (zI 0) = some (rnkS V L z, I, J) := by
  have hus := h.1
  have key : ∀ d u f, u + d = (v_us V).val → d < f → P_X6_rank_30 f I J (zI z) (zI u) = some (fnd (fun u => if (sm (aheadS V L u) (v_us V).val 0 : Int) = z then some (zI u) else none) (zI (-1)) d u, I, J) := by
    intro d
    induction d with
    | zero =>
      intro u f hu hf
      obtain ⟨g, rfl⟩ : ∃ g, f = g + 1 := ⟨f - 1, by omega⟩
      have hu' : u = (v_us V).val := by omega
      subst hu'
      have c : zI ((v_us V).val : Int) ≤ zI ((v_us V).val : Int) := by rw [zI_le] <;> omega
      rw [P_X6_rank_30, hus, if_pos c]
      rfl
    | succ d ih =>
      intro u f hu hf
      obtain ⟨g, rfl⟩ : ∃ g, f = g + 1 := ⟨f - 1, by omega⟩
      have hb := aheadS_b V L u
      have := ih (u + 1) g (by omega) (by omega)
      simp only [zc_a, zc_l] at this
      simp (disch := omega) only [P_X6_rank_30, zI_add, zI_sub, zI_mul, zI_neg, zL, zI_le, zI_lt, zI_eq, zI_cl, zA0, zI_if, Int.toNat_natCast, zT_add, zT_mul, Int.reduceToNat, Nat.add_zero, Nat.zero_add, Int.add_zero, Int.zero_add, zc_a, zc_l, Option.bind_some, qc_let, qc_in, qc_bo, iteT, iteF, and_self, if_true, if_false, qG, hus, x_ahead hL hlen (show u < 8 by omega), this]
      show _ = some ((if (sm (aheadS V L u) (v_us V).val 0 : Int) = z then some (zI u) else none).getD _, I, J)
      split <;> rfl
  exact key (v_us V).val 0 qc_fu (by omega) (by unfold qc_fu; omega)
theorem m_rank {M : Nat → Nat → Int32} {V : sV} (h : MX M V) {L : List Qd} (hL : ML M V L) (hlen : L.length ≤ 300) {z : Int} (z1 : 0 ≤ z) (z2 : z < 2147483648) : P_X7_rank_25 qc_fu M (zI z) (zI 0) = some (rnkS V L z, M) := by
  have hus := h.1
  have key : ∀ d u f, u + d = (v_us V).val → d < f → P_X7_rank_25 f M (zI z) (zI u) = some (fnd (fun u => if (sm (aheadS V L u) (v_us V).val 0 : Int) = z then some (zI u) else none) (zI (-1)) d u, M) := by
    intro d
    induction d with
    | zero =>
      intro u f hu hf
      obtain ⟨g, rfl⟩ : ∃ g, f = g + 1 := ⟨f - 1, by omega⟩
      have hu' : u = (v_us V).val := by omega
      subst hu'
      have c : zI ((v_us V).val : Int) ≤ zI ((v_us V).val : Int) := by rw [zI_le] <;> omega
      rw [P_X7_rank_25, P_X7_users, hus, Option.bind_some, if_pos c]
      rfl
    | succ d ih =>
      intro u f hu hf
      obtain ⟨g, rfl⟩ : ∃ g, f = g + 1 := ⟨f - 1, by omega⟩
      have hb := aheadS_b V L u
      have := ih (u + 1) g (by omega) (by omega)
      simp only [zc_a, zc_l] at this
      have inner := it_run (fun f2 k a => P_X7_rank_38 (P_X7_rank_25 g) f2 M (zI z) (zI u) a (zI k)) (fun o a => a + zI ((aheadS V L u o : Nat) : Int)) (fun a => if a = zI z then some (zI u, M) else P_X7_rank_25 g M (zI z) (zI ((u : Int) + 1))) (v_us V).val (by
        intro f2 o a ho
        have b1' := madeS_b V L u
        have b2 := madeS_b V L o
        unfold aheadS
        by_cases c1 : madeS V L u < madeS V L o
        · rw [decide_eq_true (Or.inl c1), b1_T]
          simp (disch := omega) only [P_X7_rank_38, P_X7_users, zI_add, zI_sub, zI_mul, zI_neg, zL, zI_le, zI_lt, zI_eq, zI_cl, zA0, zI_if, Int.toNat_natCast, zT_add, zT_mul, Int.reduceToNat, Nat.add_zero, Nat.zero_add, Int.add_zero, Int.zero_add, zc_a, zc_l, Option.bind_some, qc_let, qc_in, qc_bo, ↓reduceIte, zYT, zYF, zYt, zYf, zYe, zYn, nYT, nYF, nYt, nYf, nYe, nYn, or_false, false_or, or_true, true_or, not_false_eq_true, not_true_eq_false, and_self, and_true, true_and, and_false, false_and, qG, if_true, if_false, hus, m_made h hL hlen (show o < 8 by omega), m_made h hL hlen (show u < 8 by omega)]
        · by_cases c2 : madeS V L o = madeS V L u
          · by_cases c3 : o < u
            · rw [decide_eq_true (Or.inr ⟨c2, c3⟩), b1_T]
              simp (disch := omega) only [P_X7_rank_38, P_X7_users, zI_add, zI_sub, zI_mul, zI_neg, zL, zI_le, zI_lt, zI_eq, zI_cl, zA0, zI_if, Int.toNat_natCast, zT_add, zT_mul, Int.reduceToNat, Nat.add_zero, Nat.zero_add, Int.add_zero, Int.zero_add, zc_a, zc_l, Option.bind_some, qc_let, qc_in, qc_bo, ↓reduceIte, zYT, zYF, zYt, zYf, zYe, zYn, nYT, nYF, nYt, nYf, nYe, nYn, or_false, false_or, or_true, true_or, not_false_eq_true, not_true_eq_false, and_self, and_true, true_and, and_false, false_and, qG, if_true, if_false, hus, m_made h hL hlen (show o < 8 by omega), m_made h hL hlen (show u < 8 by omega)]
            · rw [decide_eq_false (by omega), b1_F]
              simp (disch := omega) only [P_X7_rank_38, P_X7_users, zI_add, zI_sub, zI_mul, zI_neg, zL, zI_le, zI_lt, zI_eq, zI_cl, zA0, zI_if, Int.toNat_natCast, zT_add, zT_mul, Int.reduceToNat, Nat.add_zero, Nat.zero_add, Int.add_zero, Int.zero_add, zc_a, zc_l, Option.bind_some, qc_let, qc_in, qc_bo, ↓reduceIte, zYT, zYF, zYt, zYf, zYe, zYn, nYT, nYF, nYt, nYf, nYe, nYn, or_false, false_or, or_true, true_or, not_false_eq_true, not_true_eq_false, and_self, and_true, true_and, and_false, false_and, qG, if_true, if_false, hus, m_made h hL hlen (show o < 8 by omega), m_made h hL hlen (show u < 8 by omega)]
          · rw [decide_eq_false (by omega), b1_F]
            simp (disch := omega) only [P_X7_rank_38, P_X7_users, zI_add, zI_sub, zI_mul, zI_neg, zL, zI_le, zI_lt, zI_eq, zI_cl, zA0, zI_if, Int.toNat_natCast, zT_add, zT_mul, Int.reduceToNat, Nat.add_zero, Nat.zero_add, Int.add_zero, Int.zero_add, zc_a, zc_l, Option.bind_some, qc_let, qc_in, qc_bo, ↓reduceIte, zYT, zYF, zYt, zYf, zYe, zYn, nYT, nYF, nYt, nYf, nYe, nYn, or_false, false_or, or_true, true_or, not_false_eq_true, not_true_eq_false, and_self, and_true, true_and, and_false, false_and, qG, if_true, if_false, hus, m_made h hL hlen (show o < 8 by omega), m_made h hL hlen (show u < 8 by omega)]) (by
        intro f2 a
        simp (disch := omega) only [P_X7_rank_38, P_X7_users, zI_add, zI_sub, zI_mul, zI_neg, zL, hus, Option.bind_some, zI_le, iteT, qc_let]) (v_us V).val 0 qc_fu (zI 0) (by omega) (by unfold qc_fu; omega)
      have e1 := it_sm (aheadS V L u) (v_us V).val 0 0
      rw [Nat.zero_add] at e1
      have e2 : it (fun o (a : Int32) => a + zI ((aheadS V L u o : Nat) : Int)) (v_us V).val 0 (zI 0) = zI (sm (aheadS V L u) (v_us V).val 0 : Nat) := e1
      rw [e2, this] at inner
      have c : ¬ zI ((v_us V).val : Int) ≤ zI (u : Int) := by rw [zI_le] <;> omega
      rw [P_X7_rank_25, P_X7_users, hus, Option.bind_some, if_neg c]
      refine inner.trans ?_
      show _ = some ((if (sm (aheadS V L u) (v_us V).val 0 : Int) = z then some (zI u) else none).getD _, M)
      by_cases c2 : (sm (aheadS V L u) (v_us V).val 0 : Int) = z
      · rw [if_pos (by rw [c2]), if_pos c2]; rfl
      · rw [if_neg (by rw [zI_eq] <;> omega), if_neg c2]; rfl
  exact key (v_us V).val 0 qc_fu (by omega) (by unfold qc_fu; omega)
set_option maxRecDepth 1000000 in
theorem st_38 : St_38 Rel := by
  intro I J w M a ⟨V, n, h0⟩
  have h := RelV_0 h0 (zI 0)
  obtain ⟨I', J', M', k1, k2, k3, k4, k5, k6⟩ := both_fill h
  obtain ⟨z, rfl, z1, z2⟩ := zAll a
  have hx := h.1.1
  have hm := h.2.1.1
  unfold P_X6_rank P_X7_rank P_X7_users
  simp only [zI_add, zI_sub, zI_mul, zI_neg, zL, qc_let]
  rw [hx, hm, k1, k2]
  simp only [Option.bind_some]
  by_cases c1 : z < 0
  · have d1 : zI z < zI 0 := by rw [zI_lt] <;> omega
    rw [if_pos d1, if_pos d1]; exact ⟨_, _, rfl, rfl, rfl, V, n, h⟩
  · have d1 : ¬ zI z < zI 0 := by rw [zI_lt] <;> omega
    rw [if_neg d1, if_neg d1]
    by_cases c2 : z < (v_us V).val
    · have d2 : zI z < zI ((v_us V).val : Int) := by rw [zI_lt] <;> omega
      have x1 := x_rank k5.1 k3 (by omega) (show 0 ≤ z by omega) z2
      have m1 := m_rank k5.2.1 k4 (by omega) (show 0 ≤ z by omega) z2
      rw [if_pos d2, if_pos d2]
      exact ⟨_, _, x1, m1, rfl, V, n, k5⟩
    · have d2 : ¬ zI z < zI ((v_us V).val : Int) := by rw [zI_lt] <;> omega
      rw [if_neg d2, if_neg d2]; exact ⟨_, _, rfl, rfl, rfl, V, n, h⟩
