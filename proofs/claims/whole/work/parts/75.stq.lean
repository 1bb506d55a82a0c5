/-! hitBy -/
theorem by_x {I : Nat → Nat → Int32} {V : sV} {L : List Qd} (hX : XL I V L) (hlen : L.length ≤ 300) {u : Nat} (hu : u < (v_us V).val) {z : Int} (z1 : 0 ≤ z) (z2 : z < 2147483648) {i a f : Nat} (hi : i < L.length) (hai : a ≤ i) : P_X2_placeOfStrikeOn_5 I (f + 1) (zI u) (zI z) (zI (a : Nat)) (zI i) = if hitS V (L.getD i dq) u = true then (if (a : Int) = z then some (zI i) else P_X2_placeOfStrikeOn_5 I f (zI u) (zI z) (zI ((a + 1 : Nat) : Int)) (zI ((i + 1 : Nat) : Int))) else P_X2_placeOfStrikeOn_5 I f (zI u) (zI z) (zI (a : Nat)) (zI ((i + 1 : Nat) : Int)) := by
  simp (disch := omega) only [P_X2_placeOfStrikeOn_5, P_X2_placeOfStrikeOn_35, zI_add, zI_sub, zI_mul, zI_neg, zL, zI_le, zI_lt, zI_eq, zI_cl, zA0, zI_if, Int.toNat_natCast, zT_add, zT_mul, Int.reduceToNat, Nat.add_zero, Nat.zero_add, Int.add_zero, Int.zero_add, zc_a, zc_l, Option.bind_some, qc_let, qc_in, qc_bo, iteT, iteF, and_self, if_true, if_false, qG, hX.1, x_strikes hX (show L.length ≤ 700 by omega) hi hu, bI_0]
  cases hitS V (L.getD i dq) u
  · rw [if_pos (show false = false from rfl), if_neg (show ¬ false = true by decide)]
  · rw [if_neg (show ¬ true = false by decide), if_pos (show true = true from rfl)]
theorem by_m {M : Nat → Nat → Int32} {V : sV} (h : MX M V) {L : List Qd} (hL : ML M V L) (hlen : L.length ≤ 300) {u : Nat} (hu : u < (v_us V).val) {y : Int} (z1 : 0 ≤ y) (z2 : y < 2147483648) {i f : Nat} (hi : i < L.length) : P_X7_hitBy_28 (f + 1) M (zI u) (zI y) (zI i) = if hitS V (L.getD i dq) u = true then (if y = 0 then some (zI i, M) else P_X7_hitBy_28 f M (zI u) (zI (y - 1)) (zI ((i + 1 : Nat) : Int))) else P_X7_hitBy_28 f M (zI u) (zI y) (zI ((i + 1 : Nat) : Int)) := by
  have e : y + -1 = y - 1 := by omega
  simp (disch := omega) only [P_X7_hitBy_28, P_X7_hitBy_60, zI_add, zI_sub, zI_mul, zI_neg, zL, zI_le, zI_lt, zI_eq, zI_cl, zA0, zI_if, Int.toNat_natCast, zT_add, zT_mul, Int.reduceToNat, Nat.add_zero, Nat.zero_add, Int.add_zero, Int.zero_add, zc_a, zc_l, Option.bind_some, qc_let, qc_in, qc_bo, iteT, iteF, and_self, if_true, if_false, qG, hL.1, m_hitsQ h hL hlen hi hu, bI_0, e]
  cases hitS V (L.getD i dq) u
  · rw [if_pos (show false = false from rfl), if_neg (show ¬ false = true by decide)]
  · rw [if_neg (show ¬ true = false by decide), if_pos (show true = true from rfl)]
theorem by_hit {I : Nat → Nat → Int32} {M : Nat → Nat → Int32} {V : sV} (h : MX M V) {L : List Qd} (hX : XL I V L) (hL : ML M V L) (hlen : L.length ≤ 300) {u : Nat} (hu : u < (v_us V).val) {z : Int} (z1 : 0 ≤ z) (z2 : z < 2147483648) : ∀ (d i f a : Nat) (y : Int), i + d = L.length → d < f → y = z - (a : Int) → 0 ≤ y → a ≤ i → ∃ x, P_X2_placeOfStrikeOn_5 I f (zI u) (zI z) (zI (a : Nat)) (zI i) = some x ∧ P_X7_hitBy_28 f M (zI u) (zI y) (zI i) = some (x, M) := by
  intro d
  induction d with
  | zero =>
    intro i f a y hi hf hy ha hai
    obtain ⟨g, rfl⟩ : ∃ g, f = g + 1 := ⟨f - 1, by omega⟩
    have c : zI (L.length : Int) ≤ zI (i : Int) := by rw [zI_le] <;> omega
    refine ⟨-2, ?_, ?_⟩
    · rw [P_X2_placeOfStrikeOn_5, hX.1, if_pos c]
    · rw [P_X7_hitBy_28, hL.1, if_pos c]
  | succ d ih =>
    intro i f a y hi hf hy ha hai
    obtain ⟨g, rfl⟩ : ∃ g, f = g + 1 := ⟨f - 1, by omega⟩
    have hil : i < L.length := by omega
    rw [by_x hX hlen hu z1 z2 hil hai, by_m h hL hlen hu ha (by omega) hil]
    cases hitS V (L.getD i dq) u
    · rw [if_neg (show ¬ false = true by decide), if_neg (show ¬ false = true by decide)]
      exact ih (i + 1) g a y (by omega) (by omega) hy ha (by omega)
    · rw [if_pos (show true = true from rfl), if_pos (show true = true from rfl)]
      by_cases c : (a : Int) = z
      · rw [if_pos c, if_pos (show y = 0 by omega)]
        exact ⟨_, rfl, rfl⟩
      · rw [if_neg c, if_neg (show ¬ y = 0 by omega)]
        exact ih (i + 1) g (a + 1) (y - 1) (by omega) (by omega) (by omega) (by omega) (by omega)
theorem st_15 : St_15 Rel := by
  intro I J w M a b ⟨V, n, h0⟩
  have h := RelV_0 h0 (zI 0)
  obtain ⟨I', J', M', k1, k2, k3, k4, k5, k6⟩ := both_fill h
  unfold P_X6_hitBy P_X7_hitBy P_X2_placeOfStrikeOn
  simp only [zI_add, zI_sub, zI_mul, zI_neg, zL, qc_let]
  rcases user_cases h.1 h.2.1 a with ⟨e1, e2⟩ | ⟨u, hu, rfl, e1, e2⟩
  · rw [e1, e2]
    exact ⟨_, _, rfl, rfl, rfl, V, n, h⟩
  · rw [e1, e2]
    obtain ⟨z, rfl, h1, h2⟩ := zAll b
    simp (disch := omega) only [Option.bind_some, zI_eq, zI_le, iteF]
    by_cases c : 0 ≤ z
    · rw [if_pos c, if_pos c, k1, k2]
      simp only [Option.bind_some]
      obtain ⟨x, x1, x2⟩ := by_hit k5.2.1 k3 k4 (by omega) hu c h2 (prods V).length 0 qc_fu 0 z (by omega) (by unfold qc_fu; omega) (by omega) c (by omega)
      have x1' : P_X2_placeOfStrikeOn_5 I' qc_fu (zI u) (zI z) (zI 0) (zI 0) = some x := x1
      have x2' : P_X7_hitBy_28 qc_fu M' (zI u) (zI z) (zI 0) = some (x, M') := x2
      rw [x1', x2']
      exact ⟨_, _, rfl, rfl, rfl, V, n, k5⟩
    · rw [if_neg c, if_neg c]
      exact ⟨_, _, rfl, rfl, rfl, V, n, h⟩
/-! loudest -/
def louStep (V : sV) (L : List Qd) (i : Nat) (b : Int) : Int := if hitsN V (L.getD i dq) = 0 then b else if b < 0 ∨ levS V (L.getD b.toNat dq) < levS V (L.getD i dq) then (i : Int) else b
theorem x_loudest {I : Nat → Nat → Int32} {V : sV} {L : List Qd} (hL : XL I V L) (hlen : L.length ≤ 700) : P_X2_placeOfLoudest I = some (zI (it (louStep V L) L.length 0 (-2))) := by
  unfold P_X2_placeOfLoudest
  simp only [zI_add, zI_sub, zI_mul, zI_neg, zL]
  refine (it_runI (fun f k (s : Int) => P_X2_placeOfLoudest_5 I f (zI s) (zI k)) (louStep V L) (fun s => some (zI s)) L.length (fun k s => s = -2 ∨ (0 ≤ s ∧ s < L.length)) ?_ ?_ L.length 0 qc_fu (-2) (by omega) (by unfold qc_fu; omega) (Or.inl rfl)).1
  · intro f i s hi hs
    obtain ⟨hq, h24, h25, h26, h27, h28, h29, h30, h31⟩ := hL.2.2 i hi
    have hl := lev_b (V := V) hq
    have h30' : I 30 i = zI 0 ↔ hitsN V (L.getD i dq) = 0 := by
      rw [h30, gD hi]
      exact set_0 _ (by omega)
    constructor
    · unfold louStep
      by_cases c1 : hitsN V (L.getD i dq) = 0
      · rw [if_pos c1]
        simp (disch := omega) only [P_X2_placeOfLoudest_5, P_X2_placeOfLoudest_50, zI_add, zI_sub, zI_mul, zI_neg, zL, zI_le, zI_lt, zI_eq, zI_cl, zA0, zI_if, Int.toNat_natCast, zT_add, zT_mul, Int.reduceToNat, Nat.add_zero, Nat.zero_add, Int.add_zero, Int.zero_add, zc_a, zc_l, Option.bind_some, qc_let, qc_in, qc_bo, ↓reduceIte, zYT, zYF, zYt, zYf, zYe, zYn, nYT, nYF, nYt, nYf, nYe, nYn, or_false, false_or, or_true, true_or, not_false_eq_true, not_true_eq_false, and_self, and_true, true_and, and_false, false_and, qG, if_true, if_false, hL.1, h30'.2 c1]
      · rw [if_neg c1]
        by_cases c2 : s < 0
        · rw [if_pos (Or.inl c2)]
          simp (disch := omega) only [P_X2_placeOfLoudest_5, P_X2_placeOfLoudest_50, P_X2_placeOfLoudest_48, zI_add, zI_sub, zI_mul, zI_neg, zL, zI_le, zI_lt, zI_eq, zI_cl, zA0, zI_if, Int.toNat_natCast, zT_add, zT_mul, Int.reduceToNat, Nat.add_zero, Nat.zero_add, Int.add_zero, Int.zero_add, zc_a, zc_l, Option.bind_some, qc_let, qc_in, qc_bo, ↓reduceIte, zYT, zYF, zYt, zYf, zYe, zYn, nYT, nYF, nYt, nYf, nYe, nYn, or_false, false_or, or_true, true_or, not_false_eq_true, not_true_eq_false, and_self, and_true, true_and, and_false, false_and, qG, if_true, if_false, hL.1, h30', c1]
        · obtain ⟨j, rfl⟩ : ∃ j : Nat, s = (j : Int) := ⟨s.toNat, by omega⟩
          have hj : j < L.length := by omega
          obtain ⟨hq', _, _, _, _, _, h29', _, _⟩ := hL.2.2 j hj
          have hl' := lev_b (V := V) hq'
          rw [Int.toNat_natCast, gD hi, gD hj]
          by_cases c3 : levS V L[j] < levS V L[i]
          · rw [if_pos (Or.inr c3)]
            simp (disch := omega) only [P_X2_placeOfLoudest_5, P_X2_placeOfLoudest_50, P_X2_placeOfLoudest_48, zI_add, zI_sub, zI_mul, zI_neg, zL, zI_le, zI_lt, zI_eq, zI_cl, zA0, zI_if, Int.toNat_natCast, zT_add, zT_mul, Int.reduceToNat, Nat.add_zero, Nat.zero_add, Int.add_zero, Int.zero_add, zc_a, zc_l, Option.bind_some, qc_let, qc_in, qc_bo, ↓reduceIte, zYT, zYF, zYt, zYf, zYe, zYn, nYT, nYF, nYt, nYf, nYe, nYn, or_false, false_or, or_true, true_or, not_false_eq_true, not_true_eq_false, and_self, and_true, true_and, and_false, false_and, qG, if_true, if_false, hL.1, h30', c1, h29, h29']
          · rw [if_neg (by omega)]
            simp (disch := omega) only [P_X2_placeOfLoudest_5, P_X2_placeOfLoudest_50, P_X2_placeOfLoudest_48, zI_add, zI_sub, zI_mul, zI_neg, zL, zI_le, zI_lt, zI_eq, zI_cl, zA0, zI_if, Int.toNat_natCast, zT_add, zT_mul, Int.reduceToNat, Nat.add_zero, Nat.zero_add, Int.add_zero, Int.zero_add, zc_a, zc_l, Option.bind_some, qc_let, qc_in, qc_bo, ↓reduceIte, zYT, zYF, zYt, zYf, zYe, zYn, nYT, nYF, nYt, nYf, nYe, nYn, or_false, false_or, or_true, true_or, not_false_eq_true, not_true_eq_false, and_self, and_true, true_and, and_false, false_and, qG, if_true, if_false, hL.1, h30', c1, h29, h29']
    · unfold louStep
      split
      · exact hs
      · split
        · exact Or.inr ⟨by omega, by omega⟩
        · exact hs
  · intro f s hs
    simp (disch := omega) only [P_X2_placeOfLoudest_5, zI_add, zI_sub, zI_mul, zI_neg, zL, zI_le, zI_lt, zI_eq, zI_cl, zA0, zI_if, Int.toNat_natCast, zT_add, zT_mul, Int.reduceToNat, Nat.add_zero, Nat.zero_add, Int.add_zero, Int.zero_add, zc_a, zc_l, Option.bind_some, qc_let, qc_in, qc_bo, iteT, iteF, and_self, if_true, if_false, qG, hL.1]
theorem m_loudest {M : Nat → Nat → Int32} {V : sV} (h : MX M V) {L : List Qd} (hL : ML M V L) (hlen : L.length ≤ 300) : P_X7_loudest_14 qc_fu M (zI (-2)) (zI 0) = some (zI (it (louStep V L) L.length 0 (-2)), M) := by
  refine (it_runI (fun f k (s : Int) => P_X7_loudest_14 f M (zI s) (zI k)) (louStep V L) (fun s => some (zI s, M)) L.length (fun k s => s = -2 ∨ (0 ≤ s ∧ s < L.length)) ?_ ?_ L.length 0 qc_fu (-2) (by omega) (by unfold qc_fu; omega) (Or.inl rfl)).1
  · intro f i s hi hs
    obtain ⟨hq, h16, h17, h18, h19, h20, h21, h22⟩ := hL.2 i hi
    have hl := lev_b (V := V) hq
    obtain ⟨y, y1, y2, y3, y4⟩ := m_bitsQ h hL hlen hi
    constructor
    · unfold louStep
      by_cases c1 : hitsN V (L.getD i dq) = 0
      · rw [if_pos c1]
        simp (disch := omega) only [P_X7_loudest_14, P_X7_loudest_53, zI_add, zI_sub, zI_mul, zI_neg, zL, zI_le, zI_lt, zI_eq, zI_cl, zA0, zI_if, Int.toNat_natCast, zT_add, zT_mul, Int.reduceToNat, Nat.add_zero, Nat.zero_add, Int.add_zero, Int.zero_add, zc_a, zc_l, Option.bind_some, qc_let, qc_in, qc_bo, ↓reduceIte, zYT, zYF, zYt, zYf, zYe, zYn, nYT, nYF, nYt, nYf, nYe, nYn, or_false, false_or, or_true, true_or, not_false_eq_true, not_true_eq_false, and_self, and_true, true_and, and_false, false_and, qG, if_true, if_false, hL.1, y1, y3.2 c1]
      · rw [if_neg c1]
        by_cases c2 : s < 0
        · rw [if_pos (Or.inl c2)]
          have c2' : s = -2 := by omega
          simp (disch := omega) only [P_X7_loudest_14, P_X7_loudest_53, P_X7_loudest_51, zI_add, zI_sub, zI_mul, zI_neg, zL, zI_le, zI_lt, zI_eq, zI_cl, zA0, zI_if, Int.toNat_natCast, zT_add, zT_mul, Int.reduceToNat, Nat.add_zero, Nat.zero_add, Int.add_zero, Int.zero_add, zc_a, zc_l, Option.bind_some, qc_let, qc_in, qc_bo, ↓reduceIte, zYT, zYF, zYt, zYf, zYe, zYn, nYT, nYF, nYt, nYf, nYe, nYn, or_false, false_or, or_true, true_or, not_false_eq_true, not_true_eq_false, and_self, and_true, true_and, and_false, false_and, qG, if_true, if_false, hL.1, y1, y3, c1]
        · obtain ⟨j, rfl⟩ : ∃ j : Nat, s = (j : Int) := ⟨s.toNat, by omega⟩
          have hj : j < L.length := by omega
          obtain ⟨hq', _, _, _, _, _, h21', _⟩ := hL.2 j hj
          have hl' := lev_b (V := V) hq'
          rw [Int.toNat_natCast, gD hi, gD hj]
          by_cases c3 : levS V L[j] < levS V L[i]
          · rw [if_pos (Or.inr c3)]
            simp (disch := omega) only [P_X7_loudest_14, P_X7_loudest_53, P_X7_loudest_51, zI_add, zI_sub, zI_mul, zI_neg, zL, zI_le, zI_lt, zI_eq, zI_cl, zA0, zI_if, Int.toNat_natCast, zT_add, zT_mul, Int.reduceToNat, Nat.add_zero, Nat.zero_add, Int.add_zero, Int.zero_add, zc_a, zc_l, Option.bind_some, qc_let, qc_in, qc_bo, ↓reduceIte, zYT, zYF, zYt, zYf, zYe, zYn, nYT, nYF, nYt, nYf, nYe, nYn, or_false, false_or, or_true, true_or, not_false_eq_true, not_true_eq_false, and_self, and_true, true_and, and_false, false_and, qG, if_true, if_false, hL.1, y1, y3, c1, h21, h21']
          · rw [if_neg (by omega)]
            simp (disch := omega) only [P_X7_loudest_14, P_X7_loudest_53, P_X7_loudest_51, zI_add, zI_sub, zI_mul, zI_neg, zL, zI_le, zI_lt, zI_eq, zI_cl, zA0, zI_if, Int.toNat_natCast, zT_add, zT_mul, Int.reduceToNat, Nat.add_zero, Nat.zero_add, Int.add_zero, Int.zero_add, zc_a, zc_l, Option.bind_some, qc_let, qc_in, qc_bo, ↓reduceIte, zYT, zYF, zYt, zYf, zYe, zYn, nYT, nYF, nYt, nYf, nYe, nYn, or_false, false_or, or_true, true_or, not_false_eq_true, not_true_eq_false, and_self, and_true, true_and, and_false, false_and, qG, if_true, if_false, hL.1, y1, y3, c1, h21, h21']
    · unfold louStep
      split
      · exact hs
      · split
        · exact Or.inr ⟨by omega, by omega⟩
        · exact hs
  · intro f s hs
    simp (disch := omega) only [P_X7_loudest_14, zI_add, zI_sub, zI_mul, zI_neg, zL, zI_le, zI_lt, zI_eq, zI_cl, zA0, zI_if, Int.toNat_natCast, zT_add, zT_mul, Int.reduceToNat, Nat.add_zero, Nat.zero_add, Int.add_zero, Int.zero_add, zc_a, zc_l, Option.bind_some, qc_let, qc_in, qc_bo, iteT, iteF, and_self, if_true, if_false, qG, hL.1]
theorem st_29 : St_29 Rel := by
  intro I J w M ⟨V, n, h0⟩
  have h := RelV_0 h0 (zI 0)
  obtain ⟨I', J', M', k1, k2, k3, k4, k5, k6⟩ := both_fill h
  unfold P_X6_loudest P_X7_loudest
  simp only [zI_add, zI_sub, zI_mul, zI_neg, zL, qc_let]
  rw [k1, k2]
  simp only [Option.bind_some]
  rw [x_loudest k3 (by omega), m_loudest k5.2.1 k4 (by omega)]
  exact ⟨_, _, rfl, rfl, rfl, V, n, k5⟩
/-! when -/
theorem or_and32 (a b c : Int32) : (a ||| b) &&& c = (a &&& c) ||| (b &&& c) := by
  apply Int32.toBitVec_inj.1
  show (a.toBitVec ||| b.toBitVec) &&& c.toBitVec = (a.toBitVec &&& c.toBitVec) ||| (b.toBitVec &&& c.toBitVec)
  apply BitVec.eq_of_getLsbD_eq
  intro i _
  rw [BitVec.getLsbD_and, BitVec.getLsbD_or, BitVec.getLsbD_or, BitVec.getLsbD_and, BitVec.getLsbD_and, Bool.and_or_distrib_right]
def whnS (V : sV) (L : List Qd) (u : Nat) (c : Int32) : Int32 := it (fun i a => if hitS V (L.getD i dq) u = true then a ||| (zI (comS V (L.getD i dq) : Nat) &&& c) else a) L.length 0 (zI 0)
theorem x_when {I : Nat → Nat → Int32} {V : sV} {L : List Qd} (hL : XL I V L) (hlen : L.length ≤ 700) {u : Nat} (hu : u < (v_us V).val) : P_X2_slotsOfStrikesOn I (zI u) = some (it (fun i a => if hitS V (L.getD i dq) u = true then a ||| zI (comS V (L.getD i dq) : Nat) else a) L.length 0 (zI 0)) := by
  unfold P_X2_slotsOfStrikesOn
  simp only [zL]
  refine it_run (fun f k a => P_X2_slotsOfStrikesOn_4 I f (zI u) a (zI k)) _ some L.length ?_ ?_ L.length 0 qc_fu (zI 0) (by omega) (by unfold qc_fu; omega)
  · intro f i a hi
    obtain ⟨hq, h24, h25, h26, h27, h28, h29, h30, h31⟩ := hL.2.2 i hi
    rw [← gD hi] at h31
    simp (disch := omega) only [P_X2_slotsOfStrikesOn_4, P_X2_slotsOfStrikesOn_33, zI_add, zI_sub, zI_mul, zI_neg, zL, zI_le, zI_lt, zI_eq, zI_cl, zA0, zI_if, Int.toNat_natCast, zT_add, zT_mul, Int.reduceToNat, Nat.add_zero, Nat.zero_add, Int.add_zero, Int.zero_add, zc_a, zc_l, Option.bind_some, qc_let, qc_in, qc_bo, iteT, iteF, and_self, if_true, if_false, qG, hL.1, x_strikes hL hlen hi hu, bI_0, h31]
    cases hitS V (L.getD i dq) u
    · rw [if_pos rfl]; rfl
    · rw [if_neg (by decide)]; rfl
  · intro f a
    simp (disch := omega) only [P_X2_slotsOfStrikesOn_4, zI_add, zI_sub, zI_mul, zI_neg, zL, zI_le, zI_lt, zI_eq, zI_cl, zA0, zI_if, Int.toNat_natCast, zT_add, zT_mul, Int.reduceToNat, Nat.add_zero, Nat.zero_add, Int.add_zero, Int.zero_add, zc_a, zc_l, Option.bind_some, qc_let, qc_in, qc_bo, iteT, iteF, and_self, if_true, if_false, qG, hL.1]
theorem when_eq (V : sV) (L : List Qd) (u : Nat) (c : Int32) : ∀ d k a, it (fun i a => if hitS V (L.getD i dq) u = true then a ||| zI (comS V (L.getD i dq) : Nat) else a) d k a &&& c = it (fun i a => if hitS V (L.getD i dq) u = true then a ||| (zI (comS V (L.getD i dq) : Nat) &&& c) else a) d k (a &&& c) := by
  intro d
  induction d with
  | zero => intro k a; rfl
  | succ d ih =>
    intro k a
    show it _ d (k + 1) (if hitS V (L.getD k dq) u = true then a ||| zI (comS V (L.getD k dq) : Nat) else a) &&& c = it _ d (k + 1) (if hitS V (L.getD k dq) u = true then (a &&& c) ||| (zI (comS V (L.getD k dq) : Nat) &&& c) else (a &&& c))
    rw [ih]
    split
    · rw [or_and32]
    · rfl
theorem m_when {M : Nat → Nat → Int32} {V : sV} (h : MX M V) {L : List Qd} (hL : ML M V L) (hlen : L.length ≤ 300) {u : Nat} (hu : u < (v_us V).val) : P_X7_when_23 qc_fu M (zI u) (zI 0) (zI 0) = some (whnS V L u (zI (v_sl V u).val), M) := by
  have hsl : M 13 (73 + u) = zI (v_sl V u).val := h.2.2.2.2.2.2.2.2.2.2.1 u hu
  have h6 : (v_us V).val ≤ 6 := h.2.2.2.2.2.2.2.2.2.2.2.2.2.2.1
  unfold whnS
  refine it_run (fun f k a => P_X7_when_23 f M (zI u) a (zI k)) _ (fun a => some (a, M)) L.length ?_ ?_ L.length 0 qc_fu (zI 0) (by omega) (by unfold qc_fu; omega)
  · intro f i a hi
    obtain ⟨hq, h16, h17, h18, h19, h20, h21, h22⟩ := hL.2 i hi
    rw [← gD hi] at h22
    simp (disch := omega) only [P_X7_when_23, P_X7_when_59, zI_add, zI_sub, zI_mul, zI_neg, zL, zI_le, zI_lt, zI_eq, zI_cl, zA0, zI_if, Int.toNat_natCast, zT_add, zT_mul, Int.reduceToNat, Nat.add_zero, Nat.zero_add, Int.add_zero, Int.zero_add, zc_a, zc_l, Option.bind_some, qc_let, qc_in, qc_bo, iteT, iteF, and_self, if_true, if_false, qG, hL.1, m_hitsQ h hL hlen hi hu, bI_0, h22, hsl]
    cases hitS V (L.getD i dq) u
    · rw [if_pos rfl]; rfl
    · rw [if_neg (by decide)]; rfl
  · intro f a
    simp (disch := omega) only [P_X7_when_23, zI_add, zI_sub, zI_mul, zI_neg, zL, zI_le, zI_lt, zI_eq, zI_cl, zA0, zI_if, Int.toNat_natCast, zT_add, zT_mul, Int.reduceToNat, Nat.add_zero, Nat.zero_add, Int.add_zero, Int.zero_add, zc_a, zc_l, Option.bind_some, qc_let, qc_in, qc_bo, iteT, iteF, and_self, if_true, if_false, qG, hL.1]
theorem st_33 : St_33 Rel := by
  intro I J w M a ⟨V, n, h0⟩
  have h := RelV_0 h0 (zI 0)
  obtain ⟨I', J', M', k1, k2, k3, k4, k5, k6⟩ := both_fill h
  unfold P_X6_when P_X7_when
  simp only [zI_add, zI_sub, zI_mul, zI_neg, zL, qc_let]
  rcases user_cases h.1 h.2.1 a with ⟨e1, e2⟩ | ⟨u, hu, rfl, e1, e2⟩
  · rw [e1, e2]
    exact ⟨_, _, rfl, rfl, rfl, V, n, h⟩
  · rw [e1, e2, k1, k2]
    have hs := (SX_at9 k5.1 (show u < 8 by omega)).2.2
    simp (disch := omega) only [Option.bind_some, zI_eq, iteF]
    rw [x_when k3 (by omega) hu, m_when k5.2.1 k4 (by omega) hu]
    simp (disch := omega) only [zI_add, zI_sub, zI_mul, zI_neg, zL, zI_le, zI_lt, zI_eq, zI_cl, zA0, zI_if, Int.toNat_natCast, zT_add, zT_mul, Int.reduceToNat, Nat.add_zero, Nat.zero_add, Int.add_zero, Int.zero_add, zc_a, zc_l, Option.bind_some, qc_let, qc_in, qc_bo, iteT, iteF, and_self, if_true, if_false, qG, hs]
    refine ⟨_, _, rfl, rfl, ?_, V, n, k5⟩
    have e := when_eq V (prods V) u (zI (v_sl V u).val) (prods V).length 0 (zI 0)
    rw [show zI 0 &&& zI ((v_sl V u).val : Int) = zI 0 from Int32.zero_and] at e
    exact e
