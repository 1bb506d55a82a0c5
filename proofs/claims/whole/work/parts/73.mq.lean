/-! QUESTIONS about the list: the reference -/
theorem m_hitsQ {M : Nat → Nat → Int32} {V : sV} (h : MX M V) {L : List Qd} (hL : ML M V L) (hlen : L.length ≤ 300) {i u : Nat} (hi : i < L.length) (hu : u < (v_us V).val) : P_X7_hits M (zI i) (zI u) = some (bI (hitS V (L.getD i dq) u)) := by
  rw [gD hi]
  exact m_hits h hL hlen hi hu
theorem m_bitsQ {M : Nat → Nat → Int32} {V : sV} (h : MX M V) {L : List Qd} (hL : ML M V L) (hlen : L.length ≤ 300) {i : Nat} (hi : i < L.length) : ∃ x, P_X7_hitsOf M (zI i) = some x ∧ P_X7_bits x = some (zI (hitsN V (L.getD i dq) : Nat)) ∧ (x = zI 0 ↔ hitsN V (L.getD i dq) = 0) ∧ x = sSet (hitS V (L.getD i dq)) (v_us V).val 0 (zI 0) := by
  have h6 : (v_us V).val ≤ 6 := h.2.2.2.2.2.2.2.2.2.2.2.2.2.2.1
  rw [gD hi]
  exact ⟨_, m_hitsOf h hL hlen hi, set_m _ h6, set_0 _ (by omega), rfl⟩
theorem m_allHits {M : Nat → Nat → Int32} {V : sV} (h : MX M V) {L : List Qd} (hL : ML M V L) (hlen : L.length ≤ 300) : P_X7_allHits M = some (zI (strN V L : Nat)) := by
  unfold P_X7_allHits
  simp only [zL]
  rw [strN_sm]
  refine (it_run (fun f k a => P_X7_allHits_4 M f a (zI k)) (fun i a => a + zI ((hitsN V (L.getD i dq) : Nat) : Int)) some L.length ?_ ?_ L.length 0 qc_fu (zI 0) (by omega) (by unfold qc_fu; omega)).trans ?_
  · intro f i a hi
    obtain ⟨x, x1, x2, x3, x4⟩ := m_bitsQ h hL hlen hi
    simp (disch := omega) only [P_X7_allHits_4, zI_add, zI_sub, zI_mul, zI_neg, zL, zI_le, zI_lt, zI_eq, zI_cl, zA0, zI_if, Int.toNat_natCast, zT_add, zT_mul, Int.reduceToNat, Nat.add_zero, Nat.zero_add, Int.add_zero, Int.zero_add, zc_a, zc_l, Option.bind_some, qc_let, qc_in, qc_bo, iteT, iteF, and_self, if_true, if_false, qG, hL.1, x1, x2]
  · intro f a
    simp (disch := omega) only [P_X7_allHits_4, zI_add, zI_sub, zI_mul, zI_neg, zL, zI_le, zI_lt, zI_eq, zI_cl, zA0, zI_if, Int.toNat_natCast, zT_add, zT_mul, Int.reduceToNat, Nat.add_zero, Nat.zero_add, Int.add_zero, Int.zero_add, zc_a, zc_l, Option.bind_some, qc_let, qc_in, qc_bo, iteT, iteF, and_self, if_true, if_false, qG, hL.1]
  · have := it_sm (fun i => hitsN V (L.getD i dq)) L.length 0 0
    rw [Nat.zero_add] at this
    exact congrArg some this
theorem m_heard {M : Nat → Nat → Int32} {V : sV} {L : List Qd} (hL : ML M V L) (hlen : L.length ≤ 300) : P_X7_heard M = some (zI (sm (fun i => b1 (decide (0 ≤ levS V (L.getD i dq)))) L.length 0 : Nat)) := by
  unfold P_X7_heard
  simp only [zL]
  refine (it_run (fun f k a => P_X7_heard_4 M f a (zI k)) (fun i a => a + zI ((b1 (decide (0 ≤ levS V (L.getD i dq))) : Nat) : Int)) some L.length ?_ ?_ L.length 0 qc_fu (zI 0) (by omega) (by unfold qc_fu; omega)).trans ?_
  · intro f i a hi
    obtain ⟨hq, h16, h17, h18, h19, h20, h21, h22⟩ := hL.2 i hi
    have hl := lev_b (V := V) hq
    rw [gD hi]
    simp (disch := omega) only [P_X7_heard_4, zI_add, zI_sub, zI_mul, zI_neg, zL, zI_le, zI_lt, zI_eq, zI_cl, zA0, zI_if, Int.toNat_natCast, zT_add, zT_mul, Int.reduceToNat, Nat.add_zero, Nat.zero_add, Int.add_zero, Int.zero_add, zc_a, zc_l, Option.bind_some, qc_let, qc_in, qc_bo, iteT, iteF, and_self, if_true, if_false, qG, hL.1, h21]
    by_cases c : levS V L[i] < 0
    · rw [if_pos c, decide_eq_false (by omega)]; rfl
    · rw [if_neg c, decide_eq_true (by omega)]; rfl
  · intro f a
    simp (disch := omega) only [P_X7_heard_4, zI_add, zI_sub, zI_mul, zI_neg, zL, zI_le, zI_lt, zI_eq, zI_cl, zA0, zI_if, Int.toNat_natCast, zT_add, zT_mul, Int.reduceToNat, Nat.add_zero, Nat.zero_add, Int.add_zero, Int.zero_add, zc_a, zc_l, Option.bind_some, qc_let, qc_in, qc_bo, iteT, iteF, and_self, if_true, if_false, qG, hL.1]
  · have := it_sm (fun i => b1 (decide (0 ≤ levS V (L.getD i dq)))) L.length 0 0
    rw [Nat.zero_add] at this
    exact congrArg some this
theorem m_bySort {M : Nat → Nat → Int32} {V : sV} (h : MX M V) {L : List Qd} (hL : ML M V L) (hlen : L.length ≤ 300) {s x : Int} (s1 : 0 ≤ s) (s2 : s < 6) (x1 : 0 ≤ x) (x2 : x ≤ 2) : P_X7_bySort_35 qc_fu M (zI s) (zI x) (zI 0) (zI 0) = some (zI (sm (fun i => if s = -1 ∨ ((L.getD i dq).1 : Int) = s then shareS V (L.getD i dq) x else 0) L.length 0 : Nat), M) := by
  refine (it_run (fun f k a => P_X7_bySort_35 f M (zI s) (zI x) a (zI k)) (fun i a => a + zI ((if s = -1 ∨ ((L.getD i dq).1 : Int) = s then shareS V (L.getD i dq) x else 0 : Nat) : Int)) (fun a => some (a, M)) L.length ?_ ?_ L.length 0 qc_fu (zI 0) (by omega) (by unfold qc_fu; omega)).trans ?_
  · intro f i a hi
    obtain ⟨y, y1, y2, y3, y4⟩ := m_bitsQ h hL hlen hi
    obtain ⟨hq, h16, h17, h18, h19, h20, h21, h22⟩ := hL.2 i hi
    have hl := lev_b (V := V) hq
    have hq1 := hq.1
    rw [gD hi] at y2 ⊢
    have e0 : a + zI ((0 : Nat) : Int) = a := by
      show a + 0 = a
      exact Int32.add_zero a
    by_cases c2 : (L[i].1 : Int) = s
    · rw [if_pos (Or.inr c2)]
      have hx : x = 0 ∨ x = 1 ∨ x = 2 := by omega
      unfold shareS
      rcases hx with rfl | rfl | rfl
      · simp (disch := omega) only [P_X7_bySort_35, P_X7_bySort_101, zI_add, zI_sub, zI_mul, zI_neg, zL, zI_le, zI_lt, zI_eq, zI_cl, zA0, zI_if, Int.toNat_natCast, zT_add, zT_mul, Int.reduceToNat, Nat.add_zero, Nat.zero_add, Int.add_zero, Int.zero_add, zc_a, zc_l, Option.bind_some, qc_let, qc_in, qc_bo, ↓reduceIte, zYT, zYF, zYt, zYf, zYe, zYn, nYT, nYF, nYt, nYf, nYe, nYn, or_false, false_or, or_true, true_or, not_false_eq_true, not_true_eq_false, and_self, and_true, true_and, and_false, false_and, qG, if_true, if_false, hL.1, h16]
      · by_cases c : levS V L[i] < 0
        · rw [if_neg (by omega), if_pos rfl, decide_eq_false (by omega), b1_F]
          simp (disch := omega) only [P_X7_bySort_35, P_X7_bySort_101, zI_add, zI_sub, zI_mul, zI_neg, zL, zI_le, zI_lt, zI_eq, zI_cl, zA0, zI_if, Int.toNat_natCast, zT_add, zT_mul, Int.reduceToNat, Nat.add_zero, Nat.zero_add, Int.add_zero, Int.zero_add, zc_a, zc_l, Option.bind_some, qc_let, qc_in, qc_bo, ↓reduceIte, zYT, zYF, zYt, zYf, zYe, zYn, nYT, nYF, nYt, nYf, nYe, nYn, or_false, false_or, or_true, true_or, not_false_eq_true, not_true_eq_false, and_self, and_true, true_and, and_false, false_and, qG, if_true, if_false, hL.1, h16, h21]
        · rw [if_neg (by omega), if_pos rfl, decide_eq_true (by omega), b1_T]
          simp (disch := omega) only [P_X7_bySort_35, P_X7_bySort_101, zI_add, zI_sub, zI_mul, zI_neg, zL, zI_le, zI_lt, zI_eq, zI_cl, zA0, zI_if, Int.toNat_natCast, zT_add, zT_mul, Int.reduceToNat, Nat.add_zero, Nat.zero_add, Int.add_zero, Int.zero_add, zc_a, zc_l, Option.bind_some, qc_let, qc_in, qc_bo, ↓reduceIte, zYT, zYF, zYt, zYf, zYe, zYn, nYT, nYF, nYt, nYf, nYe, nYn, or_false, false_or, or_true, true_or, not_false_eq_true, not_true_eq_false, and_self, and_true, true_and, and_false, false_and, qG, if_true, if_false, hL.1, h16, h21]
      · rw [if_neg (by omega), if_neg (by omega)]
        simp (disch := omega) only [P_X7_bySort_35, P_X7_bySort_101, zI_add, zI_sub, zI_mul, zI_neg, zL, zI_le, zI_lt, zI_eq, zI_cl, zA0, zI_if, Int.toNat_natCast, zT_add, zT_mul, Int.reduceToNat, Nat.add_zero, Nat.zero_add, Int.add_zero, Int.zero_add, zc_a, zc_l, Option.bind_some, qc_let, qc_in, qc_bo, ↓reduceIte, zYT, zYF, zYt, zYf, zYe, zYn, nYT, nYF, nYt, nYf, nYe, nYn, or_false, false_or, or_true, true_or, not_false_eq_true, not_true_eq_false, and_self, and_true, true_and, and_false, false_and, qG, if_true, if_false, hL.1, h16, y1, y2]
    · rw [if_neg (by omega), e0]
      simp (disch := omega) only [P_X7_bySort_35, P_X7_bySort_101, zI_add, zI_sub, zI_mul, zI_neg, zL, zI_le, zI_lt, zI_eq, zI_cl, zA0, zI_if, Int.toNat_natCast, zT_add, zT_mul, Int.reduceToNat, Nat.add_zero, Nat.zero_add, Int.add_zero, Int.zero_add, zc_a, zc_l, Option.bind_some, qc_let, qc_in, qc_bo, ↓reduceIte, zYT, zYF, zYt, zYf, zYe, zYn, nYT, nYF, nYt, nYf, nYe, nYn, or_false, false_or, or_true, true_or, not_false_eq_true, not_true_eq_false, and_self, and_true, true_and, and_false, false_and, qG, if_true, if_false, hL.1, h16]
  · intro f a
    simp (disch := omega) only [P_X7_bySort_35, zI_add, zI_sub, zI_mul, zI_neg, zL, zI_le, zI_lt, zI_eq, zI_cl, zA0, zI_if, Int.toNat_natCast, zT_add, zT_mul, Int.reduceToNat, Nat.add_zero, Nat.zero_add, Int.add_zero, Int.zero_add, zc_a, zc_l, Option.bind_some, qc_let, qc_in, qc_bo, iteT, iteF, and_self, if_true, if_false, qG, hL.1]
  · have := it_sm (fun i => if s = -1 ∨ ((L.getD i dq).1 : Int) = s then shareS V (L.getD i dq) x else 0) L.length 0 0
    rw [Nat.zero_add] at this
    exact congrArg (fun z => some (z, M)) this
theorem m_strikesOn {M : Nat → Nat → Int32} {V : sV} (h : MX M V) {L : List Qd} (hL : ML M V L) (hlen : L.length ≤ 300) {u : Nat} (hu : u < (v_us V).val) : P_X7_hits__37 qc_fu M (zI u) (zI 0) (zI 0) = some (zI (sm (fun i => b1 (hitS V (L.getD i dq) u)) L.length 0 : Nat), M) := by
  refine (it_run (fun f k a => P_X7_hits__37 f M (zI u) a (zI k)) (fun i a => a + zI ((b1 (hitS V (L.getD i dq) u) : Nat) : Int)) (fun a => some (a, M)) L.length ?_ ?_ L.length 0 qc_fu (zI 0) (by omega) (by unfold qc_fu; omega)).trans ?_
  · intro f i a hi
    simp (disch := omega) only [P_X7_hits__37, zI_add, zI_sub, zI_mul, zI_neg, zL, zI_le, zI_lt, zI_eq, zI_cl, zA0, zI_if, Int.toNat_natCast, zT_add, zT_mul, Int.reduceToNat, Nat.add_zero, Nat.zero_add, Int.add_zero, Int.zero_add, zc_a, zc_l, Option.bind_some, qc_let, qc_in, qc_bo, iteT, iteF, and_self, if_true, if_false, qG, hL.1, m_hitsQ h hL hlen hi hu, bI_0]
    cases hitS V (L.getD i dq) u <;> rfl
  · intro f a
    simp (disch := omega) only [P_X7_hits__37, zI_add, zI_sub, zI_mul, zI_neg, zL, zI_le, zI_lt, zI_eq, zI_cl, zA0, zI_if, Int.toNat_natCast, zT_add, zT_mul, Int.reduceToNat, Nat.add_zero, Nat.zero_add, Int.add_zero, Int.zero_add, zc_a, zc_l, Option.bind_some, qc_let, qc_in, qc_bo, iteT, iteF, and_self, if_true, if_false, qG, hL.1]
  · have := it_sm (fun i => b1 (hitS V (L.getD i dq) u)) L.length 0 0
    rw [Nat.zero_add] at this
    exact congrArg (fun z => some (z, M)) this
theorem m_made {M : Nat → Nat → Int32} {V : sV} (h : MX M V) {L : List Qd} (hL : ML M V L) (hlen : L.length ≤ 300) {u : Nat} (hu : u < 8) : P_X7_madeBy M (zI u) = some (zI (madeS V L u : Nat)) := by
  unfold P_X7_madeBy madeS
  simp only [zL]
  refine (it_run (fun f k a => P_X7_madeBy_4 M f (zI u) a (zI k)) (fun i a => a + zI ((if (L.getD i dq).2.1 = u ∨ (L.getD i dq).2.2.1 = u ∨ (L.getD i dq).2.2.2 = (u : Int) then hitsN V (L.getD i dq) else 0 : Nat) : Int)) some L.length ?_ ?_ L.length 0 qc_fu (zI 0) (by omega) (by unfold qc_fu; omega)).trans ?_
  · intro f i a hi
    obtain ⟨y, y1, y2, y3, y4⟩ := m_bitsQ h hL hlen hi
    have hin := m_isIn hL hlen hi hu
    rw [← gD hi] at hin
    simp (disch := omega) only [P_X7_madeBy_4, zI_add, zI_sub, zI_mul, zI_neg, zL, zI_le, zI_lt, zI_eq, zI_cl, zA0, zI_if, Int.toNat_natCast, zT_add, zT_mul, Int.reduceToNat, Nat.add_zero, Nat.zero_add, Int.add_zero, Int.zero_add, zc_a, zc_l, Option.bind_some, qc_let, qc_in, qc_bo, iteT, iteF, and_self, if_true, if_false, qG, hL.1, hin, bI_0, y1, y2, decide_eq_false_iff_not]
    by_cases c : (L.getD i dq).2.1 = u ∨ (L.getD i dq).2.2.1 = u ∨ (L.getD i dq).2.2.2 = (u : Int)
    · rw [if_neg (fun x => x c), if_pos c]; rfl
    · rw [if_pos c, if_neg c]; rfl
  · intro f a
    simp (disch := omega) only [P_X7_madeBy_4, zI_add, zI_sub, zI_mul, zI_neg, zL, zI_le, zI_lt, zI_eq, zI_cl, zA0, zI_if, Int.toNat_natCast, zT_add, zT_mul, Int.reduceToNat, Nat.add_zero, Nat.zero_add, Int.add_zero, Int.zero_add, zc_a, zc_l, Option.bind_some, qc_let, qc_in, qc_bo, iteT, iteF, and_self, if_true, if_false, qG, hL.1]
  · have := it_sm (fun i => if (L.getD i dq).2.1 = u ∨ (L.getD i dq).2.2.1 = u ∨ (L.getD i dq).2.2.2 = (u : Int) then hitsN V (L.getD i dq) else 0) L.length 0 0
    rw [Nat.zero_add] at this
    exact congrArg some this
theorem m_worst {M : Nat → Nat → Int32} {V : sV} (h : MX M V) : wp (P_X7_worstNow M) (fun r => r.1 = zI (worS V (prods V)) ∧ eP M r.2 ∧ ML r.2 V (prods V)) := by
  have h6 : (v_us V).val ≤ 6 := h.2.2.2.2.2.2.2.2.2.2.2.2.2.2.1
  have hcap := (cap_b V).2 h6
  have hlen := (prods_len V).2 h6
  unfold P_X7_worstNow
  simp only [zI_add, zI_sub, zI_mul, zI_neg, zL]
  refine wp_bind (m_lays_prods h (by omega)) ?_
  intro M1 ⟨he, hL⟩
  have hM1 := MX_e (eP_M he) h
  have hus := hM1.1
  have key := it_runI (fun f k (s : Int × Nat) => P_X7_worstNow_11 f M1 (zI s.1) (zI (s.2 : Nat)) (zI k)) (worStep V (prods V)) (fun s => some (zI s.1, M1)) (v_us V).val (fun k s => s.2 ≤ 5600) (by
    intro f k s hk i1
    have hb := madeS_b V (prods V) k
    constructor
    · simp (disch := omega) only [P_X7_worstNow_11, P_X7_worstNow_40, P_X7_users, zI_add, zI_sub, zI_mul, zI_neg, zL, zI_le, zI_lt, zI_eq, zI_cl, zA0, zI_if, Int.toNat_natCast, zT_add, zT_mul, Int.reduceToNat, Nat.add_zero, Nat.zero_add, Int.add_zero, Int.zero_add, zc_a, zc_l, Option.bind_some, qc_let, qc_in, qc_bo, iteT, iteF, and_self, if_true, if_false, qG, hus, m_made hM1 hL (by omega) (show k < 8 by omega)]
      unfold worStep
      by_cases c : s.2 < madeS V (prods V) k
      · rw [if_pos (by omega), if_pos c]
      · rw [if_neg (by omega), if_neg c]
    · unfold worStep
      split
      · show madeS V (prods V) k ≤ 5600; omega
      · exact i1) (by
    intro f s i1
    simp (disch := omega) only [P_X7_worstNow_11, P_X7_users, zI_add, zI_sub, zI_mul, zI_neg, zL, zI_le, zI_lt, zI_eq, zI_cl, zA0, zI_if, Int.toNat_natCast, zT_add, zT_mul, Int.reduceToNat, Nat.add_zero, Nat.zero_add, Int.add_zero, Int.zero_add, zc_a, zc_l, Option.bind_some, qc_let, qc_in, qc_bo, iteT, iteF, and_self, if_true, if_false, qG, hus]) (v_us V).val 0 qc_fu (-2, 0) (by omega) (by unfold qc_fu; omega) (by decide)
  exact ⟨_, key.1, rfl, he, hL⟩
