/-! QUESTIONS about the list: the class -/
def dq : Qd := (0, 0, 0, 0)
theorem gD {L : List Qd} {i : Nat} (h : i < L.length) : L.getD i dq = L[i] := by
  rw [List.getD_eq_getElem?_getD, List.getElem?_eq_getElem h]
  rfl
theorem x_fill {I : Nat → Nat → Int32} {J : Nat → Nat → Int64} {p : Nat} {V : sV} (hp : p ≤ 12) (h : SX I J p V) : wp (P_X2_fill I J p) (fun r => (∀ t, t < 22 ∨ 32 < t → r.1 t = I t) ∧ gJ J r.2 ∧ XL r.1 V (prods V)) := by
  unfold P_X2_fill
  simp only [zL]
  refine wp_bind (x_gather false hp h (cap_b V).1) ?_
  intro r ⟨r1, r2, r3⟩
  refine wp_some ⟨r1, r2, ?_⟩
  rcases r3 with r3 | ⟨e, _⟩
  · have e : (candT V 3 0).filter (fm V false) = prods V := by
      unfold prods prdS
      congr 1
      funext q
      unfold fm
      rw [Bool.not_false, Bool.true_or, Bool.and_true]
    rw [e] at r3
    exact r3
  · exact absurd e (by decide)
theorem prods_len (V : sV) : (prods V).length ≤ 700 ∧ ((v_us V).val ≤ 6 → (prods V).length ≤ 285) := by
  have := prdS_len V (candT V 3 0)
  have h := cap_b V
  constructor
  · show (prdS V (candT V 3 0)).length ≤ 700
    omega
  · intro h6
    have := h.2 h6
    show (prdS V (candT V 3 0)).length ≤ 285
    omega
theorem strN_sm (V : sV) : ∀ L : List Qd, strN V L = sm (fun i => hitsN V (L.getD i dq)) L.length 0 := by
  have key : ∀ (L : List Qd) (A : List Qd), strN V L = sm (fun i => hitsN V ((A ++ L).getD i dq)) L.length A.length := by
    intro L
    induction L with
    | nil => intro A; rfl
    | cons q L ih =>
      intro A
      have := ih (A ++ [q])
      rw [List.length_append, List.length_cons, List.length_nil, List.append_assoc] at this
      show hitsN V q + strN V L = hitsN V ((A ++ q :: L).getD A.length dq) + sm (fun i => hitsN V ((A ++ q :: L).getD i dq)) L.length (A.length + 1)
      rw [this, show (A ++ q :: L).getD A.length dq = q by simp]
      rfl
  intro L
  have := key L []
  simpa using this
theorem x_strikes {I : Nat → Nat → Int32} {V : sV} {L : List Qd} (hL : XL I V L) (hlen : L.length ≤ 700) {i u : Nat} (hi : i < L.length) (hu : u < (v_us V).val) : P_X2_strikesUser I (zI i) (zI u) = some (bI (hitS V (L.getD i dq) u)) := by
  obtain ⟨hq, h24, h25, h26, h27, h28, h29, h30, h31⟩ := hL.2.2 i hi
  rw [gD hi]
  unfold P_X2_strikesUser
  simp only [zI_add, zI_sub, zI_mul, zI_neg, zL]
  rw [if_pos (by simp (disch := omega) only [zI_add, zI_sub, zI_mul, zI_neg, zL, zI_le, zI_lt, zI_eq, zI_cl, zA0, zI_if, Int.toNat_natCast, zT_add, zT_mul, Int.reduceToNat, Nat.add_zero, Nat.zero_add, Int.add_zero, Int.zero_add, zc_a, zc_l, Option.bind_some, qc_let, qc_in, qc_bo, iteT, iteF, and_self, if_true, if_false, qG]; omega), zI_cl (by omega) (by omega), Int.toNat_natCast, h30, set_d _ (by omega) hu]
  simp only [bI_0]
  cases hitS V L[i] u <;> rfl
theorem x_isInQ {I : Nat → Nat → Int32} {V : sV} {L : List Qd} (hL : XL I V L) (hlen : L.length ≤ 700) {i u : Nat} (hi : i < L.length) (hu : u < 8) : P_X2_isIn I (zI i) (zI u) = some (bI (decide ((L.getD i dq).2.1 = u ∨ (L.getD i dq).2.2.1 = u ∨ (L.getD i dq).2.2.2 = (u : Int)))) := by
  obtain ⟨⟨g1, g2, g3, g4⟩, h24, h25, h26, h27, h28, h29, h30, h31⟩ := hL.2.2 i hi
  have g5 : -2 ≤ L[i].2.2.2 ∧ L[i].2.2.2 < 9 := by omega
  rw [gD hi]
  unfold P_X2_isIn
  simp (disch := omega) only [zI_add, zI_sub, zI_mul, zI_neg, zL, zI_le, zI_lt, zI_eq, zI_cl, zA0, zI_if, Int.toNat_natCast, zT_add, zT_mul, Int.reduceToNat, Nat.add_zero, Nat.zero_add, Int.add_zero, Int.zero_add, zc_a, zc_l, Option.bind_some, qc_let, qc_in, qc_bo, iteT, iteF, and_self, if_true, if_false, qG, h25, h26, h27]
  repeat' split
  all_goals try simp (disch := omega) only [zI_add, zI_sub, zI_mul, zI_neg, zL, zI_le, zI_lt, zI_eq, zI_cl, zA0, zI_if, Int.toNat_natCast, zT_add, zT_mul, Int.reduceToNat, Nat.add_zero, Nat.zero_add, Int.add_zero, Int.zero_add, zc_a, zc_l, Option.bind_some, qc_let, qc_in, qc_bo, iteT, iteF, and_self, if_true, if_false, qG, true_or, or_true, if_true]
  all_goals first | (exfalso; omega) | (rw [bI_n (by omega)]) | (rw [bI_p (by omega)])
theorem x_bits {I : Nat → Nat → Int32} {V : sV} {L : List Qd} (hL : XL I V L) {i : Nat} (hi : i < L.length) : P_J6_bitCount_0f7a4 (I 30 i) = some (zI (hitsN V (L.getD i dq) : Nat)) := by
  obtain ⟨hq, h24, h25, h26, h27, h28, h29, h30, h31⟩ := hL.2.2 i hi
  rw [gD hi, h30, set_c _ (by omega)]
  rfl
/-- what a product tells of itself -/
def shareS (V : sV) (q : Qd) (x : Int) : Nat := if x = 0 then 1 else if x = 1 then b1 (decide (0 ≤ levS V q)) else hitsN V q
theorem shareS_b (V : sV) (q : Qd) (x : Int) : shareS V q x ≤ 8 := by
  unfold shareS b1
  have := hitsN_b V q
  split
  · omega
  · split
    · split <;> omega
    · omega
theorem x_share {I : Nat → Nat → Int32} {V : sV} {L : List Qd} (hL : XL I V L) (hlen : L.length ≤ 700) {i : Nat} (hi : i < L.length) {x : Int} (x1 : 0 ≤ x) (x2 : x ≤ 2) : P_X2_share I (zI i) (zI x) = some (zI (shareS V (L.getD i dq) x : Nat)) := by
  have hb := x_bits hL hi
  obtain ⟨hq, h24, h25, h26, h27, h28, h29, h30, h31⟩ := hL.2.2 i hi
  have hl := lev_b (V := V) hq
  rw [gD hi] at hb ⊢
  unfold P_X2_share shareS
  have hx : x = 0 ∨ x = 1 ∨ x = 2 := by omega
  rcases hx with rfl | rfl | rfl
  · rfl
  · simp (disch := omega) only [zI_add, zI_sub, zI_mul, zI_neg, zL, zI_le, zI_lt, zI_eq, zI_cl, zA0, zI_if, Int.toNat_natCast, zT_add, zT_mul, Int.reduceToNat, Nat.add_zero, Nat.zero_add, Int.add_zero, Int.zero_add, zc_a, zc_l, Option.bind_some, qc_let, qc_in, qc_bo, iteT, iteF, and_self, if_true, if_false, qG, h29]
    by_cases c : levS V L[i] < 0
    · rw [if_pos c, decide_eq_false (by omega)]; rfl
    · rw [if_neg c, decide_eq_true (by omega)]; rfl
  · simp (disch := omega) only [zI_add, zI_sub, zI_mul, zI_neg, zL, zI_le, zI_lt, zI_eq, zI_cl, zA0, zI_if, Int.toNat_natCast, zT_add, zT_mul, Int.reduceToNat, Nat.add_zero, Nat.zero_add, Int.add_zero, Int.zero_add, zc_a, zc_l, Option.bind_some, qc_let, qc_in, qc_bo, iteT, iteF, and_self, if_true, if_false, qG, hb]
theorem x_sumOfSort {I : Nat → Nat → Int32} {V : sV} {L : List Qd} (hL : XL I V L) (hlen : L.length ≤ 700) {s x : Int} (s1 : -1 ≤ s) (s2 : s < 6) (x1 : 0 ≤ x) (x2 : x ≤ 2) : P_X2_sumOfSort I (zI s) (zI x) = some (zI (sm (fun i => if s = -1 ∨ ((L.getD i dq).1 : Int) = s then shareS V (L.getD i dq) x else 0) L.length 0 : Nat)) := by
  unfold P_X2_sumOfSort
  simp only [zL]
  refine (it_run (fun f k a => P_X2_sumOfSort_5 I f (zI s) (zI x) a (zI k)) (fun i a => a + zI ((if s = -1 ∨ ((L.getD i dq).1 : Int) = s then shareS V (L.getD i dq) x else 0 : Nat) : Int)) some L.length ?_ ?_ L.length 0 qc_fu (zI 0) (by omega) (by unfold qc_fu; omega)).trans ?_
  · intro f i a hi
    obtain ⟨hq, h24, h25, h26, h27, h28, h29, h30, h31⟩ := hL.2.2 i hi
    have hq1 := hq.1
    have e0 : a + zI ((0 : Nat) : Int) = a := by
      show a + 0 = a
      exact Int32.add_zero a
    simp (disch := omega) only [P_X2_sumOfSort_5, P_X2_sumOfSort_32, P_X2_sumOfSort_42, zI_add, zI_sub, zI_mul, zI_neg, zL, zI_le, zI_lt, zI_eq, zI_cl, zA0, zI_if, Int.toNat_natCast, zT_add, zT_mul, Int.reduceToNat, Nat.add_zero, Nat.zero_add, Int.add_zero, Int.zero_add, zc_a, zc_l, Option.bind_some, qc_let, qc_in, qc_bo, iteT, iteF, and_self, if_true, if_false, qG, hL.1, h24, x_share hL hlen hi x1 x2]
    rw [gD hi]
    by_cases c1 : s = -1
    · rw [if_pos (by omega), if_pos (Or.inl c1)]
    · rw [if_neg (by omega)]
      by_cases c2 : (L[i].1 : Int) = s
      · rw [if_pos c2, if_pos (Or.inr c2)]
      · rw [if_neg c2, if_neg (by omega), e0]
  · intro f a
    simp (disch := omega) only [P_X2_sumOfSort_5, zI_add, zI_sub, zI_mul, zI_neg, zL, zI_le, zI_lt, zI_eq, zI_cl, zA0, zI_if, Int.toNat_natCast, zT_add, zT_mul, Int.reduceToNat, Nat.add_zero, Nat.zero_add, Int.add_zero, Int.zero_add, zc_a, zc_l, Option.bind_some, qc_let, qc_in, qc_bo, iteT, iteF, and_self, if_true, if_false, qG, hL.1]
  · have := it_sm (fun i => if s = -1 ∨ ((L.getD i dq).1 : Int) = s then shareS V (L.getD i dq) x else 0) L.length 0 0
    rw [Nat.zero_add] at this
    exact congrArg some this
theorem x_strikesOn {I : Nat → Nat → Int32} {V : sV} {L : List Qd} (hL : XL I V L) (hlen : L.length ≤ 700) {u : Nat} (hu : u < (v_us V).val) : P_X2_strikesOn I (zI u) = some (zI (sm (fun i => b1 (hitS V (L.getD i dq) u)) L.length 0 : Nat)) := by
  unfold P_X2_strikesOn
  simp only [zL]
  refine (it_run (fun f k a => P_X2_strikesOn_4 I f (zI u) a (zI k)) (fun i a => a + zI ((b1 (hitS V (L.getD i dq) u) : Nat) : Int)) some L.length ?_ ?_ L.length 0 qc_fu (zI 0) (by omega) (by unfold qc_fu; omega)).trans ?_
  · intro f i a hi
    have e0 : a + zI ((0 : Nat) : Int) = a := by
      show a + 0 = a
      exact Int32.add_zero a
    simp (disch := omega) only [P_X2_strikesOn_4, P_X2_strikesOn_24, zI_add, zI_sub, zI_mul, zI_neg, zL, zI_le, zI_lt, zI_eq, zI_cl, zA0, zI_if, Int.toNat_natCast, zT_add, zT_mul, Int.reduceToNat, Nat.add_zero, Nat.zero_add, Int.add_zero, Int.zero_add, zc_a, zc_l, Option.bind_some, qc_let, qc_in, qc_bo, iteT, iteF, and_self, if_true, if_false, qG, hL.1, x_strikes hL hlen hi hu, bI_0]
    cases hitS V (L.getD i dq) u
    · rw [if_pos rfl, b1_F, e0]
    · rw [if_neg (by decide), b1_T]; rfl
  · intro f a
    simp (disch := omega) only [P_X2_strikesOn_4, zI_add, zI_sub, zI_mul, zI_neg, zL, zI_le, zI_lt, zI_eq, zI_cl, zA0, zI_if, Int.toNat_natCast, zT_add, zT_mul, Int.reduceToNat, Nat.add_zero, Nat.zero_add, Int.add_zero, Int.zero_add, zc_a, zc_l, Option.bind_some, qc_let, qc_in, qc_bo, iteT, iteF, and_self, if_true, if_false, qG, hL.1]
  · have := it_sm (fun i => b1 (hitS V (L.getD i dq) u)) L.length 0 0
    rw [Nat.zero_add] at this
    exact congrArg some this
/-- by whom how many hits are made -/
def madeS (V : sV) (L : List Qd) (u : Nat) : Nat := sm (fun i => if (L.getD i dq).2.1 = u ∨ (L.getD i dq).2.2.1 = u ∨ (L.getD i dq).2.2.2 = (u : Int) then hitsN V (L.getD i dq) else 0) L.length 0
theorem madeS_b (V : sV) (L : List Qd) (u : Nat) : madeS V L u ≤ 8 * L.length := by
  unfold madeS
  refine sm_le _ _ ?_
  intro i _ _
  have := hitsN_b V (L.getD i dq)
  split <;> omega
theorem x_made {I : Nat → Nat → Int32} {V : sV} {L : List Qd} (hL : XL I V L) (hlen : L.length ≤ 700) {u : Nat} (hu : u < 8) : P_X2_strikesMadeBy I (zI u) = some (zI (madeS V L u : Nat)) := by
  unfold P_X2_strikesMadeBy madeS
  simp only [zL]
  refine (it_run (fun f k a => P_X2_strikesMadeBy_4 I f (zI u) a (zI k)) (fun i a => a + zI ((if (L.getD i dq).2.1 = u ∨ (L.getD i dq).2.2.1 = u ∨ (L.getD i dq).2.2.2 = (u : Int) then hitsN V (L.getD i dq) else 0 : Nat) : Int)) some L.length ?_ ?_ L.length 0 qc_fu (zI 0) (by omega) (by unfold qc_fu; omega)).trans ?_
  · intro f i a hi
    have e0 : a + zI ((0 : Nat) : Int) = a := by
      show a + 0 = a
      exact Int32.add_zero a
    simp (disch := omega) only [P_X2_strikesMadeBy_4, P_X2_strikesMadeBy_36, zI_add, zI_sub, zI_mul, zI_neg, zL, zI_le, zI_lt, zI_eq, zI_cl, zA0, zI_if, Int.toNat_natCast, zT_add, zT_mul, Int.reduceToNat, Nat.add_zero, Nat.zero_add, Int.add_zero, Int.zero_add, zc_a, zc_l, Option.bind_some, qc_let, qc_in, qc_bo, iteT, iteF, and_self, if_true, if_false, qG, hL.1, x_isInQ hL hlen hi hu, bI_0, x_bits hL hi, decide_eq_false_iff_not]
    by_cases c : (L.getD i dq).2.1 = u ∨ (L.getD i dq).2.2.1 = u ∨ (L.getD i dq).2.2.2 = (u : Int)
    · rw [if_neg (fun x => x c), if_pos c]
    · rw [if_pos c, if_neg c, e0]
  · intro f a
    simp (disch := omega) only [P_X2_strikesMadeBy_4, zI_add, zI_sub, zI_mul, zI_neg, zL, zI_le, zI_lt, zI_eq, zI_cl, zA0, zI_if, Int.toNat_natCast, zT_add, zT_mul, Int.reduceToNat, Nat.add_zero, Nat.zero_add, Int.add_zero, Int.zero_add, zc_a, zc_l, Option.bind_some, qc_let, qc_in, qc_bo, iteT, iteF, and_self, if_true, if_false, qG, hL.1]
  · have := it_sm (fun i => if (L.getD i dq).2.1 = u ∨ (L.getD i dq).2.2.1 = u ∨ (L.getD i dq).2.2.2 = (u : Int) then hitsN V (L.getD i dq) else 0) L.length 0 0
    rw [Nat.zero_add] at this
    exact congrArg some this
/-- who makes most -/
def worStep (V : sV) (L : List Qd) (u : Nat) (s : Int × Nat) : Int × Nat := if s.2 < madeS V L u then ((u : Int), madeS V L u) else s
def worS (V : sV) (L : List Qd) : Int := (it (worStep V L) (v_us V).val 0 (-2, 0)).1
theorem worS_b (V : sV) (L : List Qd) : ∀ (d k : Nat) (s : Int × Nat), (s.1 = -2 ∨ (0 ≤ s.1 ∧ s.1 < ((v_us V).val : Int))) → k + d ≤ (v_us V).val → ((it (worStep V L) d k s).1 = -2 ∨ (0 ≤ (it (worStep V L) d k s).1 ∧ (it (worStep V L) d k s).1 < (v_us V).val)) := by
  intro d
  induction d with
  | zero => intro k s h _; exact h
  | succ d ih =>
    intro k s h hk
    refine ih (k + 1) _ ?_ (by omega)
    unfold worStep
    split
    · exact Or.inr ⟨by show (0 : Int) ≤ k; omega, by show (k : Int) < _; omega⟩
    · exact h
theorem x_worst {I : Nat → Nat → Int32} {V : sV} {L : List Qd} (hL : XL I V L) (hlen : L.length ≤ 700) : P_X2_worstMaker I (zI ((v_us V).val : Int)) = some (zI (worS V L)) := by
  unfold P_X2_worstMaker worS
  simp only [zI_add, zI_sub, zI_mul, zI_neg, zL]
  have key := it_runI (fun f k (s : Int × Nat) => P_X2_worstMaker_8 I f (zI ((v_us V).val : Int)) (zI s.1) (zI (s.2 : Nat)) (zI k)) (worStep V L) (fun s => some (zI s.1)) (v_us V).val (fun k s => s.2 ≤ 5600) (by
    intro f k s hk i1
    have hb := madeS_b V L k
    constructor
    · simp (disch := omega) only [P_X2_worstMaker_8, P_X2_worstMaker_34, zI_add, zI_sub, zI_mul, zI_neg, zL, zI_le, zI_lt, zI_eq, zI_cl, zA0, zI_if, Int.toNat_natCast, zT_add, zT_mul, Int.reduceToNat, Nat.add_zero, Nat.zero_add, Int.add_zero, Int.zero_add, zc_a, zc_l, Option.bind_some, qc_let, qc_in, qc_bo, iteT, iteF, and_self, if_true, if_false, qG, x_made hL hlen (show k < 8 by omega)]
      unfold worStep
      by_cases c : s.2 < madeS V L k
      · rw [if_neg (by omega), if_pos c]
      · rw [if_pos (by omega), if_neg c]
    · unfold worStep
      split
      · show madeS V L k ≤ 5600; omega
      · exact i1) (by
    intro f s i1
    simp (disch := omega) only [P_X2_worstMaker_8, zI_add, zI_sub, zI_mul, zI_neg, zL, zI_le, zI_lt, zI_eq, zI_cl, zA0, zI_if, Int.toNat_natCast, zT_add, zT_mul, Int.reduceToNat, Nat.add_zero, Nat.zero_add, Int.add_zero, Int.zero_add, zc_a, zc_l, Option.bind_some, qc_let, qc_in, qc_bo, iteT, iteF, and_self, if_true, if_false, qG]) (v_us V).val 0 qc_fu (-2, 0) (by omega) (by unfold qc_fu; omega) (by decide)
  exact key.1
