/-! WHAT HAS BEEN READ is taken, and the state begins -/
theorem m_t175 : ∀ (d k f : Nat) (M : Nat → Nat → Int32), k + d = 61 → d < f → P_X7_takeText_175 f M (zI (k : Nat)) = some (fun t j => if t = 12 ∧ k ≤ j ∧ j < 61 then vp_nar .boolean (M 12 (61 + j)) else M t j) := by
  intro d
  induction d with
  | zero =>
    intro k f M hk hf
    obtain ⟨g, rfl⟩ : ∃ g, f = g + 1 := ⟨f - 1, by omega⟩
    rw [P_X7_takeText_175]
    simp only [zL]
    rw [if_pos (by rw [zI_le] <;> omega)]
    congr 1
    funext t j
    rw [if_neg (by omega)]
  | succ d ih =>
    intro k f M hk hf
    obtain ⟨g, rfl⟩ : ∃ g, f = g + 1 := ⟨f - 1, by omega⟩
    obtain ⟨iq, rq⟩ := qi (q := 61 + k) (N := 122) (by omega) (by omega)
    obtain ⟨jq, sq⟩ := qi (q := k) (N := 122) (by omega) (by omega)
    have e : zI 61 + zI (k : Int) = zI ((61 + k : Nat) : Int) := by rw [zI_add]; rfl
    have e1 : zI (k : Int) + zI 1 = zI ((k + 1 : Nat) : Int) := by rw [zI_add]; rfl
    rw [P_X7_takeText_175]
    simp only [zL]
    rw [if_neg (by rw [zI_le] <;> omega), e, e1]
    simp only [if_pos iq, if_pos jq, rq, sq, qc_lE]
    rw [ih (k + 1) g _ (by omega) (by omega)]
    congr 1
    funext t j
    rw [qG, qG]
    by_cases c : t = 12 ∧ k ≤ j ∧ j < 61
    · rw [if_pos c]
      by_cases c2 : j = k
      · rw [if_neg (by omega), if_pos ⟨c.1, c2⟩, c2]
      · rw [if_pos (by omega), if_neg (by omega)]
    · rw [if_neg c, if_neg (by omega), if_neg (by omega)]
theorem m_t146 {M : Nat → Nat → Int32} : P_X7_takeText_146 qc_fu M (zI 0) = P_X7_takeText_175 qc_fu (cpM M 11 11 9 0 9) (zI 0) := by
  have := cp_run (fun f k M => P_X7_takeText_146 f M (zI (k : Nat))) 11 11 9 0 9 (fun M => P_X7_takeText_175 qc_fu M (zI 0)) (Or.inr (by omega)) (by
    intro f k M hk
    obtain ⟨iq, rq⟩ := qi (q := 9 + k) (N := 18) (by omega) (by omega)
    obtain ⟨jq, sq⟩ := qi (q := k) (N := 18) (by omega) (by omega)
    have e : zI 9 + zI (k : Int) = zI ((9 + k : Nat) : Int) := by rw [zI_add]; rfl
    show P_X7_takeText_146 (f + 1) M (zI (k : Nat)) = P_X7_takeText_146 f _ (zI ((k + 1 : Nat) : Int))
    rw [P_X7_takeText_146]
    simp only [zL]
    rw [if_neg (by rw [zI_le] <;> omega), e]
    simp only [if_pos iq, if_pos jq, rq, sq, qc_lE, zI_add, Nat.zero_add]
    rfl) (by
    intro f M
    show P_X7_takeText_146 (f + 1) M (zI ((9 : Nat) : Int)) = _
    rw [P_X7_takeText_146]
    simp only [zL]
    rw [if_pos (by decide)]) (f := qc_fu) (by unfold qc_fu; omega) M
  exact this
theorem m_t27 : ∀ (d k f : Nat) (M : Nat → Nat → Int32), k + d = 6 → d < f → P_X7_takeText_27 f M (zI (k : Nat)) = P_X7_takeText_146 qc_fu (fun t j => if 4 ≤ t ∧ t ≤ 10 ∧ k ≤ j ∧ j < 6 then M t (6 + j) else M t j) (zI 0) := by
  intro d
  induction d with
  | zero =>
    intro k f M hk hf
    obtain ⟨g, rfl⟩ : ∃ g, f = g + 1 := ⟨f - 1, by omega⟩
    rw [P_X7_takeText_27]
    simp only [zL]
    rw [if_pos (by rw [zI_le] <;> omega)]
    congr 1
    funext t j
    rw [if_neg (by omega)]
  | succ d ih =>
    intro k f M hk hf
    obtain ⟨g, rfl⟩ : ∃ g, f = g + 1 := ⟨f - 1, by omega⟩
    obtain ⟨iq, rq⟩ := qi (q := 6 + k) (N := 12) (by omega) (by omega)
    obtain ⟨jq, sq⟩ := qi (q := k) (N := 12) (by omega) (by omega)
    have e : zI 6 + zI (k : Int) = zI ((6 + k : Nat) : Int) := by rw [zI_add]; rfl
    have e1 : zI (k : Int) + zI 1 = zI ((k + 1 : Nat) : Int) := by rw [zI_add]; rfl
    have step : P_X7_takeText_27 (g + 1) M (zI (k : Nat)) = P_X7_takeText_27 g (qc_u2 (qc_u2 (qc_u2 (qc_u2 (qc_u2 (qc_u2 (qc_u2 M 4 k (M 4 (6 + k))) 5 k (M 5 (6 + k))) 6 k (M 6 (6 + k))) 7 k (M 7 (6 + k))) 8 k (M 8 (6 + k))) 9 k (M 9 (6 + k))) 10 k (M 10 (6 + k))) (zI ((k + 1 : Nat) : Int)) := by
      rw [P_X7_takeText_27]
      simp only [zL]
      rw [if_neg (by rw [zI_le] <;> omega), e, e1]
      simp only [if_pos iq, if_pos jq, rq, sq]
      simp (disch := omega) only [qc_lE, qG, iteF]
    rw [step, ih (k + 1) g _ (by omega) (by omega)]
    congr 1
    have ev : ∀ t j, qc_u2 (qc_u2 (qc_u2 (qc_u2 (qc_u2 (qc_u2 (qc_u2 M 4 k (M 4 (6 + k))) 5 k (M 5 (6 + k))) 6 k (M 6 (6 + k))) 7 k (M 7 (6 + k))) 8 k (M 8 (6 + k))) 9 k (M 9 (6 + k))) 10 k (M 10 (6 + k)) t j = if 4 ≤ t ∧ t ≤ 10 ∧ j = k then M t (6 + k) else M t j := by
      intro t j
      by_cases c : 4 ≤ t ∧ t ≤ 10 ∧ j = k
      · rw [if_pos c]
        obtain ⟨c1, c2, rfl⟩ := c
        have : t = 4 ∨ t = 5 ∨ t = 6 ∨ t = 7 ∨ t = 8 ∨ t = 9 ∨ t = 10 := by omega
        rcases this with rfl | rfl | rfl | rfl | rfl | rfl | rfl <;> simp [qG]
      · rw [if_neg c, qG, if_neg (by omega), qG, if_neg (by omega), qG, if_neg (by omega), qG, if_neg (by omega), qG, if_neg (by omega), qG, if_neg (by omega), qG, if_neg (by omega)]
    funext t j
    rw [ev, ev]
    by_cases c : 4 ≤ t ∧ t ≤ 10 ∧ k ≤ j ∧ j < 6
    · rw [if_pos c]
      by_cases c2 : j = k
      · rw [if_neg (by omega), if_pos (by omega), c2]
      · rw [if_pos (by omega), if_neg (by omega)]
    · rw [if_neg c, if_neg (by omega), if_neg (by omega)]
theorem m_take (M : Nat → Nat → Int32) : ∃ M', P_X7_takeText M = some M' ∧ (∀ j, j < 10 → M' 2 j = M 2 (10 + j)) ∧ (∀ t j, 4 ≤ t → t ≤ 10 → j < 6 → M' t j = M t (6 + j)) ∧ (∀ k, k < 9 → M' 11 k = M 11 (9 + k)) ∧ (∀ c, c < 61 → M' 12 c = vp_nar .boolean (M 12 (61 + c))) ∧ (∀ t j, ¬ (t = 2 ∧ j < 10 ∨ 4 ≤ t ∧ t ≤ 10 ∧ j < 6 ∨ t = 11 ∧ j < 9 ∨ t = 12 ∧ j < 61) → M' t j = M t j) := by
  have c2 := cp_run (fun f k M => P_X7_takeText_2 f M (zI (k : Nat))) 2 2 10 0 10 (fun M => P_X7_takeText_27 qc_fu M (zI 0)) (Or.inr (by omega)) (by
    intro f k M hk
    obtain ⟨jq, sq⟩ := qi (q := k) (N := 20) (by omega) (by omega)
    show P_X7_takeText_2 (f + 1) M (zI (k : Nat)) = P_X7_takeText_2 f _ (zI ((k + 1 : Nat) : Int))
    rw [P_X7_takeText_2]
    simp only [zL]
    rw [if_neg (by rw [zI_le] <;> omega), m_reading hk, Option.bind_some]
    simp only [if_pos jq, sq, qc_lE, zI_add, Nat.zero_add]
    rfl) (by
    intro f M
    show P_X7_takeText_2 (f + 1) M (zI ((10 : Nat) : Int)) = _
    rw [P_X7_takeText_2]
    simp only [zL]
    rw [if_pos (by decide)]) (f := qc_fu) (by unfold qc_fu; omega) M
  have c2' : P_X7_takeText M = P_X7_takeText_27 qc_fu (cpM M 2 2 10 0 10) (zI 0) := c2
  have c3 := m_t27 6 0 qc_fu (cpM M 2 2 10 0 10) (by omega) (by unfold qc_fu; omega)
  have c3' : P_X7_takeText_27 qc_fu (cpM M 2 2 10 0 10) (zI 0) = _ := c3
  have c4 := fun N => m_t175 61 0 qc_fu N (by omega) (by unfold qc_fu; omega)
  have c4' : ∀ N, P_X7_takeText_175 qc_fu N (zI 0) = _ := c4
  refine ⟨_, by rw [c2', c3', m_t146, c4'], ?_, ?_, ?_, ?_, ?_⟩
  · intro j hj
    try dsimp only
    rw [if_neg (by omega), cpM_at, if_neg (by omega), if_neg (by omega), cpM_at, if_pos (by omega), Nat.sub_zero]
  · intro t j h1 h2 hj
    try dsimp only
    rw [if_neg (by omega), cpM_at, if_neg (by omega), if_pos (by omega), cpM_at, if_neg (by omega)]
  · intro k hk
    try dsimp only
    rw [if_neg (by omega), cpM_at, if_pos (by omega), Nat.sub_zero, if_neg (by omega), cpM_at, if_neg (by omega)]
  · intro c hc
    try dsimp only
    rw [if_pos (by omega), cpM_at, if_neg (by omega), if_neg (by omega), cpM_at, if_neg (by omega)]
  · intro t j c
    try dsimp only
    rw [if_neg (by omega), cpM_at, if_neg (by omega), if_neg (by omega), cpM_at, if_neg (by omega)]
theorem m_b98 : ∀ (d k f : Nat) (M : Nat → Nat → Int32), k + d = 61 → d < f → P_X7_begins_98 f M (zI (k : Nat)) = some (toldM (fun t j => if t = 13 ∧ 12 + k ≤ j ∧ j < 73 then (if M 12 (j - 12) = zI 0 then zI 0 else zI 1) else M t j)) := by
  intro d
  induction d with
  | zero =>
    intro k f M hk hf
    obtain ⟨g, rfl⟩ : ∃ g, f = g + 1 := ⟨f - 1, by omega⟩
    rw [P_X7_begins_98]
    simp only [zL]
    rw [if_pos (by rw [zI_lt] <;> omega), m_asTold, Option.bind_some]
    congr 2
    funext t j
    rw [if_neg (by omega)]
  | succ d ih =>
    intro k f M hk hf
    obtain ⟨g, rfl⟩ : ∃ g, f = g + 1 := ⟨f - 1, by omega⟩
    obtain ⟨iq, rq⟩ := qi (q := 12 + k) (N := 79) (by omega) (by omega)
    obtain ⟨jq, sq⟩ := qi (q := k) (N := 122) (by omega) (by omega)
    have e : zI 12 + zI (k : Int) = zI ((12 + k : Nat) : Int) := by rw [zI_add]; rfl
    have e1 : zI (k : Int) + zI 1 = zI ((k + 1 : Nat) : Int) := by rw [zI_add]; rfl
    have ev : (if M 12 k = zI 0 then some (zI 0) else some (zI 1)) = some (if M 12 k = zI 0 then zI 0 else zI 1) := by
      split <;> rfl
    rw [P_X7_begins_98]
    simp only [zL]
    rw [if_neg (by rw [zI_lt] <;> omega), e, e1]
    simp only [if_pos iq, if_pos jq, rq, sq, qc_lE]
    rw [ev, Option.bind_some, ih (k + 1) g _ (by omega) (by omega)]
    congr 2
    funext t j
    rw [qG, qG, if_neg (show ¬ (12 = 13 ∧ j - 12 = 12 + k) by omega)]
    by_cases c : t = 13 ∧ 12 + k ≤ j ∧ j < 73
    · rw [if_pos c]
      by_cases c2 : j = 12 + k
      · rw [if_neg (by omega), if_pos ⟨c.1, c2⟩, c2, show 12 + k - 12 = k by omega]
      · rw [if_pos (by omega)]
    · rw [if_neg c, if_neg (by omega), if_neg (by omega)]
theorem m_b23 {us : Nat} (h6 : us ≤ 6) : ∀ (d k f : Nat) (M : Nat → Nat → Int32), k + d = us → d < f → M 2 7 = zI (us : Nat) → ∃ M', P_X7_begins_23 f M (zI (k : Nat)) = P_X7_begins_98 qc_fu M' (zI 1) ∧ (∀ t j, t ≠ 13 → M' t j = M t j) ∧ (∀ u, k ≤ u → u < us → M' 13 u = M 9 u ∧ M' 13 (6 + u) = M 6 u ∧ M' 13 (73 + u) = if M 10 u = zI 0 then zI 255 else M 10 u) ∧ (∀ u, u < k → M' 13 u = M 13 u ∧ M' 13 (6 + u) = M 13 (6 + u) ∧ M' 13 (73 + u) = M 13 (73 + u)) := by
  intro d
  induction d with
  | zero =>
    intro k f M hk hf hus
    obtain ⟨g, rfl⟩ : ∃ g, f = g + 1 := ⟨f - 1, by omega⟩
    refine ⟨M, ?_, fun _ _ _ => rfl, fun u h1 h2 => by omega, fun u _ => ⟨rfl, rfl, rfl⟩⟩
    rw [P_X7_begins_23]
    unfold P_X7_users
    simp only [zL]
    rw [Option.bind_some, hus, if_pos (by rw [zI_le] <;> omega)]
  | succ d ih =>
    intro k f M hk hf hus
    obtain ⟨g, rfl⟩ : ∃ g, f = g + 1 := ⟨f - 1, by omega⟩
    obtain ⟨i0, r0⟩ := qi (q := k) (N := 12) (by omega) (by omega)
    obtain ⟨i1, r1⟩ := qi (q := k) (N := 79) (by omega) (by omega)
    obtain ⟨i2, r2⟩ := qi (q := 6 + k) (N := 79) (by omega) (by omega)
    obtain ⟨i3, r3⟩ := qi (q := 73 + k) (N := 79) (by omega) (by omega)
    have e0 : zI 0 + zI (k : Int) = zI (k : Int) := by rw [zI_add]; congr 1; omega
    have e6 : zI 6 + zI (k : Int) = zI ((6 + k : Nat) : Int) := by rw [zI_add]; rfl
    have e73 : zI 73 + zI (k : Int) = zI ((73 + k : Nat) : Int) := by rw [zI_add]; rfl
    have e1 : zI (k : Int) + zI 1 = zI ((k + 1 : Nat) : Int) := by rw [zI_add]; rfl
    obtain ⟨M', g1, g2, g3, g4⟩ := ih (k + 1) g (qc_u2 (qc_u2 (qc_u2 M 13 k (M 9 k)) 13 (6 + k) (M 6 k)) 13 (73 + k) (if M 10 k = zI 0 then zI 255 else M 10 k)) (by omega) (by omega) (by rw [qG, if_neg (by omega), qG, if_neg (by omega), qG, if_neg (by omega)]; exact hus)
    have ev : ∀ x : Int32, (if x = zI 0 then some (zI 255) else some x) = some (if x = zI 0 then zI 255 else x) := by
      intro x
      split <;> rfl
    refine ⟨M', ?_, ?_, ?_, ?_⟩
    · rw [← g1, P_X7_begins_23]
      unfold P_X7_users
      simp only [zL]
      rw [Option.bind_some, hus, if_neg (by rw [zI_le] <;> omega), e0, e6, e73, e1]
      simp only [if_pos i0, if_pos i1, if_pos i2, if_pos i3, r0, r1, r2, r3]
      simp (disch := omega) only [qc_lE, qG, iteF]
      rw [ev, Option.bind_some]
    · intro t j ht
      rw [g2 t j ht, qG, if_neg (by omega), qG, if_neg (by omega), qG, if_neg (by omega)]
    · intro u h1 h2
      by_cases c : u = k
      · subst c
        obtain ⟨x1, x2, x3⟩ := g4 u (by omega)
        refine ⟨?_, ?_, ?_⟩
        · rw [x1, qG, if_neg (by omega), qG, if_neg (by omega), qG, if_pos ⟨rfl, rfl⟩]
        · rw [x2, qG, if_neg (by omega), qG, if_pos ⟨rfl, rfl⟩]
        · rw [x3, qG, if_pos ⟨rfl, rfl⟩]
      · obtain ⟨x1, x2, x3⟩ := g3 u (by omega) h2
        refine ⟨?_, ?_, ?_⟩
        · rw [x1, qG, if_neg (by omega), qG, if_neg (by omega), qG, if_neg (by omega)]
        · rw [x2, qG, if_neg (by omega), qG, if_neg (by omega), qG, if_neg (by omega)]
        · rw [x3]
          simp (disch := omega) only [qG, iteF]
    · intro u hu
      obtain ⟨x1, x2, x3⟩ := g4 u (by omega)
      refine ⟨?_, ?_, ?_⟩
      · rw [x1, qG, if_neg (by omega), qG, if_neg (by omega), qG, if_neg (by omega)]
      · rw [x2, qG, if_neg (by omega), qG, if_neg (by omega), qG, if_neg (by omega)]
      · rw [x3, qG, if_neg (by omega), qG, if_neg (by omega), qG, if_neg (by omega)]
theorem m_begin {us : Nat} (h6 : us ≤ 6) (M : Nat → Nat → Int32) (hus : M 2 7 = zI (us : Nat)) : ∃ M', P_X7_begins M = some M' ∧ (∀ u, u < us → M' 13 u = M 9 u ∧ M' 13 (6 + u) = M 6 u ∧ M' 13 (73 + u) = if M 10 u = zI 0 then zI 255 else M 10 u) ∧ (∀ c, 1 ≤ c → c ≤ 60 → M' 13 (12 + c) = if M 12 c = zI 0 then zI 0 else zI 1) ∧ M' 0 30 = M 2 0 ∧ M' 0 31 = M 2 1 ∧ M' 0 32 = M 2 2 ∧ M' 0 33 = M 2 3 ∧ (∀ t j, t ≠ 13 → (t ≠ 0 ∨ j < 30 ∨ 33 < j) → M' t j = M t j) := by
  have b2 := fl_run (fun f k M => P_X7_begins_2 f M (zI (k : Nat))) 13 0 79 (zI 0) (fun M => P_X7_begins_23 qc_fu M (zI 0)) (by
    intro f k M hk
    obtain ⟨iq, rq⟩ := qi (q := k) (N := 79) (by omega) (by omega)
    show P_X7_begins_2 (f + 1) M (zI (k : Nat)) = P_X7_begins_2 f _ (zI ((k + 1 : Nat) : Int))
    rw [P_X7_begins_2]
    simp only [zL]
    rw [if_neg (by rw [zI_le] <;> omega)]
    simp only [if_pos iq, rq, qc_lE, zI_add, Nat.zero_add]
    rfl) (by
    intro f M
    show P_X7_begins_2 (f + 1) M (zI ((79 : Nat) : Int)) = _
    rw [P_X7_begins_2]
    simp only [zL]
    rw [if_pos (by decide)]) 79 0 qc_fu M (by omega) (by unfold qc_fu; omega)
  have b2' : P_X7_begins M = P_X7_begins_23 qc_fu (fl M 13 0 79 (zI 0)) (zI 0) := b2
  have fn : ∀ t j, t ≠ 13 → fl M 13 0 79 (zI 0) t j = M t j := fun t j ht => if_neg (by omega)
  obtain ⟨M1, g1, g2, g3, g4⟩ := m_b23 h6 us 0 qc_fu (fl M 13 0 79 (zI 0)) (by omega) (by unfold qc_fu; omega) (by rw [fn 2 7 (by omega)]; exact hus)
  have g1' : P_X7_begins_23 qc_fu (fl M 13 0 79 (zI 0)) (zI 0) = _ := g1
  have b98 := m_b98 60 1 qc_fu M1 (by omega) (by unfold qc_fu; omega)
  have b98' : P_X7_begins_98 qc_fu M1 (zI 1) = _ := b98
  have m1 : ∀ t j, t ≠ 13 → M1 t j = M t j := fun t j ht => (g2 t j ht).trans (fn t j ht)
  refine ⟨_, by rw [b2', g1', b98'], ?_, ?_, ?_, ?_, ?_, ?_, ?_⟩
  · intro u hu
    obtain ⟨x1, x2, x3⟩ := g3 u (by omega) hu
    rw [fn 9 u (by omega)] at x1
    rw [fn 6 u (by omega)] at x2
    rw [fn 10 u (by omega)] at x3
    unfold toldM
    simp (disch := omega) only [qG, iteF]
    exact ⟨x1, x2, x3⟩
  · intro c h1 h2
    unfold toldM
    rw [qG, if_neg (by omega), qG, if_neg (by omega), qG, if_neg (by omega), qG, if_neg (by omega), if_pos (by omega), show 12 + c - 12 = c by omega, m1 12 c (by omega)]
  · unfold toldM
    simp (disch := omega) only [qG, iteF, and_self, if_true]
    exact m1 2 0 (by omega)
  · unfold toldM
    simp (disch := omega) only [qG, iteF, and_self, if_true]
    exact m1 2 1 (by omega)
  · unfold toldM
    simp (disch := omega) only [qG, iteF, and_self, if_true]
    exact m1 2 2 (by omega)
  · unfold toldM
    simp (disch := omega) only [qG, iteF, and_self, if_true]
    exact m1 2 3 (by omega)
  · intro t j h1 h2
    unfold toldM
    simp (disch := omega) only [qG, iteF]
    exact m1 t j h1
