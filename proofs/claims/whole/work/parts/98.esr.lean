/-! WHAT HAS BEEN READ so far, in both -/
def CP (N lo : Nat) (x y : Int32) : Prop := ∃ v : Nat, lo ≤ v ∧ v < N ∧ x = zI (v : Nat) ∧ y = zI (v : Nat)
def S1 (I M : Nat → Nat → Int32) : Prop := CP 6 0 (I 122 2) (M 2 11) ∧ CP 21 1 (I 122 3) (M 2 12) ∧ CP 8 0 (I 122 4) (M 2 13) ∧ CP 100000 0 (I 122 5) (M 2 19) ∧ CP 100 0 (I 123 0) (M 2 14) ∧ CP 100 0 (I 123 1) (M 2 15) ∧ CP 100 0 (I 123 2) (M 2 16)
def T1 (I M : Nat → Nat → Int32) : Prop := ∃ tb : Fin 64, I 121 11 = zI tb.val ∧ M 3 0 = bI (tb.val.testBit 0) ∧ M 3 1 = bI (tb.val.testBit 1) ∧ M 3 2 = bI (tb.val.testBit 2) ∧ M 3 3 = bI (tb.val.testBit 3) ∧ M 3 4 = bI (tb.val.testBit 4) ∧ M 3 10 = bI (tb.val.testBit 5)
def S2 (bd : Nat) (I M : Nat → Nat → Int32) : Prop := 4 ≤ bd ∧ bd ≤ 60 ∧ I 122 1 = zI (bd : Nat) ∧ M 2 10 = zI (bd : Nat)
/-- one user, as it has been told -/
def SU (bd u : Nat) (I M : Nat → Nat → Int32) : Prop := I 125 u = M 4 (6 + u) ∧ I 125 u ≠ zI 0 ∧ CP 3 0 (I 126 u) (M 5 (6 + u)) ∧ CP 31 0 (I 130 u) (M 6 (6 + u)) ∧ (∃ lo hi : Nat, 1 ≤ lo ∧ lo ≤ hi ∧ hi ≤ bd ∧ I 127 u = zI (lo : Nat) ∧ M 7 (6 + u) = zI (lo : Nat) ∧ I 128 u = zI (hi : Nat) ∧ M 8 (6 + u) = zI (hi : Nat)) ∧ CP (bd + 1) 0 (I 129 u) (M 9 (6 + u)) ∧ (∃ s : Nat, s < 256 ∧ M 10 (6 + u) = zI (s : Nat) ∧ I 131 u = zI ((if s = 0 then 255 else s : Nat) : Int))
/-- which users have had something told of them once -/
def SB (us : Nat) (x : Int32) (r : Nat → Int32) : Prop := ∃ fb : Fin 64, x = zI fb.val ∧ ∀ u, u < 6 → (fb.val.testBit u = true ↔ (u < us ∧ r (6 + u) ≠ zI 0))
/-- the rows hold what they may -/
def SG (us : Nat) (I : Nat → Nat → Int32) : Prop := (∀ u, us ≤ u → u < 8 → I 129 u = zI 0) ∧ ∀ u, u < 8 → (∃ x : Fin 3, I 126 u = zI x.val) ∧ (∃ x : Fin 31, I 130 u = zI x.val) ∧ (∃ x : Fin 61, I 127 u = zI x.val) ∧ (∃ x : Fin 61, I 128 u = zI x.val) ∧ (∃ x : Fin 256, I 131 u = zI x.val)
def S3 (us bd : Nat) (I M : Nat → Nat → Int32) : Prop := us ≤ 6 ∧ I 122 0 = zI (us : Nat) ∧ M 2 17 = zI (us : Nat) ∧ (∀ u, u < us → SU bd u I M) ∧ SB us (I 121 12) (M 9) ∧ SB us (I 121 13) (M 10) ∧ SG us I
def S4 (bl bd : Nat) (I : Nat → Nat → Int32) (J : Nat → Nat → Int64) (M : Nat → Nat → Int32) : Prop := bl ≤ 6 ∧ I 121 10 = zI (bl : Nat) ∧ M 2 18 = zI (bl : Nat) ∧ ∃ sh : Nat → Bool, (∀ c, c < 64 → bJ (J 122 6) c = sh c) ∧ (∀ c, c < 61 → M 12 (61 + c) = bI (sh c)) ∧ (∀ c, c = 0 ∨ bd < c → c < 64 → sh c = false) ∧ (bl = 0 → ∀ c, c < 64 → sh c = false)
def S5 (I M : Nat → Nat → Int32) : Prop := ∃ lk : Nat → Fin 101, ∀ k, k < 9 → I 124 k = zI (lkX k (lk k)) ∧ M 11 (9 + k) = zI (lkM (lk k)) ∧ (k % 4 = 0 → (lk k).val = 100)
def SR (us bd bl : Nat) (I : Nat → Nat → Int32) (J : Nat → Nat → Int64) (M : Nat → Nat → Int32) : Prop := S1 I M ∧ T1 I M ∧ S2 bd I M ∧ S3 us bd I M ∧ S4 bl bd I J M ∧ S5 I M ∧ M 0 14 = bI (decide (0 < us ∨ 0 < bl))
/-! what they don't speak of may change -/
theorem S1_c {I I' M M' : Nat → Nat → Int32} (a : ∀ j, 2 ≤ j → j ≤ 5 → I' 122 j = I 122 j) (b : ∀ j, I' 123 j = I 123 j) (c : ∀ j, 11 ≤ j → j ≠ 17 → j ≠ 18 → M' 2 j = M 2 j) (h : S1 I M) : S1 I' M' := by
  unfold S1 at *
  rw [a 2 (by omega) (by omega), a 3 (by omega) (by omega), a 4 (by omega) (by omega), a 5 (by omega) (by omega), b 0, b 1, b 2, c 11 (by omega) (by omega) (by omega), c 12 (by omega) (by omega) (by omega), c 13 (by omega) (by omega) (by omega), c 14 (by omega) (by omega) (by omega), c 15 (by omega) (by omega) (by omega), c 16 (by omega) (by omega) (by omega), c 19 (by omega) (by omega) (by omega)]
  exact h
theorem T1_c {I I' M M' : Nat → Nat → Int32} (a : I' 121 11 = I 121 11) (b : ∀ j, M' 3 j = M 3 j) (h : T1 I M) : T1 I' M' := by
  unfold T1 at *
  simp only [a, b]
  exact h
theorem S2_c {bd : Nat} {I I' M M' : Nat → Nat → Int32} (a : I' 122 1 = I 122 1) (b : M' 2 10 = M 2 10) (h : S2 bd I M) : S2 bd I' M' := by
  unfold S2 at *
  rw [a, b]
  exact h
theorem SU_c {bd u : Nat} {I I' M M' : Nat → Nat → Int32} (a : ∀ t, 125 ≤ t → t ≤ 131 → I' t u = I t u) (b : ∀ t, 4 ≤ t → t ≤ 10 → M' t (6 + u) = M t (6 + u)) (h : SU bd u I M) : SU bd u I' M' := by
  unfold SU at *
  rw [a 125 (by omega) (by omega), a 126 (by omega) (by omega), a 127 (by omega) (by omega), a 128 (by omega) (by omega), a 129 (by omega) (by omega), a 130 (by omega) (by omega), a 131 (by omega) (by omega), b 4 (by omega) (by omega), b 5 (by omega) (by omega), b 6 (by omega) (by omega), b 7 (by omega) (by omega), b 8 (by omega) (by omega), b 9 (by omega) (by omega), b 10 (by omega) (by omega)]
  exact h
theorem SB_c {us : Nat} {x x' : Int32} {r r' : Nat → Int32} (a : x' = x) (b : ∀ u, u < us → r' (6 + u) = r (6 + u)) (h : SB us x r) : SB us x' r' := by
  obtain ⟨fb, f1, f2⟩ := h
  refine ⟨fb, a.trans f1, ?_⟩
  intro u hu
  rw [f2 u hu]
  constructor
  · intro z; exact ⟨z.1, by rw [b u z.1]; exact z.2⟩
  · intro z; exact ⟨z.1, by rw [← b u z.1]; exact z.2⟩
theorem S3_c {us bd : Nat} {I I' M M' : Nat → Nat → Int32} (a : ∀ t j, 124 < t → t ≤ 131 → I' t j = I t j) (a0 : I' 122 0 = I 122 0) (a1 : I' 121 12 = I 121 12) (a2 : I' 121 13 = I 121 13) (b : ∀ t j, 4 ≤ t → t ≤ 10 → M' t j = M t j) (b0 : M' 2 17 = M 2 17) (h : S3 us bd I M) : S3 us bd I' M' := by
  obtain ⟨h1, h2, h3, h4, h5, h6, h7⟩ := h
  refine ⟨h1, a0.trans h2, b0.trans h3, fun u hu => SU_c (fun t x y => a t u (by omega) y) (fun t x y => b t _ x y) (h4 u hu), SB_c a1 (fun u _ => b 9 _ (by omega) (by omega)) h5, SB_c a2 (fun u _ => b 10 _ (by omega) (by omega)) h6, ?_⟩
  refine ⟨fun u x y => by rw [a 129 u (by omega) (by omega)]; exact h7.1 u x y, fun u hu => ?_⟩
  rw [a 126 u (by omega) (by omega), a 127 u (by omega) (by omega), a 128 u (by omega) (by omega), a 130 u (by omega) (by omega), a 131 u (by omega) (by omega)]
  exact h7.2 u hu
theorem S4_c {bl bd : Nat} {I I' : Nat → Nat → Int32} {J J' : Nat → Nat → Int64} {M M' : Nat → Nat → Int32} (a : I' 121 10 = I 121 10) (b : M' 2 18 = M 2 18) (c : J' 122 6 = J 122 6) (d : ∀ j, M' 12 j = M 12 j) (h : S4 bl bd I J M) : S4 bl bd I' J' M' := by
  unfold S4 at *
  simp only [a, b, c, d]
  exact h
theorem S5_c {I I' M M' : Nat → Nat → Int32} (a : ∀ j, I' 124 j = I 124 j) (b : ∀ j, M' 11 j = M 11 j) (h : S5 I M) : S5 I' M' := by
  unfold S5 at *
  simp only [a, b]
  exact h
theorem SR_f {us bd bl : Nat} {I I' : Nat → Nat → Int32} {J : Nat → Nat → Int64} {M M' : Nat → Nat → Int32} (hI : fX I I') (hM : gX M M') (h : SR us bd bl I J M) : SR us bd bl I' J M' := by
  obtain ⟨h1, h2, h3, h4, h5, h6, h7⟩ := h
  exact ⟨S1_c (fun j _ _ => hI 122 j (by omega)) (fun j => hI 123 j (by omega)) (fun j _ _ _ => hM 2 j (by omega)) h1, T1_c (hI 121 11 (by omega)) (fun j => hM 3 j (by omega)) h2, S2_c (hI 122 1 (by omega)) (hM 2 10 (by omega)) h3, S3_c (fun t j _ _ => hI t j (by omega)) (hI 122 0 (by omega)) (hI 121 12 (by omega)) (hI 121 13 (by omega)) (fun t j _ _ => hM t j (by omega)) (hM 2 17 (by omega)) h4, S4_c (hI 121 10 (by omega)) (hM 2 18 (by omega)) rfl (fun j => hM 12 j (by omega)) h5, S5_c (fun j => hI 124 j (by omega)) (fun j => hM 11 j (by omega)) h6, (hM 0 14 (by omega)).trans h7⟩
/-- told once -/
theorem tld_d : ∀ (tb : Fin 64) (k : Fin 6), (zI tb.val &&& zI ((2 ^ k.val : Nat) : Int) = zI 0 ↔ tb.val.testBit k.val = false) ∧ zI tb.val ||| zI ((2 ^ k.val : Nat) : Int) = zI ((tb.val ||| 2 ^ k.val : Nat) : Int) ∧ (tb.val ||| 2 ^ k.val) < 64 ∧ ∀ j : Fin 6, (tb.val ||| 2 ^ k.val).testBit j.val = (tb.val.testBit j.val || decide (j.val = k.val)) := by decide +kernel
/-- the word of a bit -/
def wB1 (k : Nat) : Nat := if k = 5 then 10 else k
theorem SR_told {us bd bl : Nat} {I : Nat → Nat → Int32} {J : Nat → Nat → Int64} {M : Nat → Nat → Int32} {k : Nat} (hk : k < 6) (h : SR us bd bl I J M) : SR us bd bl (qc_u2 I 121 11 (I 121 11 ||| zI ((2 ^ k : Nat) : Int))) J (qc_u2 M 3 (wB1 k) (zI 1)) := by
  obtain ⟨h1, h2, h3, h4, h5, h6, h7⟩ := h
  have nI : ∀ t j, (t ≠ 121 ∨ j ≠ 11) → qc_u2 I 121 11 (I 121 11 ||| zI ((2 ^ k : Nat) : Int)) t j = I t j := fun t j c => by rw [qG, if_neg (by omega)]
  have nM : ∀ t j, t ≠ 3 → qc_u2 M 3 (wB1 k) (zI 1) t j = M t j := fun t j c => by rw [qG, if_neg (by omega)]
  refine ⟨S1_c (fun j _ _ => nI 122 j (by omega)) (fun j => nI 123 j (by omega)) (fun j _ _ _ => nM 2 j (by omega)) h1, ?_, S2_c (nI 122 1 (by omega)) (nM 2 10 (by omega)) h3, S3_c (fun t j _ _ => nI t j (by omega)) (nI 122 0 (by omega)) (nI 121 12 (by omega)) (nI 121 13 (by omega)) (fun t j _ _ => nM t j (by omega)) (nM 2 17 (by omega)) h4, S4_c (nI 121 10 (by omega)) (nM 2 18 (by omega)) rfl (fun j => nM 12 j (by omega)) h5, S5_c (fun j => nI 124 j (by omega)) (fun j => nM 11 j (by omega)) h6, (nM 0 14 (by omega)).trans h7⟩
  obtain ⟨tb, t0, t1, t2, t3, t4, t5, t6⟩ := h2
  obtain ⟨d1, d2, d3, d4⟩ := tld_d tb ⟨k, hk⟩
  dsimp only at d1 d2 d3 d4
  have b0 := d4 0
  have b1' := d4 1
  have b2 := d4 2
  have b3 := d4 3
  have b4 := d4 4
  have b5 := d4 5
  have at' : ∀ j i : Nat, i < 6 → j = wB1 i → M 3 j = bI (tb.val.testBit i) → (tb.val ||| 2 ^ k).testBit i = (tb.val.testBit i || decide (i = k)) → qc_u2 M 3 (wB1 k) (zI 1) 3 j = bI ((tb.val ||| 2 ^ k).testBit i) := by
    intro j i hi hj e1 e2
    rw [e2, qG]
    by_cases c : i = k
    · rw [if_pos ⟨rfl, by rw [hj, c]⟩, decide_eq_true c, Bool.or_true]
      rfl
    · rw [if_neg (fun z => c (by
        have z2 := z.2
        rw [hj] at z2
        unfold wB1 at z2
        split at z2 <;> split at z2 <;> omega)), decide_eq_false c, Bool.or_false]
      exact e1
  refine ⟨⟨tb.val ||| 2 ^ k, d3⟩, ?_, at' 0 0 (by omega) rfl t1 b0, at' 1 1 (by omega) rfl t2 b1', at' 2 2 (by omega) rfl t3 b2, at' 3 3 (by omega) rfl t4 b3, at' 4 4 (by omega) rfl t5 b4, at' 10 5 (by omega) rfl t6 b5⟩
  rw [qG, if_pos ⟨rfl, rfl⟩, t0, d2]
theorem told_m {I M : Nat → Nat → Int32} (h : T1 I M) {k : Nat} (hk : k < 6) : ∃ b : Bool, (I 121 11 &&& zI ((2 ^ k : Nat) : Int) = zI 0 ↔ b = false) ∧ M 3 (wB1 k) = bI b := by
  obtain ⟨tb, t0, t1, t2, t3, t4, t5, t6⟩ := h
  obtain ⟨d1, d2, d3, d4⟩ := tld_d tb ⟨k, hk⟩
  dsimp only at d1
  refine ⟨tb.val.testBit k, by rw [t0]; exact d1, ?_⟩
  have : k = 0 ∨ k = 1 ∨ k = 2 ∨ k = 3 ∨ k = 4 ∨ k = 5 := by omega
  rcases this with rfl | rfl | rfl | rfl | rfl | rfl
  · exact t1
  · exact t2
  · exact t3
  · exact t4
  · exact t5
  · exact t6
/-! one number told -/
theorem CP_n {N lo v : Nat} {x y : Int32} (h1 : lo ≤ v) (h2 : v < N) (hx : x = zI (v : Nat)) (hy : y = zI (v : Nat)) : CP N lo x y := ⟨v, h1, h2, hx, hy⟩
/-- the cells of the numbers that are told once -/
def cI (k : Nat) : Nat × Nat := if k < 4 then (122, k + 2) else (123, k - 4)
def cM (k : Nat) : Nat := if k < 3 then k + 11 else if k = 3 then 19 else k + 10
def cN (k : Nat) : Nat := if k = 0 then 6 else if k = 1 then 21 else if k = 2 then 8 else if k = 3 then 100000 else 100
theorem SR_num {us bd bl : Nat} {I : Nat → Nat → Int32} {J : Nat → Nat → Int64} {M : Nat → Nat → Int32} {k v : Nat} (hk : k < 7) (hv : v < cN k) (hl : k = 1 → 1 ≤ v) (h : SR us bd bl I J M) : SR us bd bl (qc_u2 I (cI k).1 (cI k).2 (zI (v : Nat))) J (qc_u2 M 2 (cM k) (zI (v : Nat))) := by
  obtain ⟨h1, h2, h3, h4, h5, h6, h7⟩ := h
  have hc : ((cI k).1 = 122 ∧ 2 ≤ (cI k).2 ∧ (cI k).2 ≤ 5) ∨ (cI k).1 = 123 := by
    unfold cI
    split
    · left; dsimp only; omega
    · right; rfl
  have hm : 11 ≤ cM k ∧ cM k ≠ 17 ∧ cM k ≠ 18 := by
    unfold cM
    split
    · omega
    · split <;> omega
  have nI : ∀ t j, (t ≠ 122 ∧ t ≠ 123 ∨ t = 122 ∧ (j < 2 ∨ 5 < j)) → qc_u2 I (cI k).1 (cI k).2 (zI (v : Nat)) t j = I t j := fun t j c => by rw [qG, if_neg (by omega)]
  have nM : ∀ t j, (t ≠ 2 ∨ j < 11 ∨ j = 17 ∨ j = 18) → qc_u2 M 2 (cM k) (zI (v : Nat)) t j = M t j := fun t j c => by rw [qG, if_neg (by omega)]
  refine ⟨?_, T1_c (nI 121 11 (by omega)) (fun j => nM 3 j (by omega)) h2, S2_c (nI 122 1 (by omega)) (nM 2 10 (by omega)) h3, S3_c (fun t j _ _ => nI t j (by omega)) (nI 122 0 (by omega)) (nI 121 12 (by omega)) (nI 121 13 (by omega)) (fun t j _ _ => nM t j (by omega)) (nM 2 17 (by omega)) h4, S4_c (nI 121 10 (by omega)) (nM 2 18 (by omega)) rfl (fun j => nM 12 j (by omega)) h5, S5_c (fun j => nI 124 j (by omega)) (fun j => nM 11 j (by omega)) h6, (nM 0 14 (by omega)).trans h7⟩
  have one : ∀ i lo : Nat, i < 7 → (i = 1 → lo = 1) → (i ≠ 1 → lo = 0) → CP (cN i) lo (I (cI i).1 (cI i).2) (M 2 (cM i)) → CP (cN i) lo (qc_u2 I (cI k).1 (cI k).2 (zI (v : Nat)) (cI i).1 (cI i).2) (qc_u2 M 2 (cM k) (zI (v : Nat)) 2 (cM i)) := by
    intro i lo hi l1 l2 hcp
    by_cases c : i = k
    · subst c
      rw [qG, if_pos ⟨rfl, rfl⟩, qG, if_pos ⟨rfl, rfl⟩]
      refine CP_n ?_ hv rfl rfl
      by_cases c1 : i = 1
      · rw [l1 c1]; exact hl c1
      · rw [l2 c1]; omega
    · have e1 : ¬ ((cI i).1 = (cI k).1 ∧ (cI i).2 = (cI k).2) := by
        unfold cI
        split <;> split <;> dsimp only <;> omega
      have e2 : ¬ (2 = 2 ∧ cM i = cM k) := by
        unfold cM
        split <;> split <;> (try split) <;> (try split) <;> omega
      rw [qG, if_neg e1, qG, if_neg e2]
      exact hcp
  obtain ⟨g1, g2, g3, g4, g5, g6, g7⟩ := h1
  exact ⟨one 0 0 (by omega) (by omega) (by omega) g1, one 1 1 (by omega) (by omega) (by omega) g2, one 2 0 (by omega) (by omega) (by omega) g3, one 3 0 (by omega) (by omega) (by omega) g4, one 4 0 (by omega) (by omega) (by omega) g5, one 5 0 (by omega) (by omega) (by omega) g6, one 6 0 (by omega) (by omega) (by omega) g7⟩
/-- the band -/
theorem SR_band {bd : Nat} {I : Nat → Nat → Int32} {J : Nat → Nat → Int64} {M : Nat → Nat → Int32} {v : Nat} (h4v : 4 ≤ v) (hv : v ≤ 60) (h : SR 0 bd 0 I J M) : SR 0 v 0 (qc_u2 I 122 1 (zI (v : Nat))) J (qc_u2 M 2 10 (zI (v : Nat))) := by
  obtain ⟨h1, h2, h3, h4, h5, h6, h7⟩ := h
  have nI : ∀ t j, (t ≠ 122 ∨ j ≠ 1) → qc_u2 I 122 1 (zI (v : Nat)) t j = I t j := fun t j c => by rw [qG, if_neg (by omega)]
  have nM : ∀ t j, (t ≠ 2 ∨ j ≠ 10) → qc_u2 M 2 10 (zI (v : Nat)) t j = M t j := fun t j c => by rw [qG, if_neg (by omega)]
  have h4' : S3 0 v I M := by
    obtain ⟨x1, x2, x3, x4, x5, x6, x7⟩ := h4
    exact ⟨x1, x2, x3, fun u hu => absurd hu (by omega), x5, x6, x7⟩
  have h5' : S4 0 v I J M := by
    obtain ⟨x1, x2, x3, sh, x4, x5, x6, x7⟩ := h5
    exact ⟨x1, x2, x3, sh, x4, x5, fun c _ hc => x7 rfl c hc, x7⟩
  refine ⟨S1_c (fun j _ _ => nI 122 j (by omega)) (fun j => nI 123 j (by omega)) (fun j _ _ _ => nM 2 j (by omega)) h1, T1_c (nI 121 11 (by omega)) (fun j => nM 3 j (by omega)) h2, ⟨h4v, hv, ?_, ?_⟩, S3_c (fun t j _ _ => nI t j (by omega)) (nI 122 0 (by omega)) (nI 121 12 (by omega)) (nI 121 13 (by omega)) (fun t j _ _ => nM t j (by omega)) (nM 2 17 (by omega)) h4', S4_c (nI 121 10 (by omega)) (nM 2 18 (by omega)) rfl (fun j => nM 12 j (by omega)) h5', S5_c (fun j => nI 124 j (by omega)) (fun j => nM 11 j (by omega)) h6, (nM 0 14 (by omega)).trans h7⟩
  · rw [qG, if_pos ⟨rfl, rfl⟩]
  · rw [qG, if_pos ⟨rfl, rfl⟩]
