/-! IMAGES AND WHAT CAN BE UNDONE -/
theorem cpy0 {α : Type} (f g : Nat → α) (n k : Nat) : va_cpy f g 0 0 n k = if k < n then f k else g k := by
  unfold va_cpy
  by_cases h : k < n
  · rw [if_pos (by omega), if_pos h, Nat.sub_zero, Nat.zero_add]
  · rw [if_neg (by omega), if_neg h]
theorem x_take (I : Nat → Nat → Int32) (J : Nat → Nat → Int64) {q : Nat} (hq : 37 ≤ q) : ∃ I', P_X1_take I J q 2 = some (I', qc_u2 J q 3 (J 2 6)) ∧ (∀ t, t ≠ q + 1 → t ≠ q + 2 → t ≠ q + 3 → I' t = I t) ∧ (∀ u, u < 6 → I' (q + 1 + 0) u = I 9 u) ∧ (∀ u, u < 6 → I' (q + 1 + 1) u = I 10 u) ∧ (∀ u, u < 6 → I' (q + 1 + 2) u = I 11 u) := by
  unfold P_X1_take
  simp only [qc_let]
  refine ⟨_, rfl, ?_, ?_, ?_, ?_⟩
  · intro t h1 h2 h3
    simp (disch := omega) only [qG1, iteF, iteT, if_true]
  · intro u hu
    simp (disch := omega) only [qG1, iteF, iteT, if_true, cpy0]
  · intro u hu
    simp (disch := omega) only [qG1, iteF, iteT, if_true, cpy0]
  · intro u hu
    simp (disch := omega) only [qG1, iteF, iteT, if_true, cpy0]
theorem x_giveTo (I : Nat → Nat → Int32) (J : Nat → Nat → Int64) {q : Nat} (hq : 37 ≤ q) : ∃ I', P_X1_giveTo I J q 2 = some (I', qc_u2 J 2 6 (J q 3)) ∧ (∀ t, t ≠ 9 → t ≠ 10 → t ≠ 11 → I' t = I t) ∧ (∀ u, I' 9 u = if u < 6 then I (q + 1 + 0) u else I 9 u) ∧ (∀ u, I' 10 u = if u < 6 then I (q + 1 + 1) u else I 10 u) ∧ (∀ u, I' 11 u = if u < 6 then I (q + 1 + 2) u else I 11 u) := by
  unfold P_X1_giveTo
  simp only [qc_let, Nat.reduceAdd]
  refine ⟨_, rfl, ?_, ?_, ?_, ?_⟩
  · intro t h1 h2 h3
    simp (disch := omega) only [qG1, iteF, iteT, if_true]
  · intro u
    simp (disch := omega) only [qG1, iteF, iteT, if_true, cpy0]
  · intro u
    simp (disch := omega) only [qG1, iteF, iteT, if_true, cpy0]
  · intro u
    simp (disch := omega) only [qG1, iteF, iteT, if_true, cpy0]
/-- the image of a scene -/
def imV (V : sV) : iV := (v_ch V, v_pw V, v_sl V, v_sh V)
theorem x_push13 {V : sV} {n : Nat} {I : Nat → Nat → Int32} {J : Nat → Nat → Int64} {w : Nat → Nat} (hn : n < 20) (hI : I 35 1 = zI n) (hw : WW w) (hS : SX I J 2 V) : ∃ I' J', P_X0_push_13 2 I J w = some (I', J', w) ∧ (∀ t, t ≤ 34 ∨ 117 ≤ t → I' t = I t ∧ J' t = J t) ∧ I' 35 1 = zI ((n + 1 : Nat) : Int) ∧ IX I' J' (w n) (imV V) ∧ (∀ k m, k < 20 → k ≠ n → IX I J (w k) m → IX I' J' (w k) m) := by
  obtain ⟨hw1, hw2, hw3⟩ := hw
  have hq := hw2 n hn
  obtain ⟨I', e, k1, k2, k3, k4⟩ := x_take I J (q := w n) hq.1
  obtain ⟨hus, hbd, hgd, hsp, hod, hst, hlo, hhi, hch, hpw, hsl, hls, hlk, hsh⟩ := hS
  unfold P_X0_push_13
  rw [hI]
  simp (disch := omega) only [zI_add, zI_sub, zI_mul, zI_neg, zL, zI_le, zI_lt, zI_eq, zI_cl, zA0, zI_if, Int.toNat_natCast, zT_add, zT_mul, Int.reduceToNat, Nat.add_zero, Nat.zero_add, Int.add_zero, Int.zero_add, zc_a, zc_l, Option.bind_some, qc_let, qc_in, qc_bo, iteT, iteF, and_self, if_true, if_false, qG]
  rw [e]
  simp only [Option.bind_some]
  refine ⟨_, _, rfl, ?_, ?_, ?_, ?_⟩
  · intro t ht
    constructor
    · unfold qc_u2 qc_u
      rw [if_neg (by omega)]
      exact k1 t (by omega) (by omega) (by omega)
    · unfold qc_u2 qc_u
      rw [if_neg (by omega)]
  · rw [qG, if_pos ⟨rfl, rfl⟩, k1 35 (by omega) (by omega) (by omega), hI]
    simp only [zI_add, zI_sub, zI_mul, zI_neg, zL, zc_a, zc_l]
  · unfold IX imV
    refine ⟨?_, ?_, ?_, ?_⟩
    · intro u hu
      rw [qG, if_neg (by omega), k2 u hu]
      exact hch u (by omega)
    · intro u hu
      rw [qG, if_neg (by omega), k3 u hu]
      exact hpw u (by omega)
    · intro u hu
      rw [qG, if_neg (by omega), k4 u hu]
      exact hsl u (by omega)
    · intro c hc
      rw [qG, if_pos ⟨rfl, rfl⟩]
      exact hsh c hc
  · intro k m hk hkn hm
    have hqk := hw2 k hk
    have hne : w k ≠ w n := fun x => hkn (hw3 k n hk hn x)
    obtain ⟨m1, m2, m3, m4⟩ := hm
    refine ⟨?_, ?_, ?_, ?_⟩
    · intro u hu
      rw [qG, if_neg (by omega), k1 _ (by omega) (by omega) (by omega)]
      exact m1 u hu
    · intro u hu
      rw [qG, if_neg (by omega), k1 _ (by omega) (by omega) (by omega)]
      exact m2 u hu
    · intro u hu
      rw [qG, if_neg (by omega), k1 _ (by omega) (by omega) (by omega)]
      exact m3 u hu
    · intro c hc
      rw [qG, if_neg (by omega)]
      exact m4 c hc
/-- the rooms, when the oldest goes last -/
def wN (w : Nat → Nat) : Nat → Nat := fun j => if j < 19 then w (j + 1) else if j = 19 then w 0 else w j
theorem WW_N {w : Nat → Nat} (h : WW w) : WW (wN w) := by
  obtain ⟨h1, h2, h3⟩ := h
  unfold wN
  refine ⟨?_, ?_, ?_⟩
  · intro j
    dsimp only
    split
    · exact h1 _
    · split
      · exact h1 _
      · exact h1 _
  · intro j hj
    dsimp only
    split
    · exact h2 _ (by omega)
    · rw [if_pos (by omega)]
      exact h2 _ (by omega)
  · intro i j hi hj
    dsimp only
    by_cases a : i < 19
    · by_cases b : j < 19
      · rw [if_pos a, if_pos b]
        intro e
        have := h3 _ _ (by omega) (by omega) e
        omega
      · rw [if_pos a, if_neg b, if_pos (by omega)]
        intro e
        have := h3 _ _ (by omega) (by omega) e
        omega
    · by_cases b : j < 19
      · rw [if_neg a, if_pos (by omega), if_pos b]
        intro e
        have := h3 _ _ (by omega) (by omega) e
        omega
      · omega
theorem x_drop {I : Nat → Nat → Int32} {w : Nat → Nat} (h : WW w) : P_X0_dropOldest I w = some (qc_u2 I 35 1 (zI 19), wN w) := by
  obtain ⟨h1, h2, h3⟩ := h
  have h20 : ∀ f s, P_X0_dropOldest_9 (f + 1) s (zI ((20 : Nat) : Int)) = some s := by
    intro f s
    simp (disch := omega) only [P_X0_dropOldest_9, zI_add, zI_sub, zI_mul, zI_neg, zL, zI_le, zI_lt, zI_eq, zI_cl, zA0, zI_if, Int.toNat_natCast, zT_add, zT_mul, Int.reduceToNat, Nat.add_zero, Nat.zero_add, Int.add_zero, Int.zero_add, zc_a, zc_l, Option.bind_some, qc_let, qc_in, qc_bo, iteT, iteF, and_self, if_true, if_false, qG]
  obtain ⟨e, i⟩ := it_runI (fun f k s => P_X0_dropOldest_9 f s (zI k)) (fun k s => qc_u s (k - 1) (s k)) some 20 (fun k s => 1 ≤ k ∧ s = fun j => if j + 1 < k then w (j + 1) else w j) (by
    intro f k s hk ⟨hk1, hs⟩
    subst hs
    have e1 : qc_ti ((fun j => if j + 1 < k then w (j + 1) else w j) k) := by
      dsimp only
      rw [if_neg (by omega)]
      exact h2 k hk
    constructor
    · dsimp only [P_X0_dropOldest_9]
      simp (disch := omega) only [zI_add, zI_sub, zI_mul, zI_neg, zL, zI_le, zI_lt, zI_eq, zI_cl, zA0, zI_if, Int.toNat_natCast, zT_add, zT_mul, Int.reduceToNat, Nat.add_zero, Nat.zero_add, Int.add_zero, Int.zero_add, zc_a, zc_l, Option.bind_some, qc_let, qc_in, qc_bo, iteT, iteF, and_self, if_true, if_false, qG]
      have e2 : ((k : Int) - 1).toNat = k - 1 := by omega
      have e3 : 37 ≤ w k ∧ w k < 117 ∧ (w k - 37) % 4 = 0 := h2 k hk
      rw [if_pos e3, e2]
    · refine ⟨by omega, ?_⟩
      funext j
      show (if j = k - 1 then (if k + 1 < k then w (k + 1) else w k) else (if j + 1 < k then w (j + 1) else w j)) = if j + 1 < k + 1 then w (j + 1) else w j
      by_cases a : j = k - 1
      · rw [if_pos a, if_neg (by omega), if_pos (by omega), show j + 1 = k by omega]
      · rw [if_neg a]
        by_cases b : j + 1 < k
        · rw [if_pos b, if_pos (by omega)]
        · rw [if_neg b, if_neg (by omega)]) (by
    intro f s _
    exact h20 f s) 19 1 qc_fu w (by omega) (by unfold qc_fu; omega) ⟨by omega, by funext j; rw [if_neg (by omega)]⟩
  unfold P_X0_dropOldest
  simp only [zL]
  rw [if_pos (h2 0 (by omega))]
  rw [show zI 1 = zI ((1 : Nat) : Int) from rfl, e, i.2]
  simp only [Option.bind_some, qc_let]
  congr 2
  funext j
  show (if j = 19 then w 0 else (if j + 1 < 20 then w (j + 1) else w j)) = if j < 19 then w (j + 1) else if j = 19 then w 0 else w j
  by_cases a : j = 19
  · rw [if_pos a, if_neg (by omega), if_pos a]
  · rw [if_neg a]
    by_cases b : j < 19
    · rw [if_pos (by omega), if_pos b]
    · rw [if_neg (by omega), if_neg b, if_neg a]
