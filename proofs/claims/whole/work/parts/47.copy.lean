/-! LOOPS THAT COPY a stretch of a row -/
theorem it_snoc {σ : Type} (st : Nat → σ → σ) : ∀ d k s, it st (d + 1) k s = st (k + d) (it st d k s) := by
  intro d
  induction d with
  | zero => intro k s; rfl
  | succ d ih =>
    intro k s
    show it st (d + 1) (k + 1) (st k s) = st (k + (d + 1)) (it st d (k + 1) (st k s))
    rw [ih]
    congr 1
    omega
def cpM (M : Nat → Nat → Int32) (T S sb db n : Nat) : Nat → Nat → Int32 := qc_u M T (va_cpy (M S) (M T) sb db n)
theorem cpM_at (M : Nat → Nat → Int32) (T S sb db n t j : Nat) : cpM M T S sb db n t j = if t = T ∧ db ≤ j ∧ j < db + n then M S (sb + (j - db)) else M t j := by
  unfold cpM qc_u va_cpy
  by_cases h : t = T
  · subst h
    by_cases h2 : db ≤ j ∧ j < db + n
    · rw [if_pos rfl, if_pos h2, if_pos ⟨rfl, h2⟩]
    · rw [if_pos rfl, if_neg h2, if_neg (fun x => h2 x.2)]
  · rw [if_neg h, if_neg (fun x => h x.1)]
theorem cpM_ne (M : Nat → Nat → Int32) (T S sb db n : Nat) {t : Nat} (h : t ≠ T) : cpM M T S sb db n t = M t := by
  unfold cpM qc_u
  rw [if_neg h]
theorem cp_it {M : Nat → Nat → Int32} {T S sb db : Nat} (h : S ≠ T ∨ db ≤ sb) : ∀ n, it (fun i (M : Nat → Nat → Int32) => qc_u2 M T (db + i) (M S (sb + i))) n 0 M = cpM M T S sb db n := by
  intro n
  induction n with
  | zero =>
    funext t j
    rw [cpM_at, if_neg (by omega)]
    rfl
  | succ n ih =>
    rw [it_snoc, ih, Nat.zero_add]
    funext t j
    rw [qG, cpM_at, cpM_at, cpM_at]
    by_cases h1 : t = T ∧ j = db + n
    · rw [if_pos h1, if_neg (by omega), if_pos (by omega), show sb + (j - db) = sb + n by omega]
    · rw [if_neg h1]
      by_cases h2 : t = T ∧ db ≤ j ∧ j < db + n
      · rw [if_pos h2, if_pos (by omega)]
      · rw [if_neg h2, if_neg (by omega)]
theorem cp_run {β : Type} (L : Nat → Nat → (Nat → Nat → Int32) → Option β) (T S sb db n : Nat) (fin : (Nat → Nat → Int32) → Option β) (hS : S ≠ T ∨ db ≤ sb) (hs : ∀ f i M, i < n → L (f + 1) i M = L f (i + 1) (qc_u2 M T (db + i) (M S (sb + i)))) (he : ∀ f M, L (f + 1) n M = fin M) {f : Nat} (hf : n < f) (M : Nat → Nat → Int32) : L f 0 M = fin (cpM M T S sb db n) := by
  rw [it_run L (fun i M => qc_u2 M T (db + i) (M S (sb + i))) fin n hs he n 0 f M (by omega) hf, cp_it hS]
theorem m_lays {M : Nat → Nat → Int32} {k : Nat} (hk : k ≤ 20) : P_X7_lays M (zI k) = some (cpM M 14 13 0 (79 * k) 79) := by
  unfold P_X7_lays
  simp only [zL]
  refine cp_run (fun f i M => P_X7_lays_2 f M (zI k) (zI i)) 14 13 0 (79 * k) 79 some (by omega) ?_ ?_ (by unfold qc_fu; omega) M
  · intro f i M hi
    simp (disch := omega) only [P_X7_lays_2, zI_add, zI_sub, zI_mul, zI_neg, zL, zI_le, zI_lt, zI_eq, zI_cl, zA0, zI_if, Int.toNat_natCast, zT_add, zT_mul, Int.reduceToNat, Nat.add_zero, Nat.zero_add, Int.add_zero, Int.zero_add, zc_a, zc_l, Option.bind_some, qc_let, qc_in, qc_bo, iteT, iteF, if_true, if_false, qG]
  · intro f M
    simp (disch := omega) only [P_X7_lays_2, zI_add, zI_sub, zI_mul, zI_neg, zL, zI_le, zI_lt, zI_eq, zI_cl, zA0, zI_if, Int.toNat_natCast, zT_add, zT_mul, Int.reduceToNat, Nat.add_zero, Nat.zero_add, Int.add_zero, Int.zero_add, zc_a, zc_l, Option.bind_some, qc_let, qc_in, qc_bo, iteT, iteF, if_true, if_false, qG]
theorem m_laysBack {M : Nat → Nat → Int32} {k : Nat} (hk : k ≤ 20) : P_X7_laysBack M (zI k) = some (cpM M 13 14 (79 * k) 0 79) := by
  unfold P_X7_laysBack
  simp only [zL]
  refine cp_run (fun f i M => P_X7_laysBack_2 f M (zI k) (zI i)) 13 14 (79 * k) 0 79 some (by omega) ?_ ?_ (by unfold qc_fu; omega) M
  · intro f i M hi
    simp (disch := omega) only [P_X7_laysBack_2, zI_add, zI_sub, zI_mul, zI_neg, zL, zI_le, zI_lt, zI_eq, zI_cl, zA0, zI_if, Int.toNat_natCast, zT_add, zT_mul, Int.reduceToNat, Nat.add_zero, Nat.zero_add, Int.add_zero, Int.zero_add, zc_a, zc_l, Option.bind_some, qc_let, qc_in, qc_bo, iteT, iteF, if_true, if_false, qG]
  · intro f M
    simp (disch := omega) only [P_X7_laysBack_2, zI_add, zI_sub, zI_mul, zI_neg, zL, zI_le, zI_lt, zI_eq, zI_cl, zA0, zI_if, Int.toNat_natCast, zT_add, zT_mul, Int.reduceToNat, Nat.add_zero, Nat.zero_add, Int.add_zero, Int.zero_add, zc_a, zc_l, Option.bind_some, qc_let, qc_in, qc_bo, iteT, iteF, if_true, if_false, qG]
theorem m_goesAside {M : Nat → Nat → Int32} : P_X7_goesAside M = some (cpM M 15 13 0 0 79) := by
  unfold P_X7_goesAside
  simp only [zL]
  refine cp_run (fun f i M => P_X7_goesAside_2 f M (zI i)) 15 13 0 0 79 some (by omega) ?_ ?_ (by unfold qc_fu; omega) M
  · intro f i M hi
    simp (disch := omega) only [P_X7_goesAside_2, zI_add, zI_sub, zI_mul, zI_neg, zL, zI_le, zI_lt, zI_eq, zI_cl, zA0, zI_if, Int.toNat_natCast, zT_add, zT_mul, Int.reduceToNat, Nat.add_zero, Nat.zero_add, Int.add_zero, Int.zero_add, zc_a, zc_l, Option.bind_some, qc_let, qc_in, qc_bo, iteT, iteF, if_true, if_false, qG]
  · intro f M
    simp (disch := omega) only [P_X7_goesAside_2, zI_add, zI_sub, zI_mul, zI_neg, zL, zI_le, zI_lt, zI_eq, zI_cl, zA0, zI_if, Int.toNat_natCast, zT_add, zT_mul, Int.reduceToNat, Nat.add_zero, Nat.zero_add, Int.add_zero, Int.zero_add, zc_a, zc_l, Option.bind_some, qc_let, qc_in, qc_bo, iteT, iteF, if_true, if_false, qG]
def toldM (M : Nat → Nat → Int32) : Nat → Nat → Int32 := qc_u2 (qc_u2 (qc_u2 (qc_u2 M 0 30 (M 2 0)) 0 31 (M 2 1)) 0 32 (M 2 2)) 0 33 (M 2 3)
theorem m_asTold {M : Nat → Nat → Int32} : P_X7_asTold M = some (toldM M) := by
  unfold P_X7_asTold toldM
  simp (disch := omega) only [qc_let, qG, iteT, iteF]
theorem m_comesBack {M : Nat → Nat → Int32} : P_X7_comesBack M = some (toldM (cpM M 13 15 0 0 79)) := by
  unfold P_X7_comesBack
  simp only [zL]
  refine cp_run (fun f i M => P_X7_comesBack_2 f M (zI i)) 13 15 0 0 79 (fun M => some (toldM M)) (by omega) ?_ ?_ (by unfold qc_fu; omega) M
  · intro f i M hi
    simp (disch := omega) only [P_X7_comesBack_2, zI_add, zI_sub, zI_mul, zI_neg, zL, zI_le, zI_lt, zI_eq, zI_cl, zA0, zI_if, Int.toNat_natCast, zT_add, zT_mul, Int.reduceToNat, Nat.add_zero, Nat.zero_add, Int.add_zero, Int.zero_add, zc_a, zc_l, Option.bind_some, qc_let, qc_in, qc_bo, iteT, iteF, if_true, if_false, qG]
  · intro f M
    simp (disch := omega) only [P_X7_comesBack_2, zI_add, zI_sub, zI_mul, zI_neg, zL, zI_le, zI_lt, zI_eq, zI_cl, zA0, zI_if, Int.toNat_natCast, zT_add, zT_mul, Int.reduceToNat, Nat.add_zero, Nat.zero_add, Int.add_zero, Int.zero_add, zc_a, zc_l, Option.bind_some, qc_let, qc_in, qc_bo, iteT, iteF, if_true, if_false, qG, m_asTold]
/-- what remembering leaves, by how many there are -/
def remM (M : Nat → Nat → Int32) (n : Nat) : Nat → Nat → Int32 := if n = 20 then qc_u2 (cpM (qc_u2 (cpM M 14 14 79 0 1501) 0 28 (zI 19)) 14 13 0 (79 * 19) 79) 0 28 (zI 20) else qc_u2 (cpM M 14 13 0 (79 * n) 79) 0 28 (zI ((n + 1 : Nat) : Int))
theorem m_remembers {M : Nat → Nat → Int32} {n : Nat} (hn : n ≤ 20) (h : M 0 28 = zI n) : P_X7_remembers M = some (remM M n) := by
  unfold P_X7_remembers remM
  by_cases e : n = 20
  · subst e
    rw [h]
    simp (disch := omega) only [zI_add, zI_sub, zI_mul, zI_neg, zL, zI_le, zI_lt, zI_eq, zI_cl, zA0, zI_if, Int.toNat_natCast, zT_add, zT_mul, Int.reduceToNat, Nat.add_zero, Nat.zero_add, Int.add_zero, Int.zero_add, zc_a, zc_l, Option.bind_some, qc_let, qc_in, qc_bo, iteT, iteF, if_true, if_false, qG]
    refine (cp_run (fun f i M => P_X7_remembers_11 f M (zI i)) 14 14 79 0 1501 (fun M => P_X7_remembers_49 (qc_u2 M 0 28 (M 0 28 - zI 1))) (by omega) ?_ ?_ (f := qc_fu) (by unfold qc_fu; omega) M).trans ?_
    · intro f i M hi
      simp (disch := omega) only [P_X7_remembers_11, zI_add, zI_sub, zI_mul, zI_neg, zL, zI_le, zI_lt, zI_eq, zI_cl, zA0, zI_if, Int.toNat_natCast, zT_add, zT_mul, Int.reduceToNat, Nat.add_zero, Nat.zero_add, Int.add_zero, Int.zero_add, zc_a, zc_l, Option.bind_some, qc_let, qc_in, qc_bo, iteT, iteF, if_true, if_false, qG]
    · intro f M
      simp (disch := omega) only [P_X7_remembers_11, zI_add, zI_sub, zI_mul, zI_neg, zL, zI_le, zI_lt, zI_eq, zI_cl, zA0, zI_if, Int.toNat_natCast, zT_add, zT_mul, Int.reduceToNat, Nat.add_zero, Nat.zero_add, Int.add_zero, Int.zero_add, zc_a, zc_l, Option.bind_some, qc_let, qc_in, qc_bo, iteT, iteF, if_true, if_false, qG]
    · unfold P_X7_remembers_49
      have e19 : qc_u2 (cpM M 14 14 79 0 1501) 0 28 (cpM M 14 14 79 0 1501 0 28 - zI 1) = qc_u2 (cpM M 14 14 79 0 1501) 0 28 (zI 19) := by
        rw [cpM_ne _ _ _ _ _ _ (by omega), h]
        rfl
      have e20 : qc_u2 (cpM M 14 14 79 0 1501) 0 28 (zI 19) 0 28 = zI ((19 : Nat) : Int) := by
        rw [qG, if_pos ⟨rfl, rfl⟩]
        rfl
      rw [e19, e20, m_lays (by omega)]
      simp only [Option.bind_some, qc_let]
      rw [cpM_ne _ _ _ _ _ _ (by omega), e20]
      rfl
  · rw [h]
    simp (disch := omega) only [zI_add, zI_sub, zI_mul, zI_neg, zL, zI_le, zI_lt, zI_eq, zI_cl, zA0, zI_if, Int.toNat_natCast, zT_add, zT_mul, Int.reduceToNat, Nat.add_zero, Nat.zero_add, Int.add_zero, Int.zero_add, zc_a, zc_l, Option.bind_some, qc_let, qc_in, qc_bo, iteT, iteF, if_true, if_false, qG]
    unfold P_X7_remembers_49
    rw [h, m_lays hn]
    simp (disch := omega) only [zI_add, zI_sub, zI_mul, zI_neg, zL, zI_le, zI_lt, zI_eq, zI_cl, zA0, zI_if, Int.toNat_natCast, zT_add, zT_mul, Int.reduceToNat, Nat.add_zero, Nat.zero_add, Int.add_zero, Int.zero_add, zc_a, zc_l, Option.bind_some, qc_let, qc_in, qc_bo, iteT, iteF, if_true, if_false, qG, cpM_at, h]
