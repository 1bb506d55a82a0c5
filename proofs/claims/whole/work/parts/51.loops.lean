/-! SMALL LOOPS of both sides -/
theorem set_c (f : Nat → Bool) {n : Nat} (hn : n ≤ 8) : P_J6_bitCount_0f7a4 (sSet f n 0 (zI 0)) = some (zI (sm (fun u => b1 (f u)) n 0 : Nat)) := by
  rw [sSet_cg (g := s8 (f 0) (f 1) (f 2) (f 3) (f 4) (f 5) (f 6) (f 7)) (fun i _ hi => s8_of f (by omega)), sSet_c ⟨n, by omega⟩]
  congr 2
  refine congrArg _ (sm_cg n 0 (fun i _ hi => ?_))
  unfold b1
  rw [s8_of f (show i < 8 by omega)]
theorem set_m (f : Nat → Bool) {n : Nat} (hn : n ≤ 6) : P_X7_bits (sSet f n 0 (zI 0)) = some (zI (sm (fun u => b1 (f u)) n 0 : Nat)) := by
  have e : ∀ i, i < 6 → f i = s8 (f 0) (f 1) (f 2) (f 3) (f 4) (f 5) false false i := by
    intro i hi
    have : i = 0 ∨ i = 1 ∨ i = 2 ∨ i = 3 ∨ i = 4 ∨ i = 5 := by omega
    rcases this with rfl | rfl | rfl | rfl | rfl | rfl <;> rfl
  rw [sSet_cg (g := s8 (f 0) (f 1) (f 2) (f 3) (f 4) (f 5) false false) (fun i _ hi => e i (by omega)), sSet_m ⟨n, by omega⟩]
  congr 2
  refine congrArg _ (sm_cg n 0 (fun i _ hi => ?_))
  unfold b1
  rw [e i (by omega)]
theorem set_0 (f : Nat → Bool) {n : Nat} (hn : n ≤ 8) : sSet f n 0 (zI 0) = zI 0 ↔ sm (fun u => b1 (f u)) n 0 = 0 := by
  have e := sSet_0 ⟨n, by omega⟩ (f 0) (f 1) (f 2) (f 3) (f 4) (f 5) (f 6) (f 7)
  dsimp only at e
  rw [← sSet_cg (f := f) (g := s8 (f 0) (f 1) (f 2) (f 3) (f 4) (f 5) (f 6) (f 7)) (fun i _ hi => s8_of f (by omega)), ← sm_cg (g := fun u => b1 (f u)) n 0 (fun i _ hi => by unfold b1; rw [s8_of f (show i < 8 by omega)])] at e
  exact decide_eq_decide.1 e
theorem set_d (f : Nat → Bool) {n u : Nat} (hn : n ≤ 8) (hu : u < n) : (sSet f n 0 (zI 0) >>> (zI u &&& zI 31)) &&& zI 1 = bI (f u) := by
  rw [sSet_cg (g := s8 (f 0) (f 1) (f 2) (f 3) (f 4) (f 5) (f 6) (f 7)) (fun i _ hi => s8_of f (by omega)), sSet_d ⟨n, by omega⟩ _ _ _ _ _ _ _ _ ⟨u, by omega⟩]
  rw [← s8_of f (show u < 8 by omega), decide_eq_true hu, Bool.true_and]
def tunS (V : sV) (u : Nat) : Bool := decide (0 < (v_ch V u).val)
theorem x_tuned {I : Nat → Nat → Int32} {J : Nat → Nat → Int64} {p : Nat} {V : sV} (h : SX I J p V) : P_X4_tunedUsers I p = some (sSet (tunS V) (v_us V).val 0 (zI 0)) := by
  obtain ⟨hus, hbd, hgd, hsp, hod, hst, hlo, hhi, hch, hpw, hsl, hls, hlk, hsh⟩ := h
  unfold P_X4_tunedUsers
  simp only [zL]
  refine it_run (fun f k s => P_X4_tunedUsers_4 I p f s (zI k)) (fun k a => if tunS V k = true then a ||| (zI 1 <<< (zI k &&& zI 31)) else a) some (v_us V).val ?_ ?_ (v_us V).val 0 qc_fu (zI 0) (by omega) (by unfold qc_fu; omega)
  · intro f k s hk
    simp (disch := omega) only [P_X4_tunedUsers_4, P_X4_tunedUsers_27, zI_add, zI_sub, zI_mul, zI_neg, zL, zI_le, zI_lt, zI_eq, zI_cl, zA0, zI_if, Int.toNat_natCast, zT_add, zT_mul, Int.reduceToNat, Nat.add_zero, Nat.zero_add, Int.add_zero, Int.zero_add, zc_a, zc_l, Option.bind_some, qc_let, qc_in, qc_bo, iteT, iteF, and_self, if_true, if_false, qG, hus, hch, tunS, decide_eq_true_eq]
    split
    · rw [if_neg (by omega)]
    · rw [if_pos (by omega)]
  · intro f s
    simp (disch := omega) only [P_X4_tunedUsers_4, zI_add, zI_sub, zI_mul, zI_neg, zL, zI_le, zI_lt, zI_eq, zI_cl, zA0, zI_if, Int.toNat_natCast, zT_add, zT_mul, Int.reduceToNat, Nat.add_zero, Nat.zero_add, Int.add_zero, Int.zero_add, zc_a, zc_l, Option.bind_some, qc_let, qc_in, qc_bo, iteT, iteF, and_self, if_true, if_false, qG, hus]
theorem m_tuned {M : Nat → Nat → Int32} {V : sV} (h : MX M V) : P_X7_tuned M = some (zI (sm (fun u => b1 (tunS V u)) (v_us V).val 0 : Nat)) := by
  obtain ⟨hus, hbd, hgd, hsp, hod, hst, hlo, hhi, hch, hpw, hsl, hls, hlk, hsh, h6, hl1⟩ := h
  unfold P_X7_tuned
  simp only [zL]
  refine (it_run (fun f k s => P_X7_tuned_4 M f s (zI k)) (fun k a => a + zI (b1 (tunS V k))) some (v_us V).val ?_ ?_ (v_us V).val 0 qc_fu (zI 0) (by omega) (by unfold qc_fu; omega)).trans ?_
  rotate_right
  · rw [show zI 0 = zI ((0 : Nat) : Int) from rfl, it_sm (fun k => b1 (tunS V k)), Nat.zero_add]
  · intro f k s hk
    simp (disch := omega) only [P_X7_tuned_4, P_X7_users, zI_add, zI_sub, zI_mul, zI_neg, zL, zI_le, zI_lt, zI_eq, zI_cl, zA0, zI_if, Int.toNat_natCast, zT_add, zT_mul, Int.reduceToNat, Nat.add_zero, Nat.zero_add, Int.add_zero, Int.zero_add, zc_a, zc_l, Option.bind_some, qc_let, qc_in, qc_bo, iteT, iteF, and_self, if_true, if_false, qG, hus, hch, tunS]
    split
    · rw [decide_eq_false (by omega)]; rfl
    · rw [decide_eq_true (by omega)]; rfl
  · intro f s
    simp (disch := omega) only [P_X7_tuned_4, P_X7_users, zI_add, zI_sub, zI_mul, zI_neg, zL, zI_le, zI_lt, zI_eq, zI_cl, zA0, zI_if, Int.toNat_natCast, zT_add, zT_mul, Int.reduceToNat, Nat.add_zero, Nat.zero_add, Int.add_zero, Int.zero_add, zc_a, zc_l, Option.bind_some, qc_let, qc_in, qc_bo, iteT, iteF, and_self, if_true, if_false, qG, hus]
theorem x_crowdedBy {I : Nat → Nat → Int32} {J : Nat → Nat → Int64} {p : Nat} {V : sV} (h : SX I J p V) {a : Nat} (ha : a < 8) : P_X4_crowdedBy I p (zI a) = some (sSet (crowdS V a) (v_us V).val 0 (zI 0)) := by
  have hus := h.1
  unfold P_X4_crowdedBy
  simp only [zL]
  refine it_run (fun f k s => P_X4_crowdedBy_4 I p f (zI a) s (zI k)) (fun k a_1 => if crowdS V a k = true then a_1 ||| (zI 1 <<< (zI k &&& zI 31)) else a_1) some (v_us V).val ?_ ?_ (v_us V).val 0 qc_fu (zI 0) (by omega) (by unfold qc_fu; omega)
  · intro f k s hk
    simp (disch := omega) only [P_X4_crowdedBy_4, P_X4_crowdedBy_27, zI_add, zI_sub, zI_mul, zI_neg, zL, zI_le, zI_lt, zI_eq, zI_cl, zA0, zI_if, Int.toNat_natCast, zT_add, zT_mul, Int.reduceToNat, Nat.add_zero, Nat.zero_add, Int.add_zero, Int.zero_add, zc_a, zc_l, Option.bind_some, qc_let, qc_in, qc_bo, iteT, iteF, and_self, if_true, if_false, qG, hus, x_crowd h ha (show k < 8 by omega), bI_0]
    cases e : crowdS V a k <;> simp
  · intro f s
    simp (disch := omega) only [P_X4_crowdedBy_4, zI_add, zI_sub, zI_mul, zI_neg, zL, zI_le, zI_lt, zI_eq, zI_cl, zA0, zI_if, Int.toNat_natCast, zT_add, zT_mul, Int.reduceToNat, Nat.add_zero, Nat.zero_add, Int.add_zero, Int.zero_add, zc_a, zc_l, Option.bind_some, qc_let, qc_in, qc_bo, iteT, iteF, and_self, if_true, if_false, qG, hus]
/-- the couples that crowd -/
def couples (V : sV) : Nat := sm (fun a => sm (fun b => b1 (crowdS V a b)) ((v_us V).val - (a + 1)) (a + 1)) (v_us V).val 0
theorem x_couples {I : Nat → Nat → Int32} {J : Nat → Nat → Int64} {p : Nat} {V : sV} (h : SX I J p V) : P_X4_crowdedCouples I p = some (zI (couples V : Nat)) := by
  have hus := h.1
  unfold P_X4_crowdedCouples couples
  simp only [zL]
  refine (it_run (fun f k s => P_X4_crowdedCouples_4 I p f s (zI k)) (fun a s => it (fun b s => s + zI (b1 (crowdS V a b))) ((v_us V).val - (a + 1)) (a + 1) s) some (v_us V).val ?_ ?_ (v_us V).val 0 qc_fu (zI 0) (by omega) (by unfold qc_fu; omega)).trans ?_
  rotate_right
  · congr 1
    have key : ∀ d k n, it (fun a s => it (fun b s => s + zI (b1 (crowdS V a b))) ((v_us V).val - (a + 1)) (a + 1) s) d k (zI ((n : Nat) : Int)) = zI ((n + sm (fun a => sm (fun b => b1 (crowdS V a b)) ((v_us V).val - (a + 1)) (a + 1)) d k : Nat) : Int) := by
      intro d
      induction d with
      | zero => intro k n; rfl
      | succ d ih =>
        intro k n
        unfold it sm
        rw [it_sm (fun b => b1 (crowdS V k b)), ih, Nat.add_assoc]
    have := key (v_us V).val 0 0
    rw [Nat.zero_add] at this
    exact this
  · intro f a s ha
    simp (disch := omega) only [P_X4_crowdedCouples_4, zI_add, zI_sub, zI_mul, zI_neg, zL, zI_le, zI_lt, zI_eq, zI_cl, zA0, zI_if, Int.toNat_natCast, zT_add, zT_mul, Int.reduceToNat, Nat.add_zero, Nat.zero_add, Int.add_zero, Int.zero_add, zc_a, zc_l, Option.bind_some, qc_let, qc_in, qc_bo, iteT, iteF, and_self, if_true, if_false, qG, hus]
    rw [show zI ((a : Int) + 1) = zI ((a + 1 : Nat) : Int) by congr 1]
    refine it_run (fun g b s => P_X4_crowdedCouples_16 I p (P_X4_crowdedCouples_4 I p f) g s (zI a) (zI b)) (fun b s => s + zI (b1 (crowdS V a b))) (fun s => P_X4_crowdedCouples_4 I p f s (zI ((a + 1 : Nat) : Int))) (v_us V).val ?_ ?_ _ _ qc_fu s (by omega) (by unfold qc_fu; omega)
    · intro g b s hb
      simp (disch := omega) only [P_X4_crowdedCouples_16, zI_add, zI_sub, zI_mul, zI_neg, zL, zI_le, zI_lt, zI_eq, zI_cl, zA0, zI_if, Int.toNat_natCast, zT_add, zT_mul, Int.reduceToNat, Nat.add_zero, Nat.zero_add, Int.add_zero, Int.zero_add, zc_a, zc_l, Option.bind_some, qc_let, qc_in, qc_bo, iteT, iteF, and_self, if_true, if_false, qG, hus, x_crowd h (show a < 8 by omega) (show b < 8 by omega), bI_0]
      cases e : crowdS V a b <;> rfl
    · intro g s
      simp (disch := omega) only [P_X4_crowdedCouples_16, zI_add, zI_sub, zI_mul, zI_neg, zL, zI_le, zI_lt, zI_eq, zI_cl, zA0, zI_if, Int.toNat_natCast, zT_add, zT_mul, Int.reduceToNat, Nat.add_zero, Nat.zero_add, Int.add_zero, Int.zero_add, zc_a, zc_l, Option.bind_some, qc_let, qc_in, qc_bo, iteT, iteF, and_self, if_true, if_false, qG, hus]
  · intro f s
    simp (disch := omega) only [P_X4_crowdedCouples_4, zI_add, zI_sub, zI_mul, zI_neg, zL, zI_le, zI_lt, zI_eq, zI_cl, zA0, zI_if, Int.toNat_natCast, zT_add, zT_mul, Int.reduceToNat, Nat.add_zero, Nat.zero_add, Int.add_zero, Int.zero_add, zc_a, zc_l, Option.bind_some, qc_let, qc_in, qc_bo, iteT, iteF, and_self, if_true, if_false, qG, hus]
theorem crowdS_sym (V : sV) (a b : Nat) : crowdS V a b = crowdS V b a := by
  unfold crowdS dist
  rw [Nat.and_comm]
  apply decide_eq_decide.2
  constructor
  · intro ⟨h1, h2, h3, h4, h5, h6⟩
    refine ⟨by omega, by omega, h4, h3, h5, ?_⟩
    split at h6 <;> split <;> omega
  · intro ⟨h1, h2, h3, h4, h5, h6⟩
    refine ⟨by omega, by omega, h4, h3, h5, ?_⟩
    split at h6 <;> split <;> omega
theorem crowdS_i (V : sV) (a : Nat) : crowdS V a a = false := by
  unfold crowdS
  apply decide_eq_false
  intro h
  exact h.1 rfl
/-- twice the couples are all that each one crowds with -/
theorem couples2 (V : sV) (h6 : (v_us V).val ≤ 6) : sm (fun a => sm (fun b => b1 (crowdS V a b)) (v_us V).val 0) (v_us V).val 0 = 2 * couples V := by
  unfold couples
  generalize (v_us V).val = n at *
  have s : ∀ a b, crowdS V a b = crowdS V b a := crowdS_sym V
  have i : ∀ a, crowdS V a a = false := crowdS_i V
  have : n = 0 ∨ n = 1 ∨ n = 2 ∨ n = 3 ∨ n = 4 ∨ n = 5 ∨ n = 6 := by omega
  rcases this with rfl | rfl | rfl | rfl | rfl | rfl | rfl <;> simp only [sm, Nat.reduceAdd, Nat.reduceSub, i, b1_F, s 1 0, s 2 0, s 3 0, s 4 0, s 5 0, s 2 1, s 3 1, s 4 1, s 5 1, s 3 2, s 4 2, s 5 2, s 4 3, s 5 3, s 5 4] <;> omega
theorem m_allCrowds {M : Nat → Nat → Int32} {V : sV} (h : MX M V) : P_X7_allCrowds M = some (zI (couples V : Nat)) := by
  have hus := h.1
  have h6 : (v_us V).val ≤ 6 := h.2.2.2.2.2.2.2.2.2.2.2.2.2.2.1
  have hb : sm (fun a => sm (fun b => b1 (crowdS V a b)) (v_us V).val 0) (v_us V).val 0 ≤ 8 * 8 := by
    refine Nat.le_trans (sm_le (b := 8) _ _ ?_) (by omega)
    intro i _ _
    refine Nat.le_trans (sm_le (b := 1) _ _ ?_) (by omega)
    intro j _ _
    unfold b1
    split <;> omega
  unfold P_X7_allCrowds
  simp only [zL]
  refine (it_run (fun f k s => P_X7_allCrowds_4 M f s (zI k)) (fun a s => s + zI (sm (fun b => b1 (crowdS V a b)) (v_us V).val 0 : Nat)) (fun s => some (s / zI 2)) (v_us V).val ?_ ?_ (v_us V).val 0 qc_fu (zI 0) (by omega) (by unfold qc_fu; omega)).trans ?_
  rotate_right
  · rw [show zI 0 = zI ((0 : Nat) : Int) from rfl, it_sm (fun a => sm (fun b => b1 (crowdS V a b)) (v_us V).val 0), Nat.zero_add, couples2 V h6]
    rw [couples2 V h6] at hb
    congr 1
    unfold zI
    rw [Int32.ofInt_eq_ofNat, Int32.ofInt_eq_ofNat, show Int32.ofInt 2 = Int32.ofNat 2 from rfl, ← Int32.ofNat_div (by omega) (by omega)]
    congr 1
    omega
  · intro f k s hk
    simp (disch := omega) only [P_X7_allCrowds_4, P_X7_users, zI_add, zI_sub, zI_mul, zI_neg, zL, zI_le, zI_lt, zI_eq, zI_cl, zA0, zI_if, Int.toNat_natCast, zT_add, zT_mul, Int.reduceToNat, Nat.add_zero, Nat.zero_add, Int.add_zero, Int.zero_add, zc_a, zc_l, Option.bind_some, qc_let, qc_in, qc_bo, iteT, iteF, and_self, if_true, if_false, qG, hus, m_crowdsOf h hk, set_m _ h6]
  · intro f s
    simp (disch := omega) only [P_X7_allCrowds_4, P_X7_users, zI_add, zI_sub, zI_mul, zI_neg, zL, zI_le, zI_lt, zI_eq, zI_cl, zA0, zI_if, Int.toNat_natCast, zT_add, zT_mul, Int.reduceToNat, Nat.add_zero, Nat.zero_add, Int.add_zero, Int.zero_add, zc_a, zc_l, Option.bind_some, qc_let, qc_in, qc_bo, iteT, iteF, and_self, if_true, if_false, qG, hus]
