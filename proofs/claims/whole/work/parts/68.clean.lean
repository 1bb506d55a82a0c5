/-! WHAT IS CLEAN -/
def wrongN (V : sV) (d k : Nat) : Nat := sm (fun u => b1 (decide (0 < (v_ch V u).val) && !rightS V u)) d k
def cleanS (V : sV) : Bool := decide (wrongN V (v_us V).val 0 = 0) && (decide (couples V = 0) && decide (strN V (prods V) = 0))
theorem x_right {I : Nat → Nat → Int32} {J : Nat → Nat → Int64} {p : Nat} {V : sV} (h : SX I J p V) {u : Nat} (hu : u < 8) : P_X4_isRight I J p (zI u) = some (bI (rightS V u)) := by
  obtain ⟨hus, hbd, hgd, hsp, hod, hst, hlo, hhi, hch, hpw, hsl, hls, hlk, hsh⟩ := h
  have e := x_isShut (J := J) (p := p) (c := (v_ch V u).val) (by omega)
  rw [hsh _ (by omega)] at e
  unfold P_X4_isRight rightS
  simp (disch := omega) only [zI_add, zI_sub, zI_mul, zI_neg, zL, zI_le, zI_lt, zI_eq, zI_cl, zA0, zI_if, Int.toNat_natCast, zT_add, zT_mul, Int.reduceToNat, Nat.add_zero, Nat.zero_add, Int.add_zero, Int.zero_add, zc_a, zc_l, Option.bind_some, qc_let, qc_in, qc_bo, iteT, iteF, and_self, if_true, if_false, qG, hch, hlo, hhi, e]
  by_cases c1 : ((v_ch V u).val : Int) < (v_lo V u).val
  · rw [if_pos c1, decide_eq_false (by omega)]
    rfl
  · rw [if_neg c1]
    by_cases c2 : ((v_hi V u).val : Int) < (v_ch V u).val
    · rw [if_pos c2, decide_eq_false (by omega)]
      rfl
    · rw [if_neg c2]
      simp only [bI_0]
      cases e : v_sh V (v_ch V u).val
      · rw [decide_eq_true ⟨by omega, by omega, rfl⟩]
        rfl
      · rw [decide_eq_false (by intro x; exact absurd x.2.2 (by decide))]
        rfl
theorem x_allRight {I : Nat → Nat → Int32} {J : Nat → Nat → Int64} {p : Nat} {V : sV} (h : SX I J p V) : P_X4_allRight I J p = some (bI (decide (wrongN V (v_us V).val 0 = 0))) := by
  have hh := h
  obtain ⟨hus, hbd, hgd, hsp, hod, hst, hlo, hhi, hch, hpw, hsl, hls, hlk, hsh⟩ := h
  unfold P_X4_allRight
  simp only [zL]
  have key : ∀ d k f, k + d = (v_us V).val → d < f → P_X4_allRight_2 I J p f (zI k) = some (bI (decide (wrongN V d k = 0))) := by
    intro d
    induction d with
    | zero =>
      intro k f hk hf
      obtain ⟨g, rfl⟩ : ∃ g, f = g + 1 := ⟨f - 1, by omega⟩
      simp (disch := omega) only [P_X4_allRight_2, zI_add, zI_sub, zI_mul, zI_neg, zL, zI_le, zI_lt, zI_eq, zI_cl, zA0, zI_if, Int.toNat_natCast, zT_add, zT_mul, Int.reduceToNat, Nat.add_zero, Nat.zero_add, Int.add_zero, Int.zero_add, zc_a, zc_l, Option.bind_some, qc_let, qc_in, qc_bo, iteT, iteF, and_self, if_true, if_false, qG, hus]
      rfl
    | succ d ih =>
      intro k f hk hf
      obtain ⟨g, rfl⟩ : ∃ g, f = g + 1 := ⟨f - 1, by omega⟩
      have := ih (k + 1) g (by omega) (by omega)
      simp only [zc_a, zc_l] at this
      have e0 : wrongN V (d + 1) k = b1 (decide (0 < (v_ch V k).val) && !rightS V k) + wrongN V d (k + 1) := rfl
      simp (disch := omega) only [P_X4_allRight_2, P_X4_allRight_29, zI_add, zI_sub, zI_mul, zI_neg, zL, zI_le, zI_lt, zI_eq, zI_cl, zA0, zI_if, Int.toNat_natCast, zT_add, zT_mul, Int.reduceToNat, Nat.add_zero, Nat.zero_add, Int.add_zero, Int.zero_add, zc_a, zc_l, Option.bind_some, qc_let, qc_in, qc_bo, iteT, iteF, and_self, if_true, if_false, qG, hus, hch, x_right hh (show k < 8 by omega), bI_0, this]
      by_cases c1 : ((v_ch V k).val : Int) ≤ 0
      · rw [if_pos c1, e0, decide_eq_false (show ¬ 0 < (v_ch V k).val by omega), Bool.false_and, b1_F, Nat.zero_add]
      · rw [if_neg c1, e0, decide_eq_true (show 0 < (v_ch V k).val by omega), Bool.true_and]
        cases rightS V k
        · rw [if_pos rfl, decide_eq_false (show ¬ (b1 (!false) + wrongN V d (k + 1) = 0) by show ¬ (1 + _ = 0); omega)]
          rfl
        · rw [if_neg (by decide)]
          show _ = some (bI (decide (0 + wrongN V d (k + 1) = 0)))
          rw [Nat.zero_add]
  exact key (v_us V).val 0 qc_fu (by omega) (by unfold qc_fu; omega)
theorem strN_flt (V : sV) (P : Qd → Bool) : ∀ L : List Qd, (∀ q ∈ L, P q = false → hitsN V q = 0) → strN V (L.filter P) = strN V L := by
  intro L
  induction L with
  | nil => intro _; rfl
  | cons q L ih =>
    intro h
    have e := ih (fun x hx => h x (List.mem_cons_of_mem _ hx))
    cases ep : P q
    · rw [List.filter_cons_of_neg (by rw [ep]; decide), e]
      show _ = hitsN V q + strN V L
      rw [h q List.mem_cons_self ep, Nat.zero_add]
    · rw [List.filter_cons_of_pos ep]
      show hitsN V q + _ = hitsN V q + _
      rw [e]
theorem strN_fm (V : sV) (m : Bool) (T : List Qd) : strN V (T.filter (fm V m)) = strN V (prdS V T) := by
  have e : T.filter (fm V m) = (prdS V T).filter (fun q => !m || nearS V (chanS V q)) := by
    unfold prdS fm
    rw [List.filter_filter]
    congr 1
    funext q
    rw [Bool.and_comm]
  rw [e]
  apply strN_flt
  intro q _ hq
  have hn : nearS V (chanS V q) = false := by
    revert hq
    cases nearS V (chanS V q)
    · intro _; rfl
    · intro h; rw [Bool.or_true] at h; exact absurd h (by decide)
  unfold hitsN
  rw [sm_0]
  intro i _ hi
  rw [far_0 hn (by omega)]
  rfl
/-- what of the list is told in the end: how many hits, at least whether there are any -/
theorem XS_n {I : Nat → Nat → Int32} {V : sV} {m : Bool} (h : XS I V m (candT V 3 0)) : ∃ n : Nat, I 22 2 = zI n ∧ n ≤ 5600 ∧ (n = 0 ↔ strN V (prods V) = 0) := by
  have hcap := (cap_b V).1
  rcases h with h | ⟨e, D, d1, d2, d3⟩
  · refine ⟨_, h.2.1, ?_, ?_⟩
    · have := strN_b V ((candT V 3 0).filter (fm V m))
      have := List.length_filter_le (fm V m) (candT V 3 0)
      omega
    · rw [strN_fm]
      exact Iff.rfl
  · refine ⟨_, d2.2.1, ?_, ?_⟩
    · have := strN_b V (D.filter (fm V m))
      have := List.length_filter_le (fm V m) D
      have := d1.length_le
      omega
    · obtain ⟨R, hR⟩ := d1
      have e1 : strN V (prods V) = strN V (D.filter (fm V m)) + strN V (R.filter (fm V m)) := by
        unfold prods
        rw [← strN_fm V m, ← hR, List.filter_append, strN_app]
      constructor
      · intro x; omega
      · intro x; omega
/-- the class's look -/
theorem x_clean {I : Nat → Nat → Int32} {J : Nat → Nat → Int64} {p : Nat} {V : sV} (hp : p ≤ 12) (h : SX I J p V) : wp (P_X2_allClean I J p) (fun r => r.1 = bI (cleanS V) ∧ (∀ t, t < 22 ∨ 32 < t → r.2.1 t = I t) ∧ gJ J r.2.2) := by
  unfold P_X2_allClean
  rw [x_allRight h]
  simp only [Option.bind_some, zL, bI_0]
  have hcb : couples V ≤ 64 := by
    unfold couples
    refine Nat.le_trans (sm_le (b := 8) _ _ ?_) (by omega)
    intro i _ _
    refine Nat.le_trans (sm_le (b := 1) _ _ ?_) (by omega)
    intro j _ _
    unfold b1
    split <;> omega
  unfold cleanS
  cases decide (wrongN V (v_us V).val 0 = 0)
  · rw [if_pos rfl]
    exact wp_some ⟨rfl, fun _ _ => rfl, fun _ _ => rfl⟩
  · rw [if_neg (by decide), x_couples h, Option.bind_some, Bool.true_and]
    by_cases c1 : couples V = 0
    · rw [if_pos (by rw [zI_le] <;> omega), decide_eq_true c1, Bool.true_and]
      refine wp_bind (x_gather true hp h (cap_b V).1) ?_
      intro r ⟨r1, r2, r3⟩
      obtain ⟨n, n1, n2, n3⟩ := XS_n r3
      rw [n1]
      by_cases c2 : n = 0
      · rw [if_pos (by rw [zI_eq] <;> omega), decide_eq_true (n3.1 c2)]
        exact wp_some ⟨rfl, r1, r2⟩
      · rw [if_neg (by rw [zI_eq] <;> omega), decide_eq_false (fun x => c2 (n3.2 x))]
        exact wp_some ⟨rfl, r1, r2⟩
    · rw [if_neg (by rw [zI_le] <;> omega), decide_eq_false c1, Bool.false_and]
      exact wp_some ⟨rfl, fun _ _ => rfl, fun _ _ => rfl⟩
theorem x_anyStrike {I : Nat → Nat → Int32} {J : Nat → Nat → Int64} {p : Nat} {V : sV} (hp : p ≤ 12) (h : SX I J p V) : wp (P_X2_anyStrike I J p) (fun r => r.1 = bI (!decide (strN V (prods V) = 0)) ∧ (∀ t, t < 22 ∨ 32 < t → r.2.1 t = I t) ∧ gJ J r.2.2) := by
  unfold P_X2_anyStrike
  simp only [zL]
  refine wp_bind (x_gather true hp h (cap_b V).1) ?_
  intro r ⟨r1, r2, r3⟩
  obtain ⟨n, n1, n2, n3⟩ := XS_n r3
  rw [n1]
  by_cases c2 : n = 0
  · rw [if_pos (by rw [zI_le] <;> omega), decide_eq_true (n3.1 c2)]
    exact wp_some ⟨rfl, r1, r2⟩
  · rw [if_neg (by rw [zI_le] <;> omega), decide_eq_false (fun x => c2 (n3.2 x))]
    exact wp_some ⟨rfl, r1, r2⟩
/-- the reference's look -/
theorem m_51 {M : Nat → Nat → Int32} {V : sV} (h : MX M V) {L : List Qd} (hL : ML M V L) (hlen : L.length ≤ 300) : ∀ d i f, i + d = L.length → d < f → P_X7_isClean_51 f M (zI i) = some (bI (decide (strN V (L.drop i) = 0)), M) := by
  intro d
  induction d with
  | zero =>
    intro i f hi hf
    obtain ⟨g, rfl⟩ : ∃ g, f = g + 1 := ⟨f - 1, by omega⟩
    simp (disch := omega) only [P_X7_isClean_51, zI_add, zI_sub, zI_mul, zI_neg, zL, zI_le, zI_lt, zI_eq, zI_cl, zA0, zI_if, Int.toNat_natCast, zT_add, zT_mul, Int.reduceToNat, Nat.add_zero, Nat.zero_add, Int.add_zero, Int.zero_add, zc_a, zc_l, Option.bind_some, qc_let, qc_in, qc_bo, iteT, iteF, and_self, if_true, if_false, qG, hL.1]
    rw [List.drop_of_length_le (by omega)]
    rfl
  | succ d ih =>
    intro i f hi hf
    obtain ⟨g, rfl⟩ : ∃ g, f = g + 1 := ⟨f - 1, by omega⟩
    have hil : i < L.length := by omega
    have := ih (i + 1) g (by omega) (by omega)
    simp only [zc_a, zc_l] at this
    simp (disch := omega) only [P_X7_isClean_51, zI_add, zI_sub, zI_mul, zI_neg, zL, zI_le, zI_lt, zI_eq, zI_cl, zA0, zI_if, Int.toNat_natCast, zT_add, zT_mul, Int.reduceToNat, Nat.add_zero, Nat.zero_add, Int.add_zero, Int.zero_add, zc_a, zc_l, Option.bind_some, qc_let, qc_in, qc_bo, iteT, iteF, and_self, if_true, if_false, qG, hL.1, m_hitsOf h hL hlen hil, this, set_0]
    rw [List.drop_eq_getElem_cons hil]
    show _ = some (bI (decide (hitsN V L[i] + strN V (L.drop (i + 1)) = 0)), M)
    by_cases e : sm (fun u => b1 (hitS V L[i] u)) (v_us V).val 0 = 0
    · rw [if_pos e, show hitsN V L[i] = 0 from e, Nat.zero_add]
    · rw [if_neg e, decide_eq_false (by unfold hitsN; omega)]
      rfl
theorem crowd_u {V : sV} {u : Nat} (h : (v_ch V u).val = 0) (n : Nat) : sm (fun b => b1 (crowdS V u b)) n 0 = 0 := by
  rw [sm_0]
  intro i _ _
  unfold crowdS
  rw [decide_eq_false (by omega)]
  rfl
theorem couples_0 {V : sV} (h6 : (v_us V).val ≤ 6) : couples V = 0 ↔ ∀ u, u < (v_us V).val → sm (fun b => b1 (crowdS V u b)) (v_us V).val 0 = 0 := by
  have e := couples2 V h6
  constructor
  · intro h
    rw [h] at e
    have := (sm_0 _ _).1 e
    intro u hu
    exact this u (by omega) (by omega)
  · intro h
    have : sm (fun a => sm (fun b => b1 (crowdS V a b)) (v_us V).val 0) (v_us V).val 0 = 0 := by
      rw [sm_0]
      intro i _ hi
      exact h i (by omega)
    omega
theorem m_clean {M : Nat → Nat → Int32} {V : sV} (h : MX M V) : wp (P_X7_isClean M) (fun r => r.1 = bI (cleanS V) ∧ eP M r.2) := by
  have hM := h
  obtain ⟨hus, hbd, hgd, hsp, hod, hst, hlo, hhi, hch, hpw, hsl, hls, hlk, hsh, h6, hl1⟩ := h
  have hcap := (cap_b V).2 h6
  unfold P_X7_isClean
  simp only [zL]
  have key : ∀ d k f, k + d = (v_us V).val → d < f → (∀ i, i < k → 0 < (v_ch V i).val → rightS V i = true ∧ sm (fun b => b1 (crowdS V i b)) (v_us V).val 0 = 0) → wp (P_X7_isClean_2 f M (zI k)) (fun r => r.1 = bI (cleanS V) ∧ eP M r.2) := by
    intro d
    induction d with
    | zero =>
      intro k f hk hf hA
      obtain ⟨g, rfl⟩ : ∃ g, f = g + 1 := ⟨f - 1, by omega⟩
      simp (disch := omega) only [P_X7_isClean_2, P_X7_users, zI_add, zI_sub, zI_mul, zI_neg, zL, zI_le, zI_lt, zI_eq, zI_cl, zA0, zI_if, Int.toNat_natCast, zT_add, zT_mul, Int.reduceToNat, Nat.add_zero, Nat.zero_add, Int.add_zero, Int.zero_add, zc_a, zc_l, Option.bind_some, qc_let, qc_in, qc_bo, iteT, iteF, and_self, if_true, if_false, qG, hus]
      refine wp_bind (m_lays_prods hM (by omega)) ?_
      intro M1 ⟨he, hL⟩
      have hlen : (prods V).length ≤ 300 := by
        have := prdS_len V (candT V 3 0)
        show (prdS V (candT V 3 0)).length ≤ 300
        omega
      have := m_51 (MX_e (eP_M he) hM) hL hlen (prods V).length 0 qc_fu (by omega) (by unfold qc_fu; omega)
      rw [show zI 0 = zI ((0 : Nat) : Int) from rfl, this, List.drop_zero]
      refine wp_some ⟨?_, he⟩
      unfold cleanS
      have w0 : wrongN V (v_us V).val 0 = 0 := by
        unfold wrongN
        rw [sm_0]
        intro i _ hi
        by_cases c : 0 < (v_ch V i).val
        · rw [(hA i (by omega) c).1, Bool.not_true, Bool.and_false]
          rfl
        · rw [decide_eq_false c, Bool.false_and]
          rfl
      have c0 : couples V = 0 := by
        rw [couples_0 h6]
        intro u hu
        by_cases c : 0 < (v_ch V u).val
        · exact (hA u (by omega) c).2
        · exact crowd_u (by omega) _
      rw [decide_eq_true w0, decide_eq_true c0, Bool.true_and, Bool.true_and]
    | succ d ih =>
      intro k f hk hf hA
      obtain ⟨g, rfl⟩ : ∃ g, f = g + 1 := ⟨f - 1, by omega⟩
      have hk2 : k < (v_us V).val := by omega
      have next : (0 < (v_ch V k).val → rightS V k = true ∧ sm (fun b => b1 (crowdS V k b)) (v_us V).val 0 = 0) → wp (P_X7_isClean_2 g M (zI ((k : Int) + 1))) (fun r => r.1 = bI (cleanS V) ∧ eP M r.2) := by
        intro hx
        have := ih (k + 1) g (by omega) (by omega) (by
          intro i hi c
          by_cases e : i = k
          · subst e; exact hx c
          · exact hA i (by omega) c)
        simpa only [zc_a, zc_l] using this
      simp (disch := omega) only [P_X7_isClean_2, P_X7_isClean_39, P_X7_users, zI_add, zI_sub, zI_mul, zI_neg, zL, zI_le, zI_lt, zI_eq, zI_cl, zA0, zI_if, Int.toNat_natCast, zT_add, zT_mul, Int.reduceToNat, Nat.add_zero, Nat.zero_add, Int.add_zero, Int.zero_add, zc_a, zc_l, Option.bind_some, qc_let, qc_in, qc_bo, iteT, iteF, and_self, if_true, if_false, qG, hus, hch, m_right hM hk2, m_crowdsOf hM hk2, bI_0, set_0]
      by_cases c1 : ((v_ch V k).val : Int) ≤ 0
      · rw [if_pos c1]
        exact next (fun x => by omega)
      · rw [if_neg c1]
        cases er : rightS V k
        · rw [if_pos rfl]
          refine wp_some ⟨?_, eP_r M⟩
          unfold cleanS
          have w1 : ¬ wrongN V (v_us V).val 0 = 0 := by
            unfold wrongN
            rw [sm_0]
            intro x
            have := x k (by omega) (by omega)
            rw [er, decide_eq_true (show 0 < (v_ch V k).val by omega)] at this
            exact absurd this (by decide)
          rw [decide_eq_false w1, Bool.false_and]
          rfl
        · rw [if_neg (by decide)]
          by_cases c2 : sm (fun b => b1 (crowdS V k b)) (v_us V).val 0 = 0
          · rw [if_pos c2]
            exact next (fun _ => ⟨er, c2⟩)
          · rw [if_neg c2]
            refine wp_some ⟨?_, eP_r M⟩
            unfold cleanS
            have c3 : ¬ couples V = 0 := by
              rw [couples_0 h6]
              intro x
              exact c2 (x k hk2)
            rw [decide_eq_false c3, Bool.false_and, Bool.and_false]
            rfl
  exact key (v_us V).val 0 qc_fu (by omega) (by unfold qc_fu; omega) (by omega)
