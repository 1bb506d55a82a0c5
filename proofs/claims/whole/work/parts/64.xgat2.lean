theorem x_crew7 {J : Nat → Nat → Int64} {p s : Nat} {V : sV} (hp : p ≤ 12) (hs : s < 3) : ∀ d u f I A, u + d = (v_us V).val → d < f → SX I J p V → CR I A → A.length ≤ u → wp (P_X2_gatherCrew_7 p f I (zI s) (zI u)) (fun I' => (∀ t, t ≠ 22 → t ≠ 32 → I' t = I t) ∧ (∀ j, j ≠ 4 → I' 22 j = I 22 j) ∧ CR I' (A ++ cf (thereS V s) d u)) := by
  intro d
  induction d with
  | zero =>
    intro u f I A hc hf hS hC hA
    obtain ⟨g, rfl⟩ : ∃ g, f = g + 1 := ⟨f - 1, by omega⟩
    have hus := hS.1
    simp (disch := omega) only [P_X2_gatherCrew_7, zI_add, zI_sub, zI_mul, zI_neg, zL, zI_le, zI_lt, zI_eq, zI_cl, zA0, zI_if, Int.toNat_natCast, zT_add, zT_mul, Int.reduceToNat, Nat.add_zero, Nat.zero_add, Int.add_zero, Int.zero_add, zc_a, zc_l, Option.bind_some, qc_let, qc_in, qc_bo, iteT, iteF, and_self, if_true, if_false, qG, hus]
    refine wp_some ⟨fun _ _ _ => rfl, fun _ _ => rfl, ?_⟩
    show CR I (A ++ [])
    rw [List.append_nil]
    exact hC
  | succ d ih =>
    intro u f I A hc hf hS hC hA
    obtain ⟨g, rfl⟩ : ∃ g, f = g + 1 := ⟨f - 1, by omega⟩
    have hS0 := hS
    obtain ⟨hus, hbd, hgd, hsp, hod, hst, hlo, hhi, hch, hpw, hsl, hls, hlk, hsh⟩ := hS
    have h4 := hC.1
    have e0 : cf (thereS V s) (d + 1) u = if thereS V s u = true then u :: cf (thereS V s) d (u + 1) else cf (thereS V s) d (u + 1) := rfl
    have skip : thereS V s u = false → wp (P_X2_gatherCrew_7 p g I (zI s) (zI ((u : Int) + 1))) (fun I' => (∀ t, t ≠ 22 → t ≠ 32 → I' t = I t) ∧ (∀ j, j ≠ 4 → I' 22 j = I 22 j) ∧ CR I' (A ++ cf (thereS V s) (d + 1) u)) := by
      intro et
      rw [e0, if_neg (by rw [et]; decide)]
      have := ih (u + 1) g I A (by omega) (by omega) hS0 hC (by omega)
      simpa only [zc_a, zc_l] using this
    simp (disch := omega) only [P_X2_gatherCrew_7, P_X2_gatherCrew_63, zI_add, zI_sub, zI_mul, zI_neg, zL, zI_le, zI_lt, zI_eq, zI_cl, zA0, zI_if, Int.toNat_natCast, zT_add, zT_mul, Int.reduceToNat, Nat.add_zero, Nat.zero_add, Int.add_zero, Int.zero_add, zc_a, zc_l, Option.bind_some, qc_let, qc_in, qc_bo, iteT, iteF, and_self, if_true, if_false, qG, hus, h4, hch, hst]
    by_cases e1 : ((v_ch V u).val : Int) ≤ 0
    · rw [if_pos e1]
      apply skip
      unfold thereS
      exact decide_eq_false (by omega)
    · rw [if_neg e1]
      by_cases e2 : ((v_st V u).val : Int) = s
      · rw [if_pos e2]
        have et : thereS V s u = true := by
          unfold thereS
          exact decide_eq_true (by omega)
        rw [e0, if_pos et]
        have hS1 : SX (qc_u2 (qc_u2 I 32 A.length (zI u)) 22 4 (zI ((A.length : Int) + 1))) J p V := by
          refine SX_e (fun t _ _ => ?_) rfl hS0
          unfold qc_u2 qc_u
          rw [if_neg (by omega), if_neg (by omega)]
        have := ih (u + 1) g _ (A ++ [u]) (by omega) (by omega) hS1 ⟨by rw [qG, if_pos ⟨rfl, rfl⟩, List.length_append]; rfl, by
          intro i hi
          rw [List.length_append, List.length_cons, List.length_nil] at hi
          rw [qG, if_neg (by omega), qG]
          by_cases x : i < A.length
          · rw [if_neg (by omega), List.getElem_append_left x]
            exact hC.2 i x
          · have x : i = A.length := by omega
            subst x
            rw [if_pos ⟨rfl, rfl⟩, List.getElem_append_right (by omega)]
            simp⟩ (by rw [List.length_append, List.length_cons, List.length_nil]; omega)
        simp only [zc_a, zc_l] at this ⊢
        refine wp_mono this ?_
        intro I' ⟨k1, k2, k3⟩
        refine ⟨?_, ?_, ?_⟩
        · intro t h1 h2
          rw [k1 t h1 h2]
          unfold qc_u2 qc_u
          rw [if_neg h1, if_neg h2]
        · intro j hj
          rw [k2 j hj, qG, if_neg (by omega), qG, if_neg (by omega)]
        · rw [List.append_assoc] at k3
          exact k3
      · rw [if_neg e2]
        apply skip
        unfold thereS
        exact decide_eq_false (by omega)
theorem x_crew {I : Nat → Nat → Int32} {J : Nat → Nat → Int64} {p s : Nat} {V : sV} (hp : p ≤ 12) (hs : s < 3) (hS : SX I J p V) : wp (P_X2_gatherCrew I p (zI s)) (fun I' => (∀ t, t ≠ 22 → t ≠ 32 → I' t = I t) ∧ (∀ j, j ≠ 4 → I' 22 j = I 22 j) ∧ CR I' (crew V s)) := by
  unfold P_X2_gatherCrew
  simp only [zL, qc_let]
  have hS1 : SX (qc_u2 I 22 4 (zI 0)) J p V := SX_e (fun t _ _ => by unfold qc_u2 qc_u; rw [if_neg (by omega)]) rfl hS
  refine wp_mono (x_crew7 hp hs (v_us V).val 0 qc_fu _ [] (by omega) (by unfold qc_fu; omega) hS1 ⟨by rw [qG, if_pos ⟨rfl, rfl⟩]; rfl, by intro i hi; simp at hi⟩ (by simp)) ?_
  intro I' ⟨k1, k2, k3⟩
  refine ⟨?_, ?_, k3⟩
  · intro t h1 h2
    rw [k1 t h1 h2]
    unfold qc_u2 qc_u
    rw [if_neg h1]
  · intro j hj
    rw [k2 j hj, qG, if_neg (by omega)]
theorem CG_crew (V : sV) (s : Nat) : CG V (crew V s) := by
  refine ⟨cf_sorted _ _, fun x hx => ?_, ?_⟩
  · have := cf_mem _ _ _ hx
    omega
  · unfold crew
    rw [cf_len]
    have : sm (fun u => b1 (thereS V s u)) (v_us V).val 0 ≤ 1 * (v_us V).val := by
      refine sm_le _ 0 ?_
      intro i _ _
      unfold b1
      split <;> omega
    omega
/-! the channels that are guarded -/
def orB (d n : Nat) (a : Int64) : Int64 := it (fun i a => a ||| ((1 : Int64) <<< ((zI i).toInt64 &&& 63))) d n a
theorem orB_bit : ∀ d n a c, n + d ≤ 64 → c < 64 → bJ (orB d n a) c = (bJ a c || decide (n ≤ c ∧ c < n + d)) := by
  intro d
  induction d with
  | zero =>
    intro n a c h1 h2
    rw [decide_eq_false (by omega), Bool.or_false]
    rfl
  | succ d ih =>
    intro n a c h1 h2
    show bJ (orB d (n + 1) (a ||| ((1 : Int64) <<< ((zI n).toInt64 &&& 63)))) c = _
    rw [ih (n + 1) _ c (by omega) h2, bj_or _ (by omega) h2, Bool.or_assoc]
    congr 1
    by_cases x : n ≤ c ∧ c < n + (d + 1)
    · rw [decide_eq_true x]
      by_cases y : c = n
      · rw [decide_eq_true y, Bool.true_or]
      · rw [decide_eq_true (show n + 1 ≤ c ∧ c < n + 1 + d by omega), Bool.or_true]
    · rw [decide_eq_false x, decide_eq_false (show ¬ c = n by omega), decide_eq_false (show ¬ (n + 1 ≤ c ∧ c < n + 1 + d) by omega)]
      rfl
def g1 (V : sV) (u : Nat) : Nat := if (v_gd V).val + 1 < (v_ch V u).val then (v_ch V u).val - (v_gd V).val else 1
def g2 (V : sV) (u : Nat) : Nat := if (v_ch V u).val = 0 then 0 else if (v_ch V u).val + (v_gd V).val < 60 then (v_ch V u).val + (v_gd V).val else 60
theorem x_guarded {I : Nat → Nat → Int32} {J : Nat → Nat → Int64} {p : Nat} {V : sV} (hS : SX I J p V) : ∃ x, P_X4_guardedChannels I p = some x ∧ ∀ c : Nat, 1 ≤ c → c ≤ 60 → bJ x c = nearS V c := by
  obtain ⟨hus, hbd, hgd, hsp, hod, hst, hlo, hhi, hch, hpw, hsl, hls, hlk, hsh⟩ := hS
  unfold P_X4_guardedChannels
  simp only [zL]
  refine ⟨_, it_run (fun f k s => P_X4_guardedChannels_4 I p f s (zI k)) (fun u a => orB (g2 V u + 1 - g1 V u) (g1 V u) a) some (v_us V).val ?_ ?_ (v_us V).val 0 qc_fu 0 (by omega) (by unfold qc_fu; omega), ?_⟩
  · intro f u a hu
    have hg1 : g1 V u ≤ 61 := by unfold g1; split <;> omega
    have hg2 : g2 V u ≤ 60 := by unfold g2; split <;> (try split) <;> omega
    have e1 : (if zI 1 < zI ((v_ch V u).val : Int) - zI ((v_gd V).val : Int) then zI ((v_ch V u).val : Int) - zI ((v_gd V).val : Int) else zI 1) = zI (g1 V u : Nat) := by
      simp (disch := omega) only [zI_add, zI_sub, zI_mul, zI_neg, zL, zI_le, zI_lt, zI_eq, zI_cl]
      unfold g1
      split
      · rw [if_pos (by omega)]; congr 1; omega
      · rw [if_neg (by omega)]; rfl
    have e2 : (if zI ((v_ch V u).val : Int) = zI 0 then some (zI 0) else some (if zI ((v_ch V u).val : Int) + zI ((v_gd V).val : Int) < zI 60 then zI ((v_ch V u).val : Int) + zI ((v_gd V).val : Int) else zI 60)) = some (zI (g2 V u : Nat)) := by
      unfold g2
      by_cases h0 : (v_ch V u).val = 0
      · rw [if_pos h0, h0, if_pos (show zI ((0 : Nat) : Int) = zI 0 from rfl)]
        rfl
      · rw [if_neg h0, if_neg (by rw [zI_eq] <;> omega)]
        by_cases h6 : (v_ch V u).val + (v_gd V).val < 60
        · rw [if_pos h6, zI_add, if_pos (by rw [zI_lt] <;> omega)]
          congr 2
        · rw [if_neg h6, zI_add, if_neg (by rw [zI_lt] <;> omega)]
          rfl
    have e3 : ∀ d n f2 b, n + d = g2 V u + 1 ∨ (d = 0 ∧ g2 V u < n ∧ n ≤ 61) → d < f2 → P_X4_guardedChannels_64 I p (P_X4_guardedChannels_4 I p f) f2 b (zI u) (zI (g2 V u : Nat)) (zI n) = P_X4_guardedChannels_4 I p f (orB d n b) (zI ((u + 1 : Nat) : Int)) := by
      intro d
      induction d with
      | zero =>
        intro n f2 b h1 h2
        obtain ⟨g, rfl⟩ : ∃ g, f2 = g + 1 := ⟨f2 - 1, by omega⟩
        simp (disch := omega) only [P_X4_guardedChannels_64, zI_add, zI_sub, zI_mul, zI_neg, zL, zI_le, zI_lt, zI_eq, zI_cl, zA0, zI_if, Int.toNat_natCast, zT_add, zT_mul, Int.reduceToNat, Nat.add_zero, Nat.zero_add, Int.add_zero, Int.zero_add, zc_a, zc_l, Option.bind_some, qc_let, qc_in, qc_bo, iteT, iteF, and_self, if_true, if_false, qG]
        rfl
      | succ d ih =>
        intro n f2 b h1 h2
        obtain ⟨g, rfl⟩ : ∃ g, f2 = g + 1 := ⟨f2 - 1, by omega⟩
        simp (disch := omega) only [P_X4_guardedChannels_64, zI_add, zI_sub, zI_mul, zI_neg, zL, zI_le, zI_lt, zI_eq, zI_cl, zA0, zI_if, Int.toNat_natCast, zT_add, zT_mul, Int.reduceToNat, Nat.add_zero, Nat.zero_add, Int.add_zero, Int.zero_add, zc_a, zc_l, Option.bind_some, qc_let, qc_in, qc_bo, iteT, iteF, and_self, if_true, if_false, qG]
        have := ih (n + 1) g (b ||| ((1 : Int64) <<< ((zI n).toInt64 &&& 63))) (by omega) (by omega)
        simp only [zc_a, zc_l] at this
        rw [this]
        rfl
    have hu8 : u < 8 := by omega
    have hi : qc_in (zI u) 8 := by
      unfold qc_in
      rw [show (0 : Int32) = zI 0 from rfl, zI_lt (by omega) (by omega) (by omega) (by omega), zI_cl (by omega) (by omega)]
      omega
    have hn : ¬ zI ((v_us V).val : Int) ≤ zI u := by rw [zI_le] <;> omega
    have hr : I (p + 1 + 6) (zI u).toNatClampNeg = zI ((v_ch V u).val : Int) := by
      rw [zI_cl (by omega) (by omega), Int.toNat_natCast]
      exact hch u hu8
    rw [P_X4_guardedChannels_4]
    simp only [zL, hus, hgd, if_neg hn, if_pos hi, hr, e1, e2, qc_let, Option.bind_some]
    exact e3 _ _ qc_fu a (by omega) (by unfold qc_fu; omega)
  · intro f s
    simp (disch := omega) only [P_X4_guardedChannels_4, zI_add, zI_sub, zI_mul, zI_neg, zL, zI_le, zI_lt, zI_eq, zI_cl, zA0, zI_if, Int.toNat_natCast, zT_add, zT_mul, Int.reduceToNat, Nat.add_zero, Nat.zero_add, Int.add_zero, Int.zero_add, zc_a, zc_l, Option.bind_some, qc_let, qc_in, qc_bo, iteT, iteF, and_self, if_true, if_false, qG, hus]
  · intro c h1 h2
    have key : ∀ (G : Nat → Nat), (∀ u, G u = b1 (decide (0 < (v_ch V u).val ∧ (((v_ch V u).val : Int) - c).natAbs ≤ (v_gd V).val))) → ∀ d u a, bJ (it (fun u a => orB (g2 V u + 1 - g1 V u) (g1 V u) a) d u a) c = (bJ a c || decide (0 < sm G d u)) := by
      intro G hG d
      induction d with
      | zero =>
        intro u a
        rw [decide_eq_false (show ¬ 0 < sm G 0 u from Nat.lt_irrefl 0), Bool.or_false]
        rfl
      | succ d ih =>
        intro u a
        show bJ (it _ d (u + 1) (orB (g2 V u + 1 - g1 V u) (g1 V u) a)) c = _
        have hg1 : g1 V u ≤ 61 := by unfold g1; split <;> omega
        have hg2 : g2 V u ≤ 60 := by unfold g2; split <;> (try split) <;> omega
        rw [ih, orB_bit _ _ _ _ (by omega) (by omega), Bool.or_assoc]
        congr 1
        have e1 : decide (g1 V u ≤ c ∧ c < g1 V u + (g2 V u + 1 - g1 V u)) = decide (0 < (v_ch V u).val ∧ (((v_ch V u).val : Int) - c).natAbs ≤ (v_gd V).val) := by
          apply decide_eq_decide.2
          unfold g1 g2
          by_cases x1 : (v_gd V).val + 1 < (v_ch V u).val
          · by_cases x3 : (v_ch V u).val + (v_gd V).val < 60
            · simp (disch := omega) only [iteT, iteF]
              omega
            · simp (disch := omega) only [iteT, iteF]
              omega
          · by_cases x2 : (v_ch V u).val = 0
            · simp (disch := omega) only [iteT, iteF]
              omega
            · by_cases x3 : (v_ch V u).val + (v_gd V).val < 60
              · simp (disch := omega) only [iteT, iteF]
                omega
              · simp (disch := omega) only [iteT, iteF]
                omega
        rw [e1, show sm G (d + 1) u = G u + sm G d (u + 1) from rfl, hG u]
        cases decide (0 < (v_ch V u).val ∧ (((v_ch V u).val : Int) - c).natAbs ≤ (v_gd V).val)
        · rw [Bool.false_or, b1_F, Nat.zero_add]
        · rw [Bool.true_or, b1_T, decide_eq_true (by omega)]
    rw [key _ (fun u => rfl), show bJ 0 c = false from bj_0 c, Bool.false_or]
    rfl
