theorem hitsN_b (V : sV) (q : Qd) : hitsN V q ≤ 8 := by
  unfold hitsN
  have : sm (fun u => b1 (hitS V q u)) (v_us V).val 0 ≤ 1 * (v_us V).val := by
    refine sm_le _ 0 ?_
    intro i _ _
    unfold b1
    split <;> omega
  omega
theorem strN_b (V : sV) : ∀ L : List Qd, strN V L ≤ 8 * L.length := by
  intro L
  induction L with
  | nil => exact Nat.le_refl _
  | cons q L ih =>
    show hitsN V q + strN V L ≤ 8 * (L.length + 1)
    have := hitsN_b V q
    omega
theorem xstep {β : Type} {I : Nat → Nat → Int32} {n t : Nat} {x : Int32} {K : (Nat → Nat → Int32) → Option β} (h : I 22 1 = zI (n : Nat)) (hn : n < 700) : (if qc_in (I 22 1) 700 then qc_let (qc_u2 I t (I 22 1).toNatClampNeg x) K else none) = K (qc_u2 I t n x) := by
  rw [h]
  simp (disch := omega) only [zI_add, zI_sub, zI_mul, zI_neg, zL, zI_le, zI_lt, zI_eq, zI_cl, zA0, zI_if, Int.toNat_natCast, zT_add, zT_mul, Int.reduceToNat, Nat.add_zero, Nat.zero_add, Int.add_zero, Int.zero_add, zc_a, zc_l, Option.bind_some, qc_let, qc_in, qc_bo, iteT, iteF, and_self, if_true, if_false, qG]
theorem xkeep {I : Nat → Nat → Int32} {n t : Nat} {x : Int32} (h : I 22 1 = zI (n : Nat)) (ht : t ≠ 22) : qc_u2 I t n x 22 1 = zI (n : Nat) := by
  rw [qG, if_neg (by omega)]
  exact h
theorem x_151 {J : Nat → Nat → Int64} {I : Nat → Nat → Int32} {p : Nat} {V : sV} (hp : p ≤ 12) (hS : SX I J p V) {L : List Qd} (hL : XL I V L) (hcap : L.length < 700) {k a b : Nat} {c : Int} (hq : gdQ (v_us V).val (k, a, b, c)) : wp (P_X2_add_151 J p I (zI k) (zI a) (zI b) (zI c) (zI (chanS V (k, a, b, c))) (bI (nearS V (chanS V (k, a, b, c)))) (zI (comS V (k, a, b, c) : Nat))) (fun I' => kp I I' ∧ XL I' V (L ++ [(k, a, b, c)])) := by
  have hl := lev_b (V := V) hq
  have hSb := strN_b V L
  obtain ⟨e1, e2, e3⟩ := hL
  unfold P_X2_add_151
  simp only [zI_add, zI_sub, zI_mul, zI_neg, zL]
  have n1 := xkeep (t := 24) (x := zI k) e1 (by omega)
  have n2 := xkeep (t := 25) (x := zI a) n1 (by omega)
  have n3 := xkeep (t := 26) (x := zI b) n2 (by omega)
  have n4 := xkeep (t := 27) (x := zI c) n3 (by omega)
  have n5 := xkeep (t := 28) (x := zI (chanS V (k, a, b, c))) n4 (by omega)
  have n6 := xkeep (t := 29) (x := zI (levS V (k, a, b, c))) n5 (by omega)
  have n7 := xkeep (t := 31) (x := zI (comS V (k, a, b, c) : Nat)) n6 (by omega)
  rw [xstep e1 hcap, xstep n1 hcap, xstep n2 hcap, xstep n3 hcap, xstep n4 hcap]
  have hS1 : SX (qc_u2 (qc_u2 (qc_u2 (qc_u2 (qc_u2 I 24 L.length (zI k)) 25 L.length (zI a)) 26 L.length (zI b)) 27 L.length (zI c)) 28 L.length (zI (chanS V (k, a, b, c)))) J p V := by
    refine SX_e (fun t _ _ => ?_) rfl hS
    unfold qc_u2 qc_u
    simp (disch := omega) only [iteF]
  rw [x_level hS1 hq, Option.bind_some, xstep n5 hcap, xstep n6 hcap, xstep n7 hcap]
  have hS2 : SX (qc_u2 (qc_u2 (qc_u2 (qc_u2 (qc_u2 (qc_u2 (qc_u2 (qc_u2 I 24 L.length (zI k)) 25 L.length (zI a)) 26 L.length (zI b)) 27 L.length (zI c)) 28 L.length (zI (chanS V (k, a, b, c)))) 29 L.length (zI (levS V (k, a, b, c)))) 31 L.length (zI (comS V (k, a, b, c) : Nat))) 30 L.length (zI 0)) J p V := by
    refine SX_e (fun t _ _ => ?_) rfl hS
    unfold qc_u2 qc_u
    simp (disch := omega) only [iteF]
  refine wp_mono (x_266 (q := (k, a, b, c)) (n := L.length) (S := strN V L) hp hcap hq (by omega) (v_us V).val 0 qc_fu _ (by omega) (by unfold qc_fu; omega) hS2 ?_ ?_ ?_ ?_ ?_ ?_ ?_ ?_) ?_
  · simp (disch := omega) only [qG, iteT, iteF, and_self, if_true]
  · simp (disch := omega) only [qG, iteT, iteF, and_self, if_true]
  · simp (disch := omega) only [qG, iteT, iteF, and_self, if_true]
  · simp (disch := omega) only [qG, iteT, iteF, and_self, if_true]
  · simp (disch := omega) only [qG, iteT, iteF, and_self, if_true]
  · simp (disch := omega) only [qG, iteF]
    exact e1
  · simp (disch := omega) only [qG, iteF]
    exact e2
  · simp (disch := omega) only [qG, iteT, iteF, and_self, if_true]
    rfl
  · intro I' ⟨k1, k2, k3, k4, k5, k6⟩
    refine ⟨⟨?_, ?_, ?_⟩, ?_, ?_, ?_⟩
    · intro t ht
      rw [k1 t (by omega) (by omega)]
      unfold qc_u2 qc_u
      simp (disch := omega) only [iteF]
    · rw [k2 4 (by omega) (by omega)]
      simp (disch := omega) only [qG, iteF]
    · rw [k2 6 (by omega) (by omega)]
      simp (disch := omega) only [qG, iteF]
    · rw [k4, List.length_append]
      rfl
    · rw [k5, strN_app]
      rfl
    · intro i hi
      rw [List.length_append, List.length_cons, List.length_nil] at hi
      rw [k1 24 (by omega) (by omega), k1 25 (by omega) (by omega), k1 26 (by omega) (by omega), k1 27 (by omega) (by omega), k1 28 (by omega) (by omega), k1 29 (by omega) (by omega), k1 31 (by omega) (by omega)]
      by_cases ei : i < L.length
      · rw [List.getElem_append_left ei, k3 i (by omega)]
        simp (disch := omega) only [qG, iteF]
        exact e3 i ei
      · have ei : i = L.length := by omega
        subst ei
        rw [List.getElem_append_right (by omega), k6]
        simp (disch := omega) only [qG, iteT, iteF, and_self, if_true, Nat.sub_self, List.getElem_cons_zero]
        exact ⟨hq, by trivial⟩
theorem x_add {J : Nat → Nat → Int64} {I : Nat → Nat → Int32} {p : Nat} {V : sV} {m : Bool} (hp : p ≤ 12) (hS : SX I J p V) (hJ : GJ J V) (hm : I 22 6 = bI m) {L : List Qd} (hL : XL I V L) (hcap : L.length < 700) {k a b : Nat} {c : Int} (hq : gdQ (v_us V).val (k, a, b, c)) : wp (P_X2_add I J p (zI k) (zI a) (zI b) (zI c)) (fun I' => kp I I' ∧ XL I' V (L ++ [(k, a, b, c)].filter (fm V m))) := by
  have hS0 := hS
  obtain ⟨hus, hbd, hgd, hsp, hod, hst, hlo, hhi, hch, hpw, hsl, hls, hlk, hsh⟩ := hS
  have hq0 := hq
  obtain ⟨g1, g2, g3, g4⟩ := hq
  dsimp only at g1 g2 g3 g4
  have hcb := chan_b (V := V) hq0
  have hco := com_b V (k, a, b, c)
  have hx := x_151 hp hS0 hL hcap hq0
  have e0 := sv_0 ⟨k, g1⟩
  have e1 := sv_1 ⟨k, g1⟩
  have e2 := sv_2 ⟨k, g1⟩
  dsimp only at e0 e1 e2
  have hn := hL.1
  -- the channel and the slots in common, as the class reads them
  have hch2 : ∃ y, (if zI 0 ≤ zI c then if qc_in (zI k) 6 then if qc_in (zI c) 8 then some ((qc_sv 2).getD (zI k).toNatClampNeg (zI 0) * I (p + 1 + 6) (zI c).toNatClampNeg) else none else none else some (zI 0)) = some (zI y) ∧ chanS V (k, a, b, c) = tA k * (v_ch V a).val + tB k * (v_ch V b).val + y := by
    rcases g4 with ⟨_, g4, g5⟩ | ⟨_, g4⟩
    · refine ⟨tC k * (v_ch V c.toNat).val, ?_, ?_⟩
      · have e : c = ((c.toNat : Nat) : Int) := by omega
        rw [e]
        simp (disch := omega) only [zI_add, zI_sub, zI_mul, zI_neg, zL, zI_le, zI_lt, zI_eq, zI_cl, zA0, zI_if, Int.toNat_natCast, zT_add, zT_mul, Int.reduceToNat, Nat.add_zero, Nat.zero_add, Int.add_zero, Int.zero_add, zc_a, zc_l, Option.bind_some, qc_let, qc_in, qc_bo, iteT, iteF, and_self, if_true, if_false, qG, hch, e2]
      · unfold chanS
        dsimp only
        rw [if_neg (by omega)]
    · refine ⟨0, ?_, ?_⟩
      · subst g4
        simp (disch := omega) only [zI_add, zI_sub, zI_mul, zI_neg, zL, zI_le, zI_lt, zI_eq, zI_cl, zA0, zI_if, Int.toNat_natCast, zT_add, zT_mul, Int.reduceToNat, Nat.add_zero, Nat.zero_add, Int.add_zero, Int.zero_add, zc_a, zc_l, Option.bind_some, qc_let, qc_in, qc_bo, iteT, iteF, and_self, if_true, if_false, qG, Int.reduceNeg]
      · unfold chanS
        dsimp only
        rw [if_pos (by omega)]
  have hsl2 : ∃ w : Nat, (if zI 0 ≤ zI c then if qc_in (zI c) 8 then some (I (p + 1 + 8) (zI c).toNatClampNeg) else none else some (zI 255)) = some (zI (w : Nat)) ∧ comS V (k, a, b, c) = ((v_sl V a).val &&& (v_sl V b).val) &&& w := by
    rcases g4 with ⟨_, g4, g5⟩ | ⟨_, g4⟩
    · refine ⟨(v_sl V c.toNat).val, ?_, ?_⟩
      · have e : c = ((c.toNat : Nat) : Int) := by omega
        rw [e]
        simp (disch := omega) only [zI_add, zI_sub, zI_mul, zI_neg, zL, zI_le, zI_lt, zI_eq, zI_cl, zA0, zI_if, Int.toNat_natCast, zT_add, zT_mul, Int.reduceToNat, Nat.add_zero, Nat.zero_add, Int.add_zero, Int.zero_add, zc_a, zc_l, Option.bind_some, qc_let, qc_in, qc_bo, iteT, iteF, and_self, if_true, if_false, qG, hsl]
      · unfold comS
        dsimp only
        rw [if_neg (by omega)]
    · refine ⟨255, ?_, ?_⟩
      · subst g4
        simp (disch := omega) only [zI_add, zI_sub, zI_mul, zI_neg, zL, zI_le, zI_lt, zI_eq, zI_cl, zA0, zI_if, Int.toNat_natCast, zT_add, zT_mul, Int.reduceToNat, Nat.add_zero, Nat.zero_add, Int.add_zero, Int.zero_add, zc_a, zc_l, Option.bind_some, qc_let, qc_in, qc_bo, iteT, iteF, and_self, if_true, if_false, qG, Int.reduceNeg]
        rfl
      · unfold comS
        dsimp only
        rw [if_pos (by omega)]
  obtain ⟨y, hy1, hy2⟩ := hch2
  obtain ⟨w, hw1, hw2⟩ := hsl2
  have hF : [(k, a, b, c)].filter (fm V m) = if chanS V (k, a, b, c) < 1 ∨ (v_bd V).val < chanS V (k, a, b, c) ∨ comS V (k, a, b, c) = 0 ∨ (m = true ∧ nearS V (chanS V (k, a, b, c)) = false) then [] else [(k, a, b, c)] := by
    split
    · rename_i h
      rw [List.filter_cons_of_neg, List.filter_nil]
      unfold fm isP
      rcases h with h | h | h | ⟨h, h2⟩
      · rw [decide_eq_false (by omega)]; simp
      · rw [decide_eq_false (by omega)]; simp
      · rw [decide_eq_false (by omega)]; simp
      · rw [h, h2]; simp
    · rename_i h
      rw [List.filter_cons_of_pos, List.filter_nil]
      unfold fm isP
      rw [decide_eq_true (by omega)]
      cases m
      · rfl
      · cases hh : nearS V (chanS V (k, a, b, c))
        · exact absurd (Or.inr (Or.inr (Or.inr ⟨rfl, hh⟩))) h
        · rfl
  rw [hF]
  unfold P_X2_add
  simp only [zI_add, zI_sub, zI_mul, zI_neg, zL] at hy1 hw1 ⊢
  rw [hy1, hw1]
  simp (disch := omega) only [zI_add, zI_sub, zI_mul, zI_neg, zL, zI_le, zI_lt, zI_eq, zI_cl, zA0, zI_if, Int.toNat_natCast, zT_add, zT_mul, Int.reduceToNat, Nat.add_zero, Nat.zero_add, Int.add_zero, Int.zero_add, zc_a, zc_l, Option.bind_some, qc_let, qc_in, qc_bo, iteT, iteF, and_self, if_true, if_false, qG, e0, e1, hch, hsl, nI_and, ← hy2, ← hw2, hbd, hn]
  by_cases c1 : chanS V (k, a, b, c) < 1
  · rw [if_pos c1, if_pos (by omega), List.append_nil]
    exact wp_some ⟨kp_r I, hL⟩
  · rw [if_neg c1]
    by_cases c2 : ((v_bd V).val : Int) < chanS V (k, a, b, c)
    · rw [if_pos c2, if_pos (by omega), List.append_nil]
      exact wp_some ⟨kp_r I, hL⟩
    · rw [if_neg c2]
      obtain ⟨cn, hcn⟩ : ∃ cn : Nat, chanS V (k, a, b, c) = (cn : Int) := ⟨(chanS V (k, a, b, c)).toNat, by omega⟩
      have hnear : (if lg_cmp (J 22 5 >>> ((zI (chanS V (k, a, b, c))).toInt64 &&& 63) &&& 1) 0 = zI 0 then some (zI 0) else some (zI 1)) = some (bI (nearS V (chanS V (k, a, b, c)))) := by
        have := hJ cn (by omega) (by omega)
        rw [hcn, ← this]
        by_cases e : bJ (J 22 5) cn = false
        · rw [if_pos (show lg_cmp (J 22 5 >>> ((zI cn).toInt64 &&& 63) &&& 1) 0 = zI 0 from (bj_cmp _ (by omega)).2 e), e]; rfl
        · rw [if_neg (show ¬ lg_cmp (J 22 5 >>> ((zI cn).toInt64 &&& 63) &&& 1) 0 = zI 0 from fun x => e ((bj_cmp _ (by omega)).1 x))]
          have : bJ (J 22 5) cn = true := by simpa using e
          rw [this]; rfl
      rw [hnear]
      simp only [Option.bind_some]
      by_cases c3 : comS V (k, a, b, c) = 0
      · rw [if_pos (by omega), if_pos (by omega), List.append_nil]
        exact wp_some ⟨kp_r I, hL⟩
      · rw [if_neg (by omega), hm]
        cases m
        · rw [if_pos (by decide), if_neg (by simp; omega)]
          exact hx
        · rw [if_neg (by decide)]
          cases hh : nearS V (chanS V (k, a, b, c))
          · rw [if_pos (by decide), if_pos (by simp), List.append_nil]
            exact wp_some ⟨kp_r I, hL⟩
          · rw [hh] at hx
            rw [if_neg (by decide), if_neg (by simp; omega)]
            exact hx
