/-! THE REFERENCE: whom a product hits -/
theorem m_isIn {M : Nat → Nat → Int32} {V : sV} {L : List Qd} (hL : ML M V L) (hlen : L.length ≤ 300) {i u : Nat} (hi : i < L.length) (hu : u < 8) : P_X7_isIn M (zI i) (zI u) = some (bI (decide (L[i].2.1 = u ∨ L[i].2.2.1 = u ∨ L[i].2.2.2 = (u : Int)))) := by
  obtain ⟨⟨g1, g2, g3, g4⟩, h16, h17, h18, h19, h20, h21, h22⟩ := hL.2 i hi
  have g5 : -2 ≤ L[i].2.2.2 ∧ L[i].2.2.2 < 9 := by omega
  unfold P_X7_isIn
  simp (disch := omega) only [zI_add, zI_sub, zI_mul, zI_neg, zL, zI_le, zI_lt, zI_eq, zI_cl, zA0, zI_if, Int.toNat_natCast, zT_add, zT_mul, Int.reduceToNat, Nat.add_zero, Nat.zero_add, Int.add_zero, Int.zero_add, zc_a, zc_l, Option.bind_some, qc_let, qc_in, qc_bo, iteT, iteF, and_self, if_true, if_false, qG, h17, h18, h19]
  repeat' split
  all_goals try simp (disch := omega) only [zI_add, zI_sub, zI_mul, zI_neg, zL, zI_le, zI_lt, zI_eq, zI_cl, zA0, zI_if, Int.toNat_natCast, zT_add, zT_mul, Int.reduceToNat, Nat.add_zero, Nat.zero_add, Int.add_zero, Int.zero_add, zc_a, zc_l, Option.bind_some, qc_let, qc_in, qc_bo, iteT, iteF, and_self, if_true, if_false, qG, true_or, or_true, if_true]
  all_goals first | (exfalso; omega) | (rw [bI_n (by omega)]) | (rw [bI_p (by omega)])
theorem m_may {M : Nat → Nat → Int32} {V : sV} (h : MX M V) {L : List Qd} (hL : ML M V L) (hlen : L.length ≤ 300) {i u : Nat} (hi : i < L.length) (hu : u < (v_us V).val) : P_X7_mayHit M (zI i) (zI u) = some (bI (mayS V L[i] u)) := by
  have hin := m_isIn hL hlen hi (show u < 8 by omega)
  obtain ⟨hus, hbd, hgd, hsp, hod, hst, hlo, hhi, hch, hpw, hsl, hls, hlk, hsh, h6, hl1⟩ := h
  obtain ⟨hq, h16, h17, h18, h19, h20, h21, h22⟩ := hL.2 i hi
  have hl := lev_b (V := V) hq
  have hcb := com_b V L[i]
  obtain ⟨g1, g2, g3, g4⟩ := hq
  have g5 : -2 ≤ L[i].2.2.2 ∧ L[i].2.2.2 < 9 := by omega
  have hcm : comS V L[i] &&& (v_sl V u).val < 256 := Nat.lt_of_le_of_lt Nat.and_le_left hcb
  have e3 : 3 * ((v_st V L[i].2.1).val : Int) + (v_st V u).val = ((3 * (v_st V L[i].2.1).val + (v_st V u).val : Nat) : Int) := by omega
  have hlk2 := hlk (3 * (v_st V L[i].2.1).val + (v_st V u).val) (by omega)
  unfold P_X7_mayHit mayS
  simp (disch := omega) only [zI_add, zI_sub, zI_mul, zI_neg, zL, zI_le, zI_lt, zI_eq, zI_cl, zA0, zI_if, Int.toNat_natCast, zT_add, Int.reduceToNat, Option.bind_some, qc_let, qc_in, qc_bo, iteT, iteF, and_self, if_true, if_false, qG, Nat.zero_add, Int.zero_add, hst, hch, hsl, h17, h21, h22, nI_and, hin, bI_0, decide_eq_false_iff_not, e3, hlk2, lkM]
  repeat' split
  all_goals try simp (disch := omega) only [zI_add, zI_sub, zI_mul, zI_neg, zL, zI_le, zI_lt, zI_eq, zI_cl, zA0, zI_if, Int.toNat_natCast, zT_add, zT_mul, Int.reduceToNat, Nat.add_zero, Nat.zero_add, Int.add_zero, Int.zero_add, zc_a, zc_l, Option.bind_some, qc_let, qc_in, qc_bo, iteT, iteF, and_self, if_true, if_false, qG, true_or, or_true, if_true]
  all_goals first | (exfalso; omega) | (rw [bI_n (by omega)]) | (rw [bI_p (by omega)])
theorem m_hits {M : Nat → Nat → Int32} {V : sV} (h : MX M V) {L : List Qd} (hL : ML M V L) (hlen : L.length ≤ 300) {i u : Nat} (hi : i < L.length) (hu : u < (v_us V).val) : P_X7_hits M (zI i) (zI u) = some (bI (hitS V L[i] u)) := by
  have hm := m_may h hL hlen hi hu
  obtain ⟨hus, hbd, hgd, hsp, hod, hst, hlo, hhi, hch, hpw, hsl, hls, hlk, hsh, h6, hl1⟩ := h
  obtain ⟨hq, h16, h17, h18, h19, h20, h21, h22⟩ := hL.2 i hi
  have hcb := chan_b (V := V) hq
  unfold P_X7_hits hitS
  rw [hm]
  cases mayS V L[i] u
  · rfl
  · rw [Bool.true_and]
    simp (disch := omega) only [zI_add, zI_sub, zI_mul, zI_neg, zL, zI_le, zI_lt, zI_eq, zI_cl, zA0, zI_if, Int.toNat_natCast, zT_add, zT_mul, Int.reduceToNat, Nat.add_zero, Nat.zero_add, Int.add_zero, Int.zero_add, zc_a, zc_l, Option.bind_some, qc_let, qc_in, qc_bo, iteT, iteF, and_self, if_true, if_false, qG, bI_T, hch, h20, hgd, m_without]
    repeat' split
    all_goals try simp (disch := omega) only [zI_add, zI_sub, zI_mul, zI_neg, zL, zI_le, zI_lt, zI_eq, zI_cl, zA0, zI_if, Int.toNat_natCast, zT_add, zT_mul, Int.reduceToNat, Nat.add_zero, Nat.zero_add, Int.add_zero, Int.zero_add, zc_a, zc_l, Option.bind_some, qc_let, qc_in, qc_bo, iteT, iteF, and_self, if_true, if_false, qG, true_or, or_true, if_true]
    all_goals first | (exfalso; omega) | (rw [bI_n (by omega)]) | (rw [bI_p (by omega)])
theorem m_hitsOf {M : Nat → Nat → Int32} {V : sV} (h : MX M V) {L : List Qd} (hL : ML M V L) (hlen : L.length ≤ 300) {i : Nat} (hi : i < L.length) : P_X7_hitsOf M (zI i) = some (sSet (hitS V L[i]) (v_us V).val 0 (zI 0)) := by
  have hus := h.1
  unfold P_X7_hitsOf
  simp only [zL]
  refine it_run (fun f k s => P_X7_hitsOf_4 M f (zI i) s (zI k)) (fun k a => if hitS V L[i] k = true then a ||| (zI 1 <<< (zI k &&& zI 31)) else a) some (v_us V).val ?_ ?_ (v_us V).val 0 qc_fu (zI 0) (by omega) (by unfold qc_fu; omega)
  · intro f k s hk
    simp (disch := omega) only [P_X7_hitsOf_4, P_X7_hitsOf_27, P_X7_users, zI_add, zI_sub, zI_mul, zI_neg, zL, zI_le, zI_lt, zI_eq, zI_cl, zA0, zI_if, Int.toNat_natCast, zT_add, zT_mul, Int.reduceToNat, Nat.add_zero, Nat.zero_add, Int.add_zero, Int.zero_add, zc_a, zc_l, Option.bind_some, qc_let, qc_in, qc_bo, iteT, iteF, and_self, if_true, if_false, qG, hus, m_hits h hL hlen hi hk, bI_0]
    cases e : hitS V L[i] k <;> simp
  · intro f s
    simp (disch := omega) only [P_X7_hitsOf_4, P_X7_users, zI_add, zI_sub, zI_mul, zI_neg, zL, zI_le, zI_lt, zI_eq, zI_cl, zA0, zI_if, Int.toNat_natCast, zT_add, zT_mul, Int.reduceToNat, Nat.add_zero, Nat.zero_add, Int.add_zero, Int.zero_add, zc_a, zc_l, Option.bind_some, qc_let, qc_in, qc_bo, iteT, iteF, and_self, if_true, if_false, qG, hus]
theorem m_right {M : Nat → Nat → Int32} {V : sV} (h : MX M V) {u : Nat} (hu : u < (v_us V).val) : P_X7_isRight M (zI u) = some (bI (rightS V u)) := by
  obtain ⟨hus, hbd, hgd, hsp, hod, hst, hlo, hhi, hch, hpw, hsl, hls, hlk, hsh, h6, hl1⟩ := h
  obtain ⟨hh, e1, e2⟩ := hhi u hu
  have hl := hl1 u hu
  have hof : P_X7_highOf M (zI u) = some (zI ((v_hi V u).val : Int)) := by
    unfold P_X7_highOf
    simp (disch := omega) only [zI_add, zI_sub, zI_mul, zI_neg, zL, zI_le, zI_lt, zI_eq, zI_cl, zA0, zI_if, Int.toNat_natCast, zT_add, zT_mul, Int.reduceToNat, Nat.add_zero, Nat.zero_add, Int.add_zero, Int.zero_add, zc_a, zc_l, Option.bind_some, qc_let, qc_in, qc_bo, iteT, iteF, and_self, if_true, if_false, qG, hbd, e1]
    split
    · rw [e2, if_pos (by omega)]; rfl
    · rw [e2, if_neg (by omega)]; rfl
  have hb2 : (v_hi V u).val ≤ (v_bd V).val := by rw [e2]; split <;> omega
  unfold P_X7_isRight rightS
  simp (disch := omega) only [zI_add, zI_sub, zI_mul, zI_neg, zL, zI_le, zI_lt, zI_eq, zI_cl, zA0, zI_if, Int.toNat_natCast, zT_add, zT_mul, Int.reduceToNat, Nat.add_zero, Nat.zero_add, Int.add_zero, Int.zero_add, zc_a, zc_l, Option.bind_some, qc_let, qc_in, qc_bo, iteT, iteF, and_self, if_true, if_false, qG, hch, hlo, hof]
  by_cases c1 : ((v_ch V u).val : Int) < (v_lo V u).val
  · rw [if_pos c1, decide_eq_false (by omega)]
    rfl
  · rw [if_neg c1]
    by_cases c2 : ((v_hi V u).val : Int) < (v_ch V u).val
    · rw [if_pos c2, decide_eq_false (by omega)]
      rfl
    · rw [if_neg c2, hsh _ (by omega) (by omega)]
      simp only [bI_0]
      cases e : v_sh V (v_ch V u).val
      · rw [decide_eq_true ⟨by omega, by omega, rfl⟩]
        rfl
      · rw [decide_eq_false (by intro x; exact absurd x.2.2 (by decide))]
        rfl
