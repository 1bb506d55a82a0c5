/-! what can be decided, is -/
theorem zYT {a b : Int} (h : a ≤ b) : (a ≤ b) = True := eq_true h
theorem zYF {a b : Int} (h : ¬ a ≤ b) : (a ≤ b) = False := eq_false h
theorem zYt {a b : Int} (h : a < b) : (a < b) = True := eq_true h
theorem zYf {a b : Int} (h : ¬ a < b) : (a < b) = False := eq_false h
theorem zYe {a b : Int} (h : a = b) : (a = b) = True := eq_true h
theorem zYn {a b : Int} (h : ¬ a = b) : (a = b) = False := eq_false h
theorem nYT {a b : Nat} (h : a ≤ b) : (a ≤ b) = True := eq_true h
theorem nYF {a b : Nat} (h : ¬ a ≤ b) : (a ≤ b) = False := eq_false h
theorem nYt {a b : Nat} (h : a < b) : (a < b) = True := eq_true h
theorem nYf {a b : Nat} (h : ¬ a < b) : (a < b) = False := eq_false h
theorem nYe {a b : Nat} (h : a = b) : (a = b) = True := eq_true h
theorem nYn {a b : Nat} (h : ¬ a = b) : (a = b) = False := eq_false h
/-! THE REFERENCE'S PRODUCTS -/
def ML (M : Nat → Nat → Int32) (V : sV) (L : List Qd) : Prop :=
  M 0 41 = zI (L.length : Nat) ∧ ∀ i (h : i < L.length), gdQ (v_us V).val L[i] ∧ M 16 i = zI (L[i].1 : Nat) ∧ M 17 i = zI (L[i].2.1 : Nat) ∧ M 18 i = zI (L[i].2.2.1 : Nat) ∧ M 19 i = zI L[i].2.2.2 ∧ M 20 i = zI (chanS V L[i]) ∧ M 21 i = zI (levS V L[i]) ∧ M 22 i = zI (comS V L[i] : Nat)
/-- all but the products stays -/
def eP (M M' : Nat → Nat → Int32) : Prop := (∀ t, t ≠ 0 → t < 16 ∨ 22 < t → M' t = M t) ∧ (∀ j, j ≠ 41 → M' 0 j = M 0 j)
theorem eP_r (M : Nat → Nat → Int32) : eP M M := ⟨fun _ _ _ => rfl, fun _ _ => rfl⟩
theorem eP_t {M M' M'' : Nat → Nat → Int32} (h : eP M M') (h' : eP M' M'') : eP M M'' := ⟨fun t a b => (h'.1 t a b).trans (h.1 t a b), fun j a => (h'.2 j a).trans (h.2 j a)⟩
theorem eP_M {M M' : Nat → Nat → Int32} (h : eP M M') : eM M M' := ⟨fun t ht => h.1 t (by omega) (by omega), fun j _ h41 _ _ => h.2 j h41⟩
theorem pstep {β : Type} {I : Nat → Nat → Int32} {n t : Nat} {x : Int32} {K : (Nat → Nat → Int32) → Option β} (h : I 0 41 = zI (n : Nat)) (hn : n < 300) : (if qc_in (I 0 41) 300 then qc_let (qc_u2 I t (I 0 41).toNatClampNeg x) K else none) = K (qc_u2 I t n x) := by
  rw [h]
  simp (disch := omega) only [zI_add, zI_sub, zI_mul, zI_neg, zL, zI_le, zI_lt, zI_eq, zI_cl, zA0, zI_if, Int.toNat_natCast, zT_add, zT_mul, Int.reduceToNat, Nat.add_zero, Nat.zero_add, Int.add_zero, Int.zero_add, zc_a, zc_l, Option.bind_some, qc_let, qc_in, qc_bo, iteT, iteF, and_self, if_true, if_false, qG]
theorem pkeep {I : Nat → Nat → Int32} {n t : Nat} {x : Int32} (h : I 0 41 = zI (n : Nat)) (ht : t ≠ 0) : qc_u2 I t n x 0 41 = zI (n : Nat) := by
  rw [qG, if_neg (by omega)]
  exact h
theorem m_112 {M : Nat → Nat → Int32} {V : sV} (hM : MX M V) {L : List Qd} (hL : ML M V L) (hc : L.length < 300) {k a b : Nat} {c v lv : Int} (hq : gdQ (v_us V).val (k, a, b, c)) (hv : chanS V (k, a, b, c) = v) (hv2 : -1000 ≤ v ∧ v ≤ 1000) (hl : levS V (k, a, b, c) = lv - (v_ls V (k / 2)).val) (hl2 : -1000 ≤ lv ∧ lv ≤ 1000) : wp (P_X7_adds_112 M (zI k) (zI a) (zI b) (zI c) (zI v) (zI lv)) (fun M' => ML M' V (L ++ prdS V [(k, a, b, c)]) ∧ eP M M') := by
  obtain ⟨hus, hbd, hgd, hsp, hod, hst, hlo, hhi, hch, hpw, hsl, hls, hlk, hsh, h6, hl1⟩ := hM
  obtain ⟨g1, g2, g3, g4⟩ := hq
  dsimp only at g1 g2 g3 g4
  have e41 := hL.1
  have hcom : ∃ w : Nat, comS V (k, a, b, c) = ((v_sl V a).val &&& (v_sl V b).val) &&& w ∧ (if zI c = zI (-2) then some (zI 255) else if qc_in (zI 73 + zI c) 79 then some (M 13 (zI 73 + zI c).toNatClampNeg) else none) = some (zI (w : Nat)) := by
    rcases g4 with ⟨_, g4, g5⟩ | ⟨_, g4⟩
    · refine ⟨(v_sl V c.toNat).val, ?_, ?_⟩
      · unfold comS
        dsimp only
        rw [if_neg (by omega)]
      · have e : c = ((c.toNat : Nat) : Int) := by omega
        rw [e]
        simp (disch := omega) only [zI_add, zI_sub, zI_mul, zI_neg, zL, zI_le, zI_lt, zI_eq, zI_cl, zA0, zI_if, Int.toNat_natCast, zT_add, zT_mul, Int.reduceToNat, Nat.add_zero, Nat.zero_add, Int.add_zero, Int.zero_add, zc_a, zc_l, Option.bind_some, qc_let, qc_in, qc_bo, iteT, iteF, and_self, if_true, if_false, qG, hsl]
    · refine ⟨255, ?_, ?_⟩
      · unfold comS
        dsimp only
        rw [if_pos (by omega)]
      · subst g4
        rw [if_pos rfl]
        rfl
  obtain ⟨w, hw1, hw2⟩ := hcom
  have hk : k / 2 < 3 := by omega
  have ek : zI k / zI 2 = zI ((k / 2 : Nat) : Int) := by
    unfold zI
    rw [Int32.ofInt_eq_ofNat, Int32.ofInt_eq_ofNat, show Int32.ofInt 2 = Int32.ofNat 2 from rfl, ← Int32.ofNat_div (by omega) (by omega)]
  have hP : prdS V [(k, a, b, c)] = if v < 1 ∨ (v_bd V).val < v ∨ comS V (k, a, b, c) = 0 then [] else [(k, a, b, c)] := by
    unfold prdS
    split
    · rw [List.filter_cons_of_neg (by unfold isP; rw [hv]; simp only [decide_eq_true_eq]; omega)]
      rfl
    · rw [List.filter_cons_of_pos (by unfold isP; rw [hv]; simp only [decide_eq_true_eq]; omega)]
      rfl
  have hsmall : ((v_sl V a).val &&& (v_sl V b).val) < 256 := Nat.lt_of_le_of_lt (Nat.and_le_left) (by omega)
  have hsmall2 : ((v_sl V a).val &&& (v_sl V b).val) &&& w < 256 := Nat.lt_of_le_of_lt (Nat.and_le_left) hsmall
  rw [show zI 73 + zI c = zI (73 + c) from zI_add _ _] at hw2
  have body : P_X7_adds_112 M (zI k) (zI a) (zI b) (zI c) (zI v) (zI lv) = if v < 1 ∨ (v_bd V).val < v ∨ comS V (k, a, b, c) = 0 then some M else some (qc_u2 (qc_u2 (qc_u2 (qc_u2 (qc_u2 (qc_u2 (qc_u2 (qc_u2 M 22 L.length (zI (comS V (k, a, b, c) : Nat))) 16 L.length (zI k)) 17 L.length (zI a)) 18 L.length (zI b)) 19 L.length (zI c)) 20 L.length (zI v)) 21 L.length (zI (lv - (v_ls V (k / 2)).val))) 0 41 (zI ((L.length : Int) + 1))) := by
    have i1 : qc_in (zI (73 + (a : Int))) 79 := by simp (disch := omega) only [zI_add, zI_sub, zI_mul, zI_neg, zL, zI_le, zI_lt, zI_eq, zI_cl, zA0, zI_if, Int.toNat_natCast, zT_add, zT_mul, Int.reduceToNat, Nat.add_zero, Nat.zero_add, Int.add_zero, Int.zero_add, zc_a, zc_l, Option.bind_some, qc_let, qc_in, qc_bo, iteT, iteF, and_self, if_true, if_false, qG]; omega
    have i2 : qc_in (zI (73 + (b : Int))) 79 := by simp (disch := omega) only [zI_add, zI_sub, zI_mul, zI_neg, zL, zI_le, zI_lt, zI_eq, zI_cl, zA0, zI_if, Int.toNat_natCast, zT_add, zT_mul, Int.reduceToNat, Nat.add_zero, Nat.zero_add, Int.add_zero, Int.zero_add, zc_a, zc_l, Option.bind_some, qc_let, qc_in, qc_bo, iteT, iteF, and_self, if_true, if_false, qG]; omega
    have r1 : (zI (73 + (a : Int))).toNatClampNeg = 73 + a := by rw [zI_cl (by omega) (by omega)]; omega
    have r2 : (zI (73 + (b : Int))).toNatClampNeg = 73 + b := by rw [zI_cl (by omega) (by omega)]; omega
    rw [← hw1] at hsmall2
    unfold P_X7_adds_112
    simp only [zI_add, zI_sub, zI_mul, zI_neg, zL]
    rw [hw2, if_pos i1, if_pos i2, r1, r2, hsl a (by omega), hsl b (by omega), nI_and]
    simp only [Option.bind_some]
    rw [nI_and, ← hw1]
    rw [show ∀ (x : Int32) (f : Int32 → Option (Nat → Nat → Int32)), qc_let x f = f x from fun _ _ => rfl]
    by_cases c1 : v < 1
    · rw [if_pos (Or.inl c1), if_pos (show zI v < zI 1 by rw [zI_lt] <;> omega)]
    · rw [if_neg (show ¬ zI v < zI 1 by rw [zI_lt] <;> omega), hbd]
      by_cases c2 : ((v_bd V).val : Int) < v
      · rw [if_pos (Or.inr (Or.inl c2)), if_pos (show zI ((v_bd V).val : Int) < zI v by rw [zI_lt] <;> omega)]
      · rw [if_neg (show ¬ zI ((v_bd V).val : Int) < zI v by rw [zI_lt] <;> omega)]
        by_cases c3 : comS V (k, a, b, c) = 0
        · rw [if_pos (Or.inr (Or.inr c3)), if_pos (show zI (comS V (k, a, b, c) : Nat) = zI 0 by rw [c3]; rfl)]
        · rw [if_neg (show ¬ (v < 1 ∨ ((v_bd V).val : Int) < v ∨ comS V (k, a, b, c) = 0) by omega), if_neg (show ¬ zI (comS V (k, a, b, c) : Nat) = zI 0 by rw [zI_eq] <;> omega)]
          have n0 := e41
          refine (pstep n0 hc).trans ?_
          have n1 := pkeep (t := 22) (x := zI (comS V (k, a, b, c) : Nat)) n0 (by omega)
          refine (pstep n1 hc).trans ?_
          have n2 := pkeep (t := 16) (x := zI k) n1 (by omega)
          refine (pstep n2 hc).trans ?_
          have n3 := pkeep (t := 17) (x := zI a) n2 (by omega)
          refine (pstep n3 hc).trans ?_
          have n4 := pkeep (t := 18) (x := zI b) n3 (by omega)
          refine (pstep n4 hc).trans ?_
          have n5 := pkeep (t := 19) (x := zI c) n4 (by omega)
          refine (pstep n5 hc).trans ?_
          have n6 := pkeep (t := 20) (x := zI v) n5 (by omega)
          have n7 := pkeep (t := 21) (x := zI (lv - (v_ls V (k / 2)).val)) n6 (by omega)
          have lo : P_X7_lossOf (qc_u2 (qc_u2 (qc_u2 (qc_u2 (qc_u2 (qc_u2 M 22 L.length (zI (comS V (k, a, b, c) : Nat))) 16 L.length (zI k)) 17 L.length (zI a)) 18 L.length (zI b)) 19 L.length (zI c)) 20 L.length (zI v)) (zI k) = some (zI (v_ls V (k / 2)).val) := by
            unfold P_X7_lossOf
            simp (disch := omega) only [zL, ek, zI_add, zI_add, zI_sub, zI_mul, zI_neg, zL, zI_le, zI_lt, zI_eq, zI_cl, zA0, zI_if, Int.toNat_natCast, zT_add, zT_mul, Int.reduceToNat, Nat.add_zero, Nat.zero_add, Int.add_zero, Int.zero_add, zc_a, zc_l, Option.bind_some, qc_let, qc_in, qc_bo, iteT, iteF, and_self, if_true, if_false, qG, hls]
          show (P_X7_lossOf _ _).bind _ = _
          rw [lo, Option.bind_some, zI_sub]
          refine (pstep n6 hc).trans ?_
          show some (qc_u2 _ 0 41 (qc_u2 _ 21 _ _ 0 41 + _)) = _
          rw [n7]
          simp only [zI_add, zI_sub, zI_mul, zI_neg, zL]
  rw [body, hP]
  by_cases c1 : v < 1 ∨ (v_bd V).val < v ∨ comS V (k, a, b, c) = 0
  · rw [if_pos c1, if_pos c1, List.append_nil]
    exact wp_some ⟨hL, eP_r M⟩
  · rw [if_neg c1, if_neg c1]
    refine wp_some ⟨⟨?_, ?_⟩, ?_, ?_⟩
    · rw [qG, if_pos ⟨rfl, rfl⟩, List.length_append]
      rfl
    · intro i hi
      rw [List.length_append, List.length_cons, List.length_nil] at hi
      by_cases ei : i < L.length
      · rw [List.getElem_append_left ei]
        simp (disch := omega) only [qG, iteF]
        exact hL.2 i ei
      · have ei : i = L.length := by omega
        subst ei
        rw [List.getElem_append_right (by omega)]
        simp (disch := omega) only [qG, iteT, iteF, and_self, if_true, Nat.sub_self, List.getElem_cons_zero]
        refine ⟨⟨g1, g2, g3, g4⟩, trivial, trivial, trivial, trivial, ?_, ?_, ?_⟩
        · rw [hv]
        · rw [hl]
        · trivial
    · intro t h0 ht
      unfold qc_u2 qc_u
      simp (disch := omega) only [iteF]
    · intro j hj
      simp (disch := omega) only [qG, iteF]
set_option maxRecDepth 100000 in
theorem m_adds {M : Nat → Nat → Int32} {V : sV} (hM : MX M V) {L : List Qd} (hL : ML M V L) (hc : L.length < 300) {k a b : Nat} {c : Int} (hq : gdQ (v_us V).val (k, a, b, c)) : wp (P_X7_adds M (zI k) (zI a) (zI b) (zI c)) (fun M' => ML M' V (L ++ prdS V [(k, a, b, c)]) ∧ eP M M') := by
  have hM0 := hM
  obtain ⟨hus, hbd, hgd, hsp, hod, hst, hlo, hhi, hch, hpw, hsl, hls, hlk, hsh, h6, hl1⟩ := hM
  have hq0 := hq
  obtain ⟨g1, g2, g3, g4⟩ := hq
  dsimp only at g1 g2 g3 g4
  have key : ∀ x y : Int, chanS V (k, a, b, c) = x → levS V (k, a, b, c) = y - (v_ls V (k / 2)).val → -1000 ≤ x ∧ x ≤ 1000 → -1000 ≤ y ∧ y ≤ 1000 → wp (P_X7_adds_112 M (zI k) (zI a) (zI b) (zI c) (zI x) (zI y)) (fun M' => ML M' V (L ++ prdS V [(k, a, b, c)]) ∧ eP M M') := fun x y e1 e2 e3 e4 => m_112 hM0 hL hc hq0 e1 e3 e2 e4
  have hk : k = 0 ∨ k = 1 ∨ k = 2 ∨ k = 3 ∨ k = 4 ∨ k = 5 := by omega
  unfold P_X7_adds P_X7_timesA P_X7_timesB P_X7_timesC P_X7_without
  rcases hk with rfl | rfl | rfl | rfl | rfl | rfl
  case inl | inr.inl | inr.inr.inl | inr.inr.inr.inr.inl =>
    rcases g4 with ⟨g4, _, _⟩ | ⟨_, g4⟩
    · omega
    · subst g4
      simp (disch := omega) only [zI_add, zI_sub, zI_mul, zI_neg, zL, zI_le, zI_lt, zI_eq, zI_cl, zA0, zI_if, Int.toNat_natCast, zT_add, zT_mul, Int.reduceToNat, Nat.add_zero, Nat.zero_add, Int.add_zero, Int.zero_add, zc_a, zc_l, Option.bind_some, qc_let, qc_in, qc_bo, ↓reduceIte, zYT, zYF, zYt, zYf, zYe, zYn, nYT, nYF, nYt, nYf, nYe, nYn, or_false, false_or, or_true, true_or, not_false_eq_true, not_true_eq_false, and_self, and_true, true_and, and_false, false_and, qG, if_true, if_false, hch, hpw, Int.reduceNeg, Int.neg_neg]
      refine key _ _ ?_ ?_ (by omega) (by omega)
      · unfold chanS tA tB
        simp
      · unfold levS tA wB
        simp
  case inr.inr.inr.inl | inr.inr.inr.inr.inr =>
    rcases g4 with ⟨_, g4, g5⟩ | ⟨g4, _⟩
    · obtain ⟨c', rfl⟩ : ∃ c' : Nat, c = (c' : Int) := ⟨c.toNat, by omega⟩
      simp (disch := omega) only [zI_add, zI_sub, zI_mul, zI_neg, zL, zI_le, zI_lt, zI_eq, zI_cl, zA0, zI_if, Int.toNat_natCast, zT_add, zT_mul, Int.reduceToNat, Nat.add_zero, Nat.zero_add, Int.add_zero, Int.zero_add, zc_a, zc_l, Option.bind_some, qc_let, qc_in, qc_bo, ↓reduceIte, zYT, zYF, zYt, zYf, zYe, zYn, nYT, nYF, nYt, nYf, nYe, nYn, or_false, false_or, or_true, true_or, not_false_eq_true, not_true_eq_false, and_self, and_true, true_and, and_false, false_and, qG, if_true, if_false, hch, hpw, Int.reduceNeg, Int.neg_neg]
      refine key _ _ ?_ ?_ (by omega) (by omega)
      · unfold chanS tA tB tC
        simp
        try omega
      · unfold levS tA wB wC
        simp
        try omega
    · omega
