/-! THE CLASS'S PRODUCTS: its loops -/
/-- the crew as it lies in the list -/
def CR (I : Nat → Nat → Int32) (K : List Nat) : Prop := I 22 4 = zI (K.length : Nat) ∧ ∀ i (h : i < K.length), I 32 i = zI (K[i] : Nat)
theorem CR_kp {I I' : Nat → Nat → Int32} {K : List Nat} (h : kp I I') (hC : CR I K) : CR I' K := by
  unfold CR at *
  rw [h.2.1, h.1 32 (by omega)]
  exact hC
/-- where the class stops early: a product hits, and it was to stop then -/
def XE (I : Nat → Nat → Int32) (V : sV) (m : Bool) (T : List Qd) : Prop := m = true ∧ ∃ D, D <+: T ∧ XL I V (D.filter (fm V m)) ∧ 0 < strN V (D.filter (fm V m))
theorem XE_mono {I : Nat → Nat → Int32} {V : sV} {m : Bool} {T T' : List Qd} (h : T <+: T') (hE : XE I V m T) : XE I V m T' := by
  obtain ⟨h1, D, h2, h3⟩ := hE
  exact ⟨h1, D, h2.trans h, h3⟩
/-- what stays in a crew: good users, in order -/
def CG (V : sV) (K : List Nat) : Prop := K.Pairwise (· < ·) ∧ (∀ x ∈ K, x < (v_us V).val) ∧ K.length ≤ 8
theorem CG_ne {V : sV} {K : List Nat} (h : CG V K) {i j : Nat} (hi : i < K.length) (hj : j < K.length) : K[i] = K[j] ↔ i = j := by
  have h := h.1
  rw [List.pairwise_iff_getElem] at h
  constructor
  · intro e
    rcases Nat.lt_trichotomy i j with x | x | x
    · have := h i j hi hj x; omega
    · exact x
    · have := h j i hj hi x; omega
  · intro e
    subst e
    rfl
theorem x_124 {J : Nat → Nat → Int64} {p : Nat} {V : sV} {m : Bool} {K : List Nat} {I0 : Nat → Nat → Int32} (hp : p ≤ 12) (hS : SX I0 J p V) (hJ : GJ J V) (hm : I0 22 6 = bI m) (hC : CR I0 K) (hG : CG V K) {k40 : (Nat → Nat → Int32) → Int32 → Int32 → Int32 → Int32 → Option (Nat → Nat → Int32)} {k63 : (Nat → Nat → Int32) → Int32 → Int32 → Int32 → Int32 → Int32 → Option (Nat → Nat → Int32)} {Q : (Nat → Nat → Int32) → Prop} {k i j : Nat} {al : Int32} (hk : k = 3 ∨ k = 5) (hi : i < K.length) (hj : j < K.length) : ∀ e kk f I C, kk + e = K.length → e < f → kp I0 I → XL I V (C.filter (fm V m)) → C.length + (if i = j then [] else cand3 (K.drop kk) k K[i] K[j]).length ≤ 700 → (∀ I', kp I0 I' → XL I' V ((C ++ if i = j then [] else cand3 (K.drop kk) k K[i] K[j]).filter (fm V m)) → wp (k63 I' (zI k) al (zI (K.length : Nat)) (zI i) (zI ((j + 1 : Nat) : Int))) Q) → wp (P_X2_gatherSort_124 J p k40 k63 f I (zI k) al (zI (K.length : Nat)) (zI i) (zI j) (zI kk)) Q := by
  have h8 := hG.2.2
  intro e
  induction e with
  | zero =>
    intro kk f I C hc hf he hL hcap H
    obtain ⟨g, rfl⟩ : ∃ g, f = g + 1 := ⟨f - 1, by omega⟩
    simp (disch := omega) only [P_X2_gatherSort_124, zI_add, zI_sub, zI_mul, zI_neg, zL, zI_le, zI_lt, zI_eq, zI_cl, zA0, zI_if, Int.toNat_natCast, zT_add, zT_mul, Int.reduceToNat, Nat.add_zero, Nat.zero_add, Int.add_zero, Int.zero_add, zc_a, zc_l, Option.bind_some, qc_let, qc_in, qc_bo, iteT, iteF, and_self, if_true, if_false, qG]
    have e0 : (if i = j then [] else cand3 (K.drop kk) k K[i] K[j]) = [] := by
      split
      · rfl
      · unfold cand3
        rw [if_pos hk, List.drop_of_length_le (by omega)]
        rfl
    rw [e0, List.append_nil] at H
    have := H I he hL
    simpa only [qc_let, zc_a, zc_l] using this
  | succ e ih =>
    intro kk f I C hc hf he hL hcap H
    obtain ⟨g, rfl⟩ : ∃ g, f = g + 1 := ⟨f - 1, by omega⟩
    have hkk : kk < K.length := by omega
    have hCI := CR_kp he hC
    simp (disch := omega) only [P_X2_gatherSort_124, P_X2_gatherSort_179, zI_add, zI_sub, zI_mul, zI_neg, zL, zI_le, zI_lt, zI_eq, zI_cl, zA0, zI_if, Int.toNat_natCast, zT_add, zT_mul, Int.reduceToNat, Nat.add_zero, Nat.zero_add, Int.add_zero, Int.zero_add, zc_a, zc_l, Option.bind_some, qc_let, qc_in, qc_bo, iteT, iteF, and_self, if_true, if_false, qG, hCI.2 i hi, hCI.2 j hj, hCI.2 kk hkk]
    have skip : (if i = j then [] else cand3 (K.drop kk) k K[i] K[j]) = (if i = j then [] else cand3 (K.drop (kk + 1)) k K[i] K[j]) → wp (P_X2_gatherSort_124 J p k40 k63 g I (zI k) al (zI (K.length : Nat)) (zI i) (zI j) (zI ((kk : Int) + 1))) Q := by
      intro e0
      rw [e0] at hcap H
      have := ih (kk + 1) g I C (by omega) (by omega) he hL hcap H
      simpa only [qc_let, zc_a, zc_l] using this
    have ed : K.drop kk = K[kk] :: K.drop (kk + 1) := List.drop_eq_getElem_cons hkk
    by_cases e1 : i = j
    · rw [if_pos (by omega)]
      apply skip
      rw [if_pos e1, if_pos e1]
    · rw [if_neg (by omega)]
      by_cases e2 : kk = i
      · rw [if_pos (by omega)]
        apply skip
        rw [if_neg e1, if_neg e1, ed]
        unfold cand3
        rw [if_pos hk, if_pos hk, List.filter_cons_of_neg (by subst e2; simp)]
      · rw [if_neg (by omega)]
        by_cases e3 : kk = j
        · rw [if_pos (by omega)]
          apply skip
          rw [if_neg e1, if_neg e1, ed]
          unfold cand3
          rw [if_pos hk, if_pos hk, List.filter_cons_of_neg (by subst e3; simp)]
        · rw [if_neg (by omega)]
          have n1 : K[kk] ≠ K[i] := fun x => e2 ((CG_ne hG hkk hi).1 x)
          have n2 : K[kk] ≠ K[j] := fun x => e3 ((CG_ne hG hkk hj).1 x)
          have e4 : (if i = j then [] else cand3 (K.drop kk) k K[i] K[j]) = (k, K[i], K[j], ((K[kk] : Nat) : Int)) :: (if i = j then [] else cand3 (K.drop (kk + 1)) k K[i] K[j]) := by
            rw [if_neg e1, if_neg e1, ed]
            unfold cand3
            rw [if_pos hk, if_pos hk, List.filter_cons_of_pos (by simp; exact ⟨n1, n2⟩)]
            rfl
          rw [e4] at hcap H
          rw [List.length_cons] at hcap
          have u1 := hG.2.1 _ (List.getElem_mem hi)
          have u2 := hG.2.1 _ (List.getElem_mem hj)
          have u3 := hG.2.1 _ (List.getElem_mem hkk)
          have hfl := List.length_filter_le (fm V m) C
          refine wp_bind (x_add (m := m) hp (SX_kp hp he hS) hJ (by rw [he.2.2]; exact hm) hL (by omega) (show gdQ (v_us V).val (k, K[i], K[j], ((K[kk] : Nat) : Int)) from ⟨by show k < 6; omega, u1, u2, Or.inl ⟨hk, by show (0 : Int) ≤ (K[kk] : Nat); omega, by show ((K[kk] : Nat) : Int) < _; omega⟩⟩)) ?_
          intro I1 ⟨he1, hL1⟩
          rw [← List.filter_append] at hL1
          have := ih (kk + 1) g I1 (C ++ [(k, K[i], K[j], ((K[kk] : Nat) : Int))]) (by omega) (by omega) (kp_t he he1) hL1 (by
            rw [List.length_append]
            simp only [List.length_cons, List.length_nil]
            omega) (by
            intro I' h1 h2
            refine H I' h1 ?_
            rw [List.append_assoc] at h2
            exact h2)
          simpa only [qc_let, zc_a, zc_l] using this
theorem x_87 {J : Nat → Nat → Int64} {p : Nat} {V : sV} {m : Bool} {K : List Nat} {I0 : Nat → Nat → Int32} (hp : p ≤ 12) (hS : SX I0 J p V) (hJ : GJ J V) (hm : I0 22 6 = bI m) (hC : CR I0 K) (hG : CG V K) {k40 : (Nat → Nat → Int32) → Int32 → Int32 → Int32 → Int32 → Option (Nat → Nat → Int32)} {k63 : (Nat → Nat → Int32) → Int32 → Int32 → Int32 → Int32 → Int32 → Option (Nat → Nat → Int32)} {Q : (Nat → Nat → Int32) → Prop} {k i j : Nat} {al : Int32} (hk : k < 6) (hi : i < K.length) (hj : j < K.length) {I : Nat → Nat → Int32} {C : List Qd} (he : kp I0 I) (hL : XL I V (C.filter (fm V m))) (hcap : C.length + (if i = j then [] else cand3 K k K[i] K[j]).length ≤ 700) (H : ∀ I', kp I0 I' → XL I' V ((C ++ if i = j then [] else cand3 K k K[i] K[j]).filter (fm V m)) → wp (k63 I' (zI k) al (zI (if k = 3 ∨ k = 5 then K.length else 0 : Nat)) (zI i) (zI ((j + 1 : Nat) : Int))) Q) : wp (P_X2_gatherSort_87 J p k40 k63 I (zI k) al (zI (if k = 3 ∨ k = 5 then K.length else 0 : Nat)) (zI i) (zI j)) Q := by
  have h8 := hG.2.2
  have hCI := CR_kp he hC
  unfold P_X2_gatherSort_87 P_X2_gatherSort_121
  by_cases e : k = 3 ∨ k = 5
  · rw [if_pos e] at H ⊢
    have := x_124 (k40 := k40) (k63 := k63) (Q := Q) (al := al) hp hS hJ hm hC hG e hi hj K.length 0 qc_fu I C (by omega) (by unfold qc_fu; omega) he hL (by rw [List.drop_zero]; exact hcap) (by rw [List.drop_zero]; exact H)
    simp (disch := omega) only [zI_add, zI_sub, zI_mul, zI_neg, zL, zI_le, zI_lt, zI_eq, zI_cl, zA0, zI_if, Int.toNat_natCast, zT_add, zT_mul, Int.reduceToNat, Nat.add_zero, Nat.zero_add, Int.add_zero, Int.zero_add, zc_a, zc_l, Option.bind_some, qc_let, qc_in, qc_bo, iteT, iteF, and_self, if_true, if_false, qG]
    by_cases e1 : (i : Int) = j
    · rw [if_pos e1]
      exact this
    · rw [if_neg e1]
      exact this
  · rw [if_neg e] at H ⊢
    have stop : ∀ I', P_X2_gatherSort_124 J p k40 k63 qc_fu I' (zI k) al (zI ((0 : Nat) : Int)) (zI i) (zI j) (zI 0) = k63 I' (zI k) al (zI ((0 : Nat) : Int)) (zI i) (zI ((j + 1 : Nat) : Int)) := by
      intro I'
      obtain ⟨g, hg⟩ : ∃ g, qc_fu = g + 1 := ⟨99999, rfl⟩
      rw [hg]
      simp (disch := omega) only [P_X2_gatherSort_124, zI_add, zI_sub, zI_mul, zI_neg, zL, zI_le, zI_lt, zI_eq, zI_cl, zA0, zI_if, Int.toNat_natCast, zT_add, zT_mul, Int.reduceToNat, Nat.add_zero, Nat.zero_add, Int.add_zero, Int.zero_add, zc_a, zc_l, Option.bind_some, qc_let, qc_in, qc_bo, iteT, iteF, and_self, if_true, if_false, qG]
    simp only [zI_add, zI_sub, zI_mul, zI_neg, zL]
    by_cases e1 : i = j
    · rw [if_pos (by rw [e1]), stop]
      rw [if_pos e1, List.append_nil] at H
      exact H I he hL
    · rw [if_neg e1] at hcap H
      unfold cand3 at hcap H
      rw [if_neg e] at hcap H
      simp only [List.length_cons, List.length_nil] at hcap
      have u1 := hG.2.1 _ (List.getElem_mem hi)
      have u2 := hG.2.1 _ (List.getElem_mem hj)
      have hfl := List.length_filter_le (fm V m) C
      simp only [stop]
      simp (disch := omega) only [zI_add, zI_sub, zI_mul, zI_neg, zL, zI_le, zI_lt, zI_eq, zI_cl, zA0, zI_if, Int.toNat_natCast, zT_add, zT_mul, Int.reduceToNat, Nat.add_zero, Nat.zero_add, Int.add_zero, Int.zero_add, zc_a, zc_l, Option.bind_some, qc_let, qc_in, qc_bo, iteT, iteF, and_self, if_true, if_false, qG, hCI.2 i hi, hCI.2 j hj]
      refine wp_bind (x_add (m := m) hp (SX_kp hp he hS) hJ (by rw [he.2.2]; exact hm) hL (by omega) (show gdQ (v_us V).val (k, K[i], K[j], (-2 : Int)) from ⟨hk, u1, u2, Or.inr ⟨e, rfl⟩⟩)) ?_
      intro I1 ⟨he1, hL1⟩
      rw [← List.filter_append] at hL1
      have := H I1 (kp_t he he1) hL1
      simpa only [qc_let, zc_a, zc_l] using this
def candJ (K R : List Nat) (k a : Nat) : List Qd := R.flatMap (fun b => if a = b then [] else cand3 K k a b)
theorem x_63 {J : Nat → Nat → Int64} {p : Nat} {V : sV} {m : Bool} {K : List Nat} {I0 : Nat → Nat → Int32} (hp : p ≤ 12) (hS : SX I0 J p V) (hJ : GJ J V) (hm : I0 22 6 = bI m) (hC : CR I0 K) (hG : CG V K) {k40 : (Nat → Nat → Int32) → Int32 → Int32 → Int32 → Int32 → Option (Nat → Nat → Int32)} {Q : (Nat → Nat → Int32) → Prop} {k i : Nat} {al : Int32} (hk : k < 6) (hi : i < K.length) : ∀ e j f I C, j + e = K.length → e < f → kp I0 I → XL I V (C.filter (fm V m)) → C.length + (candJ K (K.drop j) k K[i]).length ≤ 700 → (∀ I', kp I0 I' → XL I' V ((C ++ candJ K (K.drop j) k K[i]).filter (fm V m)) → wp (k40 I' (zI k) al (zI (if k = 3 ∨ k = 5 then K.length else 0 : Nat)) (zI ((i + 1 : Nat) : Int))) Q) → (∀ I', kp I0 I' → XE I' V m (C ++ candJ K (K.drop j) k K[i]) → Q I') → wp (P_X2_gatherSort_63 J p k40 f I (zI k) al (zI (if k = 3 ∨ k = 5 then K.length else 0 : Nat)) (zI i) (zI j)) Q := by
  have h8 := hG.2.2
  intro e
  induction e with
  | zero =>
    intro j f I C hc hf he hL hcap H E
    obtain ⟨g, rfl⟩ : ∃ g, f = g + 1 := ⟨f - 1, by omega⟩
    have h4 := (CR_kp he hC).1
    simp (disch := omega) only [P_X2_gatherSort_63, zI_add, zI_sub, zI_mul, zI_neg, zL, h4]
    rw [if_pos (by rw [zI_le] <;> omega)]
    have e0 : candJ K (K.drop j) k K[i] = [] := by
      unfold candJ
      rw [List.drop_of_length_le (by omega)]
      rfl
    rw [e0, List.append_nil] at H
    have := H I he hL
    simpa only [qc_let, zc_a, zc_l] using this
  | succ e ih =>
    intro j f I C hc hf he hL hcap H E
    obtain ⟨g, rfl⟩ : ∃ g, f = g + 1 := ⟨f - 1, by omega⟩
    have h4 := (CR_kp he hC).1
    have hj : j < K.length := by omega
    have h6 : I 22 6 = bI m := by rw [he.2.2]; exact hm
    have ed : candJ K (K.drop j) k K[i] = (if i = j then [] else cand3 K k K[i] K[j]) ++ candJ K (K.drop (j + 1)) k K[i] := by
      unfold candJ
      rw [List.drop_eq_getElem_cons hj, List.flatMap_cons]
      congr 1
      by_cases x : i = j
      · rw [if_pos x, if_pos ((CG_ne hG hi hj).2 x)]
      · rw [if_neg x, if_neg (fun y => x ((CG_ne hG hi hj).1 y))]
    have go : wp (P_X2_gatherSort_87 J p k40 (P_X2_gatherSort_63 J p k40 g) I (zI k) al (zI (if k = 3 ∨ k = 5 then K.length else 0 : Nat)) (zI i) (zI j)) Q := by
      rw [ed] at hcap H E
      rw [List.length_append] at hcap
      refine x_87 hp hS hJ hm hC hG hk hi hj he hL (by omega) ?_
      intro I1 he1 hL1
      refine ih (j + 1) g I1 _ (by omega) (by omega) he1 hL1 ?_ ?_ ?_
      · rw [List.length_append]
        omega
      · intro I' h1 h2
        refine H I' h1 ?_
        rw [List.append_assoc] at h2
        exact h2
      · intro I' h1 h2
        refine E I' h1 ?_
        rw [List.append_assoc] at h2
        exact h2
    simp (disch := omega) only [P_X2_gatherSort_63, zI_add, zI_sub, zI_mul, zI_neg, zL, h4, h6, hL.2.1]
    rw [if_neg (by rw [zI_le] <;> omega)]
    have hSb := strN_b V (C.filter (fm V m))
    have hfl := List.length_filter_le (fm V m) C
    cases m
    · rw [if_pos (by decide)]
      exact go
    · rw [if_neg (by decide)]
      by_cases es : strN V (C.filter (fm V true)) = 0
      · rw [if_pos (by rw [zI_le] <;> omega)]
        exact go
      · rw [if_neg (by rw [zI_le] <;> omega)]
        refine wp_some (E I he ⟨rfl, C, List.prefix_append _ _, hL, by omega⟩)
