theorem fl_cg {α β : Type} {f g : α → List β} : ∀ l : List α, (∀ x ∈ l, f x = g x) → l.flatMap f = l.flatMap g := by
  intro l
  induction l with
  | nil => intro _; rfl
  | cons a l ih =>
    intro h
    rw [List.flatMap_cons, List.flatMap_cons, h a List.mem_cons_self, ih (fun x hx => h x (List.mem_cons_of_mem _ hx))]
theorem cand2_J {V : sV} {K : List Nat} (hG : CG V K) {k i : Nat} (hi : i < K.length) : cand2 K K k K[i] = candJ K (K.drop (if k = 0 ∨ k = 3 then i + 1 else 0)) k K[i] := by
  unfold cand2 candJ
  by_cases e : k = 0 ∨ k = 3
  · rw [if_pos e]
    have hs := hG.1
    rw [List.pairwise_iff_getElem] at hs
    have e1 : K.flatMap (fun b => if K[i] ≠ b ∧ ¬ ((k = 0 ∨ k = 3) ∧ b < K[i]) then cand3 K k K[i] b else []) = (K.take (i + 1) ++ K.drop (i + 1)).flatMap (fun b => if K[i] ≠ b ∧ ¬ ((k = 0 ∨ k = 3) ∧ b < K[i]) then cand3 K k K[i] b else []) := by
      rw [List.take_append_drop]
    rw [e1, List.flatMap_append]
    have e2 : (K.take (i + 1)).flatMap (fun b => if K[i] ≠ b ∧ ¬ ((k = 0 ∨ k = 3) ∧ b < K[i]) then cand3 K k K[i] b else []) = [] := by
      rw [List.flatMap_eq_nil_iff]
      intro b hb
      rw [List.mem_take_iff_getElem] at hb
      obtain ⟨j, hj, rfl⟩ := hb
      have : K[j] ≤ K[i] := by
        by_cases x : j = i
        · subst x; exact Nat.le_refl _
        · exact Nat.le_of_lt (hs j i (by omega) hi (by omega))
      rw [if_neg]
      intro ⟨h1, h2⟩
      exact h2 ⟨e, by omega⟩
    rw [e2, List.nil_append]
    refine fl_cg _ ?_
    intro b hb
    rw [List.mem_drop_iff_getElem] at hb
    obtain ⟨j, hj, rfl⟩ := hb
    have := hs i (i + 1 + j) hi (by omega) (by omega)
    have e3 : K[i + 1 + j] = K[i + 1 + j] := rfl
    rw [if_pos ⟨by omega, fun x => by omega⟩, if_neg (by omega)]
  · rw [if_neg e, List.drop_zero]
    refine fl_cg _ ?_
    intro b hb
    by_cases x : K[i] = b
    · rw [if_neg (fun y => y.1 x), if_pos x]
    · rw [if_pos ⟨x, fun y => e y.1⟩, if_neg x]
theorem x_40 {J : Nat → Nat → Int64} {p : Nat} {V : sV} {m : Bool} {K : List Nat} {I0 : Nat → Nat → Int32} (hp : p ≤ 12) (hS : SX I0 J p V) (hJ : GJ J V) (hm : I0 22 6 = bI m) (hC : CR I0 K) (hG : CG V K) {k : Nat} (hk : k < 6) : ∀ e i f I C, i + e = K.length → e < f → kp I0 I → XL I V (C.filter (fm V m)) → C.length + (cand1 K (K.drop i) k).length ≤ 700 → wp (P_X2_gatherSort_40 J p f I (zI k) (bI (decide (k = 0 ∨ k = 3))) (zI (if k = 3 ∨ k = 5 then K.length else 0 : Nat)) (zI i)) (fun I' => kp I0 I' ∧ (XL I' V ((C ++ cand1 K (K.drop i) k).filter (fm V m)) ∨ XE I' V m (C ++ cand1 K (K.drop i) k))) := by
  have h8 := hG.2.2
  intro e
  induction e with
  | zero =>
    intro i f I C hc hf he hL hcap
    obtain ⟨g, rfl⟩ : ∃ g, f = g + 1 := ⟨f - 1, by omega⟩
    have h4 := (CR_kp he hC).1
    simp (disch := omega) only [P_X2_gatherSort_40, zI_add, zI_sub, zI_mul, zI_neg, zL, h4]
    rw [if_pos (by rw [zI_le] <;> omega)]
    have e0 : cand1 K (K.drop i) k = [] := by
      unfold cand1
      rw [List.drop_of_length_le (by omega)]
      rfl
    rw [e0, List.append_nil]
    exact wp_some ⟨he, Or.inl hL⟩
  | succ e ih =>
    intro i f I C hc hf he hL hcap
    obtain ⟨g, rfl⟩ : ∃ g, f = g + 1 := ⟨f - 1, by omega⟩
    have h4 := (CR_kp he hC).1
    have hi : i < K.length := by omega
    have ed : cand1 K (K.drop i) k = candJ K (K.drop (if k = 0 ∨ k = 3 then i + 1 else 0)) k K[i] ++ cand1 K (K.drop (i + 1)) k := by
      unfold cand1
      rw [List.drop_eq_getElem_cons hi, List.flatMap_cons, cand2_J hG hi]
    have hv : (if bI (decide (k = 0 ∨ k = 3)) = zI 0 then some (zI 0) else some (zI i + zI 1)) = some (zI ((if k = 0 ∨ k = 3 then i + 1 else 0 : Nat) : Int)) := by
      by_cases x : k = 0 ∨ k = 3
      · rw [decide_eq_true x, if_neg (by decide), if_pos x]
        simp only [zI_add, zI_sub, zI_mul, zI_neg, zL, zc_a, zc_l]
      · rw [decide_eq_false x, if_pos (by decide), if_neg x]
        rfl
    simp (disch := omega) only [P_X2_gatherSort_40, zL, h4]
    rw [if_neg (by rw [zI_le] <;> omega), hv]
    simp only [Option.bind_some]
    rw [ed] at hcap ⊢
    rw [List.length_append] at hcap
    refine x_63 hp hS hJ hm hC hG hk hi (K.length - (if k = 0 ∨ k = 3 then i + 1 else 0)) _ qc_fu I C (by split <;> omega) (by unfold qc_fu; omega) he hL (by omega) ?_ ?_
    · intro I1 he1 hL1
      have := ih (i + 1) g I1 _ (by omega) (by omega) he1 hL1 (by rw [List.length_append]; omega)
      rw [List.append_assoc] at this
      exact this
    · intro I' h1 h2
      refine ⟨h1, Or.inr ?_⟩
      rw [← List.append_assoc]
      exact XE_mono (List.prefix_append _ _) h2
/-- once it has stopped, nothing more is done -/
theorem x_40e {J : Nat → Nat → Int64} {p : Nat} {V : sV} {K : List Nat} {I : Nat → Nat → Int32} {n : Nat} (hm : I 22 6 = zI 1) (h2 : I 22 2 = zI (n : Nat)) (hn : 0 < n) (hn2 : n < 100000) (hC : CR I K) (h8 : K.length ≤ 8) {k : Nat} {th : Int32} : ∀ e i f, i + e = K.length → e < f → P_X2_gatherSort_40 J p f I (zI k) (bI (decide (k = 0 ∨ k = 3))) th (zI i) = some I := by
  intro e
  induction e with
  | zero =>
    intro i f hc hf
    obtain ⟨g, rfl⟩ : ∃ g, f = g + 1 := ⟨f - 1, by omega⟩
    simp (disch := omega) only [P_X2_gatherSort_40, zI_add, zI_sub, zI_mul, zI_neg, zL, hC.1]
    rw [if_pos (by rw [zI_le] <;> omega)]
  | succ e ih =>
    intro i f hc hf
    obtain ⟨g, rfl⟩ : ∃ g, f = g + 1 := ⟨f - 1, by omega⟩
    have hv : (if bI (decide (k = 0 ∨ k = 3)) = zI 0 then some (zI 0) else some (zI i + zI 1)) = some (zI ((if k = 0 ∨ k = 3 then i + 1 else 0 : Nat) : Int)) := by
      by_cases x : k = 0 ∨ k = 3
      · rw [decide_eq_true x, if_neg (by decide), if_pos x]
        simp only [zI_add, zI_sub, zI_mul, zI_neg, zL, zc_a, zc_l]
      · rw [decide_eq_false x, if_pos (by decide), if_neg x]
        rfl
    simp (disch := omega) only [P_X2_gatherSort_40, zL, hC.1]
    rw [if_neg (by rw [zI_le] <;> omega), hv]
    simp only [Option.bind_some]
    obtain ⟨g2, hg2⟩ : ∃ g2, qc_fu = g2 + 1 := ⟨99999, rfl⟩
    rw [hg2]
    generalize hj : (if k = 0 ∨ k = 3 then i + 1 else 0) = j
    have hj2 : j ≤ i + 1 := by rw [← hj]; split <;> omega
    simp only [P_X2_gatherSort_63, zI_add, zI_sub, zI_mul, zI_neg, zL, hC.1, hm, h2]
    by_cases x : K.length ≤ j
    · rw [if_pos (by rw [zI_le] <;> omega)]
      have := ih (i + 1) g (by omega) (by omega)
      simpa only [qc_let, zc_a, zc_l] using this
    · rw [if_neg (by rw [zI_le] <;> omega), if_neg (by decide), if_neg (by rw [zI_le] <;> omega)]
theorem sv_al : ∀ k : Fin 6, (if (qc_sv 0).getD k.val (zI 0) = (qc_sv 1).getD k.val (zI 0) then some (zI 1) else some (zI 0)) = some (bI (decide (k.val = 0 ∨ k.val = 3))) := by decide +kernel
theorem sv_th : ∀ k : Fin 6, decide ((qc_sv 2).getD k.val (zI 0) = zI 0) = ! decide (k.val = 3 ∨ k.val = 5) := by decide +kernel
theorem x_sort_eq {J : Nat → Nat → Int64} {p : Nat} {K : List Nat} {I : Nat → Nat → Int32} (hC : CR I K) {k : Nat} (hk : k < 6) : P_X2_gatherSort I J p (zI k) = P_X2_gatherSort_40 J p qc_fu I (zI k) (bI (decide (k = 0 ∨ k = 3))) (zI (if k = 3 ∨ k = 5 then K.length else 0 : Nat)) (zI ((0 : Nat) : Int)) := by
  have e1 := sv_al ⟨k, hk⟩
  have e2 := sv_th ⟨k, hk⟩
  dsimp only at e1 e2
  have e3 : (if (qc_sv 2).getD k (zI 0) = zI 0 then some (zI 0) else some (I 22 4)) = some (zI (if k = 3 ∨ k = 5 then K.length else 0 : Nat)) := by
    by_cases x : k = 3 ∨ k = 5
    · rw [decide_eq_true x] at e2
      rw [if_neg (of_decide_eq_false e2), if_pos x, hC.1]
    · rw [decide_eq_false x] at e2
      rw [if_pos (of_decide_eq_true e2), if_neg x]
      rfl
  unfold P_X2_gatherSort
  simp (disch := omega) only [zI_add, zI_sub, zI_mul, zI_neg, zL, zI_le, zI_lt, zI_eq, zI_cl, zA0, zI_if, Int.toNat_natCast, zT_add, zT_mul, Int.reduceToNat, Nat.add_zero, Nat.zero_add, Int.add_zero, Int.zero_add, zc_a, zc_l, Option.bind_some, qc_let, qc_in, qc_bo, iteT, iteF, and_self, if_true, if_false, qG]
  rw [e1, Option.bind_some, e3]
  rfl
