/-! the two tokens go together -/
theorem dg_two (B : Nat → Nat) : ∀ (d q x m : Nat), (∀ j, q ≤ j → j < q + d → 48 ≤ B j ∧ B j ≤ 57) → x < 10000000 → m < 1000000 → (x = m ∨ (99999 < x ∧ 99999 < m)) → dg B 1000000 d q x < 10000000 ∧ dg B 100000 d q m < 1000000 ∧ (dg B 1000000 d q x = dg B 100000 d q m ∨ (99999 < dg B 1000000 d q x ∧ 99999 < dg B 100000 d q m)) := by
  intro d
  induction d with
  | zero => intro q x m _ h1 h2 h3; exact ⟨h1, h2, h3⟩
  | succ d ih =>
    intro q x m hd h1 h2 h3
    have h4 := hd q (by omega) (by omega)
    have e1 : dg B 1000000 (d + 1) q x = dg B 1000000 d (q + 1) (if x < 1000000 then x * 10 + (B q - 48) else x) := rfl
    have e2 : dg B 100000 (d + 1) q m = dg B 100000 d (q + 1) (if m < 100000 then m * 10 + (B q - 48) else m) := rfl
    rw [e1, e2]
    refine ih (q + 1) _ _ (fun j a b => hd j (by omega) (by omega)) ?_ ?_ ?_
    · split <;> omega
    · split <;> omega
    · split <;> split <;> omega
theorem tok_b (B : Nat → Nat) {n A : Nat} (hA : A ≤ n) : A ≤ tP B n A ∧ tP B n A ≤ tE B n A ∧ tE B n A ≤ n ∧ (tK B n A ≠ 0 → A < tE B n A) := by
  have h1 := scan_b (fun p => isB (B p)) (n - A) A
  have e : tP B n A = scan (fun p => isB (B p)) (n - A) A := rfl
  rw [← e] at h1
  by_cases c0 : n ≤ tP B n A
  · have hE : tE B n A = tP B n A := if_pos c0
    have hC : tK B n A = 0 := if_pos c0
    exact ⟨h1.1, by omega, by omega, fun z => absurd hC z⟩
  · obtain ⟨k, hk⟩ : ∃ k, n - tP B n A = k + 1 := ⟨n - tP B n A - 1, by omega⟩
    cases cl : isL (B (tP B n A))
    · cases cd : isD (B (tP B n A))
      · have hE : tE B n A = tP B n A + 1 := by
          unfold tE
          rw [if_neg c0, cl, cd]
          rfl
        exact ⟨h1.1, by omega, by omega, fun _ => by omega⟩
      · have hE : tE B n A = scan (fun p => isD (B p)) (n - tP B n A) (tP B n A) := by
          unfold tE
          rw [if_neg c0, cl, cd]
          rfl
        have h2 := scan_b (fun p => isD (B p)) (n - tP B n A) (tP B n A)
        have h3 : tE B n A ≠ tP B n A := by
          intro z
          have := h2.2.2.2 (by rw [← hE]; omega)
          rw [← hE, z] at this
          rw [cd] at this
          exact absurd this (by decide)
        rw [← hE] at h2
        exact ⟨h1.1, by omega, by omega, fun _ => by omega⟩
    · have hE : tE B n A = scan (fun p => isL (B p)) (n - tP B n A) (tP B n A) := by
        unfold tE
        rw [if_neg c0, if_pos cl]
      have h2 := scan_b (fun p => isL (B p)) (n - tP B n A) (tP B n A)
      have h3 : tE B n A ≠ tP B n A := by
        intro z
        have := h2.2.2.2 (by rw [← hE]; omega)
        rw [← hE, z] at this
        rw [cl] at this
        exact absurd this (by decide)
      rw [← hE] at h2
      exact ⟨h1.1, by omega, by omega, fun _ => by omega⟩
/-- the kinds -/
theorem tok_k (B : Nat → Nat) {n A : Nat} (hA : A ≤ n) : (tK B n A = 0 ∧ tS B n A = 4) ∨ (tK B n A = 3 ∧ tS B n A = 3) ∨ (tK B n A = 4 ∧ tS B n A = 5) ∨ (tK B n A = 2 ∧ tS B n A = 2 ∧ dg B 1000000 (tL B n A) (tP B n A) 0 < 10000000 ∧ dg B 100000 (tL B n A) (tP B n A) 0 < 1000000 ∧ (dg B 1000000 (tL B n A) (tP B n A) 0 = dg B 100000 (tL B n A) (tP B n A) 0 ∨ (99999 < dg B 1000000 (tL B n A) (tP B n A) 0 ∧ 99999 < dg B 100000 (tL B n A) (tP B n A) 0))) ∨ (tK B n A = 1 ∧ tS B n A = 0 ∧ ∃ w : Nat, w < 11 ∧ wI B (tP B n A) (tL B n A) = (w : Int) ∧ hn B (tP B n A) (tL B n A) 6 = wc w) ∨ (tK B n A = 1 ∧ tS B n A = 1 ∧ 1 ≤ hn B (tP B n A) (tL B n A) 6 ∧ hn B (tP B n A) (tL B n A) 6 < 1073741824 ∧ ∀ w, w < 11 → hn B (tP B n A) (tL B n A) 6 ≠ wc w) := by
  have hb := tok_b B hA
  by_cases c0 : n ≤ tP B n A
  · exact Or.inl ⟨if_pos c0, if_pos c0⟩
  · cases cl : isL (B (tP B n A))
    · cases cd : isD (B (tP B n A))
      · have hC : tK B n A = if B (tP B n A) = 59 then 3 else 4 := by
          unfold tK
          rw [if_neg c0, cl, cd]
          rfl
        have hS : tS B n A = if B (tP B n A) = 59 then 3 else 5 := by
          unfold tS
          rw [if_neg c0, cl, cd]
          rfl
        by_cases c : B (tP B n A) = 59
        · rw [if_pos c] at hC hS
          exact Or.inr (Or.inl ⟨hC, hS⟩)
        · rw [if_neg c] at hC hS
          exact Or.inr (Or.inr (Or.inl ⟨hC, hS⟩))
      · have hC : tK B n A = 2 := by
          unfold tK
          rw [if_neg c0, cl, cd]
          rfl
        have hS : tS B n A = 2 := by
          unfold tS
          rw [if_neg c0, cl, cd]
          rfl
        have hE : tE B n A = scan (fun p => isD (B p)) (n - tP B n A) (tP B n A) := by
          unfold tE
          rw [if_neg c0, cl, cd]
          rfl
        have h2 := scan_b (fun p => isD (B p)) (n - tP B n A) (tP B n A)
        rw [← hE] at h2
        have h3 := dg_two B (tL B n A) (tP B n A) 0 0 (fun j a b => of_decide_eq_true (h2.2.2.1 j a (by unfold tL at b; omega))) (by omega) (by omega) (Or.inl rfl)
        exact Or.inr (Or.inr (Or.inr (Or.inl ⟨hC, hS, h3⟩)))
    · have hE : tE B n A = scan (fun p => isL (B p)) (n - tP B n A) (tP B n A) := by
        unfold tE
        rw [if_neg c0, if_pos cl]
      have h2 := scan_b (fun p => isL (B p)) (n - tP B n A) (tP B n A)
      rw [← hE] at h2
      have hL : ∀ j, j < tL B n A → 97 ≤ B (tP B n A + j) ∧ B (tP B n A + j) ≤ 122 := fun j hj => of_decide_eq_true (h2.2.2.1 (tP B n A + j) (by omega) (by unfold tL at hj; omega))
      have hC : tK B n A = if tL B n A ≤ 6 then 1 else 4 := by
        unfold tK
        rw [if_neg c0, if_pos cl]
      have hS : tS B n A = if wI B (tP B n A) (tL B n A) = -1 then (if tL B n A ≤ 6 then 1 else 5) else 0 := by
        unfold tS
        rw [if_neg c0, if_pos cl]
      have h1 : 1 ≤ tL B n A := by
        have := hb.2.2.2 (by rw [hC]; split <;> omega)
        have h3 : tE B n A ≠ tP B n A := by
          intro z
          have := h2.2.2.2 (by omega)
          rw [z] at this
          rw [cl] at this
          exact absurd this (by decide)
        unfold tL
        omega
      rcases wI_some (B := B) (p := tP B n A) (len := tL B n A) 11 0 with ⟨w1, w2⟩ | ⟨w, w1, w2, w3, w4⟩
      · have w1' : wI B (tP B n A) (tL B n A) = -1 := w1
        rw [if_pos w1'] at hS
        by_cases c : tL B n A ≤ 6
        · rw [if_pos c] at hC hS
          refine Or.inr (Or.inr (Or.inr (Or.inr (Or.inr ⟨hC, hS, ?_, hn_lt hL 6, ?_⟩))))
          · have e : hn B (tP B n A) (tL B n A) 6 = (((((0 * 32 + dgt B (tP B n A) (tL B n A) 0) * 32 + dgt B (tP B n A) (tL B n A) 1) * 32 + dgt B (tP B n A) (tL B n A) 2) * 32 + dgt B (tP B n A) (tL B n A) 3) * 32 + dgt B (tP B n A) (tL B n A) 4) * 32 + dgt B (tP B n A) (tL B n A) 5 := rfl
            have d0 : dgt B (tP B n A) (tL B n A) 0 = B (tP B n A + 0) - 96 := if_pos (by omega)
            have := hL 0 (by omega)
            omega
          · intro w hw z
            have := (pk_all c hL w hw).1 z
            rw [w2 w (by omega) (by omega)] at this
            exact absurd this (by decide)
        · rw [if_neg c] at hC hS
          exact Or.inr (Or.inr (Or.inl ⟨hC, hS⟩))
      · have w4' : wI B (tP B n A) (tL B n A) = (w : Int) := w4
        have hl := (mtB_iff.1 w3).1
        have h6 := (wd_ok ⟨w, by omega⟩).2.2.2.2
        dsimp only at h6
        rw [if_neg (by rw [w4']; omega)] at hS
        rw [if_pos (by omega)] at hC
        exact Or.inr (Or.inr (Or.inr (Or.inr (Or.inl ⟨hC, hS, w, by omega, w4', (pk_all (by omega) hL w (by omega)).2 w3⟩))))
