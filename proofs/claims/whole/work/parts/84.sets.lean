/-! SEARCHES: sets of users -/
def tb (s u : Nat) : Bool := decide ((s >>> u) % 2 = 1)
theorem tb_x : ∀ (s : Fin 64) (u : Fin 8), (zI s.val >>> (zI u.val &&& zI 31)) &&& zI 1 = bI (tb s.val u.val) := by decide +kernel
theorem tb_d {s u : Nat} (hs : s < 64) (hu : u < 8) : (zI (s : Int) >>> (zI (u : Int) &&& zI 31)) &&& zI 1 = bI (tb s u) := tb_x ⟨s, hs⟩ ⟨u, hu⟩
theorem nx_0 : ∀ (n : Fin 7) (s : Fin 64), s.val < 2 ^ n.val → P_X7_nextOf (zI s.val) (zI (-1)) = some (zI ((cf (tb s.val) n.val 0).getD 0 6 : Nat)) := by decide +kernel
theorem nx_1 : ∀ (n : Fin 7) (s : Fin 64) (i : Fin 7), s.val < 2 ^ n.val → i.val < (cf (tb s.val) n.val 0).length → P_X7_nextOf (zI s.val) (zI ((cf (tb s.val) n.val 0).getD i.val 6 : Nat)) = some (zI ((cf (tb s.val) n.val 0).getD (i.val + 1) 6 : Nat)) := by decide +kernel
theorem nx_2 : ∀ (n : Fin 7) (s : Fin 64) (i : Fin 7), s.val < 2 ^ n.val → i.val < (cf (tb s.val) n.val 0).length → P_X7_aheadOf (zI s.val) (zI ((cf (tb s.val) n.val 0).getD i.val 6 : Nat)) = some (zI (if i.val = 0 then -1 else ((cf (tb s.val) n.val 0).getD (i.val - 1) 6 : Nat))) := by decide +kernel
theorem tb_0 : ∀ (n : Fin 7) (s : Fin 64), s.val < 2 ^ n.val → ((cf (tb s.val) n.val 0).length = 0 ↔ s.val = 0) := by decide +kernel
def v_chf (V : sV) (f : Nat → Fin 61) : sV := (V.1, (v_st V, v_lo V, v_hi V, f, v_pw V, v_sl V), v_ls V, v_lk V, v_sh V)
theorem v_chI (V : sV) : v_chf V (v_ch V) = V := rfl
theorem v_chS (V : sV) (f : Nat → Fin 61) (u : Nat) (c : Fin 61) : v_setch (v_chf V f) u c = v_chf V (qc_u f u c) := rfl
/-- none of them has a channel -/
def unf (V : sV) (s k : Nat) : Nat → Fin 61 := fun u => if u < k ∧ tb s u = true then 0 else v_ch V u
theorem unf_s (V : sV) (s k : Nat) (h : tb s k = true) : unf V s (k + 1) = qc_u (unf V s k) k 0 := by
  funext u
  show (if u < k + 1 ∧ tb s u = true then (0 : Fin 61) else v_ch V u) = if u = k then 0 else (if u < k ∧ tb s u = true then 0 else v_ch V u)
  by_cases c : u = k
  · rw [if_pos c, if_pos ⟨by omega, by rw [c]; exact h⟩]
  · rw [if_neg c]
    by_cases d : u < k ∧ tb s u = true
    · rw [if_pos d, if_pos ⟨by omega, d.2⟩]
    · rw [if_neg d, if_neg (fun x => d ⟨by omega, x.2⟩)]
theorem unf_n (V : sV) (s k : Nat) (h : tb s k = false) : unf V s (k + 1) = unf V s k := by
  funext u
  unfold unf
  by_cases d : u < k ∧ tb s u = true
  · rw [if_pos d, if_pos ⟨by omega, d.2⟩]
  · rw [if_neg d, if_neg]
    intro x
    by_cases c : u = k
    · rw [c, h] at x; exact absurd x.2 (by decide)
    · exact d ⟨by omega, x.2⟩
theorem unf_0 (V : sV) (s : Nat) : unf V s 0 = v_ch V := by
  funext u
  unfold unf
  rw [if_neg (fun x => by omega)]
/-- the wanted, as they lie in the search -/
def WK (I : Nat → Nat → Int32) (K : List Nat) : Prop := I 33 1 = zI (K.length : Nat) ∧ ∀ i (h : i < K.length), I 34 i = zI (K[i] : Nat)
theorem x_unt7 {J : Nat → Nat → Int64} {V : sV} {s : Nat} (hs : s < 64) (h6 : (v_us V).val ≤ 6) : ∀ (d u f : Nat) (I : Nat → Nat → Int32) (A : List Nat), u + d = (v_us V).val → d < f → SX I J 12 (v_chf V (unf V s u)) → WK I A → A.length ≤ u → wp (P_X5_untune_7 12 f I (zI s) (zI u)) (fun I' => SX I' J 12 (v_chf V (unf V s (v_us V).val)) ∧ WK I' (A ++ cf (tb s) d u) ∧ (∀ t, t ≠ 19 → t ≠ 33 → t ≠ 34 → I' t = I t) ∧ I' 33 2 = I 33 2) := by
  intro d
  induction d with
  | zero =>
    intro u f I A hu hf hS hW hA
    obtain ⟨g, rfl⟩ : ∃ g, f = g + 1 := ⟨f - 1, by omega⟩
    have e : u = (v_us V).val := by omega
    subst e
    have c : zI ((v_us V).val : Int) ≤ zI ((v_us V).val : Int) := by rw [zI_le] <;> omega
    have h0 : I 12 0 = zI ((v_us V).val : Int) := hS.1
    rw [P_X5_untune_7, h0, if_pos c]
    refine wp_some ⟨hS, ?_, fun _ _ _ _ => rfl, rfl⟩
    show WK I (A ++ [])
    rw [List.append_nil]
    exact hW
  | succ d ih =>
    intro u f I A hu hf hS hW hA
    obtain ⟨g, rfl⟩ : ∃ g, f = g + 1 := ⟨f - 1, by omega⟩
    have h0 : I 12 0 = zI ((v_us V).val : Int) := hS.1
    have ht := tb_d hs (show u < 8 by omega)
    have e0 : cf (tb s) (d + 1) u = if tb s u = true then u :: cf (tb s) d (u + 1) else cf (tb s) d (u + 1) := rfl
    have i8 : qc_in (zI (u : Int)) 8 := by simp (disch := omega) only [zI_add, zI_sub, zI_mul, zI_neg, zL, zI_le, zI_lt, zI_eq, zI_cl, zA0, zI_if, Int.toNat_natCast, zT_add, zT_mul, Int.reduceToNat, Nat.add_zero, Nat.zero_add, Int.add_zero, Int.zero_add, zc_a, zc_l, Option.bind_some, qc_let, qc_in, qc_bo, iteT, iteF, and_self, if_true, if_false, qG]; omega
    have r8 : (zI (u : Int)).toNatClampNeg = u := by rw [zI_cl (by omega) (by omega)]; omega
    have c : ¬ zI ((v_us V).val : Int) ≤ zI (u : Int) := by rw [zI_le] <;> omega
    have c6 : ¬ zI 6 ≤ zI (A.length : Int) := by rw [zI_le] <;> omega
    have iA : qc_in (zI (A.length : Int)) 6 := by simp (disch := omega) only [zI_add, zI_sub, zI_mul, zI_neg, zL, zI_le, zI_lt, zI_eq, zI_cl, zA0, zI_if, Int.toNat_natCast, zT_add, zT_mul, Int.reduceToNat, Nat.add_zero, Nat.zero_add, Int.add_zero, Int.zero_add, zc_a, zc_l, Option.bind_some, qc_let, qc_in, qc_bo, iteT, iteF, and_self, if_true, if_false, qG]; omega
    have rA : (zI (A.length : Int)).toNatClampNeg = A.length := by rw [zI_cl (by omega) (by omega)]; omega
    rw [P_X5_untune_7]
    simp only [zL]
    rw [h0, if_neg c, hW.1, if_neg c6, ht]
    simp only [bI_0]
    cases et : tb s u
    · rw [if_pos (show false = false from rfl), e0, et, if_neg (by decide)]
      unfold P_X5_untune_59
      simp only [zI_add, zI_sub, zI_mul, zI_neg, zL, qc_let]
      have hS' := hS
      rw [← unf_n V s u et] at hS'
      have := ih (u + 1) g I A (by omega) (by omega) hS' hW (by omega)
      simpa only [zc_a, zc_l] using this
    · rw [if_neg (show ¬ true = false by decide), e0, et, if_pos (show true = true from rfl), if_pos i8, r8]
      simp only [qc_let]
      have n1 : qc_u2 I 19 u (zI 0) 33 1 = zI (A.length : Nat) := by rw [u2_ne (by omega)]; exact hW.1
      have n2 : qc_u2 (qc_u2 I 19 u (zI 0)) 34 A.length (zI (u : Int)) 33 1 = zI (A.length : Nat) := by rw [u2_ne (by omega)]; exact n1
      have n1' : qc_u2 I (12 + 1 + 6) u (zI 0) 33 1 = zI (A.length : Nat) := n1
      rw [n1', if_pos iA, rA]
      have n2' : qc_u2 (qc_u2 I (12 + 1 + 6) u (zI 0)) 34 A.length (zI (u : Int)) 33 1 = zI (A.length : Nat) := n2
      rw [n2']
      unfold P_X5_untune_59
      simp only [zI_add, zI_sub, zI_mul, zI_neg, zL, qc_let]
      have hS1 := SX_setch hS u 0
      rw [v_chS, ← unf_s V s u et] at hS1
      have hS2 : SX (qc_u2 (qc_u2 (qc_u2 I 19 u (zI 0)) 34 A.length (zI (u : Int))) 33 1 (zI ((A.length : Int) + 1))) J 12 (v_chf V (unf V s (u + 1))) := by
        refine SX_e (fun t _ _ => ?_) rfl hS1
        rw [u2_ne (by omega), u2_ne (by omega)]
        rfl
      have := ih (u + 1) g (qc_u2 (qc_u2 (qc_u2 I 19 u (zI 0)) 34 A.length (zI (u : Int))) 33 1 (zI ((A.length : Int) + 1))) (A ++ [u]) (by omega) (by omega) hS2 ⟨by rw [qG, if_pos ⟨rfl, rfl⟩, List.length_append]; rfl, by
        intro i hi
        rw [List.length_append, List.length_cons, List.length_nil] at hi
        rw [u2_ne (by omega), qG]
        by_cases x : i < A.length
        · rw [if_neg (by omega), u2_ne (by omega), List.getElem_append_left x]
          exact hW.2 i x
        · have x : i = A.length := by omega
          subst x
          rw [if_pos ⟨rfl, rfl⟩, List.getElem_append_right (by omega)]
          simp⟩ (by rw [List.length_append, List.length_cons, List.length_nil]; omega)
      simp only [zc_a, zc_l] at this ⊢
      refine wp_mono this ?_
      intro I' ⟨k1, k2, k3, k4⟩
      refine ⟨k1, ?_, ?_, ?_⟩
      · rw [List.append_assoc] at k2; exact k2
      · intro t a b c
        rw [k3 t a b c, u2_ne b, u2_ne c, u2_ne a]
      · rw [k4, qG, if_neg (by omega), u2_ne (by omega), u2_ne (by omega)]
theorem x_unt {I : Nat → Nat → Int32} {J : Nat → Nat → Int64} {V : sV} {s : Nat} (hs : s < 64) (h6 : (v_us V).val ≤ 6) (hS : SX I J 12 V) : wp (P_X5_untune I 12 (zI s)) (fun I' => SX I' J 12 (v_chf V (unf V s (v_us V).val)) ∧ WK I' (cf (tb s) (v_us V).val 0) ∧ (∀ t, t ≠ 19 → t ≠ 33 → t ≠ 34 → I' t = I t) ∧ I' 33 2 = I 33 2) := by
  unfold P_X5_untune
  simp only [zL, qc_let]
  have hS1 : SX (qc_u2 I 33 1 (zI 0)) J 12 (v_chf V (unf V s 0)) := by
    rw [unf_0]
    exact SX_e (fun t _ _ => u2_ne (by omega)) rfl hS
  refine wp_mono (x_unt7 hs h6 (v_us V).val 0 qc_fu _ [] (by omega) (by unfold qc_fu; omega) hS1 ⟨by rw [qG, if_pos ⟨rfl, rfl⟩]; rfl, by intro i hi; simp at hi⟩ (by simp)) ?_
  intro I' ⟨k1, k2, k3, k4⟩
  refine ⟨k1, k2, ?_, ?_⟩
  · intro t a b c; rw [k3 t a b c, u2_ne b]
  · rw [k4, qG, if_neg (by omega)]
/-- what a search leaves of the reference -/
def eK (M M' : Nat → Nat → Int32) : Prop := (∀ t, t ≠ 0 → t ≠ 13 → t < 16 ∨ 22 < t → M' t = M t) ∧ (∀ j, 6 ≤ j → M' 13 j = M 13 j) ∧ (∀ j, j ≠ 41 → j ≠ 42 → M' 0 j = M 0 j)
theorem eK_r (M : Nat → Nat → Int32) : eK M M := ⟨fun _ _ _ _ => rfl, fun _ _ => rfl, fun _ _ _ => rfl⟩
theorem eK_t {M M' M'' : Nat → Nat → Int32} (h : eK M M') (h' : eK M' M'') : eK M M'' := ⟨fun t a b c => (h'.1 t a b c).trans (h.1 t a b c), fun j a => (h'.2.1 j a).trans (h.2.1 j a), fun j a b => (h'.2.2 j a b).trans (h.2.2 j a b)⟩
theorem eK_P {M M' : Nat → Nat → Int32} (h : eP M M') : eK M M' := ⟨fun t a b c => h.1 t a c, fun j _ => by rw [h.1 13 (by omega) (by omega)], fun j a _ => h.2 j a⟩
theorem eK_s (M : Nat → Nat → Int32) {u : Nat} (hu : u < 6) (x : Int32) : eK M (qc_u2 M 13 u x) := ⟨fun t _ b _ => u2_ne b, fun j hj => by rw [qG, if_neg (by omega)], fun j _ _ => by rw [u2_ne (by omega)]⟩
theorem eK_l (M : Nat → Nat → Int32) (x : Int32) : eK M (qc_u2 M 0 42 x) := ⟨fun t a _ _ => u2_ne a, fun j _ => by rw [u2_ne (by omega)], fun j _ b => by rw [qG, if_neg (by omega)]⟩
theorem MX_l {M : Nat → Nat → Int32} {V : sV} (h : MX M V) (x : Int32) : MX (qc_u2 M 0 42 x) V := by
  unfold MX at *
  rw [u2_ne (t' := 2) (by omega), u2_ne (t' := 5) (by omega), u2_ne (t' := 7) (by omega), u2_ne (t' := 8) (by omega), u2_ne (t' := 11) (by omega), u2_ne (t' := 13) (by omega), qG, if_neg (by omega), qG, if_neg (by omega), qG, if_neg (by omega), qG, if_neg (by omega)]
  exact h
theorem m_clr2 {V : sV} {s : Nat} (hs : s < 64) (h6 : (v_us V).val ≤ 6) : ∀ (d u f : Nat) (M : Nat → Nat → Int32), u + d = (v_us V).val → d < f → MX M (v_chf V (unf V s u)) → wp (P_X7_clears_2 f M (zI s) (zI u)) (fun M' => MX M' (v_chf V (unf V s (v_us V).val)) ∧ eK M M' ∧ M' 0 42 = M 0 42) := by
  intro d
  induction d with
  | zero =>
    intro u f M hu hf hM
    obtain ⟨g, rfl⟩ : ∃ g, f = g + 1 := ⟨f - 1, by omega⟩
    have e : u = (v_us V).val := by omega
    subst e
    have c : zI ((v_us V).val : Int) ≤ zI ((v_us V).val : Int) := by rw [zI_le] <;> omega
    have h0 : M 2 7 = zI ((v_us V).val : Int) := hM.1
    rw [P_X7_clears_2, P_X7_users, Option.bind_some, h0, if_pos c]
    exact wp_some ⟨hM, eK_r M, rfl⟩
  | succ d ih =>
    intro u f M hu hf hM
    obtain ⟨g, rfl⟩ : ∃ g, f = g + 1 := ⟨f - 1, by omega⟩
    have h0 : M 2 7 = zI ((v_us V).val : Int) := hM.1
    have ht := tb_d hs (show u < 8 by omega)
    have i0 : qc_in (zI 0 + zI (u : Int)) 79 := by simp (disch := omega) only [zI_add, zI_sub, zI_mul, zI_neg, zL, zI_le, zI_lt, zI_eq, zI_cl, zA0, zI_if, Int.toNat_natCast, zT_add, zT_mul, Int.reduceToNat, Nat.add_zero, Nat.zero_add, Int.add_zero, Int.zero_add, zc_a, zc_l, Option.bind_some, qc_let, qc_in, qc_bo, iteT, iteF, and_self, if_true, if_false, qG]; omega
    have r0 : (zI 0 + zI (u : Int)).toNatClampNeg = u := by rw [zI_add, zI_cl (by omega) (by omega)]; omega
    have c : ¬ zI ((v_us V).val : Int) ≤ zI (u : Int) := by rw [zI_le] <;> omega
    rw [P_X7_clears_2, P_X7_users, Option.bind_some, h0]
    simp only [zL]
    rw [if_neg c, ht]
    simp only [bI_1]
    cases et : tb s u
    · rw [if_neg (show ¬ false = true by decide)]
      unfold P_X7_clears_28
      simp only [zI_add, zI_sub, zI_mul, zI_neg, zL, qc_let]
      have hM' := hM
      rw [← unf_n V s u et] at hM'
      have := ih (u + 1) g M (by omega) (by omega) hM'
      simpa only [zc_a, zc_l] using this
    · rw [if_pos (show true = true from rfl), if_pos i0, r0]
      unfold P_X7_clears_28
      simp only [zI_add, zI_sub, zI_mul, zI_neg, zL, qc_let]
      have hM' := MX_ch hM (u := u) (show u < (v_us V).val by omega) 0
      rw [v_chS, ← unf_s V s u et] at hM'
      have := ih (u + 1) g (qc_u2 M 13 u (zI 0)) (by omega) (by omega) hM'
      simp only [zc_a, zc_l] at this
      refine wp_mono this ?_
      intro M' ⟨k1, k2, k3⟩
      exact ⟨k1, eK_t (eK_s M (by omega) _) k2, by rw [k3, u2_ne (by omega)]⟩
theorem m_clr {V : sV} {s : Nat} (hs : s < 64) {M : Nat → Nat → Int32} (hM : MX M V) : wp (P_X7_clears M (zI s)) (fun M' => MX M' (v_chf V (unf V s (v_us V).val)) ∧ eK M M' ∧ M' 0 42 = M 0 42) := by
  have h6 : (v_us V).val ≤ 6 := hM.2.2.2.2.2.2.2.2.2.2.2.2.2.2.1
  unfold P_X7_clears
  simp only [zL]
  exact m_clr2 hs h6 (v_us V).val 0 qc_fu M (by omega) (by unfold qc_fu; omega) (by rw [unf_0]; exact hM)
theorem m_srch32 {V : sV} {s : Nat} (hs : s < 64) (h6 : (v_us V).val ≤ 6) {x : Int32} : ∀ (d u f : Nat) (M : Nat → Nat → Int32), u + d = (v_us V).val → d < f → MX M (v_chf V (unf V s u)) → ∃ M', P_X7_searches_32 f M (zI s) x (zI u) = P_X7_searches_64 qc_fu M' (zI s) x ∧ MX M' (v_chf V (unf V s (v_us V).val)) ∧ eK M M' ∧ M' 0 42 = M 0 42 := by
  intro d
  induction d with
  | zero =>
    intro u f M hu hf hM
    obtain ⟨g, rfl⟩ : ∃ g, f = g + 1 := ⟨f - 1, by omega⟩
    have e : u = (v_us V).val := by omega
    subst e
    have c : zI ((v_us V).val : Int) ≤ zI ((v_us V).val : Int) := by rw [zI_le] <;> omega
    have h0 : M 2 7 = zI ((v_us V).val : Int) := hM.1
    rw [P_X7_searches_32, P_X7_users, Option.bind_some, h0, if_pos c]
    exact ⟨M, rfl, hM, eK_r M, rfl⟩
  | succ d ih =>
    intro u f M hu hf hM
    obtain ⟨g, rfl⟩ : ∃ g, f = g + 1 := ⟨f - 1, by omega⟩
    have h0 : M 2 7 = zI ((v_us V).val : Int) := hM.1
    have ht := tb_d hs (show u < 8 by omega)
    have i0 : qc_in (zI 0 + zI (u : Int)) 79 := by simp (disch := omega) only [zI_add, zI_sub, zI_mul, zI_neg, zL, zI_le, zI_lt, zI_eq, zI_cl, zA0, zI_if, Int.toNat_natCast, zT_add, zT_mul, Int.reduceToNat, Nat.add_zero, Nat.zero_add, Int.add_zero, Int.zero_add, zc_a, zc_l, Option.bind_some, qc_let, qc_in, qc_bo, iteT, iteF, and_self, if_true, if_false, qG]; omega
    have r0 : (zI 0 + zI (u : Int)).toNatClampNeg = u := by rw [zI_add, zI_cl (by omega) (by omega)]; omega
    have c : ¬ zI ((v_us V).val : Int) ≤ zI (u : Int) := by rw [zI_le] <;> omega
    rw [P_X7_searches_32, P_X7_users, Option.bind_some, h0]
    simp only [zL]
    rw [if_neg c, ht]
    simp only [bI_1]
    cases et : tb s u
    · rw [if_neg (show ¬ false = true by decide)]
      unfold P_X7_searches_58
      simp only [zI_add, zI_sub, zI_mul, zI_neg, zL, qc_let]
      have hM' := hM
      rw [← unf_n V s u et] at hM'
      have := ih (u + 1) g M (by omega) (by omega) hM'
      simpa only [zc_a, zc_l] using this
    · rw [if_pos (show true = true from rfl), if_pos i0, r0]
      unfold P_X7_searches_58
      simp only [zI_add, zI_sub, zI_mul, zI_neg, zL, qc_let]
      have hM' := MX_ch hM (u := u) (show u < (v_us V).val by omega) 0
      rw [v_chS, ← unf_s V s u et] at hM'
      have := ih (u + 1) g (qc_u2 M 13 u (zI 0)) (by omega) (by omega) hM'
      simp only [zc_a, zc_l] at this
      obtain ⟨M', k0, k1, k2, k3⟩ := this
      exact ⟨M', k0, k1, eK_t (eK_s M (by omega) _) k2, by rw [k3, u2_ne (by omega)]⟩
