/-! THE REFERENCE'S PRODUCTS: its loops -/
theorem prdS_cons (V : sV) (q : Qd) (R : List Qd) : prdS V (q :: R) = prdS V [q] ++ prdS V R := by
  unfold prdS
  rw [← List.filter_append]
  rfl
theorem prdS_app (V : sV) (A B : List Qd) : prdS V (A ++ B) = prdS V A ++ prdS V B := List.filter_append A B
theorem prdS_len (V : sV) (A : List Qd) : (prdS V A).length ≤ A.length := List.length_filter_le _ _
theorem m_isThere {M : Nat → Nat → Int32} {V : sV} (h : MX M V) {a s : Nat} (ha : a < (v_us V).val) (hs : s < 3) : P_X7_isThere M (zI a) (zI s) = some (bI (thereS V s a)) := by
  obtain ⟨hus, hbd, hgd, hsp, hod, hst, hlo, hhi, hch, hpw, hsl, hls, hlk, hsh, h6, hl1⟩ := h
  unfold P_X7_isThere thereS
  simp (disch := omega) only [zI_add, zI_sub, zI_mul, zI_neg, zL, zI_le, zI_lt, zI_eq, zI_cl, zA0, zI_if, Int.toNat_natCast, zT_add, zT_mul, Int.reduceToNat, Nat.add_zero, Nat.zero_add, Int.add_zero, Int.zero_add, zc_a, zc_l, Option.bind_some, qc_let, qc_in, qc_bo, iteT, iteF, and_self, if_true, if_false, qG, hst, hch]
  repeat' split
  all_goals try simp (disch := omega) only [zI_add, zI_sub, zI_mul, zI_neg, zL, zI_le, zI_lt, zI_eq, zI_cl, zA0, zI_if, Int.toNat_natCast, zT_add, zT_mul, Int.reduceToNat, Nat.add_zero, Nat.zero_add, Int.add_zero, Int.zero_add, zc_a, zc_l, Option.bind_some, qc_let, qc_in, qc_bo, iteT, iteF, and_self, if_true, if_false, qG, true_or, or_true, if_true]
  all_goals first | (exfalso; omega) | (rw [bI_n (by omega)]) | (rw [bI_p (by omega)])
theorem m_103 {V : sV} {k2 : (Nat → Nat → Int32) → Int32 → Int32 → Int32 → Option (Nat → Nat → Int32)} {k13 : (Nat → Nat → Int32) → Int32 → Int32 → Int32 → Int32 → Option (Nat → Nat → Int32)} {Q : (Nat → Nat → Int32) → Prop} {M0 : Nat → Nat → Int32} (h0 : MX M0 V) {s k a b : Nat} (hs : s < 3) (hk : k = 3 ∨ k = 5) (ha : a < (v_us V).val) (hb : b < (v_us V).val) : ∀ d c f M L, c + d = (v_us V).val → d < f → eP M0 M → ML M V L → L.length + (cand3 (cf (thereS V s) d c) k a b).length ≤ 300 → (∀ M', eP M0 M' → ML M' V (L ++ prdS V (cand3 (cf (thereS V s) d c) k a b)) → wp (k13 M' (zI s) (zI k) (zI a) (zI ((b + 1 : Nat) : Int))) Q) → wp (P_X7_laysSort_103 k2 k13 f M (zI s) (zI k) (zI a) (zI b) (zI c)) Q := by
  intro d
  have h6 : (v_us V).val ≤ 6 := h0.2.2.2.2.2.2.2.2.2.2.2.2.2.2.1
  induction d with
  | zero =>
    intro c f M L hc hf he hL hcap K
    obtain ⟨g, rfl⟩ : ∃ g, f = g + 1 := ⟨f - 1, by omega⟩
    have hus := (MX_e (eP_M he) h0).1
    simp (disch := omega) only [P_X7_laysSort_103, P_X7_laysSort_151, P_X7_users, zI_add, zI_sub, zI_mul, zI_neg, zL, zI_le, zI_lt, zI_eq, zI_cl, zA0, zI_if, Int.toNat_natCast, zT_add, zT_mul, Int.reduceToNat, Nat.add_zero, Nat.zero_add, Int.add_zero, Int.zero_add, zc_a, zc_l, Option.bind_some, qc_let, qc_in, qc_bo, iteT, iteF, and_self, if_true, if_false, qG, hus]
    have := K M he
    unfold cf cand3 at this
    rw [if_pos hk] at this
    simp only [List.filter_nil, List.map_nil, zc_a, zc_l] at this
    exact this (by unfold prdS; simpa using hL)
  | succ d ih =>
    intro c f M L hc hf he hL hcap K
    obtain ⟨g, rfl⟩ : ∃ g, f = g + 1 := ⟨f - 1, by omega⟩
    have hMM := MX_e (eP_M he) h0
    have hus := hMM.1
    simp (disch := omega) only [P_X7_laysSort_103, P_X7_laysSort_145, P_X7_users, zI_add, zI_sub, zI_mul, zI_neg, zL, zI_le, zI_lt, zI_eq, zI_cl, zA0, zI_if, Int.toNat_natCast, zT_add, zT_mul, Int.reduceToNat, Nat.add_zero, Nat.zero_add, Int.add_zero, Int.zero_add, zc_a, zc_l, Option.bind_some, qc_let, qc_in, qc_bo, iteT, iteF, and_self, if_true, if_false, qG, hus, m_isThere hMM (show c < (v_us V).val by omega) hs, bI_0]
    have skip : cand3 (cf (thereS V s) (d + 1) c) k a b = cand3 (cf (thereS V s) d (c + 1)) k a b → wp (P_X7_laysSort_103 k2 k13 g M (zI s) (zI k) (zI a) (zI b) (zI ((c : Int) + 1))) Q := by
      intro e
      rw [e] at hcap K
      have := ih (c + 1) g M L (by omega) (by omega) he hL hcap K
      simpa only [zc_a, zc_l] using this
    by_cases et : thereS V s c = true
    · rw [if_neg (by rw [et]; decide)]
      have e0 : cf (thereS V s) (d + 1) c = c :: cf (thereS V s) d (c + 1) := by
        show (if thereS V s c = true then _ else _) = _
        rw [if_pos et]
      by_cases e1 : c = a
      · rw [if_pos (by omega)]
        apply skip
        rw [e0]
        unfold cand3
        rw [if_pos hk, if_pos hk, List.filter_cons_of_neg (by simp; omega)]
      · rw [if_neg (by omega)]
        by_cases e2 : c = b
        · rw [if_pos (by omega)]
          apply skip
          rw [e0]
          unfold cand3
          rw [if_pos hk, if_pos hk, List.filter_cons_of_neg (by simp; omega)]
        · rw [if_neg (by omega)]
          have e3 : cand3 (cf (thereS V s) (d + 1) c) k a b = (k, a, b, (c : Int)) :: cand3 (cf (thereS V s) d (c + 1)) k a b := by
            rw [e0]
            unfold cand3
            rw [if_pos hk, if_pos hk, List.filter_cons_of_pos (by simp; omega)]
            rfl
          rw [e3] at hcap K
          rw [List.length_cons] at hcap
          refine wp_bind (m_adds hMM hL (by omega) (show gdQ (v_us V).val (k, a, b, (c : Int)) from ⟨by show k < 6; omega, ha, hb, Or.inl ⟨hk, by show (0 : Int) ≤ c; omega, by show (c : Int) < _; omega⟩⟩)) ?_
          intro M1 ⟨hL1, he1⟩
          have := ih (c + 1) g M1 (L ++ prdS V [(k, a, b, (c : Int))]) (by omega) (by omega) (eP_t he he1) hL1 (by
            have := prdS_len V [(k, a, b, (c : Int))]
            rw [List.length_append]
            simp only [List.length_cons, List.length_nil] at this
            omega) (by
            intro M' h1 h2
            refine K M' h1 ?_
            rw [prdS_cons, ← List.append_assoc]
            exact h2)
          simpa only [zc_a, zc_l] using this
    · have et : thereS V s c = false := by simpa using et
      rw [if_pos et]
      apply skip
      show cand3 (if thereS V s c = true then _ else _) k a b = _
      rw [if_neg (by rw [et]; decide)]
theorem m_77 {V : sV} {k2 : (Nat → Nat → Int32) → Int32 → Int32 → Int32 → Option (Nat → Nat → Int32)} {k13 : (Nat → Nat → Int32) → Int32 → Int32 → Int32 → Int32 → Option (Nat → Nat → Int32)} {Q : (Nat → Nat → Int32) → Prop} {M0 : Nat → Nat → Int32} (h0 : MX M0 V) {s k a b : Nat} (hs : s < 3) (hk : k < 6) (ha : a < (v_us V).val) (hb : b < (v_us V).val) {M : Nat → Nat → Int32} {L : List Qd} (he : eP M0 M) (hL : ML M V L) (hcap : L.length + (cand3 (crew V s) k a b).length ≤ 300) (K : ∀ M', eP M0 M' → ML M' V (L ++ prdS V (cand3 (crew V s) k a b)) → wp (k13 M' (zI s) (zI k) (zI a) (zI ((b + 1 : Nat) : Int))) Q) : wp (P_X7_laysSort_77 k2 k13 M (zI s) (zI k) (zI a) (zI b)) Q := by
  unfold P_X7_laysSort_77 P_X7_laysSort_100 P_X7_laysSort_151
  simp (disch := omega) only [zI_add, zI_sub, zI_mul, zI_neg, zL, zI_le, zI_lt, zI_eq, zI_cl, zA0, zI_if, Int.toNat_natCast, zT_add, zT_mul, Int.reduceToNat, Nat.add_zero, Nat.zero_add, Int.add_zero, Int.zero_add, zc_a, zc_l, Option.bind_some, qc_let, qc_in, qc_bo, iteT, iteF, and_self, if_true, if_false, qG]
  by_cases e : k = 3 ∨ k = 5
  · have := m_103 (k2 := k2) (k13 := k13) (Q := Q) h0 hs e ha hb (v_us V).val 0 qc_fu M L (by omega) (by unfold qc_fu; omega) he hL hcap K
    by_cases e3 : (k : Int) = 3
    · rw [if_pos e3]
      exact this
    · rw [if_neg e3, if_pos (by omega)]
      exact this
  · rw [if_neg (by omega), if_neg (by omega)]
    unfold cand3 at hcap K
    rw [if_neg e] at hcap K
    simp only [List.length_cons, List.length_nil] at hcap
    refine wp_bind (m_adds (MX_e (eP_M he) h0) hL (by omega) (show gdQ (v_us V).val (k, a, b, (-2 : Int)) from ⟨hk, ha, hb, Or.inr ⟨e, rfl⟩⟩)) ?_
    intro M1 ⟨hL1, he1⟩
    have := K M1 (eP_t he he1) hL1
    simpa only [zc_a, zc_l] using this
theorem m_13 {V : sV} {k2 : (Nat → Nat → Int32) → Int32 → Int32 → Int32 → Option (Nat → Nat → Int32)} {Q : (Nat → Nat → Int32) → Prop} {M0 : Nat → Nat → Int32} (h0 : MX M0 V) {s k a : Nat} (hs : s < 3) (hk : k < 6) (ha : a < (v_us V).val) : ∀ d b f M L, b + d = (v_us V).val → d < f → eP M0 M → ML M V L → L.length + (if thereS V s a = true then cand2 (crew V s) (cf (thereS V s) d b) k a else []).length ≤ 300 → (∀ M', eP M0 M' → ML M' V (L ++ prdS V (if thereS V s a = true then cand2 (crew V s) (cf (thereS V s) d b) k a else [])) → wp (k2 M' (zI s) (zI k) (zI ((a + 1 : Nat) : Int))) Q) → wp (P_X7_laysSort_13 k2 f M (zI s) (zI k) (zI a) (zI b)) Q := by
  intro d
  have h6 : (v_us V).val ≤ 6 := h0.2.2.2.2.2.2.2.2.2.2.2.2.2.2.1
  induction d with
  | zero =>
    intro b f M L hc hf he hL hcap K
    obtain ⟨g, rfl⟩ : ∃ g, f = g + 1 := ⟨f - 1, by omega⟩
    have hus := (MX_e (eP_M he) h0).1
    simp (disch := omega) only [P_X7_laysSort_13, P_X7_users, zI_add, zI_sub, zI_mul, zI_neg, zL, zI_le, zI_lt, zI_eq, zI_cl, zA0, zI_if, Int.toNat_natCast, zT_add, zT_mul, Int.reduceToNat, Nat.add_zero, Nat.zero_add, Int.add_zero, Int.zero_add, zc_a, zc_l, Option.bind_some, qc_let, qc_in, qc_bo, iteT, iteF, and_self, if_true, if_false, qG, hus]
    have e : (if thereS V s a = true then cand2 (crew V s) (cf (thereS V s) 0 b) k a else []) = [] := by
      split <;> rfl
    rw [e] at K
    have := K M he (by unfold prdS; simpa using hL)
    simpa only [zc_a, zc_l] using this
  | succ d ih =>
    intro b f M L hc hf he hL hcap K
    obtain ⟨g, rfl⟩ : ∃ g, f = g + 1 := ⟨f - 1, by omega⟩
    have hMM := MX_e (eP_M he) h0
    have hus := hMM.1
    have skip : (if thereS V s a = true then cand2 (crew V s) (cf (thereS V s) (d + 1) b) k a else []) = (if thereS V s a = true then cand2 (crew V s) (cf (thereS V s) d (b + 1)) k a else []) → wp (P_X7_laysSort_13 k2 g M (zI s) (zI k) (zI a) (zI ((b : Int) + 1))) Q := by
      intro e
      rw [e] at hcap K
      have := ih (b + 1) g M L (by omega) (by omega) he hL hcap K
      simpa only [zc_a, zc_l] using this
    have hv : (if zI k = zI 0 then some (zI 1) else if zI k = zI 3 then some (zI 1) else some (zI 0)) = some (bI (decide (k = 0 ∨ k = 3))) := by
      simp (disch := omega) only [zI_add, zI_sub, zI_mul, zI_neg, zL, zI_le, zI_lt, zI_eq, zI_cl, zA0, zI_if, Int.toNat_natCast, zT_add, zT_mul, Int.reduceToNat, Nat.add_zero, Nat.zero_add, Int.add_zero, Int.zero_add, zc_a, zc_l, Option.bind_some, qc_let, qc_in, qc_bo, iteT, iteF, and_self, if_true, if_false, qG]
      split
      · rw [bI_p (by omega)]
      · split
        · rw [bI_p (by omega)]
        · rw [bI_n (by omega)]
    unfold P_X7_laysSort_13
    simp only [zI_add, zI_sub, zI_mul, zI_neg, zL]
    rw [hv]
    simp (disch := omega) only [P_X7_laysSort_151, P_X7_users, zI_add, zI_sub, zI_mul, zI_neg, zL, zI_le, zI_lt, zI_eq, zI_cl, zA0, zI_if, Int.toNat_natCast, zT_add, zT_mul, Int.reduceToNat, Nat.add_zero, Nat.zero_add, Int.add_zero, Int.zero_add, zc_a, zc_l, Option.bind_some, qc_let, qc_in, qc_bo, iteT, iteF, and_self, if_true, if_false, qG, hus, m_isThere hMM (show b < (v_us V).val by omega) hs, m_isThere hMM ha hs, bI_0]
    by_cases eta : thereS V s a = true
    · rw [if_neg (by rw [eta]; decide)]
      rw [if_pos eta] at hcap K
      by_cases etb : thereS V s b = true
      · rw [if_neg (by rw [etb]; decide)]
        have e0 : cf (thereS V s) (d + 1) b = b :: cf (thereS V s) d (b + 1) := by
          show (if thereS V s b = true then _ else _) = _
          rw [if_pos etb]
        have e1 : cand2 (crew V s) (cf (thereS V s) (d + 1) b) k a = (if a ≠ b ∧ ¬ ((k = 0 ∨ k = 3) ∧ b < a) then cand3 (crew V s) k a b else []) ++ cand2 (crew V s) (cf (thereS V s) d (b + 1)) k a := by
          rw [e0]
          rfl
        have none_ : ¬ (a ≠ b ∧ ¬ ((k = 0 ∨ k = 3) ∧ b < a)) → wp (P_X7_laysSort_13 k2 g M (zI s) (zI k) (zI a) (zI ((b : Int) + 1))) Q := by
          intro en
          apply skip
          rw [if_pos eta, if_pos eta, e1, if_neg en, List.nil_append]
        have some_ : a ≠ b ∧ ¬ ((k = 0 ∨ k = 3) ∧ b < a) → wp (P_X7_laysSort_77 k2 (P_X7_laysSort_13 k2 g) M (zI s) (zI k) (zI a) (zI b)) Q := by
          intro en
          rw [e1, if_pos en] at hcap K
          rw [List.length_append] at hcap
          refine m_77 h0 hs hk ha (by omega) he hL (by omega) ?_
          intro M1 he1 hL1
          refine ih (b + 1) g M1 _ (by omega) (by omega) he1 hL1 ?_ ?_
          · rw [if_pos eta, List.length_append]
            have := prdS_len V (cand3 (crew V s) k a b)
            omega
          · intro M' h1 h2
            refine K M' h1 ?_
            rw [if_pos eta] at h2
            rw [prdS_app, ← List.append_assoc]
            exact h2
        by_cases e2 : a = b
        · rw [if_pos (by omega)]
          exact none_ (by omega)
        · rw [if_neg (by omega)]
          by_cases e3 : k = 0 ∨ k = 3
          · rw [decide_eq_true e3, if_neg (by decide)]
            by_cases e4 : a ≤ b
            · rw [if_pos (by omega)]
              exact some_ (by omega)
            · rw [if_neg (by omega)]
              exact none_ (by omega)
          · rw [decide_eq_false e3, if_pos rfl]
            exact some_ (by omega)
      · have etb : thereS V s b = false := by simpa using etb
        rw [if_pos etb]
        apply skip
        rw [if_pos eta, if_pos eta]
        show cand2 _ (if thereS V s b = true then _ else _) k a = _
        rw [if_neg (by rw [etb]; decide)]
    · have eta' : thereS V s a = false := by simpa using eta
      rw [if_pos eta']
      apply skip
      rw [if_neg eta, if_neg eta]
theorem m_2 {V : sV} {M0 : Nat → Nat → Int32} (h0 : MX M0 V) {s k : Nat} (hs : s < 3) (hk : k < 6) : ∀ d a f M L, a + d = (v_us V).val → d < f → eP M0 M → ML M V L → L.length + (cand1 (crew V s) (cf (thereS V s) d a) k).length ≤ 300 → wp (P_X7_laysSort_2 f M (zI s) (zI k) (zI a)) (fun M' => eP M0 M' ∧ ML M' V (L ++ prdS V (cand1 (crew V s) (cf (thereS V s) d a) k))) := by
  intro d
  induction d with
  | zero =>
    intro a f M L hc hf he hL hcap
    obtain ⟨g, rfl⟩ : ∃ g, f = g + 1 := ⟨f - 1, by omega⟩
    have hus := (MX_e (eP_M he) h0).1
    simp (disch := omega) only [P_X7_laysSort_2, P_X7_users, zI_add, zI_sub, zI_mul, zI_neg, zL, zI_le, zI_lt, zI_eq, zI_cl, zA0, zI_if, Int.toNat_natCast, zT_add, zT_mul, Int.reduceToNat, Nat.add_zero, Nat.zero_add, Int.add_zero, Int.zero_add, zc_a, zc_l, Option.bind_some, qc_let, qc_in, qc_bo, iteT, iteF, and_self, if_true, if_false, qG, hus]
    refine wp_some ⟨he, ?_⟩
    show ML M V (L ++ [])
    rw [List.append_nil]
    exact hL
  | succ d ih =>
    intro a f M L hc hf he hL hcap
    obtain ⟨g, rfl⟩ : ∃ g, f = g + 1 := ⟨f - 1, by omega⟩
    have hus := (MX_e (eP_M he) h0).1
    simp (disch := omega) only [P_X7_laysSort_2, P_X7_users, zI_add, zI_sub, zI_mul, zI_neg, zL, zI_le, zI_lt, zI_eq, zI_cl, zA0, zI_if, Int.toNat_natCast, zT_add, zT_mul, Int.reduceToNat, Nat.add_zero, Nat.zero_add, Int.add_zero, Int.zero_add, zc_a, zc_l, Option.bind_some, qc_let, qc_in, qc_bo, iteT, iteF, and_self, if_true, if_false, qG, hus]
    have e0 : cand1 (crew V s) (cf (thereS V s) (d + 1) a) k = (if thereS V s a = true then cand2 (crew V s) (cf (thereS V s) (v_us V).val 0) k a else []) ++ cand1 (crew V s) (cf (thereS V s) d (a + 1)) k := by
      show cand1 _ (if thereS V s a = true then _ else _) k = _
      split <;> rfl
    rw [e0] at hcap ⊢
    rw [List.length_append] at hcap
    refine m_13 h0 hs hk (by omega) (v_us V).val 0 qc_fu M L (by omega) (by unfold qc_fu; omega) he hL (by omega) ?_
    intro M1 he1 hL1
    refine wp_mono (ih (a + 1) g M1 _ (by omega) (by omega) he1 hL1 ?_) ?_
    · rw [List.length_append]
      have := prdS_len V (if thereS V s a = true then cand2 (crew V s) (cf (thereS V s) (v_us V).val 0) k a else [])
      omega
    · intro M2 ⟨h1, h2⟩
      refine ⟨h1, ?_⟩
      rw [prdS_app, ← List.append_assoc]
      exact h2
theorem m_bit : ∀ k : Fin 6, P_X7_bitOf (zI k.val) = some (zI ((2 ^ (k.val / 2) : Nat) : Int)) := by decide +kernel
theorem m_bit2 : ∀ (o : Fin 8) (k : Fin 6), decide (zI o.val &&& zI ((2 ^ (k.val / 2) : Nat) : Int) = zI 0) = ! decide ((o.val >>> (k.val / 2)) % 2 = 1) := by decide +kernel
theorem m_14 {V : sV} {M0 : Nat → Nat → Int32} (h0 : MX M0 V) {k7 : (Nat → Nat → Int32) → Int32 → Option (Nat → Nat → Int32)} {Q : (Nat → Nat → Int32) → Prop} {s : Nat} (hs : s < 3) : ∀ d k f M L, k + d = 6 → d < f → eP M0 M → ML M V L → L.length + (candK V s d k).length ≤ 300 → (∀ M', eP M0 M' → ML M' V (L ++ prdS V (candK V s d k)) → wp (k7 M' (zI ((s + 1 : Nat) : Int))) Q) → wp (P_X7_laysProducts_14 k7 f M (zI s) (zI k)) Q := by
  intro d
  induction d with
  | zero =>
    intro k f M L hc hf he hL hcap K
    obtain ⟨g, rfl⟩ : ∃ g, f = g + 1 := ⟨f - 1, by omega⟩
    simp (disch := omega) only [P_X7_laysProducts_14, zI_add, zI_sub, zI_mul, zI_neg, zL, zI_le, zI_lt, zI_eq, zI_cl, zA0, zI_if, Int.toNat_natCast, zT_add, zT_mul, Int.reduceToNat, Nat.add_zero, Nat.zero_add, Int.add_zero, Int.zero_add, zc_a, zc_l, Option.bind_some, qc_let, qc_in, qc_bo, iteT, iteF, and_self, if_true, if_false, qG]
    have := K M he (by show ML M V (L ++ []); rw [List.append_nil]; exact hL)
    simpa only [zc_a, zc_l] using this
  | succ d ih =>
    intro k f M L hc hf he hL hcap K
    obtain ⟨g, rfl⟩ : ∃ g, f = g + 1 := ⟨f - 1, by omega⟩
    have hMM := MX_e (eP_M he) h0
    have hod := hMM.2.2.2.2.1
    have eb := m_bit ⟨k, by omega⟩
    have eb2 := m_bit2 (v_od V) ⟨k, by omega⟩
    dsimp only at eb eb2
    simp (disch := omega) only [P_X7_laysProducts_14, P_X7_laysProducts_38, zI_add, zI_sub, zI_mul, zI_neg, zL, zI_le, zI_lt, zI_eq, zI_cl, zA0, zI_if, Int.toNat_natCast, zT_add, zT_mul, Int.reduceToNat, Nat.add_zero, Nat.zero_add, Int.add_zero, Int.zero_add, zc_a, zc_l, Option.bind_some, qc_let, qc_in, qc_bo, iteT, iteF, and_self, if_true, if_false, qG, hod, eb]
    have e0 : candK V s (d + 1) k = cand0 V s k ++ candK V s d (k + 1) := rfl
    rw [e0] at hcap K
    rw [List.length_append] at hcap
    by_cases ew : wantS V k = true
    · have ew2 := ew
      unfold wantS at ew2
      rw [ew2] at eb2
      rw [if_neg (of_decide_eq_false eb2)]
      unfold cand0 at hcap K
      rw [if_pos ew] at hcap K
      refine wp_bind (m_2 h0 hs (by omega) (v_us V).val 0 qc_fu M L (by omega) (by unfold qc_fu; omega) he hL (by show L.length + (cand1 (crew V s) (crew V s) k).length ≤ 300; omega)) ?_
      intro M1 ⟨he1, hL1⟩
      have := ih (k + 1) g M1 _ (by omega) (by omega) he1 hL1 (by
        rw [List.length_append]
        have := prdS_len V (cand1 (crew V s) (crew V s) k)
        show _ + (prdS V (cand1 (crew V s) (crew V s) k)).length + _ ≤ _
        omega) (by
        intro M' h1 h2
        refine K M' h1 ?_
        rw [prdS_app, ← List.append_assoc]
        exact h2)
      simpa only [zc_a, zc_l] using this
    · have ew2 : wantS V k = false := by simpa using ew
      have ew3 := ew2
      unfold wantS at ew3
      rw [ew3] at eb2
      rw [if_pos (of_decide_eq_true eb2)]
      unfold cand0 at hcap K
      rw [if_neg ew] at hcap K
      have := ih (k + 1) g M L (by omega) (by omega) he hL (by simpa using hcap) (by
        intro M' h1 h2
        refine K M' h1 ?_
        simpa using h2)
      simpa only [zc_a, zc_l] using this
theorem m_7 {V : sV} {M0 : Nat → Nat → Int32} (h0 : MX M0 V) : ∀ d s f M L, s + d = 3 → d < f → eP M0 M → ML M V L → L.length + (candT V d s).length ≤ 300 → wp (P_X7_laysProducts_7 f M (zI s)) (fun M' => eP M0 M' ∧ ML M' V (L ++ prdS V (candT V d s))) := by
  intro d
  induction d with
  | zero =>
    intro s f M L hc hf he hL hcap
    obtain ⟨g, rfl⟩ : ∃ g, f = g + 1 := ⟨f - 1, by omega⟩
    simp (disch := omega) only [P_X7_laysProducts_7, zI_add, zI_sub, zI_mul, zI_neg, zL, zI_le, zI_lt, zI_eq, zI_cl, zA0, zI_if, Int.toNat_natCast, zT_add, zT_mul, Int.reduceToNat, Nat.add_zero, Nat.zero_add, Int.add_zero, Int.zero_add, zc_a, zc_l, Option.bind_some, qc_let, qc_in, qc_bo, iteT, iteF, and_self, if_true, if_false, qG]
    refine wp_some ⟨he, ?_⟩
    show ML M V (L ++ [])
    rw [List.append_nil]
    exact hL
  | succ d ih =>
    intro s f M L hc hf he hL hcap
    obtain ⟨g, rfl⟩ : ∃ g, f = g + 1 := ⟨f - 1, by omega⟩
    simp (disch := omega) only [P_X7_laysProducts_7, zI_add, zI_sub, zI_mul, zI_neg, zL, zI_le, zI_lt, zI_eq, zI_cl, zA0, zI_if, Int.toNat_natCast, zT_add, zT_mul, Int.reduceToNat, Nat.add_zero, Nat.zero_add, Int.add_zero, Int.zero_add, zc_a, zc_l, Option.bind_some, qc_let, qc_in, qc_bo, iteT, iteF, and_self, if_true, if_false, qG]
    have e0 : candT V (d + 1) s = candK V s 6 0 ++ candT V d (s + 1) := rfl
    rw [e0] at hcap ⊢
    rw [List.length_append] at hcap
    refine m_14 h0 (by omega) 6 0 qc_fu M L (by omega) (by unfold qc_fu; omega) he hL (by omega) ?_
    intro M1 he1 hL1
    refine wp_mono (ih (s + 1) g M1 _ (by omega) (by omega) he1 hL1 ?_) ?_
    · rw [List.length_append]
      have := prdS_len V (candK V s 6 0)
      omega
    · intro M2 ⟨h1, h2⟩
      refine ⟨h1, ?_⟩
      rw [prdS_app, ← List.append_assoc]
      exact h2
theorem m_lays_prods {M : Nat → Nat → Int32} {V : sV} (h : MX M V) (hcap : (candT V 3 0).length ≤ 300) : wp (P_X7_laysProducts M) (fun M' => eP M M' ∧ ML M' V (prods V)) := by
  unfold P_X7_laysProducts
  simp only [zL, qc_let]
  have he : eP M (qc_u2 M 0 41 (zI 0)) := by
    refine ⟨fun t ht _ => ?_, fun j hj => ?_⟩
    · unfold qc_u2 qc_u
      rw [if_neg ht]
    · rw [qG, if_neg (by omega)]
  refine wp_mono (m_7 h 3 0 qc_fu _ [] (by omega) (by unfold qc_fu; omega) he ⟨?_, ?_⟩ (by simpa using hcap)) ?_
  · rw [qG, if_pos ⟨rfl, rfl⟩]
    rfl
  · intro i hi
    simp at hi
  · intro M' ⟨h1, h2⟩
    exact ⟨h1, h2⟩
