/-! what isn't clean stays so, whatever one more has -/
theorem c3_mono {L L' : List Nat} (h : ∀ x ∈ L, x ∈ L') {k a b : Nat} : ∀ q ∈ cand3 L k a b, q ∈ cand3 L' k a b := by
  intro q hq
  unfold cand3 at *
  split at hq
  · rename_i hk
    rw [if_pos hk]
    rw [List.mem_map] at hq ⊢
    obtain ⟨c, hc, e⟩ := hq
    rw [List.mem_filter] at hc
    exact ⟨c, List.mem_filter.2 ⟨h c hc.1, hc.2⟩, e⟩
  · rename_i hk
    rw [if_neg hk]
    exact hq
theorem c1_mono {L L' : List Nat} (h : ∀ x ∈ L, x ∈ L') {k : Nat} : ∀ q ∈ cand1 L L k, q ∈ cand1 L' L' k := by
  intro q hq
  unfold cand1 cand2 at *
  rw [List.mem_flatMap] at hq ⊢
  obtain ⟨a, ha, hq⟩ := hq
  rw [List.mem_flatMap] at hq
  obtain ⟨b, hb, hq⟩ := hq
  refine ⟨a, h a ha, ?_⟩
  rw [List.mem_flatMap]
  refine ⟨b, h b hb, ?_⟩
  split at hq
  · rename_i c
    rw [if_pos c]
    exact c3_mono h q hq
  · cases hq
theorem c1_mem {L : List Nat} {k : Nat} : ∀ q ∈ cand1 L L k, q.2.1 ∈ L ∧ q.2.2.1 ∈ L ∧ (q.2.2.2 = -2 ∨ ∃ c ∈ L, q.2.2.2 = ((c : Nat) : Int)) := by
  intro q hq
  unfold cand1 cand2 at hq
  rw [List.mem_flatMap] at hq
  obtain ⟨a, ha, hq⟩ := hq
  rw [List.mem_flatMap] at hq
  obtain ⟨b, hb, hq⟩ := hq
  split at hq
  · unfold cand3 at hq
    split at hq
    · rw [List.mem_map] at hq
      obtain ⟨c, hc, e⟩ := hq
      rw [List.mem_filter] at hc
      subst e
      exact ⟨ha, hb, Or.inr ⟨c, hc.1, rfl⟩⟩
    · rw [List.mem_singleton] at hq
      subst hq
      exact ⟨ha, hb, Or.inl rfl⟩
  · cases hq
theorem ck_mono {V W : sV} {s : Nat} (h : ∀ x ∈ crew V s, x ∈ crew W s) (ho : v_od W = v_od V) : ∀ d k, ∀ q ∈ candK V s d k, q ∈ candK W s d k := by
  intro d
  induction d with
  | zero => intro k q hq; cases hq
  | succ d ih =>
    intro k q hq
    have e : candK V s (d + 1) k = cand0 V s k ++ candK V s d (k + 1) := rfl
    have e' : candK W s (d + 1) k = cand0 W s k ++ candK W s d (k + 1) := rfl
    rw [e, List.mem_append] at hq
    rw [e', List.mem_append]
    rcases hq with hq | hq
    · left
      unfold cand0 wantS at *
      rw [ho]
      split at hq
      · rename_i c
        rw [if_pos c]
        exact c1_mono h q hq
      · cases hq
    · right
      exact ih (k + 1) q hq
theorem ck_mem {V : sV} {s : Nat} : ∀ d k, ∀ q ∈ candK V s d k, q.2.1 ∈ crew V s ∧ q.2.2.1 ∈ crew V s ∧ (q.2.2.2 = -2 ∨ ∃ c ∈ crew V s, q.2.2.2 = ((c : Nat) : Int)) := by
  intro d
  induction d with
  | zero => intro k q hq; cases hq
  | succ d ih =>
    intro k q hq
    have e : candK V s (d + 1) k = cand0 V s k ++ candK V s d (k + 1) := rfl
    rw [e, List.mem_append] at hq
    rcases hq with hq | hq
    · unfold cand0 at hq
      split at hq
      · exact c1_mem q hq
      · cases hq
    · exact ih (k + 1) q hq
theorem ct_mono {V W : sV} (h : ∀ s, ∀ x ∈ crew V s, x ∈ crew W s) (ho : v_od W = v_od V) : ∀ d s, ∀ q ∈ candT V d s, q ∈ candT W d s := by
  intro d
  induction d with
  | zero => intro s q hq; cases hq
  | succ d ih =>
    intro s q hq
    have e : candT V (d + 1) s = candK V s 6 0 ++ candT V d (s + 1) := rfl
    have e' : candT W (d + 1) s = candK W s 6 0 ++ candT W d (s + 1) := rfl
    rw [e, List.mem_append] at hq
    rw [e', List.mem_append]
    rcases hq with hq | hq
    · left; exact ck_mono (h s) ho 6 0 q hq
    · right; exact ih (s + 1) q hq
theorem ct_mem {V : sV} : ∀ d s, ∀ q ∈ candT V d s, ∃ s', q.2.1 ∈ crew V s' ∧ q.2.2.1 ∈ crew V s' ∧ (q.2.2.2 = -2 ∨ ∃ c ∈ crew V s', q.2.2.2 = ((c : Nat) : Int)) := by
  intro d
  induction d with
  | zero => intro s q hq; cases hq
  | succ d ih =>
    intro s q hq
    have e : candT V (d + 1) s = candK V s 6 0 ++ candT V d (s + 1) := rfl
    rw [e, List.mem_append] at hq
    rcases hq with hq | hq
    · exact ⟨s, ck_mem 6 0 q hq⟩
    · exact ih (s + 1) q hq
theorem crew_t {V : sV} {s x : Nat} (h : x ∈ crew V s) : 0 < (v_ch V x).val := by
  have := (cf_mem _ _ _ h).2.2
  unfold thereS at this
  exact (of_decide_eq_true this).2
theorem strN_ex {V : sV} : ∀ L : List Qd, strN V L ≠ 0 → ∃ q ∈ L, hitsN V q ≠ 0 := by
  intro L
  induction L with
  | nil => intro h; exact absurd rfl h
  | cons q L ih =>
    intro h
    by_cases c : hitsN V q = 0
    · have : strN V L ≠ 0 := by
        intro e
        apply h
        show hitsN V q + strN V L = 0
        omega
      obtain ⟨x, hx, hy⟩ := ih this
      exact ⟨x, List.mem_cons_of_mem _ hx, hy⟩
    · exact ⟨q, List.mem_cons_self, c⟩
theorem strN_in {V : sV} {q : Qd} : ∀ L : List Qd, q ∈ L → hitsN V q ≤ strN V L := by
  intro L
  induction L with
  | nil => intro h; cases h
  | cons x L ih =>
    intro h
    show hitsN V q ≤ hitsN V x + strN V L
    rcases List.mem_cons.1 h with rfl | h
    · omega
    · have := ih h
      omega
theorem sm_ex {f : Nat → Nat} {d k : Nat} (h : sm f d k ≠ 0) : ∃ i, k ≤ i ∧ i < k + d ∧ f i ≠ 0 := by
  apply Classical.byContradiction
  intro hn
  apply h
  rw [sm_0]
  intro i h1 h2
  apply Classical.byContradiction
  intro hf
  exact hn ⟨i, h1, h2, hf⟩
theorem unclean {V : sV} {u : Nat} {c : Fin 61} (h0 : (v_ch V u).val = 0) (h : cleanS V = false) : cleanS (v_setch V u c) = false := by
  have hne : ∀ i, i ≠ u → v_ch (v_setch V u c) i = v_ch V i := by
    intro i hi
    show (if i = u then c else v_ch V i) = v_ch V i
    rw [if_neg hi]
  have ht : ∀ i, 0 < (v_ch V i).val → i ≠ u := by
    intro i hi e
    rw [e] at hi
    omega
  unfold cleanS at *
  by_cases w : wrongN V (v_us V).val 0 = 0
  · by_cases cp : couples V = 0
    · by_cases st : strN V (prods V) = 0
      · rw [decide_eq_true w, decide_eq_true cp, decide_eq_true st] at h
        exact absurd h (by decide)
      · have : strN (v_setch V u c) (prods (v_setch V u c)) ≠ 0 := by
          obtain ⟨q, hq, hh⟩ := strN_ex _ st
          have hq2 := List.mem_filter.1 hq
          obtain ⟨s', m1, m2, m3⟩ := ct_mem 3 0 q hq2.1
          have n1 := hne _ (ht _ (crew_t m1))
          have n2 := hne _ (ht _ (crew_t m2))
          have n3 : ¬ q.2.2.2 < 0 → v_ch (v_setch V u c) q.2.2.2.toNat = v_ch V q.2.2.2.toNat := by
            intro hc
            rcases m3 with m3 | ⟨x, hx, m3⟩
            · omega
            · rw [m3, Int.toNat_natCast]
              exact hne _ (ht _ (crew_t hx))
          have ec : chanS (v_setch V u c) q = chanS V q := by
            unfold chanS
            rw [n1, n2]
            by_cases hc : q.2.2.2 < 0
            · rw [if_pos hc, if_pos hc]
            · rw [if_neg hc, if_neg hc, n3 hc]
          have em : comS (v_setch V u c) q = comS V q := rfl
          have el : levS (v_setch V u c) q = levS V q := rfl
          have hT : q ∈ prods (v_setch V u c) := by
            refine List.mem_filter.2 ⟨?_, ?_⟩
            · refine ct_mono (V := V) (W := v_setch V u c) ?_ rfl 3 0 q hq2.1
              intro s x hx
              have hm := cf_mem _ _ _ hx
              refine cf_in _ _ _ hm.1 hm.2.1 ?_
              have := hm.2.2
              unfold thereS at *
              rw [hne x (ht x (crew_t hx))]
              exact this
            · have := hq2.2
              unfold isP at *
              rw [ec, em]
              exact this
          have hle := strN_in _ hT (V := v_setch V u c)
          obtain ⟨v, v1, v2, v3⟩ := sm_ex hh
          have hv : hitS V q v = true := by
            revert v3
            cases hitS V q v
            · intro x; exact absurd rfl x
            · intro _; rfl
          have hvt : 0 < (v_ch V v).val := by
            unfold hitS mayS at hv
            rw [Bool.and_eq_true] at hv
            exact (of_decide_eq_true hv.1).2.1
          have hvW : hitS (v_setch V u c) q v = true := by
            unfold hitS mayS at *
            rw [hne v (ht v hvt), ec, em, el]
            exact hv
          have : 1 ≤ hitsN (v_setch V u c) q := by
            have := sm_mem (f := fun u_1 => b1 (hitS (v_setch V u c) q u_1)) (u := v) (v_us V).val 0 (by omega) (by omega)
            rw [hvW, b1_T] at this
            exact this
          omega
        rw [decide_eq_false this, Bool.and_false, Bool.and_false]
    · have : couples (v_setch V u c) ≠ 0 := by
        unfold couples at *
        obtain ⟨a, a1, a2, a3⟩ := sm_ex cp
        obtain ⟨b, b1', b2, b3⟩ := sm_ex a3
        have hc : crowdS V a b = true := by
          revert b3
          cases crowdS V a b
          · intro x; exact absurd rfl x
          · intro _; rfl
        have hc2 := hc
        unfold crowdS at hc2
        have hc2 := of_decide_eq_true hc2
        have hW : crowdS (v_setch V u c) a b = true := by
          unfold crowdS at *
          rw [hne a (ht a hc2.2.2.1), hne b (ht b hc2.2.2.2.1)]
          exact hc
        have k1 := sm_mem (f := fun b => b1 (crowdS (v_setch V u c) a b)) (u := b) ((v_us V).val - (a + 1)) (a + 1) b1' b2
        rw [hW, b1_T] at k1
        have k2 := sm_mem (f := fun a => sm (fun b => b1 (crowdS (v_setch V u c) a b)) ((v_us V).val - (a + 1)) (a + 1)) (u := a) (v_us V).val 0 a1 a2
        show sm (fun a => sm (fun b => b1 (crowdS (v_setch V u c) a b)) ((v_us V).val - (a + 1)) (a + 1)) (v_us V).val 0 ≠ 0
        omega
      rw [decide_eq_false this, Bool.false_and, Bool.and_false]
  · have : wrongN (v_setch V u c) (v_us V).val 0 ≠ 0 := by
      unfold wrongN at *
      obtain ⟨i, i1, i2, i3⟩ := sm_ex w
      have hi : (decide (0 < (v_ch V i).val) && !rightS V i) = true := by
        revert i3
        cases (decide (0 < (v_ch V i).val) && !rightS V i)
        · intro x; exact absurd rfl x
        · intro _; rfl
      have hit : 0 < (v_ch V i).val := by
        rw [Bool.and_eq_true] at hi
        exact of_decide_eq_true hi.1
      have hiu := hne i (ht i hit)
      have k1 := sm_mem (f := fun i => b1 (decide (0 < (v_ch (v_setch V u c) i).val) && !rightS (v_setch V u c) i)) (u := i) (v_us V).val 0 i1 i2
      have e : (decide (0 < (v_ch (v_setch V u c) i).val) && !rightS (v_setch V u c) i) = true := by
        unfold rightS at *
        rw [hiu]
        exact hi
      rw [e, b1_T] at k1
      omega
    show (decide (wrongN (v_setch V u c) (v_us V).val 0 = 0) && _) = false
    rw [decide_eq_false this, Bool.false_and]
