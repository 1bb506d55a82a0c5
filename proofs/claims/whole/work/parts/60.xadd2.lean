theorem sm_snoc (g : Nat → Nat) : ∀ d k, sm g (d + 1) k = sm g d k + g (k + d) := by
  intro d
  induction d with
  | zero => intro k; unfold sm sm; rw [Nat.add_zero, Nat.zero_add, Nat.add_zero]
  | succ d ih =>
    intro k
    have := ih (k + 1)
    show g k + sm g (d + 1) (k + 1) = g k + sm g d (k + 1) + g (k + (d + 1))
    rw [this, show k + 1 + d = k + (d + 1) by omega]
    omega
theorem sSet_snoc (f : Nat → Bool) (d : Nat) (a : Int32) : sSet f (d + 1) 0 a = if f d = true then sSet f d 0 a ||| (zI 1 <<< (zI d &&& zI 31)) else sSet f d 0 a := by
  unfold sSet
  rw [it_snoc, Nat.zero_add]
theorem far_0 {V : sV} {q : Qd} (h : nearS V (chanS V q) = false) {u : Nat} (hu : u < (v_us V).val) : hitS V q u = false := by
  unfold nearS at h
  have h := of_decide_eq_false h
  have h := (sm_0 (g := fun u => b1 (decide (0 < (v_ch V u).val ∧ (((v_ch V u).val : Int) - chanS V q).natAbs ≤ (v_gd V).val))) (v_us V).val 0).1 (by omega) u (by omega) (by omega)
  have h : ¬ (0 < (v_ch V u).val ∧ (((v_ch V u).val : Int) - chanS V q).natAbs ≤ (v_gd V).val) := by
    intro e
    rw [decide_eq_true e] at h
    exact absurd h (by decide)
  unfold hitS mayS
  by_cases e : (((v_ch V u).val : Int) - chanS V q).natAbs ≤ (v_gd V).val
  · rw [decide_eq_false (by omega), Bool.false_and]
  · rw [decide_eq_false e, Bool.and_false]
theorem x_266 {J : Nat → Nat → Int64} {p : Nat} {V : sV} {q : Qd} {n S : Nat} (hp : p ≤ 12) (hn : n < 700) (hq : gdQ (v_us V).val q) (hSb : S ≤ 10000) : ∀ d u f I, u + d = (v_us V).val → d < f → SX I J p V → I 25 n = zI (q.2.1 : Nat) → I 26 n = zI (q.2.2.1 : Nat) → I 27 n = zI q.2.2.2 → I 29 n = zI (levS V q) → I 31 n = zI (comS V q : Nat) → I 22 1 = zI (n : Nat) → I 22 2 = zI ((S + sm (fun u => b1 (hitS V q u)) u 0 : Nat) : Int) → I 30 n = sSet (hitS V q) u 0 (zI 0) → wp (P_X2_add_266 J p f I (zI (chanS V q)) (bI (nearS V (chanS V q))) (zI u)) (fun I' => (∀ t, t ≠ 30 → t ≠ 22 → I' t = I t) ∧ (∀ j, j ≠ 1 → j ≠ 2 → I' 22 j = I 22 j) ∧ (∀ j, j ≠ n → I' 30 j = I 30 j) ∧ I' 22 1 = zI ((n + 1 : Nat) : Int) ∧ I' 22 2 = zI ((S + hitsN V q : Nat) : Int) ∧ I' 30 n = sSet (hitS V q) (v_us V).val 0 (zI 0)) := by
  have hcb := chan_b (V := V) hq
  intro d
  induction d with
  | zero =>
    intro u f I hc hf hS h25 h26 h27 h29 h31 h221 h222 h30
    obtain ⟨g, rfl⟩ : ∃ g, f = g + 1 := ⟨f - 1, by omega⟩
    have hus := hS.1
    have : u = (v_us V).val := by omega
    subst this
    simp (disch := omega) only [P_X2_add_266, zI_add, zI_sub, zI_mul, zI_neg, zL, zI_le, zI_lt, zI_eq, zI_cl, zA0, zI_if, Int.toNat_natCast, zT_add, zT_mul, Int.reduceToNat, Nat.add_zero, Nat.zero_add, Int.add_zero, Int.zero_add, zc_a, zc_l, Option.bind_some, qc_let, qc_in, qc_bo, iteT, iteF, and_self, if_true, if_false, qG, hus, h221]
    refine wp_some ⟨?_, ?_, ?_, ?_, ?_, ?_⟩
    · intro t h1 h2; unfold qc_u2 qc_u; rw [if_neg h2]
    · intro j h1 h2; rw [qG, if_neg (by omega)]
    · intro j h1; rw [qG, if_neg (by omega)]
    · rw [qG, if_pos ⟨rfl, rfl⟩]
    · rw [qG, if_neg (by omega)]; exact h222
    · rw [qG, if_neg (by omega)]; exact h30
  | succ d ih =>
    intro u f I hc hf hS h25 h26 h27 h29 h31 h221 h222 h30
    obtain ⟨g, rfl⟩ : ∃ g, f = g + 1 := ⟨f - 1, by omega⟩
    have hS0 := hS
    obtain ⟨hus, hbd, hgd, hsp, hod, hst, hlo, hhi, hch, hpw, hsl, hls, hlk, hsh⟩ := hS
    cases en : nearS V (chanS V q)
    · simp (disch := omega) only [P_X2_add_266, zI_add, zI_sub, zI_mul, zI_neg, zL, zI_le, zI_lt, zI_eq, zI_cl, zA0, zI_if, Int.toNat_natCast, zT_add, zT_mul, Int.reduceToNat, Nat.add_zero, Nat.zero_add, Int.add_zero, Int.zero_add, zc_a, zc_l, Option.bind_some, qc_let, qc_in, qc_bo, iteT, iteF, and_self, if_true, if_false, qG, hus, h221, bI_F]
      have z : ∀ i, i < (v_us V).val → hitS V q i = false := fun i hi => far_0 en hi
      have z1 : ∀ m, m ≤ (v_us V).val → sm (fun u => b1 (hitS V q u)) m 0 = 0 := by
        intro m hm
        refine (sm_0 m 0).2 ?_
        intro i _ hi
        rw [z i (by omega)]
        rfl
      refine wp_some ⟨?_, ?_, ?_, ?_, ?_, ?_⟩
      · intro t h1 h2; unfold qc_u2 qc_u; rw [if_neg h2]
      · intro j h1 h2; rw [qG, if_neg (by omega)]
      · intro j h1; rw [qG, if_neg (by omega)]
      · rw [qG, if_pos ⟨rfl, rfl⟩]
      · rw [qG, if_neg (by omega), h222, z1 u (by omega)]
        unfold hitsN
        rw [z1 _ (by omega)]
        rfl
      · rw [qG, if_neg (by omega), h30, (set_0 _ (by omega)).2 (z1 u (by omega)), (set_0 _ (by omega)).2 (z1 _ (by omega))]
    · rw [en] at ih
      have hmay := x_may hS0 hn (show u < (v_us V).val by omega) hq h25 h26 h27 h29 h31
      simp (disch := omega) only [P_X2_add_266, P_X2_add_343, zI_add, zI_sub, zI_mul, zI_neg, zL, zI_le, zI_lt, zI_eq, zI_cl, zA0, zI_if, Int.toNat_natCast, zT_add, zT_mul, Int.reduceToNat, Nat.add_zero, Nat.zero_add, Int.add_zero, Int.zero_add, zc_a, zc_l, Option.bind_some, qc_let, qc_in, qc_bo, iteT, iteF, and_self, if_true, if_false, qG, hus, h221, bI_T, hgd, hch, hmay, bI_0]
      have skip : hitS V q u = false → wp (P_X2_add_266 J p g I (zI (chanS V q)) (zI 1) (zI ((u : Int) + 1))) (fun I' => (∀ t, t ≠ 30 → t ≠ 22 → I' t = I t) ∧ (∀ j, j ≠ 1 → j ≠ 2 → I' 22 j = I 22 j) ∧ (∀ j, j ≠ n → I' 30 j = I 30 j) ∧ I' 22 1 = zI ((n + 1 : Nat) : Int) ∧ I' 22 2 = zI ((S + hitsN V q : Nat) : Int) ∧ I' 30 n = sSet (hitS V q) (v_us V).val 0 (zI 0)) := by
        intro eh
        have := ih (u + 1) g I (by omega) (by omega) hS0 h25 h26 h27 h29 h31 h221 (by
          rw [sm_snoc, Nat.zero_add, eh, b1_F, Nat.add_zero]
          exact h222) (by
          rw [sSet_snoc, eh, if_neg (by decide)]
          exact h30)
        simpa only [zc_a, zc_l, bI_T] using this
      by_cases e1 : (((v_ch V u).val : Int) - chanS V q).natAbs ≤ (v_gd V).val
      · rw [if_neg (by split <;> omega)]
        cases em : mayS V q u
        · rw [if_pos rfl]
          apply skip
          unfold hitS
          rw [em, Bool.false_and]
        · rw [if_neg (by decide)]
          have eh : hitS V q u = true := by
            unfold hitS
            rw [em, decide_eq_true e1]
            rfl
          have hsmall : S + sm (fun u => b1 (hitS V q u)) u 0 < 20000 := by
            have : sm (fun u => b1 (hitS V q u)) u 0 ≤ 1 * u := by
              refine sm_le u 0 ?_
              intro i _ _
              unfold b1
              split <;> omega
            omega
          simp (disch := omega) only [zI_add, zI_sub, zI_mul, zI_neg, zL, zI_le, zI_lt, zI_eq, zI_cl, zA0, zI_if, Int.toNat_natCast, zT_add, zT_mul, Int.reduceToNat, Nat.add_zero, Nat.zero_add, Int.add_zero, Int.zero_add, zc_a, zc_l, Option.bind_some, qc_let, qc_in, qc_bo, iteT, iteF, and_self, if_true, if_false, qG, h222]
          have hS1 : SX (qc_u2 (qc_u2 I 30 n (I 30 n ||| zI 1 <<< (zI u &&& zI 31))) 22 2 (zI (((S + sm (fun u => b1 (hitS V q u)) u 0 : Nat) : Int) + 1))) J p V := by
            refine SX_e (fun t _ _ => ?_) rfl hS0
            unfold qc_u2 qc_u
            rw [if_neg (by omega), if_neg (by omega)]
          have := ih (u + 1) g (qc_u2 (qc_u2 I 30 n (I 30 n ||| zI 1 <<< (zI u &&& zI 31))) 22 2 (zI (((S + sm (fun u => b1 (hitS V q u)) u 0 : Nat) : Int) + 1))) (by omega) (by omega) hS1 (by rw [qG, if_neg (by omega), qG, if_neg (by omega)]; exact h25) (by rw [qG, if_neg (by omega), qG, if_neg (by omega)]; exact h26) (by rw [qG, if_neg (by omega), qG, if_neg (by omega)]; exact h27) (by rw [qG, if_neg (by omega), qG, if_neg (by omega)]; exact h29) (by rw [qG, if_neg (by omega), qG, if_neg (by omega)]; exact h31) (by rw [qG, if_neg (by omega), qG, if_neg (by omega)]; exact h221) (by
            rw [qG, if_pos ⟨rfl, rfl⟩, sm_snoc, Nat.zero_add, eh, b1_T]
            congr 1) (by
            rw [qG, if_neg (by omega), qG, if_pos ⟨rfl, rfl⟩, sSet_snoc, eh, if_pos rfl, h30])
          rw [show (S : Int) + (sm (fun u => b1 (hitS V q u)) u 0 : Nat) = ((S + sm (fun u => b1 (hitS V q u)) u 0 : Nat) : Int) by omega]
          simp only [zc_a, zc_l, bI_T] at this ⊢
          refine wp_mono this ?_
          intro I' ⟨k1, k2, k3, k4, k5, k6⟩
          refine ⟨?_, ?_, ?_, k4, k5, k6⟩
          · intro t h1 h2
            rw [k1 t h1 h2]
            unfold qc_u2 qc_u
            rw [if_neg h2, if_neg h1]
          · intro j h1 h2
            rw [k2 j h1 h2, qG, if_neg (by omega), qG, if_neg (by omega)]
          · intro j h1
            rw [k3 j h1, qG, if_neg (by omega), qG, if_neg (by omega)]
      · rw [if_pos (by split <;> omega)]
        apply skip
        unfold hitS
        rw [decide_eq_false e1, Bool.and_false]
