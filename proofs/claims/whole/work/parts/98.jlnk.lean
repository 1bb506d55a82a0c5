/-! LINES: a link -/
theorem x_48f {I : Nat → Nat → Int32} {a b : Nat} (ha : a < 3) (hb : b < 3) (h : I 121 7 ≠ zI 0) : ∃ I', P_X3_readLink_48 I (zI (a : Nat)) (zI (b : Nat)) = some I' ∧ FI I I' ∧ ∀ j, 3 ≤ j → j ≤ 8 → I' 121 j = I 121 j := by
  obtain ⟨i1, r1⟩ := qi (q := a * 3 + b) (N := 9) (by omega) (by omega)
  obtain ⟨i2, r2⟩ := qi (q := b * 3 + a) (N := 9) (by omega) (by omega)
  have e1 : zI (a : Int) * zI 3 + zI (b : Int) = zI ((a * 3 + b : Nat) : Int) := by rw [zI_mul, zI_add]; rfl
  have e2 : zI (b : Int) * zI 3 + zI (a : Int) = zI ((b * 3 + a : Nat) : Int) := by rw [zI_mul, zI_add]; rfl
  refine ⟨qc_u2 (qc_u2 I 124 (a * 3 + b) (zI 0)) 124 (b * 3 + a) (zI 0), ?_, FI_u (FI_u (FI_r I) (by omega) _) (by omega) _, fun j _ _ => by rw [qG, if_neg (by omega), qG, if_neg (by omega)]⟩
  unfold P_X3_readLink_48
  simp only [zL]
  rw [tn_f h, Option.bind_some, e1, e2]
  simp only [if_pos i1, if_pos i2, r1, r2, qc_lE]
theorem x_24f {I : Nat → Nat → Int32} {a b : Nat} (ha : a < 3) (hb : b < 3) (h : I 121 7 ≠ zI 0) : ∃ I', P_X3_readLink_24 I (zI (a : Nat)) (zI (b : Nat)) = some I' ∧ FI I I' ∧ ∀ j, 3 ≤ j → j ≤ 8 → I' 121 j = I 121 j := by
  obtain ⟨i1, r1⟩ := qi (q := a * 3 + b) (N := 9) (by omega) (by omega)
  have e1 : zI (a : Int) * zI 3 + zI (b : Int) = zI ((a * 3 + b : Nat) : Int) := by rw [zI_mul, zI_add]; rfl
  obtain ⟨I', g1, g2, g3⟩ := x_48f ha hb h
  refine ⟨I', ?_, g2, g3⟩
  unfold P_X3_readLink_24
  simp only [zL]
  rw [e1]
  simp only [if_pos i1, r1]
  rw [x_fail1 h, Option.bind_some, g1]
  split <;> rfl
theorem m_105f {M : Nat → Nat → Int32} (h : M 0 21 ≠ zI 0) (a b : Int32) : P_X7_readLink_105 M a b = some M := by
  unfold P_X7_readLink_105 P_X7_goOn
  simp only [zL]
  rw [if_neg h, Option.bind_some, nu_f h, Option.bind_some, if_neg h]
theorem m_59f {M : Nat → Nat → Int32} (h : M 0 21 ≠ zI 0) (a : Int32) : P_X7_readLink_59 M a = some M := by
  unfold P_X7_readLink_59
  simp only [zL]
  rw [if_neg h, Option.bind_some, if_neg h, m_105f h]
theorem m_31f {M : Nat → Nat → Int32} (h : M 0 21 ≠ zI 0) (a : Int32) : P_X7_readLink_31 M a = some M := by
  unfold P_X7_readLink_31
  simp only [zL]
  rw [if_neg h, m_59f h]
theorem SR_link {us bd bl k1 k2 l : Nat} {I : Nat → Nat → Int32} {J : Nat → Nat → Int64} {M : Nat → Nat → Int32} (h1k : k1 < 9 ∧ k1 % 4 ≠ 0) (h2k : k2 < 9 ∧ k2 % 4 ≠ 0) (hl : l ≤ 99) (h : SR us bd bl I J M) : SR us bd bl (qc_u2 (qc_u2 I 124 k1 (zI (l : Nat))) 124 k2 (zI (l : Nat))) J (qc_u2 (qc_u2 M 11 (9 + k1) (zI (l : Nat))) 11 (9 + k2) (zI (l : Nat))) := by
  obtain ⟨h1, h2, h3, h4, h5, h6, h7⟩ := h
  have nI : ∀ t j, t ≠ 124 → qc_u2 (qc_u2 I 124 k1 (zI (l : Nat))) 124 k2 (zI (l : Nat)) t j = I t j := fun t j a => by rw [qG, if_neg (by omega), qG, if_neg (by omega)]
  have nM : ∀ t j, t ≠ 11 → qc_u2 (qc_u2 M 11 (9 + k1) (zI (l : Nat))) 11 (9 + k2) (zI (l : Nat)) t j = M t j := fun t j a => by rw [qG, if_neg (by omega), qG, if_neg (by omega)]
  refine ⟨S1_c (fun j _ _ => nI 122 j (by omega)) (fun j => nI 123 j (by omega)) (fun j _ _ _ => nM 2 j (by omega)) h1, T1_c (nI 121 11 (by omega)) (fun j => nM 3 j (by omega)) h2, S2_c (nI 122 1 (by omega)) (nM 2 10 (by omega)) h3, S3_c (fun t j _ _ => nI t j (by omega)) (nI 122 0 (by omega)) (nI 121 12 (by omega)) (nI 121 13 (by omega)) (fun t j _ _ => nM t j (by omega)) (nM 2 17 (by omega)) h4, S4_c (nI 121 10 (by omega)) (nM 2 18 (by omega)) rfl (fun j => nM 12 j (by omega)) h5, ?_, (nM 0 14 (by omega)).trans h7⟩
  obtain ⟨lk, hk⟩ := h6
  refine ⟨fun k => if k = k1 ∨ k = k2 then ⟨l, by omega⟩ else lk k, ?_⟩
  intro k hk9
  obtain ⟨a1, a2, a3⟩ := hk k hk9
  by_cases c : k = k1 ∨ k = k2
  · have e : (if k = k1 ∨ k = k2 then (⟨l, by omega⟩ : Fin 101) else lk k) = ⟨l, by omega⟩ := if_pos c
    show _ = zI (lkX k (if k = k1 ∨ k = k2 then (⟨l, by omega⟩ : Fin 101) else lk k)) ∧ _ = zI (lkM (if k = k1 ∨ k = k2 then (⟨l, by omega⟩ : Fin 101) else lk k)) ∧ (k % 4 = 0 → (if k = k1 ∨ k = k2 then (⟨l, by omega⟩ : Fin 101) else lk k).val = 100)
    rw [e]
    have x1 : lkX k ⟨l, by omega⟩ = (l : Int) := by
      unfold lkX
      rw [if_neg (by omega), if_neg (by show ¬ l = 100; omega)]
    have x2 : lkM ⟨l, by omega⟩ = (l : Int) := by
      unfold lkM
      rw [if_neg (by show ¬ l = 100; omega)]
    rw [x1, x2]
    refine ⟨?_, ?_, fun z => by omega⟩
    · rw [qG]
      by_cases c2 : k = k2
      · rw [if_pos ⟨rfl, c2⟩]
      · rw [if_neg (by omega), qG, if_pos (by omega)]
    · rw [qG]
      by_cases c2 : k = k2
      · rw [if_pos (by omega)]
      · rw [if_neg (by omega), qG, if_pos (by omega)]
  · have e : (if k = k1 ∨ k = k2 then (⟨l, by omega⟩ : Fin 101) else lk k) = lk k := if_neg c
    show _ = zI (lkX k (if k = k1 ∨ k = k2 then (⟨l, by omega⟩ : Fin 101) else lk k)) ∧ _ = zI (lkM (if k = k1 ∨ k = k2 then (⟨l, by omega⟩ : Fin 101) else lk k)) ∧ (k % 4 = 0 → (if k = k1 ∨ k = k2 then (⟨l, by omega⟩ : Fin 101) else lk k).val = 100)
    rw [e, qG, if_neg (by omega), qG, if_neg (by omega), qG, if_neg (by omega), qG, if_neg (by omega)]
    exact ⟨a1, a2, a3⟩
theorem ln_link {T : Nat → Int32} {B : Nat → Nat} {n A us bd bl : Nat} {I : Nat → Nat → Int32} {J : Nat → Nat → Int64} {M : Nat → Nat → Int32} (hT : TX T B n) (c : CX T n I M) (h : LSt B n A I M) (hS : SR us bd bl I J M) : ∃ I' M', P_X3_readLink I = some I' ∧ P_X7_readLink M = some M' ∧ LN B n (tE B n A) I I' J M M' := by
  obtain ⟨M1, m1, m2, m3⟩ := b_goOn hT c h
  have c1 : CX T n I M1 := CX_f c (fX_r I) (gX_N m2)
  have S1' : SR us bd bl I J M1 := SR_f (fX_r I) (gX_N m2) hS
  obtain ⟨one, I1, M2, o1, o2, o3, o4, o5, o6, o7⟩ := num_AL (a := 0) (b := 2) hT c1 m3 (by omega) (by omega)
  have o1' : P_X3_takeNumber I (zI 0) (zI 2) = some (zI (one : Nat), I1) := o1
  have o2' : P_X7_numeral M1 (zI 0) (zI 2) = some (zI (one : Nat), M2) := o2
  have F1 : FI I I1 := FI_f o5
  have F2 : FM M M2 := FM_t (FM_g (gX_N m2)) (FM_g o6)
  have tailX : ∀ (I2 : Nat → Nat → Int32) (x : Nat), x < 3 → I2 121 7 ≠ zI 0 → P_X3_takeNumber I1 (zI 0) (zI 2) = some (zI (x : Nat), I2) → ∃ I', P_X3_readLink I = some I' ∧ FI I2 I' ∧ ∀ j, 3 ≤ j → j ≤ 8 → I' 121 j = I2 121 j := by
    intro I2 x hx h7 e
    obtain ⟨I', g1, g2, g3⟩ := x_24f (a := one) (b := x) (by omega) hx h7
    refine ⟨I', ?_, g2, g3⟩
    unfold P_X3_readLink
    simp only [zL]
    rw [o1', Option.bind_some]
    dsimp only
    rw [e, Option.bind_some]
    dsimp only
    rw [x_fail1 h7, Option.bind_some, g1]
    split <;> rfl
  have mm : P_X7_readLink M = if M2 0 21 = zI 0 then (if M2 0 19 = zI 2 then P_X7_readLink_31 M2 (zI (one : Nat)) else (P_X7_wrong M2 (zI 1)).bind fun q22 => P_X7_readLink_31 q22 (zI (one : Nat))) else P_X7_readLink_31 M2 (zI (one : Nat)) := by
    unfold P_X7_readLink
    simp only [zL]
    rw [m1, Option.bind_some, o2', Option.bind_some]
  rcases o7 with ⟨hlt, oA⟩ | oF
  · -- the second
    have c2 : CX T n I1 M2 := CX_f c1 o5 o6
    have S2' : SR us bd bl I1 J M2 := SR_f o5 o6 S1'
    obtain ⟨q, q1, q2, q3⟩ := b_next hT c2 oA
    have cq : CX T n q M2 := CX_f c2 (fX_N q2) (gX_r M2)
    have Sq : SR us bd bl q J M2 := SR_f (fX_N q2) (gX_r M2) S2'
    have htb := tok_b B oA.1
    have htA := tok_b B m3.1
    have hx : P_X3_takeNumber I1 (zI 0) (zI 2) = if q 121 4 = zI 2 then (if q 121 6 < zI 0 then (P_X3_fail q (zI 2)).bind fun q5 => some (zI 0, q5) else if q 121 6 ≤ zI 2 then some (q 121 6, q) else (P_X3_fail q (zI 2)).bind fun q7 => some (zI 0, q7)) else (P_X3_fail q (zI 1)).bind fun q8 => some (zI 0, q8) := by
      unfold P_X3_takeNumber
      simp only [zL]
      rw [if_pos oA.2.1.1, q1, Option.bind_some]
    rw [if_pos oA.2.2.1] at mm
    have kind : ∀ x y : Nat, tK B n (tE B n (tE B n A)) = x → tS B n (tE B n (tE B n A)) = y → q 121 4 = zI (x : Nat) ∧ M2 0 19 = zI (y : Nat) := by
      intro x y e1 e2
      exact ⟨by rw [q3.2.2.2.1.2.2.1, e1], by rw [q3.2.2.2.2.2.2.1, e2]⟩
    -- a fault of a kind, told at this token
    have bad : ∀ k : Int32, k ≠ zI 0 → (∀ I2, P_X3_fail q k = some I2 → P_X3_takeNumber I1 (zI 0) (zI 2) = some (zI 0, I2)) → (∀ M3, P_X7_wrong M2 k = some M3 → M3 0 21 ≠ zI 0 → P_X7_readLink M = some M3) → ∃ I' M', P_X3_readLink I = some I' ∧ P_X7_readLink M = some M' ∧ LN B n (tE B n A) I I' J M M' := by
      intro k hk f1 f2
      obtain ⟨I2, M3, e1, e2, e3, e4, e5⟩ := both_fail q3 hk
      obtain ⟨I', g1, g2, g3⟩ := tailX I2 0 (by omega) (fl_x e3) (f1 I2 e1)
      exact ⟨I', M3, g1, f2 M3 e2 (fl_m e3), FI_t (FI_t (FI_t F1 (FI_f (fX_N q2))) (FI_f e4)) g2, FM_t F2 (FM_g e5), us, bd, bl, Or.inl (FLt_c g3 (fun _ _ _ => rfl) e3)⟩
    have other : q 121 4 ≠ zI 2 → M2 0 19 ≠ zI 2 → ∃ I' M', P_X3_readLink I = some I' ∧ P_X7_readLink M = some M' ∧ LN B n (tE B n A) I I' J M M' := by
      intro n1 n2
      refine bad (zI 1) (by decide) (fun I2 e => by rw [hx, if_neg n1, e]; rfl) (fun M3 e h3 => ?_)
      rw [mm, if_neg n2, e, Option.bind_some, m_31f h3]
    rcases tok_k B oA.1 with ⟨k1, k2⟩ | ⟨k1, k2⟩ | ⟨k1, k2⟩ | ⟨k1, k2, k3, k4, k5⟩ | ⟨k1, k2, _⟩ | ⟨k1, k2, _⟩
    · obtain ⟨z1, z2⟩ := kind _ _ k1 k2
      exact other (by rw [z1]; decide) (by rw [z2]; decide)
    · obtain ⟨z1, z2⟩ := kind _ _ k1 k2
      exact other (by rw [z1]; decide) (by rw [z2]; decide)
    · obtain ⟨z1, z2⟩ := kind _ _ k1 k2
      exact other (by rw [z1]; decide) (by rw [z2]; decide)
    · obtain ⟨z1, z2⟩ := kind _ _ k1 k2
      have z1' : q 121 4 = zI 2 := z1
      have z2' : M2 0 19 = zI 2 := z2
      have v1 := q3.2.2.2.1.2.2.2.2 k1
      have v2 := q3.2.2.2.2.2.2.2.2.2 k2
      generalize dg B 1000000 (tL B n (tE B n (tE B n A))) (tP B n (tE B n (tE B n A))) 0 = x at k3 k5 v1
      generalize dg B 100000 (tL B n (tE B n (tE B n A))) (tP B n (tE B n (tE B n A))) 0 = m at k4 k5 v2
      rw [if_pos z1', v1, if_neg (show ¬ zI (x : Nat) < zI 0 by rw [zI_lt] <;> omega)] at hx
      rw [if_pos z2'] at mm
      have e31 : P_X7_readLink_31 M2 (zI (one : Nat)) = if zI 2 < zI (m : Nat) then P_X7_readLink_54 M2 (zI (one : Nat)) else if zI (m : Nat) = zI (one : Nat) then P_X7_readLink_54 M2 (zI (one : Nat)) else P_X7_readLink_59 M2 (zI (one : Nat)) := by
        unfold P_X7_readLink_31
        simp only [zL]
        rw [if_pos oA.2.2.1, v2]
      have e54 : ∀ M3, P_X7_wrong M2 (zI 2) = some M3 → M3 0 21 ≠ zI 0 → P_X7_readLink_54 M2 (zI (one : Nat)) = some M3 := by
        intro M3 e h3
        unfold P_X7_readLink_54
        simp only [zL]
        rw [e, Option.bind_some, m_59f h3]
      rw [e31] at mm
      by_cases cx : x ≤ 2
      · have hmx : m = x := by omega
        subst hmx
        rw [if_pos (show zI (m : Nat) ≤ zI 2 by rw [zI_le] <;> omega)] at hx
        rw [if_neg (show ¬ zI 2 < zI (m : Nat) by rw [zI_lt] <;> omega)] at mm
        have ex : P_X3_readLink I = if zI (one : Nat) = zI (m : Nat) then (P_X3_fail q (zI 2)).bind fun q12 => P_X3_readLink_24 q12 (zI (one : Nat)) (zI (m : Nat)) else P_X3_readLink_24 q (zI (one : Nat)) (zI (m : Nat)) := by
          unfold P_X3_readLink
          simp only [zL]
          rw [o1', Option.bind_some]
          dsimp only
          rw [hx, Option.bind_some]
        by_cases ce : m = one
        · rw [if_pos (by rw [ce])] at ex mm
          obtain ⟨I2, M3, e1, e2, e3, e4, e5⟩ := both_fail q3 (k := zI 2) (by decide)
          obtain ⟨I', g1, g2, g3⟩ := x_24f (a := one) (b := m) (by omega) (by omega) (fl_x e3)
          refine ⟨I', M3, by rw [ex, e1, Option.bind_some, g1], by rw [mm, e54 M3 e2 (fl_m e3)], FI_t (FI_t (FI_t F1 (FI_f (fX_N q2))) (FI_f e4)) g2, FM_t F2 (FM_g e5), us, bd, bl, Or.inl (FLt_c g3 (fun _ _ _ => rfl) e3)⟩
        · rw [if_neg (by rw [zI_eq] <;> omega)] at ex mm
          obtain ⟨lk, hlk⟩ := Sq.2.2.2.2.2.1
          have hk9 : one * 3 + m < 9 := by omega
          have hk4 : (one * 3 + m) % 4 ≠ 0 := by omega
          have hk9' : m * 3 + one < 9 := by omega
          have hk4' : (m * 3 + one) % 4 ≠ 0 := by omega
          obtain ⟨a1, a2, _⟩ := hlk (one * 3 + m) hk9
          obtain ⟨i1, r1⟩ := qi (q := one * 3 + m) (N := 9) hk9 (by omega)
          obtain ⟨i2, r2⟩ := qi (q := m * 3 + one) (N := 9) hk9' (by omega)
          obtain ⟨j1, s1⟩ := qi (q := 9 + (one * 3 + m)) (N := 18) (by omega) (by omega)
          obtain ⟨j2, s2⟩ := qi (q := 9 + (m * 3 + one)) (N := 18) (by omega) (by omega)
          have e1 : zI (one : Int) * zI 3 + zI (m : Int) = zI ((one * 3 + m : Nat) : Int) := by rw [zI_mul, zI_add]; rfl
          have e2 : zI (m : Int) * zI 3 + zI (one : Int) = zI ((m * 3 + one : Nat) : Int) := by rw [zI_mul, zI_add]; rfl
          have e3 : zI 9 + zI 3 * zI (one : Int) + zI (m : Int) = zI ((9 + (one * 3 + m) : Nat) : Int) := by rw [zI_mul, zI_add, zI_add]; congr 1; omega
          have e4 : zI 9 + zI 3 * zI (m : Int) + zI (one : Int) = zI ((9 + (m * 3 + one) : Nat) : Int) := by rw [zI_mul, zI_add, zI_add]; congr 1; omega
          have ex2 : P_X3_readLink I = if zI (lkX (one * 3 + m) (lk (one * 3 + m))) = zI 1000 then P_X3_readLink_48 q (zI (one : Nat)) (zI (m : Nat)) else (P_X3_fail q (zI 3)).bind fun q8 => P_X3_readLink_48 q8 (zI (one : Nat)) (zI (m : Nat)) := by
            rw [ex]
            unfold P_X3_readLink_24
            simp only [zL]
            rw [e1]
            simp only [if_pos i1, r1]
            rw [a1]
          have mm2 : P_X7_readLink M = if zI (lkM (lk (one * 3 + m))) = -zI 2 then P_X7_readLink_105 M2 (zI (one : Nat)) (zI (m : Nat)) else (P_X7_wrong M2 (zI 3)).bind fun q13 => P_X7_readLink_105 q13 (zI (one : Nat)) (zI (m : Nat)) := by
            rw [mm]
            unfold P_X7_readLink_59
            simp only [zL]
            rw [if_pos oA.2.2.1, Option.bind_some, if_pos oA.2.2.1, v2, e3]
            simp only [if_pos j1, s1]
            rw [a2]
          have lkb := (lk (one * 3 + m)).isLt
          by_cases c100 : (lk (one * 3 + m)).val = 100
          · -- free
            have x1 : lkX (one * 3 + m) (lk (one * 3 + m)) = 1000 := by
              unfold lkX
              rw [if_neg hk4, if_pos c100]
            have x2 : lkM (lk (one * 3 + m)) = -2 := by
              unfold lkM
              rw [if_pos c100]
            rw [x1, if_pos rfl] at ex2
            rw [x2, if_pos (show zI (-2) = -zI 2 by decide)] at mm2
            obtain ⟨M3, g1, g2, g3⟩ := b_goOn hT cq q3
            obtain ⟨l, I4, M4, l1, l2, l3, l4, l5, l6, l7⟩ := num_AL (a := 0) (b := 99) hT (CX_f cq (fX_r q) (gX_N g2)) g3 (by omega) (by omega)
            have l1' : P_X3_takeNumber q (zI 0) (zI 99) = some (zI (l : Nat), I4) := l1
            have l2' : P_X7_numeral M3 (zI 0) (zI 99) = some (zI (l : Nat), M4) := l2
            have G1 : FI I (qc_u2 (qc_u2 I4 124 (one * 3 + m) (zI (l : Nat))) 124 (m * 3 + one) (zI (l : Nat))) := FI_u (FI_u (FI_t (FI_t F1 (FI_f (fX_N q2))) (FI_f l5)) (by omega) _) (by omega) _
            have G2 : FM M M4 := FM_t (FM_t F2 (FM_g (gX_N g2))) (FM_g l6)
            have xr : P_X3_readLink I = some (qc_u2 (qc_u2 I4 124 (one * 3 + m) (zI (l : Nat))) 124 (m * 3 + one) (zI (l : Nat))) := by
              rw [ex2]
              unfold P_X3_readLink_48
              simp only [zL]
              rw [l1', Option.bind_some, e1, e2]
              simp only [if_pos i1, if_pos i2, r1, r2, qc_lE]
            have mr : ∀ N, (if M4 0 21 = zI 0 then some (qc_u2 (qc_u2 M4 11 (9 + (one * 3 + m)) (zI (l : Nat))) 11 (9 + (m * 3 + one)) (zI (l : Nat))) else some M4) = some N → P_X7_readLink M = some N := by
              intro N hN
              rw [mm2]
              unfold P_X7_readLink_105
              simp only [zL]
              rw [g1, Option.bind_some, l2', Option.bind_some]
              dsimp only
              rw [e3, e4]
              simp only [if_pos j1, if_pos j2, s1, s2, qc_lE]
              exact hN
            rcases l7 with ⟨y1, y2⟩ | l7
            · refine ⟨_, _, xr, mr _ (if_pos y2.2.2.1), G1, FM_u (FM_u G2 (by omega) _) (by omega) _, us, bd, bl, Or.inr ⟨_, ?_, ALt_e (fun j _ _ => by rw [qG, if_neg (by omega), qG, if_neg (by omega)]) (fun j _ _ => by rw [qG, if_neg (by omega), qG, if_neg (by omega)]) y2, SR_link ⟨hk9, hk4⟩ ⟨hk9', hk4'⟩ l4 (SR_f l5 l6 (SR_f (fX_r q) (gX_N g2) Sq))⟩⟩
              omega
            · exact ⟨_, M4, xr, mr M4 (if_neg (fl_m l7)), G1, G2, us, bd, bl, Or.inl (FLt_c (fun j _ _ => by rw [qG, if_neg (by omega), qG, if_neg (by omega)]) (fun _ _ _ => rfl) l7)⟩
          · -- told already
            have x1 : lkX (one * 3 + m) (lk (one * 3 + m)) = ((lk (one * 3 + m)).val : Int) := by
              unfold lkX
              rw [if_neg hk4, if_neg c100]
            have x2 : lkM (lk (one * 3 + m)) = ((lk (one * 3 + m)).val : Int) := by
              unfold lkM
              rw [if_neg c100]
            rw [x1, if_neg (by rw [zI_eq] <;> omega)] at ex2
            rw [x2, if_neg (by rw [zI_neg, zI_eq] <;> omega)] at mm2
            obtain ⟨I2, M3, e1', e2', e3', e4', e5'⟩ := both_fail q3 (k := zI 3) (by decide)
            obtain ⟨I', g1, g2, g3⟩ := x_48f (a := one) (b := m) (by omega) (by omega) (fl_x e3')
            refine ⟨I', M3, by rw [ex2, e1', Option.bind_some, g1], by rw [mm2, e2', Option.bind_some, m_105f (fl_m e3')], FI_t (FI_t (FI_t F1 (FI_f (fX_N q2))) (FI_f e4')) g2, FM_t F2 (FM_g e5'), us, bd, bl, Or.inl (FLt_c g3 (fun _ _ _ => rfl) e3')⟩
      · rw [if_neg (show ¬ zI (x : Nat) ≤ zI 2 by rw [zI_le] <;> omega)] at hx
        rw [if_pos (show zI 2 < zI (m : Nat) by rw [zI_lt] <;> omega)] at mm
        refine bad (zI 2) (by decide) (fun I2 e => by rw [hx, e]; rfl) (fun M3 e h3 => ?_)
        rw [mm, e54 M3 e h3]
    · obtain ⟨z1, z2⟩ := kind _ _ k1 k2
      exact other (by rw [z1]; decide) (by rw [z2]; decide)
    · obtain ⟨z1, z2⟩ := kind _ _ k1 k2
      exact other (by rw [z1]; decide) (by rw [z2]; decide)
  · obtain ⟨I', g1, g2, g3⟩ := tailX I1 0 (by omega) (fl_x oF) (tn_f (fl_x oF) _ _)
    refine ⟨I', M2, g1, ?_, FI_t F1 g2, F2, us, bd, bl, Or.inl (FLt_c g3 (fun _ _ _ => rfl) oF)⟩
    rw [mm, if_neg (fl_m oF), m_31f (fl_m oF)]
