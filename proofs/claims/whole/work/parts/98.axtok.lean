/-! the class's tokens -/
def tL (B : Nat → Nat) (n A : Nat) : Nat := tE B n A - tP B n A
def tK (B : Nat → Nat) (n A : Nat) : Nat := if n ≤ tP B n A then 0 else if isL (B (tP B n A)) = true then (if tL B n A ≤ 6 then 1 else 4) else if isD (B (tP B n A)) = true then 2 else if B (tP B n A) = 59 then 3 else 4
def fN (I I' : Nat → Nat → Int32) : Prop := ∀ t j, (t ≠ 121 ∨ j < 3 ∨ 6 < j) → I' t j = I t j
theorem fN_r (I : Nat → Nat → Int32) : fN I I := fun _ _ _ => rfl
theorem fN_t {I I' I'' : Nat → Nat → Int32} (h : fN I I') (h' : fN I' I'') : fN I I'' := fun t j c => (h' t j c).trans (h t j c)
theorem fN_u {I I' : Nat → Nat → Int32} (h : fN I I') {j : Nat} (hj : 3 ≤ j ∧ j ≤ 6) (x : Int32) : fN I (qc_u2 I' 121 j x) := fun t k c => by rw [qG, if_neg (by omega)]; exact h t k c
theorem fN_1 {I I' : Nat → Nat → Int32} (h : fN I I') : I' 1 = I 1 ∧ I' 121 1 = I 121 1 := ⟨funext fun j => h 1 j (by omega), h 121 1 (by omega)⟩
theorem x_rl {T : Nat → Int32} {B : Nat → Nat} {n : Nat} (hT : TX T B n) {p E : Nat} : ∀ (d i f : Nat) (I : Nat → Nat → Int32), p + i + d = n → d < f → I 1 = T → I 121 1 = zI (n : Nat) → I 121 3 = zI ((p + i : Nat) : Int) → scan (fun p => isL (B p)) d (p + i) = E → (i ≤ 6 → I 121 6 = zI ((hn B p (E - p) i * 2 ^ (30 - 5 * i) : Nat) : Int)) → wp (P_X3_readLetters_2 f I (zI i)) (fun I' => fN I I' ∧ I' 121 5 = I 121 5 ∧ I' 121 3 = zI (E : Nat) ∧ I' 121 4 = zI ((if E - p ≤ 6 then 1 else 4 : Nat) : Int) ∧ (E - p ≤ 6 → I' 121 6 = zI (hn B p (E - p) 6 : Nat))) := by
  obtain ⟨hn7, hB⟩ := hT
  intro d
  have fin : ∀ (i : Nat) (I : Nat → Nat → Int32), p + i ≤ n → I 121 3 = zI ((p + i : Nat) : Int) → p + i = E → (i ≤ 6 → I 121 6 = zI ((hn B p (E - p) i * 2 ^ (30 - 5 * i) : Nat) : Int)) → wp (P_X3_readLetters_91 I (zI i)) (fun I' => fN I I' ∧ I' 121 5 = I 121 5 ∧ I' 121 3 = zI (E : Nat) ∧ I' 121 4 = zI ((if E - p ≤ 6 then 1 else 4 : Nat) : Int) ∧ (E - p ≤ 6 → I' 121 6 = zI (hn B p (E - p) 6 : Nat))) := by
    intro i I hi h3 he h6
    have hl : E - p = i := by omega
    unfold P_X3_readLetters_91
    simp only [zL]
    have e : (if zI 6 < zI (i : Int) then some (zI 4) else some (zI 1)) = some (zI ((if E - p ≤ 6 then 1 else 4 : Nat) : Int)) := by
      rw [hl]
      by_cases c : i ≤ 6
      · rw [if_neg (by rw [zI_lt] <;> omega), if_pos c]; rfl
      · rw [if_pos (by rw [zI_lt] <;> omega), if_neg c]; rfl
    rw [e, Option.bind_some]
    refine wp_let fun I1 g1 => wp_some ?_
    rw [g1]
    refine ⟨fN_u (fN_r I) (by omega) _, by rw [qG, if_neg (by omega)], by rw [qG, if_neg (by omega), h3, he], by rw [qG, if_pos ⟨rfl, rfl⟩], ?_⟩
    intro c
    rw [qG, if_neg (by omega), h6 (by omega)]
    have hp := hn_pad (B := B) (p := p) (len := E - p) (6 - i)
    rw [show E - p + (6 - i) = 6 by omega] at hp
    rw [hp, hl, show (32 : Nat) = 2 ^ 5 from rfl, ← Nat.pow_mul, show 5 * (6 - i) = 30 - 5 * i by omega]
  induction d with
  | zero =>
    intro i f I hi hf h1 hl h3 hE h6
    obtain ⟨g, rfl⟩ : ∃ g, f = g + 1 := ⟨f - 1, by omega⟩
    rw [P_X3_readLetters_2, hl, h3, if_pos (by rw [zI_le] <;> omega)]
    exact fin i I (by omega) h3 hE h6
  | succ d ih =>
    intro i f I hi hf h1 hl h3 hE h6
    obtain ⟨g, rfl⟩ : ∃ g, f = g + 1 := ⟨f - 1, by omega⟩
    obtain ⟨iq, rq⟩ := qi (q := p + i) (N := 700) (by omega) (by omega)
    obtain ⟨hb, hb2⟩ := hB (p + i) (by omega)
    have hE' : (if isL (B (p + i)) = true then scan (fun p => isL (B p)) d (p + i + 1) else p + i) = E := hE
    rw [P_X3_readLetters_2, hl, h3, if_neg (by rw [zI_le] <;> omega)]
    simp only [if_pos iq, rq]
    rw [h1, hb]
    simp only [zL]
    by_cases c1 : B (p + i) < 97
    · rw [if_neg (by unfold isL; rw [decide_eq_false (by omega)]; decide)] at hE'
      rw [if_pos (by rw [zI_lt] <;> omega)]
      exact fin i I (by omega) h3 hE' h6
    rw [if_neg (by rw [zI_lt] <;> omega)]
    by_cases c2 : 122 < B (p + i)
    · rw [if_neg (by unfold isL; rw [decide_eq_false (by omega)]; decide)] at hE'
      rw [if_pos (by rw [zI_lt] <;> omega)]
      exact fin i I (by omega) h3 hE' h6
    rw [if_pos (by unfold isL; exact decide_eq_true ⟨by omega, by omega⟩)] at hE'
    have hge := (scan_b (fun p => isL (B p)) d (p + i + 1)).1
    rw [hE'] at hge
    have hnx : zI (i : Int) + zI 1 = zI ((i + 1 : Nat) : Int) := by rw [zI_add]; rfl
    have h3x : zI ((p + i : Nat) : Int) + zI 1 = zI ((p + (i + 1) : Nat) : Int) := by rw [zI_add]; congr 1
    rw [if_neg (by rw [zI_lt] <;> omega)]
    by_cases c3 : 6 ≤ i
    · rw [if_pos (by rw [zI_le] <;> omega)]
      unfold P_X3_readLetters_75
      simp only [zL]
      refine wp_let fun x hx => wp_let fun I1 g1 => ?_
      rw [hx, hnx]
      refine wp_mono (ih (i + 1) g I1 (by omega) (by omega) (by rw [g1, u2_ne (by omega)]; exact h1) (by rw [g1, qG, if_neg (by omega)]; exact hl) (by rw [g1, qG, if_pos ⟨rfl, rfl⟩, h3, h3x]) hE' (fun c => by omega)) ?_
      intro r ⟨r1, r2, r3, r4, r5⟩
      refine ⟨fN_t (by rw [g1]; exact fN_u (fN_r I) (by omega) _) r1, ?_, r3, r4, r5⟩
      rw [r2, g1, qG, if_neg (by omega)]
    · rw [if_neg (by rw [zI_le] <;> omega)]
      refine wp_let fun I0 g0 => ?_
      unfold P_X3_readLetters_75
      simp only [zL]
      refine wp_let fun x hx => wp_let fun I1 g1 => ?_
      rw [hx, hnx]
      have hd : dgt B p (E - p) i = B (p + i) - 96 := if_pos (by omega)
      have e1 : zI (B (p + i) : Int) - zI 96 = zI ((B (p + i) - 96 : Nat) : Int) := by
        rw [zI_sub]
        congr 1
        omega
      have e2 : zI 25 - zI 5 * zI (i : Int) = zI ((25 - 5 * i : Nat) : Int) := by
        rw [zI_mul, zI_sub]
        congr 1
        omega
      have hval : I0 121 6 = zI ((hn B p (E - p) (i + 1) * 2 ^ (30 - 5 * (i + 1)) : Nat) : Int) := by
        rw [g0, qG, if_pos ⟨rfl, rfl⟩, h6 (by omega), e1, e2, zI_shl _ (by omega), zI_or]
        refine congrArg zI (congrArg Nat.cast ?_)
        have hp : (2 : Nat) ^ (30 - 5 * i) = 32 * 2 ^ (25 - 5 * i) := by
          rw [show 30 - 5 * i = (25 - 5 * i) + 5 by omega, Nat.pow_add]
          omega
        have hlt : (B (p + i) - 96) * 2 ^ (25 - 5 * i) < 2 ^ (30 - 5 * i) := by
          rw [hp]
          exact Nat.mul_lt_mul_of_pos_right (by omega) (Nat.pow_pos (by omega))
        rw [Nat.mul_comm (hn B p (E - p) i), or_add hlt]
        show _ = (hn B p (E - p) i * 32 + dgt B p (E - p) i) * 2 ^ (30 - 5 * (i + 1))
        rw [hd, show 30 - 5 * (i + 1) = 25 - 5 * i by omega, Nat.add_mul, hp, Nat.mul_comm (32 * 2 ^ (25 - 5 * i)), Nat.mul_assoc]
      refine wp_mono (ih (i + 1) g I1 (by omega) (by omega) (by rw [g1, u2_ne (by omega), g0, u2_ne (by omega)]; exact h1) (by rw [g1, qG, if_neg (by omega), g0, qG, if_neg (by omega)]; exact hl) (by rw [g1, qG, if_pos ⟨rfl, rfl⟩, g0, qG, if_neg (by omega), h3, h3x]) hE' (fun _ => by rw [g1, qG, if_neg (by omega)]; exact hval)) ?_
      intro r ⟨r1, r2, r3, r4, r5⟩
      refine ⟨fN_t (by rw [g1, g0]; exact fN_u (fN_u (fN_r I) (by omega) _) (by omega) _) r1, ?_, r3, r4, r5⟩
      rw [r2, g1, qG, if_neg (by omega), g0, qG, if_neg (by omega)]
theorem x_rd {T : Nat → Int32} {B : Nat → Nat} {n : Nat} (hT : TX T B n) {E : Nat} : ∀ (d q f v : Nat) (I : Nat → Nat → Int32), q + d = n → d < f → I 1 = T → I 121 1 = zI (n : Nat) → I 121 3 = zI (q : Nat) → scan (fun p => isD (B p)) d q = E → I 121 6 = zI (v : Nat) → v < 10000000 → wp (P_X3_readDigits_0 f I) (fun I' => fN I I' ∧ I' 121 5 = I 121 5 ∧ I' 121 3 = zI (E : Nat) ∧ I' 121 4 = zI 2 ∧ I' 121 6 = zI (dg B 1000000 (E - q) q v : Nat)) := by
  obtain ⟨hn7, hB⟩ := hT
  intro d
  have fin : ∀ (q v : Nat) (I : Nat → Nat → Int32), I 121 3 = zI (q : Nat) → q = E → I 121 6 = zI (v : Nat) → wp (qc_let (qc_u2 I 121 4 (zI 2)) fun I3 => some I3) (fun I' => fN I I' ∧ I' 121 5 = I 121 5 ∧ I' 121 3 = zI (E : Nat) ∧ I' 121 4 = zI 2 ∧ I' 121 6 = zI (dg B 1000000 (E - q) q v : Nat)) := by
    intro q v I h3 he h6
    refine wp_let fun I1 g1 => wp_some ?_
    rw [g1]
    refine ⟨fN_u (fN_r I) (by omega) _, by rw [qG, if_neg (by omega)], by rw [qG, if_neg (by omega), h3, he], by rw [qG, if_pos ⟨rfl, rfl⟩], ?_⟩
    rw [qG, if_neg (by omega), h6, show E - q = 0 by omega]
    rfl
  induction d with
  | zero =>
    intro q f v I hq hf h1 hl h3 hE h6 hv
    obtain ⟨g, rfl⟩ : ∃ g, f = g + 1 := ⟨f - 1, by omega⟩
    rw [P_X3_readDigits_0, hl, h3, if_pos (by rw [zI_le] <;> omega)]
    simp only [zL]
    exact fin q v I h3 hE h6
  | succ d ih =>
    intro q f v I hq hf h1 hl h3 hE h6 hv
    obtain ⟨g, rfl⟩ : ∃ g, f = g + 1 := ⟨f - 1, by omega⟩
    obtain ⟨iq, rq⟩ := qi (q := q) (N := 700) (by omega) (by omega)
    obtain ⟨hb, hb2⟩ := hB q (by omega)
    have hE' : (if isD (B q) = true then scan (fun p => isD (B p)) d (q + 1) else q) = E := hE
    rw [P_X3_readDigits_0, hl, h3, if_neg (by rw [zI_le] <;> omega)]
    simp only [if_pos iq, rq]
    rw [h1, hb]
    simp only [zL]
    by_cases c1 : B q < 48
    · rw [if_neg (by unfold isD; rw [decide_eq_false (by omega)]; decide)] at hE'
      rw [if_pos (by rw [zI_lt] <;> omega)]
      exact fin q v I h3 hE' h6
    rw [if_neg (by rw [zI_lt] <;> omega)]
    by_cases c2 : 57 < B q
    · rw [if_neg (by unfold isD; rw [decide_eq_false (by omega)]; decide)] at hE'
      rw [if_pos (by rw [zI_lt] <;> omega)]
      exact fin q v I h3 hE' h6
    rw [if_pos (by unfold isD; exact decide_eq_true ⟨by omega, by omega⟩)] at hE'
    have hge := (scan_b (fun p => isD (B p)) d (q + 1)).1
    rw [hE'] at hge
    have h3x : zI (q : Int) + zI 1 = zI ((q + 1 : Nat) : Int) := by rw [zI_add]; congr 1
    have hdg : dg B 1000000 (E - q) q v = dg B 1000000 (E - (q + 1)) (q + 1) (if v < 1000000 then v * 10 + (B q - 48) else v) := by
      rw [show E - q = (E - (q + 1)) + 1 by omega]
      rfl
    rw [if_neg (by rw [zI_lt] <;> omega), h6, hdg]
    by_cases c3 : v < 1000000
    · rw [if_neg (by rw [zI_le] <;> omega), if_pos c3]
      refine wp_let fun I0 g0 => ?_
      unfold P_X3_readDigits_72
      simp only [zL]
      refine wp_let fun I1 g1 => ?_
      have hval : I0 121 6 = zI ((v * 10 + (B q - 48) : Nat) : Int) := by
        rw [g0, qG, if_pos ⟨rfl, rfl⟩, zI_mul, zI_sub, zI_add]
        congr 1
        omega
      refine wp_mono (ih (q + 1) g (v * 10 + (B q - 48)) I1 (by omega) (by omega) (by rw [g1, u2_ne (by omega), g0, u2_ne (by omega)]; exact h1) (by rw [g1, qG, if_neg (by omega), g0, qG, if_neg (by omega)]; exact hl) (by rw [g1, qG, if_pos ⟨rfl, rfl⟩, g0, qG, if_neg (by omega), h3, h3x]) hE' (by rw [g1, qG, if_neg (by omega)]; exact hval) (by omega)) ?_
      intro r ⟨r1, r2, r3, r4, r5⟩
      refine ⟨fN_t (by rw [g1, g0]; exact fN_u (fN_u (fN_r I) (by omega) _) (by omega) _) r1, ?_, r3, r4, r5⟩
      rw [r2, g1, qG, if_neg (by omega), g0, qG, if_neg (by omega)]
    · rw [if_pos (by rw [zI_le] <;> omega), if_neg c3]
      unfold P_X3_readDigits_72
      simp only [zL]
      refine wp_let fun I1 g1 => ?_
      refine wp_mono (ih (q + 1) g v I1 (by omega) (by omega) (by rw [g1, u2_ne (by omega)]; exact h1) (by rw [g1, qG, if_neg (by omega)]; exact hl) (by rw [g1, qG, if_pos ⟨rfl, rfl⟩, h3, h3x]) hE' (by rw [g1, qG, if_neg (by omega)]; exact h6) hv) ?_
      intro r ⟨r1, r2, r3, r4, r5⟩
      refine ⟨fN_t (by rw [g1]; exact fN_u (fN_r I) (by omega) _) r1, ?_, r3, r4, r5⟩
      rw [r2, g1, qG, if_neg (by omega)]
theorem x_skip {T : Nat → Int32} {B : Nat → Nat} {n : Nat} (hT : TX T B n) {P : Nat} : ∀ (d q f : Nat) (I : Nat → Nat → Int32), q + d = n → d < f → I 1 = T → I 121 1 = zI (n : Nat) → I 121 3 = zI (q : Nat) → scan (fun p => isB (B p)) d q = P → ∃ I', P_X3_next_0 f I = P_X3_next_52 I' ∧ fN I I' ∧ I' 121 3 = zI (P : Nat) := by
  obtain ⟨hn7, hB⟩ := hT
  intro d
  induction d with
  | zero =>
    intro q f I hq hf h1 hl h3 hE
    obtain ⟨g, rfl⟩ : ∃ g, f = g + 1 := ⟨f - 1, by omega⟩
    have hE' : q = P := hE
    refine ⟨I, ?_, fN_r I, by rw [h3, hE']⟩
    rw [P_X3_next_0, hl, h3, if_pos (by rw [zI_le] <;> omega)]
  | succ d ih =>
    intro q f I hq hf h1 hl h3 hE
    obtain ⟨g, rfl⟩ : ∃ g, f = g + 1 := ⟨f - 1, by omega⟩
    obtain ⟨iq, rq⟩ := qi (q := q) (N := 700) (by omega) (by omega)
    obtain ⟨hb, hb2⟩ := hB q (by omega)
    have hE' : (if isB (B q) = true then scan (fun p => isB (B p)) d (q + 1) else q) = P := hE
    have h3x : zI (q : Int) + zI 1 = zI ((q + 1 : Nat) : Int) := by rw [zI_add]; congr 1
    have st : P_X3_next_0 (g + 1) I = if zI (B q : Int) = zI 10 then P_X3_next_39 (P_X3_next_0 g) I else if zI (B q : Int) = zI 32 then P_X3_next_39 (P_X3_next_0 g) I else P_X3_next_52 I := by
      rw [P_X3_next_0, hl, h3, if_neg (by rw [zI_le] <;> omega)]
      simp only [if_pos iq, rq]
      rw [h1, hb]
      simp only [zL]
    rw [st]
    have again : isB (B q) = true → ∃ I', P_X3_next_39 (P_X3_next_0 g) I = P_X3_next_52 I' ∧ fN I I' ∧ I' 121 3 = zI (P : Nat) := by
      intro c
      rw [if_pos c] at hE'
      obtain ⟨I', e1, e2, e3⟩ := ih (q + 1) g (qc_u2 I 121 3 (zI ((q + 1 : Nat) : Int))) (by omega) (by omega) (by rw [u2_ne (by omega)]; exact h1) (by rw [qG, if_neg (by omega)]; exact hl) (by rw [qG, if_pos ⟨rfl, rfl⟩]) hE'
      refine ⟨I', ?_, fN_t (fN_u (fN_r I) (by omega) _) e2, e3⟩
      rw [← e1]
      unfold P_X3_next_39
      simp only [zL, qc_lE]
      rw [h3, h3x]
    by_cases c1 : B q = 10
    · rw [if_pos (by rw [zI_eq] <;> omega)]
      exact again (decide_eq_true (Or.inl c1))
    · rw [if_neg (by rw [zI_eq] <;> omega)]
      by_cases c2 : B q = 32
      · rw [if_pos (by rw [zI_eq] <;> omega)]
        exact again (decide_eq_true (Or.inr c2))
      · rw [if_neg (by rw [zI_eq] <;> omega)]
        rw [if_neg (by unfold isB; rw [decide_eq_false (by omega)]; decide)] at hE'
        exact ⟨I, rfl, fN_r I, by rw [h3, hE']⟩
/-- the class has read the token that begins at A -/
def XT (B : Nat → Nat) (n A : Nat) (I : Nat → Nat → Int32) : Prop := I 121 3 = zI (tE B n A : Nat) ∧ I 121 5 = zI (tP B n A : Nat) ∧ I 121 4 = zI (tK B n A : Nat) ∧ (tK B n A = 1 → I 121 6 = zI (hn B (tP B n A) (tL B n A) 6 : Nat)) ∧ (tK B n A = 2 → I 121 6 = zI (dg B 1000000 (tL B n A) (tP B n A) 0 : Nat))
theorem x_next {T : Nat → Int32} {B : Nat → Nat} {n : Nat} (hT : TX T B n) {A : Nat} (hA : A ≤ n) {I : Nat → Nat → Int32} (h1 : I 1 = T) (hl : I 121 1 = zI (n : Nat)) (h3 : I 121 3 = zI (A : Nat)) : wp (P_X3_next I) (fun I' => fN I I' ∧ XT B n A I') := by
  have hT0 := hT
  obtain ⟨hn7, hB⟩ := hT
  obtain ⟨I0, e1, e2, e3⟩ := x_skip hT0 (n - A) A qc_fu I (by omega) (by unfold qc_fu; omega) h1 hl h3 rfl
  have e1' : P_X3_next I = P_X3_next_52 I0 := e1
  have hPd : tP B n A = scan (fun p => isB (B p)) (n - A) A := rfl
  have hsb := scan_b (fun p => isB (B p)) (n - A) A
  rw [← hPd] at hsb e3
  have k1 := (fN_1 e2).1.trans h1
  have kl := (fN_1 e2).2.trans hl
  rw [e1']
  unfold P_X3_next_52
  simp only [zL]
  refine wp_let fun I1 g1 => wp_let fun I2 g2 => ?_
  have f2 : fN I I2 := by rw [g2, g1]; exact fN_u (fN_u e2 (by omega) _) (by omega) _
  have a1 : I2 1 = T := by rw [(fN_1 f2).1]; exact h1
  have al : I2 121 1 = zI (n : Nat) := by rw [(fN_1 f2).2]; exact hl
  have a3 : I2 121 3 = zI (tP B n A : Nat) := by rw [g2, qG, if_neg (by omega), g1, qG, if_neg (by omega)]; exact e3
  have a5 : I2 121 5 = zI (tP B n A : Nat) := by rw [g2, qG, if_neg (by omega), g1, qG, if_pos ⟨rfl, rfl⟩]; exact e3
  have a6 : I2 121 6 = zI 0 := by rw [g2, qG, if_pos ⟨rfl, rfl⟩]
  rw [al, a3]
  by_cases c0 : n ≤ tP B n A
  · have hE : tE B n A = tP B n A := if_pos c0
    have hC : tK B n A = 0 := if_pos c0
    rw [if_pos (by rw [zI_le] <;> omega), Option.bind_some, if_neg (by rw [zI_lt] <;> omega)]
    refine wp_let fun I3 g3 => wp_some ⟨by rw [g3]; exact fN_u f2 (by omega) _, ?_, ?_, ?_, ?_, ?_⟩
    · rw [g3, qG, if_neg (by omega), a3, hE]
    · rw [g3, qG, if_neg (by omega), a5]
    · rw [g3, qG, if_pos ⟨rfl, rfl⟩, hC]; rfl
    · intro z; omega
    · intro z; omega
  · obtain ⟨iq, rq⟩ := qi (q := tP B n A) (N := 700) (by omega) (by omega)
    obtain ⟨hb, hb2⟩ := hB (tP B n A) (by omega)
    rw [if_neg (by rw [zI_le] <;> omega)]
    simp only [if_pos iq, rq]
    rw [a1, hb, Option.bind_some, if_pos (by rw [zI_lt] <;> omega)]
    have sgn : isL (B (tP B n A)) = false → wp (P_X3_next_128 I2 (zI (B (tP B n A) : Nat))) (fun I' => fN I I' ∧ XT B n A I') := by
      intro cl
      have hE0 : tE B n A = if isD (B (tP B n A)) = true then scan (fun p => isD (B p)) (n - tP B n A) (tP B n A) else tP B n A + 1 := by
        unfold tE
        rw [if_neg c0, cl]
        rfl
      have hC0 : tK B n A = if isD (B (tP B n A)) = true then 2 else if B (tP B n A) = 59 then 3 else 4 := by
        unfold tK
        rw [if_neg c0, cl]
        rfl
      have non : isD (B (tP B n A)) = false → wp (P_X3_next_147 I2 (zI (B (tP B n A) : Nat))) (fun I' => fN I I' ∧ XT B n A I') := by
        intro cd
        rw [cd, if_neg (by decide)] at hE0 hC0
        unfold P_X3_next_147
        simp only [zL]
        have e : (if zI (B (tP B n A) : Int) = zI 59 then some (zI 3) else some (zI 4)) = some (zI (tK B n A : Nat)) := by
          rw [hC0]
          by_cases c : B (tP B n A) = 59
          · rw [if_pos (by rw [zI_eq] <;> omega), if_pos c]; rfl
          · rw [if_neg (by rw [zI_eq] <;> omega), if_neg c]; rfl
        rw [e, Option.bind_some]
        refine wp_let fun I3 g3 => wp_let fun I4 g4 => wp_some ⟨by rw [g4, g3]; exact fN_u (fN_u f2 (by omega) _) (by omega) _, ?_, ?_, ?_, ?_, ?_⟩
        · rw [g4, qG, if_pos ⟨rfl, rfl⟩, g3, qG, if_neg (by omega), a3, hE0, zI_add]; rfl
        · rw [g4, qG, if_neg (by omega), g3, qG, if_neg (by omega), a5]
        · rw [g4, qG, if_neg (by omega), g3, qG, if_pos ⟨rfl, rfl⟩]
        · intro z; rw [hC0] at z; split at z <;> omega
        · intro z; rw [hC0] at z; split at z <;> omega
      unfold P_X3_next_128
      simp only [zL]
      by_cases c1 : B (tP B n A) < 48
      · rw [if_pos (by rw [zI_lt] <;> omega)]
        exact non (decide_eq_false (by omega))
      rw [if_neg (by rw [zI_lt] <;> omega)]
      by_cases c2 : 57 < B (tP B n A)
      · rw [if_pos (by rw [zI_lt] <;> omega)]
        exact non (decide_eq_false (by omega))
      rw [if_neg (by rw [zI_lt] <;> omega)]
      have cd : isD (B (tP B n A)) = true := decide_eq_true ⟨by omega, by omega⟩
      rw [cd, if_pos rfl] at hE0 hC0
      have hr := x_rd hT0 (E := tE B n A) (n - tP B n A) (tP B n A) qc_fu 0 I2 (by omega) (by unfold qc_fu; omega) a1 al a3 hE0.symm a6 (by omega)
      refine wp_bind hr ?_
      intro r ⟨r1, r2, r3, r4, r5⟩
      refine wp_some ⟨fN_t f2 r1, r3, by rw [r2, a5], by rw [r4, hC0]; rfl, ?_, ?_⟩
      · intro z; omega
      · intro _; exact r5
    by_cases c1 : B (tP B n A) < 97
    · rw [if_pos (by rw [zI_lt] <;> omega)]
      exact sgn (decide_eq_false (by omega))
    rw [if_neg (by rw [zI_lt] <;> omega)]
    by_cases c2 : 122 < B (tP B n A)
    · rw [if_pos (by rw [zI_lt] <;> omega)]
      exact sgn (decide_eq_false (by omega))
    rw [if_neg (by rw [zI_lt] <;> omega)]
    have cl : isL (B (tP B n A)) = true := decide_eq_true ⟨by omega, by omega⟩
    have hE0 : tE B n A = scan (fun p => isL (B p)) (n - tP B n A) (tP B n A) := by
      unfold tE
      rw [if_neg c0, if_pos cl]
    have hC0 : tK B n A = if tL B n A ≤ 6 then 1 else 4 := by
      unfold tK
      rw [if_neg c0, if_pos cl]
    have hr := x_rl hT0 (p := tP B n A) (E := tE B n A) (n - tP B n A) 0 qc_fu I2 (by omega) (by unfold qc_fu; omega) a1 al a3 hE0.symm (fun _ => by rw [a6, show hn B (tP B n A) (tE B n A - tP B n A) 0 = 0 from rfl, Nat.zero_mul]; rfl)
    refine wp_bind hr ?_
    intro r ⟨r1, r2, r3, r4, r5⟩
    refine wp_some ⟨fN_t f2 r1, r3, by rw [r2, a5], by rw [r4, hC0]; rfl, ?_, ?_⟩
    · intro z
      rw [hC0] at z
      split at z
      · rename_i c; exact r5 c
      · omega
    · intro z
      rw [hC0] at z
      split at z <;> omega
