/-! the reference's tokens -/
def gN (M M' : Nat → Nat → Int32) : Prop := ∀ t j, (t ≠ 0 ∨ j < 17 ∨ 20 < j) → M' t j = M t j
theorem gN_r (M : Nat → Nat → Int32) : gN M M := fun _ _ _ => rfl
theorem gN_t {M M' M'' : Nat → Nat → Int32} (h : gN M M') (h' : gN M' M'') : gN M M'' := fun t j c => (h' t j c).trans (h t j c)
theorem gN_u {M M' : Nat → Nat → Int32} (h : gN M M') {j : Nat} (hj : 17 ≤ j ∧ j ≤ 20) (x : Int32) : gN M (qc_u2 M' 0 j x) := fun t k c => by rw [qG, if_neg (by omega)]; exact h t k c
theorem gN_1 {M M' : Nat → Nat → Int32} (h : gN M M') : M' 1 = M 1 ∧ M' 0 16 = M 0 16 := ⟨funext fun j => h 1 j (by omega), h 0 16 (by omega)⟩
theorem m_here {T : Nat → Int32} {B : Nat → Nat} {n : Nat} (hT : TX T B n) {q : Nat} {M : Nat → Nat → Int32} (hq : q ≤ n) (h1 : M 1 = T) (hl : M 0 16 = zI (n : Nat)) (h3 : M 0 17 = zI (q : Nat)) : P_X7_here M = some (zI (if n ≤ q then -1 else (B q : Int))) := by
  obtain ⟨hn7, hB⟩ := hT
  unfold P_X7_here
  rw [hl, h3]
  by_cases c : n ≤ q
  · rw [if_pos (by rw [zI_le] <;> omega), if_pos c]
    rfl
  · obtain ⟨iq, rq⟩ := qi (q := q) (N := 700) (by omega) (by omega)
    obtain ⟨hb, hb2⟩ := hB q (by omega)
    rw [if_neg (by rw [zI_le] <;> omega)]
    simp only [if_pos iq, rq]
    rw [h1, hb, if_neg c]
    rfl
theorem m_small {z : Int} (h : -1 ≤ z ∧ z < 256) : P_X7_isSmall (zI z) = some (bI (decide (97 ≤ z ∧ z ≤ 122))) := by
  unfold P_X7_isSmall
  simp only [zL]
  by_cases c1 : z < 97
  · rw [if_pos (by rw [zI_lt] <;> omega), decide_eq_false (by omega)]
    rfl
  · rw [if_neg (by rw [zI_lt] <;> omega)]
    by_cases c2 : 122 < z
    · rw [if_pos (by rw [zI_lt] <;> omega), decide_eq_false (by omega)]
      rfl
    · rw [if_neg (by rw [zI_lt] <;> omega), decide_eq_true ⟨by omega, by omega⟩]
      rfl
theorem m_digit {z : Int} (h : -1 ≤ z ∧ z < 256) : P_X7_isDigit (zI z) = some (bI (decide (48 ≤ z ∧ z ≤ 57))) := by
  unfold P_X7_isDigit
  simp only [zL]
  by_cases c1 : z < 48
  · rw [if_pos (by rw [zI_lt] <;> omega), decide_eq_false (by omega)]
    rfl
  · rw [if_neg (by rw [zI_lt] <;> omega)]
    by_cases c2 : 57 < z
    · rw [if_pos (by rw [zI_lt] <;> omega), decide_eq_false (by omega)]
      rfl
    · rw [if_neg (by rw [zI_lt] <;> omega), decide_eq_true ⟨by omega, by omega⟩]
      rfl
/-! which word it is -/
theorem m_97 {M : Nat → Nat → Int32} {k4 : Int32 → Int32 → Option (Int32)} {w : Nat} (hw : w < 11) : ∀ (d j f : Nat), j + d = wl w → d < f → P_X7_wordHere_97 M k4 f (zI (w : Nat)) (zI ((wo w + j : Nat) : Int)) = k4 (zI ((w + 1 : Nat) : Int)) (zI (wo (w + 1) : Nat)) := by
  obtain ⟨o1, o2, o3, o4, o5⟩ := wd_ok ⟨w, hw⟩
  dsimp only at o1 o2 o3 o4 o5
  intro d
  induction d with
  | zero =>
    intro j f hj hf
    obtain ⟨g, rfl⟩ : ∃ g, f = g + 1 := ⟨f - 1, by omega⟩
    obtain ⟨iq, rq⟩ := qi (q := wo w + j) (N := 62) (by omega) (by omega)
    rw [P_X7_wordHere_97]
    simp only [if_pos iq, rq]
    rw [show wo w + j = wo w + wl w by omega, o3]
    simp only [zL]
    rw [if_pos trivial]
    simp only [qc_lE, zI_add]
    have e1 : ((wo w + wl w : Nat) : Int) + 1 = ((wo (w + 1) : Nat) : Int) := by omega
    rw [e1]
    rfl
  | succ d ih =>
    intro j f hj hf
    obtain ⟨g, rfl⟩ : ∃ g, f = g + 1 := ⟨f - 1, by omega⟩
    obtain ⟨iq, rq⟩ := qi (q := wo w + j) (N := 62) (by omega) (by omega)
    obtain ⟨c1, c2, c3⟩ := wd_ch ⟨w, hw⟩ ⟨j, by omega⟩ (by show j < wl w; omega)
    dsimp only at c1 c2 c3
    rw [P_X7_wordHere_97]
    simp only [if_pos iq, rq]
    rw [c1]
    simp only [zL]
    rw [if_neg (by rw [zI_eq] <;> omega), ← ih (j + 1) g (by omega) (by omega)]
    simp only [qc_lE, zI_add]
    have e1 : ((wo w + j : Nat) : Int) + 1 = ((wo w + (j + 1) : Nat) : Int) := by omega
    rw [e1]
theorem m_15 {T : Nat → Int32} {B : Nat → Nat} {n : Nat} (hT : TX T B n) {M : Nat → Nat → Int32} {p E : Nat} (hp : p ≤ E) (hE : E ≤ n) (h1 : M 1 = T) (h17 : M 0 17 = zI (E : Nat)) (h18 : M 0 18 = zI (p : Nat)) {k4 : Int32 → Int32 → Option (Int32)} {w : Nat} (hw : w < 11) : ∀ (d i f : Nat), i + d = wl w → d < f → i ≤ E - p → (∀ j, j < i → B (p + j) = wch w j) → P_X7_wordHere_15 M k4 f (zI (w : Nat)) (zI (wo w : Nat)) (zI (i : Nat)) = if mtB B p (E - p) w = true then some (zI (w : Nat)) else k4 (zI ((w + 1 : Nat) : Int)) (zI (wo (w + 1) : Nat)) := by
  obtain ⟨hn7, hB⟩ := hT
  obtain ⟨o1, o2, o3, o4, o5⟩ := wd_ok ⟨w, hw⟩
  dsimp only at o1 o2 o3 o4 o5
  have s97 := m_97 (M := M) (k4 := k4) hw (wl w) 0 qc_fu (by omega) (by unfold qc_fu; omega)
  have s97' : P_X7_wordHere_97 M k4 qc_fu (zI (w : Nat)) (zI (wo w : Nat)) = k4 (zI ((w + 1 : Nat) : Int)) (zI (wo (w + 1) : Nat)) := s97
  intro d
  induction d with
  | zero =>
    intro i f hi hf hl hm
    obtain ⟨g, rfl⟩ : ∃ g, f = g + 1 := ⟨f - 1, by omega⟩
    obtain ⟨iq, rq⟩ := qi (q := wo w + i) (N := 62) (by omega) (by omega)
    have e0 : zI (wo w : Int) + zI (i : Int) = zI ((wo w + i : Nat) : Int) := by rw [zI_add]; rfl
    rw [P_X7_wordHere_15, e0]
    simp only [if_pos iq, rq]
    rw [show qc_ch (wo w + i) = zI 32 by rw [show wo w + i = wo w + wl w by omega]; exact o3]
    simp only [zL]
    rw [if_pos trivial]
    unfold P_X7_wordHere_69
    rw [e0]
    simp only [if_pos iq, rq]
    rw [show qc_ch (wo w + i) = zI 32 by rw [show wo w + i = wo w + wl w by omega]; exact o3]
    simp only [zL]
    rw [if_pos trivial, h18, h17, zI_add, s97']
    by_cases c : E - p = wl w
    · rw [if_pos (by rw [zI_eq] <;> omega), if_pos (mtB_iff.2 ⟨c, fun j hj => hm j (by omega)⟩)]
    · rw [if_neg (by rw [zI_eq] <;> omega), if_neg (fun z => c (mtB_iff.1 z).1)]
  | succ d ih =>
    intro i f hi hf hl hm
    obtain ⟨g, rfl⟩ : ∃ g, f = g + 1 := ⟨f - 1, by omega⟩
    obtain ⟨iq, rq⟩ := qi (q := wo w + i) (N := 62) (by omega) (by omega)
    obtain ⟨c1, c2, c3⟩ := wd_ch ⟨w, hw⟩ ⟨i, by omega⟩ (by show i < wl w; omega)
    dsimp only at c1 c2 c3
    have e0 : zI (wo w : Int) + zI (i : Int) = zI ((wo w + i : Nat) : Int) := by rw [zI_add]; rfl
    have r69 : P_X7_wordHere_69 M k4 (zI (w : Nat)) (zI (wo w : Nat)) (zI (i : Nat)) = k4 (zI ((w + 1 : Nat) : Int)) (zI (wo (w + 1) : Nat)) := by
      unfold P_X7_wordHere_69
      rw [e0]
      simp only [if_pos iq, rq]
      rw [c1]
      simp only [zL]
      rw [if_neg (by rw [zI_eq] <;> omega), s97']
    rw [P_X7_wordHere_15, e0]
    simp only [if_pos iq, rq]
    rw [c1]
    simp only [zL]
    rw [if_neg (by rw [zI_eq] <;> omega), h17, h18, r69]
    by_cases c4 : E ≤ p + i
    · rw [if_pos (by rw [zI_add, zI_le] <;> omega), if_neg (fun z => by have := (mtB_iff.1 z).1; omega)]
    · have e5 : zI (p : Int) + zI (i : Int) = zI ((p + i : Nat) : Int) := by rw [zI_add]; rfl
      obtain ⟨ip, rp⟩ := qi (q := p + i) (N := 700) (by omega) (by omega)
      obtain ⟨hb, hb2⟩ := hB (p + i) (by omega)
      rw [e5, if_neg (by rw [zI_le] <;> omega)]
      simp only [if_pos ip, rp]
      rw [h1, hb]
      by_cases c6 : B (p + i) = wch w i
      · rw [if_pos (by rw [c6]), ← ih (i + 1) g (by omega) (by omega) (by omega) (fun j hj => by
          by_cases e : j = i
          · rw [e]; exact c6
          · exact hm j (by omega))]
        simp only [qc_lE, zI_add]
        rfl
      · rw [if_neg (by rw [zI_eq] <;> omega), if_neg (fun z => c6 ((mtB_iff.1 z).2 i (by omega)))]
theorem m_word {T : Nat → Int32} {B : Nat → Nat} {n : Nat} (hT : TX T B n) {M : Nat → Nat → Int32} {p E : Nat} (hp : p ≤ E) (hE : E ≤ n) (h1 : M 1 = T) (h17 : M 0 17 = zI (E : Nat)) (h18 : M 0 18 = zI (p : Nat)) : P_X7_wordHere M = some (zI (wI B p (E - p))) := by
  have key : ∀ (d w f : Nat), w + d = 11 → d < f → P_X7_wordHere_4 M f (zI (w : Nat)) (zI (wo w : Nat)) = some (zI (fnd (fun w => if mtB B p (E - p) w = true then some ((w : Nat) : Int) else none) (-1) d w)) := by
    intro d
    induction d with
    | zero =>
      intro w f hw hf
      obtain ⟨g, rfl⟩ : ∃ g, f = g + 1 := ⟨f - 1, by omega⟩
      have : w = 11 := by omega
      subst this
      rfl
    | succ d ih =>
      intro w f hw hf
      obtain ⟨g, rfl⟩ : ∃ g, f = g + 1 := ⟨f - 1, by omega⟩
      obtain ⟨o1, o2, o3, o4, o5⟩ := wd_ok ⟨w, by omega⟩
      dsimp only at o1 o2 o3 o4 o5
      have h15 := m_15 hT hp hE h1 h17 h18 (k4 := P_X7_wordHere_4 M g) (w := w) (by omega) (wl w) 0 qc_fu (by omega) (by unfold qc_fu; omega) (by omega) (fun j hj => by omega)
      have h15' : P_X7_wordHere_15 M (P_X7_wordHere_4 M g) qc_fu (zI (w : Nat)) (zI (wo w : Nat)) (zI 0) = _ := h15
      rw [P_X7_wordHere_4]
      simp only [zL]
      rw [if_neg (by rw [zI_le] <;> omega), h15', ih (w + 1) g (by omega) (by omega)]
      show _ = some (zI ((if mtB B p (E - p) w = true then some ((w : Nat) : Int) else none).getD (fnd (fun w => if mtB B p (E - p) w = true then some ((w : Nat) : Int) else none) (-1) d (w + 1))))
      cases mtB B p (E - p) w
      · rw [if_neg (by decide), if_neg (by decide)]; rfl
      · rw [if_pos rfl, if_pos rfl]; rfl
  exact key 11 0 qc_fu (by omega) (by unfold qc_fu; omega)
theorem m_name {T : Nat → Int32} {B : Nat → Nat} {n : Nat} (hT : TX T B n) {p E : Nat} (hp : p ≤ E) (hE : E ≤ n) (hL : ∀ j, j < E - p → 97 ≤ B (p + j) ∧ B (p + j) ≤ 122) : ∀ (d i f : Nat) (M : Nat → Nat → Int32), i + d = 6 → d < f → M 1 = T → M 0 17 = zI (E : Nat) → M 0 18 = zI (p : Nat) → M 0 20 = zI (hn B p (E - p) i : Nat) → wp (P_X7_nameHere_7 f M (zI (i : Nat))) (fun M' => (∀ t j, t ≠ 0 ∨ j ≠ 20 → M' t j = M t j) ∧ M' 0 20 = zI (hn B p (E - p) 6 : Nat)) := by
  obtain ⟨hn7, hB⟩ := hT
  intro d
  induction d with
  | zero =>
    intro i f M hi hf h1 h17 h18 h20
    obtain ⟨g, rfl⟩ : ∃ g, f = g + 1 := ⟨f - 1, by omega⟩
    have : i = 6 := by omega
    subst this
    rw [P_X7_nameHere_7]
    simp only [zL]
    rw [if_pos (by rw [zI_le] <;> omega)]
    exact wp_some ⟨fun _ _ _ => rfl, h20⟩
  | succ d ih =>
    intro i f M hi hf h1 h17 h18 h20
    obtain ⟨g, rfl⟩ : ∃ g, f = g + 1 := ⟨f - 1, by omega⟩
    have e5 : zI (p : Int) + zI (i : Int) = zI ((p + i : Nat) : Int) := by rw [zI_add]; rfl
    have hv : (if zI (E : Int) ≤ zI ((p + i : Nat) : Int) then some (zI 0) else if qc_in (zI ((p + i : Nat) : Int)) 700 then some (M 1 (zI ((p + i : Nat) : Int)).toNatClampNeg - zI 97 + zI 1) else none) = some (zI (dgt B p (E - p) i : Nat)) := by
      unfold dgt
      by_cases c : i < E - p
      · obtain ⟨ip, rp⟩ := qi (q := p + i) (N := 700) (by omega) (by omega)
        obtain ⟨hb, hb2⟩ := hB (p + i) (by omega)
        have := hL i c
        rw [if_neg (by rw [zI_le] <;> omega), if_pos ip, rp, h1, hb, if_pos c, zI_sub, zI_add]
        congr 2
        omega
      · rw [if_pos (by rw [zI_le] <;> omega), if_neg c]
        rfl
    have hd : dgt B p (E - p) i < 32 := by
      unfold dgt
      split
      · rename_i c
        have := hL i c
        omega
      · omega
    rw [P_X7_nameHere_7]
    simp only [zL]
    rw [if_neg (by rw [zI_le] <;> omega), h17, h18, e5, hv, Option.bind_some]
    refine wp_let fun M1 g1 => wp_let fun x hx => ?_
    have hx' : x = zI ((i + 1 : Nat) : Int) := by rw [hx, zI_add]; rfl
    have e20 : M1 0 20 = zI (hn B p (E - p) (i + 1) : Nat) := by
      rw [g1, qG, if_pos ⟨rfl, rfl⟩, h20]
      have s := zI_shl (hn B p (E - p) i) (s := 5) (by omega)
      have s' : zI (hn B p (E - p) i : Int) <<< (zI 5 &&& zI 31) = _ := s
      rw [s', zI_or, Nat.mul_comm, or_add hd]
      show _ = zI ((hn B p (E - p) i * 32 + dgt B p (E - p) i : Nat) : Int)
      congr 2
      omega
    rw [hx']
    refine wp_mono (ih (i + 1) g M1 (by omega) (by omega) (by rw [g1, u2_ne (by omega)]; exact h1) (by rw [g1, qG, if_neg (by omega)]; exact h17) (by rw [g1, qG, if_neg (by omega)]; exact h18) e20) ?_
    intro r ⟨r1, r2⟩
    refine ⟨?_, r2⟩
    intro t j c
    rw [r1 t j c, g1, qG, if_neg (by omega)]
def tS (B : Nat → Nat) (n A : Nat) : Nat := if n ≤ tP B n A then 4 else if isL (B (tP B n A)) = true then (if wI B (tP B n A) (tL B n A) = -1 then (if tL B n A ≤ 6 then 1 else 5) else 0) else if isD (B (tP B n A)) = true then 2 else if B (tP B n A) = 59 then 3 else 5
/-- the reference stands at the token that begins at A -/
def MT (B : Nat → Nat) (n A : Nat) (M : Nat → Nat → Int32) : Prop := M 0 17 = zI (tE B n A : Nat) ∧ M 0 18 = zI (tP B n A : Nat) ∧ M 0 19 = zI (tS B n A : Nat) ∧ (tS B n A = 0 → M 0 20 = zI (wI B (tP B n A) (tL B n A))) ∧ (tS B n A = 1 → M 0 20 = zI (hn B (tP B n A) (tL B n A) 6 : Nat)) ∧ (tS B n A = 2 → M 0 20 = zI (dg B 100000 (tL B n A) (tP B n A) 0 : Nat))
theorem wI_b (B : Nat → Nat) (p len : Nat) : -1 ≤ wI B p len ∧ wI B p len < 11 := by
  rcases wI_some (B := B) (p := p) (len := len) 11 0 with ⟨h, _⟩ | ⟨v, v1, v2, _, h⟩
  · unfold wI; rw [h]; omega
  · unfold wI; rw [h]; omega
theorem m_64 {T : Nat → Int32} {B : Nat → Nat} {n A : Nat} (hT : TX T B n) (c0 : ¬ n ≤ tP B n A) (cl : isL (B (tP B n A)) = true) : ∀ (d q f : Nat) (M : Nat → Nat → Int32), q + d = n → d < f → M 1 = T → M 0 16 = zI (n : Nat) → M 0 17 = zI (q : Nat) → M 0 18 = zI (tP B n A : Nat) → tP B n A ≤ q → scan (fun p => isL (B p)) d q = tE B n A → wp (P_X7_token_64 f M) (fun M' => gN M M' ∧ MT B n A M') := by
  have hT0 := hT
  obtain ⟨hn7, hB⟩ := hT
  have hE0 : tE B n A = scan (fun p => isL (B p)) (n - tP B n A) (tP B n A) := by
    unfold tE
    rw [if_neg c0, if_pos cl]
  have hS0 : tS B n A = if wI B (tP B n A) (tL B n A) = -1 then (if tL B n A ≤ 6 then 1 else 5) else 0 := by
    unfold tS
    rw [if_neg c0, if_pos cl]
  have hsb := scan_b (fun p => isL (B p)) (n - tP B n A) (tP B n A)
  rw [← hE0] at hsb
  have hL : ∀ j, j < tE B n A - tP B n A → 97 ≤ B (tP B n A + j) ∧ B (tP B n A + j) ≤ 122 := fun j hj => of_decide_eq_true (hsb.2.2.1 (tP B n A + j) (by omega) (by omega))
  have fin : ∀ (M : Nat → Nat → Int32), M 1 = T → M 0 17 = zI (tE B n A : Nat) → M 0 18 = zI (tP B n A : Nat) → wp ((P_X7_wordHere M).bind fun q12 => qc_let (qc_u2 M 0 20 q12) fun I13 => (if I13 0 20 = -zI 1 then if I13 0 17 - I13 0 18 ≤ zI 6 then some (zI 1) else some (zI 5) else some (zI 0)).bind fun v15 => qc_let (qc_u2 I13 0 19 v15) fun I17 => if I17 0 19 = zI 1 then (P_X7_nameHere I17).bind fun q19 => some q19 else some I17) (fun M' => gN M M' ∧ MT B n A M') := by
    intro M h1 h17 h18
    have hb := wI_b B (tP B n A) (tL B n A)
    have hlen : tL B n A = tE B n A - tP B n A := rfl
    rw [m_word hT0 (p := tP B n A) (E := tE B n A) (by omega) (by omega) h1 h17 h18, Option.bind_some, ← hlen]
    refine wp_let fun M1 g1 => ?_
    have a20 : M1 0 20 = zI (wI B (tP B n A) (tL B n A)) := by rw [g1, qG, if_pos ⟨rfl, rfl⟩]
    have a17 : M1 0 17 = zI (tE B n A : Nat) := by rw [g1, qG, if_neg (by omega)]; exact h17
    have a18 : M1 0 18 = zI (tP B n A : Nat) := by rw [g1, qG, if_neg (by omega)]; exact h18
    have e : (if M1 0 20 = -zI 1 then if M1 0 17 - M1 0 18 ≤ zI 6 then some (zI 1) else some (zI 5) else some (zI 0)) = some (zI (tS B n A : Nat)) := by
      rw [a20, a17, a18, zI_neg, zI_sub, hS0]
      by_cases c : wI B (tP B n A) (tL B n A) = -1
      · rw [if_pos (by rw [c]), if_pos c]
        by_cases c2 : tL B n A ≤ 6
        · rw [if_pos (by rw [zI_le] <;> omega), if_pos c2]; rfl
        · rw [if_neg (by rw [zI_le] <;> omega), if_neg c2]; rfl
      · rw [if_neg (by rw [zI_eq] <;> omega), if_neg c]; rfl
    rw [e, Option.bind_some]
    refine wp_let fun M2 g2 => ?_
    have hM : gN M M2 := by rw [g2, g1]; exact gN_u (gN_u (gN_r M) (by omega) _) (by omega) _
    have b19 : M2 0 19 = zI (tS B n A : Nat) := by rw [g2, qG, if_pos ⟨rfl, rfl⟩]
    have b17 : M2 0 17 = zI (tE B n A : Nat) := by rw [g2, qG, if_neg (by omega)]; exact a17
    have b18 : M2 0 18 = zI (tP B n A : Nat) := by rw [g2, qG, if_neg (by omega)]; exact a18
    have b20 : M2 0 20 = zI (wI B (tP B n A) (tL B n A)) := by rw [g2, qG, if_neg (by omega)]; exact a20
    have hsv : tS B n A = 0 ∨ tS B n A = 1 ∨ tS B n A = 5 := by
      rw [hS0]
      split
      · split
        · omega
        · omega
      · omega
    by_cases c : tS B n A = 1
    · rw [if_pos (by rw [b19, c]; rfl)]
      have hnm : wp (P_X7_nameHere M2) (fun M' => gN M2 M' ∧ M' 0 17 = M2 0 17 ∧ M' 0 18 = M2 0 18 ∧ M' 0 19 = M2 0 19 ∧ M' 0 20 = zI (hn B (tP B n A) (tL B n A) 6 : Nat)) := by
        unfold P_X7_nameHere
        simp only [zL]
        refine wp_let fun M3 g3 => ?_
        refine wp_mono (m_name hT0 (p := tP B n A) (E := tE B n A) (by omega) (by omega) hL 6 0 qc_fu M3 (by omega) (by unfold qc_fu; omega) (by rw [g3, u2_ne (by omega), (gN_1 hM).1]; exact h1) (by rw [g3, qG, if_neg (by omega)]; exact b17) (by rw [g3, qG, if_neg (by omega)]; exact b18) (by rw [g3, qG, if_pos ⟨rfl, rfl⟩]; rfl)) ?_
        intro r ⟨r1, r2⟩
        refine ⟨?_, ?_, ?_, ?_, r2⟩
        · intro t j cc
          rw [r1 t j (by omega), g3, qG, if_neg (by omega)]
        · rw [r1 0 17 (by omega), g3, qG, if_neg (by omega)]
        · rw [r1 0 18 (by omega), g3, qG, if_neg (by omega)]
        · rw [r1 0 19 (by omega), g3, qG, if_neg (by omega)]
      refine wp_bind hnm ?_
      intro r ⟨r1, r2, r3, r4, r5⟩
      exact wp_some ⟨gN_t hM r1, r2.trans b17, r3.trans b18, r4.trans b19, fun z => by omega, fun _ => r5, fun z => by omega⟩
    · rw [if_neg (by rw [b19, zI_eq] <;> omega)]
      exact wp_some ⟨hM, b17, b18, b19, fun _ => b20, fun z => absurd z c, fun z => by omega⟩
  intro d
  induction d with
  | zero =>
    intro q f M hq hf h1 hl h17 h18 hpq hE
    obtain ⟨g, rfl⟩ : ∃ g, f = g + 1 := ⟨f - 1, by omega⟩
    have hE' : q = tE B n A := hE
    rw [P_X7_token_64, m_here hT0 (by omega) h1 hl h17, Option.bind_some, if_pos (show n ≤ q by omega), m_small (by omega), Option.bind_some]
    simp only [zL]
    rw [if_pos (by decide)]
    exact fin M h1 (by rw [h17, hE']) h18
  | succ d ih =>
    intro q f M hq hf h1 hl h17 h18 hpq hE
    obtain ⟨g, rfl⟩ : ∃ g, f = g + 1 := ⟨f - 1, by omega⟩
    obtain ⟨hb, hb2⟩ := hB q (by omega)
    have hE' : (if isL (B q) = true then scan (fun p => isL (B p)) d (q + 1) else q) = tE B n A := hE
    rw [P_X7_token_64, m_here hT0 (by omega) h1 hl h17, Option.bind_some, if_neg (show ¬ n ≤ q by omega), m_small (by omega), Option.bind_some]
    simp only [zL, bI_0]
    by_cases c : 97 ≤ B q ∧ B q ≤ 122
    · rw [if_pos (show isL (B q) = true from decide_eq_true c)] at hE'
      rw [if_neg (by rw [decide_eq_true (by omega)]; decide)]
      refine wp_let fun M1 g1 => ?_
      refine wp_mono (ih (q + 1) g M1 (by omega) (by omega) (by rw [g1, u2_ne (by omega)]; exact h1) (by rw [g1, qG, if_neg (by omega)]; exact hl) (by rw [g1, qG, if_pos ⟨rfl, rfl⟩, h17, zI_add]; rfl) (by rw [g1, qG, if_neg (by omega)]; exact h18) (by omega) hE') ?_
      intro r ⟨r1, r2⟩
      exact ⟨gN_t (by rw [g1]; exact gN_u (gN_r M) (by omega) _) r1, r2⟩
    · rw [if_neg (by unfold isL; rw [decide_eq_false c]; decide)] at hE'
      rw [if_pos (decide_eq_false (by omega))]
      exact fin M h1 (by rw [h17, hE']) h18
theorem m_162 {T : Nat → Int32} {B : Nat → Nat} {n : Nat} (hT : TX T B n) {E : Nat} : ∀ (d q f v : Nat) (M : Nat → Nat → Int32), q + d = n → d < f → M 1 = T → M 0 16 = zI (n : Nat) → M 0 17 = zI (q : Nat) → scan (fun p => isD (B p)) d q = E → M 0 20 = zI (v : Nat) → v < 1000000 → wp (P_X7_token_162 f M) (fun M' => gN M M' ∧ M' 0 18 = M 0 18 ∧ M' 0 19 = M 0 19 ∧ M' 0 17 = zI (E : Nat) ∧ M' 0 20 = zI (dg B 100000 (E - q) q v : Nat)) := by
  have hT0 := hT
  obtain ⟨hn7, hB⟩ := hT
  intro d
  induction d with
  | zero =>
    intro q f v M hq hf h1 hl h17 hE h20 hv
    obtain ⟨g, rfl⟩ : ∃ g, f = g + 1 := ⟨f - 1, by omega⟩
    have hE' : q = E := hE
    rw [P_X7_token_162, m_here hT0 (by omega) h1 hl h17, Option.bind_some, if_pos (show n ≤ q by omega), m_digit (by omega), Option.bind_some]
    simp only [zL]
    rw [if_pos (by decide)]
    refine wp_some ⟨gN_r M, rfl, rfl, by rw [h17, hE'], ?_⟩
    rw [h20, show E - q = 0 by omega]
    rfl
  | succ d ih =>
    intro q f v M hq hf h1 hl h17 hE h20 hv
    obtain ⟨g, rfl⟩ : ∃ g, f = g + 1 := ⟨f - 1, by omega⟩
    obtain ⟨hb, hb2⟩ := hB q (by omega)
    have hE' : (if isD (B q) = true then scan (fun p => isD (B p)) d (q + 1) else q) = E := hE
    rw [P_X7_token_162, m_here hT0 (by omega) h1 hl h17, Option.bind_some, if_neg (show ¬ n ≤ q by omega), m_digit (by omega), Option.bind_some, Option.bind_some]
    simp only [zL, bI_0]
    by_cases c : 48 ≤ B q ∧ B q ≤ 57
    · rw [if_pos (show isD (B q) = true from decide_eq_true c)] at hE'
      have hge := (scan_b (fun p => isD (B p)) d (q + 1)).1
      rw [hE'] at hge
      have hdg : dg B 100000 (E - q) q v = dg B 100000 (E - (q + 1)) (q + 1) (if v < 100000 then v * 10 + (B q - 48) else v) := by
        rw [show E - q = (E - (q + 1)) + 1 by omega]
        rfl
      have e : (if M 0 20 ≤ zI 99999 then some (zI 10 * M 0 20 + zI (B q : Int) - zI 48) else some (M 0 20)) = some (zI ((if v < 100000 then v * 10 + (B q - 48) else v : Nat) : Int)) := by
        rw [h20]
        by_cases c3 : v < 100000
        · rw [if_pos (by rw [zI_le] <;> omega), if_pos c3, zI_mul, zI_add, zI_sub]
          congr 2
          omega
        · rw [if_neg (by rw [zI_le] <;> omega), if_neg c3]
      rw [if_neg (by rw [decide_eq_true (by omega)]; decide), e, Option.bind_some, hdg]
      refine wp_let fun M1 g1 => wp_let fun M2 g2 => ?_
      refine wp_mono (ih (q + 1) g (if v < 100000 then v * 10 + (B q - 48) else v) M2 (by omega) (by omega) (by rw [g2, u2_ne (by omega), g1, u2_ne (by omega)]; exact h1) (by rw [g2, qG, if_neg (by omega), g1, qG, if_neg (by omega)]; exact hl) (by rw [g2, qG, if_pos ⟨rfl, rfl⟩, g1, qG, if_neg (by omega), h17, zI_add]; rfl) hE' (by rw [g2, qG, if_neg (by omega), g1, qG, if_pos ⟨rfl, rfl⟩]) (by split <;> omega)) ?_
      intro r ⟨r1, r2, r3, r4, r5⟩
      refine ⟨gN_t (by rw [g2, g1]; exact gN_u (gN_u (gN_r M) (by omega) _) (by omega) _) r1, ?_, ?_, r4, r5⟩
      · rw [r2, g2, qG, if_neg (by omega), g1, qG, if_neg (by omega)]
      · rw [r3, g2, qG, if_neg (by omega), g1, qG, if_neg (by omega)]
    · rw [if_neg (by unfold isD; rw [decide_eq_false c]; decide)] at hE'
      rw [if_pos (decide_eq_false (by omega))]
      refine wp_some ⟨gN_r M, rfl, rfl, by rw [h17, hE'], ?_⟩
      rw [h20, show E - q = 0 by omega]
      rfl
theorem m_token {T : Nat → Int32} {B : Nat → Nat} {n A : Nat} (hT : TX T B n) (hA : A ≤ n) : ∀ (d q f : Nat) (M : Nat → Nat → Int32), q + d = n → d < f → M 1 = T → M 0 16 = zI (n : Nat) → M 0 17 = zI (q : Nat) → scan (fun p => isB (B p)) d q = tP B n A → wp (P_X7_token_0 f M) (fun M' => gN M M' ∧ MT B n A M') := by
  have hT0 := hT
  obtain ⟨hn7, hB⟩ := hT
  have hpn : tP B n A ≤ n := by
    have := (scan_b (fun p => isB (B p)) (n - A) A).2.1
    show scan (fun p => isB (B p)) (n - A) A ≤ n
    omega
  -- what is done at the token's first sign
  have fin : ∀ (M : Nat → Nat → Int32), M 1 = T → M 0 16 = zI (n : Nat) → M 0 17 = zI (tP B n A : Nat) → wp (qc_let (qc_u2 M 0 18 (M 0 17)) fun I26 => (P_X7_here I26).bind fun q27 => if q27 = -zI 1 then qc_let (qc_u2 I26 0 19 (zI 4)) fun I39 => some I39 else (P_X7_isSmall q27).bind fun q29 => if q29 = zI 0 then (P_X7_isDigit q27).bind fun q31 => if q31 = zI 0 then (if q27 = zI 59 then some (zI 3) else some (zI 5)).bind fun v34 => qc_let (qc_u2 I26 0 19 v34) fun I35 => qc_let (qc_u2 I35 0 17 (I35 0 17 + zI 1)) fun I36 => some I36 else qc_let (qc_u2 I26 0 19 (zI 2)) fun I37 => qc_let (qc_u2 I37 0 20 (zI 0)) fun I38 => P_X7_token_162 qc_fu I38 else P_X7_token_64 qc_fu I26) (fun M' => gN M M' ∧ MT B n A M') := by
    intro M h1 hl h17
    refine wp_let fun M1 g1 => ?_
    have f1 : gN M M1 := by rw [g1]; exact gN_u (gN_r M) (by omega) _
    have a1 : M1 1 = T := (gN_1 f1).1.trans h1
    have al : M1 0 16 = zI (n : Nat) := (gN_1 f1).2.trans hl
    have a17 : M1 0 17 = zI (tP B n A : Nat) := by rw [g1, qG, if_neg (by omega)]; exact h17
    have a18 : M1 0 18 = zI (tP B n A : Nat) := by rw [g1, qG, if_pos ⟨rfl, rfl⟩]; exact h17
    rw [m_here hT0 hpn a1 al a17, Option.bind_some, zI_neg]
    by_cases c0 : n ≤ tP B n A
    · have hE : tE B n A = tP B n A := if_pos c0
      have hS : tS B n A = 4 := if_pos c0
      rw [if_pos c0, if_pos rfl]
      refine wp_let fun M2 g2 => wp_some ⟨by rw [g2]; exact gN_u f1 (by omega) _, ?_, ?_, ?_, ?_, ?_, ?_⟩
      · rw [g2, qG, if_neg (by omega), a17, hE]
      · rw [g2, qG, if_neg (by omega), a18]
      · rw [g2, qG, if_pos ⟨rfl, rfl⟩, hS]; rfl
      · intro z; omega
      · intro z; omega
      · intro z; omega
    · obtain ⟨hb, hb2⟩ := hB (tP B n A) (by omega)
      rw [if_neg c0, if_neg (by rw [zI_eq] <;> omega), m_small (by omega), Option.bind_some]
      simp only [bI_0]
      by_cases cl : 97 ≤ B (tP B n A) ∧ B (tP B n A) ≤ 122
      · rw [if_neg (by rw [decide_eq_true (by omega)]; decide)]
        have cl' : isL (B (tP B n A)) = true := decide_eq_true cl
        have hE0 : tE B n A = scan (fun p => isL (B p)) (n - tP B n A) (tP B n A) := by
          unfold tE
          rw [if_neg c0, if_pos cl']
        refine wp_mono (m_64 hT0 c0 cl' (n - tP B n A) (tP B n A) qc_fu M1 (by omega) (by unfold qc_fu; omega) a1 al a17 a18 (by omega) hE0.symm) ?_
        intro r ⟨r1, r2⟩
        exact ⟨gN_t f1 r1, r2⟩
      · rw [if_pos (decide_eq_false (by omega)), m_digit (by omega), Option.bind_some]
        simp only [bI_0]
        have cl' : isL (B (tP B n A)) = false := decide_eq_false cl
        by_cases cd : 48 ≤ B (tP B n A) ∧ B (tP B n A) ≤ 57
        · have cd' : isD (B (tP B n A)) = true := decide_eq_true cd
          have hE0 : tE B n A = scan (fun p => isD (B p)) (n - tP B n A) (tP B n A) := by
            unfold tE
            rw [if_neg c0, cl', cd']
            rfl
          have hS0 : tS B n A = 2 := by
            unfold tS
            rw [if_neg c0, cl', cd']
            rfl
          rw [if_neg (by rw [decide_eq_true (by omega)]; decide)]
          refine wp_let fun M2 g2 => wp_let fun M3 g3 => ?_
          have f3 : gN M M3 := by rw [g3, g2]; exact gN_u (gN_u f1 (by omega) _) (by omega) _
          refine wp_mono (m_162 hT0 (E := tE B n A) (n - tP B n A) (tP B n A) qc_fu 0 M3 (by omega) (by unfold qc_fu; omega) ((gN_1 f3).1.trans h1) ((gN_1 f3).2.trans hl) (by rw [g3, qG, if_neg (by omega), g2, qG, if_neg (by omega)]; exact a17) hE0.symm (by rw [g3, qG, if_pos ⟨rfl, rfl⟩]; rfl) (by omega)) ?_
          intro r ⟨r1, r2, r3, r4, r5⟩
          refine ⟨gN_t f3 r1, r4, ?_, ?_, fun z => by omega, fun z => by omega, fun _ => r5⟩
          · rw [r2, g3, qG, if_neg (by omega), g2, qG, if_neg (by omega)]; exact a18
          · rw [r3, g3, qG, if_neg (by omega), g2, qG, if_pos ⟨rfl, rfl⟩, hS0]; rfl
        · have cd' : isD (B (tP B n A)) = false := decide_eq_false cd
          have hE0 : tE B n A = tP B n A + 1 := by
            unfold tE
            rw [if_neg c0, cl', cd']
            rfl
          have hS0 : tS B n A = if B (tP B n A) = 59 then 3 else 5 := by
            unfold tS
            rw [if_neg c0, cl', cd']
            rfl
          have e : (if zI (B (tP B n A) : Int) = zI 59 then some (zI 3) else some (zI 5)) = some (zI (tS B n A : Nat)) := by
            rw [hS0]
            by_cases c : B (tP B n A) = 59
            · rw [if_pos (by rw [zI_eq] <;> omega), if_pos c]; rfl
            · rw [if_neg (by rw [zI_eq] <;> omega), if_neg c]; rfl
          rw [if_pos (decide_eq_false (by omega)), e, Option.bind_some]
          refine wp_let fun M2 g2 => wp_let fun M3 g3 => wp_some ⟨by rw [g3, g2]; exact gN_u (gN_u f1 (by omega) _) (by omega) _, ?_, ?_, ?_, ?_, ?_, ?_⟩
          · rw [g3, qG, if_pos ⟨rfl, rfl⟩, g2, qG, if_neg (by omega), a17, hE0, zI_add]; rfl
          · rw [g3, qG, if_neg (by omega), g2, qG, if_neg (by omega)]; exact a18
          · rw [g3, qG, if_neg (by omega), g2, qG, if_pos ⟨rfl, rfl⟩]
          · intro z; rw [hS0] at z; split at z <;> omega
          · intro z; rw [hS0] at z; split at z <;> omega
          · intro z; rw [hS0] at z; split at z <;> omega
  intro d
  induction d with
  | zero =>
    intro q f M hq hf h1 hl h17 hP
    obtain ⟨g, rfl⟩ : ∃ g, f = g + 1 := ⟨f - 1, by omega⟩
    have hP' : q = tP B n A := hP
    rw [P_X7_token_0, m_here hT0 (by omega) h1 hl h17, Option.bind_some, Option.bind_some, if_pos (show n ≤ q by omega)]
    simp only [zL]
    rw [if_neg (by decide), if_neg (by decide)]
    exact fin M h1 hl (by rw [h17, hP'])
  | succ d ih =>
    intro q f M hq hf h1 hl h17 hP
    obtain ⟨g, rfl⟩ : ∃ g, f = g + 1 := ⟨f - 1, by omega⟩
    obtain ⟨hb, hb2⟩ := hB q (by omega)
    have hP' : (if isB (B q) = true then scan (fun p => isB (B p)) d (q + 1) else q) = tP B n A := hP
    have again : isB (B q) = true → wp (P_X7_token_18 (P_X7_token_0 g) M) (fun M' => gN M M' ∧ MT B n A M') := by
      intro c
      rw [if_pos c] at hP'
      unfold P_X7_token_18
      simp only [zL]
      refine wp_let fun M1 g1 => ?_
      refine wp_mono (ih (q + 1) g M1 (by omega) (by omega) (by rw [g1, u2_ne (by omega)]; exact h1) (by rw [g1, qG, if_neg (by omega)]; exact hl) (by rw [g1, qG, if_pos ⟨rfl, rfl⟩, h17, zI_add]; rfl) hP') ?_
      intro r ⟨r1, r2⟩
      exact ⟨gN_t (by rw [g1]; exact gN_u (gN_r M) (by omega) _) r1, r2⟩
    rw [P_X7_token_0, m_here hT0 (by omega) h1 hl h17, Option.bind_some, Option.bind_some, if_neg (show ¬ n ≤ q by omega)]
    simp only [zL]
    by_cases c1 : B q = 10
    · rw [if_pos (by rw [zI_eq] <;> omega)]
      exact again (decide_eq_true (Or.inl c1))
    rw [if_neg (by rw [zI_eq] <;> omega)]
    by_cases c2 : B q = 32
    · rw [if_pos (by rw [zI_eq] <;> omega)]
      exact again (decide_eq_true (Or.inr c2))
    rw [if_neg (by rw [zI_eq] <;> omega)]
    rw [if_neg (by unfold isB; rw [decide_eq_false (by omega)]; decide)] at hP'
    exact fin M h1 hl (by rw [h17, hP'])
