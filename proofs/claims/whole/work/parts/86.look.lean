/-! ONE LOOK on both sides -/
theorem m_highOf {M : Nat → Nat → Int32} {V : sV} (h : MX M V) {u : Nat} (hu : u < (v_us V).val) : P_X7_highOf M (zI u) = some (zI ((v_hi V u).val : Int)) := by
  obtain ⟨hus, hbd, hgd, hsp, hod, hst, hlo, hhi, hch, hpw, hsl, hls, hlk, hsh, h6, hl1⟩ := h
  obtain ⟨hh, e1, e2⟩ := hhi u hu
  unfold P_X7_highOf
  simp (disch := omega) only [zI_add, zI_sub, zI_mul, zI_neg, zL, zI_le, zI_lt, zI_eq, zI_cl, zA0, zI_if, Int.toNat_natCast, zT_add, zT_mul, Int.reduceToNat, Nat.add_zero, Nat.zero_add, Int.add_zero, Int.zero_add, zc_a, zc_l, Option.bind_some, qc_let, qc_in, qc_bo, iteT, iteF, and_self, if_true, if_false, qG, hbd, e1]
  split
  · rw [e2, if_pos (by omega)]; rfl
  · rw [e2, if_neg (by omega)]; rfl
theorem nf_end {M : Nat → Nat → Int32} {V : sV} (h : MX M V) {u c f : Nat} (hu : u < (v_us V).val) (hc : (v_hi V u).val < c) (hc2 : c ≤ 61) : P_X7_nextFit_33 (f + 1) M (zI u) (zI c) = some (zI 0, M) := by
  have k : zI ((v_hi V u).val : Int) < zI (c : Int) := by rw [zI_lt] <;> omega
  rw [P_X7_nextFit_33, m_highOf h hu, Option.bind_some, if_pos k]
  rfl
theorem nf_full {M : Nat → Nat → Int32} {V : sV} (h : MX M V) {u c f : Nat} (hu : u < (v_us V).val) (hc : c ≤ (v_hi V u).val) (hL : M 0 42 = zI 600) : P_X7_nextFit_33 (f + 1) M (zI u) (zI c) = some (zI (-3), M) := by
  have k : ¬ zI ((v_hi V u).val : Int) < zI (c : Int) := by rw [zI_lt] <;> omega
  rw [P_X7_nextFit_33, m_highOf h hu, Option.bind_some, if_neg k]
  simp only [zI_add, zI_sub, zI_mul, zI_neg, zL]
  rw [hL, if_pos rfl]
theorem nf_look {M : Nat → Nat → Int32} {V : sV} (h : MX M V) {u c L : Nat} (hu : u < (v_us V).val) (hc : c ≤ (v_hi V u).val) (hL : M 0 42 = zI (L : Nat)) (hL2 : L < 600) : ∃ M6, (∀ f, P_X7_nextFit_33 (f + 1) M (zI u) (zI c) = if cleanS (v_setch V u (f61 c)) = true then some (zI c, M6) else P_X7_nextFit_33 f M6 (zI u) (zI ((c + 1 : Nat) : Int))) ∧ MX M6 (v_setch V u (f61 c)) ∧ M6 0 42 = zI ((L + 1 : Nat) : Int) ∧ eK M M6 := by
  have h6 : (v_us V).val ≤ 6 := h.2.2.2.2.2.2.2.2.2.2.2.2.2.2.1
  have hM := MX_ch (MX_l h (zI ((L + 1 : Nat) : Int))) hu (f61 c)
  rw [f61_v (by omega)] at hM
  obtain ⟨r, r1, r2, r3⟩ := m_clean hM
  have hM6 := MX_e (eP_M r3) hM
  refine ⟨r.2, ?_, hM6, ?_, ?_⟩
  · intro f
    have k : ¬ zI ((v_hi V u).val : Int) < zI (c : Int) := by rw [zI_lt] <;> omega
    have k2 : ¬ zI (L : Int) = zI 600 := by rw [zI_eq] <;> omega
    have i0 : qc_in (zI (u : Int)) 79 := by simp (disch := omega) only [zI_add, zI_sub, zI_mul, zI_neg, zL, zI_le, zI_lt, zI_eq, zI_cl, zA0, zI_if, Int.toNat_natCast, zT_add, zT_mul, Int.reduceToNat, Nat.add_zero, Nat.zero_add, Int.add_zero, Int.zero_add, zc_a, zc_l, Option.bind_some, qc_let, qc_in, qc_bo, iteT, iteF, and_self, if_true, if_false, qG]; omega
    have r0 : (zI (u : Int)).toNatClampNeg = u := by rw [zI_cl (by omega) (by omega)]; omega
    rw [P_X7_nextFit_33, m_highOf h hu, Option.bind_some, if_neg k]
    simp only [zI_add, zI_sub, zI_mul, zI_neg, zL, hL, if_neg k2, qc_let, Int.zero_add, if_pos i0, r0]
    have e : zI ((L : Int) + 1) = zI ((L + 1 : Nat) : Int) := rfl
    rw [e, r1]
    simp only [Option.bind_some]
    rw [r2]
    simp only [bI_0]
    cases cleanS (v_setch V u (f61 c))
    · rw [if_pos (show false = false from rfl), if_neg (show ¬ false = true by decide)]
      rfl
    · rw [if_neg (show ¬ true = false by decide), if_pos (show true = true from rfl)]
  · rw [r3.2 42 (by omega), u2_ne (by omega), qG, if_pos ⟨rfl, rfl⟩]
  · exact eK_t (eK_t (eK_l M _) (eK_s _ (by omega) _)) (eK_P r3)
theorem nf_fuel {u : Nat} : ∀ (d c f f' L : Nat) (V : sV) (M : Nat → Nat → Int32), (c + d = (v_hi V u).val + 1 ∨ (d = 0 ∧ (v_hi V u).val < c)) → c ≤ 61 → d < f → d < f' → u < (v_us V).val → MX M V → M 0 42 = zI (L : Nat) → L ≤ 600 → P_X7_nextFit_33 f M (zI u) (zI c) = P_X7_nextFit_33 f' M (zI u) (zI c) := by
  intro d
  induction d with
  | zero =>
    intro c f f' L V M hc hc2 hf hf' hu hM hL hL2
    obtain ⟨g, rfl⟩ : ∃ g, f = g + 1 := ⟨f - 1, by omega⟩
    obtain ⟨g', rfl⟩ : ∃ g, f' = g + 1 := ⟨f' - 1, by omega⟩
    rw [nf_end hM hu (by omega) hc2, nf_end hM hu (by omega) hc2]
  | succ d ih =>
    intro c f f' L V M hc hc2 hf hf' hu hM hL hL2
    obtain ⟨g, rfl⟩ : ∃ g, f = g + 1 := ⟨f - 1, by omega⟩
    obtain ⟨g', rfl⟩ : ∃ g, f' = g + 1 := ⟨f' - 1, by omega⟩
    by_cases c6 : L = 600
    · subst c6
      rw [nf_full hM hu (by omega) hL, nf_full hM hu (by omega) hL]
    · obtain ⟨M6, e1, e2, e3, e4⟩ := nf_look hM hu (c := c) (by omega) hL (by omega)
      rw [e1 g, e1 g']
      split
      · rfl
      · exact ih (c + 1) g g' (L + 1) (v_setch V u (f61 c)) M6 (by
          show (c + 1 + d = (v_hi V u).val + 1 ∨ _)
          omega) (by omega) (by omega) (by omega) hu e2 e3 (by omega)
def fromS (V : sV) (u : Nat) : Nat := if (v_ch V u).val = 0 then (v_lo V u).val else (v_ch V u).val + 1
theorem nf_start {M : Nat → Nat → Int32} {V : sV} (h : MX M V) {u : Nat} (hu : u < (v_us V).val) : P_X7_nextFit M (zI u) = P_X7_nextFit_33 qc_fu M (zI u) (zI (fromS V u : Nat)) := by
  have h6 : (v_us V).val ≤ 6 := h.2.2.2.2.2.2.2.2.2.2.2.2.2.2.1
  have hch := h.2.2.2.2.2.2.2.2.1 u hu
  have hlo := h.2.2.2.2.2.2.1 u hu
  have i0 : qc_in (zI (u : Int)) 79 := by simp (disch := omega) only [zI_add, zI_sub, zI_mul, zI_neg, zL, zI_le, zI_lt, zI_eq, zI_cl, zA0, zI_if, Int.toNat_natCast, zT_add, zT_mul, Int.reduceToNat, Nat.add_zero, Nat.zero_add, Int.add_zero, Int.zero_add, zc_a, zc_l, Option.bind_some, qc_let, qc_in, qc_bo, iteT, iteF, and_self, if_true, if_false, qG]; omega
  have i12 : qc_in (zI (u : Int)) 12 := by simp (disch := omega) only [zI_add, zI_sub, zI_mul, zI_neg, zL, zI_le, zI_lt, zI_eq, zI_cl, zA0, zI_if, Int.toNat_natCast, zT_add, zT_mul, Int.reduceToNat, Nat.add_zero, Nat.zero_add, Int.add_zero, Int.zero_add, zc_a, zc_l, Option.bind_some, qc_let, qc_in, qc_bo, iteT, iteF, and_self, if_true, if_false, qG]; omega
  have r0 : (zI (u : Int)).toNatClampNeg = u := by rw [zI_cl (by omega) (by omega)]; omega
  unfold P_X7_nextFit fromS
  simp only [zI_add, zI_sub, zI_mul, zI_neg, zL, Int.zero_add, if_pos i0, if_pos i12, r0, hch, hlo]
  by_cases c : (v_ch V u).val = 0
  · rw [if_pos (by rw [c]; rfl), if_pos c]
    rfl
  · rw [if_neg (by rw [zI_eq] <;> omega), if_neg c]
    rfl
/-- the reference's step: nothing more for one -/
theorem ms_end {M : Nat → Nat → Int32} {V : sV} (h : MX M V) {u F : Nat} {s : Int32} (hu : u < (v_us V).val) (hc : (v_hi V u).val < fromS V u) {x : Int32} (hx : P_X7_aheadOf s (zI u) = some x) : P_X7_searches_64 (F + 1) M s (zI u) = P_X7_searches_64 F (qc_u2 M 13 u (zI 0)) s x := by
  have h6 : (v_us V).val ≤ 6 := h.2.2.2.2.2.2.2.2.2.2.2.2.2.2.1
  have i0 : qc_in (zI (u : Int)) 79 := by simp (disch := omega) only [zI_add, zI_sub, zI_mul, zI_neg, zL, zI_le, zI_lt, zI_eq, zI_cl, zA0, zI_if, Int.toNat_natCast, zT_add, zT_mul, Int.reduceToNat, Nat.add_zero, Nat.zero_add, Int.add_zero, Int.zero_add, zc_a, zc_l, Option.bind_some, qc_let, qc_in, qc_bo, iteT, iteF, and_self, if_true, if_false, qG]; omega
  have r0 : (zI (u : Int)).toNatClampNeg = u := by rw [zI_cl (by omega) (by omega)]; omega
  have n1 : ¬ zI (u : Int) = zI (-1) := by rw [zI_eq] <;> omega
  have n2 : ¬ zI 6 ≤ zI (u : Int) := by rw [zI_le] <;> omega
  obtain ⟨g, hg⟩ : ∃ g, qc_fu = g + 1 := ⟨99999, rfl⟩
  have hb : fromS V u ≤ 61 := by unfold fromS; split <;> omega
  have e := nf_start h hu
  rw [hg, nf_end h hu hc hb] at e
  have z3 : ¬ zI 0 = zI (-3) := by decide
  rw [P_X7_searches_64]
  simp only [zI_add, zI_sub, zI_mul, zI_neg, zL, if_neg n1, if_neg n2, e, Option.bind_some, if_neg z3, Int.zero_add, if_pos i0, r0, qc_let, if_true, hx]
/-- the looks are used up -/
theorem ms_full {M : Nat → Nat → Int32} {V : sV} (h : MX M V) {u F : Nat} {s : Int32} (hu : u < (v_us V).val) (hc : fromS V u ≤ (v_hi V u).val) (hL : M 0 42 = zI 600) : P_X7_searches_64 (F + 1) M s (zI u) = (P_X7_clears M s).bind fun q => some (zI (-3), q) := by
  have h6 : (v_us V).val ≤ 6 := h.2.2.2.2.2.2.2.2.2.2.2.2.2.2.1
  have n1 : ¬ zI (u : Int) = zI (-1) := by rw [zI_eq] <;> omega
  have n2 : ¬ zI 6 ≤ zI (u : Int) := by rw [zI_le] <;> omega
  obtain ⟨g, hg⟩ : ∃ g, qc_fu = g + 1 := ⟨99999, rfl⟩
  have e := nf_start h hu
  rw [hg, nf_full h hu hc hL] at e
  rw [P_X7_searches_64]
  simp only [zI_add, zI_sub, zI_mul, zI_neg, zL, if_neg n1, if_neg n2, e, Option.bind_some, if_true]
/-- a look -/
theorem ms_look {M : Nat → Nat → Int32} {V : sV} (h : MX M V) {u L : Nat} {s : Int32} (hu : u < (v_us V).val) (hc : fromS V u ≤ (v_hi V u).val) (hL : M 0 42 = zI (L : Nat)) (hL2 : L < 600) {x : Int32} (hx : P_X7_nextOf s (zI u) = some x) (hl1 : 1 ≤ fromS V u) : ∃ M6, (∀ F, P_X7_searches_64 (F + 1) M s (zI u) = if cleanS (v_setch V u (f61 (fromS V u))) = true then P_X7_searches_64 F M6 s x else P_X7_searches_64 (F + 1) M6 s (zI u)) ∧ MX M6 (v_setch V u (f61 (fromS V u))) ∧ M6 0 42 = zI ((L + 1 : Nat) : Int) ∧ eK M M6 := by
  have h6 : (v_us V).val ≤ 6 := h.2.2.2.2.2.2.2.2.2.2.2.2.2.2.1
  have i0 : qc_in (zI (u : Int)) 79 := by simp (disch := omega) only [zI_add, zI_sub, zI_mul, zI_neg, zL, zI_le, zI_lt, zI_eq, zI_cl, zA0, zI_if, Int.toNat_natCast, zT_add, zT_mul, Int.reduceToNat, Nat.add_zero, Nat.zero_add, Int.add_zero, Int.zero_add, zc_a, zc_l, Option.bind_some, qc_let, qc_in, qc_bo, iteT, iteF, and_self, if_true, if_false, qG]; omega
  have r0 : (zI (u : Int)).toNatClampNeg = u := by rw [zI_cl (by omega) (by omega)]; omega
  have n1 : ¬ zI (u : Int) = zI (-1) := by rw [zI_eq] <;> omega
  have n2 : ¬ zI 6 ≤ zI (u : Int) := by rw [zI_le] <;> omega
  obtain ⟨g, hg⟩ : ∃ g, qc_fu = g + 1 := ⟨99999, rfl⟩
  obtain ⟨M6, e1, e2, e3, e4⟩ := nf_look h hu (c := fromS V u) hc hL hL2
  have e := nf_start h hu
  rw [hg, e1 g] at e
  have hgl : 62 < g := by
    have : qc_fu = 100000 := rfl
    omega
  -- what it has is laid already
  have same : qc_u2 M6 13 u (zI (fromS V u : Nat)) = M6 := by
    funext t j
    rw [qG]
    by_cases ct : t = 13 ∧ j = u
    · rw [if_pos ct, ct.1, ct.2]
      have := e2.2.2.2.2.2.2.2.2.1 u hu
      rw [this]
      show _ = zI (((if u = u then f61 (fromS V u) else v_ch V u) : Fin 61).val : Int)
      rw [if_pos rfl, f61_v (by omega)]
    · rw [if_neg ct]
  refine ⟨M6, ?_, e2, e3, e4⟩
  intro F
  cases ec : cleanS (v_setch V u (f61 (fromS V u)))
  · rw [if_neg (show ¬ false = true by decide)]
    rw [ec, if_neg (show ¬ false = true by decide)] at e
    have s1 := nf_start e2 (u := u) hu
    have ef : fromS (v_setch V u (f61 (fromS V u))) u = fromS V u + 1 := by
      have hv : (v_ch (v_setch V u (f61 (fromS V u))) u).val = fromS V u := by
        show (((if u = u then f61 (fromS V u) else v_ch V u) : Fin 61).val) = _
        rw [if_pos rfl, f61_v (by omega)]
      show (if (v_ch (v_setch V u (f61 (fromS V u))) u).val = 0 then _ else (v_ch (v_setch V u (f61 (fromS V u))) u).val + 1) = _
      rw [hv, if_neg (by omega)]
    rw [ef] at s1
    have s2 := nf_fuel (u := u) ((v_hi V u).val + 1 - (fromS V u + 1)) (fromS V u + 1) g qc_fu (L + 1) (v_setch V u (f61 (fromS V u))) M6 (by
      show (fromS V u + 1 + _ = (v_hi V u).val + 1 ∨ _)
      omega) (by omega) (by omega) (by omega) hu e2 e3 (by omega)
    have s3 : P_X7_nextFit M (zI u) = P_X7_nextFit M6 (zI u) := by rw [e, s2, s1]
    rw [P_X7_searches_64, P_X7_searches_64]
    simp only [zI_add, zI_sub, zI_mul, zI_neg, zL, if_neg n1, if_neg n2, s3]
  · rw [if_pos (show true = true from rfl)]
    rw [ec, if_pos (show true = true from rfl)] at e
    have z3 : ¬ zI (fromS V u : Int) = zI (-3) := by rw [zI_eq] <;> omega
    have z0 : ¬ zI (fromS V u : Int) = zI 0 := by rw [zI_eq] <;> omega
    rw [P_X7_searches_64]
    simp only [zI_add, zI_sub, zI_mul, zI_neg, zL, if_neg n1, if_neg n2, e, Option.bind_some, if_neg z3, Int.zero_add, if_pos i0, r0, qc_let, if_neg z0, hx, same]
