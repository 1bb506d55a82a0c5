/-! grown -/
theorem x_row57 {J : Nat → Nat → Int64} : ∀ (d k f : Nat) (I : Nat → Nat → Int32), k + d = 8 → d < f → wp (P_X4_beginRow_57 12 f I J (zI k)) (fun r => r.2 = J ∧ (∀ t, t < 16 ∨ 21 < t → r.1 t = I t) ∧ (∀ t u, u < k → r.1 t u = I t u) ∧ (∀ u, k ≤ u → u < 8 → r.1 16 u = zI 0 ∧ r.1 17 u = zI 1 ∧ r.1 18 u = zI 60 ∧ r.1 19 u = zI 0 ∧ r.1 20 u = zI 0 ∧ r.1 21 u = zI 255)) := by
  intro d
  induction d with
  | zero =>
    intro k f I hk hf
    obtain ⟨g, rfl⟩ : ∃ g, f = g + 1 := ⟨f - 1, by omega⟩
    simp (disch := omega) only [P_X4_beginRow_57, zI_add, zI_sub, zI_mul, zI_neg, zL, zI_le, zI_lt, zI_eq, zI_cl, zA0, zI_if, Int.toNat_natCast, zT_add, zT_mul, Int.reduceToNat, Nat.add_zero, Nat.zero_add, Int.add_zero, Int.zero_add, zc_a, zc_l, Option.bind_some, qc_let, qc_in, qc_bo, ↓reduceIte, zYT, zYF, zYt, zYf, zYe, zYn, nYT, nYF, nYt, nYf, nYe, nYn, or_false, false_or, or_true, true_or, not_false_eq_true, not_true_eq_false, and_self, and_true, true_and, and_false, false_and, qG, if_true, if_false]
    exact wp_some ⟨rfl, fun _ _ => rfl, fun _ _ _ => rfl, fun u h1 h2 => by omega⟩
  | succ d ih =>
    intro k f I hk hf
    obtain ⟨g, rfl⟩ : ∃ g, f = g + 1 := ⟨f - 1, by omega⟩
    have ik : qc_in (zI (k : Int)) 8 := by simp (disch := omega) only [zI_add, zI_sub, zI_mul, zI_neg, zL, zI_le, zI_lt, zI_eq, zI_cl, zA0, zI_if, Int.toNat_natCast, zT_add, zT_mul, Int.reduceToNat, Nat.add_zero, Nat.zero_add, Int.add_zero, Int.zero_add, zc_a, zc_l, Option.bind_some, qc_let, qc_in, qc_bo, iteT, iteF, and_self, if_true, if_false, qG]; omega
    have rk : (zI (k : Int)).toNatClampNeg = k := by rw [zI_cl (by omega) (by omega)]; omega
    rw [P_X4_beginRow_57]
    simp only [zL, if_pos ik, rk]
    rw [if_neg (by rw [zI_le] <;> omega)]
    refine wp_let fun I1 h1 => wp_let fun I2 h2 => wp_let fun I3 h3 => wp_let fun I4 h4 => wp_let fun I5 h5 => wp_let fun I6 h6 => wp_let fun x hx => ?_
    have hx' : x = zI ((k + 1 : Nat) : Int) := by
      rw [hx, zI_add]
      rfl
    rw [hx']
    refine wp_mono (ih (k + 1) g I6 (by omega) (by omega)) ?_
    intro r ⟨r1, r2, r3, r4⟩
    have b : ∀ t u, I6 t u = if t = 21 ∧ u = k then zI 255 else if t = 20 ∧ u = k then zI 0 else if t = 19 ∧ u = k then zI 0 else if t = 18 ∧ u = k then zI 60 else if t = 17 ∧ u = k then zI 1 else if t = 16 ∧ u = k then zI 0 else I t u := by
      intro t u
      rw [h6, qG, h5, qG, h4, qG, h3, qG, h2, qG, h1, qG]
    refine ⟨r1, ?_, ?_, ?_⟩
    · intro t ht
      rw [r2 t ht]
      funext u
      rw [b, if_neg (by omega), if_neg (by omega), if_neg (by omega), if_neg (by omega), if_neg (by omega), if_neg (by omega)]
    · intro t u hu
      rw [r3 t u (by omega), b, if_neg (by omega), if_neg (by omega), if_neg (by omega), if_neg (by omega), if_neg (by omega), if_neg (by omega)]
    · intro u hu1 hu2
      by_cases c : u = k
      · subst c
        rw [r3 16 u (by omega), r3 17 u (by omega), r3 18 u (by omega), r3 19 u (by omega), r3 20 u (by omega), r3 21 u (by omega), b, b, b, b, b, b]
        simp (disch := omega) only [iteT, iteF, and_self, if_true]
      · exact r4 u (by omega) hu2
theorem x_row34 {J : Nat → Nat → Int64} : ∀ (d k f : Nat) (I : Nat → Nat → Int32), k + d = 3 → d < f → ∃ I', P_X4_beginRow_34 12 f I J (zI k) = P_X4_beginRow_57 12 qc_fu I' J (zI 0) ∧ (∀ t, t ≠ 13 → I' t = I t) ∧ (∀ u, u < k → I' 13 u = I 13 u) ∧ ∀ u, k ≤ u → u < 3 → I' 13 u = zI 0 := by
  intro d
  induction d with
  | zero =>
    intro k f I hk hf
    obtain ⟨g, rfl⟩ : ∃ g, f = g + 1 := ⟨f - 1, by omega⟩
    refine ⟨I, ?_, fun _ _ => rfl, fun _ _ => rfl, fun u h1 h2 => by omega⟩
    rw [P_X4_beginRow_34]
    simp only [zL]
    rw [if_pos (by rw [zI_le] <;> omega)]
  | succ d ih =>
    intro k f I hk hf
    obtain ⟨g, rfl⟩ : ∃ g, f = g + 1 := ⟨f - 1, by omega⟩
    have ik : qc_in (zI (k : Int)) 3 := by simp (disch := omega) only [zI_add, zI_sub, zI_mul, zI_neg, zL, zI_le, zI_lt, zI_eq, zI_cl, zA0, zI_if, Int.toNat_natCast, zT_add, zT_mul, Int.reduceToNat, Nat.add_zero, Nat.zero_add, Int.add_zero, Int.zero_add, zc_a, zc_l, Option.bind_some, qc_let, qc_in, qc_bo, iteT, iteF, and_self, if_true, if_false, qG]; omega
    have rk : (zI (k : Int)).toNatClampNeg = k := by rw [zI_cl (by omega) (by omega)]; omega
    obtain ⟨I', e1, e2, e3, e4⟩ := ih (k + 1) g (qc_u2 I 13 k (zI 0)) (by omega) (by omega)
    refine ⟨I', ?_, ?_, ?_, ?_⟩
    · rw [← e1, P_X4_beginRow_34]
      simp only [zL, if_pos ik, rk]
      rw [if_neg (by rw [zI_le] <;> omega)]
      simp only [qc_let, zI_add, zI_sub, zI_mul, zI_neg, zL, zc_a, zc_l]
    · intro t ht
      rw [e2 t ht, u2_ne ht]
    · intro u hu
      rw [e3 u (by omega), qG, if_neg (by omega)]
    · intro u h1 h2
      by_cases c : u = k
      · rw [e3 u (by omega), qG, if_pos ⟨rfl, c⟩]
      · exact e4 u (by omega) h2
/-- the first scene of a ROW -/
def rV (us : Fin 9) (gd : Fin 6) (sp : Fin 21) (od : Fin 8) (lk : Nat → Fin 101) (g : Nat → Fin 61) : sV := ((us, 60, gd, sp, od), ((fun _ => 0), (fun _ => 1), (fun _ => 60), g, (fun _ => 0), (fun _ => 255)), (fun _ => 0), lk, fun _ => false)
theorem rV_RW (us : Fin 9) (gd : Fin 6) (sp : Fin 21) (od : Fin 8) (lk : Nat → Fin 101) (g : Nat → Fin 61) : RW (rV us gd sp od lk g) := ⟨rfl, fun _ => rfl, fun _ => rfl, fun _ => rfl, fun _ => rfl, fun _ => rfl, fun _ => rfl, fun _ => rfl⟩
theorem x_begin {I : Nat → Nat → Int32} {J : Nat → Nat → Int64} (hL : LT (I 14)) (gd : Fin 6) (sp : Fin 21) (od : Fin 8) : ∃ lk, wp (P_X4_beginRow I J 12 (zI od.val) (zI gd.val) (zI sp.val)) (fun r => SX r.1 r.2 12 (rV 0 gd sp od lk (fun _ => 0)) ∧ eX I r.1 ∧ eJ J r.2) := by
  obtain ⟨lk, hlk⟩ : ∃ lk : Nat → Fin 101, ∀ k, k < 9 → I 14 k = zI (lkX k (lk k)) := by
    have hL' : ∀ k, ∃ v : Fin 101, k < 9 → I 14 k = zI (lkX k v) := by
      intro k
      by_cases hk : k < 9
      · obtain ⟨v, hv⟩ := hL k hk
        exact ⟨v, fun _ => hv⟩
      · exact ⟨0, fun z => absurd z hk⟩
    exact ⟨fun k => Classical.choose (hL' k), fun k hk => Classical.choose_spec (hL' k) hk⟩
  refine ⟨lk, ?_⟩
  unfold P_X4_beginRow
  simp only [zL]
  refine wp_let fun I1 h1 => wp_let fun I2 h2 => wp_let fun I3 h3 => wp_let fun I4 h4 => wp_let fun I5 h5 => wp_let fun J6 h6 => ?_
  obtain ⟨I', e1, e2, e3, e4⟩ := x_row34 (J := J6) 3 0 qc_fu I5 (by omega) (by unfold qc_fu; omega)
  have e1' : P_X4_beginRow_34 12 qc_fu I5 J6 (zI 0) = _ := e1
  rw [e1']
  refine wp_mono (x_row57 8 0 qc_fu I' (by omega) (by unfold qc_fu; omega)) ?_
  intro r ⟨r1, r2, r3, r4⟩
  have b : ∀ t u, I5 t u = if t = 12 ∧ u = 4 then zI od.val else if t = 12 ∧ u = 3 then zI sp.val else if t = 12 ∧ u = 2 then zI gd.val else if t = 12 ∧ u = 1 then zI 60 else if t = 12 ∧ u = 0 then zI 0 else I t u := by
    intro t u
    rw [h5, qG, h4, qG, h3, qG, h2, qG, h1, qG]
  have bn : ∀ t, t ≠ 12 → I5 t = I t := by
    intro t ht
    funext u
    rw [b, if_neg (by omega), if_neg (by omega), if_neg (by omega), if_neg (by omega), if_neg (by omega)]
  refine ⟨⟨?_, ?_, ?_, ?_, ?_, ?_, ?_, ?_, ?_, ?_, ?_, ?_, ?_, ?_⟩, ?_, ?_⟩
  · rw [r2 12 (by omega), e2 12 (by omega), b, if_neg (by omega), if_neg (by omega), if_neg (by omega), if_neg (by omega), if_pos ⟨rfl, rfl⟩]; rfl
  · rw [r2 12 (by omega), e2 12 (by omega), b, if_neg (by omega), if_neg (by omega), if_neg (by omega), if_pos ⟨rfl, rfl⟩]; rfl
  · rw [r2 12 (by omega), e2 12 (by omega), b, if_neg (by omega), if_neg (by omega), if_pos ⟨rfl, rfl⟩]; rfl
  · rw [r2 12 (by omega), e2 12 (by omega), b, if_neg (by omega), if_pos ⟨rfl, rfl⟩]; rfl
  · rw [r2 12 (by omega), e2 12 (by omega), b, if_pos ⟨rfl, rfl⟩]; rfl
  · intro u hu; exact (r4 u (by omega) hu).1
  · intro u hu; exact (r4 u (by omega) hu).2.1
  · intro u hu; exact (r4 u (by omega) hu).2.2.1
  · intro u hu; exact (r4 u (by omega) hu).2.2.2.1
  · intro u hu; exact (r4 u (by omega) hu).2.2.2.2.1
  · intro u hu; exact (r4 u (by omega) hu).2.2.2.2.2
  · intro u hu
    rw [r2 (12 + 1 + 0) (by omega)]
    exact e4 u (by omega) hu
  · intro k hk
    rw [r2 (12 + 1 + 1) (by omega), e2 (12 + 1 + 1) (by omega), bn (12 + 1 + 1) (by omega)]
    exact hlk k hk
  · intro c hc
    rw [r1, h6, qG, if_pos ⟨rfl, rfl⟩]
    exact bj_0 c
  · refine eX_m ?_
    intro t ht
    rw [r2 t (by omega), e2 t (by omega), bn t (by omega)]
  · intro t ht
    rw [r1, h6]
    unfold qc_u2 qc_u
    rw [if_neg (by omega)]
/-- one user more -/
def v_setus (V : sV) (n : Fin 9) : sV := ((n, v_bd V, v_gd V, v_sp V, v_od V), V.2)
theorem SX_setus {I : Nat → Nat → Int32} {J : Nat → Nat → Int64} {V : sV} (h : SX I J 12 V) (n : Fin 9) : SX (qc_u2 I 12 0 (zI n.val)) J 12 (v_setus V n) := by
  obtain ⟨hus, hbd, hgd, hsp, hod, hst, hlo, hhi, hch, hpw, hsl, hls, hlk, hsh⟩ := h
  refine ⟨?_, ?_, ?_, ?_, ?_, ?_, ?_, ?_, ?_, ?_, ?_, ?_, ?_, hsh⟩
  · rw [qG, if_pos ⟨rfl, rfl⟩]; rfl
  · rw [qG, if_neg (by omega)]; exact hbd
  · rw [qG, if_neg (by omega)]; exact hgd
  · rw [qG, if_neg (by omega)]; exact hsp
  · rw [qG, if_neg (by omega)]; exact hod
  · rw [u2_ne (by omega)]; exact hst
  · rw [u2_ne (by omega)]; exact hlo
  · rw [u2_ne (by omega)]; exact hhi
  · rw [u2_ne (by omega)]; exact hch
  · rw [u2_ne (by omega)]; exact hpw
  · rw [u2_ne (by omega)]; exact hsl
  · rw [u2_ne (by omega)]; exact hls
  · rw [u2_ne (by omega)]; exact hlk
theorem RW_ch {V : sV} (h : RW V) (u : Nat) (c : Fin 61) : RW (v_setch V u c) := h
theorem RW_us {V : sV} (h : RW V) (n : Fin 9) : RW (v_setus V n) := h
theorem ch_at (V : sV) (u : Nat) (c : Fin 61) (i : Nat) : v_ch (v_setch V u c) i = if i = u then c else v_ch V i := rfl
theorem row_one {V : sV} (h : RW V) (h1 : (v_us V).val = 1) (h2 : 1 ≤ (v_ch V 0).val) : cleanS V = true := by
  rw [row_clean h (fun i hi => by
    have : i = 0 := by omega
    subst this
    exact h2), h1]
  have e : sm (badA V) 1 0 = badA V 0 + 0 := rfl
  have e2 : badA V 0 = 0 := by
    unfold badA
    rw [h1]
    show bad2 V 0 0 + 0 = 0
    unfold bad2
    rw [if_pos rfl]
  rw [e, e2]
  rfl
/-- the next of a ROW, on both sides -/
theorem grow_in {K : (Nat → Nat → Int32) → Int32 → Int32 → Int32 → Int32 → Int32 → Option (Int32 × (Nat → Nat → Int32))} {x4 : Int32} {n : Nat} (hn : n < 8) : ∀ (d c f F : Nat) (I : Nat → Nat → Int32) (J : Nat → Nat → Int64) (M : Nat → Nat → Int32) (V : sV), c + d = 61 → 1 ≤ c → d < f → d < F → SX I J 12 V → RW V → (v_us V).val = n + 1 → (∀ i, i < n → 1 ≤ (v_ch V i).val) → (∀ i, i < n → M 23 i = zI (v_ch V i).val) → M 23 n = zI c →
    (∃ I' J' M', P_X6_growTrial_14 f I J (zI n) (zI c) = some (zI (-2), I', J') ∧ P_X7_grown_87 K F M (zI (v_od V).val) (zI (v_gd V).val) (zI (v_sp V).val) x4 (zI n) = some (zI (-2), M') ∧ eX I I' ∧ eJ J J' ∧ (∀ t, t ≠ 23 → M' t = M t)) ∨
    (∃ c' I' J' M', c ≤ c' ∧ c' ≤ 60 ∧ P_X6_growTrial_14 f I J (zI n) (zI c) = some (zI (c' : Nat), I', J') ∧ P_X7_grown_87 K F M (zI (v_od V).val) (zI (v_gd V).val) (zI (v_sp V).val) x4 (zI n) = K M' (zI (v_od V).val) (zI (v_gd V).val) (zI (v_sp V).val) x4 (zI ((n + 1 : Nat) : Int)) ∧ SX I' J' 12 (v_setch V n (f61 c')) ∧ M' 23 n = zI (c' : Nat) ∧ (∀ j, j ≠ n → M' 23 j = M 23 j) ∧ (∀ t, t ≠ 23 → M' t = M t) ∧ eX I I' ∧ eJ J J') := by
  intro d
  have inn : qc_in (zI (n : Int)) 8 := by simp (disch := omega) only [zI_add, zI_sub, zI_mul, zI_neg, zL, zI_le, zI_lt, zI_eq, zI_cl, zA0, zI_if, Int.toNat_natCast, zT_add, zT_mul, Int.reduceToNat, Nat.add_zero, Nat.zero_add, Int.add_zero, Int.zero_add, zc_a, zc_l, Option.bind_some, qc_let, qc_in, qc_bo, iteT, iteF, and_self, if_true, if_false, qG]; omega
  have rn : (zI (n : Int)).toNatClampNeg = n := by rw [zI_cl (by omega) (by omega)]; omega
  induction d with
  | zero =>
    intro c f F I J M V hc hc1 hf hF hS hRW hus hp hR hRn
    obtain ⟨g, rfl⟩ : ∃ g, f = g + 1 := ⟨f - 1, by omega⟩
    obtain ⟨G, rfl⟩ : ∃ G, F = G + 1 := ⟨F - 1, by omega⟩
    have hc61 : c = 61 := by omega
    subst hc61
    refine Or.inl ⟨I, J, M, ?_, ?_, eX_r I, eJ_r J, fun _ _ => rfl⟩
    · rw [P_X6_growTrial_14]
      simp only [zL]
      rw [if_pos (by rw [zI_lt] <;> omega), zI_neg]
    · rw [P_X7_grown_87]
      simp only [if_pos inn, rn]
      rw [hRn]
      simp only [zL]
      rw [if_pos (by rw [zI_lt] <;> omega)]
      unfold P_X7_grown_127
      simp only [if_pos inn, rn]
      rw [hRn]
      simp only [zL]
      rw [if_neg (by rw [zI_le] <;> omega), zI_neg]
  | succ d ih =>
    intro c f F I J M V hc hc1 hf hF hS hRW hus hp hR hRn
    obtain ⟨g, rfl⟩ : ∃ g, f = g + 1 := ⟨f - 1, by omega⟩
    obtain ⟨G, rfl⟩ : ∃ G, F = G + 1 := ⟨F - 1, by omega⟩
    have hWn : (f61 c).val = c := f61_v (by omega)
    have hp2 : ∀ i, i < (v_us (v_setch V n (f61 c))).val → 1 ≤ (v_ch (v_setch V n (f61 c)) i).val := by
      intro i hi
      have hi' : i < (v_us V).val := hi
      rw [ch_at]
      by_cases e : i = n
      · rw [if_pos e, hWn]; exact hc1
      · rw [if_neg e]; exact hp i (by omega)
    have hR2 : ∀ i, i < (v_us (v_setch V n (f61 c))).val → M 23 i = zI (v_ch (v_setch V n (f61 c)) i).val := by
      intro i hi
      have hi' : i < (v_us V).val := hi
      rw [ch_at]
      by_cases e : i = n
      · rw [if_pos e, hWn, e]; exact hRn
      · rw [if_neg e]; exact hR i (by omega)
    have hus2 : (v_us (v_setch V n (f61 c))).val = n + 1 := hus
    have em := m_rowClean (M := M) (RW_ch hRW n (f61 c)) (by omega) hp2 hR2
    rw [← row_clean (RW_ch hRW n (f61 c)) hp2, hus2] at em
    have em' : P_X7_isRowClean M (zI (n : Int) + zI 1) (zI (v_od V).val) (zI (v_gd V).val) (zI (v_sp V).val) = some (bI (cleanS (v_setch V n (f61 c)))) := by
      rw [zI_add]
      exact em
    obtain ⟨r, r1, r2, r3, r4, r5⟩ := x_fits hS (u := n) (c := c) (by omega) (by omega)
    have n60 : ¬ zI 60 < zI (c : Int) := by rw [zI_lt] <;> omega
    cases ec : cleanS (v_setch V n (f61 c))
    · rw [ec] at r2 em'
      have nx := ih (c + 1) g G r.2.1 r.2.2 (qc_u2 M 23 n (zI ((c + 1 : Nat) : Int))) (v_setch V n (f61 c)) (by omega) (by omega) (by omega) (by omega) r3 (RW_ch hRW n (f61 c)) hus2 (fun i hi => hp2 i (by omega)) (fun i hi => by
        rw [qG, if_neg (by omega)]
        exact hR2 i (by omega)) (by rw [qG, if_pos ⟨rfl, rfl⟩])
      have k1 : P_X6_growTrial_14 (g + 1) I J (zI (n : Int)) (zI (c : Int)) = P_X6_growTrial_14 g r.2.1 r.2.2 (zI (n : Int)) (zI ((c + 1 : Nat) : Int)) := by
        rw [P_X6_growTrial_14]
        simp only [zL]
        rw [if_neg n60, r1, Option.bind_some, r2, if_pos (show bI false = zI 0 from rfl)]
        simp only [qc_let, zI_add, zc_a, zc_l]
      have k2 : P_X7_grown_87 K (G + 1) M (zI (v_od V).val) (zI (v_gd V).val) (zI (v_sp V).val) x4 (zI (n : Int)) = P_X7_grown_87 K G (qc_u2 M 23 n (zI ((c + 1 : Nat) : Int))) (zI (v_od V).val) (zI (v_gd V).val) (zI (v_sp V).val) x4 (zI (n : Int)) := by
        rw [P_X7_grown_87]
        simp only [if_pos inn, rn]
        rw [hRn]
        simp only [zL]
        rw [if_neg n60, em', Option.bind_some, if_pos (show bI false = zI 0 from rfl)]
        simp only [qc_let, zI_add, zc_a, zc_l]
      have fr : ∀ M' : Nat → Nat → Int32, (∀ t, t ≠ 23 → M' t = qc_u2 M 23 n (zI ((c + 1 : Nat) : Int)) t) → ∀ t, t ≠ 23 → M' t = M t := by
        intro M' hM' t ht
        rw [hM' t ht, u2_ne ht]
      rcases nx with ⟨I', J', M', y1, y2, y3, y4, y5⟩ | ⟨c', I', J', M', y1, y2, y3, y4, y5, y6, y7, y8, y9, y10⟩
      · exact Or.inl ⟨I', J', M', k1.trans y1, k2.trans y2, eX_t r4 y3, eJ_t r5 y4, fr M' y5⟩
      · rw [v_set2] at y5
        refine Or.inr ⟨c', I', J', M', by omega, y2, k1.trans y3, k2.trans y4, y5, y6, ?_, fr M' y8, eX_t r4 y9, eJ_t r5 y10⟩
        intro j hj
        rw [y7 j hj, qG, if_neg (by omega)]
    · rw [ec] at r2 em'
      refine Or.inr ⟨c, r.2.1, r.2.2, M, by omega, by omega, ?_, ?_, r3, hRn, fun _ _ => rfl, fun _ _ => rfl, r4, r5⟩
      · rw [P_X6_growTrial_14]
        simp only [zL]
        rw [if_neg n60, r1, Option.bind_some, r2, if_neg (by decide)]
      · rw [P_X7_grown_87]
        simp only [if_pos inn, rn]
        rw [hRn]
        simp only [zL]
        rw [if_neg n60, em', Option.bind_some, if_neg (by decide)]
        unfold P_X7_grown_127
        simp only [if_pos inn, rn]
        rw [hRn]
        simp only [zL]
        rw [if_pos (by rw [zI_le] <;> omega)]
        simp only [qc_let, zI_add, zc_a, zc_l]
theorem grow_loop {i : Nat} (hi : i < 8) : ∀ (d n f F l : Nat) (I : Nat → Nat → Int32) (J : Nat → Nat → Int64) (M : Nat → Nat → Int32) (V : sV), n + d = i + 1 → 1 ≤ n → d < f → d < F → 1 ≤ l → l ≤ 60 → SX I J 12 V → RW V → (v_us V).val = n → (∀ j, j < n → 1 ≤ (v_ch V j).val) → (∀ j, j < n → M 23 j = zI (v_ch V j).val) → M 23 (n - 1) = zI l →
    ∃ y I' J' M', P_X6_grown_65 f I J (zI i) (zI l) (zI n) = some (y, I', J') ∧ P_X7_grown_62 F M (zI (v_od V).val) (zI (v_gd V).val) (zI (v_sp V).val) (zI i) (zI n) = some (y, M') ∧ eX I I' ∧ eJ J J' ∧ (∀ t, t ≠ 23 → M' t = M t) := by
  intro d
  have ii : qc_in (zI (i : Int)) 8 := by simp (disch := omega) only [zI_add, zI_sub, zI_mul, zI_neg, zL, zI_le, zI_lt, zI_eq, zI_cl, zA0, zI_if, Int.toNat_natCast, zT_add, zT_mul, Int.reduceToNat, Nat.add_zero, Nat.zero_add, Int.add_zero, Int.zero_add, zc_a, zc_l, Option.bind_some, qc_let, qc_in, qc_bo, iteT, iteF, and_self, if_true, if_false, qG]; omega
  have ri : (zI (i : Int)).toNatClampNeg = i := by rw [zI_cl (by omega) (by omega)]; omega
  induction d with
  | zero =>
    intro n f F l I J M V hn hn1 hf hF hl1 hl2 hS hRW hus hp hR hRl
    obtain ⟨g, rfl⟩ : ∃ g, f = g + 1 := ⟨f - 1, by omega⟩
    obtain ⟨G, rfl⟩ : ∃ G, F = G + 1 := ⟨F - 1, by omega⟩
    have lt : zI (i : Int) < zI (n : Int) := by rw [zI_lt] <;> omega
    refine ⟨zI l, I, J, M, ?_, ?_, eX_r I, eJ_r J, fun _ _ => rfl⟩
    · rw [P_X6_grown_65, if_pos lt]
    · rw [P_X7_grown_62, if_pos lt, if_pos ii, ri, show i = n - 1 by omega, hRl]
  | succ d ih =>
    intro n f F l I J M V hn hn1 hf hF hl1 hl2 hS hRW hus hp hR hRl
    obtain ⟨g, rfl⟩ : ∃ g, f = g + 1 := ⟨f - 1, by omega⟩
    obtain ⟨G, rfl⟩ : ∃ G, F = G + 1 := ⟨F - 1, by omega⟩
    have nlt : ¬ zI (i : Int) < zI (n : Int) := by rw [zI_lt] <;> omega
    have inn : qc_in (zI (n : Int)) 8 := by simp (disch := omega) only [zI_add, zI_sub, zI_mul, zI_neg, zL, zI_le, zI_lt, zI_eq, zI_cl, zA0, zI_if, Int.toNat_natCast, zT_add, zT_mul, Int.reduceToNat, Nat.add_zero, Nat.zero_add, Int.add_zero, Int.zero_add, zc_a, zc_l, Option.bind_some, qc_let, qc_in, qc_bo, iteT, iteF, and_self, if_true, if_false, qG]; omega
    have rn : (zI (n : Int)).toNatClampNeg = n := by rw [zI_cl (by omega) (by omega)]; omega
    have e1n : zI (n : Int) - zI 1 = zI ((n - 1 : Nat) : Int) := by
      rw [zI_sub]
      congr 1
      omega
    have in1 : qc_in (zI ((n - 1 : Nat) : Int)) 8 := by simp (disch := omega) only [zI_add, zI_sub, zI_mul, zI_neg, zL, zI_le, zI_lt, zI_eq, zI_cl, zA0, zI_if, Int.toNat_natCast, zT_add, zT_mul, Int.reduceToNat, Nat.add_zero, Nat.zero_add, Int.add_zero, Int.zero_add, zc_a, zc_l, Option.bind_some, qc_let, qc_in, qc_bo, iteT, iteF, and_self, if_true, if_false, qG]; omega
    have rn1 : (zI ((n - 1 : Nat) : Int)).toNatClampNeg = n - 1 := by rw [zI_cl (by omega) (by omega)]; omega
    have hS2 := SX_setus hS ⟨n + 1, by omega⟩
    have hg := grow_in (K := P_X7_grown_62 G) (x4 := zI (i : Int)) (n := n) (by omega) (61 - (l + 1)) (l + 1) qc_fu qc_fu (qc_u2 I 12 0 (zI ((n + 1 : Nat) : Int))) J (qc_u2 M 23 n (zI ((l + 1 : Nat) : Int))) (v_setus V ⟨n + 1, by omega⟩) (by omega) (by omega) (by unfold qc_fu; omega) (by unfold qc_fu; omega) hS2 (RW_us hRW _) rfl hp (fun j hj => by
      rw [qG, if_neg (by omega)]
      exact hR j hj) (by rw [qG, if_pos ⟨rfl, rfl⟩])
    have eI : eX I (qc_u2 I 12 0 (zI ((n + 1 : Nat) : Int))) := eX_m (fun t ht => u2_ne (by omega))
    have x1 : ∀ q, P_X6_growTrial_14 qc_fu (qc_u2 I 12 0 (zI ((n + 1 : Nat) : Int))) J (zI (n : Int)) (zI ((l + 1 : Nat) : Int)) = some q → P_X6_grown_65 (g + 1) I J (zI (i : Int)) (zI (l : Int)) (zI (n : Int)) = P_X6_grown_65 g q.2.1 q.2.2 (zI (i : Int)) q.1 (zI ((n + 1 : Nat) : Int)) := by
      intro q hq
      have hq' : P_X6_growTrial I J (zI (n : Int)) (zI (l : Int)) = some q := by
        unfold P_X6_growTrial
        simp only [zL, qc_let, zI_add]
        exact hq
      rw [P_X6_grown_65, if_neg nlt]
      simp only [zL]
      rw [if_neg (by rw [zI_lt] <;> omega), hq', Option.bind_some]
      simp only [qc_let, zI_add, zc_a, zc_l]
    have m1 : P_X7_grown_62 (G + 1) M (zI (v_od V).val) (zI (v_gd V).val) (zI (v_sp V).val) (zI (i : Int)) (zI (n : Int)) = P_X7_grown_87 (P_X7_grown_62 G) qc_fu (qc_u2 M 23 n (zI ((l + 1 : Nat) : Int))) (zI (v_od V).val) (zI (v_gd V).val) (zI (v_sp V).val) (zI (i : Int)) (zI (n : Int)) := by
      rw [P_X7_grown_62, if_neg nlt]
      simp only [zL]
      rw [e1n, if_pos in1, if_pos inn, rn1, rn, hRl, zI_add]
      rfl
    rcases hg with ⟨I', J', M', y1, y2, y3, y4, y5⟩ | ⟨c', I', J', M', y1, y2, y3, y4, y5, y6, y7, y8, y9, y10⟩
    · refine ⟨zI (-2), I', J', M', ?_, m1.trans y2, eX_t eI y3, y4, ?_⟩
      · rw [x1 _ y1]
        obtain ⟨g', rfl⟩ : ∃ g', g = g' + 1 := ⟨g - 1, by omega⟩
        rw [P_X6_grown_65]
        by_cases c : zI (i : Int) < zI ((n + 1 : Nat) : Int)
        · rw [if_pos c]
        · rw [if_neg c, if_pos (show zI (-2) < 0 by decide)]
      · intro t ht
        rw [y5 t ht, u2_ne ht]
    · have hp3 : ∀ j, j < n + 1 → 1 ≤ (v_ch (v_setch (v_setus V ⟨n + 1, by omega⟩) n (f61 c')) j).val := by
        intro j hj
        rw [ch_at]
        by_cases e : j = n
        · rw [if_pos e, f61_v (by omega)]; omega
        · rw [if_neg e]; exact hp j (by omega)
      have hR3 : ∀ j, j < n + 1 → M' 23 j = zI (v_ch (v_setch (v_setus V ⟨n + 1, by omega⟩) n (f61 c')) j).val := by
        intro j hj
        rw [ch_at]
        by_cases e : j = n
        · rw [if_pos e, f61_v (by omega), e]; exact y6
        · rw [if_neg e, y7 j e, qG, if_neg (by omega)]; exact hR j (by omega)
      obtain ⟨y, I2, J2, M2, w1, w2, w3, w4, w5⟩ := ih (n + 1) g G c' I' J' M' (v_setch (v_setus V ⟨n + 1, by omega⟩) n (f61 c')) (by omega) (by omega) (by omega) (by omega) (by omega) y2 y5 (RW_ch (RW_us hRW _) n _) rfl hp3 hR3 y6
      refine ⟨y, I2, J2, M2, (x1 _ y3).trans w1, (m1.trans y4).trans w2, eX_t eI (eX_t y9 w3), eJ_t y10 w4, ?_⟩
      intro t ht
      rw [w5 t ht, y8 t ht, u2_ne ht]
theorem eM_23 {M M' : Nat → Nat → Int32} (h : ∀ t, t ≠ 23 → M' t = M t) : eM M M' := ⟨fun t ht => h t (by omega), fun j _ _ _ _ => by rw [h 0 (by omega)]⟩
theorem st_25 : St_25 Rel := by
  intro I J w M a b c d ⟨V, n, h0⟩
  have h := RelV_0 h0 (zI 0)
  have hR1 : Rel I J w (qc_u2 M 0 0 (zI 0)) := ⟨V, n, h⟩
  obtain ⟨za, rfl, a1, a2⟩ := zAll a
  obtain ⟨zb, rfl, b1', b2⟩ := zAll b
  obtain ⟨zc, rfl, c1, c2⟩ := zAll c
  obtain ⟨zd, rfl, d1, d2⟩ := zAll d
  have nm : -zI 1 = zI (-1) := zI_neg 1
  have nm2 : -zI 2 = zI (-2) := zI_neg 2
  by_cases k1 : za < 0
  · refine ⟨(zI (-1), I, J), (zI (-1), qc_u2 M 0 0 (zI 0)), ?_, ?_, rfl, hR1⟩
    · simp (disch := omega) only [P_X6_grown, zI_add, zI_sub, zI_mul, zI_neg, zL, zI_le, zI_lt, zI_eq, zI_cl, zA0, zI_if, Int.toNat_natCast, zT_add, zT_mul, Int.reduceToNat, Nat.add_zero, Nat.zero_add, Int.add_zero, Int.zero_add, zc_a, zc_l, Option.bind_some, qc_let, qc_in, qc_bo, ↓reduceIte, zYT, zYF, zYt, zYf, zYe, zYn, nYT, nYF, nYt, nYf, nYe, nYn, or_false, false_or, or_true, true_or, not_false_eq_true, not_true_eq_false, and_self, and_true, true_and, and_false, false_and, qG, if_true, if_false, Int.reduceNeg]
    · simp (disch := omega) only [P_X7_grown, zI_add, zI_sub, zI_mul, zI_neg, zL, zI_le, zI_lt, zI_eq, zI_cl, zA0, zI_if, Int.toNat_natCast, zT_add, zT_mul, Int.reduceToNat, Nat.add_zero, Nat.zero_add, Int.add_zero, Int.zero_add, zc_a, zc_l, Option.bind_some, qc_let, qc_in, qc_bo, ↓reduceIte, zYT, zYF, zYt, zYf, zYe, zYn, nYT, nYF, nYt, nYf, nYe, nYn, or_false, false_or, or_true, true_or, not_false_eq_true, not_true_eq_false, and_self, and_true, true_and, and_false, false_and, qG, if_true, if_false, Int.reduceNeg]
  by_cases k2 : 7 < za
  · refine ⟨(zI (-1), I, J), (zI (-1), qc_u2 M 0 0 (zI 0)), ?_, ?_, rfl, hR1⟩
    · simp (disch := omega) only [P_X6_grown, zI_add, zI_sub, zI_mul, zI_neg, zL, zI_le, zI_lt, zI_eq, zI_cl, zA0, zI_if, Int.toNat_natCast, zT_add, zT_mul, Int.reduceToNat, Nat.add_zero, Nat.zero_add, Int.add_zero, Int.zero_add, zc_a, zc_l, Option.bind_some, qc_let, qc_in, qc_bo, ↓reduceIte, zYT, zYF, zYt, zYf, zYe, zYn, nYT, nYF, nYt, nYf, nYe, nYn, or_false, false_or, or_true, true_or, not_false_eq_true, not_true_eq_false, and_self, and_true, true_and, and_false, false_and, qG, if_true, if_false, Int.reduceNeg]
    · simp (disch := omega) only [P_X7_grown, zI_add, zI_sub, zI_mul, zI_neg, zL, zI_le, zI_lt, zI_eq, zI_cl, zA0, zI_if, Int.toNat_natCast, zT_add, zT_mul, Int.reduceToNat, Nat.add_zero, Nat.zero_add, Int.add_zero, Int.zero_add, zc_a, zc_l, Option.bind_some, qc_let, qc_in, qc_bo, ↓reduceIte, zYT, zYF, zYt, zYf, zYe, zYn, nYT, nYF, nYt, nYf, nYe, nYn, or_false, false_or, or_true, true_or, not_false_eq_true, not_true_eq_false, and_self, and_true, true_and, and_false, false_and, qG, if_true, if_false, Int.reduceNeg]
  by_cases k3 : zb < 0
  · refine ⟨(zI (-1), I, J), (zI (-1), qc_u2 M 0 0 (zI 0)), ?_, ?_, rfl, hR1⟩
    · simp (disch := omega) only [P_X6_grown, zI_add, zI_sub, zI_mul, zI_neg, zL, zI_le, zI_lt, zI_eq, zI_cl, zA0, zI_if, Int.toNat_natCast, zT_add, zT_mul, Int.reduceToNat, Nat.add_zero, Nat.zero_add, Int.add_zero, Int.zero_add, zc_a, zc_l, Option.bind_some, qc_let, qc_in, qc_bo, ↓reduceIte, zYT, zYF, zYt, zYf, zYe, zYn, nYT, nYF, nYt, nYf, nYe, nYn, or_false, false_or, or_true, true_or, not_false_eq_true, not_true_eq_false, and_self, and_true, true_and, and_false, false_and, qG, if_true, if_false, Int.reduceNeg]
    · simp (disch := omega) only [P_X7_grown, zI_add, zI_sub, zI_mul, zI_neg, zL, zI_le, zI_lt, zI_eq, zI_cl, zA0, zI_if, Int.toNat_natCast, zT_add, zT_mul, Int.reduceToNat, Nat.add_zero, Nat.zero_add, Int.add_zero, Int.zero_add, zc_a, zc_l, Option.bind_some, qc_let, qc_in, qc_bo, ↓reduceIte, zYT, zYF, zYt, zYf, zYe, zYn, nYT, nYF, nYt, nYf, nYe, nYn, or_false, false_or, or_true, true_or, not_false_eq_true, not_true_eq_false, and_self, and_true, true_and, and_false, false_and, qG, if_true, if_false, Int.reduceNeg]
  by_cases k4 : 5 < zb
  · refine ⟨(zI (-1), I, J), (zI (-1), qc_u2 M 0 0 (zI 0)), ?_, ?_, rfl, hR1⟩
    · simp (disch := omega) only [P_X6_grown, zI_add, zI_sub, zI_mul, zI_neg, zL, zI_le, zI_lt, zI_eq, zI_cl, zA0, zI_if, Int.toNat_natCast, zT_add, zT_mul, Int.reduceToNat, Nat.add_zero, Nat.zero_add, Int.add_zero, Int.zero_add, zc_a, zc_l, Option.bind_some, qc_let, qc_in, qc_bo, ↓reduceIte, zYT, zYF, zYt, zYf, zYe, zYn, nYT, nYF, nYt, nYf, nYe, nYn, or_false, false_or, or_true, true_or, not_false_eq_true, not_true_eq_false, and_self, and_true, true_and, and_false, false_and, qG, if_true, if_false, Int.reduceNeg]
    · simp (disch := omega) only [P_X7_grown, zI_add, zI_sub, zI_mul, zI_neg, zL, zI_le, zI_lt, zI_eq, zI_cl, zA0, zI_if, Int.toNat_natCast, zT_add, zT_mul, Int.reduceToNat, Nat.add_zero, Nat.zero_add, Int.add_zero, Int.zero_add, zc_a, zc_l, Option.bind_some, qc_let, qc_in, qc_bo, ↓reduceIte, zYT, zYF, zYt, zYf, zYe, zYn, nYT, nYF, nYt, nYf, nYe, nYn, or_false, false_or, or_true, true_or, not_false_eq_true, not_true_eq_false, and_self, and_true, true_and, and_false, false_and, qG, if_true, if_false, Int.reduceNeg]
  by_cases k5 : zc < 1
  · refine ⟨(zI (-1), I, J), (zI (-1), qc_u2 M 0 0 (zI 0)), ?_, ?_, rfl, hR1⟩
    · simp (disch := omega) only [P_X6_grown, zI_add, zI_sub, zI_mul, zI_neg, zL, zI_le, zI_lt, zI_eq, zI_cl, zA0, zI_if, Int.toNat_natCast, zT_add, zT_mul, Int.reduceToNat, Nat.add_zero, Nat.zero_add, Int.add_zero, Int.zero_add, zc_a, zc_l, Option.bind_some, qc_let, qc_in, qc_bo, ↓reduceIte, zYT, zYF, zYt, zYf, zYe, zYn, nYT, nYF, nYt, nYf, nYe, nYn, or_false, false_or, or_true, true_or, not_false_eq_true, not_true_eq_false, and_self, and_true, true_and, and_false, false_and, qG, if_true, if_false, Int.reduceNeg]
    · simp (disch := omega) only [P_X7_grown, zI_add, zI_sub, zI_mul, zI_neg, zL, zI_le, zI_lt, zI_eq, zI_cl, zA0, zI_if, Int.toNat_natCast, zT_add, zT_mul, Int.reduceToNat, Nat.add_zero, Nat.zero_add, Int.add_zero, Int.zero_add, zc_a, zc_l, Option.bind_some, qc_let, qc_in, qc_bo, ↓reduceIte, zYT, zYF, zYt, zYf, zYe, zYn, nYT, nYF, nYt, nYf, nYe, nYn, or_false, false_or, or_true, true_or, not_false_eq_true, not_true_eq_false, and_self, and_true, true_and, and_false, false_and, qG, if_true, if_false, Int.reduceNeg]
  by_cases k6 : 20 < zc
  · refine ⟨(zI (-1), I, J), (zI (-1), qc_u2 M 0 0 (zI 0)), ?_, ?_, rfl, hR1⟩
    · simp (disch := omega) only [P_X6_grown, zI_add, zI_sub, zI_mul, zI_neg, zL, zI_le, zI_lt, zI_eq, zI_cl, zA0, zI_if, Int.toNat_natCast, zT_add, zT_mul, Int.reduceToNat, Nat.add_zero, Nat.zero_add, Int.add_zero, Int.zero_add, zc_a, zc_l, Option.bind_some, qc_let, qc_in, qc_bo, ↓reduceIte, zYT, zYF, zYt, zYf, zYe, zYn, nYT, nYF, nYt, nYf, nYe, nYn, or_false, false_or, or_true, true_or, not_false_eq_true, not_true_eq_false, and_self, and_true, true_and, and_false, false_and, qG, if_true, if_false, Int.reduceNeg]
    · simp (disch := omega) only [P_X7_grown, zI_add, zI_sub, zI_mul, zI_neg, zL, zI_le, zI_lt, zI_eq, zI_cl, zA0, zI_if, Int.toNat_natCast, zT_add, zT_mul, Int.reduceToNat, Nat.add_zero, Nat.zero_add, Int.add_zero, Int.zero_add, zc_a, zc_l, Option.bind_some, qc_let, qc_in, qc_bo, ↓reduceIte, zYT, zYF, zYt, zYf, zYe, zYn, nYT, nYF, nYt, nYf, nYe, nYn, or_false, false_or, or_true, true_or, not_false_eq_true, not_true_eq_false, and_self, and_true, true_and, and_false, false_and, qG, if_true, if_false, Int.reduceNeg]
  by_cases k7 : zd < 0
  · refine ⟨(zI (-1), I, J), (zI (-1), qc_u2 M 0 0 (zI 0)), ?_, ?_, rfl, hR1⟩
    · simp (disch := omega) only [P_X6_grown, zI_add, zI_sub, zI_mul, zI_neg, zL, zI_le, zI_lt, zI_eq, zI_cl, zA0, zI_if, Int.toNat_natCast, zT_add, zT_mul, Int.reduceToNat, Nat.add_zero, Nat.zero_add, Int.add_zero, Int.zero_add, zc_a, zc_l, Option.bind_some, qc_let, qc_in, qc_bo, ↓reduceIte, zYT, zYF, zYt, zYf, zYe, zYn, nYT, nYF, nYt, nYf, nYe, nYn, or_false, false_or, or_true, true_or, not_false_eq_true, not_true_eq_false, and_self, and_true, true_and, and_false, false_and, qG, if_true, if_false, Int.reduceNeg]
    · simp (disch := omega) only [P_X7_grown, zI_add, zI_sub, zI_mul, zI_neg, zL, zI_le, zI_lt, zI_eq, zI_cl, zA0, zI_if, Int.toNat_natCast, zT_add, zT_mul, Int.reduceToNat, Nat.add_zero, Nat.zero_add, Int.add_zero, Int.zero_add, zc_a, zc_l, Option.bind_some, qc_let, qc_in, qc_bo, ↓reduceIte, zYT, zYF, zYt, zYf, zYe, zYn, nYT, nYF, nYt, nYf, nYe, nYn, or_false, false_or, or_true, true_or, not_false_eq_true, not_true_eq_false, and_self, and_true, true_and, and_false, false_and, qG, if_true, if_false, Int.reduceNeg]
  by_cases k8 : 8 ≤ zd
  · refine ⟨(zI (-2), I, J), (zI (-2), qc_u2 M 0 0 (zI 0)), ?_, ?_, rfl, hR1⟩
    · simp (disch := omega) only [P_X6_grown, zI_add, zI_sub, zI_mul, zI_neg, zL, zI_le, zI_lt, zI_eq, zI_cl, zA0, zI_if, Int.toNat_natCast, zT_add, zT_mul, Int.reduceToNat, Nat.add_zero, Nat.zero_add, Int.add_zero, Int.zero_add, zc_a, zc_l, Option.bind_some, qc_let, qc_in, qc_bo, ↓reduceIte, zYT, zYF, zYt, zYf, zYe, zYn, nYT, nYF, nYt, nYf, nYe, nYn, or_false, false_or, or_true, true_or, not_false_eq_true, not_true_eq_false, and_self, and_true, true_and, and_false, false_and, qG, if_true, if_false, Int.reduceNeg]
    · simp (disch := omega) only [P_X7_grown, zI_add, zI_sub, zI_mul, zI_neg, zL, zI_le, zI_lt, zI_eq, zI_cl, zA0, zI_if, Int.toNat_natCast, zT_add, zT_mul, Int.reduceToNat, Nat.add_zero, Nat.zero_add, Int.add_zero, Int.zero_add, zc_a, zc_l, Option.bind_some, qc_let, qc_in, qc_bo, ↓reduceIte, zYT, zYF, zYt, zYf, zYe, zYn, nYT, nYF, nYt, nYf, nYe, nYn, or_false, false_or, or_true, true_or, not_false_eq_true, not_true_eq_false, and_self, and_true, true_and, and_false, false_and, qG, if_true, if_false, Int.reduceNeg]
  obtain ⟨A, rfl⟩ : ∃ A : Nat, za = (A : Int) := ⟨za.toNat, by omega⟩
  obtain ⟨B, rfl⟩ : ∃ B : Nat, zb = (B : Int) := ⟨zb.toNat, by omega⟩
  obtain ⟨C, rfl⟩ : ∃ C : Nat, zc = (C : Int) := ⟨zc.toNat, by omega⟩
  obtain ⟨D, rfl⟩ : ∃ D : Nat, zd = (D : Int) := ⟨zd.toNat, by omega⟩
  obtain ⟨lk, r, r1, r2, r3, r4⟩ := x_begin (J := J) h.2.2.2.2.2.2.2.2.2.2 ⟨B, by omega⟩ ⟨C, by omega⟩ ⟨A, by omega⟩
  -- the first of the ROW
  have hS1 := SX_setus r2 1
  obtain ⟨t, t1, t2, t3, t4, t5⟩ := x_fits hS1 (u := 0) (c := 1) (by omega) (by omega)
  have hcl : cleanS (v_setch (v_setus (rV 0 ⟨B, by omega⟩ ⟨C, by omega⟩ ⟨A, by omega⟩ lk (fun _ => 0)) 1) 0 (f61 1)) = true := row_one (rV_RW _ _ _ _ _ _) rfl (show 1 ≤ (f61 1).val by decide)
  rw [hcl] at t2
  have t1' : P_X6_fitsOnTrial (qc_u2 r.1 12 0 (zI 1)) r.2 (zI 0) (zI 1) = some t := t1
  have hg : P_X6_growTrial r.1 r.2 (zI 0) (zI 0) = some (zI 1, t.2.1, t.2.2) := by
    unfold P_X6_growTrial
    simp only [zL, qc_let, zI_add]
    obtain ⟨g, hg⟩ : ∃ g, qc_fu = g + 1 := ⟨99999, rfl⟩
    rw [hg, P_X6_growTrial_14]
    simp only [zL]
    rw [if_neg (by decide), show zI (0 + 1) = zI 1 from rfl, t1', Option.bind_some, t2, if_neg (by decide)]
  obtain ⟨y, I', J', M', w1, w2, w3, w4, w5⟩ := grow_loop (i := D) (by omega) D 1 99999 qc_fu 1 t.2.1 t.2.2 (qc_u2 (qc_u2 M 0 0 (zI 0)) 23 0 (zI 1)) (v_setch (v_setus (rV 0 ⟨B, by omega⟩ ⟨C, by omega⟩ ⟨A, by omega⟩ lk (fun _ => 0)) 1) 0 (f61 1)) (by omega) (by omega) (by omega) (by unfold qc_fu; omega) (by omega) (by omega) t3 (rV_RW _ _ _ _ _ _) rfl (fun j hj => by
    have : j = 0 := by omega
    subst this
    show 1 ≤ (f61 1).val
    decide) (fun j hj => by
    have : j = 0 := by omega
    subst this
    rw [qG, if_pos ⟨rfl, rfl⟩]
    rfl) (by rw [qG, if_pos ⟨rfl, rfl⟩]; rfl)
  have r1' : P_X4_beginRow I J 12 (zI (A : Int)) (zI (B : Int)) (zI (C : Int)) = some r := r1
  have w2' : P_X7_grown_62 qc_fu (qc_u2 (qc_u2 M 0 0 (zI 0)) 23 0 (zI 1)) (zI (A : Int)) (zI (B : Int)) (zI (C : Int)) (zI (D : Int)) (zI 1) = some (y, M') := w2
  have w1' : P_X6_grown_65 99999 t.2.1 t.2.2 (zI (D : Int)) (zI 1) (zI 1) = some (y, I', J') := w1
  have x65 : P_X6_grown_65 qc_fu r.1 r.2 (zI (D : Int)) (zI 0) (zI 0) = some (y, I', J') := by
    have e : qc_fu = 99999 + 1 := rfl
    rw [e, P_X6_grown_65, if_neg (by rw [zI_lt] <;> omega)]
    simp only [zL]
    rw [if_neg (by decide), hg, Option.bind_some, ← w1']
    simp only [qc_lE, zI_add]
    rfl
  refine ⟨(y, I', J'), (y, M'), ?_, ?_, rfl, V, n, RelV_e (eX_t r3 (eX_t (eX_m (fun t ht => u2_ne (by omega))) (eX_t t4 w3))) (eJ_t r4 (eJ_t t5 w4)) (eM_23 (fun t ht => by show M' t = _; rw [w5 t ht, u2_ne ht])) h⟩
  · unfold P_X6_grown
    simp only [zL]
    rw [if_neg (by rw [zI_lt] <;> omega), if_neg (by rw [zI_lt] <;> omega), if_neg (by rw [zI_lt] <;> omega), if_pos (by rw [zI_le] <;> omega), if_neg (by rw [zI_lt] <;> omega), if_neg (by rw [zI_lt] <;> omega), if_pos (by rw [zI_le] <;> omega), if_pos (by rw [zI_lt] <;> omega), r1', Option.bind_some]
    exact x65
  · unfold P_X7_grown
    simp only [zL, qc_lE]
    rw [if_neg (by rw [zI_lt] <;> omega), if_neg (by rw [zI_lt] <;> omega), if_neg (by rw [zI_lt] <;> omega), if_neg (by rw [zI_lt] <;> omega), if_neg (by rw [zI_lt] <;> omega), if_neg (by rw [zI_lt] <;> omega), if_pos (by rw [zI_le] <;> omega), if_pos (by rw [zI_lt] <;> omega)]
    exact w2'
