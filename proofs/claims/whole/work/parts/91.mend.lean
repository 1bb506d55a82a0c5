/-! MENDING: as few changes as can be -/
def bn (z : Nat) : Nat := (cf (tb z) 6 0).length
theorem bn_x : ∀ z : Fin 64, P_J6_bitCount_0f7a4 (zI z.val) = some (zI (bn z.val : Nat)) ∧ P_X7_bits (zI z.val) = some (zI (bn z.val : Nat)) ∧ (bn z.val = 0 ↔ z.val = 0) ∧ bn z.val ≤ 6 := by decide +kernel
def Qm (V : sV) (I0 : Nat → Nat → Int32) (J0 : Nat → Nat → Int64) (M0 : Nat → Nat → Int32) (y : Int32) (I' : Nat → Nat → Int32) (J' : Nat → Nat → Int64) (M' : Nat → Nat → Int32) : Prop := eX I0 I' ∧ eJ J0 J' ∧ eA M0 M' ∧ ((∃ (z : Nat) (g : Nat → Fin 61), 0 < z ∧ z < 64 ∧ y = zI z ∧ SX I' J' 12 (v_chf V g) ∧ MX M' (v_chf V g) ∧ eF M0 M') ∨ ((y = zI (-2) ∨ y = zI 0) ∧ eM M0 M'))
theorem mend_set {V : sV} {T k : Nat} (hT : T < 64) (hT2 : T < 2 ^ (v_us V).val) {I0 : Nat → Nat → Int32} {J0 : Nat → Nat → Int64} {M0 : Nat → Nat → Int32} (hS0 : SX I0 J0 2 V) (hM0 : MX M0 V) (hTM : TM M0 V) {KX : (Nat → Nat → Int32) → (Nat → Nat → Int64) → Int32 → Int32 → Option (Int32 × (Nat → Nat → Int32) × (Nat → Nat → Int64))} {KM : (Nat → Nat → Int32) → Int32 → Int32 → Option (Int32 × (Nat → Nat → Int32))}
    (hK : ∀ I J M, eX I0 I → eJ J0 J → eM M0 M → eA M0 M → ∃ y I' J' M', KX I J (zI T) (zI ((k : Int) + 1)) = some (y, I', J') ∧ KM M (zI T) (zI ((k : Int) + 1)) = some (y, M') ∧ Qm V I0 J0 M0 y I' J' M') :
    ∀ (d z f F : Nat) (I : Nat → Nat → Int32) (J : Nat → Nat → Int64) (M : Nat → Nat → Int32), z + d = T + 1 → d < f → d < F → 1 ≤ z → eX I0 I → eJ J0 J → eM M0 M → eA M0 M → ∃ y I' J' M', P_X6_findMend_39 KX f I J (zI T) (zI k) (zI z) = some (y, I', J') ∧ P_X7_mends_32 KM F M (zI T) (zI k) (zI z) = some (y, M') ∧ Qm V I0 J0 M0 y I' J' M' := by
  intro d
  induction d with
  | zero =>
    intro z f F I J M hz hf hF z1 eI eJ' eM' hA
    obtain ⟨g, rfl⟩ : ∃ g, f = g + 1 := ⟨f - 1, by omega⟩
    obtain ⟨G, rfl⟩ : ∃ G, F = G + 1 := ⟨F - 1, by omega⟩
    have c : zI (T : Int) < zI (z : Int) := by rw [zI_lt] <;> omega
    rw [P_X6_findMend_39, P_X7_mends_32, if_pos c, if_pos c]
    simp only [zI_add, zI_sub, zI_mul, zI_neg, zL, qc_let]
    exact hK I J M eI eJ' eM' hA
  | succ d ih =>
    intro z f F I J M hz hf hF z1 eI eJ' eM' hA
    obtain ⟨g, rfl⟩ : ∃ g, f = g + 1 := ⟨f - 1, by omega⟩
    obtain ⟨G, rfl⟩ : ∃ G, F = G + 1 := ⟨F - 1, by omega⟩
    have c : ¬ zI (T : Int) < zI (z : Int) := by rw [zI_lt] <;> omega
    obtain ⟨b1, b2, b3, b4⟩ := bn_x ⟨z, by omega⟩
    dsimp only at b1 b2 b3 b4
    have go : ∀ I1 J1 M1, eX I0 I1 → eJ J0 J1 → eM M0 M1 → eA M0 M1 → ∃ y I' J' M', P_X6_findMend_92 KX (P_X6_findMend_39 KX g) I1 J1 (zI T) (zI k) (zI z) = some (y, I', J') ∧ P_X7_mends_70 KM (P_X7_mends_32 KM G) M1 (zI T) (zI k) (zI z) = some (y, M') ∧ Qm V I0 J0 M0 y I' J' M' := by
      intro I1 J1 M1 a1 a2 a3 a4
      have := ih (z + 1) g G I1 J1 M1 (by omega) (by omega) (by omega) (by omega) a1 a2 a3 a4
      simp only [zc_a, zc_l] at this
      unfold P_X6_findMend_92 P_X7_mends_70
      simp only [zI_add, zI_sub, zI_mul, zI_neg, zL, qc_let]
      exact this
    rw [P_X6_findMend_39, P_X7_mends_32, if_neg c, if_neg c, b1, b2]
    simp only [zL, zI_neg, Option.bind_some]
    by_cases e1 : zI (bn z : Int) = zI (k : Int)
    · rw [if_pos e1]
      by_cases e2 : zI (z : Int) &&& (zI (T : Int) ^^^ zI (-1)) = zI 0
      · rw [if_pos e2, if_pos e2, if_pos e1]
        have hS : SX I J 2 V := SX_e (fun t _ _ => eI.1 t (by omega)) (eJ' 2 (by omega)) hS0
        obtain ⟨r, r1, r2, r3, r4, r5⟩ := x_copy hS
        obtain ⟨res, x, I', J', M', g', L', p1, p2, p3, p4, p5, p6, p7, p8, p9⟩ := seek_both (s := z) (by omega) (by omega) r2 (MX_e eM' hM0)
        rw [r1]
        simp only [Option.bind_some]
        rw [p1, p2]
        simp only [Option.bind_some]
        have eI2 := eX_t eI (eX_t (eX_c r2 r4) p7)
        have eJ2 := eJ_t eJ' (eJ_t (eJ_c r5) p8)
        have hA2 := eA_K hA p9
        rcases p6 with ⟨a1, a2, a3, a4⟩ | ⟨a1, a2, _⟩
        · have k1 : zI res = zI 0 := by rw [a1]
          have k2 : ¬ zI x < zI 0 := by rw [zI_lt] <;> omega
          rw [if_pos k1, if_neg k2]
          exact ⟨_, _, _, _, rfl, rfl, eI2, eJ2, hA2, Or.inl ⟨z, g', by omega, by omega, rfl, p3, p4, eF_of eM' p9⟩⟩
        · have k1 : ¬ zI res = zI 0 := by rw [zI_eq] <;> omega
          have k2 : zI x < zI 0 := by rw [zI_lt] <;> omega
          rw [if_neg k1, if_pos k2, m_comesBack]
          simp only [Option.bind_some]
          exact go _ _ _ eI2 eJ2 (eA_b hM0 hTM hA2) (eA_bA hA2)
      · rw [if_neg e2, if_neg e2]
        exact go _ _ _ eI eJ' eM' hA
    · rw [if_neg e1]
      by_cases e2 : zI (z : Int) &&& (zI (T : Int) ^^^ zI (-1)) = zI 0
      · rw [if_pos e2, if_neg e1]
        exact go _ _ _ eI eJ' eM' hA
      · rw [if_neg e2]
        exact go _ _ _ eI eJ' eM' hA
theorem mend_size {V : sV} {T : Nat} (hT : T < 64) (hT2 : T < 2 ^ (v_us V).val) {I0 : Nat → Nat → Int32} {J0 : Nat → Nat → Int64} {M0 : Nat → Nat → Int32} (hS0 : SX I0 J0 2 V) (hM0 : MX M0 V) (hTM : TM M0 V) :
    ∀ (d k f F : Nat) (I : Nat → Nat → Int32) (J : Nat → Nat → Int64) (M : Nat → Nat → Int32), k + d = (v_us V).val + 1 → 1 ≤ k → d < f → d < F → eX I0 I → eJ J0 J → eM M0 M → eA M0 M → ∃ y I' J' M', P_X6_findMend_26 f I J (zI T) (zI k) = some (y, I', J') ∧ P_X7_mends_22 F M (zI T) (zI k) = some (y, M') ∧ Qm V I0 J0 M0 y I' J' M' := by
  have h6 : (v_us V).val ≤ 6 := hM0.2.2.2.2.2.2.2.2.2.2.2.2.2.2.1
  intro d
  induction d with
  | zero =>
    intro k f F I J M hk k1 hf hF eI eJ' eM' hA
    obtain ⟨g, rfl⟩ : ∃ g, f = g + 1 := ⟨f - 1, by omega⟩
    obtain ⟨G, rfl⟩ : ∃ G, F = G + 1 := ⟨F - 1, by omega⟩
    have hS : SX I J 2 V := SX_e (fun t _ _ => eI.1 t (by omega)) (eJ' 2 (by omega)) hS0
    have hM := MX_e eM' hM0
    have x0 : I 2 0 = zI ((v_us V).val : Int) := hS.1
    have m0 : M 2 7 = zI ((v_us V).val : Int) := hM.1
    have c : zI ((v_us V).val : Int) < zI (k : Int) := by rw [zI_lt] <;> omega
    rw [P_X6_findMend_26, P_X7_mends_22, P_X7_users, Option.bind_some, x0, m0, if_pos c, if_pos c]
    exact ⟨_, _, _, _, rfl, rfl, eI, eJ', hA, Or.inr ⟨Or.inl rfl, eM'⟩⟩
  | succ d ih =>
    intro k f F I J M hk k1 hf hF eI eJ' eM' hA
    obtain ⟨g, rfl⟩ : ∃ g, f = g + 1 := ⟨f - 1, by omega⟩
    obtain ⟨G, rfl⟩ : ∃ G, F = G + 1 := ⟨F - 1, by omega⟩
    have hS : SX I J 2 V := SX_e (fun t _ _ => eI.1 t (by omega)) (eJ' 2 (by omega)) hS0
    have hM := MX_e eM' hM0
    have x0 : I 2 0 = zI ((v_us V).val : Int) := hS.1
    have m0 : M 2 7 = zI ((v_us V).val : Int) := hM.1
    have c : ¬ zI ((v_us V).val : Int) < zI (k : Int) := by rw [zI_lt] <;> omega
    have hK : ∀ I J M, eX I0 I → eJ J0 J → eM M0 M → eA M0 M → ∃ y I' J' M', P_X6_findMend_26 g I J (zI T) (zI ((k : Int) + 1)) = some (y, I', J') ∧ P_X7_mends_22 G M (zI T) (zI ((k : Int) + 1)) = some (y, M') ∧ Qm V I0 J0 M0 y I' J' M' := by
      intro I1 J1 M1 a1 a2 a3 a4
      have := ih (k + 1) g G I1 J1 M1 (by omega) (by omega) (by omega) (by omega) a1 a2 a3 a4
      simpa only [zc_a, zc_l] using this
    rw [P_X6_findMend_26, P_X7_mends_22, P_X7_users, Option.bind_some, x0, m0, if_neg c, if_neg c]
    simp only [zL, zI_neg]
    have hF2 : ∃ F2, qc_fu = F2 + 1 ∧ 70 < F2 := ⟨99999, rfl, by omega⟩
    obtain ⟨F2, e2, l2⟩ := hF2
    have hM32 : P_X7_mends_32 (P_X7_mends_22 G) qc_fu M (zI T) (zI k) (zI 0) = P_X7_mends_32 (P_X7_mends_22 G) F2 M (zI T) (zI k) (zI 1) := by
      have c0 : ¬ zI (T : Int) < zI 0 := by rw [zI_lt] <;> omega
      have c1 : ¬ zI ((bn 0 : Nat) : Int) = zI (k : Int) := by
        have : bn 0 = 0 := by decide
        rw [this, zI_eq] <;> omega
      have b2 : P_X7_bits (zI 0) = some (zI (bn 0 : Nat)) := (bn_x ⟨0, by omega⟩).2.1
      rw [e2, P_X7_mends_32, if_neg c0, b2]
      simp only [zI_add, zI_sub, zI_mul, zI_neg, zL, Option.bind_some, P_X7_mends_70, qc_let]
      rw [if_neg c1]
      by_cases e3 : zI 0 &&& (zI (T : Int) ^^^ zI (-1)) = zI 0
      · rw [if_pos e3]; rfl
      · rw [if_neg e3]; rfl
    rw [hM32]
    exact mend_set hT hT2 hS0 hM0 hTM hK T 1 qc_fu F2 I J M (by omega) (by unfold qc_fu; omega) (by omega) (by omega) eI eJ' eM' hA
theorem mend_m0 {T : Nat} (hT : T < 64) {KM : (Nat → Nat → Int32) → Int32 → Int32 → Option (Int32 × (Nat → Nat → Int32))} : ∀ (d z F : Nat) (M : Nat → Nat → Int32), z + d = T + 1 → d < F → 1 ≤ z → P_X7_mends_32 KM F M (zI T) (zI 0) (zI z) = KM M (zI T) (zI 1) := by
  intro d
  induction d with
  | zero =>
    intro z F M hz hF z1
    obtain ⟨G, rfl⟩ : ∃ G, F = G + 1 := ⟨F - 1, by omega⟩
    have c : zI (T : Int) < zI (z : Int) := by rw [zI_lt] <;> omega
    rw [P_X7_mends_32, if_pos c]
    rfl
  | succ d ih =>
    intro z F M hz hF z1
    obtain ⟨G, rfl⟩ : ∃ G, F = G + 1 := ⟨F - 1, by omega⟩
    have c : ¬ zI (T : Int) < zI (z : Int) := by rw [zI_lt] <;> omega
    obtain ⟨b1, b2, b3, b4⟩ := bn_x ⟨z, by omega⟩
    dsimp only at b1 b2 b3 b4
    have c1 : ¬ zI ((bn z : Nat) : Int) = zI 0 := by rw [zI_eq] <;> omega
    have := ih (z + 1) G M (by omega) (by omega) (by omega)
    simp only [zc_a, zc_l] at this
    rw [P_X7_mends_32, if_neg c, b2]
    simp only [zI_add, zI_sub, zI_mul, zI_neg, zL, Option.bind_some, P_X7_mends_70, qc_let]
    rw [if_neg c1]
    by_cases e3 : zI (z : Int) &&& (zI (T : Int) ^^^ zI (-1)) = zI 0
    · rw [if_pos e3]; exact this
    · rw [if_neg e3]; exact this
theorem mend_both {V : sV} {n : Nat} {I : Nat → Nat → Int32} {J : Nat → Nat → Int64} {w : Nat → Nat} {M : Nat → Nat → Int32} (h : RelV V n I J w M) : ∃ y I' J' M', P_X6_findMend I J = some (y, I', J') ∧ P_X7_mends M = some (y, M') ∧ Qm V I J M y I' J' M' := by
  have h6 : (v_us V).val ≤ 6 := h.2.1.2.2.2.2.2.2.2.2.2.2.2.2.2.2.1
  have ea : eM M (cpM M 15 13 0 0 79) := ⟨fun t ht => cpM_ne _ _ _ _ _ _ (by omega), fun j _ _ _ _ => by rw [cpM_ne _ _ _ _ _ _ (by omega)]⟩
  have hMa : MX (cpM M 15 13 0 0 79) V := MX_e ea h.2.1
  obtain ⟨r, r1, r2, r3, r4⟩ := x_clean (p := 2) (by omega) h.1
  have eI : eX I r.2.1 := eX_m (fun t ht => r3 t (by omega))
  have eJ' : eJ J r.2.2 := eJ_g r4
  have hS : SX r.2.1 r.2.2 2 V := SX_e (fun t _ _ => r3 t (by omega)) (r4 2 (by omega)) h.1
  obtain ⟨T, t1, t2, t3, t4⟩ := set_s (tunS V) h6
  have m0 : cpM M 15 13 0 0 79 2 7 = zI ((v_us V).val : Int) := hMa.1
  have eT : ((zI 1 <<< (zI ((v_us V).val : Int) &&& zI 31)) - zI 1) &&& (sSet (fun u => !tunS V u) (v_us V).val 0 (zI 0) ^^^ zI (-1)) = zI (T : Nat) := by
    rw [unt_e _ h6, ← t3]
    exact sSet_cg (fun i _ _ => Bool.not_not _)
  obtain ⟨F1, e1, l1⟩ : ∃ F1, qc_fu = F1 + 1 ∧ 70 < F1 := ⟨99999, rfl, by omega⟩
  obtain ⟨m, m1, m2, m3⟩ := m_clean (MX_l hMa (zI 0))
  have eKm : eK (cpM M 15 13 0 0 79) m.2 := eK_t (eK_l _ _) (eK_P m3)
  have hA := eA_K (eA_0 M) eKm
  have me : P_X7_searches (cpM M 15 13 0 0 79) (zI 0) = some (zI (if cleanS V = true then 0 else -2), m.2) := by
    unfold P_X7_searches
    simp only [zI_add, zI_sub, zI_mul, zI_neg, zL, qc_let]
    rw [if_pos True.intro, m1, Option.bind_some, m2]
    simp only [bI_0]
    cases cleanS V <;> rfl
  have c0 : ¬ zI (T : Int) < zI 0 := by rw [zI_lt] <;> omega
  have c1 : ¬ zI ((v_us V).val : Int) < zI 0 := by rw [zI_lt] <;> omega
  have b2 : P_X7_bits (zI 0) = some (zI 0) := by
    have := (bn_x ⟨0, by omega⟩).2.1
    have e : bn 0 = 0 := by decide
    dsimp only at this
    rw [e] at this
    exact this
  have e3 : ∀ x : Int32, zI 0 &&& x = zI 0 := by
    intro x
    show (0 : Int32) &&& x = 0
    exact Int32.zero_and
  have mm : P_X7_mends M = if cleanS V = true then some (zI 0, m.2) else P_X7_mends_22 F1 (toldM (cpM m.2 13 15 0 0 79)) (zI T) (zI 1) := by
    unfold P_X7_mends
    rw [m_goesAside, Option.bind_some, P_X7_users, Option.bind_some, m_without_ch hMa, Option.bind_some, m0]
    simp only [zL, zI_neg, qc_let]
    rw [eT, e1, P_X7_mends_22, P_X7_users, Option.bind_some, m0, if_neg c1]
    simp only [zL]
    rw [e1, P_X7_mends_32, if_neg c0]
    simp only [zL, zI_neg]
    rw [if_pos (e3 _), b2, Option.bind_some, if_pos rfl, me, Option.bind_some]
    dsimp only
    cases cleanS V
    · rw [if_neg (show ¬ false = true by decide), if_neg (show ¬ false = true by decide), if_pos (by decide), m_comesBack, Option.bind_some]
      unfold P_X7_mends_70
      simp only [zI_add, zI_sub, zI_mul, zI_neg, zL, qc_let]
      have := mend_m0 t1 (KM := P_X7_mends_22 F1) T 1 F1 (toldM (cpM m.2 13 15 0 0 79)) (by omega) (by omega) (by omega)
      exact this
    · rw [if_pos (show true = true from rfl), if_pos (show true = true from rfl), if_neg (by decide)]
  have xe : P_X6_findMend I J = if cleanS V = true then some (zI 0, r.2.1, r.2.2) else P_X6_findMend_26 qc_fu r.2.1 r.2.2 (zI T) (zI 1) := by
    unfold P_X6_findMend
    rw [r1, Option.bind_some, r2]
    simp only [zL, bI_0]
    cases cleanS V
    · rw [if_pos (show false = false from rfl), if_neg (show ¬ false = true by decide), x_tuned hS, Option.bind_some, t3]
    · rw [if_neg (show ¬ true = false by decide), if_pos (show true = true from rfl)]
  rw [mm, xe]
  cases cleanS V
  · rw [if_neg (show ¬ false = true by decide), if_neg (show ¬ false = true by decide)]
    exact mend_size t1 t2 h.1 h.2.1 h.2.2.1 (v_us V).val 1 qc_fu F1 _ _ _ (by omega) (by omega) (by unfold qc_fu; omega) (by omega) eI eJ' (eA_b h.2.1 h.2.2.1 hA) (eA_bA hA)
  · rw [if_pos (show true = true from rfl), if_pos (show true = true from rfl)]
    refine ⟨_, _, _, _, rfl, rfl, eI, eJ', hA, Or.inr ⟨Or.inr rfl, ?_⟩⟩
    exact eM_t ea (eM_t (⟨fun t _ => u2_ne (by omega), fun j _ _ c _ => by rw [qG, if_neg (by omega)]⟩ : eM (cpM M 15 13 0 0 79) (qc_u2 (cpM M 15 13 0 0 79) 0 42 (zI 0))) (eP_M m3))
theorem st_9 : St_9 Rel := by
  intro I J w M ⟨V, n, h0⟩
  have h := RelV_0 h0 (zI 0)
  obtain ⟨y, I', J', M', p1, p2, eI, eJ', hA, hQ⟩ := mend_both h
  unfold P_X6_mend P_X7_mend
  simp only [zI_add, zI_sub, zI_mul, zI_neg, zL, qc_let]
  rw [p1, p2]
  simp only [Option.bind_some]
  rcases hQ with ⟨z, g, z1, z2, rfl, q1, q2, q3⟩ | ⟨hy, q1⟩
  · have k1 : ¬ zI (z : Int) ≤ zI 0 := by rw [zI_le] <;> omega
    have k2 : zI 0 < zI (z : Int) := by rw [zI_lt] <;> omega
    obtain ⟨I3, J3, w3, M3, n3, s1, s2, s3, s4⟩ := adopt_both h eI eJ' hA q3 q1 q2
    rw [if_neg k1, if_pos k2, s1, s2]
    exact ⟨_, _, rfl, rfl, rfl, _, _, s3⟩
  · have k1 : y ≤ zI 0 := by rcases hy with rfl | rfl <;> decide
    have k2 : ¬ zI 0 < y := by rcases hy with rfl | rfl <;> decide
    rw [if_pos k1, if_neg k2]
    exact ⟨_, _, rfl, rfl, rfl, V, n, RelV_e eI eJ' q1 h⟩
theorem st_23 : St_23 Rel := by
  intro I J w M ⟨V, n, h0⟩
  have h := RelV_0 h0 (zI 0)
  obtain ⟨y, I', J', M', p1, p2, eI, eJ', hA, hQ⟩ := mend_both h
  unfold P_X6_mended P_X7_mended
  simp only [zI_add, zI_sub, zI_mul, zI_neg, zL, qc_let]
  rw [p1, p2]
  simp only [Option.bind_some]
  rw [m_comesBack]
  exact ⟨_, _, rfl, rfl, rfl, V, n, RelV_e eI eJ' (eA_b h.2.1 h.2.2.1 hA) h⟩
