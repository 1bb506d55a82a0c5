/-! mostGuard, mostSpace -/
def v_setgd (V : sV) (g : Fin 6) : sV := ((v_us V, v_bd V, g, v_sp V, v_od V), V.2)
def v_setsp (V : sV) (s : Fin 21) : sV := ((v_us V, v_bd V, v_gd V, s, v_od V), V.2)
def f6 (c : Nat) : Fin 6 := ⟨c % 6, Nat.mod_lt _ (by decide)⟩
theorem f6_v {c : Nat} (h : c ≤ 5) : (f6 c).val = c := Nat.mod_eq_of_lt (by omega)
def f21 (c : Nat) : Fin 21 := ⟨c % 21, Nat.mod_lt _ (by decide)⟩
theorem f21_v {c : Nat} (h : c ≤ 20) : (f21 c).val = c := Nat.mod_eq_of_lt (by omega)
theorem v_gdI (V : sV) : v_setgd V (v_gd V) = V := rfl
theorem v_spI (V : sV) : v_setsp V (v_sp V) = V := rfl
theorem SX_setgd {I : Nat → Nat → Int32} {J : Nat → Nat → Int64} {p : Nat} {V : sV} {x : Fin 6} (h : SX I J p (v_setgd V x)) (g : Fin 6) : SX (qc_u2 I p 2 (zI g.val)) J p (v_setgd V g) := by
  obtain ⟨hus, hbd, hgd, hsp, hod, hst, hlo, hhi, hch, hpw, hsl, hls, hlk, hsh⟩ := h
  refine ⟨?_, ?_, ?_, ?_, ?_, ?_, ?_, ?_, ?_, ?_, ?_, ?_, ?_, hsh⟩
  · rw [qG, if_neg (by omega)]; exact hus
  · rw [qG, if_neg (by omega)]; exact hbd
  · rw [qG, if_pos ⟨rfl, rfl⟩]; rfl
  · rw [qG, if_neg (by omega)]; exact hsp
  · rw [qG, if_neg (by omega)]; exact hod
  · rw [u2_ne (by omega)]; exact hst
  · rw [u2_ne (by omega)]; exact hlo
  · rw [u2_ne (by omega)]; exact hhi
  · rw [u2_ne (by omega)]; exact hch
  · rw [u2_ne (by omega)]; exact hpw
  · rw [u2_ne (by omega)]; exact hsl
  · rw [u2_ne (by omega)]; exact hls
  · rw [u2_ne (by omega)]; exact hlk
theorem SX_setsp {I : Nat → Nat → Int32} {J : Nat → Nat → Int64} {p : Nat} {V : sV} {x : Fin 21} (h : SX I J p (v_setsp V x)) (g : Fin 21) : SX (qc_u2 I p 3 (zI g.val)) J p (v_setsp V g) := by
  obtain ⟨hus, hbd, hgd, hsp, hod, hst, hlo, hhi, hch, hpw, hsl, hls, hlk, hsh⟩ := h
  refine ⟨?_, ?_, ?_, ?_, ?_, ?_, ?_, ?_, ?_, ?_, ?_, ?_, ?_, hsh⟩
  · rw [qG, if_neg (by omega)]; exact hus
  · rw [qG, if_neg (by omega)]; exact hbd
  · rw [qG, if_neg (by omega)]; exact hgd
  · rw [qG, if_pos ⟨rfl, rfl⟩]; rfl
  · rw [qG, if_neg (by omega)]; exact hod
  · rw [u2_ne (by omega)]; exact hst
  · rw [u2_ne (by omega)]; exact hlo
  · rw [u2_ne (by omega)]; exact hhi
  · rw [u2_ne (by omega)]; exact hch
  · rw [u2_ne (by omega)]; exact hpw
  · rw [u2_ne (by omega)]; exact hsl
  · rw [u2_ne (by omega)]; exact hls
  · rw [u2_ne (by omega)]; exact hlk
theorem MX_setgd {M : Nat → Nat → Int32} {V : sV} (h : MX M V) (g : Fin 6) : MX (qc_u2 M 0 31 (zI g.val)) (v_setgd V g) := by
  obtain ⟨hus, hbd, hgd, hsp, hod, hst, hlo, hhi, hch, hpw, hsl, hls, hlk, hsh, h6, hl1⟩ := h
  unfold MX
  rw [u2_ne (t' := 2) (by omega), u2_ne (t' := 5) (by omega), u2_ne (t' := 7) (by omega), u2_ne (t' := 8) (by omega), u2_ne (t' := 11) (by omega), u2_ne (t' := 13) (by omega)]
  refine ⟨hus, ?_, ?_, ?_, ?_, hst, hlo, hhi, hch, hpw, hsl, hls, hlk, hsh, h6, hl1⟩
  · rw [qG, if_neg (by omega)]; exact hbd
  · rw [qG, if_pos ⟨rfl, rfl⟩]; rfl
  · rw [qG, if_neg (by omega)]; exact hsp
  · rw [qG, if_neg (by omega)]; exact hod
theorem MX_setsp {M : Nat → Nat → Int32} {V : sV} (h : MX M V) (g : Fin 21) : MX (qc_u2 M 0 32 (zI g.val)) (v_setsp V g) := by
  obtain ⟨hus, hbd, hgd, hsp, hod, hst, hlo, hhi, hch, hpw, hsl, hls, hlk, hsh, h6, hl1⟩ := h
  unfold MX
  rw [u2_ne (t' := 2) (by omega), u2_ne (t' := 5) (by omega), u2_ne (t' := 7) (by omega), u2_ne (t' := 8) (by omega), u2_ne (t' := 11) (by omega), u2_ne (t' := 13) (by omega)]
  refine ⟨hus, ?_, ?_, ?_, ?_, hst, hlo, hhi, hch, hpw, hsl, hls, hlk, hsh, h6, hl1⟩
  · rw [qG, if_neg (by omega)]; exact hbd
  · rw [qG, if_neg (by omega)]; exact hgd
  · rw [qG, if_pos ⟨rfl, rfl⟩]; rfl
  · rw [qG, if_neg (by omega)]; exact hod
/-- as it was, but for one of the numbers -/
def eN (i : Nat) (M0 M : Nat → Nat → Int32) : Prop := (∀ t, (t = 1 ∨ t = 2 ∨ t = 4 ∨ t = 5 ∨ t = 7 ∨ t = 8 ∨ t = 11 ∨ t = 13 ∨ t = 14) → M t = M0 t) ∧ (∀ j, j ≠ 0 → j ≠ 41 → j ≠ 42 → j ≠ 44 → j ≠ i → M 0 j = M0 0 j)
theorem eN_M {i : Nat} {M0 M : Nat → Nat → Int32} (h : eN i M0 M) (hi : i ≠ 0 ∧ i ≠ 41 ∧ i ≠ 42 ∧ i ≠ 44) : eM (qc_u2 M0 0 i (M 0 i)) M := by
  refine ⟨?_, ?_⟩
  · intro t ht
    rw [u2_ne (by omega)]
    exact h.1 t ht
  · intro j h1 h2 h3 h4
    rw [qG]
    by_cases c : j = i
    · rw [if_pos ⟨rfl, c⟩, c]
    · rw [if_neg (by omega)]
      exact h.2 j h1 h2 h3 h4 c
theorem eN_t {i : Nat} {M0 M M' : Nat → Nat → Int32} (h : eN i M0 M) (h' : eM M M') : eN i M0 M' := ⟨fun t ht => (h'.1 t ht).trans (h.1 t ht), fun j a b c d e => (h'.2 j a b c d).trans (h.2 j a b c d e)⟩
theorem eN_u {i : Nat} {M0 M : Nat → Nat → Int32} (h : eN i M0 M) (x : Int32) : eN i M0 (qc_u2 M 0 i x) := by
  refine ⟨?_, ?_⟩
  · intro t ht
    rw [u2_ne (by omega)]
    exact h.1 t ht
  · intro j a b c d e
    rw [qG, if_neg (by omega)]
    exact h.2 j a b c d e
theorem eN_r (i : Nat) (M : Nat → Nat → Int32) : eN i M M := ⟨fun _ _ => rfl, fun _ _ _ _ _ _ => rfl⟩
theorem eN_told {i : Nat} {M0 M : Nat → Nat → Int32} {V : sV} (h : MX M0 V) (hT : TM M0 V) (hi : 30 ≤ i ∧ i ≤ 33) (he : eN i M0 M) : eM M0 (toldM M) := eM_told h hT he.1 (fun j a b c d e f g k => he.2 j a b c d (by omega))
theorem guard_loop {V : sV} {M0 : Nat → Nat → Int32} (h0 : MX M0 V) (hT : TM M0 V) : ∀ (k f : Nat) (I : Nat → Nat → Int32) (J : Nat → Nat → Int64) (M : Nat → Nat → Int32) (x : Fin 6), k ≤ 6 → k < f → SX I J 12 (v_setgd V x) → eN 31 M0 M → M 0 31 = zI ((k : Int) - 1) → ∃ y I' J' M', P_X6_mostGuard_13 f I J (zI ((k : Int) - 1)) = some (y, I', J') ∧ P_X7_mostGuard_10 f M = some (y, M') ∧ eX I I' ∧ eJ J J' ∧ eM M0 M' := by
  intro k
  induction k with
  | zero =>
    intro f I J M x hk hf hS he h31
    obtain ⟨g, rfl⟩ : ∃ g, f = g + 1 := ⟨f - 1, by omega⟩
    have c : zI (((0 : Nat) : Int) - 1) < zI 0 := by decide
    have c2 : ¬ zI 0 ≤ zI (((0 : Nat) : Int) - 1) := by decide
    refine ⟨zI (-2), I, J, toldM M, ?_, ?_, eX_r I, eJ_r J, eN_told h0 hT (by omega) he⟩
    · rw [P_X6_mostGuard_13]
      simp only [zI_add, zI_sub, zI_mul, zI_neg, zL]
      rw [if_pos (by decide)]
    · rw [P_X7_mostGuard_10]
      simp only [zL]
      rw [h31, if_pos c]
      unfold P_X7_mostGuard_37
      simp only [zL]
      rw [h31, if_neg c2, m_asTold]
      rfl
  | succ k ih =>
    intro f I J M x hk hf hS he h31
    obtain ⟨g, rfl⟩ : ∃ g, f = g + 1 := ⟨f - 1, by omega⟩
    have ek : ((k + 1 : Nat) : Int) - 1 = (k : Int) := by omega
    rw [ek] at h31 ⊢
    have c : ¬ zI (k : Int) < zI 0 := by rw [zI_lt] <;> omega
    have c2 : zI 0 ≤ zI (k : Int) := by rw [zI_le] <;> omega
    have hS1 := SX_setgd hS (f6 k)
    rw [f6_v (by omega)] at hS1
    have hM1 := MX_setgd h0 (f6 k)
    rw [f6_v (by omega)] at hM1
    have he1 := eN_M he (by omega)
    rw [h31] at he1
    have hM2 := MX_e he1 hM1
    obtain ⟨I1, J1, x1, x2, x3, x4⟩ := x_any hS1
    obtain ⟨M1, m1, m2⟩ := m_hasHits hM2
    have e0 := eN_t he (eP_M m2)
    have h31' : M1 0 31 = zI (k : Int) := by rw [m2.2 31 (by omega)]; exact h31
    have eI : eX I I1 := eX_t (eX_m (fun t ht => u2_ne (by omega))) x3
    rw [P_X6_mostGuard_13, P_X7_mostGuard_10]
    simp only [zL]
    rw [h31, if_neg c, if_neg c]
    simp only [qc_let]
    rw [x1, m1]
    simp only [Option.bind_some, bI_0]
    by_cases cs : strN (v_setgd V (f6 k)) (prods (v_setgd V (f6 k))) = 0
    · rw [decide_eq_true cs]
      refine ⟨zI (k : Int), I1, J1, toldM M1, rfl, ?_, eI, x4, eN_told h0 hT (by omega) e0⟩
      unfold P_X7_mostGuard_37
      simp only [zL]
      rw [if_pos (by decide), h31', if_pos c2, m_asTold]
      rfl
    · rw [decide_eq_false cs, if_neg (by decide), if_neg (by decide), h31']
      have e1 : zI (k : Int) + -zI 1 = zI ((k : Int) - 1) := by
        rw [zI_neg, zI_add]
        congr 1
      have e2 : zI (k : Int) - zI 1 = zI ((k : Int) - 1) := zI_sub _ _
      rw [e1, e2]
      obtain ⟨y, I2, J2, M2, f1, f2, f3, f4, f5⟩ := ih g I1 J1 (qc_u2 M1 0 31 (zI ((k : Int) - 1))) (f6 k) (by omega) (by omega) x2 (eN_u e0 _) (by rw [qG, if_pos ⟨rfl, rfl⟩])
      exact ⟨y, I2, J2, M2, f1, f2, eX_t eI f3, eJ_t x4 f4, f5⟩
theorem st_41 : St_41 Rel := by
  intro I J w M ⟨V, n, h0⟩
  have h := RelV_0 h0 (zI 0)
  obtain ⟨r, r1, r2, r3, r4, r5⟩ := x_copy h.1
  have hS : SX r.1 r.2 12 (v_setgd V (v_gd V)) := by rw [v_gdI]; exact r2
  obtain ⟨y, I2, J2, M2, f1, f2, f3, f4, f5⟩ := guard_loop h.2.1 h.2.2.1 6 qc_fu r.1 r.2 (qc_u2 (qc_u2 M 0 0 (zI 0)) 0 31 (zI 5)) (v_gd V) (by omega) (by unfold qc_fu; omega) hS (eN_u (eN_r _ _) _) (by rw [qG, if_pos ⟨rfl, rfl⟩]; rfl)
  unfold P_X6_mostGuard P_X7_mostGuard
  simp only [zL, qc_let]
  rw [r1]
  simp only [Option.bind_some]
  exact ⟨_, _, f1, f2, rfl, V, n, RelV_e (eX_t (eX_c r2 r4) f3) (eJ_t (eJ_c r5) f4) f5 h⟩
theorem space_loop {V : sV} {M0 : Nat → Nat → Int32} (h0 : MX M0 V) (hT : TM M0 V) : ∀ (k f : Nat) (I : Nat → Nat → Int32) (J : Nat → Nat → Int64) (M : Nat → Nat → Int32) (x : Fin 21), k ≤ 20 → k < f → SX I J 12 (v_setsp V x) → eN 32 M0 M → M 0 32 = zI (k : Int) → ∃ y I' J' M', P_X6_mostSpace_14 f I J (zI (k : Int)) = some (y, I', J') ∧ P_X7_mostSpace_11 f M = some (y, M') ∧ eX I I' ∧ eJ J J' ∧ eM M0 M' := by
  intro k
  induction k with
  | zero =>
    intro f I J M x hk hf hS he h32
    obtain ⟨g, rfl⟩ : ∃ g, f = g + 1 := ⟨f - 1, by omega⟩
    refine ⟨zI (-2), I, J, toldM M, ?_, ?_, eX_r I, eJ_r J, eN_told h0 hT (by omega) he⟩
    · rw [P_X6_mostSpace_14]
      simp only [zI_add, zI_sub, zI_mul, zI_neg, zL]
      rw [if_pos (by decide)]
    · rw [P_X7_mostSpace_11]
      simp only [zL]
      rw [h32, if_pos (by decide)]
      unfold P_X7_mostSpace_38
      simp only [zL]
      rw [h32, if_pos (by decide), m_asTold]
      rfl
  | succ k ih =>
    intro f I J M x hk hf hS he h32
    obtain ⟨g, rfl⟩ : ∃ g, f = g + 1 := ⟨f - 1, by omega⟩
    have c : ¬ zI ((k + 1 : Nat) : Int) < zI 1 := by rw [zI_lt] <;> omega
    have c2 : ¬ zI ((k + 1 : Nat) : Int) ≤ zI 0 := by rw [zI_le] <;> omega
    have c3 : ¬ zI ((k + 1 : Nat) : Int) = zI 0 := by rw [zI_eq] <;> omega
    have hS1 := SX_setsp hS (f21 (k + 1))
    rw [f21_v (by omega)] at hS1
    have hM1 := MX_setsp h0 (f21 (k + 1))
    rw [f21_v (by omega)] at hM1
    have he1 := eN_M he (by omega)
    rw [h32] at he1
    have hM2 := MX_e he1 hM1
    have hcb := couples_b (v_setsp V (f21 (k + 1)))
    have eI : eX I (qc_u2 I 12 3 (zI ((k + 1 : Nat) : Int))) := by
      refine eX_m ?_
      intro t ht
      rw [u2_ne (by omega)]
    rw [P_X6_mostSpace_14, P_X7_mostSpace_11]
    simp only [zL]
    rw [h32, if_neg c, if_neg c2, m_allCrowds hM2]
    simp only [qc_let]
    rw [x_couples hS1]
    simp only [Option.bind_some]
    by_cases cs : couples (v_setsp V (f21 (k + 1))) = 0
    · rw [if_pos (by rw [cs]; rfl), if_pos (by rw [cs]; decide)]
      refine ⟨zI ((k + 1 : Nat) : Int), _, J, toldM M, rfl, ?_, eI, eJ_r J, eN_told h0 hT (by omega) he⟩
      unfold P_X7_mostSpace_38
      simp only [zL]
      rw [h32, if_neg c3, m_asTold]
      rfl
    · rw [if_neg (by rw [zI_eq] <;> omega), if_neg (by rw [zI_le] <;> omega)]
      have e1 : zI ((k + 1 : Nat) : Int) + -zI 1 = zI (k : Int) := by
        rw [zI_neg, zI_add]
        congr 1
        omega
      have e2 : zI ((k + 1 : Nat) : Int) - zI 1 = zI (k : Int) := by
        rw [zI_sub]
        congr 1
        omega
      rw [e1, e2]
      obtain ⟨y, I2, J2, M2, f1, f2, f3, f4, f5⟩ := ih g (qc_u2 I 12 3 (zI ((k + 1 : Nat) : Int))) J (qc_u2 M 0 32 (zI (k : Int))) (f21 (k + 1)) (by omega) (by omega) hS1 (eN_u he _) (by rw [qG, if_pos ⟨rfl, rfl⟩])
      exact ⟨y, I2, J2, M2, f1, f2, eX_t eI f3, f4, f5⟩
theorem st_36 : St_36 Rel := by
  intro I J w M ⟨V, n, h0⟩
  have h := RelV_0 h0 (zI 0)
  obtain ⟨r, r1, r2, r3, r4, r5⟩ := x_copy h.1
  have hS : SX r.1 r.2 12 (v_setsp V (v_sp V)) := by rw [v_spI]; exact r2
  obtain ⟨y, I2, J2, M2, f1, f2, f3, f4, f5⟩ := space_loop h.2.1 h.2.2.1 20 qc_fu r.1 r.2 (qc_u2 (qc_u2 M 0 0 (zI 0)) 0 32 (zI 20)) (v_sp V) (by omega) (by unfold qc_fu; omega) hS (eN_u (eN_r _ _) _) (by rw [qG, if_pos ⟨rfl, rfl⟩]; rfl)
  unfold P_X6_mostSpace P_X7_mostSpace
  simp only [zL, qc_let]
  rw [r1]
  simp only [Option.bind_some]
  exact ⟨_, _, f1, f2, rfl, V, n, RelV_e (eX_t (eX_c r2 r4) f3) (eJ_t (eJ_c r5) f4) f5 h⟩
