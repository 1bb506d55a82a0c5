/-! THE START, and the whole -/
theorem iX_d : iX0 2 0 = zI 0 ∧ iX0 2 1 = zI 30 ∧ iX0 2 2 = zI 0 ∧ iX0 2 3 = zI 1 ∧ iX0 2 4 = zI 2 ∧ iX0 2 5 = zI 0 ∧ iX0 3 0 = zI 5 ∧ iX0 3 1 = zI 10 ∧ iX0 3 2 = zI 20 ∧ iX0 0 1 = zI 0 ∧ iX0 0 2 = zI 0 ∧ iX0 0 3 = zI (-1) ∧ iX0 35 1 = zI 0 ∧ iX0 0 10 = zI 0 := by decide +kernel
theorem iX_lk : ∀ k : Fin 9, iX0 4 k.val = zI (if k.val % 4 = 0 then 0 else 1000) ∧ iX0 14 k.val = zI (lkX k.val 100) := by decide +kernel
theorem iX_row : ∀ (t : Fin 7) (u : Fin 8), iX0 (t.val + 5) u.val = zI 0 := by decide +kernel
theorem iX_1 : iX0 1 = fun _ => zI 0 := by
  funext j
  unfold iX0 iPr iSc12 iSc2
  simp (disch := omega) only [qG, iteF]
  rfl
theorem iM_d : iM0 0 2 = zI 0 ∧ iM0 0 23 = zI 0 ∧ iM0 0 24 = zI (-1) ∧ iM0 0 28 = zI 0 ∧ iM0 0 29 = zI 0 := by decide +kernel
theorem w0_ok : WW w0X := by
  refine ⟨fun j => ?_, fun j hj => ?_, fun i j hi hj e => ?_⟩
  · unfold w0X; omega
  · unfold w0X; omega
  · unfold w0X at e; omega
/-- the first scene, where a reader would have it -/
def iH (t j : Nat) : Int32 := if 122 ≤ t ∧ t ≤ 131 then iX0 (t - 120) j else zI 0
theorem iH_s {t : Nat} (j : Nat) (h1 : 2 ≤ t) (h2 : t ≤ 11) : iH (t + 120) j = iX0 t j := by
  unfold iH
  rw [if_pos (by omega), show t + 120 - 120 = t by omega]
theorem iH_0 {t : Nat} (j : Nat) (h : t < 122) : iH t j = zI 0 := by
  unfold iH
  rw [if_neg (by omega)]
theorem start_SR {N : Nat → Nat → Int32} (f2 : N 2 10 = zI 30 ∧ N 2 11 = zI 0 ∧ N 2 12 = zI 1 ∧ N 2 13 = zI 2 ∧ N 2 14 = zI 5 ∧ N 2 15 = zI 10 ∧ N 2 16 = zI 20 ∧ N 2 17 = zI 0 ∧ N 2 18 = zI 0 ∧ N 2 19 = zI 0) (f3 : ∀ k, k < 9 → N 11 (9 + k) = zI (-2)) (f4 : ∀ k, k < 11 → N 3 k = zI 0) (f5 : ∀ c, c < 61 → N 12 (61 + c) = zI 0) (f6 : N 0 14 = zI 0) : SR 0 30 0 iH (fun _ _ => 0) N := by
  obtain ⟨a0, a1, a2, a3, a4, a5, b0, b1', b2, _⟩ := iX_d
  have s2 : ∀ j, iH 122 j = iX0 2 j := fun j => iH_s (t := 2) j (by omega) (by omega)
  have s3 : ∀ j, iH 123 j = iX0 3 j := fun j => iH_s (t := 3) j (by omega) (by omega)
  have s4 : ∀ j, iH 124 j = iX0 4 j := fun j => iH_s (t := 4) j (by omega) (by omega)
  refine SR_init ⟨(s2 0).trans a0, (s2 1).trans a1, (s2 2).trans a2, (s2 3).trans a3, (s2 4).trans a4, (s2 5).trans a5⟩ ⟨(s3 0).trans b0, (s3 1).trans b1', (s3 2).trans b2⟩ (fun k hk => (s4 k).trans (iX_lk ⟨k, hk⟩).1) (fun t u h1 h2 hu => ?_) ⟨iH_0 10 (by omega), iH_0 11 (by omega), iH_0 12 (by omega), iH_0 13 (by omega)⟩ rfl f2 f3 f4 f5 f6
  have := iX_row ⟨t - 125, by omega⟩ ⟨u, hu⟩
  dsimp only at this
  rw [show t - 125 + 5 = t - 120 by omega] at this
  have e := iH_s (t := t - 120) u (by omega) (by omega)
  rw [show t - 120 + 120 = t by omega] at e
  rw [e, this]
theorem start_ok : ∃ I1 I2 I3 : Nat → Nat → Int32, P_X7_freshText iM0 = some I1 ∧ P_X7_takeText I1 = some I2 ∧ P_X7_begins I2 = some I3 ∧ Rel iX0 (fun _ _ => 0) w0X I3 := by
  obtain ⟨N, f1, f2, f3, f4, f5, f6, f7⟩ := m_fresh iM0
  obtain ⟨_, _, _, _, _, _, _, _, _, c1, c2, c3, c4, c5⟩ := iX_d
  obtain ⟨d1, d2, d3, d4, d5⟩ := iM_d
  have hS := SR_n (start_SR f2 f3 f4 f5 f6)
  have t1 : iX0 1 = N 1 := by
    funext j
    rw [iX_1, f7 1 j (by omega)]
    unfold iM0
    rw [qG, if_neg (by omega)]
    rfl
  have t3 : N 0 2 = zI 0 := (f7 0 2 (by omega)).trans d1
  have t4 : ∀ k, k < 700 → ∃ b : Fin 256, iX0 1 k = zI b.val := fun k _ => ⟨0, by rw [iX_1]; rfl⟩
  have t5 : iX0 0 2 = N 0 23 := c2.trans ((f7 0 23 (by omega)).trans d2).symm
  have t6 : iX0 0 3 = N 0 24 := c3.trans ((f7 0 24 (by omega)).trans d3).symm
  have tL : LT (iX0 14) := fun k hk => ⟨100, (iX_lk ⟨k, hk⟩).2⟩
  obtain ⟨N1, N2, k1, k2, k3, k4⟩ := mk_rel (X := iX0) (JX := fun _ _ => 0) (w := w0X) hS (fun t j h1 h2 => (iH_s j h1 h2).symm) rfl t1 c1 t3 t4 t5 t6 c4 c5 w0_ok tL
  refine ⟨N, N1, N2, f1, k1, k2, ?_⟩
  have e28 : N2 0 28 = zI 0 := (k3 28 (by omega)).trans ((f7 0 28 (by omega)).trans d4)
  have e29 : N2 0 29 = zI 0 := (k3 29 (by omega)).trans ((f7 0 29 (by omega)).trans d5)
  have eN : qc_u2 (qc_u2 N2 0 28 (zI 0)) 0 29 (zI 0) = N2 := by
    funext t j
    rw [qG, qG]
    by_cases z : t = 0 ∧ j = 29
    · rw [if_pos z, z.1, z.2, e29]
    · rw [if_neg z]
      by_cases z2 : t = 0 ∧ j = 28
      · rw [if_pos z2, z2.1, z2.2, e28]
      · rw [if_neg z2]
  rw [eN] at k4
  exact k4
theorem pure_ok : Pure Rel := ⟨fun I J w M h => rel_w h, ⟨st_0, st_1, st_2, st_3, st_4, st_5, st_6, st_7, st_8, st_9, st_10, st_11, st_12, st_13, st_14, st_15, st_16, st_17, st_18, st_19, st_20, st_21, st_22, st_23, st_24, st_25, st_26, st_27, st_28, st_29, st_30, st_31, st_32, st_33, st_34, st_35, st_36, st_37, st_38, st_39, st_40, st_41, st_42, st_43, st_44, st_45, st_46⟩, start_ok⟩
/-- from the entry, for every script of at most 3072 ints, the law comes to its end with true -/
theorem whole_start {p : Program} {e : Env} {s : State} {m : MethodId} {below : List Frame} {meth : Method} {c : Code} (l : Launch) (hflags : l.flags = flags0) {b L : Nat} {xs : Nat → Int32} (hL : L ≤ 3072) (C0 : lw_At p s m meth c b L xs) : W p l e room_1 s m #[Value.ref b] below meth c s.heap [] 0 0 (lw_Z below #[Value.ref b] s) (entryFrame m ([Value.ref b] : List Value).toArray 7) := lw_whole pure_ok l hflags hL C0
