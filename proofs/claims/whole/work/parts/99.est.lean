/-! THE START, and the whole -/
theorem iX_d : iX0 2 0 = zI 0 ∧ iX0 2 1 = zI 30 ∧ iX0 2 2 = zI 0 ∧ iX0 2 3 = zI 1 ∧ iX0 2 4 = zI 2 ∧ iX0 2 5 = zI 0 ∧ iX0 3 0 = zI 5 ∧ iX0 3 1 = zI 10 ∧ iX0 3 2 = zI 20 ∧ iX0 0 1 = zI 0 ∧ iX0 0 2 = zI 0 ∧ iX0 0 3 = zI (-1) ∧ iX0 35 1 = zI 0 ∧ iX0 0 10 = zI 0 := by decide +kernel
theorem iX_lk : ∀ k : Fin 9, iX0 4 k.val = zI (if k.val % 4 = 0 then 0 else 1000) ∧ iX0 14 k.val = zI (lkX k.val 100) := by decide +kernel
theorem iX_row : ∀ (t : Fin 7) (u : Fin 8), iX0 (t.val + 5) u.val = zI 0 := by decide +kernel
theorem iX_1 : iX0 1 = fun _ => zI 0 := by
  funext j
  unfold iX0 iPr iSc12 iSc2
  simp (disch := omega) only [qG, iteF]
  rfl
theorem iM_d : iM0 0 2 = zI 0 ∧ iM0 0 23 = zI 0 ∧ iM0 0 24 = zI (-1) ∧ iM0 0 28 = zI 0 ∧ iM0 0 29 = zI 0 := by decide +kernel
theorem w0_ok : WW w0X := by
  refine ⟨fun j => ?_, fun j hj => ?_, fun i j hi hj e => ?_⟩
  · unfold w0X; omega
  · unfold w0X; omega
  · unfold w0X at e; omega
theorem start_ok : ∃ I1 I2 I3 : Nat → Nat → Int32, P_X7_freshText iM0 = some I1 ∧ P_X7_takeText I1 = some I2 ∧ P_X7_begins I2 = some I3 ∧ Rel iX0 (fun _ _ => 0) w0X I3 := by
  obtain ⟨N, f1, f2, f3, f4, f5, f6, f7⟩ := m_fresh iM0
  obtain ⟨a0, a1, a2, a3, a4, a5, b0, b1', b2, c1, c2, c3, c4, c5⟩ := iX_d
  obtain ⟨d1, d2, d3, d4, d5⟩ := iM_d
  have e : ∀ t j, 122 ≤ t → t ≤ 131 → (fun t j => if 122 ≤ t ∧ t ≤ 131 then iX0 (t - 120) j else zI 0) t j = iX0 (t - 120) j := fun t j h1 h2 => if_pos ⟨h1, h2⟩
  have hS : SR 0 30 0 (fun t j => if 122 ≤ t ∧ t ≤ 131 then iX0 (t - 120) j else zI 0) (fun _ _ => 0) N := by
    refine SR_init ⟨a0, a1, a2, a3, a4, a5⟩ ⟨b0, b1', b2⟩ ?_ ?_ ⟨rfl, rfl, rfl, rfl⟩ rfl f2 f3 f4 f5 f6
    · intro k hk
      exact (iX_lk ⟨k, hk⟩).1
    · intro t u h1 h2 hu
      have := iX_row ⟨t - 125, by omega⟩ ⟨u, hu⟩
      dsimp only at this
      rw [show t - 125 + 5 = t - 120 by omega] at this
      show (if 122 ≤ t ∧ t ≤ 131 then iX0 (t - 120) u else zI 0) = zI 0
      rw [if_pos (by omega), this]
  obtain ⟨N1, N2, k1, k2, k3, k4⟩ := mk_rel (X := iX0) (JX := fun _ _ => 0) (w := w0X) (SR_n hS)
    (fun t j h1 h2 => by
      show iX0 t j = if 122 ≤ t + 120 ∧ t + 120 ≤ 131 then iX0 (t + 120 - 120) j else zI 0
      rw [if_pos (by omega), show t + 120 - 120 = t by omega])
    rfl
    (by
      funext j
      rw [iX_1, f7 1 j (by omega)]
      rfl)
    c1 (by rw [f7 0 2 (by omega)]; exact d1)
    (fun k _ => ⟨0, by rw [iX_1]; rfl⟩)
    (by rw [f7 0 23 (by omega), d2]; exact c2)
    (by rw [f7 0 24 (by omega), d3]; exact c3)
    c4 c5 w0_ok (fun k hk => ⟨100, (iX_lk ⟨k, hk⟩).2⟩)
  refine ⟨N, N1, N2, f1, k1, k2, ?_⟩
  have e28 : N2 0 28 = zI 0 := by rw [k3 28 (by omega), f7 0 28 (by omega)]; exact d4
  have e29 : N2 0 29 = zI 0 := by rw [k3 29 (by omega), f7 0 29 (by omega)]; exact d5
  have eN : qc_u2 (qc_u2 N2 0 28 (zI 0)) 0 29 (zI 0) = N2 := by
    funext t j
    rw [qG, qG]
    by_cases z : t = 0 ∧ j = 29
    · rw [if_pos z, z.1, z.2, e29]
    · rw [if_neg z]
      by_cases z2 : t = 0 ∧ j = 28
      · rw [if_pos z2, z2.1, z2.2, e28]
      · rw [if_neg z2]
  rw [eN] at k4
  exact k4
theorem pure_ok : Pure Rel := ⟨fun I J w M h => rel_w h, ⟨st_0, st_1, st_2, st_3, st_4, st_5, st_6, st_7, st_8, st_9, st_10, st_11, st_12, st_13, st_14, st_15, st_16, st_17, st_18, st_19, st_20, st_21, st_22, st_23, st_24, st_25, st_26, st_27, st_28, st_29, st_30, st_31, st_32, st_33, st_34, st_35, st_36, st_37, st_38, st_39, st_40, st_41, st_42, st_43, st_44, st_45, st_46⟩, start_ok⟩
/-- from the entry, for every script of at most 3072 ints, the law comes to its end with true -/
theorem whole_start {p : Program} {e : Env} {s : State} {m : MethodId} {below : List Frame} {meth : Method} {c : Code} (l : Launch) (hflags : l.flags = flags0) {b L : Nat} {xs : Nat → Int32} (hL : L ≤ 3072) (C0 : lw_At p s m meth c b L xs) : W p l e room_1 s m #[Value.ref b] below meth c s.heap [] 0 0 (lw_Z below #[Value.ref b] s) (entryFrame m ([Value.ref b] : List Value).toArray 7) := lw_whole pure_ok l hflags hL C0
