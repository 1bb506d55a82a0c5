/-! undo, keep, back, nearest -/
/-- a scene with an image laid over it -/
def v_im (V : sV) (m : iV) : sV := (V.1, (v_st V, v_lo V, v_hi V, (fun u => if u < 6 then m.1 u else v_ch V u), (fun u => if u < 6 then m.2.1 u else v_pw V u), (fun u => if u < 6 then m.2.2.1 u else v_sl V u)), v_ls V, v_lk V, m.2.2.2)
theorem give_back {V : sV} {n n' q k : Nat} {I I1 : Nat → Nat → Int32} {J : Nat → Nat → Int64} {w : Nat → Nat} {M M1 : Nat → Nat → Int32} (h : RelV V n I J w M) (hq : 37 ≤ q) (hq2 : q < 121) (hk : k ≤ 20) (hR : IR I J M V q k) (hn : n' ≤ n) (hI1 : ∀ t, t ≠ 35 → I1 t = I t) (hI2 : I1 35 1 = zI (n' : Nat)) (hM1 : ∀ t, t ≠ 0 → M1 t = M t) (hM2 : ∀ j, j ≠ 28 → M1 0 j = M 0 j) (hM3 : M1 0 28 = zI (n' : Nat)) : ∃ W, wp (P_X1_giveTo I1 J q 2) (fun r => RelV W n' r.1 r.2 w (cpM M1 13 14 (79 * k) 0 79)) := by
  obtain ⟨m, hX, hI, hz⟩ := hR
  obtain ⟨hS, hM, hT, hP, hH, hK, hW, hN⟩ := h
  obtain ⟨I', e1, k1, k2, k3, k4⟩ := x_giveTo I1 J hq
  obtain ⟨hus, hbd, hgd, hsp, hod, hst, hlo, hhi, hch, hpw, hsl, hls, hlk, hsh⟩ := hS
  obtain ⟨mus, mbd, mgd, msp, mod, mst, mlo, mhi, mch, mpw, msl, mls, mlk, msh, m6, ml1⟩ := hM
  obtain ⟨x1, x2, x3, x4⟩ := hX
  obtain ⟨y1, y2, y3, y4⟩ := hI
  obtain ⟨t1, t2, t3, t4, t5, t6, t7, t8, t9⟩ := hT
  have cp : ∀ j, j < 79 → cpM M1 13 14 (79 * k) 0 79 13 j = M 14 (79 * k + j) := by
    intro j hj
    rw [cpM_at, if_pos (by omega), hM1 14 (by omega), Nat.sub_zero]
  have cn : ∀ t, t ≠ 13 → cpM M1 13 14 (79 * k) 0 79 t = M1 t := fun t ht => cpM_ne _ _ _ _ _ _ ht
  have hRR : ∀ q2 k2, 37 ≤ q2 → q2 ≠ 35 → IR I J M V q2 k2 → IR I' (qc_u2 J 2 6 (J q 3)) (cpM M1 13 14 (79 * k) 0 79) (v_im V m) q2 k2 := by
    intro q2 k2 h37 _ hr
    have e : qc_u2 J 2 6 (J q 3) q2 = J q2 := by
      unfold qc_u2 qc_u
      rw [if_neg (by omega)]
    unfold IR IX IM at *
    rw [k1 _ (by omega) (by omega) (by omega), k1 _ (by omega) (by omega) (by omega), k1 _ (by omega) (by omega) (by omega), hI1 _ (by omega), hI1 _ (by omega), hI1 _ (by omega), e, cn 14 (by omega), hM1 14 (by omega)]
    exact hr
  refine ⟨v_im V m, ?_⟩
  rw [e1]
  refine wp_some ?_
  show RelV (v_im V m) n' I' (qc_u2 J 2 6 (J q 3)) w (cpM M1 13 14 (79 * k) 0 79)
  refine ⟨?_, ?_, ?_, ?_, ?_, ?_, hW, ?_⟩
  · refine ⟨?_, ?_, ?_, ?_, ?_, ?_, ?_, ?_, ?_, ?_, ?_, ?_, ?_, ?_⟩
    · show I' 2 0 = _; rw [k1 2 (by omega) (by omega) (by omega), hI1 2 (by omega)]; exact hus
    · show I' 2 1 = _; rw [k1 2 (by omega) (by omega) (by omega), hI1 2 (by omega)]; exact hbd
    · show I' 2 2 = _; rw [k1 2 (by omega) (by omega) (by omega), hI1 2 (by omega)]; exact hgd
    · show I' 2 3 = _; rw [k1 2 (by omega) (by omega) (by omega), hI1 2 (by omega)]; exact hsp
    · show I' 2 4 = _; rw [k1 2 (by omega) (by omega) (by omega), hI1 2 (by omega)]; exact hod
    · show ∀ u, u < 8 → I' 6 u = _; rw [k1 6 (by omega) (by omega) (by omega), hI1 6 (by omega)]; exact hst
    · show ∀ u, u < 8 → I' 7 u = _; rw [k1 7 (by omega) (by omega) (by omega), hI1 7 (by omega)]; exact hlo
    · show ∀ u, u < 8 → I' 8 u = _; rw [k1 8 (by omega) (by omega) (by omega), hI1 8 (by omega)]; exact hhi
    · intro u hu
      show I' 9 u = zI (((if u < 6 then m.1 u else v_ch V u)).val : Int)
      rw [k2 u]
      by_cases c : u < 6
      · rw [if_pos c, if_pos c, hI1 _ (by omega)]; exact x1 u c
      · rw [if_neg c, if_neg c, hI1 9 (by omega)]; exact hch u hu
    · intro u hu
      show I' 10 u = zI (((if u < 6 then m.2.1 u else v_pw V u)).val : Int)
      rw [k3 u]
      by_cases c : u < 6
      · rw [if_pos c, if_pos c, hI1 _ (by omega)]; exact x2 u c
      · rw [if_neg c, if_neg c, hI1 10 (by omega)]; exact hpw u hu
    · intro u hu
      show I' 11 u = zI (((if u < 6 then m.2.2.1 u else v_sl V u)).val : Int)
      rw [k4 u]
      by_cases c : u < 6
      · rw [if_pos c, if_pos c, hI1 _ (by omega)]; exact x3 u c
      · rw [if_neg c, if_neg c, hI1 11 (by omega)]; exact hsl u hu
    · show ∀ u, u < 3 → I' 3 u = _; rw [k1 3 (by omega) (by omega) (by omega), hI1 3 (by omega)]; exact hls
    · show ∀ u, u < 9 → I' 4 u = _; rw [k1 4 (by omega) (by omega) (by omega), hI1 4 (by omega)]; exact hlk
    · intro c hc
      rw [qG, if_pos ⟨rfl, rfl⟩]
      exact x4 c hc
  · unfold MX
    rw [cn 2 (by omega), cn 0 (by omega), cn 5 (by omega), cn 7 (by omega), cn 8 (by omega), cn 11 (by omega), hM1 2 (by omega), hM1 5 (by omega), hM1 7 (by omega), hM1 8 (by omega), hM1 11 (by omega), hM2 30 (by omega), hM2 31 (by omega), hM2 32 (by omega), hM2 33 (by omega)]
    refine ⟨mus, mbd, mgd, msp, mod, mst, mlo, mhi, ?_, ?_, ?_, mls, mlk, ?_, m6, ml1⟩
    · intro u hu
      have hu2 : u < (v_us V).val := hu
      rw [cp u (by omega)]
      show _ = zI (((if u < 6 then m.1 u else v_ch V u)).val : Int)
      rw [if_pos (by omega)]
      exact y1 u hu2
    · intro u hu
      have hu2 : u < (v_us V).val := hu
      rw [cp _ (by omega)]
      show _ = zI (((if u < 6 then m.2.1 u else v_pw V u)).val : Int)
      rw [if_pos (by omega)]
      exact y2 u hu2
    · intro u hu
      have hu2 : u < (v_us V).val := hu
      rw [cp _ (by omega)]
      show _ = zI (((if u < 6 then m.2.2.1 u else v_sl V u)).val : Int)
      rw [if_pos (by omega)]
      exact y3 u hu2
    · intro c h1 h2
      have h2' : c ≤ (v_bd V).val := h2
      rw [cp _ (by omega)]
      exact y4 c h1 (by omega)
  · unfold TM
    rw [cn 2 (by omega), cn 8 (by omega), hM1 2 (by omega), hM1 8 (by omega)]
    refine ⟨t1, t2, t3, t4, t5, t6, t7, ?_, hz⟩
    intro c h1 h2
    have h1' : (v_bd V).val < c := h1
    rw [cp _ (by omega), y4 c (by omega) h2, hz c (by omega) (by omega)]
    rfl
  · unfold TP at *
    rw [k1 0 (by omega) (by omega) (by omega), k1 1 (by omega) (by omega) (by omega), hI1 0 (by omega), hI1 1 (by omega), cn 1 (by omega), cn 0 (by omega), hM1 1 (by omega), hM2 2 (by omega), hM2 23 (by omega), hM2 24 (by omega)]
    exact hP
  · refine ⟨by have := hH.1; omega, ?_, ?_, ?_⟩
    · rw [k1 35 (by omega) (by omega) (by omega)]; exact hI2
    · rw [cn 0 (by omega)]; exact hM3
    · intro k2 hk2
      have h37 := (hW.2.1 k2 (by have := hH.1; omega)).1
      exact hRR _ _ h37 (by omega) (hH.2.2.2 k2 (by omega))
  · obtain ⟨b, b1, b2, b3⟩ := hK
    refine ⟨b, ?_, ?_, fun hb => hRR _ _ (by omega) (by omega) (b3 hb)⟩
    · rw [k1 0 (by omega) (by omega) (by omega), hI1 0 (by omega)]; exact b1
    · rw [cn 0 (by omega), hM2 29 (by omega)]; exact b2
  · unfold NM at *
    rw [k1 2 (by omega) (by omega) (by omega), k1 5 (by omega) (by omega) (by omega), k1 14 (by omega) (by omega) (by omega), hI1 2 (by omega), hI1 5 (by omega), hI1 14 (by omega), cn 2 (by omega), cn 4 (by omega), hM1 2 (by omega), hM1 4 (by omega)]
    exact hN
theorem st_43 : St_43 Rel := by
  intro I J w M ⟨V, n, h0⟩
  have h := RelV_0 h0 (zI 0)
  obtain ⟨hn, hI, h28, hH⟩ := h.2.2.2.2.1
  unfold P_X6_undo P_X0_pop P_X7_undo
  simp only [zL, qc_let]
  rw [hI, h28]
  by_cases c : n = 0
  · subst c
    rw [if_neg (by decide), if_pos (by decide)]
    exact ⟨_, _, rfl, rfl, rfl, V, 0, h⟩
  · rw [if_pos (show zI 0 < zI (n : Int) by rw [zI_lt] <;> omega), if_neg (show ¬ zI (n : Int) = zI 0 by rw [zI_eq] <;> omega)]
    have e1 : zI (n : Int) - zI 1 = zI ((n - 1 : Nat) : Int) := by
      rw [zI_sub]
      congr 1
      omega
    rw [e1]
    have e2 : qc_u2 I 35 1 (zI ((n - 1 : Nat) : Int)) 35 1 = zI ((n - 1 : Nat) : Int) := by rw [qG, if_pos ⟨rfl, rfl⟩]
    have e3 : qc_u2 (qc_u2 M 0 0 (zI 0)) 0 28 (zI ((n - 1 : Nat) : Int)) 0 28 = zI ((n - 1 : Nat) : Int) := by rw [qG, if_pos ⟨rfl, rfl⟩]
    rw [e2, e3]
    have hw := h.2.2.2.2.2.2.1.2.1 (n - 1) (by omega)
    have e4 : (zI ((n - 1 : Nat) : Int)).toNatClampNeg = n - 1 := by rw [zI_cl (by omega) (by omega), Int.toNat_natCast]
    have i1 : qc_in (zI ((n - 1 : Nat) : Int)) 20 := by
      unfold qc_in
      rw [show (0 : Int32) = zI 0 from rfl, zI_lt (by omega) (by omega) (by omega) (by omega), e4]
      omega
    rw [if_pos i1, e4, if_pos hw, m_laysBack (by omega)]
    obtain ⟨W, hW⟩ := give_back (n' := n - 1) (q := w (n - 1)) (k := n - 1) (I1 := qc_u2 I 35 1 (zI ((n - 1 : Nat) : Int))) (M1 := qc_u2 (qc_u2 M 0 0 (zI 0)) 0 28 (zI ((n - 1 : Nat) : Int))) h hw.1 (by omega) (by omega) (hH (n - 1) (by omega)) (by omega) (fun t ht => u2_ne ht) e2 (fun t ht => u2_ne ht) (fun j hj => by rw [qG, if_neg (by omega)]) e3
    obtain ⟨r, r1, r2⟩ := hW
    rw [r1]
    refine ⟨_, _, rfl, rfl, ?_, W, n - 1, r2⟩
    show r.1 35 1 = cpM (qc_u2 (qc_u2 M 0 0 (zI 0)) 0 28 (zI ((n - 1 : Nat) : Int))) 13 14 (79 * (n - 1)) 0 79 0 28
    rw [cpM_ne _ _ _ _ _ _ (by omega), e3]
    exact r2.2.2.2.2.1.2.1
theorem st_45 : St_45 Rel := by
  intro I J w M ⟨V, n, h0⟩
  have h := RelV_0 h0 (zI 0)
  obtain ⟨b, b1, b2, b3⟩ := h.2.2.2.2.2.1
  unfold P_X6_back P_X7_back
  simp only [zL, qc_let]
  rw [b1, b2]
  cases b
  · rw [if_pos (by decide), if_pos (by decide)]
    exact ⟨_, _, rfl, rfl, rfl, V, n, h⟩
  · rw [if_neg (by decide), if_neg (by decide), show zI 20 = zI ((20 : Nat) : Int) from rfl, m_laysBack (by omega)]
    -- the size is set behind it: the same as before it
    obtain ⟨I', e1, k1, k2, k3, k4⟩ := x_giveTo I J (q := 117) (by omega)
    obtain ⟨J1, hJ1⟩ : ∃ J1, J1 = qc_u2 J 2 6 (J 117 3) := ⟨_, rfl⟩
    have hg := give_back (n' := 0) (q := 117) (k := 20) (I1 := qc_u2 I 35 1 (zI 0)) (M1 := qc_u2 (qc_u2 M 0 0 (zI 0)) 0 28 (zI 0)) h (by omega) (by omega) (by omega) (b3 rfl) (by omega) (fun t ht => u2_ne ht) (by rw [qG, if_pos ⟨rfl, rfl⟩]; rfl) (fun t ht => u2_ne ht) (fun j hj => by rw [qG, if_neg (by omega)]) (by rw [qG, if_pos ⟨rfl, rfl⟩]; rfl)
    obtain ⟨W, r, r1, r2⟩ := hg
    obtain ⟨I2, f1, l1, l2, l3, l4⟩ := x_giveTo (qc_u2 I 35 1 (zI 0)) J (q := 117) (by omega)
    rw [f1] at r1
    have r1 := Option.some.inj r1
    have eI : qc_u2 I' 35 1 (zI 0) = I2 := by
      funext t j
      rw [qG]
      by_cases c9 : t = 9
      · subst c9; rw [if_neg (by omega), k2, l2, u2_ne (by omega), u2_ne (by omega)]
      · by_cases c10 : t = 10
        · subst c10; rw [if_neg (by omega), k3, l3, u2_ne (by omega), u2_ne (by omega)]
        · by_cases c11 : t = 11
          · subst c11; rw [if_neg (by omega), k4, l4, u2_ne (by omega), u2_ne (by omega)]
          · rw [k1 t c9 c10 c11, l1 t c9 c10 c11, qG]
    have eM : qc_u2 (cpM (qc_u2 M 0 0 (zI 0)) 13 14 (79 * 20) 0 79) 0 28 (zI 0) = cpM (qc_u2 (qc_u2 M 0 0 (zI 0)) 0 28 (zI 0)) 13 14 (79 * 20) 0 79 := by
      funext t j
      rw [qG, cpM_at, cpM_at, u2_ne (t' := 14) (by omega), u2_ne (t' := 14) (by omega), u2_ne (t' := 14) (by omega)]
      by_cases c : t = 13
      · subst c
        rw [if_neg (by omega)]
        rw [u2_ne (t' := 13) (by omega), u2_ne (t' := 13) (by omega), u2_ne (t' := 13) (by omega)]
      · rw [if_neg (show ¬ (t = 13 ∧ 0 ≤ j ∧ j < 0 + 79) by omega), if_neg (show ¬ (t = 13 ∧ 0 ≤ j ∧ j < 0 + 79) by omega)]
        rw [qG (qc_u2 M 0 0 (zI 0)) 0 28]
    rw [e1]
    simp only [Option.bind_some]
    rw [eI, eM]
    have hr1 : r.1 = I2 := by rw [← r1]
    have hr2 : r.2 = qc_u2 J 2 6 (J 117 3) := by rw [← r1]
    rw [hr1, hr2] at r2
    rw [x_tuned r2.1, Option.bind_some, set_c _ (by omega), m_tuned r2.2.1]
    exact ⟨_, _, rfl, rfl, rfl, W, 0, r2⟩
theorem st_44 : St_44 Rel := by
  intro I J w M ⟨V, n, h0⟩
  have h := RelV_0 h0 (zI 0)
  obtain ⟨hS, hM, hT, hP, hH, hK, hW, hN⟩ := h
  obtain ⟨I', e1, k1, k2, k3, k4⟩ := x_take I J (q := 117) (by omega)
  unfold P_X6_keep P_X7_keep
  simp only [zL, qc_let]
  rw [e1, show zI 20 = zI ((20 : Nat) : Int) from rfl, m_lays (by omega)]
  simp only [Option.bind_some]
  generalize hM0 : qc_u2 M 0 0 (zI 0) = M0 at *
  have i1 : ∀ t, t ≠ 0 → t ≠ 118 → t ≠ 119 → t ≠ 120 → qc_u2 I' 0 10 (zI 1) t = I t := by
    intro t a b c d
    rw [u2_ne a]
    exact k1 t b c d
  have i0 : ∀ j, j ≠ 10 → qc_u2 I' 0 10 (zI 1) 0 j = I 0 j := by
    intro j a
    rw [qG, if_neg (by omega), k1 0 (by omega) (by omega) (by omega)]
  have c1 : ∀ t, t ≠ 0 → t ≠ 14 → qc_u2 (cpM M0 14 13 0 (79 * 20) 79) 0 29 (zI 1) t = M0 t := by
    intro t a b
    rw [u2_ne a, cpM_ne _ _ _ _ _ _ b]
  have c0 : ∀ j, j ≠ 29 → qc_u2 (cpM M0 14 13 0 (79 * 20) 79) 0 29 (zI 1) 0 j = M0 0 j := by
    intro j a
    rw [qG, if_neg (by omega), cpM_ne _ _ _ _ _ _ (by omega)]
  have hS2 : SX (qc_u2 I' 0 10 (zI 1)) (qc_u2 J 117 3 (J 2 6)) 2 V := SX_e (fun t _ _ => i1 t (by omega) (by omega) (by omega) (by omega)) (by unfold qc_u2 qc_u; rw [if_neg (by omega)]) hS
  have hM2 : MX (qc_u2 (cpM M0 14 13 0 (79 * 20) 79) 0 29 (zI 1)) V := by
    unfold MX at *
    rw [c1 2 (by omega) (by omega), c1 5 (by omega) (by omega), c1 7 (by omega) (by omega), c1 8 (by omega) (by omega), c1 11 (by omega) (by omega), c1 13 (by omega) (by omega), c0 30 (by omega), c0 31 (by omega), c0 32 (by omega), c0 33 (by omega)]
    exact hM
  have hT2 : TM (qc_u2 (cpM M0 14 13 0 (79 * 20) 79) 0 29 (zI 1)) V := by
    unfold TM at *
    rw [c1 2 (by omega) (by omega), c1 8 (by omega) (by omega), c1 13 (by omega) (by omega)]
    exact hT
  rw [x_tuned hS2, Option.bind_some, set_c _ (by omega), m_tuned hM2]
  refine ⟨_, _, rfl, rfl, rfl, V, n, ?_⟩
  show RelV V n (qc_u2 I' 0 10 (zI 1)) (qc_u2 J 117 3 (J 2 6)) w (qc_u2 (cpM M0 14 13 0 (79 * 20) 79) 0 29 (zI 1))
  refine ⟨hS2, hM2, hT2, ?_, ?_, ?_, hW, ?_⟩
  · unfold TP at *
    rw [i0 1 (by omega), i0 2 (by omega), i0 3 (by omega), i1 1 (by omega) (by omega) (by omega) (by omega), c1 1 (by omega) (by omega), c0 2 (by omega), c0 23 (by omega), c0 24 (by omega)]
    exact hP
  · obtain ⟨a1, a2, a3, a4⟩ := hH
    refine ⟨a1, ?_, ?_, ?_⟩
    · rw [i1 35 (by omega) (by omega) (by omega) (by omega)]; exact a2
    · rw [c0 28 (by omega)]; exact a3
    · intro k hk
      have hw := hW.2.1 k (by omega)
      obtain ⟨m, ⟨m1, m2, m3, m4⟩, ⟨y1, y2, y3, y4⟩, m5⟩ := a4 k hk
      have h6 : (v_us V).val ≤ 6 := hM.2.2.2.2.2.2.2.2.2.2.2.2.2.2.1
      have e14 : ∀ i, i < 79 → qc_u2 (cpM M0 14 13 0 (79 * 20) 79) 0 29 (zI 1) 14 (79 * k + i) = M0 14 (79 * k + i) := by
        intro i hi
        rw [qG, if_neg (by omega), cpM_at, if_neg (by omega)]
      refine ⟨m, ⟨?_, ?_, ?_, ?_⟩, ⟨?_, ?_, ?_, ?_⟩, m5⟩
      · rw [i1 _ (by omega) (by omega) (by omega) (by omega)]; exact m1
      · rw [i1 _ (by omega) (by omega) (by omega) (by omega)]; exact m2
      · rw [i1 _ (by omega) (by omega) (by omega) (by omega)]; exact m3
      · intro c hc
        rw [qG, if_neg (by omega)]
        exact m4 c hc
      · intro u hu; rw [e14 _ (by omega)]; exact y1 u hu
      · intro u hu; rw [e14 _ (by omega)]; exact y2 u hu
      · intro u hu; rw [e14 _ (by omega)]; exact y3 u hu
      · intro c h1 h2; rw [e14 _ (by omega)]; exact y4 c h1 h2
  · refine ⟨true, ?_, ?_, fun _ => ⟨imV V, ⟨?_, ?_, ?_, ?_⟩, ?_, hT.2.2.2.2.2.2.2.2⟩⟩
    · rw [qG, if_pos ⟨rfl, rfl⟩]; rfl
    · rw [qG, if_pos ⟨rfl, rfl⟩]; rfl
    · intro u hu
      rw [u2_ne (by omega), k2 u hu]
      exact (SX_at9 hS (by omega)).1
    · intro u hu
      rw [u2_ne (by omega), k3 u hu]
      exact (SX_at9 hS (by omega)).2.1
    · intro u hu
      rw [u2_ne (by omega), k4 u hu]
      exact (SX_at9 hS (by omega)).2.2
    · intro c hc
      rw [qG, if_pos ⟨rfl, rfl⟩]
      exact hS.2.2.2.2.2.2.2.2.2.2.2.2.2 c hc
    · obtain ⟨mus, mbd, mgd, msp, mod, mst, mlo, mhi, mch, mpw, msl, mls, mlk, msh, m6, ml1⟩ := hM
      have e14 : ∀ i, i < 79 → qc_u2 (cpM M0 14 13 0 (79 * 20) 79) 0 29 (zI 1) 14 (79 * 20 + i) = M0 13 i := by
        intro i hi
        rw [qG, if_neg (by omega), cpM_at, if_pos (by omega), show 0 + (79 * 20 + i - 79 * 20) = i by omega]
      refine ⟨?_, ?_, ?_, ?_⟩
      · intro u hu; rw [e14 _ (by omega)]; exact mch u hu
      · intro u hu; rw [e14 _ (by omega)]; exact mpw u hu
      · intro u hu; rw [e14 _ (by omega)]; exact msl u hu
      · intro c h1 h2
        rw [e14 _ (by omega)]
        by_cases hc : c ≤ (v_bd V).val
        · exact msh c h1 hc
        · rw [hT.2.2.2.2.2.2.2.1 c (by omega) h2]
          show zI 0 = bI (v_sh V c)
          rw [hT.2.2.2.2.2.2.2.2 c (by omega) (by omega)]
          rfl
  · unfold NM at *
    rw [i1 2 (by omega) (by omega) (by omega) (by omega), i1 5 (by omega) (by omega) (by omega) (by omega), i1 14 (by omega) (by omega) (by omega) (by omega), c1 2 (by omega) (by omega), c1 4 (by omega) (by omega)]
    exact hN
