/-! THE RELATION after a text -/
theorem pickF {α : Type} (a0 : α) {P : Nat → α → Prop} {N : Nat} (h : ∀ u, u < N → ∃ x, P u x) : ∃ f : Nat → α, ∀ u, u < N → P u (f u) := by
  have h' : ∀ u, ∃ x, u < N → P u x := by
    intro u
    by_cases c : u < N
    · obtain ⟨x, hx⟩ := h u c
      exact ⟨x, fun _ => hx⟩
    · exact ⟨a0, fun z => absurd z c⟩
  exact ⟨fun u => Classical.choose (h' u), fun u hu => Classical.choose_spec (h' u) hu⟩
theorem vp_b (b : Bool) : vp_nar .boolean (bI b) = bI b := by cases b <;> decide
theorem mk_rel {us bd bl : Nat} {I : Nat → Nat → Int32} {J : Nat → Nat → Int64} {N X : Nat → Nat → Int32} {JX : Nat → Nat → Int64} {w : Nat → Nat} (hS : SRn us bd bl I J N) (hX : ∀ t j, 2 ≤ t → t ≤ 11 → X t j = I (t + 120) j) (hJ : JX 2 6 = J 122 6) (t1 : X 1 = N 1) (t2 : X 0 1 = zI 0) (t3 : N 0 2 = zI 0) (t4 : ∀ k, k < 700 → ∃ b : Fin 256, X 1 k = zI b.val) (t5 : X 0 2 = N 0 23) (t6 : X 0 3 = N 0 24) (h35 : X 35 1 = zI 0) (h10 : X 0 10 = zI 0) (hW : WW w) (hL : LT (X 14)) : ∃ N1 N2, P_X7_takeText N = some N1 ∧ P_X7_begins N1 = some N2 ∧ (∀ j, j < 30 ∨ 33 < j → N2 0 j = N 0 j) ∧ Rel X JX w (qc_u2 (qc_u2 N2 0 28 (zI 0)) 0 29 (zI 0)) := by
  obtain ⟨⟨gd, sp, od, sd, l0, l1, l2⟩, _, ⟨bd4, bd60, ibd, mbd⟩, ⟨u6, ius, mus, hU, _, _, hG0, hG⟩, ⟨_, _, _, sh, sh1, sh2, sh3, _⟩, ⟨lk, hlk⟩⟩ := hS
  obtain ⟨gd, _, gd2, igd, mgd⟩ := gd
  obtain ⟨sp, sp1, sp2, isp, msp⟩ := sp
  obtain ⟨od, _, od2, iod, mod'⟩ := od
  obtain ⟨sd, _, sd2, isd, msd⟩ := sd
  obtain ⟨x0, _, x02, ix0, mx0⟩ := l0
  obtain ⟨x1, _, x12, ix1, mx1⟩ := l1
  obtain ⟨x2, _, x22, ix2, mx2⟩ := l2
  obtain ⟨fst, hst⟩ := pickF (0 : Fin 3) (fun u hu => (hG u hu).1)
  obtain ⟨fpw, hpw⟩ := pickF (0 : Fin 31) (fun u hu => (hG u hu).2.1)
  obtain ⟨flo, hlo⟩ := pickF (0 : Fin 61) (fun u hu => (hG u hu).2.2.1)
  obtain ⟨fhi, hhi⟩ := pickF (0 : Fin 61) (fun u hu => (hG u hu).2.2.2.1)
  obtain ⟨fsl, hsl⟩ := pickF (0 : Fin 256) (fun u hu => (hG u hu).2.2.2.2)
  obtain ⟨fch, hch⟩ : ∃ f : Nat → Fin 61, ∀ u, u < 8 → I 129 u = zI (f u).val := by
    refine pickF (0 : Fin 61) (P := fun u (x : Fin 61) => I 129 u = zI x.val) (N := 8) (fun u hu => ?_)
    by_cases c : u < us
    · obtain ⟨v, _, v2, v3, _⟩ := (hU u c).2.2.2.2.2.1
      exact ⟨⟨v, by omega⟩, v3⟩
    · exact ⟨0, hG0 u (by omega) hu⟩
  obtain ⟨fls, hls⟩ : ∃ f : Nat → Fin 100, ∀ k, k < 3 → I 123 k = zI (f k).val ∧ N 2 (14 + k) = zI (f k).val := by
    refine pickF (0 : Fin 100) (P := fun k (x : Fin 100) => I 123 k = zI x.val ∧ N 2 (14 + k) = zI x.val) (N := 3) (fun k hk => ?_)
    have : k = 0 ∨ k = 1 ∨ k = 2 := by omega
    rcases this with rfl | rfl | rfl
    · exact ⟨⟨x0, x02⟩, ix0, mx0⟩
    · exact ⟨⟨x1, x12⟩, ix1, mx1⟩
    · exact ⟨⟨x2, x22⟩, ix2, mx2⟩
  obtain ⟨N1, n1, n2, n3, n4, n5, n6⟩ := m_take N
  have n27 : N1 2 7 = zI (us : Nat) := by rw [n2 7 (by omega)]; exact mus
  obtain ⟨N2, b1', b2, b3, b4, b5, b6, b7, b8⟩ := m_begin u6 N1 n27
  refine ⟨N1, N2, n1, b1', fun j hj => (b8 0 j (by omega) (by omega)).trans (n6 0 j (by omega)), ?_⟩
  -- what the reference holds then
  have e2 : ∀ j, j < 10 → N2 2 j = N 2 (10 + j) := fun j hj => (b8 2 j (by omega) (by omega)).trans (n2 j hj)
  have eR : ∀ t j, 4 ≤ t → t ≤ 10 → j < 6 → N2 t j = N t (6 + j) := fun t j a b c => (b8 t j (by omega) (by omega)).trans (n3 t j a b c)
  have e11 : ∀ k, k < 9 → N2 11 k = N 11 (9 + k) := fun k hk => (b8 11 k (by omega) (by omega)).trans (n4 k hk)
  have e13 : ∀ c, 1 ≤ c → c ≤ 60 → N2 13 (12 + c) = bI (sh c) := by
    intro c h1 h2
    rw [b3 c h1 h2, n5 c (by omega), sh2 c (by omega), vp_b]
    cases sh c <;> rfl
  have eu : ∀ u, u < us → N2 13 u = zI (fch u).val ∧ N2 13 (6 + u) = zI (fpw u).val ∧ N2 13 (73 + u) = zI (fsl u).val := by
    intro u hu
    obtain ⟨y1, y2, y3⟩ := b2 u hu
    obtain ⟨_, _, _, ⟨p, _, _, p3, p4⟩, _, ⟨ch, _, _, c3, c4⟩, ⟨s, s1, s2, s3⟩⟩ := hU u hu
    refine ⟨?_, ?_, ?_⟩
    · rw [y1, n3 9 u (by omega) (by omega) (by omega), c4, ← c3, hch u (by omega)]
    · rw [y2, n3 6 u (by omega) (by omega) (by omega), p4, ← p3, hpw u (by omega)]
    · rw [y3, n3 10 u (by omega) (by omega) (by omega), s2, ← hsl u (by omega), s3]
      by_cases z : s = 0
      · rw [if_pos (by rw [z]; rfl), if_pos z]
        rfl
      · rw [if_neg (by rw [zI_eq] <;> omega), if_neg z]
  have inj : ∀ a b : Nat, a < 100000 → b < 100000 → zI (a : Nat) = zI (b : Nat) → a = b := by
    intro a b ha hb e
    rw [zI_eq (by omega) (by omega) (by omega) (by omega)] at e
    omega
  have elh : ∀ u, u < us → N2 7 u = zI (flo u).val ∧ N2 8 u = zI (fhi u).val ∧ 1 ≤ (flo u).val ∧ (flo u).val ≤ (fhi u).val ∧ (fhi u).val ≤ bd := by
    intro u hu
    obtain ⟨_, _, _, _, ⟨lo, hi, h1, h2, h3, h4, h5, h6, h7⟩, _, _⟩ := hU u hu
    have q1 : lo = (flo u).val := inj _ _ (by omega) (by omega) (by rw [← h4, hlo u (by omega)])
    have q2 : hi = (fhi u).val := inj _ _ (by omega) (by omega) (by rw [← h6, hhi u (by omega)])
    refine ⟨?_, ?_, by omega, by omega, by omega⟩
    · rw [eR 7 u (by omega) (by omega) (by omega), h5, q1]
    · rw [eR 8 u (by omega) (by omega) (by omega), h7, q2]
  have est : ∀ u, u < us → N2 5 u = zI (fst u).val := by
    intro u hu
    obtain ⟨_, _, ⟨s, _, _, s3, s4⟩, _, _, _, _⟩ := hU u hu
    rw [eR 5 u (by omega) (by omega) (by omega), s4, ← s3, hst u (by omega)]
  have nz : ∀ t j, (t ≠ 0 ∨ j ≠ 28 ∧ j ≠ 29) → qc_u2 (qc_u2 N2 0 28 (zI 0)) 0 29 (zI 0) t j = N2 t j := fun t j c => by rw [qG, if_neg (by omega), qG, if_neg (by omega)]
  refine ⟨((⟨us, by omega⟩, ⟨bd, by omega⟩, ⟨gd, by omega⟩, ⟨sp, by omega⟩, ⟨od, by omega⟩), (fst, flo, fhi, fch, fpw, fsl), fls, lk, sh), 0, ?_, ?_, ?_, ?_, ?_, ?_, hW, ?_⟩
  · refine ⟨?_, ?_, ?_, ?_, ?_, ?_, ?_, ?_, ?_, ?_, ?_, ?_, ?_, ?_⟩
    · rw [hX 2 0 (by omega) (by omega)]; exact ius
    · rw [hX 2 1 (by omega) (by omega)]; exact ibd
    · rw [hX 2 2 (by omega) (by omega)]; exact igd
    · rw [hX 2 3 (by omega) (by omega)]; exact isp
    · rw [hX 2 4 (by omega) (by omega)]; exact iod
    · intro u hu; rw [hX _ u (by omega) (by omega)]; exact hst u hu
    · intro u hu; rw [hX _ u (by omega) (by omega)]; exact hlo u hu
    · intro u hu; rw [hX _ u (by omega) (by omega)]; exact hhi u hu
    · intro u hu; rw [hX _ u (by omega) (by omega)]; exact hch u hu
    · intro u hu; rw [hX _ u (by omega) (by omega)]; exact hpw u hu
    · intro u hu; rw [hX _ u (by omega) (by omega)]; exact hsl u hu
    · intro k hk; rw [hX _ k (by omega) (by omega)]; exact (hls k hk).1
    · intro k hk; rw [hX _ k (by omega) (by omega)]; exact (hlk k hk).1
    · intro c hc; rw [hJ]; exact sh1 c hc
  · refine ⟨?_, ?_, ?_, ?_, ?_, ?_, ?_, ?_, ?_, ?_, ?_, ?_, ?_, ?_, u6, ?_⟩
    · rw [nz 2 7 (by omega), e2 7 (by omega)]; exact mus
    · rw [nz 0 30 (by omega), b4, n2 0 (by omega)]; exact mbd
    · rw [nz 0 31 (by omega), b5, n2 1 (by omega)]; exact mgd
    · rw [nz 0 32 (by omega), b6, n2 2 (by omega)]; exact msp
    · rw [nz 0 33 (by omega), b7, n2 3 (by omega)]; exact mod'
    · intro u hu; rw [nz 5 u (by omega)]; exact est u hu
    · intro u hu; rw [nz 7 u (by omega)]; exact (elh u hu).1
    · intro u hu
      have q := elh u hu
      refine ⟨fhi u, by rw [nz 8 u (by omega)]; exact q.2.1, ?_⟩
      show (fhi u).val = if bd ≤ (fhi u).val then bd else (fhi u).val
      by_cases z : bd ≤ (fhi u).val
      · rw [if_pos z]; omega
      · rw [if_neg z]
    · intro u hu; rw [nz 13 u (by omega)]; exact (eu u hu).1
    · intro u hu; rw [nz 13 _ (by omega)]; exact (eu u hu).2.1
    · intro u hu; rw [nz 13 _ (by omega)]; exact (eu u hu).2.2
    · intro k hk
      rw [nz 2 _ (by omega), e2 (4 + k) (by omega), show 10 + (4 + k) = 14 + k by omega]
      exact (hls k hk).2
    · intro k hk; rw [nz 11 k (by omega), e11 k hk]; exact (hlk k hk).2.1
    · intro c h1 h2
      have h2' : c ≤ bd := h2
      rw [nz 13 _ (by omega)]
      exact e13 c h1 (by omega)
    · intro u hu; exact (elh u hu).2.2.1
  · refine ⟨?_, ?_, ?_, ?_, ?_, bd4, sp1, ?_, ?_⟩
    · rw [nz 2 0 (by omega), e2 0 (by omega)]; exact mbd
    · rw [nz 2 1 (by omega), e2 1 (by omega)]; exact mgd
    · rw [nz 2 2 (by omega), e2 2 (by omega)]; exact msp
    · rw [nz 2 3 (by omega), e2 3 (by omega)]; exact mod'
    · intro u hu
      have q := elh u hu
      exact ⟨by rw [nz 8 u (by omega)]; exact q.2.1, q.2.2.2.1, q.2.2.2.2⟩
    · intro c h1 h2
      have h1' : bd < c := h1
      rw [nz 13 _ (by omega), e13 c (by omega) h2, sh3 c (Or.inr h1') (by omega)]
      rfl
    · exact sh3
  · refine ⟨?_, ⟨0, by omega, t2, ?_⟩, t4, ?_, ?_⟩
    · funext j
      rw [nz 1 j (by omega), b8 1 j (by omega) (by omega), n6 1 j (by omega), t1]
    · rw [nz 0 2 (by omega), b8 0 2 (by omega) (by omega), n6 0 2 (by omega)]; exact t3
    · rw [nz 0 23 (by omega), b8 0 23 (by omega) (by omega), n6 0 23 (by omega)]; exact t5
    · rw [nz 0 24 (by omega), b8 0 24 (by omega) (by omega), n6 0 24 (by omega)]; exact t6
  · refine ⟨by omega, h35, ?_, fun k hk => by omega⟩
    rw [qG, if_neg (by omega), qG, if_pos ⟨rfl, rfl⟩]
    rfl
  · refine ⟨false, h10, ?_, fun z => absurd z (by decide)⟩
    rw [qG, if_pos ⟨rfl, rfl⟩]
    rfl
  · refine ⟨?_, ?_, ?_, hL⟩
    · intro u hu
      rw [hX 5 u (by omega) (by omega), nz 4 u (by omega), eR 4 u (by omega) (by omega) (by have : u < us := hu; omega)]
      exact (hU u hu).1
    · rw [hX 2 5 (by omega) (by omega), nz 2 9 (by omega), e2 9 (by omega)]
      exact isd.trans msd.symm
    · exact ⟨⟨sd, sd2⟩, by rw [hX 2 5 (by omega) (by omega)]; exact isd⟩
/-- a text with a fault changes nothing but the tape and what is told of the fault -/
theorem RelV_text {V : sV} {n : Nat} {I I' : Nat → Nat → Int32} {J J' : Nat → Nat → Int64} {w : Nat → Nat} {M M' : Nat → Nat → Int32} (h : RelV V n I J w M) (hI : ∀ t, t < 121 → t ≠ 0 → I' t = I t) (hI0 : I' 0 10 = I 0 10) (hJ : ∀ t, t < 121 → J' t = J t) (hM : ∀ t j, ¬ (t = 2 ∧ 10 ≤ j ∨ t = 3 ∨ 4 ≤ t ∧ t ≤ 10 ∧ 6 ≤ j ∨ t = 11 ∧ 9 ≤ j ∨ t = 12 ∨ t = 0 ∧ j < 28) → M' t j = M t j) (hT : TP I' M') : RelV V n I' J' w M' := by
  obtain ⟨h1, h2, h3, h4, h5, h6, h7, h8⟩ := h
  have m13 : M' 13 = M 13 := funext fun j => hM 13 j (by omega)
  have m14 : M' 14 = M 14 := funext fun j => hM 14 j (by omega)
  have hR : ∀ q k, 37 ≤ q → q + 3 < 121 → IR I J M V q k → IR I' J' M' V q k := by
    intro q k hq hq2 hr
    unfold IR IX IM at *
    rw [hI (q + 1 + 0) (by omega) (by omega), hI (q + 1 + 1) (by omega) (by omega), hI (q + 1 + 2) (by omega) (by omega), hJ q (by omega), m14]
    exact hr
  have u6 : (v_us V).val ≤ 6 := h2.2.2.2.2.2.2.2.2.2.2.2.2.2.2.1
  refine ⟨SX_e (fun t _ _ => hI t (by omega) (by omega)) (hJ 2 (by omega)) h1, ?_, ?_, hT, ?_, ?_, h7, ?_⟩
  · obtain ⟨hus, hbd, hgd, hsp, hod, hst, hlo, hhi, hch, hpw, hsl, hls, hlk, hsh, h6', hl1⟩ := h2
    refine ⟨(hM 2 7 (by omega)).trans hus, (hM 0 30 (by omega)).trans hbd, (hM 0 31 (by omega)).trans hgd, (hM 0 32 (by omega)).trans hsp, (hM 0 33 (by omega)).trans hod, ?_, ?_, ?_, ?_, ?_, ?_, ?_, ?_, ?_, h6', hl1⟩
    · intro u hu; exact (hM 5 u (by omega)).trans (hst u hu)
    · intro u hu; exact (hM 7 u (by omega)).trans (hlo u hu)
    · intro u hu
      obtain ⟨x, x1, x2⟩ := hhi u hu
      exact ⟨x, (hM 8 u (by omega)).trans x1, x2⟩
    · rw [m13]; exact hch
    · rw [m13]; exact hpw
    · rw [m13]; exact hsl
    · intro k hk; exact (hM 2 (4 + k) (by omega)).trans (hls k hk)
    · intro k hk; exact (hM 11 k (by omega)).trans (hlk k hk)
    · rw [m13]; exact hsh
  · obtain ⟨k1, k2, k3, k4, k5, k6, k7, k8, k9⟩ := h3
    refine ⟨(hM 2 0 (by omega)).trans k1, (hM 2 1 (by omega)).trans k2, (hM 2 2 (by omega)).trans k3, (hM 2 3 (by omega)).trans k4, ?_, k6, k7, ?_, k9⟩
    · intro u hu
      exact ⟨(hM 8 u (by omega)).trans (k5 u hu).1, (k5 u hu).2⟩
    · rw [m13]; exact k8
  · refine ⟨h5.1, by rw [hI 35 (by omega) (by omega)]; exact h5.2.1, (hM 0 28 (by omega)).trans h5.2.2.1, fun k hk => ?_⟩
    have := h5.1
    have hw := h7.2.1 k (by omega)
    exact hR _ _ hw.1 (by omega) (h5.2.2.2 k hk)
  · obtain ⟨b, e1, e2, e3⟩ := h6
    exact ⟨b, hI0.trans e1, (hM 0 29 (by omega)).trans e2, fun hb => hR _ _ (by omega) (by omega) (e3 hb)⟩
  · obtain ⟨k1, k2, k3, k4⟩ := h8
    refine ⟨?_, ?_, ?_, ?_⟩
    · intro u hu
      rw [hI 5 (by omega) (by omega), hM 4 u (by omega)]
      exact k1 u hu
    · rw [hI 2 (by omega) (by omega), hM 2 9 (by omega)]; exact k2
    · rw [hI 2 (by omega) (by omega)]; exact k3
    · rw [hI 14 (by omega) (by omega)]; exact k4
