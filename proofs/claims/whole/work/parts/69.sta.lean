/-! fault, named, blocked, linked, crowds, user, feed -/
theorem st_2 : St_2 Rel := by
  intro I J w M a ⟨V, n, h0⟩
  have h := RelV_0 h0 (0 : Int32)
  have hP := h0.2.2.2.1
  unfold P_X6_fault P_X7_fault
  simp only [qc_let]
  by_cases c0 : a = 0
  · rw [if_pos c0, if_pos c0]
    refine ⟨_, _, rfl, rfl, ?_, V, n, h⟩
    show I 0 2 = qc_u2 M 0 0 0 0 23
    rw [qG, if_neg (by omega)]
    exact hP.2.2.2.1
  · rw [if_neg c0, if_neg c0]
    by_cases c1 : a = 1
    · rw [if_pos c1, if_pos c1]
      refine ⟨_, _, rfl, rfl, ?_, V, n, h⟩
      show I 0 3 = qc_u2 M 0 0 0 0 24
      rw [qG, if_neg (by omega)]
      exact hP.2.2.2.2
    · rw [if_neg c1, if_neg c1]
      exact ⟨_, _, rfl, rfl, rfl, V, n, h⟩
theorem fnd_cg {β : Type} {s t : Nat → Option β} {z : β} : ∀ d k, (∀ i, k ≤ i → i < k + d → s i = t i) → fnd s z d k = fnd t z d k := by
  intro d
  induction d with
  | zero => intro k _; rfl
  | succ d ih =>
    intro k h
    unfold fnd
    rw [h k (by omega) (by omega), ih (k + 1) (fun i h1 h2 => h i (by omega) (by omega))]
theorem x_named {I : Nat → Nat → Int32} {p us : Nat} (h0 : I p 0 = zI (us : Nat)) (h8 : us ≤ 8) (a : Int32) : P_X4_userOfName I p a = some (fnd (fun k => if I (p + 1 + 2) k = a then some (zI k) else none) (zI (-1)) us 0) := by
  unfold P_X4_userOfName
  simp only [zL]
  refine fnd_run (fun f k => P_X4_userOfName_2 I p f a (zI k)) _ _ us ?_ ?_ us 0 qc_fu (by omega) (by unfold qc_fu; omega)
  · intro f k hk
    simp (disch := omega) only [P_X4_userOfName_2, zI_add, zI_sub, zI_mul, zI_neg, zL, zI_le, zI_lt, zI_eq, zI_cl, zA0, zI_if, Int.toNat_natCast, zT_add, zT_mul, Int.reduceToNat, Nat.add_zero, Nat.zero_add, Int.add_zero, Int.zero_add, zc_a, zc_l, Option.bind_some, qc_let, qc_in, qc_bo, iteT, iteF, and_self, if_true, if_false, qG, h0]
    split <;> rfl
  · intro f
    simp (disch := omega) only [P_X4_userOfName_2, zI_add, zI_sub, zI_mul, zI_neg, zL, zI_le, zI_lt, zI_eq, zI_cl, zA0, zI_if, Int.toNat_natCast, zT_add, zT_mul, Int.reduceToNat, Nat.add_zero, Nat.zero_add, Int.add_zero, Int.zero_add, zc_a, zc_l, Option.bind_some, qc_let, qc_in, qc_bo, iteT, iteF, and_self, if_true, if_false, qG, h0]
theorem m_named {M : Nat → Nat → Int32} {b us : Nat} (h8 : b + us ≤ 12) (a : Int32) : P_X7_namedAt M (zI b) (zI us) a = some (fnd (fun k => if M 4 (b + k) = a then some (zI k) else none) (zI (-1)) us 0) := by
  unfold P_X7_namedAt
  simp only [zL]
  refine fnd_run (fun f k => P_X7_namedAt_3 M f (zI b) (zI us) a (zI k)) _ _ us ?_ ?_ us 0 qc_fu (by omega) (by unfold qc_fu; omega)
  · intro f k hk
    simp (disch := omega) only [P_X7_namedAt_3, zI_add, zI_sub, zI_mul, zI_neg, zL, zI_le, zI_lt, zI_eq, zI_cl, zA0, zI_if, Int.toNat_natCast, zT_add, zT_mul, Int.reduceToNat, Nat.add_zero, Nat.zero_add, Int.add_zero, Int.zero_add, zc_a, zc_l, Option.bind_some, qc_let, qc_in, qc_bo, iteT, iteF, and_self, if_true, if_false, qG]
    split <;> rfl
  · intro f
    simp (disch := omega) only [P_X7_namedAt_3, zI_add, zI_sub, zI_mul, zI_neg, zL, zI_le, zI_lt, zI_eq, zI_cl, zA0, zI_if, Int.toNat_natCast, zT_add, zT_mul, Int.reduceToNat, Nat.add_zero, Nat.zero_add, Int.add_zero, Int.zero_add, zc_a, zc_l, Option.bind_some, qc_let, qc_in, qc_bo, iteT, iteF, and_self, if_true, if_false, qG]
theorem st_3 : St_3 Rel := by
  intro I J w M a ⟨V, n, h0⟩
  have h := RelV_0 h0 (zI 0)
  have hN := h.2.2.2.2.2.2.2
  have h6 : (v_us V).val ≤ 6 := h.2.1.2.2.2.2.2.2.2.2.2.2.2.2.2.2.1
  have hus := h.2.1.1
  unfold P_X6_named P_X7_named P_X7_users
  simp only [zL, qc_let]
  have mn : P_X7_namedAt (qc_u2 M 0 0 (zI 0)) (zI 0) (zI ((v_us V).val : Int)) a = _ := m_named (M := qc_u2 M 0 0 (zI 0)) (b := 0) (us := (v_us V).val) (by omega) a
  rw [x_named h.1.1 (by omega) a, Option.bind_some, Option.bind_some, hus, mn, Option.bind_some]
  refine ⟨_, _, rfl, rfl, ?_, V, n, h⟩
  refine fnd_cg _ _ ?_
  intro i _ hi
  rw [Nat.zero_add, ← hN.1 i (by omega)]
theorem st_11 : St_11 Rel := by
  intro I J w M a ⟨V, n, h0⟩
  have h := RelV_0 h0 (zI 0)
  unfold P_X6_blocked P_X7_blocked
  simp only [zI_add, zI_sub, zI_mul, zI_neg, zL, qc_let]
  rcases chan_cases h.1 h.2.2.1 a with ⟨e1, e2⟩ | ⟨c, hc1, hc2, rfl, e1, e2⟩
  · rw [e1, e2]
    simp (disch := omega) only [zI_add, zI_sub, zI_mul, zI_neg, zL, zI_le, zI_lt, zI_eq, zI_cl, zA0, zI_if, Int.toNat_natCast, zT_add, zT_mul, Int.reduceToNat, Nat.add_zero, Nat.zero_add, Int.add_zero, Int.zero_add, zc_a, zc_l, Option.bind_some, qc_let, qc_in, qc_bo, iteT, iteF, and_self, if_true, if_false, qG]
    exact ⟨_, _, rfl, rfl, rfl, V, n, h⟩
  · rw [e1, e2]
    have hm : qc_u2 M 0 0 (zI 0) 13 (12 + c.val) = bI (v_sh V c.val) := h.2.1.2.2.2.2.2.2.2.2.2.2.2.2.2.1 c.val hc1 hc2
    have hx : ∀ i, i < 64 → bJ (J 2 6) i = v_sh V i := h.1.2.2.2.2.2.2.2.2.2.2.2.2.2
    rw [x_isShut (by omega), hx _ (by omega)]
    simp (disch := omega) only [zI_add, zI_sub, zI_mul, zI_neg, zL, zI_le, zI_lt, zI_eq, zI_cl, zA0, zI_if, Int.toNat_natCast, zT_add, zT_mul, Int.reduceToNat, Nat.add_zero, Nat.zero_add, Int.add_zero, Int.zero_add, zc_a, zc_l, Option.bind_some, qc_let, qc_in, iteT, iteF, hm, bI_0]
    cases v_sh V c.val
    · exact ⟨_, _, rfl, rfl, rfl, V, n, h⟩
    · exact ⟨_, _, rfl, rfl, rfl, V, n, h⟩
theorem st_39 : St_39 Rel := by
  intro I J w M a b ⟨V, n, h0⟩
  have h := RelV_0 h0 (zI 0)
  obtain ⟨x, rfl, x1, x2⟩ := zAll a
  obtain ⟨y, rfl, y1, y2⟩ := zAll b
  have hx : ∀ k, k < 9 → I 4 k = zI (lkX k (v_lk V k)) := h.1.2.2.2.2.2.2.2.2.2.2.2.2.1
  have hm : ∀ k, k < 9 → qc_u2 M 0 0 (zI 0) 11 k = zI (lkM (v_lk V k)) := h.2.1.2.2.2.2.2.2.2.2.2.2.2.2.1
  unfold P_X6_linked P_X7_linked
  simp only [zI_add, zI_sub, zI_mul, zI_neg, zL, qc_let]
  simp (disch := omega) only [zI_lt, zI_le, zI_eq]
  by_cases c1 : x < 0
  · rw [if_pos c1, if_pos c1]; exact ⟨_, _, rfl, rfl, rfl, V, n, h⟩
  · rw [if_neg c1, if_neg c1]
    by_cases c2 : 3 ≤ x
    · rw [if_pos c2, if_pos c2]; exact ⟨_, _, rfl, rfl, rfl, V, n, h⟩
    · rw [if_neg c2, if_neg c2]
      by_cases c3 : y < 0
      · rw [if_pos c3, if_pos c3]; exact ⟨_, _, rfl, rfl, rfl, V, n, h⟩
      · rw [if_neg c3, if_neg c3]
        by_cases c4 : 3 ≤ y
        · rw [if_pos c4, if_pos c4]; exact ⟨_, _, rfl, rfl, rfl, V, n, h⟩
        · rw [if_neg c4, if_neg c4]
          by_cases c5 : x = y
          · rw [if_pos c5, if_pos c5]; exact ⟨_, _, rfl, rfl, rfl, V, n, h⟩
          · rw [if_neg c5, if_neg c5]
            have e1 : x * 3 + y = ((3 * x.toNat + y.toNat : Nat) : Int) := by omega
            have e2 : 3 * x + y = ((3 * x.toNat + y.toNat : Nat) : Int) := by omega
            rw [e1, e2]
            have hk : 3 * x.toNat + y.toNat < 9 := by omega
            have hd : ¬ (3 * x.toNat + y.toNat) % 4 = 0 := by omega
            generalize 3 * x.toNat + y.toNat = k at *
            simp (disch := omega) only [zI_cl, Int.toNat_natCast, zI_lt, qc_in, zL, iteT, Option.bind_some, hx, hm, lkX, lkM]
            by_cases c6 : (v_lk V k).val = 100
            · rw [if_neg hd, if_pos c6, if_pos rfl, if_pos c6]
              exact ⟨_, _, rfl, rfl, rfl, V, n, h⟩
            · rw [if_neg hd, if_neg c6, if_neg (by rw [zI_eq] <;> omega), if_neg c6]
              exact ⟨_, _, rfl, rfl, rfl, V, n, h⟩
theorem st_16 : St_16 Rel := by
  intro I J w M a ⟨V, n, h0⟩
  have h := RelV_0 h0 (zI 0)
  unfold P_X6_crowds P_X7_crowds
  simp only [zI_add, zI_sub, zI_mul, zI_neg, zL, qc_let]
  rcases user_cases h.1 h.2.1 a with ⟨e1, e2⟩ | ⟨u, hu, rfl, e1, e2⟩
  · rw [e1, e2]
    exact ⟨_, _, rfl, rfl, rfl, V, n, h⟩
  · rw [e1, e2]
    simp (disch := omega) only [Option.bind_some, zI_eq, iteF]
    rw [x_crowdedBy h.1 (by omega), m_crowdsOf h.2.1 hu]
    exact ⟨_, _, rfl, rfl, rfl, V, n, h⟩
theorem RelV_tape {V : sV} {n : Nat} {I I' : Nat → Nat → Int32} {J : Nat → Nat → Int64} {w : Nat → Nat} {M M' : Nat → Nat → Int32} (h : RelV V n I J w M) (hI : ∀ t, t ≠ 0 → t ≠ 1 → I' t = I t) (hI0 : I' 0 10 = I 0 10) (hM : ∀ t, t ≠ 0 → t ≠ 1 → M' t = M t) (hM0 : ∀ j, 28 ≤ j → j ≤ 33 → M' 0 j = M 0 j) (hT : TP I' M') : RelV V n I' J w M' := by
  obtain ⟨h1, h2, h3, h4, h5, h6, h7, h8⟩ := h
  have hR : ∀ q k, 37 ≤ q → IR I J M V q k → IR I' J M' V q k := by
    intro q k hq hr
    unfold IR IX IM at *
    rw [hI _ (by omega) (by omega), hI _ (by omega) (by omega), hI _ (by omega) (by omega), hM 14 (by omega) (by omega)]
    exact hr
  refine ⟨SX_e (fun t _ _ => hI t (by omega) (by omega)) rfl h1, ?_, ?_, hT, ?_, ?_, h7, ?_⟩
  · unfold MX at *
    rw [hM 2 (by omega) (by omega), hM 5 (by omega) (by omega), hM 7 (by omega) (by omega), hM 8 (by omega) (by omega), hM 11 (by omega) (by omega), hM 13 (by omega) (by omega), hM0 30 (by omega) (by omega), hM0 31 (by omega) (by omega), hM0 32 (by omega) (by omega), hM0 33 (by omega) (by omega)]
    exact h2
  · unfold TM at *
    rw [hM 2 (by omega) (by omega), hM 8 (by omega) (by omega), hM 13 (by omega) (by omega)]
    exact h3
  · unfold HM at *
    rw [hI 35 (by omega) (by omega), hM0 28 (by omega) (by omega)]
    exact ⟨h5.1, h5.2.1, h5.2.2.1, fun k hk => hR _ _ (h7.2.1 k (by omega)).1 (h5.2.2.2 k hk)⟩
  · unfold KM at *
    rw [hI0, hM0 29 (by omega) (by omega)]
    obtain ⟨b, e1, e2, e3⟩ := h6
    exact ⟨b, e1, e2, fun hb => hR _ _ (by omega) (e3 hb)⟩
  · unfold NM at *
    rw [hI 2 (by omega) (by omega), hI 5 (by omega) (by omega), hI 14 (by omega) (by omega), hM 2 (by omega) (by omega), hM 4 (by omega) (by omega)]
    exact h8
theorem byte_b (y : Int32) : ∃ b : Fin 256, y &&& 255 = zI b.val := by
  refine ⟨⟨(y.toBitVec &&& 255#32).toNat, ?_⟩, ?_⟩
  · rw [BitVec.toNat_and]
    exact Nat.lt_of_le_of_lt Nat.and_le_right (by decide)
  · show y &&& 255 = zI (((y.toBitVec &&& 255#32).toNat : Nat) : Int)
    unfold zI
    rw [Int32.ofInt_eq_ofNat]
    apply Int32.toBitVec_inj.1
    show y.toBitVec &&& 255#32 = BitVec.ofNat 32 (y.toBitVec &&& 255#32).toNat
    rw [BitVec.ofNat_toNat, BitVec.setWidth_eq]
def BY (f : Nat → Int32) : Prop := ∀ k, k < 700 → ∃ b : Fin 256, f k = zI b.val
theorem BY_u {f : Nat → Int32} {n : Nat} (h : BY f) (x : Int32) : BY (qc_u f n (x &&& 255)) := by
  intro k hk
  unfold qc_u
  split
  · exact byte_b x
  · exact h k hk
theorem u2_ne {f : Nat → Nat → Int32} {t j t' : Nat} {v : Int32} (h : t' ≠ t) : qc_u2 f t j v t' = f t' := by
  unfold qc_u2 qc_u
  rw [if_neg h]
theorem u2_10 {f : Nat → Nat → Int32} {j p : Nat} {v : Int32} : qc_u2 f 1 p v 0 j = f 0 j := by
  unfold qc_u2 qc_u
  rw [if_neg (by omega)]
theorem st_0 : St_0 Rel := by
  intro I J w M a b c d e ⟨V, n, h0⟩
  have hP := h0.2.2.2.1
  obtain ⟨p1, ⟨m, m1, m2, m3⟩, p3, p4, p5⟩ := hP
  by_cases hm : m + 20 ≤ 700
  · refine ⟨_, _, fd_X (by rw [nI_zI]; exact m2) hm, fd_M (by rw [nI_zI]; exact m3) hm, rfl, V, n, ?_⟩
    have t1 : ∀ t, t ≠ 0 → t ≠ 1 → tp_5 I m a b c d e t = I t := by
      intro t x y
      unfold tp_5
      rw [tp_4t x y, tp_4t x y, tp_4t x y, tp_4t x y, tp_4t x y]
    have t2 : ∀ j, j ≠ 1 → tp_5 I m a b c d e 0 j = I 0 j := by
      intro j x
      unfold tp_5
      rw [tp_40 x, tp_40 x, tp_40 x, tp_40 x, tp_40 x]
    have s1 : ∀ t, t ≠ 0 → t ≠ 1 → fd_s M m a b c d e t = M t := by
      intro t x y
      unfold fd_s
      simp (disch := omega) only [u2_ne]
    have s2 : ∀ j, j ≠ 0 → fd_s M m a b c d e 0 j = M 0 j := by
      intro j x
      unfold fd_s
      simp only [u2_10]
      rw [qG, if_neg (by omega)]
    refine RelV_tape h0 t1 (t2 10 (by omega)) ?_ ?_ ⟨fd_tape (x := nI (m + 20)) p1, ⟨m + 20, hm, ?_, ?_⟩, ?_, ?_, ?_⟩
    · intro t x y
      show qc_u2 (fd_s M m a b c d e) 0 2 (nI (m + 20)) t = M t
      unfold qc_u2 qc_u
      rw [if_neg x]
      exact s1 t x y
    · intro j x y
      show qc_u2 (fd_s M m a b c d e) 0 2 (nI (m + 20)) 0 j = M 0 j
      rw [qG, if_neg (by omega)]
      exact s2 j (by omega)
    · rw [← nI_zI]
      show tp_5 I m a b c d e 0 1 = _
      unfold tp_5
      rw [tp_401]
    · show qc_u2 (fd_s M m a b c d e) 0 2 (nI (m + 20)) 0 2 = _
      rw [qG, if_pos ⟨rfl, rfl⟩, nI_zI]
    · show BY (tp_5 I m a b c d e 1)
      have hb : BY (I 1) := p3
      unfold tp_5 tp_4
      simp only [tp_w1]
      repeat (first | exact hb | refine BY_u ?_ _)
    · show tp_5 I m a b c d e 0 2 = qc_u2 (fd_s M m a b c d e) 0 2 (nI (m + 20)) 0 23
      rw [t2 2 (by omega), qG, if_neg (by omega), s2 23 (by omega)]
      exact p4
    · show tp_5 I m a b c d e 0 3 = qc_u2 (fd_s M m a b c d e) 0 2 (nI (m + 20)) 0 24
      rw [t2 3 (by omega), qG, if_neg (by omega), s2 24 (by omega)]
      exact p5
  · have h := RelV_0 h0 (zI 0)
    unfold P_X6_feed P_X7_feed
    rw [m2]
    simp (disch := omega) only [zI_add, zI_sub, zI_mul, zI_neg, zL, zI_le, zI_lt, zI_eq, zI_cl, zA0, zI_if, Int.toNat_natCast, zT_add, zT_mul, Int.reduceToNat, Nat.add_zero, Nat.zero_add, Int.add_zero, Int.zero_add, zc_a, zc_l, Option.bind_some, qc_let, qc_in, qc_bo, iteT, iteF, and_self, if_true, if_false, qG, m3]
    exact ⟨_, _, rfl, rfl, rfl, V, n, h⟩
theorem st_10 : St_10 Rel := by
  intro I J w M a b ⟨V, n, h0⟩
  have h := RelV_0 h0 (zI 0)
  have h6 : (v_us V).val ≤ 6 := h.2.1.2.2.2.2.2.2.2.2.2.2.2.2.2.2.1
  rcases user_cases h.1 h.2.1 a with ⟨e1, e2⟩ | ⟨u, hu, rfl, e1, e2⟩
  · refine ⟨(zI 0, qc_u2 (qc_u2 M 0 0 (zI 0)) 0 0 (zI 1)), zI 1, ?_, ?_, ⟨V, n, RelV_0 h _⟩, Or.inr (Or.inl ⟨rfl, e1⟩)⟩
    · unfold P_X7_user
      simp only [zL, qc_let]
      rw [e2]
      rfl
    · show some (qc_u2 (qc_u2 M 0 0 (zI 0)) 0 0 (zI 1) 0 0) = _
      rw [qG, if_pos ⟨rfl, rfl⟩]
  · have hthrown : P_X7_thrown (qc_u2 M 0 0 (zI 0)) = some (zI 0) := by
      show some (qc_u2 M 0 0 (zI 0) 0 0) = _
      rw [qG, if_pos ⟨rfl, rfl⟩]
    have hM := h0.2.1
    have hT := h0.2.2.1
    have hS := h.1
    obtain ⟨hus, hbd, hgd, hsp, hod, hst, hlo, hhi, hch, hpw, hsl, hls, hlk, hsh, _, hl1⟩ := hM
    obtain ⟨xus, xbd, xgd, xsp, xod, xst, xlo, xhi, xch, xpw, xsl, xls, xlk, xsh⟩ := hS
    simp only [Nat.reduceAdd] at xst xlo xhi xch xpw xsl
    have hr := m_right h.2.1 hu
    have xr := x_right h.1 (show u < 8 by omega)
    by_cases c : b = zI 0 ∨ b = zI 1 ∨ b = zI 2 ∨ b = zI 3 ∨ b = zI 4 ∨ b = zI 5 ∨ b = zI 6
    · have key : ∃ x, P_X7_user M (zI u) b = some (x, qc_u2 M 0 0 (zI 0)) ∧ P_X6_user I J (zI u) b = some x := by
        unfold P_X7_user P_X6_user
        simp only [zL, qc_let]
        rw [e1, e2]
        rcases c with rfl | rfl | rfl | rfl | rfl | rfl | rfl
        · refine ⟨zI (v_st V u).val, ?_, ?_⟩ <;> simp (disch := omega) only [zI_add, zI_sub, zI_mul, zI_neg, zL, zI_le, zI_lt, zI_eq, zI_cl, zA0, zI_if, Int.toNat_natCast, zT_add, zT_mul, Int.reduceToNat, Nat.add_zero, Nat.zero_add, Int.add_zero, Int.zero_add, zc_a, zc_l, Option.bind_some, qc_let, qc_in, qc_bo, iteT, iteF, and_self, if_true, if_false, qG, hst, xst]
        · refine ⟨zI (v_pw V u).val, ?_, ?_⟩ <;> simp (disch := omega) only [zI_add, zI_sub, zI_mul, zI_neg, zL, zI_le, zI_lt, zI_eq, zI_cl, zA0, zI_if, Int.toNat_natCast, zT_add, zT_mul, Int.reduceToNat, Nat.add_zero, Nat.zero_add, Int.add_zero, Int.zero_add, zc_a, zc_l, Option.bind_some, qc_let, qc_in, qc_bo, iteT, iteF, and_self, if_true, if_false, qG, hpw, xpw]
        · refine ⟨zI (v_lo V u).val, ?_, ?_⟩ <;> simp (disch := omega) only [zI_add, zI_sub, zI_mul, zI_neg, zL, zI_le, zI_lt, zI_eq, zI_cl, zA0, zI_if, Int.toNat_natCast, zT_add, zT_mul, Int.reduceToNat, Nat.add_zero, Nat.zero_add, Int.add_zero, Int.zero_add, zc_a, zc_l, Option.bind_some, qc_let, qc_in, qc_bo, iteT, iteF, and_self, if_true, if_false, qG, hlo, xlo]
        · have := (hT.2.2.2.2.1 u hu).1
          refine ⟨zI (v_hi V u).val, ?_, ?_⟩ <;> simp (disch := omega) only [zI_add, zI_sub, zI_mul, zI_neg, zL, zI_le, zI_lt, zI_eq, zI_cl, zA0, zI_if, Int.toNat_natCast, zT_add, zT_mul, Int.reduceToNat, Nat.add_zero, Nat.zero_add, Int.add_zero, Int.zero_add, zc_a, zc_l, Option.bind_some, qc_let, qc_in, qc_bo, iteT, iteF, and_self, if_true, if_false, qG, this, xhi]
        · refine ⟨zI (v_ch V u).val, ?_, ?_⟩ <;> simp (disch := omega) only [zI_add, zI_sub, zI_mul, zI_neg, zL, zI_le, zI_lt, zI_eq, zI_cl, zA0, zI_if, Int.toNat_natCast, zT_add, zT_mul, Int.reduceToNat, Nat.add_zero, Nat.zero_add, Int.add_zero, Int.zero_add, zc_a, zc_l, Option.bind_some, qc_let, qc_in, qc_bo, iteT, iteF, and_self, if_true, if_false, qG, hch, xch]
        · refine ⟨bI (rightS V u), ?_, ?_⟩
          · simp (disch := omega) only [zI_add, zI_sub, zI_mul, zI_neg, zL, zI_le, zI_lt, zI_eq, zI_cl, zA0, zI_if, Int.toNat_natCast, zT_add, zT_mul, Int.reduceToNat, Nat.add_zero, Nat.zero_add, Int.add_zero, Int.zero_add, zc_a, zc_l, Option.bind_some, qc_let, qc_in, qc_bo, iteT, iteF, and_self, if_true, if_false, qG, hch, hr, bI_0]
            split
            · unfold rightS
              have := hl1 u hu
              rw [decide_eq_false (by omega)]
              rfl
            · cases rightS V u <;> rfl
          · simp (disch := omega) only [zI_add, zI_sub, zI_mul, zI_neg, zL, zI_le, zI_lt, zI_eq, zI_cl, zA0, zI_if, Int.toNat_natCast, zT_add, zT_mul, Int.reduceToNat, Nat.add_zero, Nat.zero_add, Int.add_zero, Int.zero_add, zc_a, zc_l, Option.bind_some, qc_let, qc_in, qc_bo, iteT, iteF, and_self, if_true, if_false, qG, xr, bI_0]
            cases rightS V u <;> rfl
        · refine ⟨zI (v_sl V u).val, ?_, ?_⟩ <;> simp (disch := omega) only [zI_add, zI_sub, zI_mul, zI_neg, zL, zI_le, zI_lt, zI_eq, zI_cl, zA0, zI_if, Int.toNat_natCast, zT_add, zT_mul, Int.reduceToNat, Nat.add_zero, Nat.zero_add, Int.add_zero, Int.zero_add, zc_a, zc_l, Option.bind_some, qc_let, qc_in, qc_bo, iteT, iteF, and_self, if_true, if_false, qG, hsl, xsl]
      obtain ⟨x, k1, k2⟩ := key
      exact ⟨_, _, k1, hthrown, ⟨V, n, h⟩, Or.inl ⟨rfl, k2⟩⟩
    · have n0 : ¬ b = zI 0 := fun x => c (Or.inl x)
      have n1 : ¬ b = zI 1 := fun x => c (Or.inr (Or.inl x))
      have n2 : ¬ b = zI 2 := fun x => c (Or.inr (Or.inr (Or.inl x)))
      have n3 : ¬ b = zI 3 := fun x => c (Or.inr (Or.inr (Or.inr (Or.inl x))))
      have n4 : ¬ b = zI 4 := fun x => c (Or.inr (Or.inr (Or.inr (Or.inr (Or.inl x)))))
      have n5 : ¬ b = zI 5 := fun x => c (Or.inr (Or.inr (Or.inr (Or.inr (Or.inr (Or.inl x))))))
      have n6 : ¬ b = zI 6 := fun x => c (Or.inr (Or.inr (Or.inr (Or.inr (Or.inr (Or.inr x))))))
      refine ⟨(zI 0, qc_u2 (qc_u2 M 0 0 (zI 0)) 0 0 (zI 2)), zI 2, ?_, ?_, ⟨V, n, RelV_0 h _⟩, Or.inr (Or.inr ⟨rfl, zI 1, e1, by decide, n0, n1, n2, n3, n4, n5, n6⟩)⟩
      · unfold P_X7_user
        simp only [zL, qc_let]
        rw [e2]
        simp (disch := omega) only [Option.bind_some, zI_eq, iteF, if_neg n0, if_neg n1, if_neg n2, if_neg n3, if_neg n4, if_neg n5, if_neg n6]
      · show some (qc_u2 (qc_u2 M 0 0 (zI 0)) 0 0 (zI 2) 0 0) = _
        rw [qG, if_pos ⟨rfl, rfl⟩]
