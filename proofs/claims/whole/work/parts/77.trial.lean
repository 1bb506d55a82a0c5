/-! THE TRIAL SCENE -/
theorem cpyr {α : Type} (f g : Nat → α) {n k : Nat} (h : k < n) : va_cpy f g 0 0 n k = f k := by rw [cpy0, if_pos h]
theorem wp_let {α β : Type} {a : α} {f : α → Option β} {Q : β → Prop} (h : ∀ y, y = a → wp (f y) Q) : wp (qc_let a f) Q := h a rfl
theorem x_copy {I : Nat → Nat → Int32} {J : Nat → Nat → Int64} {V : sV} (h : SX I J 2 V) : wp (P_X4_copyFrom I J 12 2) (fun r => SX r.1 r.2 12 V ∧ r.1 12 5 = I 2 5 ∧ (∀ t, t < 12 ∨ 21 < t → r.1 t = I t) ∧ (∀ t, t ≠ 12 → r.2 t = J t)) := by
  obtain ⟨hus, hbd, hgd, hsp, hod, hst, hlo, hhi, hch, hpw, hsl, hls, hlk, hsh⟩ := h
  unfold P_X4_copyFrom P_X4_copyChannels
  refine wp_let fun I1 h1 => ?_
  refine wp_let fun I2 h2 => ?_
  refine wp_let fun I3 h3 => ?_
  refine wp_let fun I4 h4 => ?_
  refine wp_let fun I5 h5 => ?_
  refine wp_let fun I6 h6 => ?_
  refine wp_let fun J7 h7 => ?_
  refine wp_let fun I8 h8 => ?_
  refine wp_let fun I9 h9 => ?_
  refine wp_let fun I10 h10 => ?_
  refine wp_let fun I11 h11 => ?_
  refine wp_let fun I12 h12 => ?_
  refine wp_let fun I13 h13 => ?_
  refine wp_let fun I14 h14 => ?_
  refine wp_let fun I15 h15 => ?_
  refine wp_bind (P := fun x => x = qc_u I15 19 (va_cpy (I15 9) (I15 19) 0 0 8)) (wp_let fun y hy => wp_some hy) ?_
  intro I16 h16
  have a1 : ∀ t, t < 12 ∨ 21 < t → I1 t = I t := by
    intro t ht
    rw [h1, u2_ne (by omega)]
  have a2 : ∀ t, t < 12 ∨ 21 < t → I2 t = I t := by
    intro t ht
    rw [h2, u2_ne (by omega)]; exact a1 t ht
  have a3 : ∀ t, t < 12 ∨ 21 < t → I3 t = I t := by
    intro t ht
    rw [h3, u2_ne (by omega)]; exact a2 t ht
  have a4 : ∀ t, t < 12 ∨ 21 < t → I4 t = I t := by
    intro t ht
    rw [h4, u2_ne (by omega)]; exact a3 t ht
  have a5 : ∀ t, t < 12 ∨ 21 < t → I5 t = I t := by
    intro t ht
    rw [h5, u2_ne (by omega)]; exact a4 t ht
  have a6 : ∀ t, t < 12 ∨ 21 < t → I6 t = I t := by
    intro t ht
    rw [h6, u2_ne (by omega)]; exact a5 t ht
  have a8 : ∀ t, t < 12 ∨ 21 < t → I8 t = I t := by
    intro t ht
    rw [h8, qG1, if_neg (by omega)]; exact a6 t ht
  have a9 : ∀ t, t < 12 ∨ 21 < t → I9 t = I t := by
    intro t ht
    rw [h9, qG1, if_neg (by omega)]; exact a8 t ht
  have a10 : ∀ t, t < 12 ∨ 21 < t → I10 t = I t := by
    intro t ht
    rw [h10, qG1, if_neg (by omega)]; exact a9 t ht
  have a11 : ∀ t, t < 12 ∨ 21 < t → I11 t = I t := by
    intro t ht
    rw [h11, qG1, if_neg (by omega)]; exact a10 t ht
  have a12 : ∀ t, t < 12 ∨ 21 < t → I12 t = I t := by
    intro t ht
    rw [h12, qG1, if_neg (by omega)]; exact a11 t ht
  have a13 : ∀ t, t < 12 ∨ 21 < t → I13 t = I t := by
    intro t ht
    rw [h13, qG1, if_neg (by omega)]; exact a12 t ht
  have a14 : ∀ t, t < 12 ∨ 21 < t → I14 t = I t := by
    intro t ht
    rw [h14, qG1, if_neg (by omega)]; exact a13 t ht
  have a15 : ∀ t, t < 12 ∨ 21 < t → I15 t = I t := by
    intro t ht
    rw [h15, qG1, if_neg (by omega)]; exact a14 t ht
  have a16 : ∀ t, t < 12 ∨ 21 < t → I16 t = I t := by
    intro t ht
    rw [h16, qG1, if_neg (by omega)]; exact a15 t ht
  have b0 : I16 12 0 = I 2 0 := by
    rw [h16, qG1, if_neg (by omega), h15, qG1, if_neg (by omega), h14, qG1, if_neg (by omega), h13, qG1, if_neg (by omega), h12, qG1, if_neg (by omega), h11, qG1, if_neg (by omega), h10, qG1, if_neg (by omega), h9, qG1, if_neg (by omega), h8, qG1, if_neg (by omega), h6, qG, if_neg (by omega), h5, qG, if_neg (by omega), h4, qG, if_neg (by omega), h3, qG, if_neg (by omega), h2, qG, if_neg (by omega), h1, qG, if_pos ⟨rfl, rfl⟩]
  have b1 : I16 12 1 = I 2 1 := by
    rw [h16, qG1, if_neg (by omega), h15, qG1, if_neg (by omega), h14, qG1, if_neg (by omega), h13, qG1, if_neg (by omega), h12, qG1, if_neg (by omega), h11, qG1, if_neg (by omega), h10, qG1, if_neg (by omega), h9, qG1, if_neg (by omega), h8, qG1, if_neg (by omega), h6, qG, if_neg (by omega), h5, qG, if_neg (by omega), h4, qG, if_neg (by omega), h3, qG, if_neg (by omega), h2, qG, if_pos ⟨rfl, rfl⟩, a1 2 (by omega)]
  have b2 : I16 12 2 = I 2 2 := by
    rw [h16, qG1, if_neg (by omega), h15, qG1, if_neg (by omega), h14, qG1, if_neg (by omega), h13, qG1, if_neg (by omega), h12, qG1, if_neg (by omega), h11, qG1, if_neg (by omega), h10, qG1, if_neg (by omega), h9, qG1, if_neg (by omega), h8, qG1, if_neg (by omega), h6, qG, if_neg (by omega), h5, qG, if_neg (by omega), h4, qG, if_neg (by omega), h3, qG, if_pos ⟨rfl, rfl⟩, a2 2 (by omega)]
  have b3 : I16 12 3 = I 2 3 := by
    rw [h16, qG1, if_neg (by omega), h15, qG1, if_neg (by omega), h14, qG1, if_neg (by omega), h13, qG1, if_neg (by omega), h12, qG1, if_neg (by omega), h11, qG1, if_neg (by omega), h10, qG1, if_neg (by omega), h9, qG1, if_neg (by omega), h8, qG1, if_neg (by omega), h6, qG, if_neg (by omega), h5, qG, if_neg (by omega), h4, qG, if_pos ⟨rfl, rfl⟩, a3 2 (by omega)]
  have b4 : I16 12 4 = I 2 4 := by
    rw [h16, qG1, if_neg (by omega), h15, qG1, if_neg (by omega), h14, qG1, if_neg (by omega), h13, qG1, if_neg (by omega), h12, qG1, if_neg (by omega), h11, qG1, if_neg (by omega), h10, qG1, if_neg (by omega), h9, qG1, if_neg (by omega), h8, qG1, if_neg (by omega), h6, qG, if_neg (by omega), h5, qG, if_pos ⟨rfl, rfl⟩, a4 2 (by omega)]
  have b5 : I16 12 5 = I 2 5 := by
    rw [h16, qG1, if_neg (by omega), h15, qG1, if_neg (by omega), h14, qG1, if_neg (by omega), h13, qG1, if_neg (by omega), h12, qG1, if_neg (by omega), h11, qG1, if_neg (by omega), h10, qG1, if_neg (by omega), h9, qG1, if_neg (by omega), h8, qG1, if_neg (by omega), h6, qG, if_pos ⟨rfl, rfl⟩, a5 2 (by omega)]
  have c0 : ∀ x, x < 3 → I16 13 x = I 3 x := by
    intro x hx
    rw [h16, qG1, if_neg (by omega), h15, qG1, if_neg (by omega), h14, qG1, if_neg (by omega), h13, qG1, if_neg (by omega), h12, qG1, if_neg (by omega), h11, qG1, if_neg (by omega), h10, qG1, if_neg (by omega), h9, qG1, if_neg (by omega), h8, qG1, if_pos (by omega), cpyr _ _ hx, a6 _ (by omega)]
  have c1 : ∀ x, x < 9 → I16 14 x = I 4 x := by
    intro x hx
    rw [h16, qG1, if_neg (by omega), h15, qG1, if_neg (by omega), h14, qG1, if_neg (by omega), h13, qG1, if_neg (by omega), h12, qG1, if_neg (by omega), h11, qG1, if_neg (by omega), h10, qG1, if_neg (by omega), h9, qG1, if_pos (by omega), cpyr _ _ hx, a8 _ (by omega)]
  have c2 : ∀ x, x < 8 → I16 15 x = I 5 x := by
    intro x hx
    rw [h16, qG1, if_neg (by omega), h15, qG1, if_neg (by omega), h14, qG1, if_neg (by omega), h13, qG1, if_neg (by omega), h12, qG1, if_neg (by omega), h11, qG1, if_neg (by omega), h10, qG1, if_pos (by omega), cpyr _ _ hx, a9 _ (by omega)]
  have c3 : ∀ x, x < 8 → I16 16 x = I 6 x := by
    intro x hx
    rw [h16, qG1, if_neg (by omega), h15, qG1, if_neg (by omega), h14, qG1, if_neg (by omega), h13, qG1, if_neg (by omega), h12, qG1, if_neg (by omega), h11, qG1, if_pos (by omega), cpyr _ _ hx, a10 _ (by omega)]
  have c4 : ∀ x, x < 8 → I16 17 x = I 7 x := by
    intro x hx
    rw [h16, qG1, if_neg (by omega), h15, qG1, if_neg (by omega), h14, qG1, if_neg (by omega), h13, qG1, if_neg (by omega), h12, qG1, if_pos (by omega), cpyr _ _ hx, a11 _ (by omega)]
  have c5 : ∀ x, x < 8 → I16 18 x = I 8 x := by
    intro x hx
    rw [h16, qG1, if_neg (by omega), h15, qG1, if_neg (by omega), h14, qG1, if_neg (by omega), h13, qG1, if_pos (by omega), cpyr _ _ hx, a12 _ (by omega)]
  have c7 : ∀ x, x < 8 → I16 20 x = I 10 x := by
    intro x hx
    rw [h16, qG1, if_neg (by omega), h15, qG1, if_neg (by omega), h14, qG1, if_pos (by omega), cpyr _ _ hx, a13 _ (by omega)]
  have c8 : ∀ x, x < 8 → I16 21 x = I 11 x := by
    intro x hx
    rw [h16, qG1, if_neg (by omega), h15, qG1, if_pos (by omega), cpyr _ _ hx, a14 _ (by omega)]
  have c6 : ∀ x, x < 8 → I16 19 x = I 9 x := by
    intro x hx
    rw [h16, qG1, if_pos (by omega), cpyr _ _ hx, a15 _ (by omega)]
  refine wp_some ⟨⟨b0.trans hus, b1.trans hbd, b2.trans hgd, b3.trans hsp, b4.trans hod, ?_, ?_, ?_, ?_, ?_, ?_, ?_, ?_, ?_⟩, b5, a16, ?_⟩
  · intro u hu; exact (c3 u hu).trans (hst u hu)
  · intro u hu; exact (c4 u hu).trans (hlo u hu)
  · intro u hu; exact (c5 u hu).trans (hhi u hu)
  · intro u hu; exact (c6 u hu).trans (hch u hu)
  · intro u hu; exact (c7 u hu).trans (hpw u hu)
  · intro u hu; exact (c8 u hu).trans (hsl u hu)
  · intro u hu; exact (c0 u hu).trans (hls u hu)
  · intro u hu; exact (c1 u hu).trans (hlk u hu)
  · intro c hc
    show bJ (J7 12 6) c = v_sh V c
    rw [h7, qG, if_pos ⟨rfl, rfl⟩]
    exact hsh c hc
  · intro t ht
    show J7 t = J t
    rw [h7]
    unfold qc_u2 qc_u
    rw [if_neg ht]
/-- numbers as channels -/
def f61 (c : Nat) : Fin 61 := ⟨c % 61, Nat.mod_lt _ (by decide)⟩
theorem f61_v {c : Nat} (h : c ≤ 60) : (f61 c).val = c := Nat.mod_eq_of_lt (by omega)
theorem f61_i (c : Fin 61) : f61 c.val = c := Fin.ext (Nat.mod_eq_of_lt c.isLt)
theorem v_set2 (V : sV) (u : Nat) (c d : Fin 61) : v_setch (v_setch V u c) u d = v_setch V u d := by
  unfold v_setch
  have : qc_u (v_ch (v_setch V u c)) u d = qc_u (v_ch V) u d := by
    funext k
    show (if k = u then d else (if k = u then c else v_ch V k)) = if k = u then d else v_ch V k
    split <;> rfl
  show (V.1, (v_st V, v_lo V, v_hi V, qc_u (v_ch (v_setch V u c)) u d, v_pw V, v_sl V), v_ls V, v_lk V, v_sh V) = _
  rw [this]
theorem v_setI (V : sV) (u : Nat) : v_setch V u (v_ch V u) = V := by
  have : qc_u (v_ch V) u (v_ch V u) = v_ch V := by
    funext k
    unfold qc_u
    split
    · rename_i h; rw [h]
    · rfl
  unfold v_setch
  rw [this]
  rfl
/-- what the class leaves behind a look at the trial scene -/
theorem x_fits {I : Nat → Nat → Int32} {J : Nat → Nat → Int64} {V : sV} (h : SX I J 12 V) {u c : Nat} (hu : u < 8) (hc : c ≤ 60) : wp (P_X6_fitsOnTrial I J (zI u) (zI c)) (fun r => r.1 = bI (cleanS (v_setch V u (f61 c))) ∧ SX r.2.1 r.2.2 12 (v_setch V u (f61 c)) ∧ eX I r.2.1 ∧ eJ J r.2.2) := by
  have hS := SX_setch h u (f61 c)
  rw [f61_v hc] at hS
  unfold P_X6_fitsOnTrial
  simp (disch := omega) only [zI_add, zI_sub, zI_mul, zI_neg, zL, zI_cl, Int.toNat_natCast, qc_in, zI_lt, iteT, qc_let]
  refine wp_bind (x_clean (by omega) hS) ?_
  intro r ⟨r1, r2, r3⟩
  rw [if_pos (by rw [r1]; cases cleanS (v_setch V u (f61 c)) <;> decide)]
  refine wp_some ⟨r1, SX_e (fun t _ _ => r2 t (by omega)) (r3 12 (by omega)) hS, ?_, eJ_g r3⟩
  refine eX_m ?_
  intro t ht
  show r.2.1 t = I t
  rw [r2 t (by omega), u2_ne (by omega)]
theorem MX_ch {M : Nat → Nat → Int32} {V : sV} (h : MX M V) {u : Nat} (hu : u < (v_us V).val) (c : Fin 61) : MX (qc_u2 M 13 u (zI c.val)) (v_setch V u c) := by
  have h0 := h
  obtain ⟨hus, hbd, hgd, hsp, hod, hst, hlo, hhi, hch, hpw, hsl, hls, hlk, hsh, h6, hl1⟩ := h
  refine MX_set h0 rfl rfl rfl rfl rfl rfl ?_ ?_ ?_ ?_
  · intro x hx
    rw [qG]
    show _ = zI ((qc_u (v_ch V) u c x).val : Int)
    unfold qc_u
    by_cases e : x = u
    · rw [if_pos ⟨rfl, e⟩, if_pos e]
    · rw [if_neg (fun y => e y.2), if_neg e]; exact hch x hx
  · intro x hx; rw [qG, if_neg (by omega)]; exact hpw x hx
  · intro x hx; rw [qG, if_neg (by omega)]; exact hsl x hx
  · intro x h1 h2; rw [qG, if_neg (by omega)]; exact hsh x h1 h2
/-- laid back as it was -/
theorem eM_back {M M1 : Nat → Nat → Int32} {u : Nat} {x : Int32} (he : eP (qc_u2 M 13 u x) M1) : eM M (qc_u2 M1 13 u (M 13 u)) := by
  refine ⟨?_, ?_⟩
  · intro t ht
    by_cases e : t = 13
    · subst e
      have : M1 13 = qc_u2 M 13 u x 13 := he.1 13 (by omega) (by omega)
      funext k
      rw [qG, this, qG]
      by_cases ek : k = u
      · rw [if_pos ⟨rfl, ek⟩, ek]
      · rw [if_neg (fun y => ek y.2), if_neg (fun y => ek y.2)]
    · rw [u2_ne e, he.1 t (by omega) (by omega), u2_ne e]
  · intro j h1 h2 h3 h4
    rw [qG, if_neg (by omega), he.2 j h2, qG, if_neg (by omega)]
theorem m_fits {M : Nat → Nat → Int32} {V : sV} (h : MX M V) {u c : Nat} (hu : u < (v_us V).val) (hc : c ≤ 60) : wp (P_X7_fitsAt M (zI u) (zI c)) (fun r => r.1 = bI (cleanS (v_setch V u (f61 c))) ∧ eM M r.2) := by
  have hM := MX_ch h hu (f61 c)
  rw [f61_v hc] at hM
  have h6 : (v_us V).val ≤ 6 := h.2.2.2.2.2.2.2.2.2.2.2.2.2.2.1
  unfold P_X7_fitsAt
  simp (disch := omega) only [zI_add, zI_sub, zI_mul, zI_neg, zL, zI_cl, Int.toNat_natCast, Int.zero_add, qc_in, zI_lt, iteT, qc_let]
  refine wp_bind (m_clean hM) ?_
  intro r ⟨r1, r2⟩
  rw [if_pos (by rw [r1]; cases cleanS (v_setch V u (f61 c)) <;> decide)]
  exact wp_some ⟨r1, eM_back r2⟩
theorem st_17 : St_17 Rel := by
  intro I J w M ⟨V, n, h0⟩
  have h := RelV_0 h0 (zI 0)
  obtain ⟨r, r1, r2, r3, r4⟩ := x_clean (p := 2) (by omega) h.1
  obtain ⟨s, s1, s2, s3⟩ := m_clean h.2.1
  unfold P_X6_clean P_X7_clean
  simp only [zI_add, zI_sub, zI_mul, zI_neg, zL, qc_let]
  rw [r1, s1]
  simp only [Option.bind_some]
  rw [r2, s2]
  have hR := RelV_e (eX_g r3) (eJ_g r4) (eP_M s3) h
  cases cleanS V
  · exact ⟨_, _, rfl, rfl, rfl, V, n, hR⟩
  · exact ⟨_, _, rfl, rfl, rfl, V, n, hR⟩
theorem eX_c {I I' : Nat → Nat → Int32} {J' : Nat → Nat → Int64} {V : sV} (hS : SX I' J' 12 V) (h : ∀ t, t < 12 ∨ 21 < t → I' t = I t) : eX I I' := ⟨fun t ht => h t (by omega), fun _ k hk => ⟨v_lk V k, hS.2.2.2.2.2.2.2.2.2.2.2.2.1 k hk⟩⟩
theorem eJ_c {J J' : Nat → Nat → Int64} (h : ∀ t, t ≠ 12 → J' t = J t) : eJ J J' := fun t ht => h t (by omega)
theorem st_18 : St_18 Rel := by
  intro I J w M a b ⟨V, n, h0⟩
  have h := RelV_0 h0 (zI 0)
  unfold P_X6_fits P_X7_fits
  simp only [zI_add, zI_sub, zI_mul, zI_neg, zL, qc_let]
  rcases user_cases h.1 h.2.1 a with ⟨e1, e2⟩ | ⟨u, hu, rfl, e1, e2⟩
  · rw [e1, e2]
    exact ⟨_, _, rfl, rfl, rfl, V, n, h⟩
  · rw [e1, e2]
    simp (disch := omega) only [Option.bind_some, zI_eq, iteF]
    rcases chan_cases h.1 h.2.2.1 b with ⟨e3, e4⟩ | ⟨c, hc1, hc2, rfl, e3, e4⟩
    · rw [e3, e4]
      exact ⟨_, _, rfl, rfl, rfl, V, n, h⟩
    · rw [e3, e4]
      simp (disch := omega) only [Option.bind_some, zI_eq, iteF]
      obtain ⟨r, r1, r2, r3, r4, r5⟩ := x_copy h.1
      obtain ⟨s, s1, s2, s3, s4, s5⟩ := x_fits r2 (u := u) (c := c.val) (by omega) (by omega)
      obtain ⟨t, t1, t2, t3⟩ := m_fits h.2.1 (c := c.val) hu (by omega)
      rw [r1, t1]
      simp only [Option.bind_some]
      rw [s1]
      simp only [Option.bind_some]
      rw [s2, t2]
      have hR := RelV_e (eX_t (eX_c r2 r4) s4) (eJ_t (eJ_c r5) s5) t3 h
      cases cleanS (v_setch V u (f61 c.val))
      · exact ⟨_, _, rfl, rfl, rfl, V, n, hR⟩
      · exact ⟨_, _, rfl, rfl, rfl, V, n, hR⟩
