/-! CHANGES of a scene -/
def v_setch (V : sV) (u : Nat) (c : Fin 61) : sV := (V.1, (v_st V, v_lo V, v_hi V, qc_u (v_ch V) u c, v_pw V, v_sl V), v_ls V, v_lk V, v_sh V)
def v_setpw (V : sV) (u : Nat) (c : Fin 31) : sV := (V.1, (v_st V, v_lo V, v_hi V, v_ch V, qc_u (v_pw V) u c, v_sl V), v_ls V, v_lk V, v_sh V)
def v_setsl (V : sV) (u : Nat) (c : Fin 256) : sV := (V.1, (v_st V, v_lo V, v_hi V, v_ch V, v_pw V, qc_u (v_sl V) u c), v_ls V, v_lk V, v_sh V)
def v_setsh (V : sV) (f : Nat → Bool) : sV := (V.1, V.2.1, v_ls V, v_lk V, f)
theorem SX_setch {I : Nat → Nat → Int32} {J : Nat → Nat → Int64} {p : Nat} {V : sV} (h : SX I J p V) (u : Nat) (c : Fin 61) : SX (qc_u2 I (p + 1 + 6) u (zI c.val)) J p (v_setch V u c) := by
  obtain ⟨hus, hbd, hgd, hsp, hod, hst, hlo, hhi, hch, hpw, hsl, hls, hlk, hsh⟩ := h
  unfold SX
  refine ⟨?_, ?_, ?_, ?_, ?_, ?_, ?_, ?_, ?_, ?_, ?_, ?_, ?_, hsh⟩
  · rw [qG, if_neg (by omega)]; exact hus
  · rw [qG, if_neg (by omega)]; exact hbd
  · rw [qG, if_neg (by omega)]; exact hgd
  · rw [qG, if_neg (by omega)]; exact hsp
  · rw [qG, if_neg (by omega)]; exact hod
  · intro x hx; rw [qG, if_neg (by omega)]; exact hst x hx
  · intro x hx; rw [qG, if_neg (by omega)]; exact hlo x hx
  · intro x hx; rw [qG, if_neg (by omega)]; exact hhi x hx
  · intro x hx
    rw [qG]
    show _ = zI ((qc_u (v_ch V) u c x).val : Int)
    unfold qc_u
    by_cases e : x = u
    · rw [if_pos ⟨rfl, e⟩, if_pos e]
    · rw [if_neg (fun y => e y.2), if_neg e]; exact hch x hx
  · intro x hx; rw [qG, if_neg (by omega)]; exact hpw x hx
  · intro x hx; rw [qG, if_neg (by omega)]; exact hsl x hx
  · intro x hx; rw [qG, if_neg (by omega)]; exact hls x hx
  · intro x hx; rw [qG, if_neg (by omega)]; exact hlk x hx
theorem SX_setpw {I : Nat → Nat → Int32} {J : Nat → Nat → Int64} {p : Nat} {V : sV} (h : SX I J p V) (u : Nat) (c : Fin 31) : SX (qc_u2 I (p + 1 + 7) u (zI c.val)) J p (v_setpw V u c) := by
  obtain ⟨hus, hbd, hgd, hsp, hod, hst, hlo, hhi, hch, hpw, hsl, hls, hlk, hsh⟩ := h
  unfold SX
  refine ⟨?_, ?_, ?_, ?_, ?_, ?_, ?_, ?_, ?_, ?_, ?_, ?_, ?_, hsh⟩
  · rw [qG, if_neg (by omega)]; exact hus
  · rw [qG, if_neg (by omega)]; exact hbd
  · rw [qG, if_neg (by omega)]; exact hgd
  · rw [qG, if_neg (by omega)]; exact hsp
  · rw [qG, if_neg (by omega)]; exact hod
  · intro x hx; rw [qG, if_neg (by omega)]; exact hst x hx
  · intro x hx; rw [qG, if_neg (by omega)]; exact hlo x hx
  · intro x hx; rw [qG, if_neg (by omega)]; exact hhi x hx
  · intro x hx; rw [qG, if_neg (by omega)]; exact hch x hx
  · intro x hx
    rw [qG]
    show _ = zI ((qc_u (v_pw V) u c x).val : Int)
    unfold qc_u
    by_cases e : x = u
    · rw [if_pos ⟨rfl, e⟩, if_pos e]
    · rw [if_neg (fun y => e y.2), if_neg e]; exact hpw x hx
  · intro x hx; rw [qG, if_neg (by omega)]; exact hsl x hx
  · intro x hx; rw [qG, if_neg (by omega)]; exact hls x hx
  · intro x hx; rw [qG, if_neg (by omega)]; exact hlk x hx
theorem SX_setsl {I : Nat → Nat → Int32} {J : Nat → Nat → Int64} {p : Nat} {V : sV} (h : SX I J p V) (u : Nat) (c : Fin 256) : SX (qc_u2 I (p + 1 + 8) u (zI c.val)) J p (v_setsl V u c) := by
  obtain ⟨hus, hbd, hgd, hsp, hod, hst, hlo, hhi, hch, hpw, hsl, hls, hlk, hsh⟩ := h
  unfold SX
  refine ⟨?_, ?_, ?_, ?_, ?_, ?_, ?_, ?_, ?_, ?_, ?_, ?_, ?_, hsh⟩
  · rw [qG, if_neg (by omega)]; exact hus
  · rw [qG, if_neg (by omega)]; exact hbd
  · rw [qG, if_neg (by omega)]; exact hgd
  · rw [qG, if_neg (by omega)]; exact hsp
  · rw [qG, if_neg (by omega)]; exact hod
  · intro x hx; rw [qG, if_neg (by omega)]; exact hst x hx
  · intro x hx; rw [qG, if_neg (by omega)]; exact hlo x hx
  · intro x hx; rw [qG, if_neg (by omega)]; exact hhi x hx
  · intro x hx; rw [qG, if_neg (by omega)]; exact hch x hx
  · intro x hx; rw [qG, if_neg (by omega)]; exact hpw x hx
  · intro x hx
    rw [qG]
    show _ = zI ((qc_u (v_sl V) u c x).val : Int)
    unfold qc_u
    by_cases e : x = u
    · rw [if_pos ⟨rfl, e⟩, if_pos e]
    · rw [if_neg (fun y => e y.2), if_neg e]; exact hsl x hx
  · intro x hx; rw [qG, if_neg (by omega)]; exact hls x hx
  · intro x hx; rw [qG, if_neg (by omega)]; exact hlk x hx
/-- the reference's row s, changed at one place -/
theorem s_ne (M : Nat → Nat → Int32) (i : Nat) (x : Int32) {t : Nat} (h : t ≠ 13) : qc_u2 M 13 i x t = M t := by
  unfold qc_u2 qc_u
  rw [if_neg h]
theorem MX_set {M : Nat → Nat → Int32} {V W : sV} {i : Nat} {x : Int32} (h : MX M V) (e1 : W.1 = V.1) (e2 : v_st W = v_st V) (e3 : v_lo W = v_lo V) (e4 : v_hi W = v_hi V) (e5 : v_ls W = v_ls V) (e6 : v_lk W = v_lk V) (hc : ∀ u, u < (v_us V).val → qc_u2 M 13 i x 13 u = zI (v_ch W u).val) (hp : ∀ u, u < (v_us V).val → qc_u2 M 13 i x 13 (6 + u) = zI (v_pw W u).val) (hs : ∀ u, u < (v_us V).val → qc_u2 M 13 i x 13 (73 + u) = zI (v_sl W u).val) (hh : ∀ c, 1 ≤ c → c ≤ (v_bd V).val → qc_u2 M 13 i x 13 (12 + c) = bI (v_sh W c)) : MX (qc_u2 M 13 i x) W := by
  obtain ⟨hus, hbd, hgd, hsp, hod, hst, hlo, hhi, hch, hpw, hsl, hls, hlk, hsh, h6, hl1⟩ := h
  have f1 : v_us W = v_us V := by unfold v_us; rw [e1]
  have f2 : v_bd W = v_bd V := by unfold v_bd; rw [e1]
  have f3 : v_gd W = v_gd V := by unfold v_gd; rw [e1]
  have f4 : v_sp W = v_sp V := by unfold v_sp; rw [e1]
  have f5 : v_od W = v_od V := by unfold v_od; rw [e1]
  unfold MX
  rw [s_ne M i x (t := 2) (by omega), s_ne M i x (t := 0) (by omega), s_ne M i x (t := 5) (by omega), s_ne M i x (t := 7) (by omega), s_ne M i x (t := 8) (by omega), s_ne M i x (t := 11) (by omega), f1, f2, f3, f4, f5, e2, e3, e4, e5, e6]
  exact ⟨hus, hbd, hgd, hsp, hod, hst, hlo, hhi, hc, hp, hs, hls, hlk, hh, h6, hl1⟩
theorem RelV_set {V W : sV} {n : Nat} {I I' : Nat → Nat → Int32} {J J' : Nat → Nat → Int64} {w : Nat → Nat} {M : Nat → Nat → Int32} {i : Nat} {x : Int32} (h : RelV V n I J w M) (e1 : W.1 = V.1) (e2 : v_st W = v_st V) (e3 : v_lo W = v_lo V) (e4 : v_hi W = v_hi V) (e5 : v_ls W = v_ls V) (e6 : v_lk W = v_lk V) (hc : ∀ u, u < (v_us V).val → qc_u2 M 13 i x 13 u = zI (v_ch W u).val) (hp : ∀ u, u < (v_us V).val → qc_u2 M 13 i x 13 (6 + u) = zI (v_pw W u).val) (hs : ∀ u, u < (v_us V).val → qc_u2 M 13 i x 13 (73 + u) = zI (v_sl W u).val) (hh : ∀ c, 1 ≤ c → c ≤ (v_bd V).val → qc_u2 M 13 i x 13 (12 + c) = bI (v_sh W c)) (hz : ∀ c, c = 0 ∨ (v_bd V).val < c → c < 64 → v_sh W c = false) (hz2 : ∀ c, (v_bd V).val < c → c ≤ 60 → qc_u2 M 13 i x 13 (12 + c) = M 13 (12 + c)) (hS : SX I' J' 2 W) (hI : ∀ t, t = 0 ∨ t = 1 ∨ t = 5 ∨ t = 14 ∨ 35 ≤ t → I' t = I t) (h25 : I' 2 5 = I 2 5) (hJ : ∀ t, 35 ≤ t → J' t = J t) : RelV W n I' J' w (qc_u2 M 13 i x) := by
  obtain ⟨_, hM, hT, hP, hH, hK, hW, hN⟩ := h
  have f1 : v_us W = v_us V := by unfold v_us; rw [e1]
  have f2 : v_bd W = v_bd V := by unfold v_bd; rw [e1]
  have f3 : v_gd W = v_gd V := by unfold v_gd; rw [e1]
  have f4 : v_sp W = v_sp V := by unfold v_sp; rw [e1]
  have f5 : v_od W = v_od V := by unfold v_od; rw [e1]
  have hR : ∀ q k, 37 ≤ q → IR I J M V q k → IR I' J' (qc_u2 M 13 i x) W q k := by
    intro q k hq hr
    unfold IR IX IM at *
    rw [hI _ (by omega), hI _ (by omega), hI _ (by omega), hJ q (by omega), s_ne M i x (t := 14) (by omega), f1, f2]
    exact hr
  refine ⟨hS, MX_set hM e1 e2 e3 e4 e5 e6 hc hp hs hh, ?_, ?_, ?_, ?_, hW, ?_⟩
  · obtain ⟨t1, t2, t3, t4, t5, t6, t7, t8, t9⟩ := hT
    unfold TM
    rw [s_ne M i x (t := 2) (by omega), s_ne M i x (t := 8) (by omega), f1, f2, f3, f4, f5, e3, e4]
    exact ⟨t1, t2, t3, t4, t5, t6, t7, fun c h1 h2 => (hz2 c h1 h2).trans (t8 c h1 h2), hz⟩
  · unfold TP at *
    rw [hI 0 (by omega), hI 1 (by omega), s_ne M i x (t := 1) (by omega), s_ne M i x (t := 0) (by omega)]
    exact hP
  · obtain ⟨a1, a2, a3, a4⟩ := hH
    refine ⟨a1, ?_, ?_, ?_⟩
    · rw [hI 35 (by omega)]; exact a2
    · rw [s_ne M i x (t := 0) (by omega)]; exact a3
    · intro k hk
      exact hR _ _ (hW.2.1 k (by omega)).1 (a4 k hk)
  · obtain ⟨b, b1, b2, b3⟩ := hK
    refine ⟨b, ?_, ?_, fun hb => hR _ _ (by omega) (b3 hb)⟩
    · rw [hI 0 (by omega)]; exact b1
    · rw [s_ne M i x (t := 0) (by omega)]; exact b2
  · unfold NM at *
    rw [h25, hI 5 (by omega), hI 14 (by omega), s_ne M i x (t := 2) (by omega), s_ne M i x (t := 4) (by omega), f1]
    exact hN
theorem RelV_ch {V : sV} {n : Nat} {I : Nat → Nat → Int32} {J : Nat → Nat → Int64} {w : Nat → Nat} {M : Nat → Nat → Int32} (h : RelV V n I J w M) {u : Nat} (hu : u < (v_us V).val) (c : Fin 61) : RelV (v_setch V u c) n (qc_u2 I 9 u (zI c.val)) J w (qc_u2 M 13 u (zI c.val)) := by
  have hM := h.2.1
  have hT := h.2.2.1
  obtain ⟨hus, hbd, hgd, hsp, hod, hst, hlo, hhi, hch, hpw, hsl, hls, hlk, hsh, h6, hl1⟩ := hM
  refine RelV_set h rfl rfl rfl rfl rfl rfl ?_ ?_ ?_ ?_ hT.2.2.2.2.2.2.2.2 ?_ (SX_setch h.1 u c) ?_ ?_ (fun _ _ => rfl)
  · intro x hx
    rw [qG]
    show _ = zI ((qc_u (v_ch V) u c x).val : Int)
    unfold qc_u
    by_cases e : x = u
    · rw [if_pos ⟨rfl, e⟩, if_pos e]
    · rw [if_neg (fun y => e y.2), if_neg e]; exact hch x hx
  · intro x hx; rw [qG, if_neg (by omega)]; exact hpw x hx
  · intro x hx; rw [qG, if_neg (by omega)]; exact hsl x hx
  · intro x h1 h2; rw [qG, if_neg (by omega)]; exact hsh x h1 h2
  · intro x h1 h2; rw [qG, if_neg (by omega)]
  · intro t ht; unfold qc_u2 qc_u; rw [if_neg (by omega)]
  · rw [qG, if_neg (by omega)]
theorem RelV_pw {V : sV} {n : Nat} {I : Nat → Nat → Int32} {J : Nat → Nat → Int64} {w : Nat → Nat} {M : Nat → Nat → Int32} (h : RelV V n I J w M) {u : Nat} (hu : u < (v_us V).val) (c : Fin 31) : RelV (v_setpw V u c) n (qc_u2 I 10 u (zI c.val)) J w (qc_u2 M 13 (6 + u) (zI c.val)) := by
  have hM := h.2.1
  have hT := h.2.2.1
  obtain ⟨hus, hbd, hgd, hsp, hod, hst, hlo, hhi, hch, hpw, hsl, hls, hlk, hsh, h6, hl1⟩ := hM
  refine RelV_set h rfl rfl rfl rfl rfl rfl ?_ ?_ ?_ ?_ hT.2.2.2.2.2.2.2.2 ?_ (SX_setpw h.1 u c) ?_ ?_ (fun _ _ => rfl)
  · intro x hx; rw [qG, if_neg (by omega)]; exact hch x hx
  · intro x hx
    rw [qG]
    show _ = zI ((qc_u (v_pw V) u c x).val : Int)
    unfold qc_u
    by_cases e : x = u
    · rw [if_pos ⟨rfl, by omega⟩, if_pos e]
    · rw [if_neg (fun y => e (by omega)), if_neg e]; exact hpw x hx
  · intro x hx; rw [qG, if_neg (by omega)]; exact hsl x hx
  · intro x h1 h2; rw [qG, if_neg (by omega)]; exact hsh x h1 h2
  · intro x h1 h2; rw [qG, if_neg (by omega)]
  · intro t ht; unfold qc_u2 qc_u; rw [if_neg (by omega)]
  · rw [qG, if_neg (by omega)]
theorem RelV_sl {V : sV} {n : Nat} {I : Nat → Nat → Int32} {J : Nat → Nat → Int64} {w : Nat → Nat} {M : Nat → Nat → Int32} (h : RelV V n I J w M) {u : Nat} (hu : u < (v_us V).val) (c : Fin 256) : RelV (v_setsl V u c) n (qc_u2 I 11 u (zI c.val)) J w (qc_u2 M 13 (73 + u) (zI c.val)) := by
  have hM := h.2.1
  have hT := h.2.2.1
  obtain ⟨hus, hbd, hgd, hsp, hod, hst, hlo, hhi, hch, hpw, hsl, hls, hlk, hsh, h6, hl1⟩ := hM
  refine RelV_set h rfl rfl rfl rfl rfl rfl ?_ ?_ ?_ ?_ hT.2.2.2.2.2.2.2.2 ?_ (SX_setsl h.1 u c) ?_ ?_ (fun _ _ => rfl)
  · intro x hx; rw [qG, if_neg (by omega)]; exact hch x hx
  · intro x hx; rw [qG, if_neg (by omega)]; exact hpw x hx
  · intro x hx
    rw [qG]
    show _ = zI ((qc_u (v_sl V) u c x).val : Int)
    unfold qc_u
    by_cases e : x = u
    · rw [if_pos ⟨rfl, by omega⟩, if_pos e]
    · rw [if_neg (fun y => e (by omega)), if_neg e]; exact hsl x hx
  · intro x h1 h2; rw [qG, if_neg (by omega)]; exact hsh x h1 h2
  · intro x h1 h2; rw [qG, if_neg (by omega)]
  · intro t ht; unfold qc_u2 qc_u; rw [if_neg (by omega)]
  · rw [qG, if_neg (by omega)]
