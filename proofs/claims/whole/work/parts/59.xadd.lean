/-! THE CLASS'S PRODUCTS: one more -/
/-- whether a channel is near to one that a user has -/
def nearS (V : sV) (c : Int) : Bool := decide (0 < sm (fun u => b1 (decide (0 < (v_ch V u).val ∧ (((v_ch V u).val : Int) - c).natAbs ≤ (v_gd V).val))) (v_us V).val 0)
def GJ (J : Nat → Nat → Int64) (V : sV) : Prop := ∀ c : Nat, 1 ≤ c → c ≤ 60 → bJ (J 22 5) c = nearS V c
def hitsN (V : sV) (q : Qd) : Nat := sm (fun u => b1 (hitS V q u)) (v_us V).val 0
def strN (V : sV) : List Qd → Nat
  | [] => 0
  | q :: L => hitsN V q + strN V L
theorem strN_app (V : sV) (A B : List Qd) : strN V (A ++ B) = strN V A + strN V B := by
  induction A with
  | nil => show strN V B = 0 + strN V B; omega
  | cons q A ih => show hitsN V q + strN V (A ++ B) = hitsN V q + strN V A + strN V B; omega
theorem strN_one (V : sV) (q : Qd) : strN V [q] = hitsN V q := rfl
def fm (V : sV) (m : Bool) (q : Qd) : Bool := isP V q && (!m || nearS V (chanS V q))
def XL (I : Nat → Nat → Int32) (V : sV) (L : List Qd) : Prop :=
  I 22 1 = zI (L.length : Nat) ∧ I 22 2 = zI (strN V L : Nat) ∧ ∀ i (h : i < L.length), gdQ (v_us V).val L[i] ∧ I 24 i = zI (L[i].1 : Nat) ∧ I 25 i = zI (L[i].2.1 : Nat) ∧ I 26 i = zI (L[i].2.2.1 : Nat) ∧ I 27 i = zI L[i].2.2.2 ∧ I 28 i = zI (chanS V L[i]) ∧ I 29 i = zI (levS V L[i]) ∧ I 30 i = sSet (hitS V L[i]) (v_us V).val 0 (zI 0) ∧ I 31 i = zI (comS V L[i] : Nat)
/-- all but the list stays -/
def kp (I I' : Nat → Nat → Int32) : Prop := (∀ t, t < 22 ∨ 31 < t → I' t = I t) ∧ I' 22 4 = I 22 4 ∧ I' 22 6 = I 22 6
theorem kp_r (I : Nat → Nat → Int32) : kp I I := ⟨fun _ _ => rfl, rfl, rfl⟩
theorem kp_t {I I' I'' : Nat → Nat → Int32} (h : kp I I') (h' : kp I' I'') : kp I I'' := ⟨fun t a => (h'.1 t a).trans (h.1 t a), h'.2.1.trans h.2.1, h'.2.2.trans h.2.2⟩
theorem SX_kp {I I' : Nat → Nat → Int32} {J : Nat → Nat → Int64} {p : Nat} {V : sV} (hp : p ≤ 12) (h : kp I I') (hS : SX I J p V) : SX I' J p V := SX_e (fun t _ _ => h.1 t (by omega)) rfl hS
theorem chan_b {V : sV} {n : Nat} {q : Qd} (h : gdQ n q) : -1000 ≤ chanS V q ∧ chanS V q ≤ 1000 := by
  obtain ⟨k, a, b, c⟩ := q
  obtain ⟨g1, g2, g3, g4⟩ := h
  dsimp only at g1 g2 g3 g4
  have hk : k = 0 ∨ k = 1 ∨ k = 2 ∨ k = 3 ∨ k = 4 ∨ k = 5 := by omega
  unfold chanS tA tB tC
  rcases hk with rfl | rfl | rfl | rfl | rfl | rfl <;> simp <;> (try split) <;> omega
theorem lev_b {V : sV} {n : Nat} {q : Qd} (h : gdQ n q) : -99 ≤ levS V q ∧ levS V q ≤ 150 := by
  obtain ⟨k, a, b, c⟩ := q
  obtain ⟨g1, g2, g3, g4⟩ := h
  dsimp only at g1 g2 g3 g4
  have hk : k = 0 ∨ k = 1 ∨ k = 2 ∨ k = 3 ∨ k = 4 ∨ k = 5 := by omega
  unfold levS tA wB wC
  rcases hk with rfl | rfl | rfl | rfl | rfl | rfl <;> simp <;> (try split) <;> omega
theorem com_b (V : sV) (q : Qd) : comS V q < 256 := by
  unfold comS
  refine Nat.lt_of_le_of_lt (Nat.and_le_left) ?_
  refine Nat.lt_of_le_of_lt (Nat.and_le_left) ?_
  omega
theorem sv_0 : ∀ k : Fin 6, (qc_sv 0).getD k.val (zI 0) = zI (tA k.val) := by decide +kernel
theorem sv_1 : ∀ k : Fin 6, (qc_sv 1).getD k.val (zI 0) = zI (tB k.val) := by decide +kernel
theorem sv_2 : ∀ k : Fin 6, (qc_sv 2).getD k.val (zI 0) = zI (tC k.val) := by decide +kernel
theorem sv_3 : ∀ k : Fin 6, (qc_sv 3).getD k.val (zI 0) = zI (wB k.val) := by decide +kernel
theorem sv_4 : ∀ k : Fin 6, (qc_sv 4).getD k.val (zI 0) = zI (wC k.val) := by decide +kernel
theorem sv_5 : ∀ k : Fin 6, (qc_sv 5).getD k.val (zI 0) = zI ((k.val / 2 : Nat) : Int) := by decide +kernel
theorem x_level {I : Nat → Nat → Int32} {J : Nat → Nat → Int64} {p : Nat} {V : sV} (h : SX I J p V) {k a b : Nat} {c : Int} (hq : gdQ (v_us V).val (k, a, b, c)) : P_X2_levelOf I p (zI k) (zI a) (zI b) (zI c) = some (zI (levS V (k, a, b, c))) := by
  obtain ⟨hus, hbd, hgd, hsp, hod, hst, hlo, hhi, hch, hpw, hsl, hls, hlk, hsh⟩ := h
  obtain ⟨g1, g2, g3, g4⟩ := hq
  dsimp only at g1 g2 g3 g4
  have e0 := sv_0 ⟨k, g1⟩
  have e3 := sv_3 ⟨k, g1⟩
  have e4 := sv_4 ⟨k, g1⟩
  have e5 := sv_5 ⟨k, g1⟩
  dsimp only at e0 e3 e4 e5
  have hk : k / 2 < 3 := by omega
  unfold P_X2_levelOf levS
  dsimp only
  rcases g4 with ⟨_, g4, g5⟩ | ⟨_, g4⟩
  · obtain ⟨c', rfl⟩ : ∃ c' : Nat, c = (c' : Int) := ⟨c.toNat, by omega⟩
    simp (disch := omega) only [zI_add, zI_sub, zI_mul, zI_neg, zL, zI_le, zI_lt, zI_eq, zI_cl, zA0, zI_if, Int.toNat_natCast, zT_add, zT_mul, Int.reduceToNat, Nat.add_zero, Nat.zero_add, Int.add_zero, Int.zero_add, zc_a, zc_l, Option.bind_some, qc_let, qc_in, qc_bo, iteT, iteF, and_self, if_true, if_false, qG, hpw, hls, e0, e3, e4, e5]
  · subst g4
    simp (disch := omega) only [zI_add, zI_sub, zI_mul, zI_neg, zL, zI_le, zI_lt, zI_eq, zI_cl, zA0, zI_if, Int.toNat_natCast, zT_add, zT_mul, Int.reduceToNat, Nat.add_zero, Nat.zero_add, Int.add_zero, Int.zero_add, zc_a, zc_l, Option.bind_some, qc_let, qc_in, qc_bo, iteT, iteF, and_self, if_true, if_false, qG, hpw, hls, e0, e3, e4, e5, Int.reduceNeg]
theorem x_may {I : Nat → Nat → Int32} {J : Nat → Nat → Int64} {p : Nat} {V : sV} (h : SX I J p V) {i u : Nat} {q : Qd} (hi : i < 700) (hu : u < (v_us V).val) (hq : gdQ (v_us V).val q) (h25 : I 25 i = zI (q.2.1 : Nat)) (h26 : I 26 i = zI (q.2.2.1 : Nat)) (h27 : I 27 i = zI q.2.2.2) (h29 : I 29 i = zI (levS V q)) (h31 : I 31 i = zI (comS V q : Nat)) : P_X2_mayStrike I p (zI i) (zI u) = some (bI (mayS V q u)) := by
  obtain ⟨hus, hbd, hgd, hsp, hod, hst, hlo, hhi, hch, hpw, hsl, hls, hlk, hsh⟩ := h
  have hl := lev_b (V := V) hq
  have hcb := com_b V q
  obtain ⟨g1, g2, g3, g4⟩ := hq
  have g5 : -2 ≤ q.2.2.2 ∧ q.2.2.2 < 8 := by omega
  have hcm : comS V q &&& (v_sl V u).val < 256 := Nat.lt_of_le_of_lt Nat.and_le_left hcb
  have e3 : ((v_st V q.2.1).val : Int) * 3 + (v_st V u).val = ((3 * (v_st V q.2.1).val + (v_st V u).val : Nat) : Int) := by omega
  unfold P_X2_mayStrike mayS
  simp (disch := omega) only [zI_add, zI_sub, zI_mul, zI_neg, zL, zI_le, zI_lt, zI_eq, zI_cl, zA0, zI_if, Int.toNat_natCast, Option.bind_some, qc_let, qc_in, qc_bo, iteT, iteF, and_self, if_true, if_false, qG, hst, hch, hsl, h25, h26, h27, h29, h31, nI_and, e3, hlk, lkX]
  repeat' split
  all_goals try simp (disch := omega) only [zI_add, zI_sub, zI_mul, zI_neg, zL, zI_le, zI_lt, zI_eq, zI_cl, zA0, zI_if, Int.toNat_natCast, zT_add, zT_mul, Int.reduceToNat, Nat.add_zero, Nat.zero_add, Int.add_zero, Int.zero_add, zc_a, zc_l, Option.bind_some, qc_let, qc_in, qc_bo, iteT, iteF, and_self, if_true, if_false, qG, true_or, or_true, if_true]
  all_goals first | (exfalso; omega) | (rw [bI_n (by omega)]) | (rw [bI_p (by omega)])
