theorem XL_c {I I' : Nat → Nat → Int32} {V : sV} {L : List Qd} (h1 : ∀ t, 24 ≤ t → t ≤ 31 → I' t = I t) (h2 : I' 22 1 = I 22 1) (h3 : I' 22 2 = I 22 2) (h : XL I V L) : XL I' V L := by
  unfold XL at *
  rw [h1 24 (by omega) (by omega), h1 25 (by omega) (by omega), h1 26 (by omega) (by omega), h1 27 (by omega) (by omega), h1 28 (by omega) (by omega), h1 29 (by omega) (by omega), h1 30 (by omega) (by omega), h1 31 (by omega) (by omega), h2, h3]
  exact h
/-- all but the list and the crew stays -/
def kx (I I' : Nat → Nat → Int32) : Prop := (∀ t, t < 22 ∨ 32 < t → I' t = I t) ∧ I' 22 6 = I 22 6
theorem kx_r (I : Nat → Nat → Int32) : kx I I := ⟨fun _ _ => rfl, rfl⟩
theorem kx_t {I I' I'' : Nat → Nat → Int32} (h : kx I I') (h' : kx I' I'') : kx I I'' := ⟨fun t a => (h'.1 t a).trans (h.1 t a), h'.2.trans h.2⟩
theorem kp_x {I I' : Nat → Nat → Int32} (h : kp I I') : kx I I' := ⟨fun t a => h.1 t (by omega), h.2.2⟩
theorem SX_kx {I I' : Nat → Nat → Int32} {J : Nat → Nat → Int64} {p : Nat} {V : sV} (hp : p ≤ 12) (h : kx I I') (hS : SX I J p V) : SX I' J p V := SX_e (fun t _ _ => h.1 t (by omega)) rfl hS
theorem x_want : ∀ (o : Fin 8) (k : Fin 6), (if (zI o.val >>> ((qc_sv 5).getD k.val 0 &&& 31)) &&& 1 = 0 then some (0 : Int32) else some 1) = some (bI (decide ((o.val >>> (k.val / 2)) % 2 = 1))) := by decide +kernel
theorem x_wants {I : Nat → Nat → Int32} {J : Nat → Nat → Int64} {p k : Nat} {V : sV} (hS : SX I J p V) (hk : k < 6) : P_X4_wantsSort I p (zI k) = some (bI (wantS V k)) := by
  have hod := hS.2.2.2.2.1
  have e := x_want (v_od V) ⟨k, hk⟩
  dsimp only at e
  unfold P_X4_wantsSort
  have hi : qc_in (zI k) 6 := by
    unfold qc_in
    rw [show (0 : Int32) = zI 0 from rfl, zI_lt (by omega) (by omega) (by omega) (by omega), zI_cl (by omega) (by omega)]
    omega
  rw [if_pos hi, hod, zI_cl (by omega) (by omega), Int.toNat_natCast, e]
  show (if qc_bo (bI (wantS V k)) then some (bI (wantS V k)) else none) = _
  cases wantS V k <;> rfl
/-- where a sort ends -/
def XS (I : Nat → Nat → Int32) (V : sV) (m : Bool) (C : List Qd) : Prop := XL I V (C.filter (fm V m)) ∨ XE I V m C
theorem XS_c {I I' : Nat → Nat → Int32} {V : sV} {m : Bool} {C : List Qd} (h1 : ∀ t, 24 ≤ t → t ≤ 31 → I' t = I t) (h2 : I' 22 1 = I 22 1) (h3 : I' 22 2 = I 22 2) (h : XS I V m C) : XS I' V m C := by
  rcases h with h | ⟨e, D, d1, d2, d3⟩
  · exact Or.inl (XL_c h1 h2 h3 h)
  · exact Or.inr ⟨e, D, d1, XL_c h1 h2 h3 d2, d3⟩
theorem x_sort {I : Nat → Nat → Int32} {J : Nat → Nat → Int64} {p k : Nat} {V : sV} {m : Bool} {K : List Nat} {C : List Qd} (hp : p ≤ 12) (hS : SX I J p V) (hJ : GJ J V) (hm : I 22 6 = bI m) (hC : CR I K) (hG : CG V K) (hk : k < 6) (hX : XS I V m C) (hcap : C.length + (cand1 K K k).length ≤ 700) : wp (P_X2_gatherSort I J p (zI k)) (fun I' => kp I I' ∧ XS I' V m (C ++ cand1 K K k)) := by
  rw [x_sort_eq hC hk]
  rcases hX with hL | ⟨e, D, d1, d2, d3⟩
  · have := x_40 hp hS hJ hm hC hG hk K.length 0 qc_fu I C (by omega) (by have := hG.2.2; unfold qc_fu; omega) (kp_r I) hL (by rw [List.drop_zero]; exact hcap)
    rw [List.drop_zero] at this
    exact this
  · subst e
    have hb := strN_b V (D.filter (fm V true))
    have hfl := List.length_filter_le (fm V true) D
    have hdl := d1.length_le
    rw [x_40e (V := V) hm d2.2.1 d3 (by omega) hC hG.2.2 K.length 0 qc_fu (by omega) (by have := hG.2.2; unfold qc_fu; omega)]
    exact wp_some ⟨kp_r I, Or.inr ⟨rfl, D, d1.trans (List.prefix_append _ _), d2, d3⟩⟩
theorem x_39 {J : Nat → Nat → Int64} {p s : Nat} {V : sV} {m : Bool} {I0 : Nat → Nat → Int32} (hp : p ≤ 12) (hS : SX I0 J p V) (hJ : GJ J V) (hm : I0 22 6 = bI m) (hC : CR I0 (crew V s)) {k25 : (Nat → Nat → Int32) → (Nat → Nat → Int64) → Int32 → Option ((Nat → Nat → Int32) × (Nat → Nat → Int64))} {Q : ((Nat → Nat → Int32) × (Nat → Nat → Int64)) → Prop} : ∀ d k f I C, k + d = 6 → d < f → kp I0 I → XS I V m C → C.length + (candK V s d k).length ≤ 700 → (∀ I', kp I0 I' → XS I' V m (C ++ candK V s d k) → wp (k25 I' J (zI ((s + 1 : Nat) : Int))) Q) → wp (P_X2_gather_39 p k25 f I J (zI s) (zI k)) Q := by
  intro d
  induction d with
  | zero =>
    intro k f I C hc hf he hX hcap H
    obtain ⟨g, rfl⟩ : ∃ g, f = g + 1 := ⟨f - 1, by omega⟩
    simp (disch := omega) only [P_X2_gather_39, zI_add, zI_sub, zI_mul, zI_neg, zL, zI_le, zI_lt, zI_eq, zI_cl, zA0, zI_if, Int.toNat_natCast, zT_add, zT_mul, Int.reduceToNat, Nat.add_zero, Nat.zero_add, Int.add_zero, Int.zero_add, zc_a, zc_l, Option.bind_some, qc_let, qc_in, qc_bo, iteT, iteF, and_self, if_true, if_false, qG]
    have := H I he (by show XS I V m (C ++ []); rw [List.append_nil]; exact hX)
    simpa only [zc_a, zc_l] using this
  | succ d ih =>
    intro k f I C hc hf he hX hcap H
    obtain ⟨g, rfl⟩ : ∃ g, f = g + 1 := ⟨f - 1, by omega⟩
    have hSI := SX_kp hp he hS
    have e0 : candK V s (d + 1) k = cand0 V s k ++ candK V s d (k + 1) := rfl
    rw [e0] at hcap H
    rw [List.length_append] at hcap
    simp (disch := omega) only [P_X2_gather_39, P_X2_gather_62, zI_add, zI_sub, zI_mul, zI_neg, zL, zI_le, zI_lt, zI_eq, zI_cl, zA0, zI_if, Int.toNat_natCast, zT_add, zT_mul, Int.reduceToNat, Nat.add_zero, Nat.zero_add, Int.add_zero, Int.zero_add, zc_a, zc_l, Option.bind_some, qc_let, qc_in, qc_bo, iteT, iteF, and_self, if_true, if_false, qG, x_wants hSI (show k < 6 by omega), bI_0]
    by_cases ew : wantS V k = true
    · rw [if_neg (by rw [ew]; decide)]
      unfold cand0 at hcap H
      rw [if_pos ew] at hcap H
      refine wp_bind (x_sort hp hSI hJ (by rw [he.2.2]; exact hm) (CR_kp he hC) (CG_crew V s) (by omega) hX (by omega)) ?_
      intro I1 ⟨he1, hX1⟩
      have := ih (k + 1) g I1 _ (by omega) (by omega) (kp_t he he1) hX1 (by rw [List.length_append]; omega) (by
        intro I' h1 h2
        refine H I' h1 ?_
        rw [List.append_assoc] at h2
        exact h2)
      simpa only [zc_a, zc_l] using this
    · have ew2 : wantS V k = false := by simpa using ew
      rw [if_pos ew2]
      unfold cand0 at hcap H
      rw [if_neg ew] at hcap H
      have := ih (k + 1) g I C (by omega) (by omega) he hX (by simpa using hcap) (by
        intro I' h1 h2
        refine H I' h1 ?_
        simpa using h2)
      simpa only [zc_a, zc_l] using this
theorem x_25 {J : Nat → Nat → Int64} {p : Nat} {V : sV} {m : Bool} {I0 : Nat → Nat → Int32} (hp : p ≤ 12) (hS : SX I0 J p V) (hJ : GJ J V) (hm : I0 22 6 = bI m) : ∀ d s f I C, s + d = 3 → d < f → kx I0 I → XS I V m C → C.length + (candT V d s).length ≤ 700 → wp (P_X2_gather_25 p f I J (zI s)) (fun r => kx I0 r.1 ∧ r.2 = J ∧ XS r.1 V m (C ++ candT V d s)) := by
  intro d
  induction d with
  | zero =>
    intro s f I C hc hf he hX hcap
    obtain ⟨g, rfl⟩ : ∃ g, f = g + 1 := ⟨f - 1, by omega⟩
    simp (disch := omega) only [P_X2_gather_25, zI_add, zI_sub, zI_mul, zI_neg, zL, zI_le, zI_lt, zI_eq, zI_cl, zA0, zI_if, Int.toNat_natCast, zT_add, zT_mul, Int.reduceToNat, Nat.add_zero, Nat.zero_add, Int.add_zero, Int.zero_add, zc_a, zc_l, Option.bind_some, qc_let, qc_in, qc_bo, iteT, iteF, and_self, if_true, if_false, qG]
    refine wp_some ⟨he, rfl, ?_⟩
    show XS I V m (C ++ [])
    rw [List.append_nil]
    exact hX
  | succ d ih =>
    intro s f I C hc hf he hX hcap
    obtain ⟨g, rfl⟩ : ∃ g, f = g + 1 := ⟨f - 1, by omega⟩
    have hSI := SX_kx hp he hS
    have e0 : candT V (d + 1) s = candK V s 6 0 ++ candT V d (s + 1) := rfl
    rw [e0] at hcap ⊢
    rw [List.length_append] at hcap
    simp (disch := omega) only [P_X2_gather_25, zI_add, zI_sub, zI_mul, zI_neg, zL, zI_le, zI_lt, zI_eq, zI_cl, zA0, zI_if, Int.toNat_natCast, zT_add, zT_mul, Int.reduceToNat, Nat.add_zero, Nat.zero_add, Int.add_zero, Int.zero_add, zc_a, zc_l, Option.bind_some, qc_let, qc_in, qc_bo, iteT, iteF, and_self, if_true, if_false, qG]
    refine wp_bind (x_crew hp (show s < 3 by omega) hSI) ?_
    intro I1 ⟨k1, k2, k3⟩
    have hx1 : kx I I1 := ⟨fun t a => k1 t (by omega) (by omega), k2 6 (by omega)⟩
    have hX1 : XS I1 V m C := XS_c (fun t _ _ => k1 t (by omega) (by omega)) (k2 1 (by omega)) (k2 2 (by omega)) hX
    refine x_39 hp (SX_kx hp hx1 hSI) hJ (by rw [hx1.2, he.2]; exact hm) k3 6 0 qc_fu I1 C (by omega) (by unfold qc_fu; omega) (kp_r I1) hX1 (by omega) ?_
    intro I2 h1 h2
    refine wp_mono (ih (s + 1) g I2 _ (by omega) (by omega) (kx_t he (kx_t hx1 (kp_x h1))) h2 (by rw [List.length_append]; omega)) ?_
    intro r ⟨r1, r2, r3⟩
    rw [List.append_assoc] at r3
    exact ⟨r1, r2, r3⟩
/-- what a gathering leaves -/
def gJ (J J' : Nat → Nat → Int64) : Prop := ∀ t, t ≠ 22 → J' t = J t
theorem x_gather {I : Nat → Nat → Int32} {J : Nat → Nat → Int64} {p : Nat} {V : sV} (m : Bool) (hp : p ≤ 12) (hS : SX I J p V) (hcap : (candT V 3 0).length ≤ 700) : wp (P_X2_gather I J p (bI m)) (fun r => (∀ t, t < 22 ∨ 32 < t → r.1 t = I t) ∧ gJ J r.2 ∧ XS r.1 V m (candT V 3 0)) := by
  unfold P_X2_gather
  simp only [zL, qc_let]
  rw [if_pos (by cases m <;> decide)]
  have hS1 : SX (qc_u2 (qc_u2 (qc_u2 I 22 1 (zI 0)) 22 2 (zI 0)) 22 6 (bI m)) J p V := by
    refine SX_e (fun t _ _ => ?_) rfl hS
    unfold qc_u2 qc_u
    simp (disch := omega) only [iteF]
  obtain ⟨x, x1, x2⟩ := x_guarded hS1
  rw [x1]
  simp only [Option.bind_some]
  have hS2 : SX (qc_u2 (qc_u2 (qc_u2 I 22 1 (zI 0)) 22 2 (zI 0)) 22 6 (bI m)) (qc_u2 J 22 5 x) p V := by
    refine SX_e (fun t _ _ => rfl) ?_ hS1
    unfold qc_u2 qc_u
    rw [if_neg (by omega)]
  have hJ2 : GJ (qc_u2 J 22 5 x) V := by
    intro c h1 h2
    rw [qG, if_pos ⟨rfl, rfl⟩]
    exact x2 c h1 h2
  refine wp_mono (x_25 (m := m) hp hS2 hJ2 (by rw [qG, if_pos ⟨rfl, rfl⟩]) 3 0 qc_fu _ [] (by omega) (by unfold qc_fu; omega) (kx_r _) (Or.inl ⟨?_, ?_, ?_⟩) (by simpa using hcap)) ?_
  · simp (disch := omega) only [qG, iteT, iteF, and_self, if_true]
    rfl
  · simp (disch := omega) only [qG, iteT, iteF, and_self, if_true]
    rfl
  · intro i hi
    simp at hi
  · intro r ⟨r1, r2, r3⟩
    refine ⟨?_, ?_, r3⟩
    · intro t ht
      rw [r1.1 t ht]
      unfold qc_u2 qc_u
      simp (disch := omega) only [iteF]
    · intro t ht
      rw [r2]
      unfold qc_u2 qc_u
      rw [if_neg ht]
