/-! text(): the reader's cells come behind the object's; nothing is there yet -/
def qc_cI (I : Nat → Nat → Int32) : Nat → Nat → Int32 := fun t => if t < 121 then I t else fun _ => 0
def qc_cJ (J : Nat → Nat → Int64) : Nat → Nat → Int64 := fun t => if t < 121 then J t else fun _ => 0
def qc_cR (w : Nat → Nat) : Nat → Nat → Option Nat := fun t => if t < 121 then rX w t else fun _ => none
theorem qc_cI_hi (I : Nat → Nat → Int32) {t : Nat} (h : 121 ≤ t) : qc_cI I t = fun _ => 0 := if_neg (by omega)
theorem qc_cJ_hi (J : Nat → Nat → Int64) {t : Nat} (h : 121 ≤ t) : qc_cJ J t = fun _ => 0 := if_neg (by omega)
theorem qc_cR_hi (w : Nat → Nat) {t : Nat} (h : 121 ≤ t) : qc_cR w t = fun _ => none := if_neg (by omega)
theorem qc_clr {I : Nat → Nat → Int32} {J : Nat → Nat → Int64} {w : Nat → Nat} : qc_eq (I, J, (rX w, kX, nX, 121)) (qc_cI I, qc_cJ J, (qc_cR w, kX, nX, 121)) := by
  refine ⟨rfl, fun t ht => ⟨rfl, rfl, fun j _ => ⟨?_, ?_, ?_⟩⟩⟩
  · show qc_cI I t j = I t j
    unfold qc_cI; rw [if_pos ht]
  · show qc_cJ J t j = J t j
    unfold qc_cJ; rw [if_pos ht]
  · show qc_cR w t j = rX w t j
    unfold qc_cR; rw [if_pos ht]
theorem rXl_wf : ∀ t, t < 121 → ∀ v ∈ (rXl.getD t []).filterMap id, v < 121 := by decide +kernel
theorem qc_cR_wf {w : Nat → Nat} (hw : ∀ j, w j < 121) : qc_wf (qc_cR w) 121 := by
  intro t j v e
  unfold qc_cR at e
  by_cases ht : t < 121
  · rw [if_pos ht] at e
    unfold rX at e
    by_cases h36 : t = 36
    · rw [if_pos h36] at e; cases e; exact hw j
    · rw [if_neg h36] at e
      refine rXl_wf t ht v (List.mem_filterMap.mpr ⟨some v, ?_, rfl⟩)
      rw [List.getD_eq_getElem?_getD] at e
      cases e2 : (rXl.getD t [])[j]? with
      | none => rw [e2] at e; cases e
      | some o => rw [e2] at e; have e : o = some v := e; subst e; exact List.mem_of_getElem? e2
  · rw [if_neg ht] at e; cases e
theorem rRd_ok : ∀ t, 121 ≤ t → t < 132 → ∀ j, j < (if kX t < 8 then (qc_fl (kX t)).length else nX t) → (rXl.getD t []).getD j none = rRd (fun _ _ => none) t j := by
  intro t h1 h2
  obtain ⟨k, rfl⟩ : ∃ k, t = 121 + k := ⟨t - 121, by omega⟩
  exact (by decide +kernel : ∀ k, k < 11 → ∀ j, j < (if kX (121 + k) < 8 then (qc_fl (kX (121 + k))).length else nX (121 + k)) → (rXl.getD (121 + k) []).getD j none = rRd (fun _ _ => none) (121 + k) j) k (by omega)
theorem rRd_lo {R : Nat → Nat → Option Nat} {t : Nat} (h : t < 121) : rRd R t = R t := by
  unfold rRd rSc122 qc_u2
  simp only [qc_u]
  repeat rw [if_neg (by omega)]
theorem rRd_hi {R S : Nat → Nat → Option Nat} {t : Nat} (h : ∀ t, 121 ≤ t → R t = S t) (ht : 121 ≤ t) : rRd R t = rRd S t := by
  unfold rRd rSc122 qc_u2
  simp only [qc_u]
  rw [h t ht, h 121 (by omega), h 122 (by omega)]
theorem qc_rd {I : Nat → Nat → Int32} {J : Nat → Nat → Int64} {w : Nat → Nat} : qc_eq (I, J, (rRd (qc_cR w), kX, nX, 132)) (I, J, (rX w, kX, nX, 132)) := by
  refine ⟨rfl, fun t ht => ⟨rfl, rfl, fun j hj => ⟨rfl, rfl, ?_⟩⟩⟩
  show rX w t j = rRd (qc_cR w) t j
  by_cases h : t < 121
  · rw [rRd_lo h]
    unfold qc_cR; rw [if_pos h]
  · have ht : t < 132 := ht
    rw [rRd_hi (S := fun _ _ => none) (fun t ht => qc_cR_hi w ht) (by omega), ← rRd_ok t (by omega) ht j hj]
    unfold rX
    rw [if_neg (by omega)]
theorem qm_X3_init : qc_mw yX3_init cX3_init 3 none 2 := ⟨ww_380, by decide, by decide, by decide +kernel⟩
theorem qm_X3_readAll : qc_mw yX3_readAll cX3_readAll 1 none 0 := ⟨ww_434, by decide, by decide, by decide +kernel⟩
theorem gc_RX6_74 : qc_cV RX6 74 RX3 yX3_readAll := ⟨ww_431, ww_432, ww_433, ww_119⟩
set_option maxRecDepth 20000 in
theorem c_X6_text_0 {I : Nat → Nat → Int32} {J : Nat → Nat → Int64} {w : Nat → Nat} {a : Int32} (ha : a < 0 ∨ ¬ a ≤ I 0 1) : ∀ l, qc_M l yX6_text cX6_text 3 (some .int) 7 145 11 98 [.ref 0, .int a] (I, J, (rX w, kX, nX, 121)) (some (.int (-2))) (I, J, (rX w, kX, nX, 121)) := by
  intro l
  refine qc_ent2 (by decide) (Nat.le_of_ble_eq_true rfl) ?_
  intro F hn0 cx hz
  have hn0 : F.2.2.2.2.2.2.2.2.2.2.2.2.2.2.1 ≤ 121 := hn0
  have cx : qc_X F cX6_text RX6 "text" 7 11 98 145 := cx
  show qc_J F 0 0 0 [some (.ref 0), some (.int a), none] [] (I, J, (rX w, kX, nX, 121))
  have K12 : qc_J F 0 0 12 [some (.ref 0), some (.int a), none] [] (I, J, (rX w, kX, nX, 121)) := by
    refine qj_bipush (v := (-2 : Int32)) cx dX6_text_12 (by decide) ?_
    exact qj_iret (st := []) cx hz dX6_text_14 (by decide) (by decide)
  refine qj_iload_n cx dX6_text_0 rfl rfl ?_
  refine qj_if_lt (tgt := 12) cx dX6_text_1 (by decide) (fun c => K12) (fun c => ?_)
  refine qj_iload_n cx dX6_text_4 rfl rfl ?_
  refine qj_aload_n cx dX6_text_5 rfl rfl ?_
  refine qw_getI (j := 1) cx dX6_text_6 qc_cl6 rfl (Nat.le_of_ble_eq_true rfl) rfl ww_331 ?_
  refine qj_icmp_le (tgt := 15) cx dX6_text_9 (by decide) (fun c2 => ha.elim (fun z => absurd z c) (fun z => absurd c2 z)) (fun c2 => ?_)
  exact K12
set_option maxRecDepth 20000 in
theorem c_X6_text_1 {I I2 I3 I4 : Nat → Nat → Int32} {J : Nat → Nat → Int64} {w : Nat → Nat} {a : Int32} {q1 : ((Nat → Nat → Int32) × (Nat → Nat → Int64))} (hw : ∀ j, w j < 121) (ha : ¬ a < 0) (hb : a ≤ I 0 1) (hP : P_X3_readAll (iRd (qc_cI I) a) (jRd (qc_cJ J)) = some q1) (e2 : I2 = qc_u2 (q1.1) 0 1 0) (e3 : I3 = qc_u2 I2 0 2 (I2 121 7)) (e4 : I4 = qc_u2 I3 0 3 (I3 121 8)) (hf : ¬ I4 0 2 = 0) : ∀ l, qc_M l yX6_text cX6_text 3 (some .int) 7 145 11 98 [.ref 0, .int a] (I, J, (rX w, kX, nX, 121)) (some (.int (-1))) (I4, q1.2, (rX w, kX, nX, 132)) := by
  intro l
  refine qc_ent2 (by decide) (Nat.le_of_ble_eq_true rfl) ?_
  intro F hn0 cx hz
  have hn0 : F.2.2.2.2.2.2.2.2.2.2.2.2.2.2.1 ≤ 121 := hn0
  have cx : qc_X F cX6_text RX6 "text" 7 11 98 145 := cx
  show qc_J F 0 0 0 [some (.ref 0), some (.int a), none] [] (I, J, (rX w, kX, nX, 121))
  refine qj_iload_n cx dX6_text_0 rfl rfl ?_
  refine qj_if_lt (tgt := 12) cx dX6_text_1 (by decide) (fun c => absurd c ha) (fun c => ?_)
  refine qj_iload_n cx dX6_text_4 rfl rfl ?_
  refine qj_aload_n cx dX6_text_5 rfl rfl ?_
  refine qw_getI (j := 1) cx dX6_text_6 qc_cl6 rfl (Nat.le_of_ble_eq_true rfl) rfl ww_331 ?_
  refine qj_icmp_le (tgt := 15) cx dX6_text_9 (by decide) (fun c2 => ?_) (fun c2 => absurd hb c2)
  have w0 := qc_cR_wf hw
  refine qa_eqv qc_clr ?_
  refine qa_new (m := 121) cx dX6_text_15 qc_cl3 qc_dv3 ww_376 ww_377 ww_119 rfl (qc_cI_hi I (by decide)) (qc_cJ_hi J (by decide)) (qc_cR_hi w (by decide)) hn0 w0 rfl rfl (by decide) ?_
  refine qj_dup cx dX6_text_18 rfl ?_
  refine qj_aload_n cx dX6_text_19 rfl rfl ?_
  refine qj_getR (j := 0) (t1 := 1) (h := (qc_cI I, qc_cJ J, (qc_cR w, kX, nX, 122))) cx dX6_text_20 qc_cl6 rfl (Nat.le_of_ble_eq_true rfl) rfl ww_330 rfl ?_
  refine qj_iload_n cx dX6_text_23 rfl rfl ?_
  refine qj_callI (As := [.ref 1, .int a]) (st := [.ref 121]) (t := 121) (h' := (iRd (qc_cI I) a, jRd (qc_cJ J), (rRd (qc_cR w), kX, nX, 132))) cx dX6_text_24 (c_X3_init (fun t h1 h2 => qc_cI_hi I (by omega)) (qc_cJ_hi J (by decide)) (qc_cR_hi w (by decide)) (w0.up (by decide))) ⟨ww_378, ww_379, ww_119⟩ qm_X3_init rfl rfl (by decide) (by decide) rfl (Nat.le_of_ble_eq_true rfl) (Nat.le_of_ble_eq_true rfl) (Nat.le_trans hn0 (Nat.le_of_ble_eq_true rfl)) (Nat.le_of_ble_eq_true rfl) rfl rfl ?_
  refine qa_eqv qc_rd ?_
  refine qj_astore_n (ls1 := [some (.ref 0), some (.int a), some (.ref 121)]) cx dX6_text_27 rfl rfl rfl rfl ?_
  refine qj_aload_n cx dX6_text_28 rfl rfl ?_
  refine qj_callV (As := []) (st := []) (t := 121) (h' := (q1.1, q1.2, (rX w, kX, nX, 132))) (r := none) cx dX6_text_29 (c_X3_readAll (I := iRd (qc_cI I) a) (J := jRd (qc_cJ J)) (w := w) (n := 132) (by decide) (by decide) (by decide) hP) gc_RX6_74 qm_X3_readAll rfl rfl qc_cl3 rfl (Nat.le_of_ble_eq_true rfl) (by decide) (by decide) rfl (Nat.le_of_ble_eq_true rfl) (Nat.le_of_ble_eq_true rfl) (Nat.le_trans hn0 (Nat.le_of_ble_eq_true rfl)) rfl ?_
  refine qj_aload_n cx dX6_text_32 rfl rfl ?_
  refine qj_iconst (v := (0 : Int32)) cx dX6_text_33 (by decide) ?_
  refine qw_putI (I1 := I2) (j := 1) cx dX6_text_34 qc_cl6 rfl (Nat.le_of_ble_eq_true rfl) rfl ww_331 rfl rfl rfl e2 ?_
  refine qj_aload_n cx dX6_text_37 rfl rfl ?_
  refine qj_aload_n cx dX6_text_38 rfl rfl ?_
  refine qw_getI (j := 7) cx dX6_text_39 qc_cl3 rfl (Nat.le_of_ble_eq_true rfl) rfl ww_393 ?_
  refine qw_putI (I1 := I3) (j := 2) cx dX6_text_42 qc_cl6 rfl (Nat.le_of_ble_eq_true rfl) rfl ww_332 rfl rfl rfl e3 ?_
  refine qj_aload_n cx dX6_text_45 rfl rfl ?_
  refine qj_aload_n cx dX6_text_46 rfl rfl ?_
  refine qw_getI (j := 8) cx dX6_text_47 qc_cl3 rfl (Nat.le_of_ble_eq_true rfl) rfl ww_395 ?_
  refine qw_putI (I1 := I4) (j := 3) cx dX6_text_50 qc_cl6 rfl (Nat.le_of_ble_eq_true rfl) rfl ww_333 rfl rfl rfl e4 ?_
  refine qj_aload_n cx dX6_text_53 rfl rfl ?_
  refine qw_getI (j := 2) cx dX6_text_54 qc_cl6 rfl (Nat.le_of_ble_eq_true rfl) rfl ww_332 ?_
  refine qj_if_eq (tgt := 62) cx dX6_text_57 (by decide) (fun c => absurd c hf) (fun c => ?_)
  refine qj_iconst (v := (-1 : Int32)) cx dX6_text_60 (by decide) ?_
  exact qj_iret (st := []) cx hz dX6_text_61 (by decide) (by decide)
set_option maxRecDepth 20000 in
theorem c_X6_text_2 {I I2 I3 I4 I5 I6 : Nat → Nat → Int32} {J : Nat → Nat → Int64} {w : Nat → Nat} {a : Int32} {q1 : ((Nat → Nat → Int32) × (Nat → Nat → Int64))} (hw : ∀ j, w j < 121) (ha : ¬ a < 0) (hb : a ≤ I 0 1) (hP : P_X3_readAll (iRd (qc_cI I) a) (jRd (qc_cJ J)) = some q1) (e2 : I2 = qc_u2 (q1.1) 0 1 0) (e3 : I3 = qc_u2 I2 0 2 (I2 121 7)) (e4 : I4 = qc_u2 I3 0 3 (I3 121 8)) (hf : I4 0 2 = 0) (e5 : I5 = qc_u2 I4 0 10 0) (e6 : I6 = qc_u2 I5 35 1 0) : ∀ l, qc_M l yX6_text cX6_text 3 (some .int) 7 145 11 98 [.ref 0, .int a] (I, J, (rX w, kX, nX, 121)) (some (.int (I6 121 9))) (I6, q1.2, (qc_u2 (rX w) 0 4 (some 122), kX, nX, 132)) := by
  intro l
  refine qc_ent2 (by decide) (Nat.le_of_ble_eq_true rfl) ?_
  intro F hn0 cx hz
  have hn0 : F.2.2.2.2.2.2.2.2.2.2.2.2.2.2.1 ≤ 121 := hn0
  have cx : qc_X F cX6_text RX6 "text" 7 11 98 145 := cx
  show qc_J F 0 0 0 [some (.ref 0), some (.int a), none] [] (I, J, (rX w, kX, nX, 121))
  refine qj_iload_n cx dX6_text_0 rfl rfl ?_
  refine qj_if_lt (tgt := 12) cx dX6_text_1 (by decide) (fun c => absurd c ha) (fun c => ?_)
  refine qj_iload_n cx dX6_text_4 rfl rfl ?_
  refine qj_aload_n cx dX6_text_5 rfl rfl ?_
  refine qw_getI (j := 1) cx dX6_text_6 qc_cl6 rfl (Nat.le_of_ble_eq_true rfl) rfl ww_331 ?_
  refine qj_icmp_le (tgt := 15) cx dX6_text_9 (by decide) (fun c2 => ?_) (fun c2 => absurd hb c2)
  have w0 := qc_cR_wf hw
  refine qa_eqv qc_clr ?_
  refine qa_new (m := 121) cx dX6_text_15 qc_cl3 qc_dv3 ww_376 ww_377 ww_119 rfl (qc_cI_hi I (by decide)) (qc_cJ_hi J (by decide)) (qc_cR_hi w (by decide)) hn0 w0 rfl rfl (by decide) ?_
  refine qj_dup cx dX6_text_18 rfl ?_
  refine qj_aload_n cx dX6_text_19 rfl rfl ?_
  refine qj_getR (j := 0) (t1 := 1) (h := (qc_cI I, qc_cJ J, (qc_cR w, kX, nX, 122))) cx dX6_text_20 qc_cl6 rfl (Nat.le_of_ble_eq_true rfl) rfl ww_330 rfl ?_
  refine qj_iload_n cx dX6_text_23 rfl rfl ?_
  refine qj_callI (As := [.ref 1, .int a]) (st := [.ref 121]) (t := 121) (h' := (iRd (qc_cI I) a, jRd (qc_cJ J), (rRd (qc_cR w), kX, nX, 132))) cx dX6_text_24 (c_X3_init (fun t h1 h2 => qc_cI_hi I (by omega)) (qc_cJ_hi J (by decide)) (qc_cR_hi w (by decide)) (w0.up (by decide))) ⟨ww_378, ww_379, ww_119⟩ qm_X3_init rfl rfl (by decide) (by decide) rfl (Nat.le_of_ble_eq_true rfl) (Nat.le_of_ble_eq_true rfl) (Nat.le_trans hn0 (Nat.le_of_ble_eq_true rfl)) (Nat.le_of_ble_eq_true rfl) rfl rfl ?_
  refine qa_eqv qc_rd ?_
  refine qj_astore_n (ls1 := [some (.ref 0), some (.int a), some (.ref 121)]) cx dX6_text_27 rfl rfl rfl rfl ?_
  refine qj_aload_n cx dX6_text_28 rfl rfl ?_
  refine qj_callV (As := []) (st := []) (t := 121) (h' := (q1.1, q1.2, (rX w, kX, nX, 132))) (r := none) cx dX6_text_29 (c_X3_readAll (I := iRd (qc_cI I) a) (J := jRd (qc_cJ J)) (w := w) (n := 132) (by decide) (by decide) (by decide) hP) gc_RX6_74 qm_X3_readAll rfl rfl qc_cl3 rfl (Nat.le_of_ble_eq_true rfl) (by decide) (by decide) rfl (Nat.le_of_ble_eq_true rfl) (Nat.le_of_ble_eq_true rfl) (Nat.le_trans hn0 (Nat.le_of_ble_eq_true rfl)) rfl ?_
  refine qj_aload_n cx dX6_text_32 rfl rfl ?_
  refine qj_iconst (v := (0 : Int32)) cx dX6_text_33 (by decide) ?_
  refine qw_putI (I1 := I2) (j := 1) cx dX6_text_34 qc_cl6 rfl (Nat.le_of_ble_eq_true rfl) rfl ww_331 rfl rfl rfl e2 ?_
  refine qj_aload_n cx dX6_text_37 rfl rfl ?_
  refine qj_aload_n cx dX6_text_38 rfl rfl ?_
  refine qw_getI (j := 7) cx dX6_text_39 qc_cl3 rfl (Nat.le_of_ble_eq_true rfl) rfl ww_393 ?_
  refine qw_putI (I1 := I3) (j := 2) cx dX6_text_42 qc_cl6 rfl (Nat.le_of_ble_eq_true rfl) rfl ww_332 rfl rfl rfl e3 ?_
  refine qj_aload_n cx dX6_text_45 rfl rfl ?_
  refine qj_aload_n cx dX6_text_46 rfl rfl ?_
  refine qw_getI (j := 8) cx dX6_text_47 qc_cl3 rfl (Nat.le_of_ble_eq_true rfl) rfl ww_395 ?_
  refine qw_putI (I1 := I4) (j := 3) cx dX6_text_50 qc_cl6 rfl (Nat.le_of_ble_eq_true rfl) rfl ww_333 rfl rfl rfl e4 ?_
  refine qj_aload_n cx dX6_text_53 rfl rfl ?_
  refine qw_getI (j := 2) cx dX6_text_54 qc_cl6 rfl (Nat.le_of_ble_eq_true rfl) rfl ww_332 ?_
  refine qj_if_eq (tgt := 62) cx dX6_text_57 (by decide) (fun c => ?_) (fun c => absurd hf c)
  refine qj_aload_n cx dX6_text_62 rfl rfl ?_
  refine qj_aload_n cx dX6_text_63 rfl rfl ?_
  refine qw_getR (j := 2) (t1 := 122) cx dX6_text_64 qc_cl3 rfl (Nat.le_of_ble_eq_true rfl) rfl ww_387 rfl ?_
  refine qj_putR (j := 4) (h := (I4, q1.2, (rX w, kX, nX, 132))) cx dX6_text_67 qc_cl6 rfl (Nat.le_of_ble_eq_true rfl) rfl ww_334 (fun _ => rfl) (fun _ => rfl) rfl ?_
  show qc_J F 11 98 70 [some (.ref 0), some (.int a), some (.ref 121)] [] (I4, q1.2, (qc_u2 (rX w) 0 4 (some 122), kX, nX, 132))
  refine qj_aload_n cx dX6_text_70 rfl rfl ?_
  refine qj_iconst (v := (0 : Int32)) cx dX6_text_71 (by decide) ?_
  refine qw_putI (I1 := I5) (j := 10) cx dX6_text_72 qc_cl6 rfl (Nat.le_of_ble_eq_true rfl) rfl ww_340 (by decide) (by decide) rfl e5 ?_
  refine qj_aload_n cx dX6_text_75 rfl rfl ?_
  refine qw_getR (j := 8) (t1 := 35) cx dX6_text_76 qc_cl6 rfl (Nat.le_of_ble_eq_true rfl) rfl ww_338 rfl ?_
  refine qj_iconst (v := (0 : Int32)) cx dX6_text_79 (by decide) ?_
  refine qw_putI (I1 := I6) (j := 1) cx dX6_text_80 qc_cl0 rfl (Nat.le_of_ble_eq_true rfl) rfl ww_322 rfl rfl rfl e6 ?_
  refine qj_aload_n cx dX6_text_83 rfl rfl ?_
  refine qw_getI (j := 9) cx dX6_text_84 qc_cl3 rfl (Nat.le_of_ble_eq_true rfl) rfl ww_397 ?_
  exact qj_iret (st := []) cx hz dX6_text_87 (by decide) (by decide)
