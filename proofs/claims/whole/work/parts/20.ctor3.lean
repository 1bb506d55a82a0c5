theorem qm_X0_init : qc_mw yX0_init cX0_init 2 (Option.none : Option Jvm.ClassFile.FieldType) 0 := ⟨ww_298, by decide, by decide, by decide +kernel⟩
theorem qm_X2_init : qc_mw yX2_init cX2_init 1 (Option.none : Option Jvm.ClassFile.FieldType) 0 := ⟨ww_248, by decide, by decide, by decide +kernel⟩
theorem qm_X5_init : qc_mw yX5_init cX5_init 1 (Option.none : Option Jvm.ClassFile.FieldType) 0 := ⟨ww_281, by decide, by decide, by decide +kernel⟩
theorem qc_colz : ∀ j, j < 8 → kX (23 + 1 + j) = 8 ∧ nX (23 + 1 + j) = 700 := by decide +kernel
def iPr (I : Nat → Nat → Int32) : Nat → Nat → Int32 := (qc_u2 (qc_u2 (qc_u2 (qc_u2 I 22 1 (0 : Int32)) 22 2 (0 : Int32)) 22 4 (0 : Int32)) 22 6 (0 : Int32))
def jPr (J : Nat → Nat → Int64) : Nat → Nat → Int64 := (qc_u2 J 22 5 (0 : Int64))
def rPr (R : Nat → Nat → Option Nat) : Nat → Nat → Option Nat := (qc_u2 (qc_u2 (rMn R 23) 22 0 (some 23)) 22 3 (some 32))
set_option maxRecDepth 100000 in
set_option maxHeartbeats 4000000 in
theorem c_X2_init {I : Nat → Nat → Int32} {J : Nat → Nat → Int64} {R : Nat → Nat → Option Nat} (hI : ∀ t, 23 ≤ t → t ≤ 32 → I t = fun _ => 0) (w0 : qc_wf R 23) : ∀ l, qc_M l yX2_init cX2_init 1 none 1 20 10 5616 [.ref 22] (I, J, (R, kX, nX, 23)) none (iPr I, jPr J, (rPr R, kX, nX, 33)) := by
  intro l
  refine qc_ent2 (by decide) (Nat.le_of_ble_eq_true rfl) ?_
  intro F hn0 cx hz
  have cx : qc_X F cX2_init RX2 "<init>" 1 10 5616 20 := cx
  show qc_J F 0 0 0 [some (.ref 22)] [] (I, J, (R, kX, nX, 23))
  refine qj_aload_n cx dX2_init_0 rfl rfl ?_
  refine qa_obj cx dX2_init_1 ww_249 ww_139 ww_140 (by decide) (Nat.le_of_ble_eq_true rfl) ?_
  refine qj_aload_n cx dX2_init_4 rfl rfl ?_
  refine qj_bipush (v := (8 : Int32)) cx dX2_init_5 (by decide) ?_
  refine qj_sipush (v := (700 : Int32)) cx dX2_init_7 (by decide) ?_
  refine qa_mna (m := 23) cx dX2_init_10 ww_250 ww_243 rfl rfl (fun j hj => ⟨(qc_colz j hj).1, (qc_colz j hj).2, hI _ (by omega) (by omega)⟩) (Nat.le_trans hn0 (Nat.le_of_ble_eq_true rfl)) w0 rfl rfl (by decide) ?_
  have w1 : qc_wf (rMn R 23) 32 := wf_Mn w0
  have w2 : qc_wf (qc_u2 (rMn R 23) 22 0 (some 23)) 32 := w1.set (by decide)
  refine qj_putRF (j := 0) (h := (I, J, ((rMn R 23), kX, nX, 32))) cx dX2_init_14 qc_cl2 rfl (Nat.le_of_ble_eq_true rfl) rfl ww_252 (fun _ => rfl) (fun _ => rfl) rfl rfl rfl ?_
  show qc_J F 9 5608 17 [some (.ref 22)] [] (I, J, ((qc_u2 (rMn R 23) 22 0 (some 23)), kX, nX, 32))
  refine qj_aload_n cx dX2_init_17 rfl rfl ?_
  refine qj_iconst (v := (0 : Int32)) cx dX2_init_18 (by decide) ?_
  refine qj_putI (j := 1) (h := (I, J, ((qc_u2 (rMn R 23) 22 0 (some 23)), kX, nX, 32))) cx dX2_init_19 qc_cl2 rfl (Nat.le_of_ble_eq_true rfl) rfl ww_254 rfl rfl rfl ?_
  show qc_J F 9 5608 22 [some (.ref 22)] [] ((qc_u2 I 22 1 (0 : Int32)), J, ((qc_u2 (rMn R 23) 22 0 (some 23)), kX, nX, 32))
  refine qj_aload_n cx dX2_init_22 rfl rfl ?_
  refine qj_iconst (v := (0 : Int32)) cx dX2_init_23 (by decide) ?_
  refine qj_putI (j := 2) (h := ((qc_u2 I 22 1 (0 : Int32)), J, ((qc_u2 (rMn R 23) 22 0 (some 23)), kX, nX, 32))) cx dX2_init_24 qc_cl2 rfl (Nat.le_of_ble_eq_true rfl) rfl ww_256 rfl rfl rfl ?_
  show qc_J F 9 5608 27 [some (.ref 22)] [] ((qc_u2 (qc_u2 I 22 1 (0 : Int32)) 22 2 (0 : Int32)), J, ((qc_u2 (rMn R 23) 22 0 (some 23)), kX, nX, 32))
  refine qj_aload_n cx dX2_init_27 rfl rfl ?_
  refine qj_bipush (v := (8 : Int32)) cx dX2_init_28 (by decide) ?_
  refine qa_newi (len := 8) (m := 32) cx dX2_init_30 ww_243 ⟨by decide, rfl⟩ (by decide) rfl rfl (hI 32 (by decide) (by decide)) (Nat.le_trans hn0 (Nat.le_of_ble_eq_true rfl)) w2 rfl rfl (by decide) ?_
  have w3 : qc_wf (qc_u2 (rMn R 23) 22 0 (some 23)) 33 := w2.up (by decide)
  have w4 : qc_wf (qc_u2 (qc_u2 (rMn R 23) 22 0 (some 23)) 22 3 (some 32)) 33 := w3.set (by decide)
  refine qj_putRF (j := 3) (h := ((qc_u2 (qc_u2 I 22 1 (0 : Int32)) 22 2 (0 : Int32)), J, ((qc_u2 (rMn R 23) 22 0 (some 23)), kX, nX, 33))) cx dX2_init_32 qc_cl2 rfl (Nat.le_of_ble_eq_true rfl) rfl ww_258 (fun _ => rfl) (fun _ => rfl) rfl rfl rfl ?_
  show qc_J F 10 5616 35 [some (.ref 22)] [] ((qc_u2 (qc_u2 I 22 1 (0 : Int32)) 22 2 (0 : Int32)), J, ((qc_u2 (qc_u2 (rMn R 23) 22 0 (some 23)) 22 3 (some 32)), kX, nX, 33))
  refine qj_aload_n cx dX2_init_35 rfl rfl ?_
  refine qj_iconst (v := (0 : Int32)) cx dX2_init_36 (by decide) ?_
  refine qj_putI (j := 4) (h := ((qc_u2 (qc_u2 I 22 1 (0 : Int32)) 22 2 (0 : Int32)), J, ((qc_u2 (qc_u2 (rMn R 23) 22 0 (some 23)) 22 3 (some 32)), kX, nX, 33))) cx dX2_init_37 qc_cl2 rfl (Nat.le_of_ble_eq_true rfl) rfl ww_259 rfl rfl rfl ?_
  show qc_J F 10 5616 40 [some (.ref 22)] [] ((qc_u2 (qc_u2 (qc_u2 I 22 1 (0 : Int32)) 22 2 (0 : Int32)) 22 4 (0 : Int32)), J, ((qc_u2 (qc_u2 (rMn R 23) 22 0 (some 23)) 22 3 (some 32)), kX, nX, 33))
  refine qj_aload_n cx dX2_init_40 rfl rfl ?_
  refine qj_lconst (v := (0 : Int64)) cx dX2_init_41 (by decide) ?_
  refine qj_putJ (j := 5) (h := ((qc_u2 (qc_u2 (qc_u2 I 22 1 (0 : Int32)) 22 2 (0 : Int32)) 22 4 (0 : Int32)), J, ((qc_u2 (qc_u2 (rMn R 23) 22 0 (some 23)) 22 3 (some 32)), kX, nX, 33))) cx dX2_init_42 qc_cl2 rfl (Nat.le_of_ble_eq_true rfl) rfl ww_260 rfl rfl rfl ?_
  show qc_J F 10 5616 45 [some (.ref 22)] [] ((qc_u2 (qc_u2 (qc_u2 I 22 1 (0 : Int32)) 22 2 (0 : Int32)) 22 4 (0 : Int32)), (qc_u2 J 22 5 (0 : Int64)), ((qc_u2 (qc_u2 (rMn R 23) 22 0 (some 23)) 22 3 (some 32)), kX, nX, 33))
  refine qj_aload_n cx dX2_init_45 rfl rfl ?_
  refine qj_iconst (v := (0 : Int32)) cx dX2_init_46 (by decide) ?_
  refine qj_putI (j := 6) (h := ((qc_u2 (qc_u2 (qc_u2 I 22 1 (0 : Int32)) 22 2 (0 : Int32)) 22 4 (0 : Int32)), (qc_u2 J 22 5 (0 : Int64)), ((qc_u2 (qc_u2 (rMn R 23) 22 0 (some 23)) 22 3 (some 32)), kX, nX, 33))) cx dX2_init_47 qc_cl2 rfl (Nat.le_of_ble_eq_true rfl) rfl ww_261 (by decide) (by decide) rfl ?_
  show qc_J F 10 5616 50 [some (.ref 22)] [] ((qc_u2 (qc_u2 (qc_u2 (qc_u2 I 22 1 (0 : Int32)) 22 2 (0 : Int32)) 22 4 (0 : Int32)) 22 6 (0 : Int32)), (qc_u2 J 22 5 (0 : Int64)), ((qc_u2 (qc_u2 (rMn R 23) 22 0 (some 23)) 22 3 (some 32)), kX, nX, 33))
  exact qj_vret (st := []) cx hz dX2_init_50 (Nat.le_of_ble_eq_true rfl) (Nat.le_of_ble_eq_true rfl)
theorem wf_Pr {R : Nat → Nat → Option Nat} (w0 : qc_wf R 23) : qc_wf (rPr R) 33 := ((wf_Mn w0 |>.set (by decide)).up (by decide)).set (by decide)
theorem iv9 {P : Nat → Prop} (a b : Nat) (h : ∀ i, i < b + 1 - a → P (a + i)) : ∀ t, a ≤ t → t ≤ b → P t := fun t h1 h2 => by
  have := h (t - a) (by omega)
  rw [show a + (t - a) = t by omega] at this
  exact this
set_option maxRecDepth 100000 in
set_option maxHeartbeats 4000000 in
theorem zI_ok : ∀ t, 36 ≤ t → (qc_u2 (qc_u2 (iPr (iSc12 (iSc2 (qc_u2 (qc_u2 (qc_u2 (fun _ _ => 0) 0 1 (0 : Int32)) 0 2 (0 : Int32)) 0 3 (-1 : Int32))))) 33 1 (0 : Int32)) 33 2 (0 : Int32)) t = fun _ => 0 := by
  intro t ht
  simp only [iSc2, iSc12, iPr, qc_u2]
  repeat rw [qc_u_n _ _ (by omega)]

set_option maxRecDepth 100000 in
set_option maxHeartbeats 4000000 in
theorem zJ_ok : ∀ t, 36 ≤ t → (jPr (qc_u2 (qc_u2 (fun _ _ => 0) 2 6 0) 12 6 0)) t = fun _ => 0 := by
  intro t ht
  simp only [jPr, qc_u2]
  repeat rw [qc_u_n _ _ (by omega)]

set_option maxRecDepth 100000 in
set_option maxHeartbeats 4000000 in
theorem zR_ok : ∀ t, 36 ≤ t → (qc_u2 (qc_u2 (qc_u2 (rPr (qc_u2 (rSc12 (qc_u2 (rSc2 (qc_u2 (fun _ _ => none) 0 0 (some 1))) 0 4 (some 2))) 0 5 (some 12))) 0 6 (some 22)) 33 0 (some 34)) 0 7 (some 33)) t = fun _ => none := by
  intro t ht
  simp only [rSc2, rSc12, rPr, qc_u2]
  repeat rw [qc_u_n _ _ (by omega)]
  funext j
  unfold rMn
  rw [if_neg (by omega)]
  repeat rw [qc_u_n _ _ (by omega)]

def iX0 : Nat → Nat → Int32 := (qc_u2 (qc_u2 (qc_u2 (qc_u2 (iPr (iSc12 (iSc2 (qc_u2 (qc_u2 (qc_u2 (fun _ _ => 0) 0 1 (0 : Int32)) 0 2 (0 : Int32)) 0 3 (-1 : Int32))))) 33 1 (0 : Int32)) 33 2 (0 : Int32)) 35 1 0) 0 10 (0 : Int32))
def w0X (j : Nat) : Nat := 37 + 4 * (j % 20)
set_option maxRecDepth 100000 in
theorem rX0_ok : ∀ t, t < 121 → ∀ j, j < (if kX t < 8 then (qc_fl (kX t)).length else nX t) → rX w0X t j = (qc_u2 (rIm (qc_u2 (rH (qc_u2 (qc_u2 (qc_u2 (rPr (qc_u2 (rSc12 (qc_u2 (rSc2 (qc_u2 (fun _ _ => none) 0 0 (some 1))) 0 4 (some 2))) 0 5 (some 12))) 0 6 (some 22)) 33 0 (some 34)) 0 7 (some 33)) 20) 0 8 (some 35)) 117) 0 9 (some 117)) t j := by decide +kernel
set_option maxRecDepth 100000 in
theorem jX0_ok : ∀ t, t < 121 → ∀ j, j < (if kX t < 8 then (qc_fl (kX t)).length else nX t) → (0 : Int64) = (qc_u2 (jH (jPr (qc_u2 (qc_u2 (fun _ _ => 0) 2 6 0) 12 6 0)) 20) 117 3 0) t j := by decide +kernel
theorem x_eq : qc_eq ((qc_u2 (qc_u2 (qc_u2 (qc_u2 (iPr (iSc12 (iSc2 (qc_u2 (qc_u2 (qc_u2 (fun _ _ => 0) 0 1 (0 : Int32)) 0 2 (0 : Int32)) 0 3 (-1 : Int32))))) 33 1 (0 : Int32)) 33 2 (0 : Int32)) 35 1 0) 0 10 (0 : Int32)), (qc_u2 (jH (jPr (qc_u2 (qc_u2 (fun _ _ => 0) 2 6 0) 12 6 0)) 20) 117 3 0), ((qc_u2 (rIm (qc_u2 (rH (qc_u2 (qc_u2 (qc_u2 (rPr (qc_u2 (rSc12 (qc_u2 (rSc2 (qc_u2 (fun _ _ => none) 0 0 (some 1))) 0 4 (some 2))) 0 5 (some 12))) 0 6 (some 22)) 33 0 (some 34)) 0 7 (some 33)) 20) 0 8 (some 35)) 117) 0 9 (some 117)), kX, nX, 121)) (iX0, (fun _ _ => 0), (rX w0X, kX, nX, 121)) := ⟨rfl, fun t ht => ⟨rfl, rfl, fun j hj => ⟨rfl, jX0_ok t ht j hj, rX0_ok t ht j hj⟩⟩⟩
set_option maxRecDepth 100000 in
set_option maxHeartbeats 4000000 in
theorem c_X6_init   : ∀ l, qc_M l yX6_init cX6_init 1 none 3 61 120 6984 [.ref 0] ((fun _ _ => 0), (fun _ _ => 0), ((fun _ _ => none), kX, nX, 1)) none (iX0, (fun _ _ => 0), (rX w0X, kX, nX, 121)) := by
  intro l
  refine qc_ent2 (by decide) (Nat.le_of_ble_eq_true rfl) ?_
  intro F hn0 cx hz
  have cx : qc_X F cX6_init RX6 "<init>" 3 120 6984 61 := cx
  have w0 : qc_wf (fun _ _ => none) 1 := fun _ _ _ e => by cases e
  show qc_J F 0 0 0 [some (.ref 0)] [] ((fun _ _ => 0), (fun _ _ => 0), ((fun _ _ => none), kX, nX, 1))
  refine qj_aload_n cx dX6_init_0 rfl rfl ?_
  refine qa_obj cx dX6_init_1 ww_138 ww_139 ww_140 (by decide) (Nat.le_of_ble_eq_true rfl) ?_
  refine qj_aload_n cx dX6_init_4 rfl rfl ?_
  refine qj_sipush (v := (700 : Int32)) cx dX6_init_5 (by decide) ?_
  refine qa_newi (len := 700) (m := 1) cx dX6_init_8 ww_243 ⟨by decide, rfl⟩ (by decide) rfl rfl rfl (Nat.le_trans hn0 (Nat.le_of_ble_eq_true rfl)) w0 rfl rfl (by decide) ?_
  have w1 : qc_wf (fun _ _ => none) 2 := w0.up (by decide)
  have w2 : qc_wf (qc_u2 (fun _ _ => none) 0 0 (some 1)) 2 := w1.set (by decide)
  refine qj_putRF (j := 0) (h := ((fun _ _ => 0), (fun _ _ => 0), ((fun _ _ => none), kX, nX, 2))) cx dX6_init_10 qc_cl6 rfl (Nat.le_of_ble_eq_true rfl) rfl ww_330 (fun _ => rfl) (fun _ => rfl) rfl rfl rfl ?_
  show qc_J F 1 700 13 [some (.ref 0)] [] ((fun _ _ => 0), (fun _ _ => 0), ((qc_u2 (fun _ _ => none) 0 0 (some 1)), kX, nX, 2))
  refine qj_aload_n cx dX6_init_13 rfl rfl ?_
  refine qj_iconst (v := (0 : Int32)) cx dX6_init_14 (by decide) ?_
  refine qj_putI (j := 1) (h := ((fun _ _ => 0), (fun _ _ => 0), ((qc_u2 (fun _ _ => none) 0 0 (some 1)), kX, nX, 2))) cx dX6_init_15 qc_cl6 rfl (Nat.le_of_ble_eq_true rfl) rfl ww_331 rfl rfl rfl ?_
  show qc_J F 1 700 18 [some (.ref 0)] [] ((qc_u2 (fun _ _ => 0) 0 1 (0 : Int32)), (fun _ _ => 0), ((qc_u2 (fun _ _ => none) 0 0 (some 1)), kX, nX, 2))
  refine qj_aload_n cx dX6_init_18 rfl rfl ?_
  refine qj_iconst (v := (0 : Int32)) cx dX6_init_19 (by decide) ?_
  refine qj_putI (j := 2) (h := ((qc_u2 (fun _ _ => 0) 0 1 (0 : Int32)), (fun _ _ => 0), ((qc_u2 (fun _ _ => none) 0 0 (some 1)), kX, nX, 2))) cx dX6_init_20 qc_cl6 rfl (Nat.le_of_ble_eq_true rfl) rfl ww_332 rfl rfl rfl ?_
  show qc_J F 1 700 23 [some (.ref 0)] [] ((qc_u2 (qc_u2 (fun _ _ => 0) 0 1 (0 : Int32)) 0 2 (0 : Int32)), (fun _ _ => 0), ((qc_u2 (fun _ _ => none) 0 0 (some 1)), kX, nX, 2))
  refine qj_aload_n cx dX6_init_23 rfl rfl ?_
  refine qj_iconst (v := (-1 : Int32)) cx dX6_init_24 (by decide) ?_
  refine qj_putI (j := 3) (h := ((qc_u2 (qc_u2 (fun _ _ => 0) 0 1 (0 : Int32)) 0 2 (0 : Int32)), (fun _ _ => 0), ((qc_u2 (fun _ _ => none) 0 0 (some 1)), kX, nX, 2))) cx dX6_init_25 qc_cl6 rfl (Nat.le_of_ble_eq_true rfl) rfl ww_333 rfl rfl rfl ?_
  show qc_J F 1 700 28 [some (.ref 0)] [] ((qc_u2 (qc_u2 (qc_u2 (fun _ _ => 0) 0 1 (0 : Int32)) 0 2 (0 : Int32)) 0 3 (-1 : Int32)), (fun _ _ => 0), ((qc_u2 (fun _ _ => none) 0 0 (some 1)), kX, nX, 2))
  refine qj_aload_n cx dX6_init_28 rfl rfl ?_
  refine qa_new (m := 2) cx dX6_init_29 qc_cl4 qc_dv4 ww_141 ww_142 ww_113 rfl rfl rfl rfl (Nat.le_trans hn0 (Nat.le_of_ble_eq_true rfl)) w2 rfl rfl (by decide) ?_
  have w3 : qc_wf (qc_u2 (fun _ _ => none) 0 0 (some 1)) 3 := w2.up (by decide)
  refine qj_dup cx dX6_init_32 rfl ?_
  refine qj_callIN (host := "QuietChannels") (As := []) (st := [.ref 2, .ref 0]) (t := 2) (h' := ((iSc2 (qc_u2 (qc_u2 (qc_u2 (fun _ _ => 0) 0 1 (0 : Int32)) 0 2 (0 : Int32)) 0 3 (-1 : Int32))), (qc_u2 (fun _ _ => 0) 2 6 0), ((rSc2 (qc_u2 (fun _ _ => none) 0 0 (some 1))), kX, nX, 12))) cx dX6_init_33 (c_X4_init_2 (I := (qc_u2 (qc_u2 (qc_u2 (fun _ _ => 0) 0 1 (0 : Int32)) 0 2 (0 : Int32)) 0 3 (-1 : Int32))) (J := (fun _ _ => 0)) (R := (qc_u2 (fun _ _ => none) 0 0 (some 1))) (iv9 2 11 (fun i hi => by match i, hi with | 0, _ => rfl | 1, _ => rfl | 2, _ => rfl | 3, _ => rfl | 4, _ => rfl | 5, _ => rfl | 6, _ => rfl | 7, _ => rfl | 8, _ => rfl | 9, _ => rfl)) w3) ⟨List.mem_of_getElem? (i := 0) rfl, ww_144, ww_113⟩ qm_X4_init rfl rfl (by decide) (by decide) rfl (Nat.le_of_ble_eq_true rfl) (Nat.le_of_ble_eq_true rfl) (Nat.le_trans hn0 (Nat.le_of_ble_eq_true rfl)) (Nat.le_of_ble_eq_true rfl) rfl rfl ?_
  have w4 : qc_wf (rSc2 (qc_u2 (fun _ _ => none) 0 0 (some 1))) 12 := wf_Sc2 w3
  show qc_J F 11 784 36 [some (.ref 0)] [.ref 2, .ref 0] ((iSc2 (qc_u2 (qc_u2 (qc_u2 (fun _ _ => 0) 0 1 (0 : Int32)) 0 2 (0 : Int32)) 0 3 (-1 : Int32))), (qc_u2 (fun _ _ => 0) 2 6 0), ((rSc2 (qc_u2 (fun _ _ => none) 0 0 (some 1))), kX, nX, 12))
  have w5 : qc_wf (qc_u2 (rSc2 (qc_u2 (fun _ _ => none) 0 0 (some 1))) 0 4 (some 2)) 12 := w4.set (by decide)
  refine qj_putR (j := 4) (h := ((iSc2 (qc_u2 (qc_u2 (qc_u2 (fun _ _ => 0) 0 1 (0 : Int32)) 0 2 (0 : Int32)) 0 3 (-1 : Int32))), (qc_u2 (fun _ _ => 0) 2 6 0), ((rSc2 (qc_u2 (fun _ _ => none) 0 0 (some 1))), kX, nX, 12))) cx dX6_init_36 qc_cl6 rfl (Nat.le_of_ble_eq_true rfl) rfl ww_334 (fun _ => rfl) (fun _ => rfl) rfl ?_
  show qc_J F 11 784 39 [some (.ref 0)] [] ((iSc2 (qc_u2 (qc_u2 (qc_u2 (fun _ _ => 0) 0 1 (0 : Int32)) 0 2 (0 : Int32)) 0 3 (-1 : Int32))), (qc_u2 (fun _ _ => 0) 2 6 0), ((qc_u2 (rSc2 (qc_u2 (fun _ _ => none) 0 0 (some 1))) 0 4 (some 2)), kX, nX, 12))
  refine qj_aload_n cx dX6_init_39 rfl rfl ?_
  refine qa_new (m := 12) cx dX6_init_40 qc_cl4 qc_dv4 ww_141 ww_142 ww_113 rfl rfl rfl rfl (Nat.le_trans hn0 (Nat.le_of_ble_eq_true rfl)) w5 rfl rfl (by decide) ?_
  have w6 : qc_wf (qc_u2 (rSc2 (qc_u2 (fun _ _ => none) 0 0 (some 1))) 0 4 (some 2)) 13 := w5.up (by decide)
  refine qj_dup cx dX6_init_43 rfl ?_
  refine qj_callIN (host := "QuietChannels") (As := []) (st := [.ref 12, .ref 0]) (t := 12) (h' := ((iSc12 (iSc2 (qc_u2 (qc_u2 (qc_u2 (fun _ _ => 0) 0 1 (0 : Int32)) 0 2 (0 : Int32)) 0 3 (-1 : Int32)))), (qc_u2 (qc_u2 (fun _ _ => 0) 2 6 0) 12 6 0), ((rSc12 (qc_u2 (rSc2 (qc_u2 (fun _ _ => none) 0 0 (some 1))) 0 4 (some 2))), kX, nX, 22))) cx dX6_init_44 (c_X4_init_12 (I := (iSc2 (qc_u2 (qc_u2 (qc_u2 (fun _ _ => 0) 0 1 (0 : Int32)) 0 2 (0 : Int32)) 0 3 (-1 : Int32)))) (J := (qc_u2 (fun _ _ => 0) 2 6 0)) (R := (qc_u2 (rSc2 (qc_u2 (fun _ _ => none) 0 0 (some 1))) 0 4 (some 2))) (iv9 12 21 (fun i hi => by match i, hi with | 0, _ => rfl | 1, _ => rfl | 2, _ => rfl | 3, _ => rfl | 4, _ => rfl | 5, _ => rfl | 6, _ => rfl | 7, _ => rfl | 8, _ => rfl | 9, _ => rfl)) w6) ⟨List.mem_of_getElem? (i := 0) rfl, ww_144, ww_113⟩ qm_X4_init rfl rfl (by decide) (by decide) rfl (Nat.le_of_ble_eq_true rfl) (Nat.le_of_ble_eq_true rfl) (Nat.le_trans hn0 (Nat.le_of_ble_eq_true rfl)) (Nat.le_of_ble_eq_true rfl) rfl rfl ?_
  have w7 : qc_wf (rSc12 (qc_u2 (rSc2 (qc_u2 (fun _ _ => none) 0 0 (some 1))) 0 4 (some 2))) 22 := wf_Sc12 w6
  show qc_J F 21 868 47 [some (.ref 0)] [.ref 12, .ref 0] ((iSc12 (iSc2 (qc_u2 (qc_u2 (qc_u2 (fun _ _ => 0) 0 1 (0 : Int32)) 0 2 (0 : Int32)) 0 3 (-1 : Int32)))), (qc_u2 (qc_u2 (fun _ _ => 0) 2 6 0) 12 6 0), ((rSc12 (qc_u2 (rSc2 (qc_u2 (fun _ _ => none) 0 0 (some 1))) 0 4 (some 2))), kX, nX, 22))
  have w8 : qc_wf (qc_u2 (rSc12 (qc_u2 (rSc2 (qc_u2 (fun _ _ => none) 0 0 (some 1))) 0 4 (some 2))) 0 5 (some 12)) 22 := w7.set (by decide)
  refine qj_putRF (j := 5) (h := ((iSc12 (iSc2 (qc_u2 (qc_u2 (qc_u2 (fun _ _ => 0) 0 1 (0 : Int32)) 0 2 (0 : Int32)) 0 3 (-1 : Int32)))), (qc_u2 (qc_u2 (fun _ _ => 0) 2 6 0) 12 6 0), ((rSc12 (qc_u2 (rSc2 (qc_u2 (fun _ _ => none) 0 0 (some 1))) 0 4 (some 2))), kX, nX, 22))) cx dX6_init_47 qc_cl6 rfl (Nat.le_of_ble_eq_true rfl) rfl ww_335 (fun _ => rfl) (fun _ => rfl) rfl rfl rfl ?_
  show qc_J F 21 868 50 [some (.ref 0)] [] ((iSc12 (iSc2 (qc_u2 (qc_u2 (qc_u2 (fun _ _ => 0) 0 1 (0 : Int32)) 0 2 (0 : Int32)) 0 3 (-1 : Int32)))), (qc_u2 (qc_u2 (fun _ _ => 0) 2 6 0) 12 6 0), ((qc_u2 (rSc12 (qc_u2 (rSc2 (qc_u2 (fun _ _ => none) 0 0 (some 1))) 0 4 (some 2))) 0 5 (some 12)), kX, nX, 22))
  refine qj_aload_n cx dX6_init_50 rfl rfl ?_
  refine qa_new (m := 22) cx dX6_init_51 qc_cl2 qc_dv2 ww_244 ww_245 ww_114 rfl rfl rfl rfl (Nat.le_trans hn0 (Nat.le_of_ble_eq_true rfl)) w8 rfl rfl (by decide) ?_
  have w9 : qc_wf (qc_u2 (rSc12 (qc_u2 (rSc2 (qc_u2 (fun _ _ => none) 0 0 (some 1))) 0 4 (some 2))) 0 5 (some 12)) 23 := w8.up (by decide)
  refine qj_dup cx dX6_init_54 rfl ?_
  refine qj_callIN (host := "QuietChannels") (As := []) (st := [.ref 22, .ref 0]) (t := 22) (h' := ((iPr (iSc12 (iSc2 (qc_u2 (qc_u2 (qc_u2 (fun _ _ => 0) 0 1 (0 : Int32)) 0 2 (0 : Int32)) 0 3 (-1 : Int32))))), (jPr (qc_u2 (qc_u2 (fun _ _ => 0) 2 6 0) 12 6 0)), ((rPr (qc_u2 (rSc12 (qc_u2 (rSc2 (qc_u2 (fun _ _ => none) 0 0 (some 1))) 0 4 (some 2))) 0 5 (some 12))), kX, nX, 33))) cx dX6_init_55 (c_X2_init (I := (iSc12 (iSc2 (qc_u2 (qc_u2 (qc_u2 (fun _ _ => 0) 0 1 (0 : Int32)) 0 2 (0 : Int32)) 0 3 (-1 : Int32))))) (J := (qc_u2 (qc_u2 (fun _ _ => 0) 2 6 0) 12 6 0)) (R := (qc_u2 (rSc12 (qc_u2 (rSc2 (qc_u2 (fun _ _ => none) 0 0 (some 1))) 0 4 (some 2))) 0 5 (some 12))) (iv9 23 32 (fun i hi => by match i, hi with | 0, _ => rfl | 1, _ => rfl | 2, _ => rfl | 3, _ => rfl | 4, _ => rfl | 5, _ => rfl | 6, _ => rfl | 7, _ => rfl | 8, _ => rfl | 9, _ => rfl)) w9) ⟨List.mem_of_getElem? (i := 1) rfl, ww_247, ww_114⟩ qm_X2_init rfl rfl (by decide) (by decide) rfl (Nat.le_of_ble_eq_true rfl) (Nat.le_of_ble_eq_true rfl) (Nat.le_trans hn0 (Nat.le_of_ble_eq_true rfl)) (Nat.le_of_ble_eq_true rfl) rfl rfl ?_
  have w10 : qc_wf (rPr (qc_u2 (rSc12 (qc_u2 (rSc2 (qc_u2 (fun _ _ => none) 0 0 (some 1))) 0 4 (some 2))) 0 5 (some 12))) 33 := wf_Pr w9
  show qc_J F 32 6491 58 [some (.ref 0)] [.ref 22, .ref 0] ((iPr (iSc12 (iSc2 (qc_u2 (qc_u2 (qc_u2 (fun _ _ => 0) 0 1 (0 : Int32)) 0 2 (0 : Int32)) 0 3 (-1 : Int32))))), (jPr (qc_u2 (qc_u2 (fun _ _ => 0) 2 6 0) 12 6 0)), ((rPr (qc_u2 (rSc12 (qc_u2 (rSc2 (qc_u2 (fun _ _ => none) 0 0 (some 1))) 0 4 (some 2))) 0 5 (some 12))), kX, nX, 33))
  have w11 : qc_wf (qc_u2 (rPr (qc_u2 (rSc12 (qc_u2 (rSc2 (qc_u2 (fun _ _ => none) 0 0 (some 1))) 0 4 (some 2))) 0 5 (some 12))) 0 6 (some 22)) 33 := w10.set (by decide)
  refine qj_putRF (j := 6) (h := ((iPr (iSc12 (iSc2 (qc_u2 (qc_u2 (qc_u2 (fun _ _ => 0) 0 1 (0 : Int32)) 0 2 (0 : Int32)) 0 3 (-1 : Int32))))), (jPr (qc_u2 (qc_u2 (fun _ _ => 0) 2 6 0) 12 6 0)), ((rPr (qc_u2 (rSc12 (qc_u2 (rSc2 (qc_u2 (fun _ _ => none) 0 0 (some 1))) 0 4 (some 2))) 0 5 (some 12))), kX, nX, 33))) cx dX6_init_58 qc_cl6 rfl (Nat.le_of_ble_eq_true rfl) rfl ww_336 (fun _ => rfl) (fun _ => rfl) rfl rfl rfl ?_
  show qc_J F 32 6491 61 [some (.ref 0)] [] ((iPr (iSc12 (iSc2 (qc_u2 (qc_u2 (qc_u2 (fun _ _ => 0) 0 1 (0 : Int32)) 0 2 (0 : Int32)) 0 3 (-1 : Int32))))), (jPr (qc_u2 (qc_u2 (fun _ _ => 0) 2 6 0) 12 6 0)), ((qc_u2 (rPr (qc_u2 (rSc12 (qc_u2 (rSc2 (qc_u2 (fun _ _ => none) 0 0 (some 1))) 0 4 (some 2))) 0 5 (some 12))) 0 6 (some 22)), kX, nX, 33))
  refine qj_aload_n cx dX6_init_61 rfl rfl ?_
  refine qa_new (m := 33) cx dX6_init_62 qc_cl5 qc_dv5 ww_277 ww_278 ww_115 rfl rfl rfl rfl (Nat.le_trans hn0 (Nat.le_of_ble_eq_true rfl)) w11 rfl rfl (by decide) ?_
  have w12 : qc_wf (qc_u2 (rPr (qc_u2 (rSc12 (qc_u2 (rSc2 (qc_u2 (fun _ _ => none) 0 0 (some 1))) 0 4 (some 2))) 0 5 (some 12))) 0 6 (some 22)) 34 := w11.up (by decide)
  refine qj_dup cx dX6_init_65 rfl ?_
  refine qj_callIN (host := "QuietChannels") (As := []) (st := [.ref 33, .ref 0]) (t := 33) (h' := ((qc_u2 (qc_u2 (iPr (iSc12 (iSc2 (qc_u2 (qc_u2 (qc_u2 (fun _ _ => 0) 0 1 (0 : Int32)) 0 2 (0 : Int32)) 0 3 (-1 : Int32))))) 33 1 (0 : Int32)) 33 2 (0 : Int32)), (jPr (qc_u2 (qc_u2 (fun _ _ => 0) 2 6 0) 12 6 0)), ((qc_u2 (qc_u2 (rPr (qc_u2 (rSc12 (qc_u2 (rSc2 (qc_u2 (fun _ _ => none) 0 0 (some 1))) 0 4 (some 2))) 0 5 (some 12))) 0 6 (some 22)) 33 0 (some 34)), kX, nX, 35))) cx dX6_init_66 (c_X5_init (I := (iPr (iSc12 (iSc2 (qc_u2 (qc_u2 (qc_u2 (fun _ _ => 0) 0 1 (0 : Int32)) 0 2 (0 : Int32)) 0 3 (-1 : Int32)))))) (J := (jPr (qc_u2 (qc_u2 (fun _ _ => 0) 2 6 0) 12 6 0))) (R := (qc_u2 (rPr (qc_u2 (rSc12 (qc_u2 (rSc2 (qc_u2 (fun _ _ => none) 0 0 (some 1))) 0 4 (some 2))) 0 5 (some 12))) 0 6 (some 22))) rfl w12) ⟨List.mem_of_getElem? (i := 2) rfl, ww_280, ww_115⟩ qm_X5_init rfl rfl (by decide) (by decide) rfl (Nat.le_of_ble_eq_true rfl) (Nat.le_of_ble_eq_true rfl) (Nat.le_trans hn0 (Nat.le_of_ble_eq_true rfl)) (Nat.le_of_ble_eq_true rfl) rfl rfl ?_
  have w13 : qc_wf (qc_u2 (qc_u2 (rPr (qc_u2 (rSc12 (qc_u2 (rSc2 (qc_u2 (fun _ _ => none) 0 0 (some 1))) 0 4 (some 2))) 0 5 (some 12))) 0 6 (some 22)) 33 0 (some 34)) 35 := (w12.up (by decide)).set (by decide)
  show qc_J F 34 6500 69 [some (.ref 0)] [.ref 33, .ref 0] ((qc_u2 (qc_u2 (iPr (iSc12 (iSc2 (qc_u2 (qc_u2 (qc_u2 (fun _ _ => 0) 0 1 (0 : Int32)) 0 2 (0 : Int32)) 0 3 (-1 : Int32))))) 33 1 (0 : Int32)) 33 2 (0 : Int32)), (jPr (qc_u2 (qc_u2 (fun _ _ => 0) 2 6 0) 12 6 0)), ((qc_u2 (qc_u2 (rPr (qc_u2 (rSc12 (qc_u2 (rSc2 (qc_u2 (fun _ _ => none) 0 0 (some 1))) 0 4 (some 2))) 0 5 (some 12))) 0 6 (some 22)) 33 0 (some 34)), kX, nX, 35))
  have w14 : qc_wf (qc_u2 (qc_u2 (qc_u2 (rPr (qc_u2 (rSc12 (qc_u2 (rSc2 (qc_u2 (fun _ _ => none) 0 0 (some 1))) 0 4 (some 2))) 0 5 (some 12))) 0 6 (some 22)) 33 0 (some 34)) 0 7 (some 33)) 35 := w13.set (by decide)
  refine qj_putRF (j := 7) (h := ((qc_u2 (qc_u2 (iPr (iSc12 (iSc2 (qc_u2 (qc_u2 (qc_u2 (fun _ _ => 0) 0 1 (0 : Int32)) 0 2 (0 : Int32)) 0 3 (-1 : Int32))))) 33 1 (0 : Int32)) 33 2 (0 : Int32)), (jPr (qc_u2 (qc_u2 (fun _ _ => 0) 2 6 0) 12 6 0)), ((qc_u2 (qc_u2 (rPr (qc_u2 (rSc12 (qc_u2 (rSc2 (qc_u2 (fun _ _ => none) 0 0 (some 1))) 0 4 (some 2))) 0 5 (some 12))) 0 6 (some 22)) 33 0 (some 34)), kX, nX, 35))) cx dX6_init_69 qc_cl6 rfl (Nat.le_of_ble_eq_true rfl) rfl ww_337 (fun _ => rfl) (fun _ => rfl) rfl rfl rfl ?_
  show qc_J F 34 6500 72 [some (.ref 0)] [] ((qc_u2 (qc_u2 (iPr (iSc12 (iSc2 (qc_u2 (qc_u2 (qc_u2 (fun _ _ => 0) 0 1 (0 : Int32)) 0 2 (0 : Int32)) 0 3 (-1 : Int32))))) 33 1 (0 : Int32)) 33 2 (0 : Int32)), (jPr (qc_u2 (qc_u2 (fun _ _ => 0) 2 6 0) 12 6 0)), ((qc_u2 (qc_u2 (qc_u2 (rPr (qc_u2 (rSc12 (qc_u2 (rSc2 (qc_u2 (fun _ _ => none) 0 0 (some 1))) 0 4 (some 2))) 0 5 (some 12))) 0 6 (some 22)) 33 0 (some 34)) 0 7 (some 33)), kX, nX, 35))
  refine qj_aload_n cx dX6_init_72 rfl rfl ?_
  refine qa_new (m := 35) cx dX6_init_73 qc_cl0 qc_dv0 ww_294 ww_295 ww_116 rfl rfl rfl rfl (Nat.le_trans hn0 (Nat.le_of_ble_eq_true rfl)) w14 rfl rfl (by decide) ?_
  have w15 : qc_wf (qc_u2 (qc_u2 (qc_u2 (rPr (qc_u2 (rSc12 (qc_u2 (rSc2 (qc_u2 (fun _ _ => none) 0 0 (some 1))) 0 4 (some 2))) 0 5 (some 12))) 0 6 (some 22)) 33 0 (some 34)) 0 7 (some 33)) 36 := w14.up (by decide)
  refine qj_dup cx dX6_init_76 rfl ?_
  have hzI : ∀ t, 36 ≤ t → (qc_u2 (qc_u2 (iPr (iSc12 (iSc2 (qc_u2 (qc_u2 (qc_u2 (fun _ _ => 0) 0 1 (0 : Int32)) 0 2 (0 : Int32)) 0 3 (-1 : Int32))))) 33 1 (0 : Int32)) 33 2 (0 : Int32)) t = fun _ => 0 := fun t h => zI_ok t h
  have hzJ : ∀ t, 36 ≤ t → (jPr (qc_u2 (qc_u2 (fun _ _ => 0) 2 6 0) 12 6 0)) t = fun _ => 0 := fun t h => zJ_ok t h
  have hzR : ∀ t, 36 ≤ t → (qc_u2 (qc_u2 (qc_u2 (rPr (qc_u2 (rSc12 (qc_u2 (rSc2 (qc_u2 (fun _ _ => none) 0 0 (some 1))) 0 4 (some 2))) 0 5 (some 12))) 0 6 (some 22)) 33 0 (some 34)) 0 7 (some 33)) t = fun _ => none := fun t h => zR_ok t h
  refine qj_callI (As := []) (st := [.ref 35, .ref 0]) (t := 35) (h' := ((qc_u2 (qc_u2 (qc_u2 (iPr (iSc12 (iSc2 (qc_u2 (qc_u2 (qc_u2 (fun _ _ => 0) 0 1 (0 : Int32)) 0 2 (0 : Int32)) 0 3 (-1 : Int32))))) 33 1 (0 : Int32)) 33 2 (0 : Int32)) 35 1 0), (jH (jPr (qc_u2 (qc_u2 (fun _ _ => 0) 2 6 0) 12 6 0)) 20), ((rH (qc_u2 (qc_u2 (qc_u2 (rPr (qc_u2 (rSc12 (qc_u2 (rSc2 (qc_u2 (fun _ _ => none) 0 0 (some 1))) 0 4 (some 2))) 0 5 (some 12))) 0 6 (some 22)) 33 0 (some 34)) 0 7 (some 33)) 20), kX, nX, 117))) cx dX6_init_77 (c_X0_init (I := (qc_u2 (qc_u2 (iPr (iSc12 (iSc2 (qc_u2 (qc_u2 (qc_u2 (fun _ _ => 0) 0 1 (0 : Int32)) 0 2 (0 : Int32)) 0 3 (-1 : Int32))))) 33 1 (0 : Int32)) 33 2 (0 : Int32))) (J := (jPr (qc_u2 (qc_u2 (fun _ _ => 0) 2 6 0) 12 6 0))) (R := (qc_u2 (qc_u2 (qc_u2 (rPr (qc_u2 (rSc12 (qc_u2 (rSc2 (qc_u2 (fun _ _ => none) 0 0 (some 1))) 0 4 (some 2))) 0 5 (some 12))) 0 6 (some 22)) 33 0 (some 34)) 0 7 (some 33))) (fun t h1 => hzI t h1) (fun t h1 => hzJ t h1) (fun t h1 => hzR t h1) w15) ⟨ww_296, ww_297, ww_116⟩ qm_X0_init rfl rfl (by decide) (by decide) rfl (Nat.le_of_ble_eq_true rfl) (Nat.le_of_ble_eq_true rfl) (Nat.le_trans hn0 (Nat.le_of_ble_eq_true rfl)) (Nat.le_of_ble_eq_true rfl) rfl rfl ?_
  have w16 : qc_wf (rH (qc_u2 (qc_u2 (qc_u2 (rPr (qc_u2 (rSc12 (qc_u2 (rSc2 (qc_u2 (fun _ _ => none) 0 0 (some 1))) 0 4 (some 2))) 0 5 (some 12))) 0 6 (some 22)) 33 0 (some 34)) 0 7 (some 33)) 20) 117 := wf_H w15 20
  show qc_J F 116 6962 80 [some (.ref 0)] [.ref 35, .ref 0] ((qc_u2 (qc_u2 (qc_u2 (iPr (iSc12 (iSc2 (qc_u2 (qc_u2 (qc_u2 (fun _ _ => 0) 0 1 (0 : Int32)) 0 2 (0 : Int32)) 0 3 (-1 : Int32))))) 33 1 (0 : Int32)) 33 2 (0 : Int32)) 35 1 0), (jH (jPr (qc_u2 (qc_u2 (fun _ _ => 0) 2 6 0) 12 6 0)) 20), ((rH (qc_u2 (qc_u2 (qc_u2 (rPr (qc_u2 (rSc12 (qc_u2 (rSc2 (qc_u2 (fun _ _ => none) 0 0 (some 1))) 0 4 (some 2))) 0 5 (some 12))) 0 6 (some 22)) 33 0 (some 34)) 0 7 (some 33)) 20), kX, nX, 117))
  have w17 : qc_wf (qc_u2 (rH (qc_u2 (qc_u2 (qc_u2 (rPr (qc_u2 (rSc12 (qc_u2 (rSc2 (qc_u2 (fun _ _ => none) 0 0 (some 1))) 0 4 (some 2))) 0 5 (some 12))) 0 6 (some 22)) 33 0 (some 34)) 0 7 (some 33)) 20) 0 8 (some 35)) 117 := w16.set (by decide)
  refine qj_putRF (j := 8) (h := ((qc_u2 (qc_u2 (qc_u2 (iPr (iSc12 (iSc2 (qc_u2 (qc_u2 (qc_u2 (fun _ _ => 0) 0 1 (0 : Int32)) 0 2 (0 : Int32)) 0 3 (-1 : Int32))))) 33 1 (0 : Int32)) 33 2 (0 : Int32)) 35 1 0), (jH (jPr (qc_u2 (qc_u2 (fun _ _ => 0) 2 6 0) 12 6 0)) 20), ((rH (qc_u2 (qc_u2 (qc_u2 (rPr (qc_u2 (rSc12 (qc_u2 (rSc2 (qc_u2 (fun _ _ => none) 0 0 (some 1))) 0 4 (some 2))) 0 5 (some 12))) 0 6 (some 22)) 33 0 (some 34)) 0 7 (some 33)) 20), kX, nX, 117))) cx dX6_init_80 qc_cl6 rfl (Nat.le_of_ble_eq_true rfl) rfl ww_338 (fun _ => rfl) (fun _ => rfl) rfl rfl rfl ?_
  show qc_J F 116 6962 83 [some (.ref 0)] [] ((qc_u2 (qc_u2 (qc_u2 (iPr (iSc12 (iSc2 (qc_u2 (qc_u2 (qc_u2 (fun _ _ => 0) 0 1 (0 : Int32)) 0 2 (0 : Int32)) 0 3 (-1 : Int32))))) 33 1 (0 : Int32)) 33 2 (0 : Int32)) 35 1 0), (jH (jPr (qc_u2 (qc_u2 (fun _ _ => 0) 2 6 0) 12 6 0)) 20), ((qc_u2 (rH (qc_u2 (qc_u2 (qc_u2 (rPr (qc_u2 (rSc12 (qc_u2 (rSc2 (qc_u2 (fun _ _ => none) 0 0 (some 1))) 0 4 (some 2))) 0 5 (some 12))) 0 6 (some 22)) 33 0 (some 34)) 0 7 (some 33)) 20) 0 8 (some 35)), kX, nX, 117))
  refine qj_aload_n cx dX6_init_83 rfl rfl ?_
  refine qa_new (m := 117) cx dX6_init_84 qc_cl1 qc_dv1 ww_328 ww_302 ww_117 rfl rfl rfl rfl (Nat.le_trans hn0 (Nat.le_of_ble_eq_true rfl)) w17 rfl rfl (by decide) ?_
  have w18 : qc_wf (qc_u2 (rH (qc_u2 (qc_u2 (qc_u2 (rPr (qc_u2 (rSc12 (qc_u2 (rSc2 (qc_u2 (fun _ _ => none) 0 0 (some 1))) 0 4 (some 2))) 0 5 (some 12))) 0 6 (some 22)) 33 0 (some 34)) 0 7 (some 33)) 20) 0 8 (some 35)) 118 := w17.up (by decide)
  refine qj_dup cx dX6_init_87 rfl ?_
  refine qj_callIN (host := "QuietChannels") (As := []) (st := [.ref 117, .ref 0]) (t := 117) (h' := ((qc_u2 (qc_u2 (qc_u2 (iPr (iSc12 (iSc2 (qc_u2 (qc_u2 (qc_u2 (fun _ _ => 0) 0 1 (0 : Int32)) 0 2 (0 : Int32)) 0 3 (-1 : Int32))))) 33 1 (0 : Int32)) 33 2 (0 : Int32)) 35 1 0), (qc_u2 (jH (jPr (qc_u2 (qc_u2 (fun _ _ => 0) 2 6 0) 12 6 0)) 20) 117 3 0), ((rIm (qc_u2 (rH (qc_u2 (qc_u2 (qc_u2 (rPr (qc_u2 (rSc12 (qc_u2 (rSc2 (qc_u2 (fun _ _ => none) 0 0 (some 1))) 0 4 (some 2))) 0 5 (some 12))) 0 6 (some 22)) 33 0 (some 34)) 0 7 (some 33)) 20) 0 8 (some 35)) 117), kX, nX, 121))) cx dX6_init_88 (c_X1_init (I := (qc_u2 (qc_u2 (qc_u2 (iPr (iSc12 (iSc2 (qc_u2 (qc_u2 (qc_u2 (fun _ _ => 0) 0 1 (0 : Int32)) 0 2 (0 : Int32)) 0 3 (-1 : Int32))))) 33 1 (0 : Int32)) 33 2 (0 : Int32)) 35 1 0)) (J := (jH (jPr (qc_u2 (qc_u2 (fun _ _ => 0) 2 6 0) 12 6 0)) 20)) (R := (qc_u2 (rH (qc_u2 (qc_u2 (qc_u2 (rPr (qc_u2 (rSc12 (qc_u2 (rSc2 (qc_u2 (fun _ _ => none) 0 0 (some 1))) 0 4 (some 2))) 0 5 (some 12))) 0 6 (some 22)) 33 0 (some 34)) 0 7 (some 33)) 20) 0 8 (some 35))) (q := 117) rfl (fun i hi => by match i, hi with | 0, _ => exact ⟨rfl, rfl⟩ | 1, _ => exact ⟨rfl, rfl⟩ | 2, _ => exact ⟨rfl, rfl⟩) (fun i hi => by match i, hi with | 0, _ => rfl | 1, _ => rfl | 2, _ => rfl) w18) ⟨List.mem_of_getElem? (i := 4) rfl, ww_304, ww_117⟩ qm_X1_init rfl rfl (by decide) (by decide) rfl (Nat.le_of_ble_eq_true rfl) (Nat.le_of_ble_eq_true rfl) (Nat.le_trans hn0 (Nat.le_of_ble_eq_true rfl)) (Nat.le_of_ble_eq_true rfl) rfl rfl ?_
  have w19 : qc_wf (rIm (qc_u2 (rH (qc_u2 (qc_u2 (qc_u2 (rPr (qc_u2 (rSc12 (qc_u2 (rSc2 (qc_u2 (fun _ _ => none) 0 0 (some 1))) 0 4 (some 2))) 0 5 (some 12))) 0 6 (some 22)) 33 0 (some 34)) 0 7 (some 33)) 20) 0 8 (some 35)) 117) 121 := wf_Im w18 (by decide)
  show qc_J F 120 6984 91 [some (.ref 0)] [.ref 117, .ref 0] ((qc_u2 (qc_u2 (qc_u2 (iPr (iSc12 (iSc2 (qc_u2 (qc_u2 (qc_u2 (fun _ _ => 0) 0 1 (0 : Int32)) 0 2 (0 : Int32)) 0 3 (-1 : Int32))))) 33 1 (0 : Int32)) 33 2 (0 : Int32)) 35 1 0), (qc_u2 (jH (jPr (qc_u2 (qc_u2 (fun _ _ => 0) 2 6 0) 12 6 0)) 20) 117 3 0), ((rIm (qc_u2 (rH (qc_u2 (qc_u2 (qc_u2 (rPr (qc_u2 (rSc12 (qc_u2 (rSc2 (qc_u2 (fun _ _ => none) 0 0 (some 1))) 0 4 (some 2))) 0 5 (some 12))) 0 6 (some 22)) 33 0 (some 34)) 0 7 (some 33)) 20) 0 8 (some 35)) 117), kX, nX, 121))
  have w20 : qc_wf (qc_u2 (rIm (qc_u2 (rH (qc_u2 (qc_u2 (qc_u2 (rPr (qc_u2 (rSc12 (qc_u2 (rSc2 (qc_u2 (fun _ _ => none) 0 0 (some 1))) 0 4 (some 2))) 0 5 (some 12))) 0 6 (some 22)) 33 0 (some 34)) 0 7 (some 33)) 20) 0 8 (some 35)) 117) 0 9 (some 117)) 121 := w19.set (by decide)
  refine qj_putRF (j := 9) (h := ((qc_u2 (qc_u2 (qc_u2 (iPr (iSc12 (iSc2 (qc_u2 (qc_u2 (qc_u2 (fun _ _ => 0) 0 1 (0 : Int32)) 0 2 (0 : Int32)) 0 3 (-1 : Int32))))) 33 1 (0 : Int32)) 33 2 (0 : Int32)) 35 1 0), (qc_u2 (jH (jPr (qc_u2 (qc_u2 (fun _ _ => 0) 2 6 0) 12 6 0)) 20) 117 3 0), ((rIm (qc_u2 (rH (qc_u2 (qc_u2 (qc_u2 (rPr (qc_u2 (rSc12 (qc_u2 (rSc2 (qc_u2 (fun _ _ => none) 0 0 (some 1))) 0 4 (some 2))) 0 5 (some 12))) 0 6 (some 22)) 33 0 (some 34)) 0 7 (some 33)) 20) 0 8 (some 35)) 117), kX, nX, 121))) cx dX6_init_91 qc_cl6 rfl (Nat.le_of_ble_eq_true rfl) rfl ww_339 (fun _ => rfl) (fun _ => rfl) rfl rfl rfl ?_
  show qc_J F 120 6984 94 [some (.ref 0)] [] ((qc_u2 (qc_u2 (qc_u2 (iPr (iSc12 (iSc2 (qc_u2 (qc_u2 (qc_u2 (fun _ _ => 0) 0 1 (0 : Int32)) 0 2 (0 : Int32)) 0 3 (-1 : Int32))))) 33 1 (0 : Int32)) 33 2 (0 : Int32)) 35 1 0), (qc_u2 (jH (jPr (qc_u2 (qc_u2 (fun _ _ => 0) 2 6 0) 12 6 0)) 20) 117 3 0), ((qc_u2 (rIm (qc_u2 (rH (qc_u2 (qc_u2 (qc_u2 (rPr (qc_u2 (rSc12 (qc_u2 (rSc2 (qc_u2 (fun _ _ => none) 0 0 (some 1))) 0 4 (some 2))) 0 5 (some 12))) 0 6 (some 22)) 33 0 (some 34)) 0 7 (some 33)) 20) 0 8 (some 35)) 117) 0 9 (some 117)), kX, nX, 121))
  refine qj_aload_n cx dX6_init_94 rfl rfl ?_
  refine qj_iconst (v := (0 : Int32)) cx dX6_init_95 (by decide) ?_
  refine qj_putI (j := 10) (h := ((qc_u2 (qc_u2 (qc_u2 (iPr (iSc12 (iSc2 (qc_u2 (qc_u2 (qc_u2 (fun _ _ => 0) 0 1 (0 : Int32)) 0 2 (0 : Int32)) 0 3 (-1 : Int32))))) 33 1 (0 : Int32)) 33 2 (0 : Int32)) 35 1 0), (qc_u2 (jH (jPr (qc_u2 (qc_u2 (fun _ _ => 0) 2 6 0) 12 6 0)) 20) 117 3 0), ((qc_u2 (rIm (qc_u2 (rH (qc_u2 (qc_u2 (qc_u2 (rPr (qc_u2 (rSc12 (qc_u2 (rSc2 (qc_u2 (fun _ _ => none) 0 0 (some 1))) 0 4 (some 2))) 0 5 (some 12))) 0 6 (some 22)) 33 0 (some 34)) 0 7 (some 33)) 20) 0 8 (some 35)) 117) 0 9 (some 117)), kX, nX, 121))) cx dX6_init_96 qc_cl6 rfl (Nat.le_of_ble_eq_true rfl) rfl ww_340 (by decide) (by decide) rfl ?_
  show qc_J F 120 6984 99 [some (.ref 0)] [] ((qc_u2 (qc_u2 (qc_u2 (qc_u2 (iPr (iSc12 (iSc2 (qc_u2 (qc_u2 (qc_u2 (fun _ _ => 0) 0 1 (0 : Int32)) 0 2 (0 : Int32)) 0 3 (-1 : Int32))))) 33 1 (0 : Int32)) 33 2 (0 : Int32)) 35 1 0) 0 10 (0 : Int32)), (qc_u2 (jH (jPr (qc_u2 (qc_u2 (fun _ _ => 0) 2 6 0) 12 6 0)) 20) 117 3 0), ((qc_u2 (rIm (qc_u2 (rH (qc_u2 (qc_u2 (qc_u2 (rPr (qc_u2 (rSc12 (qc_u2 (rSc2 (qc_u2 (fun _ _ => none) 0 0 (some 1))) 0 4 (some 2))) 0 5 (some 12))) 0 6 (some 22)) 33 0 (some 34)) 0 7 (some 33)) 20) 0 8 (some 35)) 117) 0 9 (some 117)), kX, nX, 121))
  refine qa_eqv (h' := (iX0, (fun _ _ => 0), (rX w0X, kX, nX, 121))) x_eq ?_
  exact qj_vret (st := []) cx hz dX6_init_99 (Nat.le_of_ble_eq_true rfl) (Nat.le_of_ble_eq_true rfl)
