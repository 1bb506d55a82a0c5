def P_X6_complete (I : Nat → Nat → Int32) (J : Nat → Nat → Int64) (w : Nat → Nat) : Option (Int32 × (Nat → Nat → Int32) × (Nat → Nat → Int64) × (Nat → Nat)) :=
  (P_X6_planAll I J).bind fun q1 =>
  if q1.1 = 0 then
  (if q1.2.1 33 2 ≤ 0 then
  some (q1.2.1 33 2, q1.2.1, q1.2.2, w)
  else
  (P_X6_adoptTrial q1.2.1 q1.2.2 w).bind fun q5 =>
  some (q5.1 33 2, q5.1, q5.2.1, q5.2.2))
  else
  some (q1.1, q1.2.1, q1.2.2, w)
set_option maxRecDepth 20000 in
theorem c_X6_complete {I : Nat → Nat → Int32} {J : Nat → Nat → Int64} {w : Nat → Nat} {n : Nat} (hn : 121 ≤ n) (hn1 : n ≤ 200)  {q0 : Int32 × (Nat → Nat → Int32) × (Nat → Nat → Int64) × (Nat → Nat)} (hP : P_X6_complete I J w = some q0) : ∀ l, qc_M l yX6_complete cX6_complete 2 (some .int) 7 174 0 0 [.ref 0] (I, J, (rX w, kX, nX, n)) (some (.int q0.1)) (q0.2.1, q0.2.2.1, (rX q0.2.2.2, kX, nX, n)) := by
  intro l
  refine qc_ent2 (by decide) (Nat.le_of_ble_eq_true rfl) ?_
  intro F hn0 cx hz
  have cx : qc_X F cX6_complete RX6 "complete" 7 0 0 174 := cx
  show qc_J F 0 0 0 [some (.ref 0), none] [] (I, J, (rX w, kX, nX, n))
  unfold P_X6_complete at hP
  refine qj_aload_n cx dX6_complete_0 rfl rfl ?_
  obtain ⟨q1, eq1, hP⟩ := Option.bind_eq_some_iff.mp hP
  refine qj_callV (As := []) (st := []) (t := 0) (h' := (q1.2.1, q1.2.2, (rX w, kX, nX, n))) (r := some (.int q1.1)) cx dX6_complete_1 (c_X6_planAll (I := I) (J := J) (w := w) hn hn1 eq1) gc_RX6_121 qm_X6_planAll rfl rfl qc_cl6 rfl (Nat.lt_of_lt_of_le (by decide) hn) (by decide) (by decide) rfl (Nat.le_of_ble_eq_true rfl) (Nat.le_trans hn1 (by decide)) hn0 rfl ?_
  refine qj_istore_n (ls1 := [some (.ref 0), some (.int q1.1)]) cx dX6_complete_4 rfl rfl rfl rfl ?_
  refine qj_iload_n cx dX6_complete_5 rfl rfl ?_
  refine qj_if_eq (tgt := 11) cx dX6_complete_6 (by decide) (fun c2 => ?_) (fun c2 => ?_)
  · have hP := qc_ifT hP c2
    refine qj_aload_n cx dX6_complete_11 rfl rfl ?_
    refine qw_getR (j := 7) (t1 := 33) cx dX6_complete_12 qc_cl6 rfl (Nat.lt_of_lt_of_le (by decide) hn) rfl ww_337 rfl ?_
    refine qw_getI (j := 2) cx dX6_complete_15 qc_cl5 rfl (Nat.lt_of_lt_of_le (by decide) hn) rfl ww_286 ?_
    refine qj_if_le (tgt := 25) cx dX6_complete_18 (by decide) (fun c3 => ?_) (fun c3 => ?_)
    · have hP := qc_ifT hP c3
      refine qj_aload_n cx dX6_complete_25 rfl rfl ?_
      refine qw_getR (j := 7) (t1 := 33) cx dX6_complete_26 qc_cl6 rfl (Nat.lt_of_lt_of_le (by decide) hn) rfl ww_337 rfl ?_
      refine qw_getI (j := 2) cx dX6_complete_29 qc_cl5 rfl (Nat.lt_of_lt_of_le (by decide) hn) rfl ww_286 ?_
      have hz := qc_Zw (congrArg (fun q => q.2.2.2) (Option.some.inj hP)) hz
      exact qw_iret cx hz dX6_complete_32 (Nat.zero_le _) (Nat.zero_le _) (congrArg (fun q => q.1) (Option.some.inj hP)) (congrArg (fun q => q.2.1) (Option.some.inj hP)) (congrArg (fun q => q.2.2.1) (Option.some.inj hP))
    · have hP := qc_ifF hP c3
      refine qj_aload_n cx dX6_complete_21 rfl rfl ?_
      obtain ⟨q5, eq5, hP⟩ := Option.bind_eq_some_iff.mp hP
      refine qj_callV (As := []) (st := []) (t := 0) (h' := (q5.1, q5.2.1, (rX q5.2.2, kX, nX, n))) (r := none) cx dX6_complete_22 (c_X6_adoptTrial (I := q1.2.1) (J := q1.2.2) (w := w) hn hn1 eq5) gc_RX6_128 qm_X6_adoptTrial rfl rfl qc_cl6 rfl (Nat.lt_of_lt_of_le (by decide) hn) (by decide) (by decide) rfl (Nat.le_of_ble_eq_true rfl) (Nat.le_trans hn1 (by decide)) hn0 rfl ?_
      refine qj_aload_n cx dX6_complete_25 rfl rfl ?_
      refine qw_getR (j := 7) (t1 := 33) cx dX6_complete_26 qc_cl6 rfl (Nat.lt_of_lt_of_le (by decide) hn) rfl ww_337 rfl ?_
      refine qw_getI (j := 2) cx dX6_complete_29 qc_cl5 rfl (Nat.lt_of_lt_of_le (by decide) hn) rfl ww_286 ?_
      have hz := qc_Zw (congrArg (fun q => q.2.2.2) (Option.some.inj hP)) hz
      exact qw_iret cx hz dX6_complete_32 (Nat.zero_le _) (Nat.zero_le _) (congrArg (fun q => q.1) (Option.some.inj hP)) (congrArg (fun q => q.2.1) (Option.some.inj hP)) (congrArg (fun q => q.2.2.1) (Option.some.inj hP))
  · have hP := qc_ifF hP c2
    refine qj_iload_n cx dX6_complete_9 rfl rfl ?_
    have hz := qc_Zw (congrArg (fun q => q.2.2.2) (Option.some.inj hP)) hz
    exact qw_iret cx hz dX6_complete_10 (Nat.zero_le _) (Nat.zero_le _) (congrArg (fun q => q.1) (Option.some.inj hP)) (congrArg (fun q => q.2.1) (Option.some.inj hP)) (congrArg (fun q => q.2.2.1) (Option.some.inj hP))
def P_X6_mend (I : Nat → Nat → Int32) (J : Nat → Nat → Int64) (w : Nat → Nat) : Option (Int32 × (Nat → Nat → Int32) × (Nat → Nat → Int64) × (Nat → Nat)) :=
  (P_X6_findMend I J).bind fun q1 =>
  if q1.1 ≤ 0 then
  some (q1.1, q1.2.1, q1.2.2, w)
  else
  (P_X6_adoptTrial q1.2.1 q1.2.2 w).bind fun q4 =>
  some (q1.1, q4.1, q4.2.1, q4.2.2)
set_option maxRecDepth 20000 in
theorem c_X6_mend {I : Nat → Nat → Int32} {J : Nat → Nat → Int64} {w : Nat → Nat} {n : Nat} (hn : 121 ≤ n) (hn1 : n ≤ 200)  {q0 : Int32 × (Nat → Nat → Int32) × (Nat → Nat → Int64) × (Nat → Nat)} (hP : P_X6_mend I J w = some q0) : ∀ l, qc_M l yX6_mend cX6_mend 2 (some .int) 7 177 0 0 [.ref 0] (I, J, (rX w, kX, nX, n)) (some (.int q0.1)) (q0.2.1, q0.2.2.1, (rX q0.2.2.2, kX, nX, n)) := by
  intro l
  refine qc_ent2 (by decide) (Nat.le_of_ble_eq_true rfl) ?_
  intro F hn0 cx hz
  have cx : qc_X F cX6_mend RX6 "mend" 7 0 0 177 := cx
  show qc_J F 0 0 0 [some (.ref 0), none] [] (I, J, (rX w, kX, nX, n))
  unfold P_X6_mend at hP
  refine qj_aload_n cx dX6_mend_0 rfl rfl ?_
  obtain ⟨q1, eq1, hP⟩ := Option.bind_eq_some_iff.mp hP
  refine qj_callV (As := []) (st := []) (t := 0) (h' := (q1.2.1, q1.2.2, (rX w, kX, nX, n))) (r := some (.int q1.1)) cx dX6_mend_1 (c_X6_findMend (I := I) (J := J) (w := w) hn hn1 eq1) gc_RX6_131 qm_X6_findMend rfl rfl qc_cl6 rfl (Nat.lt_of_lt_of_le (by decide) hn) (by decide) (by decide) rfl (Nat.le_of_ble_eq_true rfl) (Nat.le_trans hn1 (by decide)) hn0 rfl ?_
  refine qj_istore_n (ls1 := [some (.ref 0), some (.int q1.1)]) cx dX6_mend_4 rfl rfl rfl rfl ?_
  refine qj_iload_n cx dX6_mend_5 rfl rfl ?_
  refine qj_if_le (tgt := 13) cx dX6_mend_6 (by decide) (fun c2 => ?_) (fun c2 => ?_)
  · have hP := qc_ifT hP c2
    refine qj_iload_n cx dX6_mend_13 rfl rfl ?_
    have hz := qc_Zw (congrArg (fun q => q.2.2.2) (Option.some.inj hP)) hz
    exact qw_iret cx hz dX6_mend_14 (Nat.zero_le _) (Nat.zero_le _) (congrArg (fun q => q.1) (Option.some.inj hP)) (congrArg (fun q => q.2.1) (Option.some.inj hP)) (congrArg (fun q => q.2.2.1) (Option.some.inj hP))
  · have hP := qc_ifF hP c2
    refine qj_aload_n cx dX6_mend_9 rfl rfl ?_
    obtain ⟨q4, eq4, hP⟩ := Option.bind_eq_some_iff.mp hP
    refine qj_callV (As := []) (st := []) (t := 0) (h' := (q4.1, q4.2.1, (rX q4.2.2, kX, nX, n))) (r := none) cx dX6_mend_10 (c_X6_adoptTrial (I := q1.2.1) (J := q1.2.2) (w := w) hn hn1 eq4) gc_RX6_128 qm_X6_adoptTrial rfl rfl qc_cl6 rfl (Nat.lt_of_lt_of_le (by decide) hn) (by decide) (by decide) rfl (Nat.le_of_ble_eq_true rfl) (Nat.le_trans hn1 (by decide)) hn0 rfl ?_
    refine qj_iload_n cx dX6_mend_13 rfl rfl ?_
    have hz := qc_Zw (congrArg (fun q => q.2.2.2) (Option.some.inj hP)) hz
    exact qw_iret cx hz dX6_mend_14 (Nat.zero_le _) (Nat.zero_le _) (congrArg (fun q => q.1) (Option.some.inj hP)) (congrArg (fun q => q.2.1) (Option.some.inj hP)) (congrArg (fun q => q.2.2.1) (Option.some.inj hP))
def P_X6_fits (I : Nat → Nat → Int32) (J : Nat → Nat → Int64) (a : Int32) (b : Int32) : Option (Int32 × (Nat → Nat → Int32) × (Nat → Nat → Int64)) :=
  (P_X4_isUser I 2 a).bind fun q1 =>
  if q1 = 0 then
  some ((-1 : Int32), I, J)
  else
  (P_X4_isChannel I 2 b).bind fun q3 =>
  if q3 = 0 then
  some ((-1 : Int32), I, J)
  else
  (P_X4_copyFrom I J 12 2).bind fun q5 =>
  (P_X6_fitsOnTrial q5.1 q5.2 a b).bind fun q6 =>
  (if q6.1 = 0 then
  some (0 : Int32)
  else
  some (1 : Int32)).bind fun v8 =>
  some (v8, q6.2.1, q6.2.2)
set_option maxRecDepth 20000 in
theorem c_X6_fits {I : Nat → Nat → Int32} {J : Nat → Nat → Int64} {w : Nat → Nat} {n : Nat} (hn : 121 ≤ n) (hn1 : n ≤ 200) {a : Int32} {b : Int32} {q0 : Int32 × (Nat → Nat → Int32) × (Nat → Nat → Int64)} (hP : P_X6_fits I J a b = some q0) : ∀ l, qc_M l yX6_fits cX6_fits 3 (some .int) 6 149 0 0 [.ref 0, .int a, .int b] (I, J, (rX w, kX, nX, n)) (some (.int q0.1)) (q0.2.1, q0.2.2, (rX w, kX, nX, n)) := by
  intro l
  refine qc_ent2 (by decide) (Nat.le_of_ble_eq_true rfl) ?_
  intro F hn0 cx hz
  have cx : qc_X F cX6_fits RX6 "fits" 6 0 0 149 := cx
  show qc_J F 0 0 0 [some (.ref 0), some (.int a), some (.int b)] [] (I, J, (rX w, kX, nX, n))
  unfold P_X6_fits at hP
  refine qj_aload_n cx dX6_fits_0 rfl rfl ?_
  refine qw_getR (j := 4) (t1 := 2) cx dX6_fits_1 qc_cl6 rfl (Nat.lt_of_lt_of_le (by decide) hn) rfl ww_334 rfl ?_
  refine qj_iload_n cx dX6_fits_4 rfl rfl ?_
  obtain ⟨q1, eq1, hP⟩ := Option.bind_eq_some_iff.mp hP
  refine qj_callV (As := [.int a]) (st := []) (t := 2) (h' := (I, J, (rX w, kX, nX, n))) (r := some (.int q1)) cx dX6_fits_5 (c_X4_isUser (I := I) (J := J) (w := w) hn hn1 (qc_sc2 hn) eq1) gc_RX6_94 qm_X4_isUser rfl rfl qc_cl4 rfl (Nat.lt_of_lt_of_le (by decide) hn) (by decide) (by decide) rfl (Nat.le_of_ble_eq_true rfl) (Nat.le_trans hn1 (by decide)) hn0 rfl ?_
  refine qj_if_eq (tgt := 22) cx dX6_fits_8 (by decide) (fun c2 => ?_) (fun c2 => ?_)
  · have hP := qc_ifT hP c2
    refine qj_iconst (v := (-1 : Int32)) cx dX6_fits_22 (by decide) ?_
    exact qw_iret cx hz dX6_fits_23 (Nat.zero_le _) (Nat.zero_le _) (congrArg (fun q => q.1) (Option.some.inj hP)) (congrArg (fun q => q.2.1) (Option.some.inj hP)) (congrArg (fun q => q.2.2) (Option.some.inj hP))
  · have hP := qc_ifF hP c2
    refine qj_aload_n cx dX6_fits_11 rfl rfl ?_
    refine qw_getR (j := 4) (t1 := 2) cx dX6_fits_12 qc_cl6 rfl (Nat.lt_of_lt_of_le (by decide) hn) rfl ww_334 rfl ?_
    refine qj_iload_n cx dX6_fits_15 rfl rfl ?_
    obtain ⟨q3, eq3, hP⟩ := Option.bind_eq_some_iff.mp hP
    refine qj_callV (As := [.int b]) (st := []) (t := 2) (h' := (I, J, (rX w, kX, nX, n))) (r := some (.int q3)) cx dX6_fits_16 (c_X4_isChannel (I := I) (J := J) (w := w) hn hn1 (qc_sc2 hn) eq3) gc_RX6_98 qm_X4_isChannel rfl rfl qc_cl4 rfl (Nat.lt_of_lt_of_le (by decide) hn) (by decide) (by decide) rfl (Nat.le_of_ble_eq_true rfl) (Nat.le_trans hn1 (by decide)) hn0 rfl ?_
    refine qj_if_ne (tgt := 24) cx dX6_fits_19 (by decide) (fun c4 => ?_) (fun c4 => ?_)
    · have hP := qc_ifF hP c4
      refine qj_aload_n cx dX6_fits_24 rfl rfl ?_
      refine qw_getR (j := 5) (t1 := 12) cx dX6_fits_25 qc_cl6 rfl (Nat.lt_of_lt_of_le (by decide) hn) rfl ww_335 rfl ?_
      refine qj_aload_n cx dX6_fits_28 rfl rfl ?_
      refine qw_getR (j := 4) (t1 := 2) cx dX6_fits_29 qc_cl6 rfl (Nat.lt_of_lt_of_le (by decide) hn) rfl ww_334 rfl ?_
      obtain ⟨q5, eq5, hP⟩ := Option.bind_eq_some_iff.mp hP
      refine qj_callV (As := [.ref 2]) (st := []) (t := 12) (h' := (q5.1, q5.2, (rX w, kX, nX, n))) (r := none) cx dX6_fits_32 (c_X4_copyFrom (I := I) (J := J) (w := w) hn hn1 (qc_sc12 hn) (qc_sc2 hn) eq5) gc_RX6_248 qm_X4_copyFrom rfl rfl qc_cl4 rfl (Nat.lt_of_lt_of_le (by decide) hn) (by decide) (by decide) rfl (Nat.le_of_ble_eq_true rfl) (Nat.le_trans hn1 (by decide)) hn0 rfl ?_
      refine qj_aload_n cx dX6_fits_35 rfl rfl ?_
      refine qj_iload_n cx dX6_fits_36 rfl rfl ?_
      refine qj_iload_n cx dX6_fits_37 rfl rfl ?_
      obtain ⟨q6, eq6, hP⟩ := Option.bind_eq_some_iff.mp hP
      refine qj_callV (As := [.int a, .int b]) (st := []) (t := 0) (h' := (q6.2.1, q6.2.2, (rX w, kX, nX, n))) (r := some (.int q6.1)) cx dX6_fits_38 (c_X6_fitsOnTrial (I := q5.1) (J := q5.2) (w := w) hn hn1 eq6) gc_RX6_254 qm_X6_fitsOnTrial rfl rfl qc_cl6 rfl (Nat.lt_of_lt_of_le (by decide) hn) (by decide) (by decide) rfl (Nat.le_of_ble_eq_true rfl) (Nat.le_trans hn1 (by decide)) hn0 rfl ?_
      obtain ⟨v8, hv8, hP⟩ := Option.bind_eq_some_iff.mp hP
      have Kv8 : qc_J F 0 0 49 [some (.ref 0), some (.int a), some (.int b)] [.int v8] (q6.2.1, q6.2.2, (rX w, kX, nX, n)) := by
        exact qw_iret cx hz dX6_fits_49 (Nat.zero_le _) (Nat.zero_le _) (congrArg (fun q => q.1) (Option.some.inj hP)) (congrArg (fun q => q.2.1) (Option.some.inj hP)) (congrArg (fun q => q.2.2) (Option.some.inj hP))
      refine qj_if_eq (tgt := 48) cx dX6_fits_41 (by decide) (fun c7 => ?_) (fun c7 => ?_)
      · have hv8 := qc_ifT hv8 c7
        refine qj_iconst (v := (0 : Int32)) cx dX6_fits_48 (by decide) ?_
        exact qw_top (Option.some.inj hv8).symm Kv8
      · have hv8 := qc_ifF hv8 c7
        refine qj_iconst (v := (1 : Int32)) cx dX6_fits_44 (by decide) ?_
        refine qj_goto (tgt := 49) cx dX6_fits_45 (by decide) ?_
        exact qw_top (Option.some.inj hv8).symm Kv8
    · have hP := qc_ifT hP c4
      refine qj_iconst (v := (-1 : Int32)) cx dX6_fits_22 (by decide) ?_
      exact qw_iret cx hz dX6_fits_23 (Nat.zero_le _) (Nat.zero_le _) (congrArg (fun q => q.1) (Option.some.inj hP)) (congrArg (fun q => q.2.1) (Option.some.inj hP)) (congrArg (fun q => q.2.2) (Option.some.inj hP))
def P_X6_bestSwap_93 (k14 : (Nat → Nat → Int32) → (Nat → Nat → Int64) → Int32 → Int32 → Int32 → Option (Int32 × (Nat → Nat → Int32) × (Nat → Nat → Int64))) (k30 : (Nat → Nat → Int32) → (Nat → Nat → Int64) → Int32 → Int32 → Int32 → Int32 → Option (Int32 × (Nat → Nat → Int32) × (Nat → Nat → Int64))) (I : (Nat → Nat → Int32)) (J : (Nat → Nat → Int64)) (a1 : Int32) (a2 : Int32) (a3 : Int32) (a4 : Int32) : Option (Int32 × (Nat → Nat → Int32) × (Nat → Nat → Int64)) :=
  qc_let (a4 + (1 : Int32)) fun x1 =>
  k30 I J a1 a2 a3 x1
def P_X6_bestSwap_30 (k14 : (Nat → Nat → Int32) → (Nat → Nat → Int64) → Int32 → Int32 → Int32 → Option (Int32 × (Nat → Nat → Int32) × (Nat → Nat → Int64))) : Nat → (Nat → Nat → Int32) → (Nat → Nat → Int64) → Int32 → Int32 → Int32 → Int32 → Option (Int32 × (Nat → Nat → Int32) × (Nat → Nat → Int64))
  | 0, _, _, _, _, _, _ => none
  | f + 1, I, J, a1, a2, a3, a4 =>
  if I 2 0 ≤ a4 then
  qc_let (a3 + (1 : Int32)) fun x3 =>
  k14 I J a1 a2 x3
  else
  if qc_in a3 8 then
  if I 9 a3.toNatClampNeg ≤ 0 then
  P_X6_bestSwap_93 k14 (P_X6_bestSwap_30 k14 f) I J a1 a2 a3 a4
  else
  if qc_in a4 8 then
  if I 9 a4.toNatClampNeg ≤ 0 then
  P_X6_bestSwap_93 k14 (P_X6_bestSwap_30 k14 f) I J a1 a2 a3 a4
  else
  (P_X6_troubleOfSwap I J a3 a4).bind fun q8 =>
  if a2 ≤ q8.1 then
  P_X6_bestSwap_93 k14 (P_X6_bestSwap_30 k14 f) q8.2.1 q8.2.2 a1 a2 a3 a4
  else
  qc_let (((6 : Int32) * a3) + a4) fun x10 =>
  P_X6_bestSwap_93 k14 (P_X6_bestSwap_30 k14 f) q8.2.1 q8.2.2 x10 q8.1 a3 a4
  else none
  else none
def P_X6_bestSwap_14  : Nat → (Nat → Nat → Int32) → (Nat → Nat → Int64) → Int32 → Int32 → Int32 → Option (Int32 × (Nat → Nat → Int32) × (Nat → Nat → Int64))
  | 0, _, _, _, _, _ => none
  | f + 1, I, J, a1, a2, a3 =>
  if I 2 0 ≤ a3 then
  some (a1, I, J)
  else
  qc_let (a3 + (1 : Int32)) fun x12 =>
  P_X6_bestSwap_30 (P_X6_bestSwap_14 f) qc_fu I J a1 a2 a3 x12
def P_X6_bestSwap (I : Nat → Nat → Int32) (J : Nat → Nat → Int64) : Option (Int32 × (Nat → Nat → Int32) × (Nat → Nat → Int64)) :=
  (P_X6_trouble I J 2).bind fun q13 =>
  P_X6_bestSwap_14 qc_fu q13.2.1 q13.2.2 (-2 : Int32) q13.1 (0 : Int32)
set_option maxRecDepth 20000 in
theorem c_X6_bestSwap {I : Nat → Nat → Int32} {J : Nat → Nat → Int64} {w : Nat → Nat} {n : Nat} (hn : 121 ≤ n) (hn1 : n ≤ 200)  {q0 : Int32 × (Nat → Nat → Int32) × (Nat → Nat → Int64)} (hP : P_X6_bestSwap I J = some q0) : ∀ l, qc_M l yX6_bestSwap cX6_bestSwap 6 (some .int) 7 170 0 0 [.ref 0] (I, J, (rX w, kX, nX, n)) (some (.int q0.1)) (q0.2.1, q0.2.2, (rX w, kX, nX, n)) := by
  intro l
  refine qc_ent2 (by decide) (Nat.le_of_ble_eq_true rfl) ?_
  intro F hn0 cx hz
  have cx : qc_X F cX6_bestSwap RX6 "bestSwap" 7 0 0 170 := cx
  have L93 : ∀ (k14 : (Nat → Nat → Int32) → (Nat → Nat → Int64) → Int32 → Int32 → Int32 → Option (Int32 × (Nat → Nat → Int32) × (Nat → Nat → Int64))) (g14 : ∀ (I : Nat → Nat → Int32) (J : Nat → Nat → Int64) (a1 : Int32) (a2 : Int32) (a3 : Int32), k14 I J a1 a2 a3 = some q0 → qc_J F 0 0 14 [some (.ref 0), some (.int a1), some (.int a2), some (.int a3), none, none] [] (I, J, (rX w, kX, nX, n))) (k30 : (Nat → Nat → Int32) → (Nat → Nat → Int64) → Int32 → Int32 → Int32 → Int32 → Option (Int32 × (Nat → Nat → Int32) × (Nat → Nat → Int64))) (g30 : ∀ (I : Nat → Nat → Int32) (J : Nat → Nat → Int64) (a1 : Int32) (a2 : Int32) (a3 : Int32) (a4 : Int32), k30 I J a1 a2 a3 a4 = some q0 → qc_J F 0 0 30 [some (.ref 0), some (.int a1), some (.int a2), some (.int a3), some (.int a4), none] [] (I, J, (rX w, kX, nX, n))) (I : (Nat → Nat → Int32)) (J : (Nat → Nat → Int64)) (a1 : Int32) (a2 : Int32) (a3 : Int32) (a4 : Int32), P_X6_bestSwap_93 k14 k30 I J a1 a2 a3 a4 = some q0 → qc_J F 0 0 93 [some (.ref 0), some (.int a1), some (.int a2), some (.int a3), some (.int a4), none] [] (I, J, (rX w, kX, nX, n)) := by
    intro k14 g14 k30 g30 I J a1 a2 a3 a4 hP
    unfold P_X6_bestSwap_93 at hP
    obtain ⟨x1, ex1, hP⟩ := qc_letE hP
    refine qj_iinc (v := x1) (ls1 := [some (.ref 0), some (.int a1), some (.int a2), some (.int a3), some (.int x1), none]) cx dX6_bestSwap_93 rfl (by rw [ex1]; rfl) rfl rfl ?_
    refine qj_goto (tgt := 30) cx dX6_bestSwap_96 (by decide) ?_
    exact g30 I J a1 a2 a3 x1 hP
  have L30 : ∀ (k14 : (Nat → Nat → Int32) → (Nat → Nat → Int64) → Int32 → Int32 → Int32 → Option (Int32 × (Nat → Nat → Int32) × (Nat → Nat → Int64))) (g14 : ∀ (I : Nat → Nat → Int32) (J : Nat → Nat → Int64) (a1 : Int32) (a2 : Int32) (a3 : Int32), k14 I J a1 a2 a3 = some q0 → qc_J F 0 0 14 [some (.ref 0), some (.int a1), some (.int a2), some (.int a3), none, none] [] (I, J, (rX w, kX, nX, n))) (f : Nat) (I : (Nat → Nat → Int32)) (J : (Nat → Nat → Int64)) (a1 : Int32) (a2 : Int32) (a3 : Int32) (a4 : Int32), P_X6_bestSwap_30 k14 f I J a1 a2 a3 a4 = some q0 → qc_J F 0 0 30 [some (.ref 0), some (.int a1), some (.int a2), some (.int a3), some (.int a4), none] [] (I, J, (rX w, kX, nX, n)) := by
    intro k14 g14 f
    induction f with
    | zero => intro I J a1 a2 a3 a4 hP; cases hP
    | succ f ih =>
      intro I J a1 a2 a3 a4 hP
      rw [P_X6_bestSwap_30] at hP
      refine qj_iload cx dX6_bestSwap_30 rfl ?_
      refine qj_aload_n cx dX6_bestSwap_32 rfl rfl ?_
      refine qw_getR (j := 4) (t1 := 2) cx dX6_bestSwap_33 qc_cl6 rfl (Nat.lt_of_lt_of_le (by decide) hn) rfl ww_334 rfl ?_
      refine qw_getI (j := 0) cx dX6_bestSwap_36 qc_cl4 rfl (Nat.lt_of_lt_of_le (by decide) hn) rfl ww_151 ?_
      refine qj_icmp_ge (tgt := 99) cx dX6_bestSwap_39 (by decide) (fun c2 => ?_) (fun c2 => ?_)
      · have hP := qc_ifT hP c2
        obtain ⟨x3, ex3, hP⟩ := qc_letE hP
        refine qj_iinc (v := x3) (ls1 := [some (.ref 0), some (.int a1), some (.int a2), some (.int x3), some (.int a4), none]) cx dX6_bestSwap_99 rfl (by rw [ex3]; rfl) rfl rfl ?_
        refine qj_goto (tgt := 14) cx dX6_bestSwap_102 (by decide) ?_
        refine qw_sub (ls1 := [some (.ref 0), some (.int a1), some (.int a2), some (.int x3), none, none]) rfl (qc_sb_ok ⟨rfl, rfl, rfl, rfl, trivial⟩) ?_
        exact g14 I J a1 a2 x3 hP
      · have hP := qc_ifF hP c2
        refine qj_aload_n cx dX6_bestSwap_42 rfl rfl ?_
        refine qw_getR (j := 4) (t1 := 2) cx dX6_bestSwap_43 qc_cl6 rfl (Nat.lt_of_lt_of_le (by decide) hn) rfl ww_334 rfl ?_
        refine qw_getR (j := 13) (t1 := 9) cx dX6_bestSwap_46 qc_cl4 rfl (Nat.lt_of_lt_of_le (by decide) hn) rfl ww_198 rfl ?_
        refine qj_iload_n cx dX6_bestSwap_49 rfl rfl ?_
        obtain ⟨c4, hP⟩ := qc_ck hP
        refine qw_iald (n1 := 8) cx dX6_bestSwap_50 rfl (Nat.lt_of_lt_of_le (by decide) hn) rfl c4 ?_
        refine qj_if_le (tgt := 93) cx dX6_bestSwap_51 (by decide) (fun c5 => ?_) (fun c5 => ?_)
        · have hP := qc_ifT hP c5
          exact L93 k14 g14 (P_X6_bestSwap_30 k14 f) ih I J a1 a2 a3 a4 hP
        · have hP := qc_ifF hP c5
          refine qj_aload_n cx dX6_bestSwap_54 rfl rfl ?_
          refine qw_getR (j := 4) (t1 := 2) cx dX6_bestSwap_55 qc_cl6 rfl (Nat.lt_of_lt_of_le (by decide) hn) rfl ww_334 rfl ?_
          refine qw_getR (j := 13) (t1 := 9) cx dX6_bestSwap_58 qc_cl4 rfl (Nat.lt_of_lt_of_le (by decide) hn) rfl ww_198 rfl ?_
          refine qj_iload cx dX6_bestSwap_61 rfl ?_
          obtain ⟨c6, hP⟩ := qc_ck hP
          refine qw_iald (n1 := 8) cx dX6_bestSwap_63 rfl (Nat.lt_of_lt_of_le (by decide) hn) rfl c6 ?_
          refine qj_if_le (tgt := 93) cx dX6_bestSwap_64 (by decide) (fun c7 => ?_) (fun c7 => ?_)
          · have hP := qc_ifT hP c7
            exact L93 k14 g14 (P_X6_bestSwap_30 k14 f) ih I J a1 a2 a3 a4 hP
          · have hP := qc_ifF hP c7
            refine qj_aload_n cx dX6_bestSwap_67 rfl rfl ?_
            refine qj_iload_n cx dX6_bestSwap_68 rfl rfl ?_
            refine qj_iload cx dX6_bestSwap_69 rfl ?_
            obtain ⟨q8, eq8, hP⟩ := Option.bind_eq_some_iff.mp hP
            refine qj_callV (As := [.int a3, .int a4]) (st := []) (t := 0) (h' := (q8.2.1, q8.2.2, (rX w, kX, nX, n))) (r := some (.int q8.1)) cx dX6_bestSwap_71 (c_X6_troubleOfSwap (I := I) (J := J) (w := w) hn hn1 eq8) gc_RX6_269 qm_X6_troubleOfSwap rfl rfl qc_cl6 rfl (Nat.lt_of_lt_of_le (by decide) hn) (by decide) (by decide) rfl (Nat.le_of_ble_eq_true rfl) (Nat.le_trans hn1 (by decide)) hn0 rfl ?_
            refine qj_istore (ls1 := [some (.ref 0), some (.int a1), some (.int a2), some (.int a3), some (.int a4), some (.int q8.1)]) cx dX6_bestSwap_74 rfl rfl rfl ?_
            refine qj_iload cx dX6_bestSwap_76 rfl ?_
            refine qj_iload_n cx dX6_bestSwap_78 rfl rfl ?_
            refine qj_icmp_ge (tgt := 93) cx dX6_bestSwap_79 (by decide) (fun c9 => ?_) (fun c9 => ?_)
            · have hP := qc_ifT hP c9
              refine qw_sub (ls1 := [some (.ref 0), some (.int a1), some (.int a2), some (.int a3), some (.int a4), none]) rfl (qc_sb_ok ⟨rfl, rfl, rfl, rfl, rfl, trivial⟩) ?_
              exact L93 k14 g14 (P_X6_bestSwap_30 k14 f) ih q8.2.1 q8.2.2 a1 a2 a3 a4 hP
            · have hP := qc_ifF hP c9
              refine qj_bipush (v := (6 : Int32)) cx dX6_bestSwap_82 (by decide) ?_
              refine qj_iload_n cx dX6_bestSwap_84 rfl rfl ?_
              refine qj_imul cx dX6_bestSwap_85 ?_
              refine qj_iload cx dX6_bestSwap_86 rfl ?_
              refine qj_iadd cx dX6_bestSwap_88 ?_
              obtain ⟨x10, ex10, hP⟩ := qc_letE hP
              refine qw_top ex10 ?_
              refine qj_istore_n (ls1 := [some (.ref 0), some (.int x10), some (.int a2), some (.int a3), some (.int a4), some (.int q8.1)]) cx dX6_bestSwap_89 rfl rfl rfl rfl ?_
              refine qj_iload cx dX6_bestSwap_90 rfl ?_
              refine qj_istore_n (ls1 := [some (.ref 0), some (.int x10), some (.int q8.1), some (.int a3), some (.int a4), some (.int q8.1)]) cx dX6_bestSwap_92 rfl rfl rfl rfl ?_
              refine qw_sub (ls1 := [some (.ref 0), some (.int x10), some (.int q8.1), some (.int a3), some (.int a4), none]) rfl (qc_sb_ok ⟨rfl, rfl, rfl, rfl, rfl, trivial⟩) ?_
              exact L93 k14 g14 (P_X6_bestSwap_30 k14 f) ih q8.2.1 q8.2.2 x10 q8.1 a3 a4 hP
  have L14 : ∀  (f : Nat) (I : (Nat → Nat → Int32)) (J : (Nat → Nat → Int64)) (a1 : Int32) (a2 : Int32) (a3 : Int32), P_X6_bestSwap_14 f I J a1 a2 a3 = some q0 → qc_J F 0 0 14 [some (.ref 0), some (.int a1), some (.int a2), some (.int a3), none, none] [] (I, J, (rX w, kX, nX, n)) := by
    intro  f
    induction f with
    | zero => intro I J a1 a2 a3 hP; cases hP
    | succ f ih =>
      intro I J a1 a2 a3 hP
      rw [P_X6_bestSwap_14] at hP
      refine qj_iload_n cx dX6_bestSwap_14 rfl rfl ?_
      refine qj_aload_n cx dX6_bestSwap_15 rfl rfl ?_
      refine qw_getR (j := 4) (t1 := 2) cx dX6_bestSwap_16 qc_cl6 rfl (Nat.lt_of_lt_of_le (by decide) hn) rfl ww_334 rfl ?_
      refine qw_getI (j := 0) cx dX6_bestSwap_19 qc_cl4 rfl (Nat.lt_of_lt_of_le (by decide) hn) rfl ww_151 ?_
      refine qj_icmp_ge (tgt := 105) cx dX6_bestSwap_22 (by decide) (fun c11 => ?_) (fun c11 => ?_)
      · have hP := qc_ifT hP c11
        refine qj_iload_n cx dX6_bestSwap_105 rfl rfl ?_
        exact qw_iret cx hz dX6_bestSwap_106 (Nat.zero_le _) (Nat.zero_le _) (congrArg (fun q => q.1) (Option.some.inj hP)) (congrArg (fun q => q.2.1) (Option.some.inj hP)) (congrArg (fun q => q.2.2) (Option.some.inj hP))
      · have hP := qc_ifF hP c11
        refine qj_iload_n cx dX6_bestSwap_25 rfl rfl ?_
        refine qj_iconst (v := (1 : Int32)) cx dX6_bestSwap_26 (by decide) ?_
        refine qj_iadd cx dX6_bestSwap_27 ?_
        obtain ⟨x12, ex12, hP⟩ := qc_letE hP
        refine qw_top ex12 ?_
        refine qj_istore (ls1 := [some (.ref 0), some (.int a1), some (.int a2), some (.int a3), some (.int x12), none]) cx dX6_bestSwap_28 rfl rfl rfl ?_
        exact L30 (P_X6_bestSwap_14 f) ih qc_fu I J a1 a2 a3 x12 hP
  show qc_J F 0 0 0 [some (.ref 0), none, none, none, none, none] [] (I, J, (rX w, kX, nX, n))
  unfold P_X6_bestSwap at hP
  refine qj_bipush (v := (-2 : Int32)) cx dX6_bestSwap_0 (by decide) ?_
  refine qj_istore_n (ls1 := [some (.ref 0), some (.int (-2 : Int32)), none, none, none, none]) cx dX6_bestSwap_2 rfl rfl rfl rfl ?_
  refine qj_aload_n cx dX6_bestSwap_3 rfl rfl ?_
  refine qj_aload_n cx dX6_bestSwap_4 rfl rfl ?_
  refine qw_getR (j := 4) (t1 := 2) cx dX6_bestSwap_5 qc_cl6 rfl (Nat.lt_of_lt_of_le (by decide) hn) rfl ww_334 rfl ?_
  obtain ⟨q13, eq13, hP⟩ := Option.bind_eq_some_iff.mp hP
  refine qj_callV (As := [.ref 2]) (st := []) (t := 0) (h' := (q13.2.1, q13.2.2, (rX w, kX, nX, n))) (r := some (.int q13.1)) cx dX6_bestSwap_8 (c_X6_trouble (I := I) (J := J) (w := w) hn hn1 (qc_sc2 hn) eq13) gc_RX6_265 qm_X6_trouble rfl rfl qc_cl6 rfl (Nat.lt_of_lt_of_le (by decide) hn) (by decide) (by decide) rfl (Nat.le_of_ble_eq_true rfl) (Nat.le_trans hn1 (by decide)) hn0 rfl ?_
  refine qj_istore_n (ls1 := [some (.ref 0), some (.int (-2 : Int32)), some (.int q13.1), none, none, none]) cx dX6_bestSwap_11 rfl rfl rfl rfl ?_
  refine qj_iconst (v := (0 : Int32)) cx dX6_bestSwap_12 (by decide) ?_
  refine qj_istore_n (ls1 := [some (.ref 0), some (.int (-2 : Int32)), some (.int q13.1), some (.int (0 : Int32)), none, none]) cx dX6_bestSwap_13 rfl rfl rfl rfl ?_
  exact L14 qc_fu q13.2.1 q13.2.2 (-2 : Int32) q13.1 (0 : Int32) hP
def P_X6_turned_19  (I : (Nat → Nat → Int32)) (J : (Nat → Nat → Int64)) (a1 : Int32) : Option (Int32 × (Nat → Nat → Int32) × (Nat → Nat → Int64)) :=
  (P_X6_turnDown I J).bind fun q1 =>
  (if a1 = (-1 : Int32) then
  some q1.1
  else
  if qc_in a1 8 then
  some (q1.2.1 20 a1.toNatClampNeg)
  else none).bind fun v3 =>
  some (v3, q1.2.1, q1.2.2)
def P_X6_turned (I : Nat → Nat → Int32) (J : Nat → Nat → Int64) (a : Int32) : Option (Int32 × (Nat → Nat → Int32) × (Nat → Nat → Int64)) :=
  if a = (-1 : Int32) then
  P_X6_turned_19 I J a
  else
  (P_X4_isUser I 2 a).bind fun q6 =>
  if q6 = 0 then
  some ((-2 : Int32), I, J)
  else
  P_X6_turned_19 I J a
set_option maxRecDepth 20000 in
theorem c_X6_turned {I : Nat → Nat → Int32} {J : Nat → Nat → Int64} {w : Nat → Nat} {n : Nat} (hn : 121 ≤ n) (hn1 : n ≤ 200) {a : Int32} {q0 : Int32 × (Nat → Nat → Int32) × (Nat → Nat → Int64)} (hP : P_X6_turned I J a = some q0) : ∀ l, qc_M l yX6_turned cX6_turned 3 (some .int) 6 149 0 0 [.ref 0, .int a] (I, J, (rX w, kX, nX, n)) (some (.int q0.1)) (q0.2.1, q0.2.2, (rX w, kX, nX, n)) := by
  intro l
  refine qc_ent2 (by decide) (Nat.le_of_ble_eq_true rfl) ?_
  intro F hn0 cx hz
  have cx : qc_X F cX6_turned RX6 "turned" 6 0 0 149 := cx
  have L19 : ∀  (I : (Nat → Nat → Int32)) (J : (Nat → Nat → Int64)) (a1 : Int32), P_X6_turned_19 I J a1 = some q0 → qc_J F 0 0 19 [some (.ref 0), some (.int a1), none] [] (I, J, (rX w, kX, nX, n)) := by
    intro I J a1 hP
    unfold P_X6_turned_19 at hP
    refine qj_aload_n cx dX6_turned_19 rfl rfl ?_
    obtain ⟨q1, eq1, hP⟩ := Option.bind_eq_some_iff.mp hP
    refine qj_callV (As := []) (st := []) (t := 0) (h' := (q1.2.1, q1.2.2, (rX w, kX, nX, n))) (r := some (.int q1.1)) cx dX6_turned_20 (c_X6_turnDown (I := I) (J := J) (w := w) hn hn1 eq1) gc_RX6_275 qm_X6_turnDown rfl rfl qc_cl6 rfl (Nat.lt_of_lt_of_le (by decide) hn) (by decide) (by decide) rfl (Nat.le_of_ble_eq_true rfl) (Nat.le_trans hn1 (by decide)) hn0 rfl ?_
    refine qj_istore_n (ls1 := [some (.ref 0), some (.int a1), some (.int q1.1)]) cx dX6_turned_23 rfl rfl rfl rfl ?_
    refine qj_iload_n cx dX6_turned_24 rfl rfl ?_
    refine qj_iconst (v := (-1 : Int32)) cx dX6_turned_25 (by decide) ?_
    obtain ⟨v3, hv3, hP⟩ := Option.bind_eq_some_iff.mp hP
    have Kv3 : qc_J F 0 0 42 [some (.ref 0), some (.int a1), some (.int q1.1)] [.int v3] (q1.2.1, q1.2.2, (rX w, kX, nX, n)) := by
      exact qw_iret cx hz dX6_turned_42 (Nat.zero_le _) (Nat.zero_le _) (congrArg (fun q => q.1) (Option.some.inj hP)) (congrArg (fun q => q.2.1) (Option.some.inj hP)) (congrArg (fun q => q.2.2) (Option.some.inj hP))
    refine qj_icmp_ne (tgt := 33) cx dX6_turned_26 (by decide) (fun c2 => ?_) (fun c2 => ?_)
    · have hv3 := qc_ifF hv3 c2
      refine qj_aload_n cx dX6_turned_33 rfl rfl ?_
      refine qw_getR (j := 5) (t1 := 12) cx dX6_turned_34 qc_cl6 rfl (Nat.lt_of_lt_of_le (by decide) hn) rfl ww_335 rfl ?_
      refine qw_getR (j := 14) (t1 := 20) cx dX6_turned_37 qc_cl4 rfl (Nat.lt_of_lt_of_le (by decide) hn) rfl ww_204 rfl ?_
      refine qj_iload_n cx dX6_turned_40 rfl rfl ?_
      obtain ⟨c4, hv3⟩ := qc_ck hv3
      refine qw_iald (n1 := 8) cx dX6_turned_41 rfl (Nat.lt_of_lt_of_le (by decide) hn) rfl c4 ?_
      exact qw_top (Option.some.inj hv3).symm Kv3
    · have hv3 := qc_ifT hv3 c2
      refine qj_iload_n cx dX6_turned_29 rfl rfl ?_
      refine qj_goto (tgt := 42) cx dX6_turned_30 (by decide) ?_
      exact qw_top (Option.some.inj hv3).symm Kv3
  show qc_J F 0 0 0 [some (.ref 0), some (.int a), none] [] (I, J, (rX w, kX, nX, n))
  unfold P_X6_turned at hP
  refine qj_iload_n cx dX6_turned_0 rfl rfl ?_
  refine qj_iconst (v := (-1 : Int32)) cx dX6_turned_1 (by decide) ?_
  refine qj_icmp_eq (tgt := 19) cx dX6_turned_2 (by decide) (fun c5 => ?_) (fun c5 => ?_)
  · have hP := qc_ifT hP c5
    exact L19 I J a hP
  · have hP := qc_ifF hP c5
    refine qj_aload_n cx dX6_turned_5 rfl rfl ?_
    refine qw_getR (j := 4) (t1 := 2) cx dX6_turned_6 qc_cl6 rfl (Nat.lt_of_lt_of_le (by decide) hn) rfl ww_334 rfl ?_
    refine qj_iload_n cx dX6_turned_9 rfl rfl ?_
    obtain ⟨q6, eq6, hP⟩ := Option.bind_eq_some_iff.mp hP
    refine qj_callV (As := [.int a]) (st := []) (t := 2) (h' := (I, J, (rX w, kX, nX, n))) (r := some (.int q6)) cx dX6_turned_10 (c_X4_isUser (I := I) (J := J) (w := w) hn hn1 (qc_sc2 hn) eq6) gc_RX6_94 qm_X4_isUser rfl rfl qc_cl4 rfl (Nat.lt_of_lt_of_le (by decide) hn) (by decide) (by decide) rfl (Nat.le_of_ble_eq_true rfl) (Nat.le_trans hn1 (by decide)) hn0 rfl ?_
    refine qj_if_ne (tgt := 19) cx dX6_turned_13 (by decide) (fun c7 => ?_) (fun c7 => ?_)
    · have hP := qc_ifF hP c7
      exact L19 I J a hP
    · have hP := qc_ifT hP c7
      refine qj_bipush (v := (-2 : Int32)) cx dX6_turned_16 (by decide) ?_
      exact qw_iret cx hz dX6_turned_18 (Nat.zero_le _) (Nat.zero_le _) (congrArg (fun q => q.1) (Option.some.inj hP)) (congrArg (fun q => q.2.1) (Option.some.inj hP)) (congrArg (fun q => q.2.2) (Option.some.inj hP))
def P_X6_left (I : Nat → Nat → Int32) (J : Nat → Nat → Int64) : Option (Int32 × (Nat → Nat → Int32) × (Nat → Nat → Int64)) :=
  (P_X6_turnDown I J).bind fun q1 =>
  some (q1.2.1 22 2, q1.2.1, q1.2.2)
set_option maxRecDepth 20000 in
theorem c_X6_left {I : Nat → Nat → Int32} {J : Nat → Nat → Int64} {w : Nat → Nat} {n : Nat} (hn : 121 ≤ n) (hn1 : n ≤ 200)  {q0 : Int32 × (Nat → Nat → Int32) × (Nat → Nat → Int64)} (hP : P_X6_left I J = some q0) : ∀ l, qc_M l yX6_left cX6_left 1 (some .int) 6 149 0 0 [.ref 0] (I, J, (rX w, kX, nX, n)) (some (.int q0.1)) (q0.2.1, q0.2.2, (rX w, kX, nX, n)) := by
  intro l
  refine qc_ent2 (by decide) (Nat.le_of_ble_eq_true rfl) ?_
  intro F hn0 cx hz
  have cx : qc_X F cX6_left RX6 "left" 6 0 0 149 := cx
  show qc_J F 0 0 0 [some (.ref 0)] [] (I, J, (rX w, kX, nX, n))
  unfold P_X6_left at hP
  refine qj_aload_n cx dX6_left_0 rfl rfl ?_
  obtain ⟨q1, eq1, hP⟩ := Option.bind_eq_some_iff.mp hP
  refine qj_callV (As := []) (st := []) (t := 0) (h' := (q1.2.1, q1.2.2, (rX w, kX, nX, n))) (r := some (.int q1.1)) cx dX6_left_1 (c_X6_turnDown (I := I) (J := J) (w := w) hn hn1 eq1) gc_RX6_275 qm_X6_turnDown rfl rfl qc_cl6 rfl (Nat.lt_of_lt_of_le (by decide) hn) (by decide) (by decide) rfl (Nat.le_of_ble_eq_true rfl) (Nat.le_trans hn1 (by decide)) hn0 rfl ?_
  refine qj_pop cx dX6_left_4 rfl ?_
  refine qj_aload_n cx dX6_left_5 rfl rfl ?_
  refine qw_getR (j := 6) (t1 := 22) cx dX6_left_6 qc_cl6 rfl (Nat.lt_of_lt_of_le (by decide) hn) rfl ww_336 rfl ?_
  refine qw_getI (j := 2) cx dX6_left_9 qc_cl2 rfl (Nat.lt_of_lt_of_le (by decide) hn) rfl ww_257 ?_
  exact qw_iret cx hz dX6_left_12 (Nat.zero_le _) (Nat.zero_le _) (congrArg (fun q => q.1) (Option.some.inj hP)) (congrArg (fun q => q.2.1) (Option.some.inj hP)) (congrArg (fun q => q.2.2) (Option.some.inj hP))
def P_X6_mended (I : Nat → Nat → Int32) (J : Nat → Nat → Int64) : Option (Int32 × (Nat → Nat → Int32) × (Nat → Nat → Int64)) :=
  (P_X6_findMend I J).bind fun q1 =>
  some (q1.1, q1.2.1, q1.2.2)
set_option maxRecDepth 20000 in
theorem c_X6_mended {I : Nat → Nat → Int32} {J : Nat → Nat → Int64} {w : Nat → Nat} {n : Nat} (hn : 121 ≤ n) (hn1 : n ≤ 200)  {q0 : Int32 × (Nat → Nat → Int32) × (Nat → Nat → Int64)} (hP : P_X6_mended I J = some q0) : ∀ l, qc_M l yX6_mended cX6_mended 1 (some .int) 7 177 0 0 [.ref 0] (I, J, (rX w, kX, nX, n)) (some (.int q0.1)) (q0.2.1, q0.2.2, (rX w, kX, nX, n)) := by
  intro l
  refine qc_ent2 (by decide) (Nat.le_of_ble_eq_true rfl) ?_
  intro F hn0 cx hz
  have cx : qc_X F cX6_mended RX6 "mended" 7 0 0 177 := cx
  show qc_J F 0 0 0 [some (.ref 0)] [] (I, J, (rX w, kX, nX, n))
  unfold P_X6_mended at hP
  refine qj_aload_n cx dX6_mended_0 rfl rfl ?_
  obtain ⟨q1, eq1, hP⟩ := Option.bind_eq_some_iff.mp hP
  refine qj_callV (As := []) (st := []) (t := 0) (h' := (q1.2.1, q1.2.2, (rX w, kX, nX, n))) (r := some (.int q1.1)) cx dX6_mended_1 (c_X6_findMend (I := I) (J := J) (w := w) hn hn1 eq1) gc_RX6_131 qm_X6_findMend rfl rfl qc_cl6 rfl (Nat.lt_of_lt_of_le (by decide) hn) (by decide) (by decide) rfl (Nat.le_of_ble_eq_true rfl) (Nat.le_trans hn1 (by decide)) hn0 rfl ?_
  exact qw_iret cx hz dX6_mended_4 (Nat.zero_le _) (Nat.zero_le _) (congrArg (fun q => q.1) (Option.some.inj hP)) (congrArg (fun q => q.2.1) (Option.some.inj hP)) (congrArg (fun q => q.2.2) (Option.some.inj hP))
def P_X6_grown_65  : Nat → (Nat → Nat → Int32) → (Nat → Nat → Int64) → Int32 → Int32 → Int32 → Option (Int32 × (Nat → Nat → Int32) × (Nat → Nat → Int64))
  | 0, _, _, _, _, _ => none
  | f + 1, I, J, a4, a5, a6 =>
  if a4 < a6 then
  some (a5, I, J)
  else
  if a5 < 0 then
  some (a5, I, J)
  else
  (P_X6_growTrial I J a6 a5).bind fun q3 =>
  qc_let (a6 + (1 : Int32)) fun x4 =>
  P_X6_grown_65 f q3.2.1 q3.2.2 a4 q3.1 x4
def P_X6_grown (I : Nat → Nat → Int32) (J : Nat → Nat → Int64) (a : Int32) (b : Int32) (c : Int32) (d : Int32) : Option (Int32 × (Nat → Nat → Int32) × (Nat → Nat → Int64)) :=
  if a < 0 then
  some ((-1 : Int32), I, J)
  else
  if (7 : Int32) < a then
  some ((-1 : Int32), I, J)
  else
  if b < 0 then
  some ((-1 : Int32), I, J)
  else
  if b ≤ (5 : Int32) then
  (if c < (1 : Int32) then
  some ((-1 : Int32), I, J)
  else
  if (20 : Int32) < c then
  some ((-1 : Int32), I, J)
  else
  if 0 ≤ d then
  (if d < (8 : Int32) then
  (P_X4_beginRow I J 12 a b c).bind fun q13 =>
  P_X6_grown_65 qc_fu q13.1 q13.2 d (0 : Int32) (0 : Int32)
  else
  some ((-2 : Int32), I, J))
  else
  some ((-1 : Int32), I, J))
  else
  some ((-1 : Int32), I, J)
set_option maxRecDepth 20000 in
theorem c_X6_grown {I : Nat → Nat → Int32} {J : Nat → Nat → Int64} {w : Nat → Nat} {n : Nat} (hn : 121 ≤ n) (hn1 : n ≤ 200) {a : Int32} {b : Int32} {c : Int32} {d : Int32} {q0 : Int32 × (Nat → Nat → Int32) × (Nat → Nat → Int64)} (hP : P_X6_grown I J a b c d = some q0) : ∀ l, qc_M l yX6_grown cX6_grown 7 (some .int) 7 172 0 0 [.ref 0, .int a, .int b, .int c, .int d] (I, J, (rX w, kX, nX, n)) (some (.int q0.1)) (q0.2.1, q0.2.2, (rX w, kX, nX, n)) := by
  intro l
  refine qc_ent2 (by decide) (Nat.le_of_ble_eq_true rfl) ?_
  intro F hn0 cx hz
  have cx : qc_X F cX6_grown RX6 "grown" 7 0 0 172 := cx
  have L65 : ∀  (f : Nat) (I : (Nat → Nat → Int32)) (J : (Nat → Nat → Int64)) (a4 : Int32) (a5 : Int32) (a6 : Int32), P_X6_grown_65 f I J a4 a5 a6 = some q0 → qc_J F 0 0 65 [some (.ref 0), none, none, none, some (.int a4), some (.int a5), some (.int a6)] [] (I, J, (rX w, kX, nX, n)) := by
    intro  f
    induction f with
    | zero => intro I J a4 a5 a6 hP; cases hP
    | succ f ih =>
      intro I J a4 a5 a6 hP
      rw [P_X6_grown_65] at hP
      refine qj_iload cx dX6_grown_65 rfl ?_
      refine qj_iload cx dX6_grown_67 rfl ?_
      refine qj_icmp_gt (tgt := 93) cx dX6_grown_69 (by decide) (fun c1 => ?_) (fun c1 => ?_)
      · have hP := qc_ifT hP c1
        refine qj_iload cx dX6_grown_93 rfl ?_
        exact qw_iret cx hz dX6_grown_95 (Nat.zero_le _) (Nat.zero_le _) (congrArg (fun q => q.1) (Option.some.inj hP)) (congrArg (fun q => q.2.1) (Option.some.inj hP)) (congrArg (fun q => q.2.2) (Option.some.inj hP))
      · have hP := qc_ifF hP c1
        refine qj_iload cx dX6_grown_72 rfl ?_
        refine qj_if_lt (tgt := 93) cx dX6_grown_74 (by decide) (fun c2 => ?_) (fun c2 => ?_)
        · have hP := qc_ifT hP c2
          refine qj_iload cx dX6_grown_93 rfl ?_
          exact qw_iret cx hz dX6_grown_95 (Nat.zero_le _) (Nat.zero_le _) (congrArg (fun q => q.1) (Option.some.inj hP)) (congrArg (fun q => q.2.1) (Option.some.inj hP)) (congrArg (fun q => q.2.2) (Option.some.inj hP))
        · have hP := qc_ifF hP c2
          refine qj_aload_n cx dX6_grown_77 rfl rfl ?_
          refine qj_iload cx dX6_grown_78 rfl ?_
          refine qj_iload cx dX6_grown_80 rfl ?_
          obtain ⟨q3, eq3, hP⟩ := Option.bind_eq_some_iff.mp hP
          refine qj_callV (As := [.int a6, .int a5]) (st := []) (t := 0) (h' := (q3.2.1, q3.2.2, (rX w, kX, nX, n))) (r := some (.int q3.1)) cx dX6_grown_82 (c_X6_growTrial (I := I) (J := J) (w := w) hn hn1 eq3) gc_RX6_296 qm_X6_growTrial rfl rfl qc_cl6 rfl (Nat.lt_of_lt_of_le (by decide) hn) (by decide) (by decide) rfl (Nat.le_of_ble_eq_true rfl) (Nat.le_trans hn1 (by decide)) hn0 rfl ?_
          refine qj_istore (ls1 := [some (.ref 0), none, none, none, some (.int a4), some (.int q3.1), some (.int a6)]) cx dX6_grown_85 rfl rfl rfl ?_
          obtain ⟨x4, ex4, hP⟩ := qc_letE hP
          refine qj_iinc (v := x4) (ls1 := [some (.ref 0), none, none, none, some (.int a4), some (.int q3.1), some (.int x4)]) cx dX6_grown_87 rfl (by rw [ex4]; rfl) rfl rfl ?_
          refine qj_goto (tgt := 65) cx dX6_grown_90 (by decide) ?_
          exact ih q3.2.1 q3.2.2 a4 q3.1 x4 hP
  show qc_J F 0 0 0 [some (.ref 0), some (.int a), some (.int b), some (.int c), some (.int d), none, none] [] (I, J, (rX w, kX, nX, n))
  unfold P_X6_grown at hP
  refine qj_iload_n cx dX6_grown_0 rfl rfl ?_
  refine qj_if_lt (tgt := 19) cx dX6_grown_1 (by decide) (fun c5 => ?_) (fun c5 => ?_)
  · have hP := qc_ifT hP c5
    refine qj_iconst (v := (-1 : Int32)) cx dX6_grown_19 (by decide) ?_
    exact qw_iret cx hz dX6_grown_20 (Nat.zero_le _) (Nat.zero_le _) (congrArg (fun q => q.1) (Option.some.inj hP)) (congrArg (fun q => q.2.1) (Option.some.inj hP)) (congrArg (fun q => q.2.2) (Option.some.inj hP))
  · have hP := qc_ifF hP c5
    refine qj_iload_n cx dX6_grown_4 rfl rfl ?_
    refine qj_bipush (v := (7 : Int32)) cx dX6_grown_5 (by decide) ?_
    refine qj_icmp_gt (tgt := 19) cx dX6_grown_7 (by decide) (fun c6 => ?_) (fun c6 => ?_)
    · have hP := qc_ifT hP c6
      refine qj_iconst (v := (-1 : Int32)) cx dX6_grown_19 (by decide) ?_
      exact qw_iret cx hz dX6_grown_20 (Nat.zero_le _) (Nat.zero_le _) (congrArg (fun q => q.1) (Option.some.inj hP)) (congrArg (fun q => q.2.1) (Option.some.inj hP)) (congrArg (fun q => q.2.2) (Option.some.inj hP))
    · have hP := qc_ifF hP c6
      refine qj_iload_n cx dX6_grown_10 rfl rfl ?_
      refine qj_if_lt (tgt := 19) cx dX6_grown_11 (by decide) (fun c7 => ?_) (fun c7 => ?_)
      · have hP := qc_ifT hP c7
        refine qj_iconst (v := (-1 : Int32)) cx dX6_grown_19 (by decide) ?_
        exact qw_iret cx hz dX6_grown_20 (Nat.zero_le _) (Nat.zero_le _) (congrArg (fun q => q.1) (Option.some.inj hP)) (congrArg (fun q => q.2.1) (Option.some.inj hP)) (congrArg (fun q => q.2.2) (Option.some.inj hP))
      · have hP := qc_ifF hP c7
        refine qj_iload_n cx dX6_grown_14 rfl rfl ?_
        refine qj_iconst (v := (5 : Int32)) cx dX6_grown_15 (by decide) ?_
        refine qj_icmp_le (tgt := 21) cx dX6_grown_16 (by decide) (fun c8 => ?_) (fun c8 => ?_)
        · have hP := qc_ifT hP c8
          refine qj_iload_n cx dX6_grown_21 rfl rfl ?_
          refine qj_iconst (v := (1 : Int32)) cx dX6_grown_22 (by decide) ?_
          refine qj_icmp_lt (tgt := 37) cx dX6_grown_23 (by decide) (fun c9 => ?_) (fun c9 => ?_)
          · have hP := qc_ifT hP c9
            refine qj_iconst (v := (-1 : Int32)) cx dX6_grown_37 (by decide) ?_
            exact qw_iret cx hz dX6_grown_38 (Nat.zero_le _) (Nat.zero_le _) (congrArg (fun q => q.1) (Option.some.inj hP)) (congrArg (fun q => q.2.1) (Option.some.inj hP)) (congrArg (fun q => q.2.2) (Option.some.inj hP))
          · have hP := qc_ifF hP c9
            refine qj_iload_n cx dX6_grown_26 rfl rfl ?_
            refine qj_bipush (v := (20 : Int32)) cx dX6_grown_27 (by decide) ?_
            refine qj_icmp_gt (tgt := 37) cx dX6_grown_29 (by decide) (fun c10 => ?_) (fun c10 => ?_)
            · have hP := qc_ifT hP c10
              refine qj_iconst (v := (-1 : Int32)) cx dX6_grown_37 (by decide) ?_
              exact qw_iret cx hz dX6_grown_38 (Nat.zero_le _) (Nat.zero_le _) (congrArg (fun q => q.1) (Option.some.inj hP)) (congrArg (fun q => q.2.1) (Option.some.inj hP)) (congrArg (fun q => q.2.2) (Option.some.inj hP))
            · have hP := qc_ifF hP c10
              refine qj_iload cx dX6_grown_32 rfl ?_
              refine qj_if_ge (tgt := 39) cx dX6_grown_34 (by decide) (fun c11 => ?_) (fun c11 => ?_)
              · have hP := qc_ifT hP c11
                refine qj_iload cx dX6_grown_39 rfl ?_
                refine qj_bipush (v := (8 : Int32)) cx dX6_grown_41 (by decide) ?_
                refine qj_icmp_lt (tgt := 49) cx dX6_grown_43 (by decide) (fun c12 => ?_) (fun c12 => ?_)
                · have hP := qc_ifT hP c12
                  refine qj_aload_n cx dX6_grown_49 rfl rfl ?_
                  refine qw_getR (j := 5) (t1 := 12) cx dX6_grown_50 qc_cl6 rfl (Nat.lt_of_lt_of_le (by decide) hn) rfl ww_335 rfl ?_
                  refine qj_iload_n cx dX6_grown_53 rfl rfl ?_
                  refine qj_iload_n cx dX6_grown_54 rfl rfl ?_
                  refine qj_iload_n cx dX6_grown_55 rfl rfl ?_
                  obtain ⟨q13, eq13, hP⟩ := Option.bind_eq_some_iff.mp hP
                  refine qj_callV (As := [.int a, .int b, .int c]) (st := []) (t := 12) (h' := (q13.1, q13.2, (rX w, kX, nX, n))) (r := none) cx dX6_grown_56 (c_X4_beginRow (I := I) (J := J) (w := w) hn hn1 (qc_sc12 hn) eq13) gc_RX6_292 qm_X4_beginRow rfl rfl qc_cl4 rfl (Nat.lt_of_lt_of_le (by decide) hn) (by decide) (by decide) rfl (Nat.le_of_ble_eq_true rfl) (Nat.le_trans hn1 (by decide)) hn0 rfl ?_
                  refine qj_iconst (v := (0 : Int32)) cx dX6_grown_59 (by decide) ?_
                  refine qj_istore (ls1 := [some (.ref 0), some (.int a), some (.int b), some (.int c), some (.int d), some (.int (0 : Int32)), none]) cx dX6_grown_60 rfl rfl rfl ?_
                  refine qj_iconst (v := (0 : Int32)) cx dX6_grown_62 (by decide) ?_
                  refine qj_istore (ls1 := [some (.ref 0), some (.int a), some (.int b), some (.int c), some (.int d), some (.int (0 : Int32)), some (.int (0 : Int32))]) cx dX6_grown_63 rfl rfl rfl ?_
                  refine qw_sub (ls1 := [some (.ref 0), none, none, none, some (.int d), some (.int (0 : Int32)), some (.int (0 : Int32))]) rfl (qc_sb_ok ⟨rfl, rfl, rfl, rfl, trivial⟩) ?_
                  exact L65 qc_fu q13.1 q13.2 d (0 : Int32) (0 : Int32) hP
                · have hP := qc_ifF hP c12
                  refine qj_bipush (v := (-2 : Int32)) cx dX6_grown_46 (by decide) ?_
                  exact qw_iret cx hz dX6_grown_48 (Nat.zero_le _) (Nat.zero_le _) (congrArg (fun q => q.1) (Option.some.inj hP)) (congrArg (fun q => q.2.1) (Option.some.inj hP)) (congrArg (fun q => q.2.2) (Option.some.inj hP))
              · have hP := qc_ifF hP c11
                refine qj_iconst (v := (-1 : Int32)) cx dX6_grown_37 (by decide) ?_
                exact qw_iret cx hz dX6_grown_38 (Nat.zero_le _) (Nat.zero_le _) (congrArg (fun q => q.1) (Option.some.inj hP)) (congrArg (fun q => q.2.1) (Option.some.inj hP)) (congrArg (fun q => q.2.2) (Option.some.inj hP))
        · have hP := qc_ifF hP c8
          refine qj_iconst (v := (-1 : Int32)) cx dX6_grown_19 (by decide) ?_
          exact qw_iret cx hz dX6_grown_20 (Nat.zero_le _) (Nat.zero_le _) (congrArg (fun q => q.1) (Option.some.inj hP)) (congrArg (fun q => q.2.1) (Option.some.inj hP)) (congrArg (fun q => q.2.2) (Option.some.inj hP))
def P_X6_chance_62  : Nat → (Nat → Nat → Int32) → (Nat → Nat → Int64) → Int32 → Int32 → Int32 → Int32 → Int32 → Option (Int32 × (Nat → Nat → Int32) × (Nat → Nat → Int64))
  | 0, _, _, _, _, _, _, _ => none
  | f + 1, I, J, a2, a3, a4, a5, a6 =>
  if a2 ≤ a6 then
  (if a3 = 0 then
  (P_X4_tunedUsers I 12).bind fun q7 =>
  (P_J6_bitCount_0f7a4 q7).bind fun q8 =>
  some (q8, I, J)
  else
  if a3 = (1 : Int32) then
  some (a5, I, J)
  else
  (P_X2_allClean I J 12).bind fun q4 =>
  (if q4.1 = 0 then
  some (0 : Int32)
  else
  some (1 : Int32)).bind fun v6 =>
  some (v6, q4.2.1, q4.2.2))
  else
  qc_let (((a4 * (1103515245 : Int32)) + (12345 : Int32)) &&& (2147483647 : Int32)) fun x9 =>
  if (if (1 : Int32) < I 12 1 then I 12 1 else (1 : Int32)) = 0 then none else
  (P_X6_loseOnTrial I J (((x9 >>> ((16 : Int32) &&& 31)) - (x9 >>> ((16 : Int32) &&& 31)) / (if (1 : Int32) < I 12 1 then I 12 1 else (1 : Int32)) * (if (1 : Int32) < I 12 1 then I 12 1 else (1 : Int32))) + (1 : Int32))).bind fun q11 =>
  qc_let (a5 + q11.1) fun x12 =>
  qc_let (a6 + (1 : Int32)) fun x13 =>
  P_X6_chance_62 f q11.2.1 q11.2.2 a2 a3 x9 x12 x13
def P_X6_chance (I : Nat → Nat → Int32) (J : Nat → Nat → Int64) (a : Int32) (b : Int32) (c : Int32) : Option (Int32 × (Nat → Nat → Int32) × (Nat → Nat → Int64)) :=
  if a < (-1 : Int32) then
  some ((-1 : Int32), I, J)
  else
  if b < (1 : Int32) then
  some ((-1 : Int32), I, J)
  else
  if (20 : Int32) < b then
  some ((-1 : Int32), I, J)
  else
  if c < 0 then
  some ((-1 : Int32), I, J)
  else
  if c ≤ (2 : Int32) then
  (P_X4_copyFrom I J 12 2).bind fun q19 =>
  (if a = (-1 : Int32) then
  some (q19.1 2 5)
  else
  some a).bind fun v21 =>
  P_X6_chance_62 qc_fu q19.1 q19.2 b c v21 (0 : Int32) (0 : Int32)
  else
  some ((-1 : Int32), I, J)
set_option maxRecDepth 20000 in
theorem c_X6_chance {I : Nat → Nat → Int32} {J : Nat → Nat → Int64} {w : Nat → Nat} {n : Nat} (hn : 121 ≤ n) (hn1 : n ≤ 200) {a : Int32} {b : Int32} {c : Int32} {q0 : Int32 × (Nat → Nat → Int32) × (Nat → Nat → Int64)} (hP : P_X6_chance I J a b c = some q0) : ∀ l, qc_M l yX6_chance cX6_chance 7 (some .int) 7 177 0 0 [.ref 0, .int a, .int b, .int c] (I, J, (rX w, kX, nX, n)) (some (.int q0.1)) (q0.2.1, q0.2.2, (rX w, kX, nX, n)) := by
  intro l
  refine qc_ent2 (by decide) (Nat.le_of_ble_eq_true rfl) ?_
  intro F hn0 cx hz
  have cx : qc_X F cX6_chance RX6 "chance" 7 0 0 177 := cx
  have L62 : ∀  (f : Nat) (I : (Nat → Nat → Int32)) (J : (Nat → Nat → Int64)) (a2 : Int32) (a3 : Int32) (a4 : Int32) (a5 : Int32) (a6 : Int32), P_X6_chance_62 f I J a2 a3 a4 a5 a6 = some q0 → qc_J F 0 0 62 [some (.ref 0), none, some (.int a2), some (.int a3), some (.int a4), some (.int a5), some (.int a6)] [] (I, J, (rX w, kX, nX, n)) := by
    intro  f
    induction f with
    | zero => intro I J a2 a3 a4 a5 a6 hP; cases hP
    | succ f ih =>
      intro I J a2 a3 a4 a5 a6 hP
      rw [P_X6_chance_62] at hP
      refine qj_iload cx dX6_chance_62 rfl ?_
      refine qj_iload_n cx dX6_chance_64 rfl rfl ?_
      refine qj_icmp_ge (tgt := 118) cx dX6_chance_65 (by decide) (fun c1 => ?_) (fun c1 => ?_)
      · have hP := qc_ifT hP c1
        refine qj_iload_n cx dX6_chance_118 rfl rfl ?_
        refine qj_if_ne (tgt := 133) cx dX6_chance_119 (by decide) (fun c2 => ?_) (fun c2 => ?_)
        · have hP := qc_ifF hP c2
          refine qj_iload_n cx dX6_chance_133 rfl rfl ?_
          refine qj_iconst (v := (1 : Int32)) cx dX6_chance_134 (by decide) ?_
          refine qj_icmp_ne (tgt := 141) cx dX6_chance_135 (by decide) (fun c3 => ?_) (fun c3 => ?_)
          · have hP := qc_ifF hP c3
            refine qj_aload_n cx dX6_chance_141 rfl rfl ?_
            refine qw_getR (j := 6) (t1 := 22) cx dX6_chance_142 qc_cl6 rfl (Nat.lt_of_lt_of_le (by decide) hn) rfl ww_336 rfl ?_
            refine qj_aload_n cx dX6_chance_145 rfl rfl ?_
            refine qw_getR (j := 5) (t1 := 12) cx dX6_chance_146 qc_cl6 rfl (Nat.lt_of_lt_of_le (by decide) hn) rfl ww_335 rfl ?_
            obtain ⟨q4, eq4, hP⟩ := Option.bind_eq_some_iff.mp hP
            refine qj_callV (As := [.ref 12]) (st := []) (t := 22) (h' := (q4.2.1, q4.2.2, (rX w, kX, nX, n))) (r := some (.int q4.1)) cx dX6_chance_149 (c_X2_allClean (I := I) (J := J) (w := w) hn hn1 (qc_sc12 hn) eq4) gc_RX6_251 qm_X2_allClean rfl rfl qc_cl2 rfl (Nat.lt_of_lt_of_le (by decide) hn) (by decide) (by decide) rfl (Nat.le_of_ble_eq_true rfl) (Nat.le_trans hn1 (by decide)) hn0 rfl ?_
            obtain ⟨v6, hv6, hP⟩ := Option.bind_eq_some_iff.mp hP
            have Kv6 : qc_J F 0 0 160 [some (.ref 0), none, some (.int a2), some (.int a3), some (.int a4), some (.int a5), some (.int a6)] [.int v6] (q4.2.1, q4.2.2, (rX w, kX, nX, n)) := by
              exact qw_iret cx hz dX6_chance_160 (Nat.zero_le _) (Nat.zero_le _) (congrArg (fun q => q.1) (Option.some.inj hP)) (congrArg (fun q => q.2.1) (Option.some.inj hP)) (congrArg (fun q => q.2.2) (Option.some.inj hP))
            refine qj_if_eq (tgt := 159) cx dX6_chance_152 (by decide) (fun c5 => ?_) (fun c5 => ?_)
            · have hv6 := qc_ifT hv6 c5
              refine qj_iconst (v := (0 : Int32)) cx dX6_chance_159 (by decide) ?_
              exact qw_top (Option.some.inj hv6).symm Kv6
            · have hv6 := qc_ifF hv6 c5
              refine qj_iconst (v := (1 : Int32)) cx dX6_chance_155 (by decide) ?_
              refine qj_goto (tgt := 160) cx dX6_chance_156 (by decide) ?_
              exact qw_top (Option.some.inj hv6).symm Kv6
          · have hP := qc_ifT hP c3
            refine qj_iload cx dX6_chance_138 rfl ?_
            exact qw_iret cx hz dX6_chance_140 (Nat.zero_le _) (Nat.zero_le _) (congrArg (fun q => q.1) (Option.some.inj hP)) (congrArg (fun q => q.2.1) (Option.some.inj hP)) (congrArg (fun q => q.2.2) (Option.some.inj hP))
        · have hP := qc_ifT hP c2
          refine qj_aload_n cx dX6_chance_122 rfl rfl ?_
          refine qw_getR (j := 5) (t1 := 12) cx dX6_chance_123 qc_cl6 rfl (Nat.lt_of_lt_of_le (by decide) hn) rfl ww_335 rfl ?_
          obtain ⟨q7, eq7, hP⟩ := Option.bind_eq_some_iff.mp hP
          refine qj_callV (As := []) (st := []) (t := 12) (h' := (I, J, (rX w, kX, nX, n))) (r := some (.int q7)) cx dX6_chance_126 (c_X4_tunedUsers (I := I) (J := J) (w := w) hn hn1 (qc_sc12 hn) eq7) gc_RX6_144 qm_X4_tunedUsers rfl rfl qc_cl4 rfl (Nat.lt_of_lt_of_le (by decide) hn) (by decide) (by decide) rfl (Nat.le_of_ble_eq_true rfl) (Nat.le_trans hn1 (by decide)) hn0 rfl ?_
          obtain ⟨q8, eq8, hP⟩ := Option.bind_eq_some_iff.mp hP
          refine qj_callS (As := [.int q7]) (st := []) (h' := (I, J, (rX w, kX, nX, n))) (r := some (.int q8)) cx dX6_chance_129 (c_J6_bitCount_0f7a4 (S := (rX w, kX, nX, n)) (I := I) (J := J) eq8) gc_RX6_147 qm_J6_bitCount_0f7a4 rfl (by decide) (by decide) rfl (Nat.le_of_ble_eq_true rfl) (Nat.le_trans hn1 (by decide)) hn0 rfl ?_
          exact qw_iret cx hz dX6_chance_132 (Nat.zero_le _) (Nat.zero_le _) (congrArg (fun q => q.1) (Option.some.inj hP)) (congrArg (fun q => q.2.1) (Option.some.inj hP)) (congrArg (fun q => q.2.2) (Option.some.inj hP))
      · have hP := qc_ifF hP c1
        refine qj_iload cx dX6_chance_68 rfl ?_
        refine qj_ldcw cx dX6_chance_70 ww_959 ?_
        refine qj_imul cx dX6_chance_73 ?_
        refine qj_sipush (v := (12345 : Int32)) cx dX6_chance_74 (by decide) ?_
        refine qj_iadd cx dX6_chance_77 ?_
        refine qj_ldcw cx dX6_chance_78 ww_960 ?_
        refine qj_iand cx dX6_chance_81 ?_
        obtain ⟨x9, ex9, hP⟩ := qc_letE hP
        refine qw_top ex9 ?_
        refine qj_istore (ls1 := [some (.ref 0), none, some (.int a2), some (.int a3), some (.int x9), some (.int a5), some (.int a6)]) cx dX6_chance_82 rfl rfl rfl ?_
        refine qj_iload cx dX6_chance_84 rfl ?_
        refine qj_aload_n cx dX6_chance_86 rfl rfl ?_
        refine qj_iload cx dX6_chance_87 rfl ?_
        refine qj_bipush (v := (16 : Int32)) cx dX6_chance_89 (by decide) ?_
        refine qj_ishr cx dX6_chance_91 ?_
        refine qj_iconst (v := (1 : Int32)) cx dX6_chance_92 (by decide) ?_
        refine qj_aload_n cx dX6_chance_93 rfl rfl ?_
        refine qw_getR (j := 5) (t1 := 12) cx dX6_chance_94 qc_cl6 rfl (Nat.lt_of_lt_of_le (by decide) hn) rfl ww_335 rfl ?_
        refine qw_getI (j := 1) cx dX6_chance_97 qc_cl4 rfl (Nat.lt_of_lt_of_le (by decide) hn) rfl ww_155 ?_
        refine qj_max cx dX6_chance_100 ww_937 ww_630 ww_125 ww_631 (by decide) (Nat.le_of_ble_eq_true rfl) (Nat.zero_le _) (Nat.zero_le _) ?_
        by_cases c10 : (if (1 : Int32) < I 12 1 then I 12 1 else (1 : Int32)) = 0
        · have hP := qc_ifT hP c10; cases hP
        have hP := qc_ifF hP c10
        refine qj_irem cx dX6_chance_103 c10 ?_
        refine qj_iconst (v := (1 : Int32)) cx dX6_chance_104 (by decide) ?_
        refine qj_iadd cx dX6_chance_105 ?_
        obtain ⟨q11, eq11, hP⟩ := Option.bind_eq_some_iff.mp hP
        refine qj_callV (As := [.int (((x9 >>> ((16 : Int32) &&& 31)) - (x9 >>> ((16 : Int32) &&& 31)) / (if (1 : Int32) < I 12 1 then I 12 1 else (1 : Int32)) * (if (1 : Int32) < I 12 1 then I 12 1 else (1 : Int32))) + (1 : Int32))]) (st := [.int a5]) (t := 0) (h' := (q11.2.1, q11.2.2, (rX w, kX, nX, n))) (r := some (.int q11.1)) cx dX6_chance_106 (c_X6_loseOnTrial (I := I) (J := J) (w := w) hn hn1 eq11) gc_RX6_304 qm_X6_loseOnTrial rfl rfl qc_cl6 rfl (Nat.lt_of_lt_of_le (by decide) hn) (by decide) (by decide) rfl (Nat.le_of_ble_eq_true rfl) (Nat.le_trans hn1 (by decide)) hn0 rfl ?_
        refine qj_iadd cx dX6_chance_109 ?_
        obtain ⟨x12, ex12, hP⟩ := qc_letE hP
        refine qw_top ex12 ?_
        refine qj_istore (ls1 := [some (.ref 0), none, some (.int a2), some (.int a3), some (.int x9), some (.int x12), some (.int a6)]) cx dX6_chance_110 rfl rfl rfl ?_
        obtain ⟨x13, ex13, hP⟩ := qc_letE hP
        refine qj_iinc (v := x13) (ls1 := [some (.ref 0), none, some (.int a2), some (.int a3), some (.int x9), some (.int x12), some (.int x13)]) cx dX6_chance_112 rfl (by rw [ex13]; rfl) rfl rfl ?_
        refine qj_goto (tgt := 62) cx dX6_chance_115 (by decide) ?_
        exact ih q11.2.1 q11.2.2 a2 a3 x9 x12 x13 hP
  show qc_J F 0 0 0 [some (.ref 0), some (.int a), some (.int b), some (.int c), none, none, none] [] (I, J, (rX w, kX, nX, n))
  unfold P_X6_chance at hP
  refine qj_iload_n cx dX6_chance_0 rfl rfl ?_
  refine qj_iconst (v := (-1 : Int32)) cx dX6_chance_1 (by decide) ?_
  refine qj_icmp_lt (tgt := 25) cx dX6_chance_2 (by decide) (fun c14 => ?_) (fun c14 => ?_)
  · have hP := qc_ifT hP c14
    refine qj_iconst (v := (-1 : Int32)) cx dX6_chance_25 (by decide) ?_
    exact qw_iret cx hz dX6_chance_26 (Nat.zero_le _) (Nat.zero_le _) (congrArg (fun q => q.1) (Option.some.inj hP)) (congrArg (fun q => q.2.1) (Option.some.inj hP)) (congrArg (fun q => q.2.2) (Option.some.inj hP))
  · have hP := qc_ifF hP c14
    refine qj_iload_n cx dX6_chance_5 rfl rfl ?_
    refine qj_iconst (v := (1 : Int32)) cx dX6_chance_6 (by decide) ?_
    refine qj_icmp_lt (tgt := 25) cx dX6_chance_7 (by decide) (fun c15 => ?_) (fun c15 => ?_)
    · have hP := qc_ifT hP c15
      refine qj_iconst (v := (-1 : Int32)) cx dX6_chance_25 (by decide) ?_
      exact qw_iret cx hz dX6_chance_26 (Nat.zero_le _) (Nat.zero_le _) (congrArg (fun q => q.1) (Option.some.inj hP)) (congrArg (fun q => q.2.1) (Option.some.inj hP)) (congrArg (fun q => q.2.2) (Option.some.inj hP))
    · have hP := qc_ifF hP c15
      refine qj_iload_n cx dX6_chance_10 rfl rfl ?_
      refine qj_bipush (v := (20 : Int32)) cx dX6_chance_11 (by decide) ?_
      refine qj_icmp_gt (tgt := 25) cx dX6_chance_13 (by decide) (fun c16 => ?_) (fun c16 => ?_)
      · have hP := qc_ifT hP c16
        refine qj_iconst (v := (-1 : Int32)) cx dX6_chance_25 (by decide) ?_
        exact qw_iret cx hz dX6_chance_26 (Nat.zero_le _) (Nat.zero_le _) (congrArg (fun q => q.1) (Option.some.inj hP)) (congrArg (fun q => q.2.1) (Option.some.inj hP)) (congrArg (fun q => q.2.2) (Option.some.inj hP))
      · have hP := qc_ifF hP c16
        refine qj_iload_n cx dX6_chance_16 rfl rfl ?_
        refine qj_if_lt (tgt := 25) cx dX6_chance_17 (by decide) (fun c17 => ?_) (fun c17 => ?_)
        · have hP := qc_ifT hP c17
          refine qj_iconst (v := (-1 : Int32)) cx dX6_chance_25 (by decide) ?_
          exact qw_iret cx hz dX6_chance_26 (Nat.zero_le _) (Nat.zero_le _) (congrArg (fun q => q.1) (Option.some.inj hP)) (congrArg (fun q => q.2.1) (Option.some.inj hP)) (congrArg (fun q => q.2.2) (Option.some.inj hP))
        · have hP := qc_ifF hP c17
          refine qj_iload_n cx dX6_chance_20 rfl rfl ?_
          refine qj_iconst (v := (2 : Int32)) cx dX6_chance_21 (by decide) ?_
          refine qj_icmp_le (tgt := 27) cx dX6_chance_22 (by decide) (fun c18 => ?_) (fun c18 => ?_)
          · have hP := qc_ifT hP c18
            refine qj_aload_n cx dX6_chance_27 rfl rfl ?_
            refine qw_getR (j := 5) (t1 := 12) cx dX6_chance_28 qc_cl6 rfl (Nat.lt_of_lt_of_le (by decide) hn) rfl ww_335 rfl ?_
            refine qj_aload_n cx dX6_chance_31 rfl rfl ?_
            refine qw_getR (j := 4) (t1 := 2) cx dX6_chance_32 qc_cl6 rfl (Nat.lt_of_lt_of_le (by decide) hn) rfl ww_334 rfl ?_
            obtain ⟨q19, eq19, hP⟩ := Option.bind_eq_some_iff.mp hP
            refine qj_callV (As := [.ref 2]) (st := []) (t := 12) (h' := (q19.1, q19.2, (rX w, kX, nX, n))) (r := none) cx dX6_chance_35 (c_X4_copyFrom (I := I) (J := J) (w := w) hn hn1 (qc_sc12 hn) (qc_sc2 hn) eq19) gc_RX6_248 qm_X4_copyFrom rfl rfl qc_cl4 rfl (Nat.lt_of_lt_of_le (by decide) hn) (by decide) (by decide) rfl (Nat.le_of_ble_eq_true rfl) (Nat.le_trans hn1 (by decide)) hn0 rfl ?_
            refine qj_iload_n cx dX6_chance_38 rfl rfl ?_
            refine qj_iconst (v := (-1 : Int32)) cx dX6_chance_39 (by decide) ?_
            obtain ⟨v21, hv21, hP⟩ := Option.bind_eq_some_iff.mp hP
            have Kv21 : qc_J F 0 0 54 [some (.ref 0), some (.int a), some (.int b), some (.int c), none, none, none] [.int v21] (q19.1, q19.2, (rX w, kX, nX, n)) := by
              refine qj_istore (ls1 := [some (.ref 0), some (.int a), some (.int b), some (.int c), some (.int v21), none, none]) cx dX6_chance_54 rfl rfl rfl ?_
              refine qj_iconst (v := (0 : Int32)) cx dX6_chance_56 (by decide) ?_
              refine qj_istore (ls1 := [some (.ref 0), some (.int a), some (.int b), some (.int c), some (.int v21), some (.int (0 : Int32)), none]) cx dX6_chance_57 rfl rfl rfl ?_
              refine qj_iconst (v := (0 : Int32)) cx dX6_chance_59 (by decide) ?_
              refine qj_istore (ls1 := [some (.ref 0), some (.int a), some (.int b), some (.int c), some (.int v21), some (.int (0 : Int32)), some (.int (0 : Int32))]) cx dX6_chance_60 rfl rfl rfl ?_
              refine qw_sub (ls1 := [some (.ref 0), none, some (.int b), some (.int c), some (.int v21), some (.int (0 : Int32)), some (.int (0 : Int32))]) rfl (qc_sb_ok ⟨rfl, rfl, rfl, rfl, rfl, rfl, trivial⟩) ?_
              exact L62 qc_fu q19.1 q19.2 b c v21 (0 : Int32) (0 : Int32) hP
            refine qj_icmp_ne (tgt := 53) cx dX6_chance_40 (by decide) (fun c20 => ?_) (fun c20 => ?_)
            · have hv21 := qc_ifF hv21 c20
              refine qj_iload_n cx dX6_chance_53 rfl rfl ?_
              exact qw_top (Option.some.inj hv21).symm Kv21
            · have hv21 := qc_ifT hv21 c20
              refine qj_aload_n cx dX6_chance_43 rfl rfl ?_
              refine qw_getR (j := 4) (t1 := 2) cx dX6_chance_44 qc_cl6 rfl (Nat.lt_of_lt_of_le (by decide) hn) rfl ww_334 rfl ?_
              refine qw_getI (j := 5) cx dX6_chance_47 qc_cl4 rfl (Nat.lt_of_lt_of_le (by decide) hn) rfl ww_168 ?_
              refine qj_goto (tgt := 54) cx dX6_chance_50 (by decide) ?_
              exact qw_top (Option.some.inj hv21).symm Kv21
          · have hP := qc_ifF hP c18
            refine qj_iconst (v := (-1 : Int32)) cx dX6_chance_25 (by decide) ?_
            exact qw_iret cx hz dX6_chance_26 (Nat.zero_le _) (Nat.zero_le _) (congrArg (fun q => q.1) (Option.some.inj hP)) (congrArg (fun q => q.2.1) (Option.some.inj hP)) (congrArg (fun q => q.2.2) (Option.some.inj hP))
