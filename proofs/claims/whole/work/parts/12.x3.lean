def P_X6_tune_28  (I : (Nat → Nat → Int32)) (J : (Nat → Nat → Int64)) (w : (Nat → Nat)) (a1 : Int32) (a2 : Int32) : Option (Int32 × (Nat → Nat → Int32) × (Nat → Nat → Int64) × (Nat → Nat)) :=
  (P_X0_push I J w 2).bind fun q1 =>
  if qc_in a1 8 then
  qc_let (q1.1 9 a1.toNatClampNeg) fun x3 =>
  if qc_in a1 8 then
  qc_let (qc_u2 q1.1 9 a1.toNatClampNeg a2) fun I4 =>
  some (x3, I4, q1.2.1, q1.2.2)
  else none
  else none
def P_X6_tune (I : Nat → Nat → Int32) (J : Nat → Nat → Int64) (w : Nat → Nat) (a : Int32) (b : Int32) : Option (Int32 × (Nat → Nat → Int32) × (Nat → Nat → Int64) × (Nat → Nat)) :=
  (P_X4_isUser I 2 a).bind fun q7 =>
  if q7 = 0 then
  some ((-1 : Int32), I, J, w)
  else
  if b = 0 then
  P_X6_tune_28 I J w a b
  else
  (P_X4_isChannel I 2 b).bind fun q11 =>
  if q11 = 0 then
  some ((-1 : Int32), I, J, w)
  else
  P_X6_tune_28 I J w a b
set_option maxRecDepth 20000 in
theorem c_X6_tune {I : Nat → Nat → Int32} {J : Nat → Nat → Int64} {w : Nat → Nat} {n : Nat} (hn : 121 ≤ n) (hn1 : n ≤ 200) {a : Int32} {b : Int32} {q0 : Int32 × (Nat → Nat → Int32) × (Nat → Nat → Int64) × (Nat → Nat)} (hP : P_X6_tune I J w a b = some q0) : ∀ l, qc_M l yX6_tune cX6_tune 4 (some .int) 3 68 0 0 [.ref 0, .int a, .int b] (I, J, (rX w, kX, nX, n)) (some (.int q0.1)) (q0.2.1, q0.2.2.1, (rX q0.2.2.2, kX, nX, n)) := by
  intro l
  refine qc_ent2 (by decide) (Nat.le_of_ble_eq_true rfl) ?_
  intro F hn0 cx hz
  have cx : qc_X F cX6_tune RX6 "tune" 3 0 0 68 := cx
  have L28 : ∀  (I : (Nat → Nat → Int32)) (J : (Nat → Nat → Int64)) (w : (Nat → Nat)) (a1 : Int32) (a2 : Int32), P_X6_tune_28 I J w a1 a2 = some q0 → qc_J F 0 0 28 [some (.ref 0), some (.int a1), some (.int a2), none] [] (I, J, (rX w, kX, nX, n)) := by
    intro I J w a1 a2 hP
    unfold P_X6_tune_28 at hP
    refine qj_aload_n cx dX6_tune_28 rfl rfl ?_
    refine qw_getR (j := 8) (t1 := 35) cx dX6_tune_29 qc_cl6 rfl (Nat.lt_of_lt_of_le (by decide) hn) rfl ww_338 rfl ?_
    refine qj_aload_n cx dX6_tune_32 rfl rfl ?_
    refine qw_getR (j := 4) (t1 := 2) cx dX6_tune_33 qc_cl6 rfl (Nat.lt_of_lt_of_le (by decide) hn) rfl ww_334 rfl ?_
    obtain ⟨q1, eq1, hP⟩ := Option.bind_eq_some_iff.mp hP
    refine qj_callV (As := [.ref 2]) (st := []) (t := 35) (h' := (q1.1, q1.2.1, (rX q1.2.2, kX, nX, n))) (r := none) cx dX6_tune_36 (c_X0_push (I := I) (J := J) (w := w) hn hn1 (qc_sc2 hn) eq1) gc_RX6_101 qm_X0_push rfl rfl qc_cl0 rfl (Nat.lt_of_lt_of_le (by decide) hn) (by decide) (by decide) rfl (Nat.le_of_ble_eq_true rfl) (Nat.le_trans hn1 (by decide)) hn0 rfl ?_
    refine qj_aload_n cx dX6_tune_39 rfl rfl ?_
    refine qw_getR (j := 4) (t1 := 2) cx dX6_tune_40 qc_cl6 rfl (Nat.lt_of_lt_of_le (by decide) hn) rfl ww_334 rfl ?_
    refine qw_getR (j := 13) (t1 := 9) cx dX6_tune_43 qc_cl4 rfl (Nat.lt_of_lt_of_le (by decide) hn) rfl ww_198 rfl ?_
    refine qj_iload_n cx dX6_tune_46 rfl rfl ?_
    obtain ⟨c2, hP⟩ := qc_ck hP
    refine qw_iald (n1 := 8) cx dX6_tune_47 rfl (Nat.lt_of_lt_of_le (by decide) hn) rfl c2 ?_
    obtain ⟨x3, ex3, hP⟩ := qc_letE hP
    refine qw_top ex3 ?_
    refine qj_istore_n (ls1 := [some (.ref 0), some (.int a1), some (.int a2), some (.int x3)]) cx dX6_tune_48 rfl rfl rfl rfl ?_
    refine qj_aload_n cx dX6_tune_49 rfl rfl ?_
    refine qw_getR (j := 4) (t1 := 2) cx dX6_tune_50 qc_cl6 rfl (Nat.lt_of_lt_of_le (by decide) hn) rfl ww_334 rfl ?_
    refine qw_getR (j := 13) (t1 := 9) cx dX6_tune_53 qc_cl4 rfl (Nat.lt_of_lt_of_le (by decide) hn) rfl ww_198 rfl ?_
    refine qj_iload_n cx dX6_tune_56 rfl rfl ?_
    refine qj_iload_n cx dX6_tune_57 rfl rfl ?_
    obtain ⟨c6, hP⟩ := qc_ck hP
    obtain ⟨I4, eI4, hP⟩ := qc_letE hP
    refine qw_iast (n1 := 8) cx dX6_tune_58 rfl (Nat.lt_of_lt_of_le (by decide) hn) rfl c6 eI4 ?_
    refine qj_iload_n cx dX6_tune_59 rfl rfl ?_
    have hz := qc_Zw (congrArg (fun q => q.2.2.2) (Option.some.inj hP)) hz
    exact qw_iret cx hz dX6_tune_60 (Nat.zero_le _) (Nat.zero_le _) (congrArg (fun q => q.1) (Option.some.inj hP)) (congrArg (fun q => q.2.1) (Option.some.inj hP)) (congrArg (fun q => q.2.2.1) (Option.some.inj hP))
  show qc_J F 0 0 0 [some (.ref 0), some (.int a), some (.int b), none] [] (I, J, (rX w, kX, nX, n))
  unfold P_X6_tune at hP
  refine qj_aload_n cx dX6_tune_0 rfl rfl ?_
  refine qw_getR (j := 4) (t1 := 2) cx dX6_tune_1 qc_cl6 rfl (Nat.lt_of_lt_of_le (by decide) hn) rfl ww_334 rfl ?_
  refine qj_iload_n cx dX6_tune_4 rfl rfl ?_
  obtain ⟨q7, eq7, hP⟩ := Option.bind_eq_some_iff.mp hP
  refine qj_callV (As := [.int a]) (st := []) (t := 2) (h' := (I, J, (rX w, kX, nX, n))) (r := some (.int q7)) cx dX6_tune_5 (c_X4_isUser (I := I) (J := J) (w := w) hn hn1 (qc_sc2 hn) eq7) gc_RX6_94 qm_X4_isUser rfl rfl qc_cl4 rfl (Nat.lt_of_lt_of_le (by decide) hn) (by decide) (by decide) rfl (Nat.le_of_ble_eq_true rfl) (Nat.le_trans hn1 (by decide)) hn0 rfl ?_
  refine qj_if_eq (tgt := 26) cx dX6_tune_8 (by decide) (fun c8 => ?_) (fun c8 => ?_)
  · have hP := qc_ifT hP c8
    refine qj_iconst (v := (-1 : Int32)) cx dX6_tune_26 (by decide) ?_
    have hz := qc_Zw (congrArg (fun q => q.2.2.2) (Option.some.inj hP)) hz
    exact qw_iret cx hz dX6_tune_27 (Nat.zero_le _) (Nat.zero_le _) (congrArg (fun q => q.1) (Option.some.inj hP)) (congrArg (fun q => q.2.1) (Option.some.inj hP)) (congrArg (fun q => q.2.2.1) (Option.some.inj hP))
  · have hP := qc_ifF hP c8
    refine qj_iload_n cx dX6_tune_11 rfl rfl ?_
    refine qj_if_eq (tgt := 28) cx dX6_tune_12 (by decide) (fun c10 => ?_) (fun c10 => ?_)
    · have hP := qc_ifT hP c10
      exact L28 I J w a b hP
    · have hP := qc_ifF hP c10
      refine qj_aload_n cx dX6_tune_15 rfl rfl ?_
      refine qw_getR (j := 4) (t1 := 2) cx dX6_tune_16 qc_cl6 rfl (Nat.lt_of_lt_of_le (by decide) hn) rfl ww_334 rfl ?_
      refine qj_iload_n cx dX6_tune_19 rfl rfl ?_
      obtain ⟨q11, eq11, hP⟩ := Option.bind_eq_some_iff.mp hP
      refine qj_callV (As := [.int b]) (st := []) (t := 2) (h' := (I, J, (rX w, kX, nX, n))) (r := some (.int q11)) cx dX6_tune_20 (c_X4_isChannel (I := I) (J := J) (w := w) hn hn1 (qc_sc2 hn) eq11) gc_RX6_98 qm_X4_isChannel rfl rfl qc_cl4 rfl (Nat.lt_of_lt_of_le (by decide) hn) (by decide) (by decide) rfl (Nat.le_of_ble_eq_true rfl) (Nat.le_trans hn1 (by decide)) hn0 rfl ?_
      refine qj_if_ne (tgt := 28) cx dX6_tune_23 (by decide) (fun c12 => ?_) (fun c12 => ?_)
      · have hP := qc_ifF hP c12
        exact L28 I J w a b hP
      · have hP := qc_ifT hP c12
        refine qj_iconst (v := (-1 : Int32)) cx dX6_tune_26 (by decide) ?_
        have hz := qc_Zw (congrArg (fun q => q.2.2.2) (Option.some.inj hP)) hz
        exact qw_iret cx hz dX6_tune_27 (Nat.zero_le _) (Nat.zero_le _) (congrArg (fun q => q.1) (Option.some.inj hP)) (congrArg (fun q => q.2.1) (Option.some.inj hP)) (congrArg (fun q => q.2.2.1) (Option.some.inj hP))
def P_X6_block (I : Nat → Nat → Int32) (J : Nat → Nat → Int64) (w : Nat → Nat) (a : Int32) : Option (Int32 × (Nat → Nat → Int32) × (Nat → Nat → Int64) × (Nat → Nat)) :=
  (P_X4_isChannel I 2 a).bind fun q1 =>
  if q1 = 0 then
  some ((-1 : Int32), I, J, w)
  else
  (P_X0_push I J w 2).bind fun q3 =>
  qc_let (qc_u2 q3.2.1 2 6 ((q3.2.1 2 6) ^^^ ((1 : Int64) <<< (a.toInt64 &&& 63)))) fun J4 =>
  (P_X4_isShut J4 2 a).bind fun q5 =>
  (if q5 = 0 then
  some (0 : Int32)
  else
  some (1 : Int32)).bind fun v7 =>
  some (v7, q3.1, J4, q3.2.2)
set_option maxRecDepth 20000 in
theorem c_X6_block {I : Nat → Nat → Int32} {J : Nat → Nat → Int64} {w : Nat → Nat} {n : Nat} (hn : 121 ≤ n) (hn1 : n ≤ 200) {a : Int32} {q0 : Int32 × (Nat → Nat → Int32) × (Nat → Nat → Int64) × (Nat → Nat)} (hP : P_X6_block I J w a = some q0) : ∀ l, qc_M l yX6_block cX6_block 2 (some .int) 3 68 0 0 [.ref 0, .int a] (I, J, (rX w, kX, nX, n)) (some (.int q0.1)) (q0.2.1, q0.2.2.1, (rX q0.2.2.2, kX, nX, n)) := by
  intro l
  refine qc_ent2 (by decide) (Nat.le_of_ble_eq_true rfl) ?_
  intro F hn0 cx hz
  have cx : qc_X F cX6_block RX6 "block" 3 0 0 68 := cx
  show qc_J F 0 0 0 [some (.ref 0), some (.int a)] [] (I, J, (rX w, kX, nX, n))
  unfold P_X6_block at hP
  refine qj_aload_n cx dX6_block_0 rfl rfl ?_
  refine qw_getR (j := 4) (t1 := 2) cx dX6_block_1 qc_cl6 rfl (Nat.lt_of_lt_of_le (by decide) hn) rfl ww_334 rfl ?_
  refine qj_iload_n cx dX6_block_4 rfl rfl ?_
  obtain ⟨q1, eq1, hP⟩ := Option.bind_eq_some_iff.mp hP
  refine qj_callV (As := [.int a]) (st := []) (t := 2) (h' := (I, J, (rX w, kX, nX, n))) (r := some (.int q1)) cx dX6_block_5 (c_X4_isChannel (I := I) (J := J) (w := w) hn hn1 (qc_sc2 hn) eq1) gc_RX6_98 qm_X4_isChannel rfl rfl qc_cl4 rfl (Nat.lt_of_lt_of_le (by decide) hn) (by decide) (by decide) rfl (Nat.le_of_ble_eq_true rfl) (Nat.le_trans hn1 (by decide)) hn0 rfl ?_
  refine qj_if_ne (tgt := 13) cx dX6_block_8 (by decide) (fun c2 => ?_) (fun c2 => ?_)
  · have hP := qc_ifF hP c2
    refine qj_aload_n cx dX6_block_13 rfl rfl ?_
    refine qw_getR (j := 8) (t1 := 35) cx dX6_block_14 qc_cl6 rfl (Nat.lt_of_lt_of_le (by decide) hn) rfl ww_338 rfl ?_
    refine qj_aload_n cx dX6_block_17 rfl rfl ?_
    refine qw_getR (j := 4) (t1 := 2) cx dX6_block_18 qc_cl6 rfl (Nat.lt_of_lt_of_le (by decide) hn) rfl ww_334 rfl ?_
    obtain ⟨q3, eq3, hP⟩ := Option.bind_eq_some_iff.mp hP
    refine qj_callV (As := [.ref 2]) (st := []) (t := 35) (h' := (q3.1, q3.2.1, (rX q3.2.2, kX, nX, n))) (r := none) cx dX6_block_21 (c_X0_push (I := I) (J := J) (w := w) hn hn1 (qc_sc2 hn) eq3) gc_RX6_101 qm_X0_push rfl rfl qc_cl0 rfl (Nat.lt_of_lt_of_le (by decide) hn) (by decide) (by decide) rfl (Nat.le_of_ble_eq_true rfl) (Nat.le_trans hn1 (by decide)) hn0 rfl ?_
    refine qj_aload_n cx dX6_block_24 rfl rfl ?_
    refine qw_getR (j := 4) (t1 := 2) cx dX6_block_25 qc_cl6 rfl (Nat.lt_of_lt_of_le (by decide) hn) rfl ww_334 rfl ?_
    refine qj_dup cx dX6_block_28 rfl ?_
    refine qw_getJ (j := 6) cx dX6_block_29 qc_cl4 rfl (Nat.lt_of_lt_of_le (by decide) hn) rfl ww_171 ?_
    refine qj_lconst (v := (1 : Int64)) cx dX6_block_32 (by decide) ?_
    refine qj_iload_n cx dX6_block_33 rfl rfl ?_
    refine qj_lshl cx dX6_block_34 ?_
    refine qj_lxor cx dX6_block_35 ?_
    obtain ⟨J4, eJ4, hP⟩ := qc_letE hP
    refine qw_putJ (j := 6) cx dX6_block_36 qc_cl4 rfl (Nat.lt_of_lt_of_le (by decide) hn) rfl ww_171 rfl rfl rfl eJ4 ?_
    refine qj_aload_n cx dX6_block_39 rfl rfl ?_
    refine qw_getR (j := 4) (t1 := 2) cx dX6_block_40 qc_cl6 rfl (Nat.lt_of_lt_of_le (by decide) hn) rfl ww_334 rfl ?_
    refine qj_iload_n cx dX6_block_43 rfl rfl ?_
    obtain ⟨q5, eq5, hP⟩ := Option.bind_eq_some_iff.mp hP
    refine qj_callV (As := [.int a]) (st := []) (t := 2) (h' := (q3.1, J4, (rX q3.2.2, kX, nX, n))) (r := some (.int q5)) cx dX6_block_44 (c_X4_isShut (I := q3.1) (J := J4) (w := q3.2.2) hn hn1 (qc_sc2 hn) eq5) gc_RX6_112 qm_X4_isShut rfl rfl qc_cl4 rfl (Nat.lt_of_lt_of_le (by decide) hn) (by decide) (by decide) rfl (Nat.le_of_ble_eq_true rfl) (Nat.le_trans hn1 (by decide)) hn0 rfl ?_
    obtain ⟨v7, hv7, hP⟩ := Option.bind_eq_some_iff.mp hP
    have Kv7 : qc_J F 0 0 55 [some (.ref 0), some (.int a)] [.int v7] (q3.1, J4, (rX q3.2.2, kX, nX, n)) := by
      have hz := qc_Zw (congrArg (fun q => q.2.2.2) (Option.some.inj hP)) hz
      exact qw_iret cx hz dX6_block_55 (Nat.zero_le _) (Nat.zero_le _) (congrArg (fun q => q.1) (Option.some.inj hP)) (congrArg (fun q => q.2.1) (Option.some.inj hP)) (congrArg (fun q => q.2.2.1) (Option.some.inj hP))
    refine qj_if_eq (tgt := 54) cx dX6_block_47 (by decide) (fun c6 => ?_) (fun c6 => ?_)
    · have hv7 := qc_ifT hv7 c6
      refine qj_iconst (v := (0 : Int32)) cx dX6_block_54 (by decide) ?_
      exact qw_top (Option.some.inj hv7).symm Kv7
    · have hv7 := qc_ifF hv7 c6
      refine qj_iconst (v := (1 : Int32)) cx dX6_block_50 (by decide) ?_
      refine qj_goto (tgt := 55) cx dX6_block_51 (by decide) ?_
      exact qw_top (Option.some.inj hv7).symm Kv7
  · have hP := qc_ifT hP c2
    refine qj_iconst (v := (-1 : Int32)) cx dX6_block_11 (by decide) ?_
    have hz := qc_Zw (congrArg (fun q => q.2.2.2) (Option.some.inj hP)) hz
    exact qw_iret cx hz dX6_block_12 (Nat.zero_le _) (Nat.zero_le _) (congrArg (fun q => q.1) (Option.some.inj hP)) (congrArg (fun q => q.2.1) (Option.some.inj hP)) (congrArg (fun q => q.2.2.1) (Option.some.inj hP))
def P_X6_power (I : Nat → Nat → Int32) (J : Nat → Nat → Int64) (w : Nat → Nat) (a : Int32) (b : Int32) : Option (Int32 × (Nat → Nat → Int32) × (Nat → Nat → Int64) × (Nat → Nat)) :=
  (P_X4_isUser I 2 a).bind fun q1 =>
  if q1 = 0 then
  some ((-1 : Int32), I, J, w)
  else
  if b < 0 then
  some ((-1 : Int32), I, J, w)
  else
  if b ≤ (30 : Int32) then
  (P_X0_push I J w 2).bind fun q7 =>
  if qc_in a 8 then
  qc_let (q7.1 10 a.toNatClampNeg) fun x9 =>
  if qc_in a 8 then
  qc_let (qc_u2 q7.1 10 a.toNatClampNeg b) fun I10 =>
  some (x9, I10, q7.2.1, q7.2.2)
  else none
  else none
  else
  some ((-1 : Int32), I, J, w)
set_option maxRecDepth 20000 in
theorem c_X6_power {I : Nat → Nat → Int32} {J : Nat → Nat → Int64} {w : Nat → Nat} {n : Nat} (hn : 121 ≤ n) (hn1 : n ≤ 200) {a : Int32} {b : Int32} {q0 : Int32 × (Nat → Nat → Int32) × (Nat → Nat → Int64) × (Nat → Nat)} (hP : P_X6_power I J w a b = some q0) : ∀ l, qc_M l yX6_power cX6_power 4 (some .int) 3 68 0 0 [.ref 0, .int a, .int b] (I, J, (rX w, kX, nX, n)) (some (.int q0.1)) (q0.2.1, q0.2.2.1, (rX q0.2.2.2, kX, nX, n)) := by
  intro l
  refine qc_ent2 (by decide) (Nat.le_of_ble_eq_true rfl) ?_
  intro F hn0 cx hz
  have cx : qc_X F cX6_power RX6 "power" 3 0 0 68 := cx
  show qc_J F 0 0 0 [some (.ref 0), some (.int a), some (.int b), none] [] (I, J, (rX w, kX, nX, n))
  unfold P_X6_power at hP
  refine qj_aload_n cx dX6_power_0 rfl rfl ?_
  refine qw_getR (j := 4) (t1 := 2) cx dX6_power_1 qc_cl6 rfl (Nat.lt_of_lt_of_le (by decide) hn) rfl ww_334 rfl ?_
  refine qj_iload_n cx dX6_power_4 rfl rfl ?_
  obtain ⟨q1, eq1, hP⟩ := Option.bind_eq_some_iff.mp hP
  refine qj_callV (As := [.int a]) (st := []) (t := 2) (h' := (I, J, (rX w, kX, nX, n))) (r := some (.int q1)) cx dX6_power_5 (c_X4_isUser (I := I) (J := J) (w := w) hn hn1 (qc_sc2 hn) eq1) gc_RX6_94 qm_X4_isUser rfl rfl qc_cl4 rfl (Nat.lt_of_lt_of_le (by decide) hn) (by decide) (by decide) rfl (Nat.le_of_ble_eq_true rfl) (Nat.le_trans hn1 (by decide)) hn0 rfl ?_
  refine qj_if_eq (tgt := 21) cx dX6_power_8 (by decide) (fun c2 => ?_) (fun c2 => ?_)
  · have hP := qc_ifT hP c2
    refine qj_iconst (v := (-1 : Int32)) cx dX6_power_21 (by decide) ?_
    have hz := qc_Zw (congrArg (fun q => q.2.2.2) (Option.some.inj hP)) hz
    exact qw_iret cx hz dX6_power_22 (Nat.zero_le _) (Nat.zero_le _) (congrArg (fun q => q.1) (Option.some.inj hP)) (congrArg (fun q => q.2.1) (Option.some.inj hP)) (congrArg (fun q => q.2.2.1) (Option.some.inj hP))
  · have hP := qc_ifF hP c2
    refine qj_iload_n cx dX6_power_11 rfl rfl ?_
    refine qj_if_lt (tgt := 21) cx dX6_power_12 (by decide) (fun c4 => ?_) (fun c4 => ?_)
    · have hP := qc_ifT hP c4
      refine qj_iconst (v := (-1 : Int32)) cx dX6_power_21 (by decide) ?_
      have hz := qc_Zw (congrArg (fun q => q.2.2.2) (Option.some.inj hP)) hz
      exact qw_iret cx hz dX6_power_22 (Nat.zero_le _) (Nat.zero_le _) (congrArg (fun q => q.1) (Option.some.inj hP)) (congrArg (fun q => q.2.1) (Option.some.inj hP)) (congrArg (fun q => q.2.2.1) (Option.some.inj hP))
    · have hP := qc_ifF hP c4
      refine qj_iload_n cx dX6_power_15 rfl rfl ?_
      refine qj_bipush (v := (30 : Int32)) cx dX6_power_16 (by decide) ?_
      refine qj_icmp_le (tgt := 23) cx dX6_power_18 (by decide) (fun c6 => ?_) (fun c6 => ?_)
      · have hP := qc_ifT hP c6
        refine qj_aload_n cx dX6_power_23 rfl rfl ?_
        refine qw_getR (j := 8) (t1 := 35) cx dX6_power_24 qc_cl6 rfl (Nat.lt_of_lt_of_le (by decide) hn) rfl ww_338 rfl ?_
        refine qj_aload_n cx dX6_power_27 rfl rfl ?_
        refine qw_getR (j := 4) (t1 := 2) cx dX6_power_28 qc_cl6 rfl (Nat.lt_of_lt_of_le (by decide) hn) rfl ww_334 rfl ?_
        obtain ⟨q7, eq7, hP⟩ := Option.bind_eq_some_iff.mp hP
        refine qj_callV (As := [.ref 2]) (st := []) (t := 35) (h' := (q7.1, q7.2.1, (rX q7.2.2, kX, nX, n))) (r := none) cx dX6_power_31 (c_X0_push (I := I) (J := J) (w := w) hn hn1 (qc_sc2 hn) eq7) gc_RX6_101 qm_X0_push rfl rfl qc_cl0 rfl (Nat.lt_of_lt_of_le (by decide) hn) (by decide) (by decide) rfl (Nat.le_of_ble_eq_true rfl) (Nat.le_trans hn1 (by decide)) hn0 rfl ?_
        refine qj_aload_n cx dX6_power_34 rfl rfl ?_
        refine qw_getR (j := 4) (t1 := 2) cx dX6_power_35 qc_cl6 rfl (Nat.lt_of_lt_of_le (by decide) hn) rfl ww_334 rfl ?_
        refine qw_getR (j := 14) (t1 := 10) cx dX6_power_38 qc_cl4 rfl (Nat.lt_of_lt_of_le (by decide) hn) rfl ww_204 rfl ?_
        refine qj_iload_n cx dX6_power_41 rfl rfl ?_
        obtain ⟨c8, hP⟩ := qc_ck hP
        refine qw_iald (n1 := 8) cx dX6_power_42 rfl (Nat.lt_of_lt_of_le (by decide) hn) rfl c8 ?_
        obtain ⟨x9, ex9, hP⟩ := qc_letE hP
        refine qw_top ex9 ?_
        refine qj_istore_n (ls1 := [some (.ref 0), some (.int a), some (.int b), some (.int x9)]) cx dX6_power_43 rfl rfl rfl rfl ?_
        refine qj_aload_n cx dX6_power_44 rfl rfl ?_
        refine qw_getR (j := 4) (t1 := 2) cx dX6_power_45 qc_cl6 rfl (Nat.lt_of_lt_of_le (by decide) hn) rfl ww_334 rfl ?_
        refine qw_getR (j := 14) (t1 := 10) cx dX6_power_48 qc_cl4 rfl (Nat.lt_of_lt_of_le (by decide) hn) rfl ww_204 rfl ?_
        refine qj_iload_n cx dX6_power_51 rfl rfl ?_
        refine qj_iload_n cx dX6_power_52 rfl rfl ?_
        obtain ⟨c12, hP⟩ := qc_ck hP
        obtain ⟨I10, eI10, hP⟩ := qc_letE hP
        refine qw_iast (n1 := 8) cx dX6_power_53 rfl (Nat.lt_of_lt_of_le (by decide) hn) rfl c12 eI10 ?_
        refine qj_iload_n cx dX6_power_54 rfl rfl ?_
        have hz := qc_Zw (congrArg (fun q => q.2.2.2) (Option.some.inj hP)) hz
        exact qw_iret cx hz dX6_power_55 (Nat.zero_le _) (Nat.zero_le _) (congrArg (fun q => q.1) (Option.some.inj hP)) (congrArg (fun q => q.2.1) (Option.some.inj hP)) (congrArg (fun q => q.2.2.1) (Option.some.inj hP))
      · have hP := qc_ifF hP c6
        refine qj_iconst (v := (-1 : Int32)) cx dX6_power_21 (by decide) ?_
        have hz := qc_Zw (congrArg (fun q => q.2.2.2) (Option.some.inj hP)) hz
        exact qw_iret cx hz dX6_power_22 (Nat.zero_le _) (Nat.zero_le _) (congrArg (fun q => q.1) (Option.some.inj hP)) (congrArg (fun q => q.2.1) (Option.some.inj hP)) (congrArg (fun q => q.2.2.1) (Option.some.inj hP))
def P_X6_slots (I : Nat → Nat → Int32) (J : Nat → Nat → Int64) (w : Nat → Nat) (a : Int32) (b : Int32) : Option (Int32 × (Nat → Nat → Int32) × (Nat → Nat → Int64) × (Nat → Nat)) :=
  (P_X4_isUser I 2 a).bind fun q1 =>
  if q1 = 0 then
  some ((-1 : Int32), I, J, w)
  else
  if b < (1 : Int32) then
  some ((-1 : Int32), I, J, w)
  else
  if b ≤ (255 : Int32) then
  (P_X0_push I J w 2).bind fun q7 =>
  if qc_in a 8 then
  qc_let (q7.1 11 a.toNatClampNeg) fun x9 =>
  if qc_in a 8 then
  qc_let (qc_u2 q7.1 11 a.toNatClampNeg b) fun I10 =>
  some (x9, I10, q7.2.1, q7.2.2)
  else none
  else none
  else
  some ((-1 : Int32), I, J, w)
set_option maxRecDepth 20000 in
theorem c_X6_slots {I : Nat → Nat → Int32} {J : Nat → Nat → Int64} {w : Nat → Nat} {n : Nat} (hn : 121 ≤ n) (hn1 : n ≤ 200) {a : Int32} {b : Int32} {q0 : Int32 × (Nat → Nat → Int32) × (Nat → Nat → Int64) × (Nat → Nat)} (hP : P_X6_slots I J w a b = some q0) : ∀ l, qc_M l yX6_slots cX6_slots 4 (some .int) 3 68 0 0 [.ref 0, .int a, .int b] (I, J, (rX w, kX, nX, n)) (some (.int q0.1)) (q0.2.1, q0.2.2.1, (rX q0.2.2.2, kX, nX, n)) := by
  intro l
  refine qc_ent2 (by decide) (Nat.le_of_ble_eq_true rfl) ?_
  intro F hn0 cx hz
  have cx : qc_X F cX6_slots RX6 "slots" 3 0 0 68 := cx
  show qc_J F 0 0 0 [some (.ref 0), some (.int a), some (.int b), none] [] (I, J, (rX w, kX, nX, n))
  unfold P_X6_slots at hP
  refine qj_aload_n cx dX6_slots_0 rfl rfl ?_
  refine qw_getR (j := 4) (t1 := 2) cx dX6_slots_1 qc_cl6 rfl (Nat.lt_of_lt_of_le (by decide) hn) rfl ww_334 rfl ?_
  refine qj_iload_n cx dX6_slots_4 rfl rfl ?_
  obtain ⟨q1, eq1, hP⟩ := Option.bind_eq_some_iff.mp hP
  refine qj_callV (As := [.int a]) (st := []) (t := 2) (h' := (I, J, (rX w, kX, nX, n))) (r := some (.int q1)) cx dX6_slots_5 (c_X4_isUser (I := I) (J := J) (w := w) hn hn1 (qc_sc2 hn) eq1) gc_RX6_94 qm_X4_isUser rfl rfl qc_cl4 rfl (Nat.lt_of_lt_of_le (by decide) hn) (by decide) (by decide) rfl (Nat.le_of_ble_eq_true rfl) (Nat.le_trans hn1 (by decide)) hn0 rfl ?_
  refine qj_if_eq (tgt := 23) cx dX6_slots_8 (by decide) (fun c2 => ?_) (fun c2 => ?_)
  · have hP := qc_ifT hP c2
    refine qj_iconst (v := (-1 : Int32)) cx dX6_slots_23 (by decide) ?_
    have hz := qc_Zw (congrArg (fun q => q.2.2.2) (Option.some.inj hP)) hz
    exact qw_iret cx hz dX6_slots_24 (Nat.zero_le _) (Nat.zero_le _) (congrArg (fun q => q.1) (Option.some.inj hP)) (congrArg (fun q => q.2.1) (Option.some.inj hP)) (congrArg (fun q => q.2.2.1) (Option.some.inj hP))
  · have hP := qc_ifF hP c2
    refine qj_iload_n cx dX6_slots_11 rfl rfl ?_
    refine qj_iconst (v := (1 : Int32)) cx dX6_slots_12 (by decide) ?_
    refine qj_icmp_lt (tgt := 23) cx dX6_slots_13 (by decide) (fun c4 => ?_) (fun c4 => ?_)
    · have hP := qc_ifT hP c4
      refine qj_iconst (v := (-1 : Int32)) cx dX6_slots_23 (by decide) ?_
      have hz := qc_Zw (congrArg (fun q => q.2.2.2) (Option.some.inj hP)) hz
      exact qw_iret cx hz dX6_slots_24 (Nat.zero_le _) (Nat.zero_le _) (congrArg (fun q => q.1) (Option.some.inj hP)) (congrArg (fun q => q.2.1) (Option.some.inj hP)) (congrArg (fun q => q.2.2.1) (Option.some.inj hP))
    · have hP := qc_ifF hP c4
      refine qj_iload_n cx dX6_slots_16 rfl rfl ?_
      refine qj_sipush (v := (255 : Int32)) cx dX6_slots_17 (by decide) ?_
      refine qj_icmp_le (tgt := 25) cx dX6_slots_20 (by decide) (fun c6 => ?_) (fun c6 => ?_)
      · have hP := qc_ifT hP c6
        refine qj_aload_n cx dX6_slots_25 rfl rfl ?_
        refine qw_getR (j := 8) (t1 := 35) cx dX6_slots_26 qc_cl6 rfl (Nat.lt_of_lt_of_le (by decide) hn) rfl ww_338 rfl ?_
        refine qj_aload_n cx dX6_slots_29 rfl rfl ?_
        refine qw_getR (j := 4) (t1 := 2) cx dX6_slots_30 qc_cl6 rfl (Nat.lt_of_lt_of_le (by decide) hn) rfl ww_334 rfl ?_
        obtain ⟨q7, eq7, hP⟩ := Option.bind_eq_some_iff.mp hP
        refine qj_callV (As := [.ref 2]) (st := []) (t := 35) (h' := (q7.1, q7.2.1, (rX q7.2.2, kX, nX, n))) (r := none) cx dX6_slots_33 (c_X0_push (I := I) (J := J) (w := w) hn hn1 (qc_sc2 hn) eq7) gc_RX6_101 qm_X0_push rfl rfl qc_cl0 rfl (Nat.lt_of_lt_of_le (by decide) hn) (by decide) (by decide) rfl (Nat.le_of_ble_eq_true rfl) (Nat.le_trans hn1 (by decide)) hn0 rfl ?_
        refine qj_aload_n cx dX6_slots_36 rfl rfl ?_
        refine qw_getR (j := 4) (t1 := 2) cx dX6_slots_37 qc_cl6 rfl (Nat.lt_of_lt_of_le (by decide) hn) rfl ww_334 rfl ?_
        refine qw_getR (j := 15) (t1 := 11) cx dX6_slots_40 qc_cl4 rfl (Nat.lt_of_lt_of_le (by decide) hn) rfl ww_209 rfl ?_
        refine qj_iload_n cx dX6_slots_43 rfl rfl ?_
        obtain ⟨c8, hP⟩ := qc_ck hP
        refine qw_iald (n1 := 8) cx dX6_slots_44 rfl (Nat.lt_of_lt_of_le (by decide) hn) rfl c8 ?_
        obtain ⟨x9, ex9, hP⟩ := qc_letE hP
        refine qw_top ex9 ?_
        refine qj_istore_n (ls1 := [some (.ref 0), some (.int a), some (.int b), some (.int x9)]) cx dX6_slots_45 rfl rfl rfl rfl ?_
        refine qj_aload_n cx dX6_slots_46 rfl rfl ?_
        refine qw_getR (j := 4) (t1 := 2) cx dX6_slots_47 qc_cl6 rfl (Nat.lt_of_lt_of_le (by decide) hn) rfl ww_334 rfl ?_
        refine qw_getR (j := 15) (t1 := 11) cx dX6_slots_50 qc_cl4 rfl (Nat.lt_of_lt_of_le (by decide) hn) rfl ww_209 rfl ?_
        refine qj_iload_n cx dX6_slots_53 rfl rfl ?_
        refine qj_iload_n cx dX6_slots_54 rfl rfl ?_
        obtain ⟨c12, hP⟩ := qc_ck hP
        obtain ⟨I10, eI10, hP⟩ := qc_letE hP
        refine qw_iast (n1 := 8) cx dX6_slots_55 rfl (Nat.lt_of_lt_of_le (by decide) hn) rfl c12 eI10 ?_
        refine qj_iload_n cx dX6_slots_56 rfl rfl ?_
        have hz := qc_Zw (congrArg (fun q => q.2.2.2) (Option.some.inj hP)) hz
        exact qw_iret cx hz dX6_slots_57 (Nat.zero_le _) (Nat.zero_le _) (congrArg (fun q => q.1) (Option.some.inj hP)) (congrArg (fun q => q.2.1) (Option.some.inj hP)) (congrArg (fun q => q.2.2.1) (Option.some.inj hP))
      · have hP := qc_ifF hP c6
        refine qj_iconst (v := (-1 : Int32)) cx dX6_slots_23 (by decide) ?_
        have hz := qc_Zw (congrArg (fun q => q.2.2.2) (Option.some.inj hP)) hz
        exact qw_iret cx hz dX6_slots_24 (Nat.zero_le _) (Nat.zero_le _) (congrArg (fun q => q.1) (Option.some.inj hP)) (congrArg (fun q => q.2.1) (Option.some.inj hP)) (congrArg (fun q => q.2.2.1) (Option.some.inj hP))
def P_X6_adoptTrial (I : Nat → Nat → Int32) (J : Nat → Nat → Int64) (w : Nat → Nat) : Option ((Nat → Nat → Int32) × (Nat → Nat → Int64) × (Nat → Nat)) :=
  (P_X0_push I J w 2).bind fun q1 =>
  (P_X4_copyChannels q1.1 2 12).bind fun q2 =>
  some (q2, q1.2.1, q1.2.2)
set_option maxRecDepth 20000 in
theorem c_X6_adoptTrial {I : Nat → Nat → Int32} {J : Nat → Nat → Int64} {w : Nat → Nat} {n : Nat} (hn : 121 ≤ n) (hn1 : n ≤ 200)  {q0 : (Nat → Nat → Int32) × (Nat → Nat → Int64) × (Nat → Nat)} (hP : P_X6_adoptTrial I J w = some q0) : ∀ l, qc_M l yX6_adoptTrial cX6_adoptTrial 1 none 3 68 0 0 [.ref 0] (I, J, (rX w, kX, nX, n)) none (q0.1, q0.2.1, (rX q0.2.2, kX, nX, n)) := by
  intro l
  refine qc_ent2 (by decide) (Nat.le_of_ble_eq_true rfl) ?_
  intro F hn0 cx hz
  have cx : qc_X F cX6_adoptTrial RX6 "adoptTrial" 3 0 0 68 := cx
  show qc_J F 0 0 0 [some (.ref 0)] [] (I, J, (rX w, kX, nX, n))
  unfold P_X6_adoptTrial at hP
  refine qj_aload_n cx dX6_adoptTrial_0 rfl rfl ?_
  refine qw_getR (j := 8) (t1 := 35) cx dX6_adoptTrial_1 qc_cl6 rfl (Nat.lt_of_lt_of_le (by decide) hn) rfl ww_338 rfl ?_
  refine qj_aload_n cx dX6_adoptTrial_4 rfl rfl ?_
  refine qw_getR (j := 4) (t1 := 2) cx dX6_adoptTrial_5 qc_cl6 rfl (Nat.lt_of_lt_of_le (by decide) hn) rfl ww_334 rfl ?_
  obtain ⟨q1, eq1, hP⟩ := Option.bind_eq_some_iff.mp hP
  refine qj_callV (As := [.ref 2]) (st := []) (t := 35) (h' := (q1.1, q1.2.1, (rX q1.2.2, kX, nX, n))) (r := none) cx dX6_adoptTrial_8 (c_X0_push (I := I) (J := J) (w := w) hn hn1 (qc_sc2 hn) eq1) gc_RX6_101 qm_X0_push rfl rfl qc_cl0 rfl (Nat.lt_of_lt_of_le (by decide) hn) (by decide) (by decide) rfl (Nat.le_of_ble_eq_true rfl) (Nat.le_trans hn1 (by decide)) hn0 rfl ?_
  refine qj_aload_n cx dX6_adoptTrial_11 rfl rfl ?_
  refine qw_getR (j := 4) (t1 := 2) cx dX6_adoptTrial_12 qc_cl6 rfl (Nat.lt_of_lt_of_le (by decide) hn) rfl ww_334 rfl ?_
  refine qj_aload_n cx dX6_adoptTrial_15 rfl rfl ?_
  refine qw_getR (j := 5) (t1 := 12) cx dX6_adoptTrial_16 qc_cl6 rfl (Nat.lt_of_lt_of_le (by decide) hn) rfl ww_335 rfl ?_
  obtain ⟨q2, eq2, hP⟩ := Option.bind_eq_some_iff.mp hP
  refine qj_callV (As := [.ref 12]) (st := []) (t := 2) (h' := (q2, q1.2.1, (rX q1.2.2, kX, nX, n))) (r := none) cx dX6_adoptTrial_19 (c_X4_copyChannels (I := q1.1) (J := q1.2.1) (w := q1.2.2) hn hn1 (qc_sc2 hn) (qc_sc12 hn) eq2) gc_RX6_134 qm_X4_copyChannels rfl rfl qc_cl4 rfl (Nat.lt_of_lt_of_le (by decide) hn) (by decide) (by decide) rfl (Nat.le_of_ble_eq_true rfl) (Nat.le_trans hn1 (by decide)) hn0 rfl ?_
  have hz := qc_Zw (congrArg (fun q => q.2.2) (Option.some.inj hP)) hz
  exact qw_vret cx hz dX6_adoptTrial_22 (Nat.zero_le _) (Nat.zero_le _) (congrArg (fun q => q.1) (Option.some.inj hP)) (congrArg (fun q => q.2.1) (Option.some.inj hP))
def P_X6_undo (I : Nat → Nat → Int32) (J : Nat → Nat → Int64) (w : Nat → Nat) : Option (Int32 × (Nat → Nat → Int32) × (Nat → Nat → Int64)) :=
  (P_X0_pop I J w 2).bind fun q1 =>
  (if q1.1 = 0 then
  some (-1 : Int32)
  else
  some (q1.2.1 35 1)).bind fun v3 =>
  some (v3, q1.2.1, q1.2.2)
set_option maxRecDepth 20000 in
theorem c_X6_undo {I : Nat → Nat → Int32} {J : Nat → Nat → Int64} {w : Nat → Nat} {n : Nat} (hn : 121 ≤ n) (hn1 : n ≤ 200)  {q0 : Int32 × (Nat → Nat → Int32) × (Nat → Nat → Int64)} (hP : P_X6_undo I J w = some q0) : ∀ l, qc_M l yX6_undo cX6_undo 1 (some .int) 3 68 0 0 [.ref 0] (I, J, (rX w, kX, nX, n)) (some (.int q0.1)) (q0.2.1, q0.2.2, (rX w, kX, nX, n)) := by
  intro l
  refine qc_ent2 (by decide) (Nat.le_of_ble_eq_true rfl) ?_
  intro F hn0 cx hz
  have cx : qc_X F cX6_undo RX6 "undo" 3 0 0 68 := cx
  show qc_J F 0 0 0 [some (.ref 0)] [] (I, J, (rX w, kX, nX, n))
  unfold P_X6_undo at hP
  refine qj_aload_n cx dX6_undo_0 rfl rfl ?_
  refine qw_getR (j := 8) (t1 := 35) cx dX6_undo_1 qc_cl6 rfl (Nat.lt_of_lt_of_le (by decide) hn) rfl ww_338 rfl ?_
  refine qj_aload_n cx dX6_undo_4 rfl rfl ?_
  refine qw_getR (j := 4) (t1 := 2) cx dX6_undo_5 qc_cl6 rfl (Nat.lt_of_lt_of_le (by decide) hn) rfl ww_334 rfl ?_
  obtain ⟨q1, eq1, hP⟩ := Option.bind_eq_some_iff.mp hP
  refine qj_callV (As := [.ref 2]) (st := []) (t := 35) (h' := (q1.2.1, q1.2.2, (rX w, kX, nX, n))) (r := some (.int q1.1)) cx dX6_undo_8 (c_X0_pop (I := I) (J := J) (w := w) hn hn1 (qc_sc2 hn) eq1) gc_RX6_137 qm_X0_pop rfl rfl qc_cl0 rfl (Nat.lt_of_lt_of_le (by decide) hn) (by decide) (by decide) rfl (Nat.le_of_ble_eq_true rfl) (Nat.le_trans hn1 (by decide)) hn0 rfl ?_
  obtain ⟨v3, hv3, hP⟩ := Option.bind_eq_some_iff.mp hP
  have Kv3 : qc_J F 0 0 25 [some (.ref 0)] [.int v3] (q1.2.1, q1.2.2, (rX w, kX, nX, n)) := by
    exact qw_iret cx hz dX6_undo_25 (Nat.zero_le _) (Nat.zero_le _) (congrArg (fun q => q.1) (Option.some.inj hP)) (congrArg (fun q => q.2.1) (Option.some.inj hP)) (congrArg (fun q => q.2.2) (Option.some.inj hP))
  refine qj_if_eq (tgt := 24) cx dX6_undo_11 (by decide) (fun c2 => ?_) (fun c2 => ?_)
  · have hv3 := qc_ifT hv3 c2
    refine qj_iconst (v := (-1 : Int32)) cx dX6_undo_24 (by decide) ?_
    exact qw_top (Option.some.inj hv3).symm Kv3
  · have hv3 := qc_ifF hv3 c2
    refine qj_aload_n cx dX6_undo_14 rfl rfl ?_
    refine qw_getR (j := 8) (t1 := 35) cx dX6_undo_15 qc_cl6 rfl (Nat.lt_of_lt_of_le (by decide) hn) rfl ww_338 rfl ?_
    refine qw_getI (j := 1) cx dX6_undo_18 qc_cl0 rfl (Nat.lt_of_lt_of_le (by decide) hn) rfl ww_322 ?_
    refine qj_goto (tgt := 25) cx dX6_undo_21 (by decide) ?_
    exact qw_top (Option.some.inj hv3).symm Kv3
def P_X6_keep (I : Nat → Nat → Int32) (J : Nat → Nat → Int64) : Option (Int32 × (Nat → Nat → Int32) × (Nat → Nat → Int64)) :=
  (P_X1_take I J 117 2).bind fun q1 =>
  qc_let (qc_u2 q1.1 0 10 (1 : Int32)) fun I2 =>
  (P_X4_tunedUsers I2 2).bind fun q3 =>
  (P_J6_bitCount_0f7a4 q3).bind fun q4 =>
  some (q4, I2, q1.2)
set_option maxRecDepth 20000 in
theorem c_X6_keep {I : Nat → Nat → Int32} {J : Nat → Nat → Int64} {w : Nat → Nat} {n : Nat} (hn : 121 ≤ n) (hn1 : n ≤ 200)  {q0 : Int32 × (Nat → Nat → Int32) × (Nat → Nat → Int64)} (hP : P_X6_keep I J = some q0) : ∀ l, qc_M l yX6_keep cX6_keep 1 (some .int) 2 47 0 0 [.ref 0] (I, J, (rX w, kX, nX, n)) (some (.int q0.1)) (q0.2.1, q0.2.2, (rX w, kX, nX, n)) := by
  intro l
  refine qc_ent2 (by decide) (Nat.le_of_ble_eq_true rfl) ?_
  intro F hn0 cx hz
  have cx : qc_X F cX6_keep RX6 "keep" 2 0 0 47 := cx
  show qc_J F 0 0 0 [some (.ref 0)] [] (I, J, (rX w, kX, nX, n))
  unfold P_X6_keep at hP
  refine qj_aload_n cx dX6_keep_0 rfl rfl ?_
  refine qw_getR (j := 9) (t1 := 117) cx dX6_keep_1 qc_cl6 rfl (Nat.lt_of_lt_of_le (by decide) hn) rfl ww_339 rfl ?_
  refine qj_aload_n cx dX6_keep_4 rfl rfl ?_
  refine qw_getR (j := 4) (t1 := 2) cx dX6_keep_5 qc_cl6 rfl (Nat.lt_of_lt_of_le (by decide) hn) rfl ww_334 rfl ?_
  obtain ⟨q1, eq1, hP⟩ := Option.bind_eq_some_iff.mp hP
  refine qj_callV (As := [.ref 2]) (st := []) (t := 117) (h' := (q1.1, q1.2, (rX w, kX, nX, n))) (r := none) cx dX6_keep_8 (c_X1_take (I := I) (J := J) (w := w) hn hn1 (qc_im117 hn) (qc_sc2 hn) eq1) gc_RX6_141 qm_X1_take rfl rfl qc_cl1 rfl (Nat.lt_of_lt_of_le (by decide) hn) (by decide) (by decide) rfl (Nat.le_of_ble_eq_true rfl) (Nat.le_trans hn1 (by decide)) hn0 rfl ?_
  refine qj_aload_n cx dX6_keep_11 rfl rfl ?_
  refine qj_iconst (v := (1 : Int32)) cx dX6_keep_12 (by decide) ?_
  obtain ⟨I2, eI2, hP⟩ := qc_letE hP
  refine qw_putI (j := 10) cx dX6_keep_13 qc_cl6 rfl (Nat.lt_of_lt_of_le (by decide) hn) rfl ww_340 (by decide) (by decide) rfl eI2 ?_
  refine qj_aload_n cx dX6_keep_16 rfl rfl ?_
  refine qw_getR (j := 4) (t1 := 2) cx dX6_keep_17 qc_cl6 rfl (Nat.lt_of_lt_of_le (by decide) hn) rfl ww_334 rfl ?_
  obtain ⟨q3, eq3, hP⟩ := Option.bind_eq_some_iff.mp hP
  refine qj_callV (As := []) (st := []) (t := 2) (h' := (I2, q1.2, (rX w, kX, nX, n))) (r := some (.int q3)) cx dX6_keep_20 (c_X4_tunedUsers (I := I2) (J := q1.2) (w := w) hn hn1 (qc_sc2 hn) eq3) gc_RX6_144 qm_X4_tunedUsers rfl rfl qc_cl4 rfl (Nat.lt_of_lt_of_le (by decide) hn) (by decide) (by decide) rfl (Nat.le_of_ble_eq_true rfl) (Nat.le_trans hn1 (by decide)) hn0 rfl ?_
  obtain ⟨q4, eq4, hP⟩ := Option.bind_eq_some_iff.mp hP
  refine qj_callS (As := [.int q3]) (st := []) (h' := (I2, q1.2, (rX w, kX, nX, n))) (r := some (.int q4)) cx dX6_keep_23 (c_J6_bitCount_0f7a4 (S := (rX w, kX, nX, n)) (I := I2) (J := q1.2) eq4) gc_RX6_147 qm_J6_bitCount_0f7a4 rfl (by decide) (by decide) rfl (Nat.le_of_ble_eq_true rfl) (Nat.le_trans hn1 (by decide)) hn0 rfl ?_
  exact qw_iret cx hz dX6_keep_26 (Nat.zero_le _) (Nat.zero_le _) (congrArg (fun q => q.1) (Option.some.inj hP)) (congrArg (fun q => q.2.1) (Option.some.inj hP)) (congrArg (fun q => q.2.2) (Option.some.inj hP))
def P_X6_back (I : Nat → Nat → Int32) (J : Nat → Nat → Int64) : Option (Int32 × (Nat → Nat → Int32) × (Nat → Nat → Int64)) :=
  if I 0 10 = 0 then
  some ((-1 : Int32), I, J)
  else
  (P_X1_giveTo I J 117 2).bind fun q2 =>
  qc_let (qc_u2 q2.1 35 1 (0 : Int32)) fun I3 =>
  (P_X4_tunedUsers I3 2).bind fun q4 =>
  (P_J6_bitCount_0f7a4 q4).bind fun q5 =>
  some (q5, I3, q2.2)
set_option maxRecDepth 20000 in
theorem c_X6_back {I : Nat → Nat → Int32} {J : Nat → Nat → Int64} {w : Nat → Nat} {n : Nat} (hn : 121 ≤ n) (hn1 : n ≤ 200)  {q0 : Int32 × (Nat → Nat → Int32) × (Nat → Nat → Int64)} (hP : P_X6_back I J = some q0) : ∀ l, qc_M l yX6_back cX6_back 1 (some .int) 2 47 0 0 [.ref 0] (I, J, (rX w, kX, nX, n)) (some (.int q0.1)) (q0.2.1, q0.2.2, (rX w, kX, nX, n)) := by
  intro l
  refine qc_ent2 (by decide) (Nat.le_of_ble_eq_true rfl) ?_
  intro F hn0 cx hz
  have cx : qc_X F cX6_back RX6 "back" 2 0 0 47 := cx
  show qc_J F 0 0 0 [some (.ref 0)] [] (I, J, (rX w, kX, nX, n))
  unfold P_X6_back at hP
  refine qj_aload_n cx dX6_back_0 rfl rfl ?_
  refine qw_getI (j := 10) cx dX6_back_1 qc_cl6 rfl (Nat.lt_of_lt_of_le (by decide) hn) rfl ww_340 ?_
  refine qj_if_ne (tgt := 9) cx dX6_back_4 (by decide) (fun c1 => ?_) (fun c1 => ?_)
  · have hP := qc_ifF hP c1
    refine qj_aload_n cx dX6_back_9 rfl rfl ?_
    refine qw_getR (j := 9) (t1 := 117) cx dX6_back_10 qc_cl6 rfl (Nat.lt_of_lt_of_le (by decide) hn) rfl ww_339 rfl ?_
    refine qj_aload_n cx dX6_back_13 rfl rfl ?_
    refine qw_getR (j := 4) (t1 := 2) cx dX6_back_14 qc_cl6 rfl (Nat.lt_of_lt_of_le (by decide) hn) rfl ww_334 rfl ?_
    obtain ⟨q2, eq2, hP⟩ := Option.bind_eq_some_iff.mp hP
    refine qj_callV (As := [.ref 2]) (st := []) (t := 117) (h' := (q2.1, q2.2, (rX w, kX, nX, n))) (r := none) cx dX6_back_17 (c_X1_giveTo (I := I) (J := J) (w := w) hn hn1 (qc_im117 hn) (qc_sc2 hn) eq2) gc_RX6_152 qm_X1_giveTo rfl rfl qc_cl1 rfl (Nat.lt_of_lt_of_le (by decide) hn) (by decide) (by decide) rfl (Nat.le_of_ble_eq_true rfl) (Nat.le_trans hn1 (by decide)) hn0 rfl ?_
    refine qj_aload_n cx dX6_back_20 rfl rfl ?_
    refine qw_getR (j := 8) (t1 := 35) cx dX6_back_21 qc_cl6 rfl (Nat.lt_of_lt_of_le (by decide) hn) rfl ww_338 rfl ?_
    refine qj_iconst (v := (0 : Int32)) cx dX6_back_24 (by decide) ?_
    obtain ⟨I3, eI3, hP⟩ := qc_letE hP
    refine qw_putI (j := 1) cx dX6_back_25 qc_cl0 rfl (Nat.lt_of_lt_of_le (by decide) hn) rfl ww_322 rfl rfl rfl eI3 ?_
    refine qj_aload_n cx dX6_back_28 rfl rfl ?_
    refine qw_getR (j := 4) (t1 := 2) cx dX6_back_29 qc_cl6 rfl (Nat.lt_of_lt_of_le (by decide) hn) rfl ww_334 rfl ?_
    obtain ⟨q4, eq4, hP⟩ := Option.bind_eq_some_iff.mp hP
    refine qj_callV (As := []) (st := []) (t := 2) (h' := (I3, q2.2, (rX w, kX, nX, n))) (r := some (.int q4)) cx dX6_back_32 (c_X4_tunedUsers (I := I3) (J := q2.2) (w := w) hn hn1 (qc_sc2 hn) eq4) gc_RX6_144 qm_X4_tunedUsers rfl rfl qc_cl4 rfl (Nat.lt_of_lt_of_le (by decide) hn) (by decide) (by decide) rfl (Nat.le_of_ble_eq_true rfl) (Nat.le_trans hn1 (by decide)) hn0 rfl ?_
    obtain ⟨q5, eq5, hP⟩ := Option.bind_eq_some_iff.mp hP
    refine qj_callS (As := [.int q4]) (st := []) (h' := (I3, q2.2, (rX w, kX, nX, n))) (r := some (.int q5)) cx dX6_back_35 (c_J6_bitCount_0f7a4 (S := (rX w, kX, nX, n)) (I := I3) (J := q2.2) eq5) gc_RX6_147 qm_J6_bitCount_0f7a4 rfl (by decide) (by decide) rfl (Nat.le_of_ble_eq_true rfl) (Nat.le_trans hn1 (by decide)) hn0 rfl ?_
    exact qw_iret cx hz dX6_back_38 (Nat.zero_le _) (Nat.zero_le _) (congrArg (fun q => q.1) (Option.some.inj hP)) (congrArg (fun q => q.2.1) (Option.some.inj hP)) (congrArg (fun q => q.2.2) (Option.some.inj hP))
  · have hP := qc_ifT hP c1
    refine qj_iconst (v := (-1 : Int32)) cx dX6_back_7 (by decide) ?_
    exact qw_iret cx hz dX6_back_8 (Nat.zero_le _) (Nat.zero_le _) (congrArg (fun q => q.1) (Option.some.inj hP)) (congrArg (fun q => q.2.1) (Option.some.inj hP)) (congrArg (fun q => q.2.2) (Option.some.inj hP))
def P_X6_count (I : Nat → Nat → Int32) (J : Nat → Nat → Int64) (a : Int32) : Option (Int32) :=
  if a = (0 : Int32) then
  some (I 2 0)
  else if a = (1 : Int32) then
  some (I 2 1)
  else if a = (2 : Int32) then
  some (I 2 2)
  else if a = (3 : Int32) then
  some (I 2 3)
  else if a = (4 : Int32) then
  some (I 2 4)
  else if a = (5 : Int32) then
  (P_J13_bitCount_95d88 (J 2 6)).bind fun q7 =>
  some q7
  else if a = (6 : Int32) then
  (P_X4_tunedUsers I 2).bind fun q9 =>
  (P_J6_bitCount_0f7a4 q9).bind fun q10 =>
  some q10
  else if a = (7 : Int32) then
  some (I 35 1)
  else if a = (8 : Int32) then
  some (I 0 1)
  else 
  some (-1 : Int32)
set_option maxRecDepth 20000 in
theorem c_X6_count {I : Nat → Nat → Int32} {J : Nat → Nat → Int64} {w : Nat → Nat} {n : Nat} (hn : 121 ≤ n) (hn1 : n ≤ 200) {a : Int32} {q0 : Int32} (hP : P_X6_count I J a = some q0) : ∀ l, qc_M l yX6_count cX6_count 2 (some .int) 1 22 0 0 [.ref 0, .int a] (I, J, (rX w, kX, nX, n)) (some (.int q0)) (I, J, (rX w, kX, nX, n)) := by
  intro l
  refine qc_ent2 (by decide) (Nat.le_of_ble_eq_true rfl) ?_
  intro F hn0 cx hz
  have cx : qc_X F cX6_count RX6 "count" 1 0 0 22 := cx
  show qc_J F 0 0 0 [some (.ref 0), some (.int a)] [] (I, J, (rX w, kX, nX, n))
  unfold P_X6_count at hP
  refine qj_iload_n cx dX6_count_0 rfl rfl ?_
  by_cases c1 : a = (0 : Int32)
  · have hP := qc_ifT hP c1
    refine qj_tableIn (off := 51) (tgt := 52) cx dX6_count_1 (by rw [c1]; decide) (by rw [c1]; decide) (by rw [c1]; rfl) (by decide) ?_
    refine qj_aload_n cx dX6_count_52 rfl rfl ?_
    refine qw_getR (j := 4) (t1 := 2) cx dX6_count_53 qc_cl6 rfl (Nat.lt_of_lt_of_le (by decide) hn) rfl ww_334 rfl ?_
    refine qw_getI (j := 0) cx dX6_count_56 qc_cl4 rfl (Nat.lt_of_lt_of_le (by decide) hn) rfl ww_151 ?_
    exact qw_iret cx hz dX6_count_59 (Nat.zero_le _) (Nat.zero_le _) (Option.some.inj hP) rfl rfl
  have hP := qc_ifF hP c1
  by_cases c2 : a = (1 : Int32)
  · have hP := qc_ifT hP c2
    refine qj_tableIn (off := 59) (tgt := 60) cx dX6_count_1 (by rw [c2]; decide) (by rw [c2]; decide) (by rw [c2]; rfl) (by decide) ?_
    refine qj_aload_n cx dX6_count_60 rfl rfl ?_
    refine qw_getR (j := 4) (t1 := 2) cx dX6_count_61 qc_cl6 rfl (Nat.lt_of_lt_of_le (by decide) hn) rfl ww_334 rfl ?_
    refine qw_getI (j := 1) cx dX6_count_64 qc_cl4 rfl (Nat.lt_of_lt_of_le (by decide) hn) rfl ww_155 ?_
    exact qw_iret cx hz dX6_count_67 (Nat.zero_le _) (Nat.zero_le _) (Option.some.inj hP) rfl rfl
  have hP := qc_ifF hP c2
  by_cases c3 : a = (2 : Int32)
  · have hP := qc_ifT hP c3
    refine qj_tableIn (off := 67) (tgt := 68) cx dX6_count_1 (by rw [c3]; decide) (by rw [c3]; decide) (by rw [c3]; rfl) (by decide) ?_
    refine qj_aload_n cx dX6_count_68 rfl rfl ?_
    refine qw_getR (j := 4) (t1 := 2) cx dX6_count_69 qc_cl6 rfl (Nat.lt_of_lt_of_le (by decide) hn) rfl ww_334 rfl ?_
    refine qw_getI (j := 2) cx dX6_count_72 qc_cl4 rfl (Nat.lt_of_lt_of_le (by decide) hn) rfl ww_159 ?_
    exact qw_iret cx hz dX6_count_75 (Nat.zero_le _) (Nat.zero_le _) (Option.some.inj hP) rfl rfl
  have hP := qc_ifF hP c3
  by_cases c4 : a = (3 : Int32)
  · have hP := qc_ifT hP c4
    refine qj_tableIn (off := 75) (tgt := 76) cx dX6_count_1 (by rw [c4]; decide) (by rw [c4]; decide) (by rw [c4]; rfl) (by decide) ?_
    refine qj_aload_n cx dX6_count_76 rfl rfl ?_
    refine qw_getR (j := 4) (t1 := 2) cx dX6_count_77 qc_cl6 rfl (Nat.lt_of_lt_of_le (by decide) hn) rfl ww_334 rfl ?_
    refine qw_getI (j := 3) cx dX6_count_80 qc_cl4 rfl (Nat.lt_of_lt_of_le (by decide) hn) rfl ww_162 ?_
    exact qw_iret cx hz dX6_count_83 (Nat.zero_le _) (Nat.zero_le _) (Option.some.inj hP) rfl rfl
  have hP := qc_ifF hP c4
  by_cases c5 : a = (4 : Int32)
  · have hP := qc_ifT hP c5
    refine qj_tableIn (off := 83) (tgt := 84) cx dX6_count_1 (by rw [c5]; decide) (by rw [c5]; decide) (by rw [c5]; rfl) (by decide) ?_
    refine qj_aload_n cx dX6_count_84 rfl rfl ?_
    refine qw_getR (j := 4) (t1 := 2) cx dX6_count_85 qc_cl6 rfl (Nat.lt_of_lt_of_le (by decide) hn) rfl ww_334 rfl ?_
    refine qw_getI (j := 4) cx dX6_count_88 qc_cl4 rfl (Nat.lt_of_lt_of_le (by decide) hn) rfl ww_165 ?_
    exact qw_iret cx hz dX6_count_91 (Nat.zero_le _) (Nat.zero_le _) (Option.some.inj hP) rfl rfl
  have hP := qc_ifF hP c5
  by_cases c6 : a = (5 : Int32)
  · have hP := qc_ifT hP c6
    refine qj_tableIn (off := 91) (tgt := 92) cx dX6_count_1 (by rw [c6]; decide) (by rw [c6]; decide) (by rw [c6]; rfl) (by decide) ?_
    refine qj_aload_n cx dX6_count_92 rfl rfl ?_
    refine qw_getR (j := 4) (t1 := 2) cx dX6_count_93 qc_cl6 rfl (Nat.lt_of_lt_of_le (by decide) hn) rfl ww_334 rfl ?_
    refine qw_getJ (j := 6) cx dX6_count_96 qc_cl4 rfl (Nat.lt_of_lt_of_le (by decide) hn) rfl ww_171 ?_
    obtain ⟨q7, eq7, hP⟩ := Option.bind_eq_some_iff.mp hP
    refine qj_callS (As := [.long (J 2 6)]) (st := []) (h' := (I, J, (rX w, kX, nX, n))) (r := some (.int q7)) cx dX6_count_99 (c_J13_bitCount_95d88 (S := (rX w, kX, nX, n)) (I := I) (J := J) eq7) gc_RX6_197 qm_J13_bitCount_95d88 rfl (by decide) (by decide) rfl (Nat.le_of_ble_eq_true rfl) (Nat.le_trans hn1 (by decide)) hn0 rfl ?_
    exact qw_iret cx hz dX6_count_102 (Nat.zero_le _) (Nat.zero_le _) (Option.some.inj hP) rfl rfl
  have hP := qc_ifF hP c6
  by_cases c8 : a = (6 : Int32)
  · have hP := qc_ifT hP c8
    refine qj_tableIn (off := 102) (tgt := 103) cx dX6_count_1 (by rw [c8]; decide) (by rw [c8]; decide) (by rw [c8]; rfl) (by decide) ?_
    refine qj_aload_n cx dX6_count_103 rfl rfl ?_
    refine qw_getR (j := 4) (t1 := 2) cx dX6_count_104 qc_cl6 rfl (Nat.lt_of_lt_of_le (by decide) hn) rfl ww_334 rfl ?_
    obtain ⟨q9, eq9, hP⟩ := Option.bind_eq_some_iff.mp hP
    refine qj_callV (As := []) (st := []) (t := 2) (h' := (I, J, (rX w, kX, nX, n))) (r := some (.int q9)) cx dX6_count_107 (c_X4_tunedUsers (I := I) (J := J) (w := w) hn hn1 (qc_sc2 hn) eq9) gc_RX6_144 qm_X4_tunedUsers rfl rfl qc_cl4 rfl (Nat.lt_of_lt_of_le (by decide) hn) (by decide) (by decide) rfl (Nat.le_of_ble_eq_true rfl) (Nat.le_trans hn1 (by decide)) hn0 rfl ?_
    obtain ⟨q10, eq10, hP⟩ := Option.bind_eq_some_iff.mp hP
    refine qj_callS (As := [.int q9]) (st := []) (h' := (I, J, (rX w, kX, nX, n))) (r := some (.int q10)) cx dX6_count_110 (c_J6_bitCount_0f7a4 (S := (rX w, kX, nX, n)) (I := I) (J := J) eq10) gc_RX6_147 qm_J6_bitCount_0f7a4 rfl (by decide) (by decide) rfl (Nat.le_of_ble_eq_true rfl) (Nat.le_trans hn1 (by decide)) hn0 rfl ?_
    exact qw_iret cx hz dX6_count_113 (Nat.zero_le _) (Nat.zero_le _) (Option.some.inj hP) rfl rfl
  have hP := qc_ifF hP c8
  by_cases c11 : a = (7 : Int32)
  · have hP := qc_ifT hP c11
    refine qj_tableIn (off := 113) (tgt := 114) cx dX6_count_1 (by rw [c11]; decide) (by rw [c11]; decide) (by rw [c11]; rfl) (by decide) ?_
    refine qj_aload_n cx dX6_count_114 rfl rfl ?_
    refine qw_getR (j := 8) (t1 := 35) cx dX6_count_115 qc_cl6 rfl (Nat.lt_of_lt_of_le (by decide) hn) rfl ww_338 rfl ?_
    refine qw_getI (j := 1) cx dX6_count_118 qc_cl0 rfl (Nat.lt_of_lt_of_le (by decide) hn) rfl ww_322 ?_
    exact qw_iret cx hz dX6_count_121 (Nat.zero_le _) (Nat.zero_le _) (Option.some.inj hP) rfl rfl
  have hP := qc_ifF hP c11
  by_cases c12 : a = (8 : Int32)
  · have hP := qc_ifT hP c12
    refine qj_tableIn (off := 121) (tgt := 122) cx dX6_count_1 (by rw [c12]; decide) (by rw [c12]; decide) (by rw [c12]; rfl) (by decide) ?_
    refine qj_aload_n cx dX6_count_122 rfl rfl ?_
    refine qw_getI (j := 1) cx dX6_count_123 qc_cl6 rfl (Nat.lt_of_lt_of_le (by decide) hn) rfl ww_331 ?_
    exact qw_iret cx hz dX6_count_126 (Nat.zero_le _) (Nat.zero_le _) (Option.some.inj hP) rfl rfl
  have hP := qc_ifF hP c12
  refine qj_tableOut (tgt := 127) cx dX6_count_1 (by have := lv_neT (a := 0) c1 (by decide); have := lv_neT (a := 1) c2 (by decide); have := lv_neT (a := 2) c3 (by decide); have := lv_neT (a := 3) c4 (by decide); have := lv_neT (a := 4) c5 (by decide); have := lv_neT (a := 5) c6 (by decide); have := lv_neT (a := 6) c8 (by decide); have := lv_neT (a := 7) c11 (by decide); have := lv_neT (a := 8) c12 (by decide); omega) (by decide) ?_
  refine qj_iconst (v := (-1 : Int32)) cx dX6_count_127 (by decide) ?_
  exact qw_iret cx hz dX6_count_128 (Nat.zero_le _) (Nat.zero_le _) (Option.some.inj hP) rfl rfl
def P_X6_mostSpace_14  : Nat → (Nat → Nat → Int32) → (Nat → Nat → Int64) → Int32 → Option (Int32 × (Nat → Nat → Int32) × (Nat → Nat → Int64))
  | 0, _, _, _ => none
  | f + 1, I, J, a1 =>
  if a1 < (1 : Int32) then
  some ((-2 : Int32), I, J)
  else
  qc_let (qc_u2 I 12 3 a1) fun I2 =>
  (P_X4_crowdedCouples I2 12).bind fun q3 =>
  if q3 = 0 then
  some (a1, I2, J)
  else
  qc_let (a1 + (-1 : Int32)) fun x5 =>
  P_X6_mostSpace_14 f I2 J x5
def P_X6_mostSpace (I : Nat → Nat → Int32) (J : Nat → Nat → Int64) : Option (Int32 × (Nat → Nat → Int32) × (Nat → Nat → Int64)) :=
  (P_X4_copyFrom I J 12 2).bind fun q6 =>
  P_X6_mostSpace_14 qc_fu q6.1 q6.2 (20 : Int32)
set_option maxRecDepth 20000 in
theorem c_X6_mostSpace {I : Nat → Nat → Int32} {J : Nat → Nat → Int64} {w : Nat → Nat} {n : Nat} (hn : 121 ≤ n) (hn1 : n ≤ 200)  {q0 : Int32 × (Nat → Nat → Int32) × (Nat → Nat → Int64)} (hP : P_X6_mostSpace I J = some q0) : ∀ l, qc_M l yX6_mostSpace cX6_mostSpace 2 (some .int) 3 68 0 0 [.ref 0] (I, J, (rX w, kX, nX, n)) (some (.int q0.1)) (q0.2.1, q0.2.2, (rX w, kX, nX, n)) := by
  intro l
  refine qc_ent2 (by decide) (Nat.le_of_ble_eq_true rfl) ?_
  intro F hn0 cx hz
  have cx : qc_X F cX6_mostSpace RX6 "mostSpace" 3 0 0 68 := cx
  have L14 : ∀  (f : Nat) (I : (Nat → Nat → Int32)) (J : (Nat → Nat → Int64)) (a1 : Int32), P_X6_mostSpace_14 f I J a1 = some q0 → qc_J F 0 0 14 [some (.ref 0), some (.int a1)] [] (I, J, (rX w, kX, nX, n)) := by
    intro  f
    induction f with
    | zero => intro I J a1 hP; cases hP
    | succ f ih =>
      intro I J a1 hP
      rw [P_X6_mostSpace_14] at hP
      refine qj_iload_n cx dX6_mostSpace_14 rfl rfl ?_
      refine qj_iconst (v := (1 : Int32)) cx dX6_mostSpace_15 (by decide) ?_
      refine qj_icmp_lt (tgt := 45) cx dX6_mostSpace_16 (by decide) (fun c1 => ?_) (fun c1 => ?_)
      · have hP := qc_ifT hP c1
        refine qj_bipush (v := (-2 : Int32)) cx dX6_mostSpace_45 (by decide) ?_
        exact qw_iret cx hz dX6_mostSpace_47 (Nat.zero_le _) (Nat.zero_le _) (congrArg (fun q => q.1) (Option.some.inj hP)) (congrArg (fun q => q.2.1) (Option.some.inj hP)) (congrArg (fun q => q.2.2) (Option.some.inj hP))
      · have hP := qc_ifF hP c1
        refine qj_aload_n cx dX6_mostSpace_19 rfl rfl ?_
        refine qw_getR (j := 5) (t1 := 12) cx dX6_mostSpace_20 qc_cl6 rfl (Nat.lt_of_lt_of_le (by decide) hn) rfl ww_335 rfl ?_
        refine qj_iload_n cx dX6_mostSpace_23 rfl rfl ?_
        obtain ⟨I2, eI2, hP⟩ := qc_letE hP
        refine qw_putI (j := 3) cx dX6_mostSpace_24 qc_cl4 rfl (Nat.lt_of_lt_of_le (by decide) hn) rfl ww_162 rfl rfl rfl eI2 ?_
        refine qj_aload_n cx dX6_mostSpace_27 rfl rfl ?_
        refine qw_getR (j := 5) (t1 := 12) cx dX6_mostSpace_28 qc_cl6 rfl (Nat.lt_of_lt_of_le (by decide) hn) rfl ww_335 rfl ?_
        obtain ⟨q3, eq3, hP⟩ := Option.bind_eq_some_iff.mp hP
        refine qj_callV (As := []) (st := []) (t := 12) (h' := (I2, J, (rX w, kX, nX, n))) (r := some (.int q3)) cx dX6_mostSpace_31 (c_X4_crowdedCouples (I := I2) (J := J) (w := w) hn hn1 (qc_sc12 hn) eq3) gc_RX6_213 qm_X4_crowdedCouples rfl rfl qc_cl4 rfl (Nat.lt_of_lt_of_le (by decide) hn) (by decide) (by decide) rfl (Nat.le_of_ble_eq_true rfl) (Nat.le_trans hn1 (by decide)) hn0 rfl ?_
        refine qj_if_ne (tgt := 39) cx dX6_mostSpace_34 (by decide) (fun c4 => ?_) (fun c4 => ?_)
        · have hP := qc_ifF hP c4
          obtain ⟨x5, ex5, hP⟩ := qc_letE hP
          refine qj_iinc (v := x5) (ls1 := [some (.ref 0), some (.int x5)]) cx dX6_mostSpace_39 rfl (by rw [ex5]; rfl) rfl rfl ?_
          refine qj_goto (tgt := 14) cx dX6_mostSpace_42 (by decide) ?_
          exact ih I2 J x5 hP
        · have hP := qc_ifT hP c4
          refine qj_iload_n cx dX6_mostSpace_37 rfl rfl ?_
          exact qw_iret cx hz dX6_mostSpace_38 (Nat.zero_le _) (Nat.zero_le _) (congrArg (fun q => q.1) (Option.some.inj hP)) (congrArg (fun q => q.2.1) (Option.some.inj hP)) (congrArg (fun q => q.2.2) (Option.some.inj hP))
  show qc_J F 0 0 0 [some (.ref 0), none] [] (I, J, (rX w, kX, nX, n))
  unfold P_X6_mostSpace at hP
  refine qj_aload_n cx dX6_mostSpace_0 rfl rfl ?_
  refine qw_getR (j := 5) (t1 := 12) cx dX6_mostSpace_1 qc_cl6 rfl (Nat.lt_of_lt_of_le (by decide) hn) rfl ww_335 rfl ?_
  refine qj_aload_n cx dX6_mostSpace_4 rfl rfl ?_
  refine qw_getR (j := 4) (t1 := 2) cx dX6_mostSpace_5 qc_cl6 rfl (Nat.lt_of_lt_of_le (by decide) hn) rfl ww_334 rfl ?_
  obtain ⟨q6, eq6, hP⟩ := Option.bind_eq_some_iff.mp hP
  refine qj_callV (As := [.ref 2]) (st := []) (t := 12) (h' := (q6.1, q6.2, (rX w, kX, nX, n))) (r := none) cx dX6_mostSpace_8 (c_X4_copyFrom (I := I) (J := J) (w := w) hn hn1 (qc_sc12 hn) (qc_sc2 hn) eq6) gc_RX6_248 qm_X4_copyFrom rfl rfl qc_cl4 rfl (Nat.lt_of_lt_of_le (by decide) hn) (by decide) (by decide) rfl (Nat.le_of_ble_eq_true rfl) (Nat.le_trans hn1 (by decide)) hn0 rfl ?_
  refine qj_bipush (v := (20 : Int32)) cx dX6_mostSpace_11 (by decide) ?_
  refine qj_istore_n (ls1 := [some (.ref 0), some (.int (20 : Int32))]) cx dX6_mostSpace_13 rfl rfl rfl rfl ?_
  exact L14 qc_fu q6.1 q6.2 (20 : Int32) hP
def P_X2_gatherSort_179 (J : Nat → Nat → Int64) (p : Nat) (k40 : (Nat → Nat → Int32) → Int32 → Int32 → Int32 → Int32 → Option ((Nat → Nat → Int32))) (k63 : (Nat → Nat → Int32) → Int32 → Int32 → Int32 → Int32 → Int32 → Option ((Nat → Nat → Int32))) (k124 : (Nat → Nat → Int32) → Int32 → Int32 → Int32 → Int32 → Int32 → Int32 → Option ((Nat → Nat → Int32))) (I : (Nat → Nat → Int32)) (a2 : Int32) (a3 : Int32) (a4 : Int32) (a5 : Int32) (a6 : Int32) (a7 : Int32) : Option ((Nat → Nat → Int32)) :=
  qc_let (a7 + (1 : Int32)) fun x1 =>
  k124 I a2 a3 a4 a5 a6 x1
def P_X2_gatherSort_124 (J : Nat → Nat → Int64) (p : Nat) (k40 : (Nat → Nat → Int32) → Int32 → Int32 → Int32 → Int32 → Option ((Nat → Nat → Int32))) (k63 : (Nat → Nat → Int32) → Int32 → Int32 → Int32 → Int32 → Int32 → Option ((Nat → Nat → Int32))) : Nat → (Nat → Nat → Int32) → Int32 → Int32 → Int32 → Int32 → Int32 → Int32 → Option ((Nat → Nat → Int32))
  | 0, _, _, _, _, _, _, _ => none
  | f + 1, I, a2, a3, a4, a5, a6, a7 =>
  if a4 ≤ a7 then
  qc_let (a6 + (1 : Int32)) fun x3 =>
  k63 I a2 a3 a4 a5 x3
  else
  if a5 = a6 then
  P_X2_gatherSort_179 J p k40 k63 (P_X2_gatherSort_124 J p k40 k63 f) I a2 a3 a4 a5 a6 a7
  else
  if a7 = a5 then
  P_X2_gatherSort_179 J p k40 k63 (P_X2_gatherSort_124 J p k40 k63 f) I a2 a3 a4 a5 a6 a7
  else
  if a7 = a6 then
  P_X2_gatherSort_179 J p k40 k63 (P_X2_gatherSort_124 J p k40 k63 f) I a2 a3 a4 a5 a6 a7
  else
  if qc_in a5 8 then
  if qc_in a6 8 then
  if qc_in a7 8 then
  (P_X2_add I J p a2 (I 32 a5.toNatClampNeg) (I 32 a6.toNatClampNeg) (I 32 a7.toNatClampNeg)).bind fun q10 =>
  P_X2_gatherSort_179 J p k40 k63 (P_X2_gatherSort_124 J p k40 k63 f) q10 a2 a3 a4 a5 a6 a7
  else none
  else none
  else none
def P_X2_gatherSort_121 (J : Nat → Nat → Int64) (p : Nat) (k40 : (Nat → Nat → Int32) → Int32 → Int32 → Int32 → Int32 → Option ((Nat → Nat → Int32))) (k63 : (Nat → Nat → Int32) → Int32 → Int32 → Int32 → Int32 → Int32 → Option ((Nat → Nat → Int32))) (I : (Nat → Nat → Int32)) (a2 : Int32) (a3 : Int32) (a4 : Int32) (a5 : Int32) (a6 : Int32) : Option ((Nat → Nat → Int32)) :=
  P_X2_gatherSort_124 J p k40 k63 qc_fu I a2 a3 a4 a5 a6 (0 : Int32)
def P_X2_gatherSort_87 (J : Nat → Nat → Int64) (p : Nat) (k40 : (Nat → Nat → Int32) → Int32 → Int32 → Int32 → Int32 → Option ((Nat → Nat → Int32))) (k63 : (Nat → Nat → Int32) → Int32 → Int32 → Int32 → Int32 → Int32 → Option ((Nat → Nat → Int32))) (I : (Nat → Nat → Int32)) (a2 : Int32) (a3 : Int32) (a4 : Int32) (a5 : Int32) (a6 : Int32) : Option ((Nat → Nat → Int32)) :=
  if a5 = a6 then
  P_X2_gatherSort_121 J p k40 k63 I a2 a3 a4 a5 a6
  else
  if a4 = 0 then
  (if qc_in a5 8 then
  if qc_in a6 8 then
  (P_X2_add I J p a2 (I 32 a5.toNatClampNeg) (I 32 a6.toNatClampNeg) (-2 : Int32)).bind fun q15 =>
  P_X2_gatherSort_121 J p k40 k63 q15 a2 a3 a4 a5 a6
  else none
  else none)
  else
  P_X2_gatherSort_121 J p k40 k63 I a2 a3 a4 a5 a6
def P_X2_gatherSort_63 (J : Nat → Nat → Int64) (p : Nat) (k40 : (Nat → Nat → Int32) → Int32 → Int32 → Int32 → Int32 → Option ((Nat → Nat → Int32))) : Nat → (Nat → Nat → Int32) → Int32 → Int32 → Int32 → Int32 → Int32 → Option ((Nat → Nat → Int32))
  | 0, _, _, _, _, _, _ => none
  | f + 1, I, a2, a3, a4, a5, a6 =>
  if I 22 4 ≤ a6 then
  qc_let (a5 + (1 : Int32)) fun x17 =>
  k40 I a2 a3 a4 x17
  else
  if I 22 6 = 0 then
  P_X2_gatherSort_87 J p k40 (P_X2_gatherSort_63 J p k40 f) I a2 a3 a4 a5 a6
  else
  if I 22 2 ≤ 0 then
  P_X2_gatherSort_87 J p k40 (P_X2_gatherSort_63 J p k40 f) I a2 a3 a4 a5 a6
  else
  some I
def P_X2_gatherSort_40 (J : Nat → Nat → Int64) (p : Nat) : Nat → (Nat → Nat → Int32) → Int32 → Int32 → Int32 → Int32 → Option ((Nat → Nat → Int32))
  | 0, _, _, _, _, _ => none
  | f + 1, I, a2, a3, a4, a5 =>
  if I 22 4 ≤ a5 then
  some I
  else
  (if a3 = 0 then
  some (0 : Int32)
  else
  some (a5 + (1 : Int32))).bind fun v22 =>
  P_X2_gatherSort_63 J p (P_X2_gatherSort_40 J p f) qc_fu I a2 a3 a4 a5 v22
def P_X2_gatherSort (I : Nat → Nat → Int32) (J : Nat → Nat → Int64) (p : Nat) (a : Int32) : Option ((Nat → Nat → Int32)) :=
  if qc_in a 6 then
  if qc_in a 6 then
  (if (qc_sv 0).getD a.toNatClampNeg 0 = (qc_sv 1).getD a.toNatClampNeg 0 then
  some (1 : Int32)
  else
  some (0 : Int32)).bind fun v26 =>
  if qc_in a 6 then
  (if (qc_sv 2).getD a.toNatClampNeg 0 = 0 then
  some (0 : Int32)
  else
  some (I 22 4)).bind fun v29 =>
  P_X2_gatherSort_40 J p qc_fu I a v26 v29 (0 : Int32)
  else none
  else none
  else none
set_option maxRecDepth 20000 in
theorem c_X2_gatherSort {I : Nat → Nat → Int32} {J : Nat → Nat → Int64} {w : Nat → Nat} {n : Nat} (hn : 121 ≤ n) (hn1 : n ≤ 200) {p : Nat} (hp : qc_sc n p) {a : Int32} {q0 : (Nat → Nat → Int32)} (hP : P_X2_gatherSort I J p a = some q0) : ∀ l, qc_M l yX2_gatherSort cX2_gatherSort 8 none 2 55 0 0 [.ref 22, .ref p, .int a] (I, J, (rX w, kX, nX, n)) none (q0, J, (rX w, kX, nX, n)) := by
  intro l
  refine qc_ent2 (by decide) (Nat.le_of_ble_eq_true rfl) ?_
  intro F hn0 cx hz
  have cx : qc_X F cX2_gatherSort RX2 "gatherSort" 2 0 0 55 := cx
  have L179 : ∀ (k40 : (Nat → Nat → Int32) → Int32 → Int32 → Int32 → Int32 → Option ((Nat → Nat → Int32))) (g40 : ∀ (I : Nat → Nat → Int32) (a2 : Int32) (a3 : Int32) (a4 : Int32) (a5 : Int32), k40 I a2 a3 a4 a5 = some q0 → qc_J F 0 0 40 [some (.ref 22), some (.ref p), some (.int a2), some (.int a3), some (.int a4), some (.int a5), none, none] [] (I, J, (rX w, kX, nX, n))) (k63 : (Nat → Nat → Int32) → Int32 → Int32 → Int32 → Int32 → Int32 → Option ((Nat → Nat → Int32))) (g63 : ∀ (I : Nat → Nat → Int32) (a2 : Int32) (a3 : Int32) (a4 : Int32) (a5 : Int32) (a6 : Int32), k63 I a2 a3 a4 a5 a6 = some q0 → qc_J F 0 0 63 [some (.ref 22), some (.ref p), some (.int a2), some (.int a3), some (.int a4), some (.int a5), some (.int a6), none] [] (I, J, (rX w, kX, nX, n))) (k124 : (Nat → Nat → Int32) → Int32 → Int32 → Int32 → Int32 → Int32 → Int32 → Option ((Nat → Nat → Int32))) (g124 : ∀ (I : Nat → Nat → Int32) (a2 : Int32) (a3 : Int32) (a4 : Int32) (a5 : Int32) (a6 : Int32) (a7 : Int32), k124 I a2 a3 a4 a5 a6 a7 = some q0 → qc_J F 0 0 124 [some (.ref 22), some (.ref p), some (.int a2), some (.int a3), some (.int a4), some (.int a5), some (.int a6), some (.int a7)] [] (I, J, (rX w, kX, nX, n))) (I : (Nat → Nat → Int32)) (a2 : Int32) (a3 : Int32) (a4 : Int32) (a5 : Int32) (a6 : Int32) (a7 : Int32), P_X2_gatherSort_179 J p k40 k63 k124 I a2 a3 a4 a5 a6 a7 = some q0 → qc_J F 0 0 179 [some (.ref 22), some (.ref p), some (.int a2), some (.int a3), some (.int a4), some (.int a5), some (.int a6), some (.int a7)] [] (I, J, (rX w, kX, nX, n)) := by
    intro k40 g40 k63 g63 k124 g124 I a2 a3 a4 a5 a6 a7 hP
    unfold P_X2_gatherSort_179 at hP
    obtain ⟨x1, ex1, hP⟩ := qc_letE hP
    refine qj_iinc (v := x1) (ls1 := [some (.ref 22), some (.ref p), some (.int a2), some (.int a3), some (.int a4), some (.int a5), some (.int a6), some (.int x1)]) cx dX2_gatherSort_179 rfl (by rw [ex1]; rfl) rfl rfl ?_
    refine qj_goto (tgt := 124) cx dX2_gatherSort_182 (by decide) ?_
    exact g124 I a2 a3 a4 a5 a6 x1 hP
  have L124 : ∀ (k40 : (Nat → Nat → Int32) → Int32 → Int32 → Int32 → Int32 → Option ((Nat → Nat → Int32))) (g40 : ∀ (I : Nat → Nat → Int32) (a2 : Int32) (a3 : Int32) (a4 : Int32) (a5 : Int32), k40 I a2 a3 a4 a5 = some q0 → qc_J F 0 0 40 [some (.ref 22), some (.ref p), some (.int a2), some (.int a3), some (.int a4), some (.int a5), none, none] [] (I, J, (rX w, kX, nX, n))) (k63 : (Nat → Nat → Int32) → Int32 → Int32 → Int32 → Int32 → Int32 → Option ((Nat → Nat → Int32))) (g63 : ∀ (I : Nat → Nat → Int32) (a2 : Int32) (a3 : Int32) (a4 : Int32) (a5 : Int32) (a6 : Int32), k63 I a2 a3 a4 a5 a6 = some q0 → qc_J F 0 0 63 [some (.ref 22), some (.ref p), some (.int a2), some (.int a3), some (.int a4), some (.int a5), some (.int a6), none] [] (I, J, (rX w, kX, nX, n))) (f : Nat) (I : (Nat → Nat → Int32)) (a2 : Int32) (a3 : Int32) (a4 : Int32) (a5 : Int32) (a6 : Int32) (a7 : Int32), P_X2_gatherSort_124 J p k40 k63 f I a2 a3 a4 a5 a6 a7 = some q0 → qc_J F 0 0 124 [some (.ref 22), some (.ref p), some (.int a2), some (.int a3), some (.int a4), some (.int a5), some (.int a6), some (.int a7)] [] (I, J, (rX w, kX, nX, n)) := by
    intro k40 g40 k63 g63 f
    induction f with
    | zero => intro I a2 a3 a4 a5 a6 a7 hP; cases hP
    | succ f ih =>
      intro I a2 a3 a4 a5 a6 a7 hP
      rw [P_X2_gatherSort_124] at hP
      refine qj_iload cx dX2_gatherSort_124 rfl ?_
      refine qj_iload cx dX2_gatherSort_126 rfl ?_
      refine qj_icmp_ge (tgt := 185) cx dX2_gatherSort_128 (by decide) (fun c2 => ?_) (fun c2 => ?_)
      · have hP := qc_ifT hP c2
        obtain ⟨x3, ex3, hP⟩ := qc_letE hP
        refine qj_iinc (v := x3) (ls1 := [some (.ref 22), some (.ref p), some (.int a2), some (.int a3), some (.int a4), some (.int a5), some (.int x3), some (.int a7)]) cx dX2_gatherSort_185 rfl (by rw [ex3]; rfl) rfl rfl ?_
        refine qj_goto (tgt := 63) cx dX2_gatherSort_188 (by decide) ?_
        refine qw_sub (ls1 := [some (.ref 22), some (.ref p), some (.int a2), some (.int a3), some (.int a4), some (.int a5), some (.int x3), none]) rfl (qc_sb_ok ⟨rfl, rfl, rfl, rfl, rfl, rfl, rfl, trivial⟩) ?_
        exact g63 I a2 a3 a4 a5 x3 hP
      · have hP := qc_ifF hP c2
        refine qj_iload cx dX2_gatherSort_131 rfl ?_
        refine qj_iload cx dX2_gatherSort_133 rfl ?_
        refine qj_icmp_eq (tgt := 179) cx dX2_gatherSort_135 (by decide) (fun c4 => ?_) (fun c4 => ?_)
        · have hP := qc_ifT hP c4
          exact L179 k40 g40 k63 g63 (P_X2_gatherSort_124 J p k40 k63 f) ih I a2 a3 a4 a5 a6 a7 hP
        · have hP := qc_ifF hP c4
          refine qj_iload cx dX2_gatherSort_138 rfl ?_
          refine qj_iload cx dX2_gatherSort_140 rfl ?_
          refine qj_icmp_eq (tgt := 179) cx dX2_gatherSort_142 (by decide) (fun c5 => ?_) (fun c5 => ?_)
          · have hP := qc_ifT hP c5
            exact L179 k40 g40 k63 g63 (P_X2_gatherSort_124 J p k40 k63 f) ih I a2 a3 a4 a5 a6 a7 hP
          · have hP := qc_ifF hP c5
            refine qj_iload cx dX2_gatherSort_145 rfl ?_
            refine qj_iload cx dX2_gatherSort_147 rfl ?_
            refine qj_icmp_eq (tgt := 179) cx dX2_gatherSort_149 (by decide) (fun c6 => ?_) (fun c6 => ?_)
            · have hP := qc_ifT hP c6
              exact L179 k40 g40 k63 g63 (P_X2_gatherSort_124 J p k40 k63 f) ih I a2 a3 a4 a5 a6 a7 hP
            · have hP := qc_ifF hP c6
              refine qj_aload_n cx dX2_gatherSort_152 rfl rfl ?_
              refine qj_aload_n cx dX2_gatherSort_153 rfl rfl ?_
              refine qj_iload_n cx dX2_gatherSort_154 rfl rfl ?_
              refine qj_aload_n cx dX2_gatherSort_155 rfl rfl ?_
              refine qw_getR (j := 3) (t1 := 32) cx dX2_gatherSort_156 qc_cl2 rfl (Nat.lt_of_lt_of_le (by decide) hn) rfl ww_258 rfl ?_
              refine qj_iload cx dX2_gatherSort_159 rfl ?_
              obtain ⟨c7, hP⟩ := qc_ck hP
              refine qw_iald (n1 := 8) cx dX2_gatherSort_161 rfl (Nat.lt_of_lt_of_le (by decide) hn) rfl c7 ?_
              refine qj_aload_n cx dX2_gatherSort_162 rfl rfl ?_
              refine qw_getR (j := 3) (t1 := 32) cx dX2_gatherSort_163 qc_cl2 rfl (Nat.lt_of_lt_of_le (by decide) hn) rfl ww_258 rfl ?_
              refine qj_iload cx dX2_gatherSort_166 rfl ?_
              obtain ⟨c8, hP⟩ := qc_ck hP
              refine qw_iald (n1 := 8) cx dX2_gatherSort_168 rfl (Nat.lt_of_lt_of_le (by decide) hn) rfl c8 ?_
              refine qj_aload_n cx dX2_gatherSort_169 rfl rfl ?_
              refine qw_getR (j := 3) (t1 := 32) cx dX2_gatherSort_170 qc_cl2 rfl (Nat.lt_of_lt_of_le (by decide) hn) rfl ww_258 rfl ?_
              refine qj_iload cx dX2_gatherSort_173 rfl ?_
              obtain ⟨c9, hP⟩ := qc_ck hP
              refine qw_iald (n1 := 8) cx dX2_gatherSort_175 rfl (Nat.lt_of_lt_of_le (by decide) hn) rfl c9 ?_
              obtain ⟨q10, eq10, hP⟩ := Option.bind_eq_some_iff.mp hP
              refine qj_callV (As := [.ref p, .int a2, .int (I 32 a5.toNatClampNeg), .int (I 32 a6.toNatClampNeg), .int (I 32 a7.toNatClampNeg)]) (st := []) (t := 22) (h' := (q10, J, (rX w, kX, nX, n))) (r := none) cx dX2_gatherSort_176 (c_X2_add (I := I) (J := J) (w := w) hn hn1 hp eq10) gc_RX2_85 qm_X2_add rfl rfl qc_cl2 rfl (Nat.lt_of_lt_of_le (by decide) hn) (by decide) (by decide) rfl (Nat.le_of_ble_eq_true rfl) (Nat.le_trans hn1 (by decide)) hn0 rfl ?_
              exact L179 k40 g40 k63 g63 (P_X2_gatherSort_124 J p k40 k63 f) ih q10 a2 a3 a4 a5 a6 a7 hP
  have L121 : ∀ (k40 : (Nat → Nat → Int32) → Int32 → Int32 → Int32 → Int32 → Option ((Nat → Nat → Int32))) (g40 : ∀ (I : Nat → Nat → Int32) (a2 : Int32) (a3 : Int32) (a4 : Int32) (a5 : Int32), k40 I a2 a3 a4 a5 = some q0 → qc_J F 0 0 40 [some (.ref 22), some (.ref p), some (.int a2), some (.int a3), some (.int a4), some (.int a5), none, none] [] (I, J, (rX w, kX, nX, n))) (k63 : (Nat → Nat → Int32) → Int32 → Int32 → Int32 → Int32 → Int32 → Option ((Nat → Nat → Int32))) (g63 : ∀ (I : Nat → Nat → Int32) (a2 : Int32) (a3 : Int32) (a4 : Int32) (a5 : Int32) (a6 : Int32), k63 I a2 a3 a4 a5 a6 = some q0 → qc_J F 0 0 63 [some (.ref 22), some (.ref p), some (.int a2), some (.int a3), some (.int a4), some (.int a5), some (.int a6), none] [] (I, J, (rX w, kX, nX, n))) (I : (Nat → Nat → Int32)) (a2 : Int32) (a3 : Int32) (a4 : Int32) (a5 : Int32) (a6 : Int32), P_X2_gatherSort_121 J p k40 k63 I a2 a3 a4 a5 a6 = some q0 → qc_J F 0 0 121 [some (.ref 22), some (.ref p), some (.int a2), some (.int a3), some (.int a4), some (.int a5), some (.int a6), none] [] (I, J, (rX w, kX, nX, n)) := by
    intro k40 g40 k63 g63 I a2 a3 a4 a5 a6 hP
    unfold P_X2_gatherSort_121 at hP
    refine qj_iconst (v := (0 : Int32)) cx dX2_gatherSort_121 (by decide) ?_
    refine qj_istore (ls1 := [some (.ref 22), some (.ref p), some (.int a2), some (.int a3), some (.int a4), some (.int a5), some (.int a6), some (.int (0 : Int32))]) cx dX2_gatherSort_122 rfl rfl rfl ?_
    exact L124 k40 g40 k63 g63 qc_fu I a2 a3 a4 a5 a6 (0 : Int32) hP
  have L87 : ∀ (k40 : (Nat → Nat → Int32) → Int32 → Int32 → Int32 → Int32 → Option ((Nat → Nat → Int32))) (g40 : ∀ (I : Nat → Nat → Int32) (a2 : Int32) (a3 : Int32) (a4 : Int32) (a5 : Int32), k40 I a2 a3 a4 a5 = some q0 → qc_J F 0 0 40 [some (.ref 22), some (.ref p), some (.int a2), some (.int a3), some (.int a4), some (.int a5), none, none] [] (I, J, (rX w, kX, nX, n))) (k63 : (Nat → Nat → Int32) → Int32 → Int32 → Int32 → Int32 → Int32 → Option ((Nat → Nat → Int32))) (g63 : ∀ (I : Nat → Nat → Int32) (a2 : Int32) (a3 : Int32) (a4 : Int32) (a5 : Int32) (a6 : Int32), k63 I a2 a3 a4 a5 a6 = some q0 → qc_J F 0 0 63 [some (.ref 22), some (.ref p), some (.int a2), some (.int a3), some (.int a4), some (.int a5), some (.int a6), none] [] (I, J, (rX w, kX, nX, n))) (I : (Nat → Nat → Int32)) (a2 : Int32) (a3 : Int32) (a4 : Int32) (a5 : Int32) (a6 : Int32), P_X2_gatherSort_87 J p k40 k63 I a2 a3 a4 a5 a6 = some q0 → qc_J F 0 0 87 [some (.ref 22), some (.ref p), some (.int a2), some (.int a3), some (.int a4), some (.int a5), some (.int a6), none] [] (I, J, (rX w, kX, nX, n)) := by
    intro k40 g40 k63 g63 I a2 a3 a4 a5 a6 hP
    unfold P_X2_gatherSort_87 at hP
    refine qj_iload cx dX2_gatherSort_87 rfl ?_
    refine qj_iload cx dX2_gatherSort_89 rfl ?_
    refine qj_icmp_eq (tgt := 121) cx dX2_gatherSort_91 (by decide) (fun c11 => ?_) (fun c11 => ?_)
    · have hP := qc_ifT hP c11
      exact L121 k40 g40 k63 g63 I a2 a3 a4 a5 a6 hP
    · have hP := qc_ifF hP c11
      refine qj_iload cx dX2_gatherSort_94 rfl ?_
      refine qj_if_ne (tgt := 121) cx dX2_gatherSort_96 (by decide) (fun c12 => ?_) (fun c12 => ?_)
      · have hP := qc_ifF hP c12
        exact L121 k40 g40 k63 g63 I a2 a3 a4 a5 a6 hP
      · have hP := qc_ifT hP c12
        refine qj_aload_n cx dX2_gatherSort_99 rfl rfl ?_
        refine qj_aload_n cx dX2_gatherSort_100 rfl rfl ?_
        refine qj_iload_n cx dX2_gatherSort_101 rfl rfl ?_
        refine qj_aload_n cx dX2_gatherSort_102 rfl rfl ?_
        refine qw_getR (j := 3) (t1 := 32) cx dX2_gatherSort_103 qc_cl2 rfl (Nat.lt_of_lt_of_le (by decide) hn) rfl ww_258 rfl ?_
        refine qj_iload cx dX2_gatherSort_106 rfl ?_
        obtain ⟨c13, hP⟩ := qc_ck hP
        refine qw_iald (n1 := 8) cx dX2_gatherSort_108 rfl (Nat.lt_of_lt_of_le (by decide) hn) rfl c13 ?_
        refine qj_aload_n cx dX2_gatherSort_109 rfl rfl ?_
        refine qw_getR (j := 3) (t1 := 32) cx dX2_gatherSort_110 qc_cl2 rfl (Nat.lt_of_lt_of_le (by decide) hn) rfl ww_258 rfl ?_
        refine qj_iload cx dX2_gatherSort_113 rfl ?_
        obtain ⟨c14, hP⟩ := qc_ck hP
        refine qw_iald (n1 := 8) cx dX2_gatherSort_115 rfl (Nat.lt_of_lt_of_le (by decide) hn) rfl c14 ?_
        refine qj_bipush (v := (-2 : Int32)) cx dX2_gatherSort_116 (by decide) ?_
        obtain ⟨q15, eq15, hP⟩ := Option.bind_eq_some_iff.mp hP
        refine qj_callV (As := [.ref p, .int a2, .int (I 32 a5.toNatClampNeg), .int (I 32 a6.toNatClampNeg), .int (-2 : Int32)]) (st := []) (t := 22) (h' := (q15, J, (rX w, kX, nX, n))) (r := none) cx dX2_gatherSort_118 (c_X2_add (I := I) (J := J) (w := w) hn hn1 hp eq15) gc_RX2_85 qm_X2_add rfl rfl qc_cl2 rfl (Nat.lt_of_lt_of_le (by decide) hn) (by decide) (by decide) rfl (Nat.le_of_ble_eq_true rfl) (Nat.le_trans hn1 (by decide)) hn0 rfl ?_
        exact L121 k40 g40 k63 g63 q15 a2 a3 a4 a5 a6 hP
  have L63 : ∀ (k40 : (Nat → Nat → Int32) → Int32 → Int32 → Int32 → Int32 → Option ((Nat → Nat → Int32))) (g40 : ∀ (I : Nat → Nat → Int32) (a2 : Int32) (a3 : Int32) (a4 : Int32) (a5 : Int32), k40 I a2 a3 a4 a5 = some q0 → qc_J F 0 0 40 [some (.ref 22), some (.ref p), some (.int a2), some (.int a3), some (.int a4), some (.int a5), none, none] [] (I, J, (rX w, kX, nX, n))) (f : Nat) (I : (Nat → Nat → Int32)) (a2 : Int32) (a3 : Int32) (a4 : Int32) (a5 : Int32) (a6 : Int32), P_X2_gatherSort_63 J p k40 f I a2 a3 a4 a5 a6 = some q0 → qc_J F 0 0 63 [some (.ref 22), some (.ref p), some (.int a2), some (.int a3), some (.int a4), some (.int a5), some (.int a6), none] [] (I, J, (rX w, kX, nX, n)) := by
    intro k40 g40 f
    induction f with
    | zero => intro I a2 a3 a4 a5 a6 hP; cases hP
    | succ f ih =>
      intro I a2 a3 a4 a5 a6 hP
      rw [P_X2_gatherSort_63] at hP
      refine qj_iload cx dX2_gatherSort_63 rfl ?_
      refine qj_aload_n cx dX2_gatherSort_65 rfl rfl ?_
      refine qw_getI (j := 4) cx dX2_gatherSort_66 qc_cl2 rfl (Nat.lt_of_lt_of_le (by decide) hn) rfl ww_259 ?_
      refine qj_icmp_ge (tgt := 191) cx dX2_gatherSort_69 (by decide) (fun c16 => ?_) (fun c16 => ?_)
      · have hP := qc_ifT hP c16
        obtain ⟨x17, ex17, hP⟩ := qc_letE hP
        refine qj_iinc (v := x17) (ls1 := [some (.ref 22), some (.ref p), some (.int a2), some (.int a3), some (.int a4), some (.int x17), some (.int a6), none]) cx dX2_gatherSort_191 rfl (by rw [ex17]; rfl) rfl rfl ?_
        refine qj_goto (tgt := 40) cx dX2_gatherSort_194 (by decide) ?_
        refine qw_sub (ls1 := [some (.ref 22), some (.ref p), some (.int a2), some (.int a3), some (.int a4), some (.int x17), none, none]) rfl (qc_sb_ok ⟨rfl, rfl, rfl, rfl, rfl, rfl, trivial⟩) ?_
        exact g40 I a2 a3 a4 x17 hP
      · have hP := qc_ifF hP c16
        refine qj_aload_n cx dX2_gatherSort_72 rfl rfl ?_
        refine qw_getI (j := 6) cx dX2_gatherSort_73 qc_cl2 rfl (Nat.lt_of_lt_of_le (by decide) hn) rfl ww_261 ?_
        refine qj_if_eq (tgt := 87) cx dX2_gatherSort_76 (by decide) (fun c18 => ?_) (fun c18 => ?_)
        · have hP := qc_ifT hP c18
          exact L87 k40 g40 (P_X2_gatherSort_63 J p k40 f) ih I a2 a3 a4 a5 a6 hP
        · have hP := qc_ifF hP c18
          refine qj_aload_n cx dX2_gatherSort_79 rfl rfl ?_
          refine qw_getI (j := 2) cx dX2_gatherSort_80 qc_cl2 rfl (Nat.lt_of_lt_of_le (by decide) hn) rfl ww_256 ?_
          refine qj_if_le (tgt := 87) cx dX2_gatherSort_83 (by decide) (fun c19 => ?_) (fun c19 => ?_)
          · have hP := qc_ifT hP c19
            exact L87 k40 g40 (P_X2_gatherSort_63 J p k40 f) ih I a2 a3 a4 a5 a6 hP
          · have hP := qc_ifF hP c19
            exact qw_vret cx hz dX2_gatherSort_86 (Nat.zero_le _) (Nat.zero_le _) (Option.some.inj hP) rfl
  have L40 : ∀  (f : Nat) (I : (Nat → Nat → Int32)) (a2 : Int32) (a3 : Int32) (a4 : Int32) (a5 : Int32), P_X2_gatherSort_40 J p f I a2 a3 a4 a5 = some q0 → qc_J F 0 0 40 [some (.ref 22), some (.ref p), some (.int a2), some (.int a3), some (.int a4), some (.int a5), none, none] [] (I, J, (rX w, kX, nX, n)) := by
    intro  f
    induction f with
    | zero => intro I a2 a3 a4 a5 hP; cases hP
    | succ f ih =>
      intro I a2 a3 a4 a5 hP
      rw [P_X2_gatherSort_40] at hP
      refine qj_iload cx dX2_gatherSort_40 rfl ?_
      refine qj_aload_n cx dX2_gatherSort_42 rfl rfl ?_
      refine qw_getI (j := 4) cx dX2_gatherSort_43 qc_cl2 rfl (Nat.lt_of_lt_of_le (by decide) hn) rfl ww_259 ?_
      refine qj_icmp_ge (tgt := 197) cx dX2_gatherSort_46 (by decide) (fun c20 => ?_) (fun c20 => ?_)
      · have hP := qc_ifT hP c20
        exact qw_vret cx hz dX2_gatherSort_197 (Nat.zero_le _) (Nat.zero_le _) (Option.some.inj hP) rfl
      · have hP := qc_ifF hP c20
        refine qj_iload_n cx dX2_gatherSort_49 rfl rfl ?_
        obtain ⟨v22, hv22, hP⟩ := Option.bind_eq_some_iff.mp hP
        have Kv22 : qc_J F 0 0 61 [some (.ref 22), some (.ref p), some (.int a2), some (.int a3), some (.int a4), some (.int a5), none, none] [.int v22] (I, J, (rX w, kX, nX, n)) := by
          refine qj_istore (ls1 := [some (.ref 22), some (.ref p), some (.int a2), some (.int a3), some (.int a4), some (.int a5), some (.int v22), none]) cx dX2_gatherSort_61 rfl rfl rfl ?_
          exact L63 (P_X2_gatherSort_40 J p f) ih qc_fu I a2 a3 a4 a5 v22 hP
        refine qj_if_eq (tgt := 60) cx dX2_gatherSort_50 (by decide) (fun c21 => ?_) (fun c21 => ?_)
        · have hv22 := qc_ifT hv22 c21
          refine qj_iconst (v := (0 : Int32)) cx dX2_gatherSort_60 (by decide) ?_
          exact qw_top (Option.some.inj hv22).symm Kv22
        · have hv22 := qc_ifF hv22 c21
          refine qj_iload cx dX2_gatherSort_53 rfl ?_
          refine qj_iconst (v := (1 : Int32)) cx dX2_gatherSort_55 (by decide) ?_
          refine qj_iadd cx dX2_gatherSort_56 ?_
          refine qj_goto (tgt := 61) cx dX2_gatherSort_57 (by decide) ?_
          exact qw_top (Option.some.inj hv22).symm Kv22
  show qc_J F 0 0 0 [some (.ref 22), some (.ref p), some (.int a), none, none, none, none, none] [] (I, J, (rX w, kX, nX, n))
  unfold P_X2_gatherSort at hP
  refine qj_gets (i := 0) (ref := "") (host := "QuietChannels") cx dX2_gatherSort_0 (by decide) (List.mem_of_getElem? (i := 1) rfl) (Nat.le_trans hn1 (by decide)) ?_
  refine qj_iload_n cx dX2_gatherSort_3 rfl rfl ?_
  obtain ⟨c23, hP⟩ := qc_ck hP
  refine qw_tald (i := 0) cx dX2_gatherSort_4 (by decide) (Nat.le_trans hn1 (by decide)) c23 ?_
  refine qj_gets (i := 1) (ref := "") (host := "QuietChannels") cx dX2_gatherSort_5 (by decide) (List.mem_of_getElem? (i := 2) rfl) (Nat.le_trans hn1 (by decide)) ?_
  refine qj_iload_n cx dX2_gatherSort_8 rfl rfl ?_
  obtain ⟨c24, hP⟩ := qc_ck hP
  refine qw_tald (i := 1) cx dX2_gatherSort_9 (by decide) (Nat.le_trans hn1 (by decide)) c24 ?_
  obtain ⟨v26, hv26, hP⟩ := Option.bind_eq_some_iff.mp hP
  have Kv26 : qc_J F 0 0 18 [some (.ref 22), some (.ref p), some (.int a), none, none, none, none, none] [.int v26] (I, J, (rX w, kX, nX, n)) := by
    refine qj_istore_n (ls1 := [some (.ref 22), some (.ref p), some (.int a), some (.int v26), none, none, none, none]) cx dX2_gatherSort_18 rfl rfl rfl rfl ?_
    refine qj_gets (i := 2) (ref := "") (host := "QuietChannels") cx dX2_gatherSort_19 (by decide) (List.mem_of_getElem? (i := 3) rfl) (Nat.le_trans hn1 (by decide)) ?_
    refine qj_iload_n cx dX2_gatherSort_22 rfl rfl ?_
    obtain ⟨c27, hP⟩ := qc_ck hP
    refine qw_tald (i := 2) cx dX2_gatherSort_23 (by decide) (Nat.le_trans hn1 (by decide)) c27 ?_
    obtain ⟨v29, hv29, hP⟩ := Option.bind_eq_some_iff.mp hP
    have Kv29 : qc_J F 0 0 35 [some (.ref 22), some (.ref p), some (.int a), some (.int v26), none, none, none, none] [.int v29] (I, J, (rX w, kX, nX, n)) := by
      refine qj_istore (ls1 := [some (.ref 22), some (.ref p), some (.int a), some (.int v26), some (.int v29), none, none, none]) cx dX2_gatherSort_35 rfl rfl rfl ?_
      refine qj_iconst (v := (0 : Int32)) cx dX2_gatherSort_37 (by decide) ?_
      refine qj_istore (ls1 := [some (.ref 22), some (.ref p), some (.int a), some (.int v26), some (.int v29), some (.int (0 : Int32)), none, none]) cx dX2_gatherSort_38 rfl rfl rfl ?_
      exact L40 qc_fu I a v26 v29 (0 : Int32) hP
    refine qj_if_ne (tgt := 31) cx dX2_gatherSort_24 (by decide) (fun c28 => ?_) (fun c28 => ?_)
    · have hv29 := qc_ifF hv29 c28
      refine qj_aload_n cx dX2_gatherSort_31 rfl rfl ?_
      refine qw_getI (j := 4) cx dX2_gatherSort_32 qc_cl2 rfl (Nat.lt_of_lt_of_le (by decide) hn) rfl ww_259 ?_
      exact qw_top (Option.some.inj hv29).symm Kv29
    · have hv29 := qc_ifT hv29 c28
      refine qj_iconst (v := (0 : Int32)) cx dX2_gatherSort_27 (by decide) ?_
      refine qj_goto (tgt := 35) cx dX2_gatherSort_28 (by decide) ?_
      exact qw_top (Option.some.inj hv29).symm Kv29
  refine qj_icmp_ne (tgt := 17) cx dX2_gatherSort_10 (by decide) (fun c25 => ?_) (fun c25 => ?_)
  · have hv26 := qc_ifF hv26 c25
    refine qj_iconst (v := (0 : Int32)) cx dX2_gatherSort_17 (by decide) ?_
    exact qw_top (Option.some.inj hv26).symm Kv26
  · have hv26 := qc_ifT hv26 c25
    refine qj_iconst (v := (1 : Int32)) cx dX2_gatherSort_13 (by decide) ?_
    refine qj_goto (tgt := 18) cx dX2_gatherSort_14 (by decide) ?_
    exact qw_top (Option.some.inj hv26).symm Kv26
def P_X2_sumOfSort_42 (I : Nat → Nat → Int32) (k5 : Int32 → Int32 → Int32 → Int32 → Option (Int32)) (a1 : Int32) (a2 : Int32) (a3 : Int32) (a4 : Int32) : Option (Int32) :=
  qc_let (a4 + (1 : Int32)) fun x1 =>
  k5 a1 a2 a3 x1
def P_X2_sumOfSort_32 (I : Nat → Nat → Int32) (k5 : Int32 → Int32 → Int32 → Int32 → Option (Int32)) (a1 : Int32) (a2 : Int32) (a3 : Int32) (a4 : Int32) : Option (Int32) :=
  (P_X2_share I a4 a2).bind fun q2 =>
  qc_let (a3 + q2) fun x3 =>
  P_X2_sumOfSort_42 I k5 a1 a2 x3 a4
def P_X2_sumOfSort_5 (I : Nat → Nat → Int32) : Nat → Int32 → Int32 → Int32 → Int32 → Option (Int32)
  | 0, _, _, _, _ => none
  | f + 1, a1, a2, a3, a4 =>
  if I 22 1 ≤ a4 then
  some a3
  else
  if a1 = (-1 : Int32) then
  P_X2_sumOfSort_32 I (P_X2_sumOfSort_5 I f) a1 a2 a3 a4
  else
  if qc_in a4 700 then
  if I 24 a4.toNatClampNeg = a1 then
  P_X2_sumOfSort_32 I (P_X2_sumOfSort_5 I f) a1 a2 a3 a4
  else
  P_X2_sumOfSort_42 I (P_X2_sumOfSort_5 I f) a1 a2 a3 a4
  else none
def P_X2_sumOfSort (I : Nat → Nat → Int32) (a : Int32) (b : Int32) : Option (Int32) :=
  P_X2_sumOfSort_5 I qc_fu a b (0 : Int32) (0 : Int32)
set_option maxRecDepth 20000 in
theorem c_X2_sumOfSort {I : Nat → Nat → Int32} {J : Nat → Nat → Int64} {w : Nat → Nat} {n : Nat} (hn : 121 ≤ n) (hn1 : n ≤ 200) {a : Int32} {b : Int32} {q0 : Int32} (hP : P_X2_sumOfSort I a b = some q0) : ∀ l, qc_M l yX2_sumOfSort cX2_sumOfSort 5 (some .int) 2 42 0 0 [.ref 22, .int a, .int b] (I, J, (rX w, kX, nX, n)) (some (.int q0)) (I, J, (rX w, kX, nX, n)) := by
  intro l
  refine qc_ent2 (by decide) (Nat.le_of_ble_eq_true rfl) ?_
  intro F hn0 cx hz
  have cx : qc_X F cX2_sumOfSort RX2 "sumOfSort" 2 0 0 42 := cx
  have L42 : ∀ (k5 : Int32 → Int32 → Int32 → Int32 → Option (Int32)) (g5 : ∀ (a1 : Int32) (a2 : Int32) (a3 : Int32) (a4 : Int32), k5 a1 a2 a3 a4 = some q0 → qc_J F 0 0 5 [some (.ref 22), some (.int a1), some (.int a2), some (.int a3), some (.int a4)] [] (I, J, (rX w, kX, nX, n))) (a1 : Int32) (a2 : Int32) (a3 : Int32) (a4 : Int32), P_X2_sumOfSort_42 I k5 a1 a2 a3 a4 = some q0 → qc_J F 0 0 42 [some (.ref 22), some (.int a1), some (.int a2), some (.int a3), some (.int a4)] [] (I, J, (rX w, kX, nX, n)) := by
    intro k5 g5 a1 a2 a3 a4 hP
    unfold P_X2_sumOfSort_42 at hP
    obtain ⟨x1, ex1, hP⟩ := qc_letE hP
    refine qj_iinc (v := x1) (ls1 := [some (.ref 22), some (.int a1), some (.int a2), some (.int a3), some (.int x1)]) cx dX2_sumOfSort_42 rfl (by rw [ex1]; rfl) rfl rfl ?_
    refine qj_goto (tgt := 5) cx dX2_sumOfSort_45 (by decide) ?_
    exact g5 a1 a2 a3 x1 hP
  have L32 : ∀ (k5 : Int32 → Int32 → Int32 → Int32 → Option (Int32)) (g5 : ∀ (a1 : Int32) (a2 : Int32) (a3 : Int32) (a4 : Int32), k5 a1 a2 a3 a4 = some q0 → qc_J F 0 0 5 [some (.ref 22), some (.int a1), some (.int a2), some (.int a3), some (.int a4)] [] (I, J, (rX w, kX, nX, n))) (a1 : Int32) (a2 : Int32) (a3 : Int32) (a4 : Int32), P_X2_sumOfSort_32 I k5 a1 a2 a3 a4 = some q0 → qc_J F 0 0 32 [some (.ref 22), some (.int a1), some (.int a2), some (.int a3), some (.int a4)] [] (I, J, (rX w, kX, nX, n)) := by
    intro k5 g5 a1 a2 a3 a4 hP
    unfold P_X2_sumOfSort_32 at hP
    refine qj_iload_n cx dX2_sumOfSort_32 rfl rfl ?_
    refine qj_aload_n cx dX2_sumOfSort_33 rfl rfl ?_
    refine qj_iload cx dX2_sumOfSort_34 rfl ?_
    refine qj_iload_n cx dX2_sumOfSort_36 rfl rfl ?_
    obtain ⟨q2, eq2, hP⟩ := Option.bind_eq_some_iff.mp hP
    refine qj_callV (As := [.int a4, .int a2]) (st := [.int a3]) (t := 22) (h' := (I, J, (rX w, kX, nX, n))) (r := some (.int q2)) cx dX2_sumOfSort_37 (c_X2_share (I := I) (J := J) (w := w) hn hn1 eq2) gc_RX2_130 qm_X2_share rfl rfl qc_cl2 rfl (Nat.lt_of_lt_of_le (by decide) hn) (by decide) (by decide) rfl (Nat.le_of_ble_eq_true rfl) (Nat.le_trans hn1 (by decide)) hn0 rfl ?_
    refine qj_iadd cx dX2_sumOfSort_40 ?_
    obtain ⟨x3, ex3, hP⟩ := qc_letE hP
    refine qw_top ex3 ?_
    refine qj_istore_n (ls1 := [some (.ref 22), some (.int a1), some (.int a2), some (.int x3), some (.int a4)]) cx dX2_sumOfSort_41 rfl rfl rfl rfl ?_
    exact L42 k5 g5 a1 a2 x3 a4 hP
  have L5 : ∀  (f : Nat) (a1 : Int32) (a2 : Int32) (a3 : Int32) (a4 : Int32), P_X2_sumOfSort_5 I f a1 a2 a3 a4 = some q0 → qc_J F 0 0 5 [some (.ref 22), some (.int a1), some (.int a2), some (.int a3), some (.int a4)] [] (I, J, (rX w, kX, nX, n)) := by
    intro  f
    induction f with
    | zero => intro a1 a2 a3 a4 hP; cases hP
    | succ f ih =>
      intro a1 a2 a3 a4 hP
      rw [P_X2_sumOfSort_5] at hP
      refine qj_iload cx dX2_sumOfSort_5 rfl ?_
      refine qj_aload_n cx dX2_sumOfSort_7 rfl rfl ?_
      refine qw_getI (j := 1) cx dX2_sumOfSort_8 qc_cl2 rfl (Nat.lt_of_lt_of_le (by decide) hn) rfl ww_254 ?_
      refine qj_icmp_ge (tgt := 48) cx dX2_sumOfSort_11 (by decide) (fun c4 => ?_) (fun c4 => ?_)
      · have hP := qc_ifT hP c4
        refine qj_iload_n cx dX2_sumOfSort_48 rfl rfl ?_
        exact qw_iret cx hz dX2_sumOfSort_49 (Nat.zero_le _) (Nat.zero_le _) (Option.some.inj hP) rfl rfl
      · have hP := qc_ifF hP c4
        refine qj_iload_n cx dX2_sumOfSort_14 rfl rfl ?_
        refine qj_iconst (v := (-1 : Int32)) cx dX2_sumOfSort_15 (by decide) ?_
        refine qj_icmp_eq (tgt := 32) cx dX2_sumOfSort_16 (by decide) (fun c5 => ?_) (fun c5 => ?_)
        · have hP := qc_ifT hP c5
          exact L32 (P_X2_sumOfSort_5 I f) ih a1 a2 a3 a4 hP
        · have hP := qc_ifF hP c5
          refine qj_aload_n cx dX2_sumOfSort_19 rfl rfl ?_
          refine qw_getR (j := 0) (t1 := 23) cx dX2_sumOfSort_20 qc_cl2 rfl (Nat.lt_of_lt_of_le (by decide) hn) rfl ww_252 rfl ?_
          refine qj_iconst (v := (0 : Int32)) cx dX2_sumOfSort_23 (by decide) ?_
          refine qw_aald (n1 := 8) (t1 := 24) cx dX2_sumOfSort_24 rfl (Or.inr ⟨rfl, rfl⟩) (Nat.lt_of_lt_of_le (by decide) hn) rfl (by decide) rfl ?_
          refine qj_iload cx dX2_sumOfSort_25 rfl ?_
          obtain ⟨c6, hP⟩ := qc_ck hP
          refine qw_iald (n1 := 700) cx dX2_sumOfSort_27 rfl (Nat.lt_of_lt_of_le (by decide) hn) rfl c6 ?_
          refine qj_iload_n cx dX2_sumOfSort_28 rfl rfl ?_
          refine qj_icmp_ne (tgt := 42) cx dX2_sumOfSort_29 (by decide) (fun c7 => ?_) (fun c7 => ?_)
          · have hP := qc_ifF hP c7
            exact L42 (P_X2_sumOfSort_5 I f) ih a1 a2 a3 a4 hP
          · have hP := qc_ifT hP c7
            exact L32 (P_X2_sumOfSort_5 I f) ih a1 a2 a3 a4 hP
  show qc_J F 0 0 0 [some (.ref 22), some (.int a), some (.int b), none, none] [] (I, J, (rX w, kX, nX, n))
  unfold P_X2_sumOfSort at hP
  refine qj_iconst (v := (0 : Int32)) cx dX2_sumOfSort_0 (by decide) ?_
  refine qj_istore_n (ls1 := [some (.ref 22), some (.int a), some (.int b), some (.int (0 : Int32)), none]) cx dX2_sumOfSort_1 rfl rfl rfl rfl ?_
  refine qj_iconst (v := (0 : Int32)) cx dX2_sumOfSort_2 (by decide) ?_
  refine qj_istore (ls1 := [some (.ref 22), some (.int a), some (.int b), some (.int (0 : Int32)), some (.int (0 : Int32))]) cx dX2_sumOfSort_3 rfl rfl rfl ?_
  exact L5 qc_fu a b (0 : Int32) (0 : Int32) hP
def P_X3_endLine (I : Nat → Nat → Int32) : Option ((Nat → Nat → Int32)) :=
  if I 121 7 = 0 then
  (P_X3_next I).bind fun q2 =>
  if q2 121 4 = (3 : Int32) then
  qc_let (qc_u2 q2 121 9 ((q2 121 9) + (1 : Int32))) fun I5 =>
  (P_X3_next I5).bind fun q6 =>
  some q6
  else
  (P_X3_fail q2 (1 : Int32)).bind fun q4 =>
  some q4
  else
  some I
set_option maxRecDepth 20000 in
theorem c_X3_endLine {I : Nat → Nat → Int32} {J : Nat → Nat → Int64} {w : Nat → Nat} {n : Nat} (hn : 121 ≤ n) (hn1 : n ≤ 200) (hn2 : 132 ≤ n)  {q0 : (Nat → Nat → Int32)} (hP : P_X3_endLine I = some q0) : ∀ l, qc_M l yX3_endLine cX3_endLine 1 none 2 42 0 0 [.ref 121] (I, J, (rX w, kX, nX, n)) none (q0, J, (rX w, kX, nX, n)) := by
  intro l
  refine qc_ent2 (by decide) (Nat.le_of_ble_eq_true rfl) ?_
  intro F hn0 cx hz
  have cx : qc_X F cX3_endLine RX3 "endLine" 2 0 0 42 := cx
  show qc_J F 0 0 0 [some (.ref 121)] [] (I, J, (rX w, kX, nX, n))
  unfold P_X3_endLine at hP
  refine qj_aload_n cx dX3_endLine_0 rfl rfl ?_
  refine qw_getI (j := 7) cx dX3_endLine_1 qc_cl3 rfl (Nat.lt_of_lt_of_le (by decide) hn2) rfl ww_392 ?_
  refine qj_if_eq (tgt := 8) cx dX3_endLine_4 (by decide) (fun c1 => ?_) (fun c1 => ?_)
  · have hP := qc_ifT hP c1
    refine qj_aload_n cx dX3_endLine_8 rfl rfl ?_
    obtain ⟨q2, eq2, hP⟩ := Option.bind_eq_some_iff.mp hP
    refine qj_callV (As := []) (st := []) (t := 121) (h' := (q2, J, (rX w, kX, nX, n))) (r := none) cx dX3_endLine_9 (c_X3_next (I := I) (J := J) (w := w) hn hn1 hn2 eq2) gc_RX3_59 qm_X3_next rfl rfl qc_cl3 rfl (Nat.lt_of_lt_of_le (by decide) hn2) (by decide) (by decide) rfl (Nat.le_of_ble_eq_true rfl) (Nat.le_trans hn1 (by decide)) hn0 rfl ?_
    refine qj_aload_n cx dX3_endLine_12 rfl rfl ?_
    refine qw_getI (j := 4) cx dX3_endLine_13 qc_cl3 rfl (Nat.lt_of_lt_of_le (by decide) hn2) rfl ww_389 ?_
    refine qj_iconst (v := (3 : Int32)) cx dX3_endLine_16 (by decide) ?_
    refine qj_icmp_ne (tgt := 37) cx dX3_endLine_17 (by decide) (fun c3 => ?_) (fun c3 => ?_)
    · have hP := qc_ifF hP c3
      refine qj_aload_n cx dX3_endLine_37 rfl rfl ?_
      refine qj_iconst (v := (1 : Int32)) cx dX3_endLine_38 (by decide) ?_
      obtain ⟨q4, eq4, hP⟩ := Option.bind_eq_some_iff.mp hP
      refine qj_callV (As := [.int (1 : Int32)]) (st := []) (t := 121) (h' := (q4, J, (rX w, kX, nX, n))) (r := none) cx dX3_endLine_39 (c_X3_fail (I := q2) (J := J) (w := w) hn hn1 hn2 eq4) gc_RX3_110 qm_X3_fail rfl rfl qc_cl3 rfl (Nat.lt_of_lt_of_le (by decide) hn2) (by decide) (by decide) rfl (Nat.le_of_ble_eq_true rfl) (Nat.le_trans hn1 (by decide)) hn0 rfl ?_
      exact qw_vret cx hz dX3_endLine_42 (Nat.zero_le _) (Nat.zero_le _) (Option.some.inj hP) rfl
    · have hP := qc_ifT hP c3
      refine qj_aload_n cx dX3_endLine_20 rfl rfl ?_
      refine qj_dup cx dX3_endLine_21 rfl ?_
      refine qw_getI (j := 9) cx dX3_endLine_22 qc_cl3 rfl (Nat.lt_of_lt_of_le (by decide) hn2) rfl ww_396 ?_
      refine qj_iconst (v := (1 : Int32)) cx dX3_endLine_25 (by decide) ?_
      refine qj_iadd cx dX3_endLine_26 ?_
      obtain ⟨I5, eI5, hP⟩ := qc_letE hP
      refine qw_putI (j := 9) cx dX3_endLine_27 qc_cl3 rfl (Nat.lt_of_lt_of_le (by decide) hn2) rfl ww_396 rfl rfl rfl eI5 ?_
      refine qj_aload_n cx dX3_endLine_30 rfl rfl ?_
      obtain ⟨q6, eq6, hP⟩ := Option.bind_eq_some_iff.mp hP
      refine qj_callV (As := []) (st := []) (t := 121) (h' := (q6, J, (rX w, kX, nX, n))) (r := none) cx dX3_endLine_31 (c_X3_next (I := I5) (J := J) (w := w) hn hn1 hn2 eq6) gc_RX3_59 qm_X3_next rfl rfl qc_cl3 rfl (Nat.lt_of_lt_of_le (by decide) hn2) (by decide) (by decide) rfl (Nat.le_of_ble_eq_true rfl) (Nat.le_trans hn1 (by decide)) hn0 rfl ?_
      refine qj_goto (tgt := 42) cx dX3_endLine_34 (by decide) ?_
      exact qw_vret cx hz dX3_endLine_42 (Nat.zero_le _) (Nat.zero_le _) (Option.some.inj hP) rfl
  · have hP := qc_ifF hP c1
    exact qw_vret cx hz dX3_endLine_7 (Nat.zero_le _) (Nat.zero_le _) (Option.some.inj hP) rfl
def P_X3_takeNumber (I : Nat → Nat → Int32) (a : Int32) (b : Int32) : Option (Int32 × (Nat → Nat → Int32)) :=
  if I 121 7 = 0 then
  (P_X3_next I).bind fun q2 =>
  if q2 121 4 = (2 : Int32) then
  (if q2 121 6 < a then
  (P_X3_fail q2 (2 : Int32)).bind fun q5 =>
  some (a, q5)
  else
  if q2 121 6 ≤ b then
  some (q2 121 6, q2)
  else
  (P_X3_fail q2 (2 : Int32)).bind fun q7 =>
  some (a, q7))
  else
  (P_X3_fail q2 (1 : Int32)).bind fun q8 =>
  some (a, q8)
  else
  some (a, I)
set_option maxRecDepth 20000 in
theorem c_X3_takeNumber {I : Nat → Nat → Int32} {J : Nat → Nat → Int64} {w : Nat → Nat} {n : Nat} (hn : 121 ≤ n) (hn1 : n ≤ 200) (hn2 : 132 ≤ n) {a : Int32} {b : Int32} {q0 : Int32 × (Nat → Nat → Int32)} (hP : P_X3_takeNumber I a b = some q0) : ∀ l, qc_M l yX3_takeNumber cX3_takeNumber 3 (some .int) 2 42 0 0 [.ref 121, .int a, .int b] (I, J, (rX w, kX, nX, n)) (some (.int q0.1)) (q0.2, J, (rX w, kX, nX, n)) := by
  intro l
  refine qc_ent2 (by decide) (Nat.le_of_ble_eq_true rfl) ?_
  intro F hn0 cx hz
  have cx : qc_X F cX3_takeNumber RX3 "takeNumber" 2 0 0 42 := cx
  show qc_J F 0 0 0 [some (.ref 121), some (.int a), some (.int b)] [] (I, J, (rX w, kX, nX, n))
  unfold P_X3_takeNumber at hP
  refine qj_aload_n cx dX3_takeNumber_0 rfl rfl ?_
  refine qw_getI (j := 7) cx dX3_takeNumber_1 qc_cl3 rfl (Nat.lt_of_lt_of_le (by decide) hn2) rfl ww_392 ?_
  refine qj_if_eq (tgt := 9) cx dX3_takeNumber_4 (by decide) (fun c1 => ?_) (fun c1 => ?_)
  · have hP := qc_ifT hP c1
    refine qj_aload_n cx dX3_takeNumber_9 rfl rfl ?_
    obtain ⟨q2, eq2, hP⟩ := Option.bind_eq_some_iff.mp hP
    refine qj_callV (As := []) (st := []) (t := 121) (h' := (q2, J, (rX w, kX, nX, n))) (r := none) cx dX3_takeNumber_10 (c_X3_next (I := I) (J := J) (w := w) hn hn1 hn2 eq2) gc_RX3_59 qm_X3_next rfl rfl qc_cl3 rfl (Nat.lt_of_lt_of_le (by decide) hn2) (by decide) (by decide) rfl (Nat.le_of_ble_eq_true rfl) (Nat.le_trans hn1 (by decide)) hn0 rfl ?_
    refine qj_aload_n cx dX3_takeNumber_13 rfl rfl ?_
    refine qw_getI (j := 4) cx dX3_takeNumber_14 qc_cl3 rfl (Nat.lt_of_lt_of_le (by decide) hn2) rfl ww_389 ?_
    refine qj_iconst (v := (2 : Int32)) cx dX3_takeNumber_17 (by decide) ?_
    refine qj_icmp_eq (tgt := 28) cx dX3_takeNumber_18 (by decide) (fun c3 => ?_) (fun c3 => ?_)
    · have hP := qc_ifT hP c3
      refine qj_aload_n cx dX3_takeNumber_28 rfl rfl ?_
      refine qw_getI (j := 6) cx dX3_takeNumber_29 qc_cl3 rfl (Nat.lt_of_lt_of_le (by decide) hn2) rfl ww_391 ?_
      refine qj_iload_n cx dX3_takeNumber_32 rfl rfl ?_
      refine qj_icmp_lt (tgt := 44) cx dX3_takeNumber_33 (by decide) (fun c4 => ?_) (fun c4 => ?_)
      · have hP := qc_ifT hP c4
        refine qj_aload_n cx dX3_takeNumber_44 rfl rfl ?_
        refine qj_iconst (v := (2 : Int32)) cx dX3_takeNumber_45 (by decide) ?_
        obtain ⟨q5, eq5, hP⟩ := Option.bind_eq_some_iff.mp hP
        refine qj_callV (As := [.int (2 : Int32)]) (st := []) (t := 121) (h' := (q5, J, (rX w, kX, nX, n))) (r := none) cx dX3_takeNumber_46 (c_X3_fail (I := q2) (J := J) (w := w) hn hn1 hn2 eq5) gc_RX3_110 qm_X3_fail rfl rfl qc_cl3 rfl (Nat.lt_of_lt_of_le (by decide) hn2) (by decide) (by decide) rfl (Nat.le_of_ble_eq_true rfl) (Nat.le_trans hn1 (by decide)) hn0 rfl ?_
        refine qj_iload_n cx dX3_takeNumber_49 rfl rfl ?_
        exact qw_iret cx hz dX3_takeNumber_50 (Nat.zero_le _) (Nat.zero_le _) (congrArg (fun q => q.1) (Option.some.inj hP)) (congrArg (fun q => q.2) (Option.some.inj hP)) rfl
      · have hP := qc_ifF hP c4
        refine qj_aload_n cx dX3_takeNumber_36 rfl rfl ?_
        refine qw_getI (j := 6) cx dX3_takeNumber_37 qc_cl3 rfl (Nat.lt_of_lt_of_le (by decide) hn2) rfl ww_391 ?_
        refine qj_iload_n cx dX3_takeNumber_40 rfl rfl ?_
        refine qj_icmp_le (tgt := 51) cx dX3_takeNumber_41 (by decide) (fun c6 => ?_) (fun c6 => ?_)
        · have hP := qc_ifT hP c6
          refine qj_aload_n cx dX3_takeNumber_51 rfl rfl ?_
          refine qw_getI (j := 6) cx dX3_takeNumber_52 qc_cl3 rfl (Nat.lt_of_lt_of_le (by decide) hn2) rfl ww_391 ?_
          exact qw_iret cx hz dX3_takeNumber_55 (Nat.zero_le _) (Nat.zero_le _) (congrArg (fun q => q.1) (Option.some.inj hP)) (congrArg (fun q => q.2) (Option.some.inj hP)) rfl
        · have hP := qc_ifF hP c6
          refine qj_aload_n cx dX3_takeNumber_44 rfl rfl ?_
          refine qj_iconst (v := (2 : Int32)) cx dX3_takeNumber_45 (by decide) ?_
          obtain ⟨q7, eq7, hP⟩ := Option.bind_eq_some_iff.mp hP
          refine qj_callV (As := [.int (2 : Int32)]) (st := []) (t := 121) (h' := (q7, J, (rX w, kX, nX, n))) (r := none) cx dX3_takeNumber_46 (c_X3_fail (I := q2) (J := J) (w := w) hn hn1 hn2 eq7) gc_RX3_110 qm_X3_fail rfl rfl qc_cl3 rfl (Nat.lt_of_lt_of_le (by decide) hn2) (by decide) (by decide) rfl (Nat.le_of_ble_eq_true rfl) (Nat.le_trans hn1 (by decide)) hn0 rfl ?_
          refine qj_iload_n cx dX3_takeNumber_49 rfl rfl ?_
          exact qw_iret cx hz dX3_takeNumber_50 (Nat.zero_le _) (Nat.zero_le _) (congrArg (fun q => q.1) (Option.some.inj hP)) (congrArg (fun q => q.2) (Option.some.inj hP)) rfl
    · have hP := qc_ifF hP c3
      refine qj_aload_n cx dX3_takeNumber_21 rfl rfl ?_
      refine qj_iconst (v := (1 : Int32)) cx dX3_takeNumber_22 (by decide) ?_
      obtain ⟨q8, eq8, hP⟩ := Option.bind_eq_some_iff.mp hP
      refine qj_callV (As := [.int (1 : Int32)]) (st := []) (t := 121) (h' := (q8, J, (rX w, kX, nX, n))) (r := none) cx dX3_takeNumber_23 (c_X3_fail (I := q2) (J := J) (w := w) hn hn1 hn2 eq8) gc_RX3_110 qm_X3_fail rfl rfl qc_cl3 rfl (Nat.lt_of_lt_of_le (by decide) hn2) (by decide) (by decide) rfl (Nat.le_of_ble_eq_true rfl) (Nat.le_trans hn1 (by decide)) hn0 rfl ?_
      refine qj_iload_n cx dX3_takeNumber_26 rfl rfl ?_
      exact qw_iret cx hz dX3_takeNumber_27 (Nat.zero_le _) (Nat.zero_le _) (congrArg (fun q => q.1) (Option.some.inj hP)) (congrArg (fun q => q.2) (Option.some.inj hP)) rfl
  · have hP := qc_ifF hP c1
    refine qj_iload_n cx dX3_takeNumber_7 rfl rfl ?_
    exact qw_iret cx hz dX3_takeNumber_8 (Nat.zero_le _) (Nat.zero_le _) (congrArg (fun q => q.1) (Option.some.inj hP)) (congrArg (fun q => q.2) (Option.some.inj hP)) rfl
def P_X3_takeName (I : Nat → Nat → Int32) : Option (Int32 × (Nat → Nat → Int32)) :=
  if I 121 7 = 0 then
  (P_X3_next I).bind fun q2 =>
  if q2 121 4 = (1 : Int32) then
  (P_X3_isOfLanguage (q2 121 6)).bind fun q5 =>
  if q5 = 0 then
  some (q2 121 6, q2)
  else
  (P_X3_fail q2 (1 : Int32)).bind fun q7 =>
  some ((0 : Int32), q7)
  else
  (P_X3_fail q2 (1 : Int32)).bind fun q4 =>
  some ((0 : Int32), q4)
  else
  some ((0 : Int32), I)
set_option maxRecDepth 20000 in
theorem c_X3_takeName {I : Nat → Nat → Int32} {J : Nat → Nat → Int64} {w : Nat → Nat} {n : Nat} (hn : 121 ≤ n) (hn1 : n ≤ 200) (hn2 : 132 ≤ n)  {q0 : Int32 × (Nat → Nat → Int32)} (hP : P_X3_takeName I = some q0) : ∀ l, qc_M l yX3_takeName cX3_takeName 1 (some .int) 2 42 0 0 [.ref 121] (I, J, (rX w, kX, nX, n)) (some (.int q0.1)) (q0.2, J, (rX w, kX, nX, n)) := by
  intro l
  refine qc_ent2 (by decide) (Nat.le_of_ble_eq_true rfl) ?_
  intro F hn0 cx hz
  have cx : qc_X F cX3_takeName RX3 "takeName" 2 0 0 42 := cx
  show qc_J F 0 0 0 [some (.ref 121)] [] (I, J, (rX w, kX, nX, n))
  unfold P_X3_takeName at hP
  refine qj_aload_n cx dX3_takeName_0 rfl rfl ?_
  refine qw_getI (j := 7) cx dX3_takeName_1 qc_cl3 rfl (Nat.lt_of_lt_of_le (by decide) hn2) rfl ww_392 ?_
  refine qj_if_eq (tgt := 9) cx dX3_takeName_4 (by decide) (fun c1 => ?_) (fun c1 => ?_)
  · have hP := qc_ifT hP c1
    refine qj_aload_n cx dX3_takeName_9 rfl rfl ?_
    obtain ⟨q2, eq2, hP⟩ := Option.bind_eq_some_iff.mp hP
    refine qj_callV (As := []) (st := []) (t := 121) (h' := (q2, J, (rX w, kX, nX, n))) (r := none) cx dX3_takeName_10 (c_X3_next (I := I) (J := J) (w := w) hn hn1 hn2 eq2) gc_RX3_59 qm_X3_next rfl rfl qc_cl3 rfl (Nat.lt_of_lt_of_le (by decide) hn2) (by decide) (by decide) rfl (Nat.le_of_ble_eq_true rfl) (Nat.le_trans hn1 (by decide)) hn0 rfl ?_
    refine qj_aload_n cx dX3_takeName_13 rfl rfl ?_
    refine qw_getI (j := 4) cx dX3_takeName_14 qc_cl3 rfl (Nat.lt_of_lt_of_le (by decide) hn2) rfl ww_389 ?_
    refine qj_iconst (v := (1 : Int32)) cx dX3_takeName_17 (by decide) ?_
    refine qj_icmp_ne (tgt := 31) cx dX3_takeName_18 (by decide) (fun c3 => ?_) (fun c3 => ?_)
    · have hP := qc_ifF hP c3
      refine qj_aload_n cx dX3_takeName_31 rfl rfl ?_
      refine qj_iconst (v := (1 : Int32)) cx dX3_takeName_32 (by decide) ?_
      obtain ⟨q4, eq4, hP⟩ := Option.bind_eq_some_iff.mp hP
      refine qj_callV (As := [.int (1 : Int32)]) (st := []) (t := 121) (h' := (q4, J, (rX w, kX, nX, n))) (r := none) cx dX3_takeName_33 (c_X3_fail (I := q2) (J := J) (w := w) hn hn1 hn2 eq4) gc_RX3_110 qm_X3_fail rfl rfl qc_cl3 rfl (Nat.lt_of_lt_of_le (by decide) hn2) (by decide) (by decide) rfl (Nat.le_of_ble_eq_true rfl) (Nat.le_trans hn1 (by decide)) hn0 rfl ?_
      refine qj_iconst (v := (0 : Int32)) cx dX3_takeName_36 (by decide) ?_
      exact qw_iret cx hz dX3_takeName_37 (Nat.zero_le _) (Nat.zero_le _) (congrArg (fun q => q.1) (Option.some.inj hP)) (congrArg (fun q => q.2) (Option.some.inj hP)) rfl
    · have hP := qc_ifT hP c3
      refine qj_aload_n cx dX3_takeName_21 rfl rfl ?_
      refine qw_getI (j := 6) cx dX3_takeName_22 qc_cl3 rfl (Nat.lt_of_lt_of_le (by decide) hn2) rfl ww_391 ?_
      obtain ⟨q5, eq5, hP⟩ := Option.bind_eq_some_iff.mp hP
      refine qj_callS (As := [.int (q2 121 6)]) (st := []) (h' := (q2, J, (rX w, kX, nX, n))) (r := some (.int q5)) cx dX3_takeName_25 (c_X3_isOfLanguage (S := (rX w, kX, nX, n)) (I := q2) (J := J) eq5) gc_RX3_158 qm_X3_isOfLanguage rfl (by decide) (by decide) rfl (Nat.le_of_ble_eq_true rfl) (Nat.le_trans hn1 (by decide)) hn0 rfl ?_
      refine qj_if_eq (tgt := 38) cx dX3_takeName_28 (by decide) (fun c6 => ?_) (fun c6 => ?_)
      · have hP := qc_ifT hP c6
        refine qj_aload_n cx dX3_takeName_38 rfl rfl ?_
        refine qw_getI (j := 6) cx dX3_takeName_39 qc_cl3 rfl (Nat.lt_of_lt_of_le (by decide) hn2) rfl ww_391 ?_
        exact qw_iret cx hz dX3_takeName_42 (Nat.zero_le _) (Nat.zero_le _) (congrArg (fun q => q.1) (Option.some.inj hP)) (congrArg (fun q => q.2) (Option.some.inj hP)) rfl
      · have hP := qc_ifF hP c6
        refine qj_aload_n cx dX3_takeName_31 rfl rfl ?_
        refine qj_iconst (v := (1 : Int32)) cx dX3_takeName_32 (by decide) ?_
        obtain ⟨q7, eq7, hP⟩ := Option.bind_eq_some_iff.mp hP
        refine qj_callV (As := [.int (1 : Int32)]) (st := []) (t := 121) (h' := (q7, J, (rX w, kX, nX, n))) (r := none) cx dX3_takeName_33 (c_X3_fail (I := q2) (J := J) (w := w) hn hn1 hn2 eq7) gc_RX3_110 qm_X3_fail rfl rfl qc_cl3 rfl (Nat.lt_of_lt_of_le (by decide) hn2) (by decide) (by decide) rfl (Nat.le_of_ble_eq_true rfl) (Nat.le_trans hn1 (by decide)) hn0 rfl ?_
        refine qj_iconst (v := (0 : Int32)) cx dX3_takeName_36 (by decide) ?_
        exact qw_iret cx hz dX3_takeName_37 (Nat.zero_le _) (Nat.zero_le _) (congrArg (fun q => q.1) (Option.some.inj hP)) (congrArg (fun q => q.2) (Option.some.inj hP)) rfl
  · have hP := qc_ifF hP c1
    refine qj_iconst (v := (0 : Int32)) cx dX3_takeName_7 (by decide) ?_
    exact qw_iret cx hz dX3_takeName_8 (Nat.zero_le _) (Nat.zero_le _) (congrArg (fun q => q.1) (Option.some.inj hP)) (congrArg (fun q => q.2) (Option.some.inj hP)) rfl
def P_X3_takeUser (I : Nat → Nat → Int32) : Option (Int32 × (Nat → Nat → Int32)) :=
  (P_X3_takeName I).bind fun q1 =>
  (P_X4_userOfName q1.2 122 q1.1).bind fun q2 =>
  if 0 ≤ q2 then
  some (q2, q1.2)
  else
  (P_X3_fail q1.2 (4 : Int32)).bind fun q4 =>
  some (q2, q4)
set_option maxRecDepth 20000 in
theorem c_X3_takeUser {I : Nat → Nat → Int32} {J : Nat → Nat → Int64} {w : Nat → Nat} {n : Nat} (hn : 121 ≤ n) (hn1 : n ≤ 200) (hn2 : 132 ≤ n)  {q0 : Int32 × (Nat → Nat → Int32)} (hP : P_X3_takeUser I = some q0) : ∀ l, qc_M l yX3_takeUser cX3_takeUser 2 (some .int) 3 62 0 0 [.ref 121] (I, J, (rX w, kX, nX, n)) (some (.int q0.1)) (q0.2, J, (rX w, kX, nX, n)) := by
  intro l
  refine qc_ent2 (by decide) (Nat.le_of_ble_eq_true rfl) ?_
  intro F hn0 cx hz
  have cx : qc_X F cX3_takeUser RX3 "takeUser" 3 0 0 62 := cx
  show qc_J F 0 0 0 [some (.ref 121), none] [] (I, J, (rX w, kX, nX, n))
  unfold P_X3_takeUser at hP
  refine qj_aload_n cx dX3_takeUser_0 rfl rfl ?_
  refine qw_getR (j := 2) (t1 := 122) cx dX3_takeUser_1 qc_cl3 rfl (Nat.lt_of_lt_of_le (by decide) hn2) rfl ww_386 rfl ?_
  refine qj_aload_n cx dX3_takeUser_4 rfl rfl ?_
  obtain ⟨q1, eq1, hP⟩ := Option.bind_eq_some_iff.mp hP
  refine qj_callV (As := []) (st := [.ref 122]) (t := 121) (h' := (q1.2, J, (rX w, kX, nX, n))) (r := some (.int q1.1)) cx dX3_takeUser_5 (c_X3_takeName (I := I) (J := J) (w := w) hn hn1 hn2 eq1) gc_RX3_119 qm_X3_takeName rfl rfl qc_cl3 rfl (Nat.lt_of_lt_of_le (by decide) hn2) (by decide) (by decide) rfl (Nat.le_of_ble_eq_true rfl) (Nat.le_trans hn1 (by decide)) hn0 rfl ?_
  obtain ⟨q2, eq2, hP⟩ := Option.bind_eq_some_iff.mp hP
  refine qj_callV (As := [.int q1.1]) (st := []) (t := 122) (h' := (q1.2, J, (rX w, kX, nX, n))) (r := some (.int q2)) cx dX3_takeUser_8 (c_X4_userOfName (I := q1.2) (J := J) (w := w) hn hn1 (qc_sc122 hn2) eq2) gc_RX3_123 qm_X4_userOfName rfl rfl qc_cl4 rfl (Nat.lt_of_lt_of_le (by decide) hn2) (by decide) (by decide) rfl (Nat.le_of_ble_eq_true rfl) (Nat.le_trans hn1 (by decide)) hn0 rfl ?_
  refine qj_istore_n (ls1 := [some (.ref 121), some (.int q2)]) cx dX3_takeUser_11 rfl rfl rfl rfl ?_
  refine qj_iload_n cx dX3_takeUser_12 rfl rfl ?_
  refine qj_if_ge (tgt := 21) cx dX3_takeUser_13 (by decide) (fun c3 => ?_) (fun c3 => ?_)
  · have hP := qc_ifT hP c3
    refine qj_iload_n cx dX3_takeUser_21 rfl rfl ?_
    exact qw_iret cx hz dX3_takeUser_22 (Nat.zero_le _) (Nat.zero_le _) (congrArg (fun q => q.1) (Option.some.inj hP)) (congrArg (fun q => q.2) (Option.some.inj hP)) rfl
  · have hP := qc_ifF hP c3
    refine qj_aload_n cx dX3_takeUser_16 rfl rfl ?_
    refine qj_iconst (v := (4 : Int32)) cx dX3_takeUser_17 (by decide) ?_
    obtain ⟨q4, eq4, hP⟩ := Option.bind_eq_some_iff.mp hP
    refine qj_callV (As := [.int (4 : Int32)]) (st := []) (t := 121) (h' := (q4, J, (rX w, kX, nX, n))) (r := none) cx dX3_takeUser_18 (c_X3_fail (I := q1.2) (J := J) (w := w) hn hn1 hn2 eq4) gc_RX3_110 qm_X3_fail rfl rfl qc_cl3 rfl (Nat.lt_of_lt_of_le (by decide) hn2) (by decide) (by decide) rfl (Nat.le_of_ble_eq_true rfl) (Nat.le_trans hn1 (by decide)) hn0 rfl ?_
    refine qj_iload_n cx dX3_takeUser_21 rfl rfl ?_
    exact qw_iret cx hz dX3_takeUser_22 (Nat.zero_le _) (Nat.zero_le _) (congrArg (fun q => q.1) (Option.some.inj hP)) (congrArg (fun q => q.2) (Option.some.inj hP)) rfl
def P_X2_gather_62 (p : Nat) (k25 : (Nat → Nat → Int32) → (Nat → Nat → Int64) → Int32 → Option ((Nat → Nat → Int32) × (Nat → Nat → Int64))) (k39 : (Nat → Nat → Int32) → (Nat → Nat → Int64) → Int32 → Int32 → Option ((Nat → Nat → Int32) × (Nat → Nat → Int64))) (I : (Nat → Nat → Int32)) (J : (Nat → Nat → Int64)) (a3 : Int32) (a4 : Int32) : Option ((Nat → Nat → Int32) × (Nat → Nat → Int64)) :=
  qc_let (a4 + (1 : Int32)) fun x1 =>
  k39 I J a3 x1
def P_X2_gather_39 (p : Nat) (k25 : (Nat → Nat → Int32) → (Nat → Nat → Int64) → Int32 → Option ((Nat → Nat → Int32) × (Nat → Nat → Int64))) : Nat → (Nat → Nat → Int32) → (Nat → Nat → Int64) → Int32 → Int32 → Option ((Nat → Nat → Int32) × (Nat → Nat → Int64))
  | 0, _, _, _, _ => none
  | f + 1, I, J, a3, a4 =>
  if (6 : Int32) ≤ a4 then
  qc_let (a3 + (1 : Int32)) fun x3 =>
  k25 I J x3
  else
  (P_X4_wantsSort I p a4).bind fun q4 =>
  if q4 = 0 then
  P_X2_gather_62 p k25 (P_X2_gather_39 p k25 f) I J a3 a4
  else
  (P_X2_gatherSort I J p a4).bind fun q6 =>
  P_X2_gather_62 p k25 (P_X2_gather_39 p k25 f) q6 J a3 a4
def P_X2_gather_25 (p : Nat) : Nat → (Nat → Nat → Int32) → (Nat → Nat → Int64) → Int32 → Option ((Nat → Nat → Int32) × (Nat → Nat → Int64))
  | 0, _, _, _ => none
  | f + 1, I, J, a3 =>
  if (3 : Int32) ≤ a3 then
  some (I, J)
  else
  (P_X2_gatherCrew I p a3).bind fun q8 =>
  P_X2_gather_39 p (P_X2_gather_25 p f) qc_fu q8 J a3 (0 : Int32)
def P_X2_gather (I : Nat → Nat → Int32) (J : Nat → Nat → Int64) (p : Nat) (a : Int32) : Option ((Nat → Nat → Int32) × (Nat → Nat → Int64)) :=
  qc_let (qc_u2 I 22 1 (0 : Int32)) fun I9 =>
  qc_let (qc_u2 I9 22 2 (0 : Int32)) fun I10 =>
  (if qc_bo a then
  qc_let (qc_u2 I10 22 6 a) fun I11 =>
  (P_X4_guardedChannels I11 p).bind fun q13 =>
  qc_let (qc_u2 J 22 5 q13) fun J14 =>
  P_X2_gather_25 p qc_fu I11 J14 (0 : Int32)
  else none)
set_option maxRecDepth 20000 in
theorem c_X2_gather {I : Nat → Nat → Int32} {J : Nat → Nat → Int64} {w : Nat → Nat} {n : Nat} (hn : 121 ≤ n) (hn1 : n ≤ 200) {p : Nat} (hp : qc_sc n p) {a : Int32} {q0 : (Nat → Nat → Int32) × (Nat → Nat → Int64)} (hP : P_X2_gather I J p a = some q0) : ∀ l, qc_M l yX2_gather cX2_gather 5 none 3 82 0 0 [.ref 22, .ref p, .int a] (I, J, (rX w, kX, nX, n)) none (q0.1, q0.2, (rX w, kX, nX, n)) := by
  intro l
  refine qc_ent2 (by decide) (Nat.le_of_ble_eq_true rfl) ?_
  intro F hn0 cx hz
  have cx : qc_X F cX2_gather RX2 "gather" 3 0 0 82 := cx
  have L62 : ∀ (k25 : (Nat → Nat → Int32) → (Nat → Nat → Int64) → Int32 → Option ((Nat → Nat → Int32) × (Nat → Nat → Int64))) (g25 : ∀ (I : Nat → Nat → Int32) (J : Nat → Nat → Int64) (a3 : Int32), k25 I J a3 = some q0 → qc_J F 0 0 25 [some (.ref 22), some (.ref p), none, some (.int a3), none] [] (I, J, (rX w, kX, nX, n))) (k39 : (Nat → Nat → Int32) → (Nat → Nat → Int64) → Int32 → Int32 → Option ((Nat → Nat → Int32) × (Nat → Nat → Int64))) (g39 : ∀ (I : Nat → Nat → Int32) (J : Nat → Nat → Int64) (a3 : Int32) (a4 : Int32), k39 I J a3 a4 = some q0 → qc_J F 0 0 39 [some (.ref 22), some (.ref p), none, some (.int a3), some (.int a4)] [] (I, J, (rX w, kX, nX, n))) (I : (Nat → Nat → Int32)) (J : (Nat → Nat → Int64)) (a3 : Int32) (a4 : Int32), P_X2_gather_62 p k25 k39 I J a3 a4 = some q0 → qc_J F 0 0 62 [some (.ref 22), some (.ref p), none, some (.int a3), some (.int a4)] [] (I, J, (rX w, kX, nX, n)) := by
    intro k25 g25 k39 g39 I J a3 a4 hP
    unfold P_X2_gather_62 at hP
    obtain ⟨x1, ex1, hP⟩ := qc_letE hP
    refine qj_iinc (v := x1) (ls1 := [some (.ref 22), some (.ref p), none, some (.int a3), some (.int x1)]) cx dX2_gather_62 rfl (by rw [ex1]; rfl) rfl rfl ?_
    refine qj_goto (tgt := 39) cx dX2_gather_65 (by decide) ?_
    exact g39 I J a3 x1 hP
  have L39 : ∀ (k25 : (Nat → Nat → Int32) → (Nat → Nat → Int64) → Int32 → Option ((Nat → Nat → Int32) × (Nat → Nat → Int64))) (g25 : ∀ (I : Nat → Nat → Int32) (J : Nat → Nat → Int64) (a3 : Int32), k25 I J a3 = some q0 → qc_J F 0 0 25 [some (.ref 22), some (.ref p), none, some (.int a3), none] [] (I, J, (rX w, kX, nX, n))) (f : Nat) (I : (Nat → Nat → Int32)) (J : (Nat → Nat → Int64)) (a3 : Int32) (a4 : Int32), P_X2_gather_39 p k25 f I J a3 a4 = some q0 → qc_J F 0 0 39 [some (.ref 22), some (.ref p), none, some (.int a3), some (.int a4)] [] (I, J, (rX w, kX, nX, n)) := by
    intro k25 g25 f
    induction f with
    | zero => intro I J a3 a4 hP; cases hP
    | succ f ih =>
      intro I J a3 a4 hP
      rw [P_X2_gather_39] at hP
      refine qj_iload cx dX2_gather_39 rfl ?_
      refine qj_bipush (v := (6 : Int32)) cx dX2_gather_41 (by decide) ?_
      refine qj_icmp_ge (tgt := 68) cx dX2_gather_43 (by decide) (fun c2 => ?_) (fun c2 => ?_)
      · have hP := qc_ifT hP c2
        obtain ⟨x3, ex3, hP⟩ := qc_letE hP
        refine qj_iinc (v := x3) (ls1 := [some (.ref 22), some (.ref p), none, some (.int x3), some (.int a4)]) cx dX2_gather_68 rfl (by rw [ex3]; rfl) rfl rfl ?_
        refine qj_goto (tgt := 25) cx dX2_gather_71 (by decide) ?_
        refine qw_sub (ls1 := [some (.ref 22), some (.ref p), none, some (.int x3), none]) rfl (qc_sb_ok ⟨rfl, rfl, rfl, trivial⟩) ?_
        exact g25 I J x3 hP
      · have hP := qc_ifF hP c2
        refine qj_aload_n cx dX2_gather_46 rfl rfl ?_
        refine qj_iload cx dX2_gather_47 rfl ?_
        obtain ⟨q4, eq4, hP⟩ := Option.bind_eq_some_iff.mp hP
        refine qj_callV (As := [.int a4]) (st := []) (t := p) (h' := (I, J, (rX w, kX, nX, n))) (r := some (.int q4)) cx dX2_gather_49 (c_X4_wantsSort (I := I) (J := J) (w := w) hn hn1 hp eq4) gc_RX2_60 qm_X4_wantsSort rfl rfl qc_cl4 hp.2.1 (qc_ltp0 hp.1) (by decide) (by decide) rfl (Nat.le_of_ble_eq_true rfl) (Nat.le_trans hn1 (by decide)) hn0 rfl ?_
        refine qj_if_eq (tgt := 62) cx dX2_gather_52 (by decide) (fun c5 => ?_) (fun c5 => ?_)
        · have hP := qc_ifT hP c5
          exact L62 k25 g25 (P_X2_gather_39 p k25 f) ih I J a3 a4 hP
        · have hP := qc_ifF hP c5
          refine qj_aload_n cx dX2_gather_55 rfl rfl ?_
          refine qj_aload_n cx dX2_gather_56 rfl rfl ?_
          refine qj_iload cx dX2_gather_57 rfl ?_
          obtain ⟨q6, eq6, hP⟩ := Option.bind_eq_some_iff.mp hP
          refine qj_callV (As := [.ref p, .int a4]) (st := []) (t := 22) (h' := (q6, J, (rX w, kX, nX, n))) (r := none) cx dX2_gather_59 (c_X2_gatherSort (I := I) (J := J) (w := w) hn hn1 hp eq6) gc_RX2_64 qm_X2_gatherSort rfl rfl qc_cl2 rfl (Nat.lt_of_lt_of_le (by decide) hn) (by decide) (by decide) rfl (Nat.le_of_ble_eq_true rfl) (Nat.le_trans hn1 (by decide)) hn0 rfl ?_
          exact L62 k25 g25 (P_X2_gather_39 p k25 f) ih q6 J a3 a4 hP
  have L25 : ∀  (f : Nat) (I : (Nat → Nat → Int32)) (J : (Nat → Nat → Int64)) (a3 : Int32), P_X2_gather_25 p f I J a3 = some q0 → qc_J F 0 0 25 [some (.ref 22), some (.ref p), none, some (.int a3), none] [] (I, J, (rX w, kX, nX, n)) := by
    intro  f
    induction f with
    | zero => intro I J a3 hP; cases hP
    | succ f ih =>
      intro I J a3 hP
      rw [P_X2_gather_25] at hP
      refine qj_iload_n cx dX2_gather_25 rfl rfl ?_
      refine qj_iconst (v := (3 : Int32)) cx dX2_gather_26 (by decide) ?_
      refine qj_icmp_ge (tgt := 74) cx dX2_gather_27 (by decide) (fun c7 => ?_) (fun c7 => ?_)
      · have hP := qc_ifT hP c7
        exact qw_vret cx hz dX2_gather_74 (Nat.zero_le _) (Nat.zero_le _) (congrArg (fun q => q.1) (Option.some.inj hP)) (congrArg (fun q => q.2) (Option.some.inj hP))
      · have hP := qc_ifF hP c7
        refine qj_aload_n cx dX2_gather_30 rfl rfl ?_
        refine qj_aload_n cx dX2_gather_31 rfl rfl ?_
        refine qj_iload_n cx dX2_gather_32 rfl rfl ?_
        obtain ⟨q8, eq8, hP⟩ := Option.bind_eq_some_iff.mp hP
        refine qj_callV (As := [.ref p, .int a3]) (st := []) (t := 22) (h' := (q8, J, (rX w, kX, nX, n))) (r := none) cx dX2_gather_33 (c_X2_gatherCrew (I := I) (J := J) (w := w) hn hn1 hp eq8) gc_RX2_56 qm_X2_gatherCrew rfl rfl qc_cl2 rfl (Nat.lt_of_lt_of_le (by decide) hn) (by decide) (by decide) rfl (Nat.le_of_ble_eq_true rfl) (Nat.le_trans hn1 (by decide)) hn0 rfl ?_
        refine qj_iconst (v := (0 : Int32)) cx dX2_gather_36 (by decide) ?_
        refine qj_istore (ls1 := [some (.ref 22), some (.ref p), none, some (.int a3), some (.int (0 : Int32))]) cx dX2_gather_37 rfl rfl rfl ?_
        exact L39 (P_X2_gather_25 p f) ih qc_fu q8 J a3 (0 : Int32) hP
  show qc_J F 0 0 0 [some (.ref 22), some (.ref p), some (.int a), none, none] [] (I, J, (rX w, kX, nX, n))
  unfold P_X2_gather at hP
  refine qj_aload_n cx dX2_gather_0 rfl rfl ?_
  refine qj_iconst (v := (0 : Int32)) cx dX2_gather_1 (by decide) ?_
  obtain ⟨I9, eI9, hP⟩ := qc_letE hP
  refine qw_putI (j := 1) cx dX2_gather_2 qc_cl2 rfl (Nat.lt_of_lt_of_le (by decide) hn) rfl ww_254 rfl rfl rfl eI9 ?_
  refine qj_aload_n cx dX2_gather_5 rfl rfl ?_
  refine qj_iconst (v := (0 : Int32)) cx dX2_gather_6 (by decide) ?_
  obtain ⟨I10, eI10, hP⟩ := qc_letE hP
  refine qw_putI (j := 2) cx dX2_gather_7 qc_cl2 rfl (Nat.lt_of_lt_of_le (by decide) hn) rfl ww_256 rfl rfl rfl eI10 ?_
  refine qj_aload_n cx dX2_gather_10 rfl rfl ?_
  refine qj_iload_n cx dX2_gather_11 rfl rfl ?_
  obtain ⟨c12, hP⟩ := qc_ck hP
  obtain ⟨I11, eI11, hP⟩ := qc_letE hP
  refine qw_putI (j := 6) cx dX2_gather_12 qc_cl2 rfl (Nat.lt_of_lt_of_le (by decide) hn) rfl ww_261 (qc_bo_n c12) (qc_bo_f c12) rfl eI11 ?_
  refine qj_aload_n cx dX2_gather_15 rfl rfl ?_
  refine qj_aload_n cx dX2_gather_16 rfl rfl ?_
  obtain ⟨q13, eq13, hP⟩ := Option.bind_eq_some_iff.mp hP
  refine qj_callV (As := []) (st := [.ref 22]) (t := p) (h' := (I11, J, (rX w, kX, nX, n))) (r := some (.long q13)) cx dX2_gather_17 (c_X4_guardedChannels (I := I11) (J := J) (w := w) hn hn1 hp eq13) gc_RX2_52 qm_X4_guardedChannels rfl rfl qc_cl4 hp.2.1 (qc_ltp0 hp.1) (by decide) (by decide) rfl (Nat.le_of_ble_eq_true rfl) (Nat.le_trans hn1 (by decide)) hn0 rfl ?_
  obtain ⟨J14, eJ14, hP⟩ := qc_letE hP
  refine qw_putJ (j := 5) cx dX2_gather_20 qc_cl2 rfl (Nat.lt_of_lt_of_le (by decide) hn) rfl ww_260 rfl rfl rfl eJ14 ?_
  refine qj_iconst (v := (0 : Int32)) cx dX2_gather_23 (by decide) ?_
  refine qj_istore_n (ls1 := [some (.ref 22), some (.ref p), some (.int a), some (.int (0 : Int32)), none]) cx dX2_gather_24 rfl rfl rfl rfl ?_
  refine qw_sub (ls1 := [some (.ref 22), some (.ref p), none, some (.int (0 : Int32)), none]) rfl (qc_sb_ok ⟨rfl, rfl, rfl, trivial⟩) ?_
  exact L25 qc_fu I11 J14 (0 : Int32) hP
def P_X3_readBand_22  (I : (Nat → Nat → Int32)) : Option ((Nat → Nat → Int32)) :=
  (P_X3_tellOnce I (1 : Int32)).bind fun q1 =>
  (P_X3_takeNumber q1 (4 : Int32) (60 : Int32)).bind fun q2 =>
  qc_let (qc_u2 q2.2 122 1 q2.1) fun I3 =>
  some I3
def P_X3_readBand_17  (I : (Nat → Nat → Int32)) : Option ((Nat → Nat → Int32)) :=
  (P_X3_fail I (1 : Int32)).bind fun q4 =>
  P_X3_readBand_22 q4
def P_X3_readBand (I : Nat → Nat → Int32) : Option ((Nat → Nat → Int32)) :=
  if 0 < I 122 0 then
  P_X3_readBand_17 I
  else
  if I 121 10 ≤ 0 then
  P_X3_readBand_22 I
  else
  P_X3_readBand_17 I
set_option maxRecDepth 20000 in
theorem c_X3_readBand {I : Nat → Nat → Int32} {J : Nat → Nat → Int64} {w : Nat → Nat} {n : Nat} (hn : 121 ≤ n) (hn1 : n ≤ 200) (hn2 : 132 ≤ n)  {q0 : (Nat → Nat → Int32)} (hP : P_X3_readBand I = some q0) : ∀ l, qc_M l yX3_readBand cX3_readBand 1 none 3 64 0 0 [.ref 121] (I, J, (rX w, kX, nX, n)) none (q0, J, (rX w, kX, nX, n)) := by
  intro l
  refine qc_ent2 (by decide) (Nat.le_of_ble_eq_true rfl) ?_
  intro F hn0 cx hz
  have cx : qc_X F cX3_readBand RX3 "readBand" 3 0 0 64 := cx
  have L22 : ∀  (I : (Nat → Nat → Int32)), P_X3_readBand_22 I = some q0 → qc_J F 0 0 22 [some (.ref 121)] [] (I, J, (rX w, kX, nX, n)) := by
    intro I hP
    unfold P_X3_readBand_22 at hP
    refine qj_aload_n cx dX3_readBand_22 rfl rfl ?_
    refine qj_iconst (v := (1 : Int32)) cx dX3_readBand_23 (by decide) ?_
    obtain ⟨q1, eq1, hP⟩ := Option.bind_eq_some_iff.mp hP
    refine qj_callV (As := [.int (1 : Int32)]) (st := []) (t := 121) (h' := (q1, J, (rX w, kX, nX, n))) (r := none) cx dX3_readBand_24 (c_X3_tellOnce (I := I) (J := J) (w := w) hn hn1 hn2 eq1) gc_RX3_71 qm_X3_tellOnce rfl rfl qc_cl3 rfl (Nat.lt_of_lt_of_le (by decide) hn2) (by decide) (by decide) rfl (Nat.le_of_ble_eq_true rfl) (Nat.le_trans hn1 (by decide)) hn0 rfl ?_
    refine qj_aload_n cx dX3_readBand_27 rfl rfl ?_
    refine qw_getR (j := 2) (t1 := 122) cx dX3_readBand_28 qc_cl3 rfl (Nat.lt_of_lt_of_le (by decide) hn2) rfl ww_386 rfl ?_
    refine qj_aload_n cx dX3_readBand_31 rfl rfl ?_
    refine qj_iconst (v := (4 : Int32)) cx dX3_readBand_32 (by decide) ?_
    refine qj_bipush (v := (60 : Int32)) cx dX3_readBand_33 (by decide) ?_
    obtain ⟨q2, eq2, hP⟩ := Option.bind_eq_some_iff.mp hP
    refine qj_callV (As := [.int (4 : Int32), .int (60 : Int32)]) (st := [.ref 122]) (t := 121) (h' := (q2.2, J, (rX w, kX, nX, n))) (r := some (.int q2.1)) cx dX3_readBand_35 (c_X3_takeNumber (I := q1) (J := J) (w := w) hn hn1 hn2 eq2) gc_RX3_75 qm_X3_takeNumber rfl rfl qc_cl3 rfl (Nat.lt_of_lt_of_le (by decide) hn2) (by decide) (by decide) rfl (Nat.le_of_ble_eq_true rfl) (Nat.le_trans hn1 (by decide)) hn0 rfl ?_
    obtain ⟨I3, eI3, hP⟩ := qc_letE hP
    refine qw_putI (j := 1) cx dX3_readBand_38 qc_cl4 rfl (Nat.lt_of_lt_of_le (by decide) hn2) rfl ww_153 rfl rfl rfl eI3 ?_
    exact qw_vret cx hz dX3_readBand_41 (Nat.zero_le _) (Nat.zero_le _) (Option.some.inj hP) rfl
  have L17 : ∀  (I : (Nat → Nat → Int32)), P_X3_readBand_17 I = some q0 → qc_J F 0 0 17 [some (.ref 121)] [] (I, J, (rX w, kX, nX, n)) := by
    intro I hP
    unfold P_X3_readBand_17 at hP
    refine qj_aload_n cx dX3_readBand_17 rfl rfl ?_
    refine qj_iconst (v := (1 : Int32)) cx dX3_readBand_18 (by decide) ?_
    obtain ⟨q4, eq4, hP⟩ := Option.bind_eq_some_iff.mp hP
    refine qj_callV (As := [.int (1 : Int32)]) (st := []) (t := 121) (h' := (q4, J, (rX w, kX, nX, n))) (r := none) cx dX3_readBand_19 (c_X3_fail (I := I) (J := J) (w := w) hn hn1 hn2 eq4) gc_RX3_110 qm_X3_fail rfl rfl qc_cl3 rfl (Nat.lt_of_lt_of_le (by decide) hn2) (by decide) (by decide) rfl (Nat.le_of_ble_eq_true rfl) (Nat.le_trans hn1 (by decide)) hn0 rfl ?_
    exact L22 q4 hP
  show qc_J F 0 0 0 [some (.ref 121)] [] (I, J, (rX w, kX, nX, n))
  unfold P_X3_readBand at hP
  refine qj_aload_n cx dX3_readBand_0 rfl rfl ?_
  refine qw_getR (j := 2) (t1 := 122) cx dX3_readBand_1 qc_cl3 rfl (Nat.lt_of_lt_of_le (by decide) hn2) rfl ww_386 rfl ?_
  refine qw_getI (j := 0) cx dX3_readBand_4 qc_cl4 rfl (Nat.lt_of_lt_of_le (by decide) hn2) rfl ww_150 ?_
  refine qj_if_gt (tgt := 17) cx dX3_readBand_7 (by decide) (fun c5 => ?_) (fun c5 => ?_)
  · have hP := qc_ifT hP c5
    exact L17 I hP
  · have hP := qc_ifF hP c5
    refine qj_aload_n cx dX3_readBand_10 rfl rfl ?_
    refine qw_getI (j := 10) cx dX3_readBand_11 qc_cl3 rfl (Nat.lt_of_lt_of_le (by decide) hn2) rfl ww_398 ?_
    refine qj_if_le (tgt := 22) cx dX3_readBand_14 (by decide) (fun c6 => ?_) (fun c6 => ?_)
    · have hP := qc_ifT hP c6
      exact L22 I hP
    · have hP := qc_ifF hP c6
      exact L17 I hP
def P_X3_readUser_41  (I : (Nat → Nat → Int32)) (a1 : Int32) (a2 : Int32) : Option ((Nat → Nat → Int32)) :=
  if qc_in a1 8 then
  qc_let (qc_u2 I 125 a1.toNatClampNeg a2) fun I1 =>
  (P_X3_takeNumber I1 (0 : Int32) (2 : Int32)).bind fun q2 =>
  if qc_in a1 8 then
  qc_let (qc_u2 q2.2 126 a1.toNatClampNeg q2.1) fun I3 =>
  (P_X3_takeNumber I3 (0 : Int32) (30 : Int32)).bind fun q4 =>
  if qc_in a1 8 then
  qc_let (qc_u2 q4.2 130 a1.toNatClampNeg q4.1) fun I5 =>
  (P_X3_takeNumber I5 (1 : Int32) (I5 122 1)).bind fun q6 =>
  if qc_in a1 8 then
  qc_let (qc_u2 q6.2 127 a1.toNatClampNeg q6.1) fun I7 =>
  if qc_in a1 8 then
  (P_X3_takeNumber I7 (I7 127 a1.toNatClampNeg) (I7 122 1)).bind fun q9 =>
  if qc_in a1 8 then
  qc_let (qc_u2 q9.2 128 a1.toNatClampNeg q9.1) fun I10 =>
  if qc_in a1 8 then
  qc_let (qc_u2 I10 131 a1.toNatClampNeg (255 : Int32)) fun I11 =>
  qc_let (qc_u2 I11 122 0 ((I11 122 0) + (1 : Int32))) fun I12 =>
  some I12
  else none
  else none
  else none
  else none
  else none
  else none
  else none
def P_X3_readUser (I : Nat → Nat → Int32) : Option ((Nat → Nat → Int32)) :=
  qc_let (I 122 0) fun x19 =>
  if x19 < (6 : Int32) then
  (P_X3_takeName I).bind fun q21 =>
  (P_X4_userOfName q21.2 122 q21.1).bind fun q22 =>
  if q22 < 0 then
  P_X3_readUser_41 q21.2 x19 q21.1
  else
  (P_X3_fail q21.2 (3 : Int32)).bind fun q24 =>
  P_X3_readUser_41 q24 x19 q21.1
  else
  (P_X3_fail I (2 : Int32)).bind fun q25 =>
  some q25
set_option maxRecDepth 20000 in
theorem c_X3_readUser {I : Nat → Nat → Int32} {J : Nat → Nat → Int64} {w : Nat → Nat} {n : Nat} (hn : 121 ≤ n) (hn1 : n ≤ 200) (hn2 : 132 ≤ n)  {q0 : (Nat → Nat → Int32)} (hP : P_X3_readUser I = some q0) : ∀ l, qc_M l yX3_readUser cX3_readUser 3 none 3 64 0 0 [.ref 121] (I, J, (rX w, kX, nX, n)) none (q0, J, (rX w, kX, nX, n)) := by
  intro l
  refine qc_ent2 (by decide) (Nat.le_of_ble_eq_true rfl) ?_
  intro F hn0 cx hz
  have cx : qc_X F cX3_readUser RX3 "readUser" 3 0 0 64 := cx
  have L41 : ∀  (I : (Nat → Nat → Int32)) (a1 : Int32) (a2 : Int32), P_X3_readUser_41 I a1 a2 = some q0 → qc_J F 0 0 41 [some (.ref 121), some (.int a1), some (.int a2)] [] (I, J, (rX w, kX, nX, n)) := by
    intro I a1 a2 hP
    unfold P_X3_readUser_41 at hP
    refine qj_aload_n cx dX3_readUser_41 rfl rfl ?_
    refine qw_getR (j := 2) (t1 := 122) cx dX3_readUser_42 qc_cl3 rfl (Nat.lt_of_lt_of_le (by decide) hn2) rfl ww_386 rfl ?_
    refine qw_getR (j := 9) (t1 := 125) cx dX3_readUser_45 qc_cl4 rfl (Nat.lt_of_lt_of_le (by decide) hn2) rfl ww_181 rfl ?_
    refine qj_iload_n cx dX3_readUser_48 rfl rfl ?_
    refine qj_iload_n cx dX3_readUser_49 rfl rfl ?_
    obtain ⟨c18, hP⟩ := qc_ck hP
    obtain ⟨I1, eI1, hP⟩ := qc_letE hP
    refine qw_iast (n1 := 8) cx dX3_readUser_50 rfl (Nat.lt_of_lt_of_le (by decide) hn2) rfl c18 eI1 ?_
    refine qj_aload_n cx dX3_readUser_51 rfl rfl ?_
    refine qw_getR (j := 2) (t1 := 122) cx dX3_readUser_52 qc_cl3 rfl (Nat.lt_of_lt_of_le (by decide) hn2) rfl ww_386 rfl ?_
    refine qw_getR (j := 10) (t1 := 126) cx dX3_readUser_55 qc_cl4 rfl (Nat.lt_of_lt_of_le (by decide) hn2) rfl ww_184 rfl ?_
    refine qj_iload_n cx dX3_readUser_58 rfl rfl ?_
    refine qj_aload_n cx dX3_readUser_59 rfl rfl ?_
    refine qj_iconst (v := (0 : Int32)) cx dX3_readUser_60 (by decide) ?_
    refine qj_iconst (v := (2 : Int32)) cx dX3_readUser_61 (by decide) ?_
    obtain ⟨q2, eq2, hP⟩ := Option.bind_eq_some_iff.mp hP
    refine qj_callV (As := [.int (0 : Int32), .int (2 : Int32)]) (st := [.int a1, .ref 126]) (t := 121) (h' := (q2.2, J, (rX w, kX, nX, n))) (r := some (.int q2.1)) cx dX3_readUser_62 (c_X3_takeNumber (I := I1) (J := J) (w := w) hn hn1 hn2 eq2) gc_RX3_75 qm_X3_takeNumber rfl rfl qc_cl3 rfl (Nat.lt_of_lt_of_le (by decide) hn2) (by decide) (by decide) rfl (Nat.le_of_ble_eq_true rfl) (Nat.le_trans hn1 (by decide)) hn0 rfl ?_
    obtain ⟨c17, hP⟩ := qc_ck hP
    obtain ⟨I3, eI3, hP⟩ := qc_letE hP
    refine qw_iast (n1 := 8) cx dX3_readUser_65 rfl (Nat.lt_of_lt_of_le (by decide) hn2) rfl c17 eI3 ?_
    refine qj_aload_n cx dX3_readUser_66 rfl rfl ?_
    refine qw_getR (j := 2) (t1 := 122) cx dX3_readUser_67 qc_cl3 rfl (Nat.lt_of_lt_of_le (by decide) hn2) rfl ww_386 rfl ?_
    refine qw_getR (j := 14) (t1 := 130) cx dX3_readUser_70 qc_cl4 rfl (Nat.lt_of_lt_of_le (by decide) hn2) rfl ww_202 rfl ?_
    refine qj_iload_n cx dX3_readUser_73 rfl rfl ?_
    refine qj_aload_n cx dX3_readUser_74 rfl rfl ?_
    refine qj_iconst (v := (0 : Int32)) cx dX3_readUser_75 (by decide) ?_
    refine qj_bipush (v := (30 : Int32)) cx dX3_readUser_76 (by decide) ?_
    obtain ⟨q4, eq4, hP⟩ := Option.bind_eq_some_iff.mp hP
    refine qj_callV (As := [.int (0 : Int32), .int (30 : Int32)]) (st := [.int a1, .ref 130]) (t := 121) (h' := (q4.2, J, (rX w, kX, nX, n))) (r := some (.int q4.1)) cx dX3_readUser_78 (c_X3_takeNumber (I := I3) (J := J) (w := w) hn hn1 hn2 eq4) gc_RX3_75 qm_X3_takeNumber rfl rfl qc_cl3 rfl (Nat.lt_of_lt_of_le (by decide) hn2) (by decide) (by decide) rfl (Nat.le_of_ble_eq_true rfl) (Nat.le_trans hn1 (by decide)) hn0 rfl ?_
    obtain ⟨c16, hP⟩ := qc_ck hP
    obtain ⟨I5, eI5, hP⟩ := qc_letE hP
    refine qw_iast (n1 := 8) cx dX3_readUser_81 rfl (Nat.lt_of_lt_of_le (by decide) hn2) rfl c16 eI5 ?_
    refine qj_aload_n cx dX3_readUser_82 rfl rfl ?_
    refine qw_getR (j := 2) (t1 := 122) cx dX3_readUser_83 qc_cl3 rfl (Nat.lt_of_lt_of_le (by decide) hn2) rfl ww_386 rfl ?_
    refine qw_getR (j := 11) (t1 := 127) cx dX3_readUser_86 qc_cl4 rfl (Nat.lt_of_lt_of_le (by decide) hn2) rfl ww_188 rfl ?_
    refine qj_iload_n cx dX3_readUser_89 rfl rfl ?_
    refine qj_aload_n cx dX3_readUser_90 rfl rfl ?_
    refine qj_iconst (v := (1 : Int32)) cx dX3_readUser_91 (by decide) ?_
    refine qj_aload_n cx dX3_readUser_92 rfl rfl ?_
    refine qw_getR (j := 2) (t1 := 122) cx dX3_readUser_93 qc_cl3 rfl (Nat.lt_of_lt_of_le (by decide) hn2) rfl ww_386 rfl ?_
    refine qw_getI (j := 1) cx dX3_readUser_96 qc_cl4 rfl (Nat.lt_of_lt_of_le (by decide) hn2) rfl ww_153 ?_
    obtain ⟨q6, eq6, hP⟩ := Option.bind_eq_some_iff.mp hP
    refine qj_callV (As := [.int (1 : Int32), .int (I5 122 1)]) (st := [.int a1, .ref 127]) (t := 121) (h' := (q6.2, J, (rX w, kX, nX, n))) (r := some (.int q6.1)) cx dX3_readUser_99 (c_X3_takeNumber (I := I5) (J := J) (w := w) hn hn1 hn2 eq6) gc_RX3_75 qm_X3_takeNumber rfl rfl qc_cl3 rfl (Nat.lt_of_lt_of_le (by decide) hn2) (by decide) (by decide) rfl (Nat.le_of_ble_eq_true rfl) (Nat.le_trans hn1 (by decide)) hn0 rfl ?_
    obtain ⟨c15, hP⟩ := qc_ck hP
    obtain ⟨I7, eI7, hP⟩ := qc_letE hP
    refine qw_iast (n1 := 8) cx dX3_readUser_102 rfl (Nat.lt_of_lt_of_le (by decide) hn2) rfl c15 eI7 ?_
    refine qj_aload_n cx dX3_readUser_103 rfl rfl ?_
    refine qw_getR (j := 2) (t1 := 122) cx dX3_readUser_104 qc_cl3 rfl (Nat.lt_of_lt_of_le (by decide) hn2) rfl ww_386 rfl ?_
    refine qw_getR (j := 12) (t1 := 128) cx dX3_readUser_107 qc_cl4 rfl (Nat.lt_of_lt_of_le (by decide) hn2) rfl ww_192 rfl ?_
    refine qj_iload_n cx dX3_readUser_110 rfl rfl ?_
    refine qj_aload_n cx dX3_readUser_111 rfl rfl ?_
    refine qj_aload_n cx dX3_readUser_112 rfl rfl ?_
    refine qw_getR (j := 2) (t1 := 122) cx dX3_readUser_113 qc_cl3 rfl (Nat.lt_of_lt_of_le (by decide) hn2) rfl ww_386 rfl ?_
    refine qw_getR (j := 11) (t1 := 127) cx dX3_readUser_116 qc_cl4 rfl (Nat.lt_of_lt_of_le (by decide) hn2) rfl ww_188 rfl ?_
    refine qj_iload_n cx dX3_readUser_119 rfl rfl ?_
    obtain ⟨c8, hP⟩ := qc_ck hP
    refine qw_iald (n1 := 8) cx dX3_readUser_120 rfl (Nat.lt_of_lt_of_le (by decide) hn2) rfl c8 ?_
    refine qj_aload_n cx dX3_readUser_121 rfl rfl ?_
    refine qw_getR (j := 2) (t1 := 122) cx dX3_readUser_122 qc_cl3 rfl (Nat.lt_of_lt_of_le (by decide) hn2) rfl ww_386 rfl ?_
    refine qw_getI (j := 1) cx dX3_readUser_125 qc_cl4 rfl (Nat.lt_of_lt_of_le (by decide) hn2) rfl ww_153 ?_
    obtain ⟨q9, eq9, hP⟩ := Option.bind_eq_some_iff.mp hP
    refine qj_callV (As := [.int (I7 127 a1.toNatClampNeg), .int (I7 122 1)]) (st := [.int a1, .ref 128]) (t := 121) (h' := (q9.2, J, (rX w, kX, nX, n))) (r := some (.int q9.1)) cx dX3_readUser_128 (c_X3_takeNumber (I := I7) (J := J) (w := w) hn hn1 hn2 eq9) gc_RX3_75 qm_X3_takeNumber rfl rfl qc_cl3 rfl (Nat.lt_of_lt_of_le (by decide) hn2) (by decide) (by decide) rfl (Nat.le_of_ble_eq_true rfl) (Nat.le_trans hn1 (by decide)) hn0 rfl ?_
    obtain ⟨c14, hP⟩ := qc_ck hP
    obtain ⟨I10, eI10, hP⟩ := qc_letE hP
    refine qw_iast (n1 := 8) cx dX3_readUser_131 rfl (Nat.lt_of_lt_of_le (by decide) hn2) rfl c14 eI10 ?_
    refine qj_aload_n cx dX3_readUser_132 rfl rfl ?_
    refine qw_getR (j := 2) (t1 := 122) cx dX3_readUser_133 qc_cl3 rfl (Nat.lt_of_lt_of_le (by decide) hn2) rfl ww_386 rfl ?_
    refine qw_getR (j := 15) (t1 := 131) cx dX3_readUser_136 qc_cl4 rfl (Nat.lt_of_lt_of_le (by decide) hn2) rfl ww_208 rfl ?_
    refine qj_iload_n cx dX3_readUser_139 rfl rfl ?_
    refine qj_sipush (v := (255 : Int32)) cx dX3_readUser_140 (by decide) ?_
    obtain ⟨c13, hP⟩ := qc_ck hP
    obtain ⟨I11, eI11, hP⟩ := qc_letE hP
    refine qw_iast (n1 := 8) cx dX3_readUser_143 rfl (Nat.lt_of_lt_of_le (by decide) hn2) rfl c13 eI11 ?_
    refine qj_aload_n cx dX3_readUser_144 rfl rfl ?_
    refine qw_getR (j := 2) (t1 := 122) cx dX3_readUser_145 qc_cl3 rfl (Nat.lt_of_lt_of_le (by decide) hn2) rfl ww_386 rfl ?_
    refine qj_dup cx dX3_readUser_148 rfl ?_
    refine qw_getI (j := 0) cx dX3_readUser_149 qc_cl4 rfl (Nat.lt_of_lt_of_le (by decide) hn2) rfl ww_150 ?_
    refine qj_iconst (v := (1 : Int32)) cx dX3_readUser_152 (by decide) ?_
    refine qj_iadd cx dX3_readUser_153 ?_
    obtain ⟨I12, eI12, hP⟩ := qc_letE hP
    refine qw_putI (j := 0) cx dX3_readUser_154 qc_cl4 rfl (Nat.lt_of_lt_of_le (by decide) hn2) rfl ww_150 rfl rfl rfl eI12 ?_
    exact qw_vret cx hz dX3_readUser_157 (Nat.zero_le _) (Nat.zero_le _) (Option.some.inj hP) rfl
  show qc_J F 0 0 0 [some (.ref 121), none, none] [] (I, J, (rX w, kX, nX, n))
  unfold P_X3_readUser at hP
  refine qj_aload_n cx dX3_readUser_0 rfl rfl ?_
  refine qw_getR (j := 2) (t1 := 122) cx dX3_readUser_1 qc_cl3 rfl (Nat.lt_of_lt_of_le (by decide) hn2) rfl ww_386 rfl ?_
  refine qw_getI (j := 0) cx dX3_readUser_4 qc_cl4 rfl (Nat.lt_of_lt_of_le (by decide) hn2) rfl ww_150 ?_
  obtain ⟨x19, ex19, hP⟩ := qc_letE hP
  refine qw_top ex19 ?_
  refine qj_istore_n (ls1 := [some (.ref 121), some (.int x19), none]) cx dX3_readUser_7 rfl rfl rfl rfl ?_
  refine qj_iload_n cx dX3_readUser_8 rfl rfl ?_
  refine qj_bipush (v := (6 : Int32)) cx dX3_readUser_9 (by decide) ?_
  refine qj_icmp_lt (tgt := 20) cx dX3_readUser_11 (by decide) (fun c20 => ?_) (fun c20 => ?_)
  · have hP := qc_ifT hP c20
    refine qj_aload_n cx dX3_readUser_20 rfl rfl ?_
    obtain ⟨q21, eq21, hP⟩ := Option.bind_eq_some_iff.mp hP
    refine qj_callV (As := []) (st := []) (t := 121) (h' := (q21.2, J, (rX w, kX, nX, n))) (r := some (.int q21.1)) cx dX3_readUser_21 (c_X3_takeName (I := I) (J := J) (w := w) hn hn1 hn2 eq21) gc_RX3_119 qm_X3_takeName rfl rfl qc_cl3 rfl (Nat.lt_of_lt_of_le (by decide) hn2) (by decide) (by decide) rfl (Nat.le_of_ble_eq_true rfl) (Nat.le_trans hn1 (by decide)) hn0 rfl ?_
    refine qj_istore_n (ls1 := [some (.ref 121), some (.int x19), some (.int q21.1)]) cx dX3_readUser_24 rfl rfl rfl rfl ?_
    refine qj_aload_n cx dX3_readUser_25 rfl rfl ?_
    refine qw_getR (j := 2) (t1 := 122) cx dX3_readUser_26 qc_cl3 rfl (Nat.lt_of_lt_of_le (by decide) hn2) rfl ww_386 rfl ?_
    refine qj_iload_n cx dX3_readUser_29 rfl rfl ?_
    obtain ⟨q22, eq22, hP⟩ := Option.bind_eq_some_iff.mp hP
    refine qj_callV (As := [.int q21.1]) (st := []) (t := 122) (h' := (q21.2, J, (rX w, kX, nX, n))) (r := some (.int q22)) cx dX3_readUser_30 (c_X4_userOfName (I := q21.2) (J := J) (w := w) hn hn1 (qc_sc122 hn2) eq22) gc_RX3_123 qm_X4_userOfName rfl rfl qc_cl4 rfl (Nat.lt_of_lt_of_le (by decide) hn2) (by decide) (by decide) rfl (Nat.le_of_ble_eq_true rfl) (Nat.le_trans hn1 (by decide)) hn0 rfl ?_
    refine qj_if_lt (tgt := 41) cx dX3_readUser_33 (by decide) (fun c23 => ?_) (fun c23 => ?_)
    · have hP := qc_ifT hP c23
      exact L41 q21.2 x19 q21.1 hP
    · have hP := qc_ifF hP c23
      refine qj_aload_n cx dX3_readUser_36 rfl rfl ?_
      refine qj_iconst (v := (3 : Int32)) cx dX3_readUser_37 (by decide) ?_
      obtain ⟨q24, eq24, hP⟩ := Option.bind_eq_some_iff.mp hP
      refine qj_callV (As := [.int (3 : Int32)]) (st := []) (t := 121) (h' := (q24, J, (rX w, kX, nX, n))) (r := none) cx dX3_readUser_38 (c_X3_fail (I := q21.2) (J := J) (w := w) hn hn1 hn2 eq24) gc_RX3_110 qm_X3_fail rfl rfl qc_cl3 rfl (Nat.lt_of_lt_of_le (by decide) hn2) (by decide) (by decide) rfl (Nat.le_of_ble_eq_true rfl) (Nat.le_trans hn1 (by decide)) hn0 rfl ?_
      exact L41 q24 x19 q21.1 hP
  · have hP := qc_ifF hP c20
    refine qj_aload_n cx dX3_readUser_14 rfl rfl ?_
    refine qj_iconst (v := (2 : Int32)) cx dX3_readUser_15 (by decide) ?_
    obtain ⟨q25, eq25, hP⟩ := Option.bind_eq_some_iff.mp hP
    refine qj_callV (As := [.int (2 : Int32)]) (st := []) (t := 121) (h' := (q25, J, (rX w, kX, nX, n))) (r := none) cx dX3_readUser_16 (c_X3_fail (I := I) (J := J) (w := w) hn hn1 hn2 eq25) gc_RX3_110 qm_X3_fail rfl rfl qc_cl3 rfl (Nat.lt_of_lt_of_le (by decide) hn2) (by decide) (by decide) rfl (Nat.le_of_ble_eq_true rfl) (Nat.le_trans hn1 (by decide)) hn0 rfl ?_
    exact qw_vret cx hz dX3_readUser_19 (Nat.zero_le _) (Nat.zero_le _) (Option.some.inj hP) rfl
def P_X3_readFixed_26  (I : (Nat → Nat → Int32)) (a1 : Int32) : Option ((Nat → Nat → Int32)) :=
  qc_let (qc_u2 I 121 12 ((I 121 12) ||| ((1 : Int32) <<< (a1 &&& 31)))) fun I1 =>
  (P_X3_takeNumber I1 (1 : Int32) (I1 122 1)).bind fun q2 =>
  if qc_in a1 8 then
  qc_let (qc_u2 q2.2 129 a1.toNatClampNeg q2.1) fun I3 =>
  some I3
  else none
def P_X3_readFixed (I : Nat → Nat → Int32) : Option ((Nat → Nat → Int32)) :=
  (P_X3_takeUser I).bind fun q5 =>
  if 0 ≤ q5.1 then
  (if ((q5.2 121 12) >>> (q5.1 &&& 31)) &&& (1 : Int32) = 0 then
  P_X3_readFixed_26 q5.2 q5.1
  else
  (P_X3_fail q5.2 (3 : Int32)).bind fun q8 =>
  P_X3_readFixed_26 q8 q5.1)
  else
  some q5.2
set_option maxRecDepth 20000 in
theorem c_X3_readFixed {I : Nat → Nat → Int32} {J : Nat → Nat → Int64} {w : Nat → Nat} {n : Nat} (hn : 121 ≤ n) (hn1 : n ≤ 200) (hn2 : 132 ≤ n)  {q0 : (Nat → Nat → Int32)} (hP : P_X3_readFixed I = some q0) : ∀ l, qc_M l yX3_readFixed cX3_readFixed 2 none 4 83 0 0 [.ref 121] (I, J, (rX w, kX, nX, n)) none (q0, J, (rX w, kX, nX, n)) := by
  intro l
  refine qc_ent2 (by decide) (Nat.le_of_ble_eq_true rfl) ?_
  intro F hn0 cx hz
  have cx : qc_X F cX3_readFixed RX3 "readFixed" 4 0 0 83 := cx
  have L26 : ∀  (I : (Nat → Nat → Int32)) (a1 : Int32), P_X3_readFixed_26 I a1 = some q0 → qc_J F 0 0 26 [some (.ref 121), some (.int a1)] [] (I, J, (rX w, kX, nX, n)) := by
    intro I a1 hP
    unfold P_X3_readFixed_26 at hP
    refine qj_aload_n cx dX3_readFixed_26 rfl rfl ?_
    refine qj_dup cx dX3_readFixed_27 rfl ?_
    refine qw_getI (j := 12) cx dX3_readFixed_28 qc_cl3 rfl (Nat.lt_of_lt_of_le (by decide) hn2) rfl ww_400 ?_
    refine qj_iconst (v := (1 : Int32)) cx dX3_readFixed_31 (by decide) ?_
    refine qj_iload_n cx dX3_readFixed_32 rfl rfl ?_
    refine qj_ishl cx dX3_readFixed_33 ?_
    refine qj_ior cx dX3_readFixed_34 ?_
    obtain ⟨I1, eI1, hP⟩ := qc_letE hP
    refine qw_putI (j := 12) cx dX3_readFixed_35 qc_cl3 rfl (Nat.lt_of_lt_of_le (by decide) hn2) rfl ww_400 rfl rfl rfl eI1 ?_
    refine qj_aload_n cx dX3_readFixed_38 rfl rfl ?_
    refine qw_getR (j := 2) (t1 := 122) cx dX3_readFixed_39 qc_cl3 rfl (Nat.lt_of_lt_of_le (by decide) hn2) rfl ww_386 rfl ?_
    refine qw_getR (j := 13) (t1 := 129) cx dX3_readFixed_42 qc_cl4 rfl (Nat.lt_of_lt_of_le (by decide) hn2) rfl ww_199 rfl ?_
    refine qj_iload_n cx dX3_readFixed_45 rfl rfl ?_
    refine qj_aload_n cx dX3_readFixed_46 rfl rfl ?_
    refine qj_iconst (v := (1 : Int32)) cx dX3_readFixed_47 (by decide) ?_
    refine qj_aload_n cx dX3_readFixed_48 rfl rfl ?_
    refine qw_getR (j := 2) (t1 := 122) cx dX3_readFixed_49 qc_cl3 rfl (Nat.lt_of_lt_of_le (by decide) hn2) rfl ww_386 rfl ?_
    refine qw_getI (j := 1) cx dX3_readFixed_52 qc_cl4 rfl (Nat.lt_of_lt_of_le (by decide) hn2) rfl ww_153 ?_
    obtain ⟨q2, eq2, hP⟩ := Option.bind_eq_some_iff.mp hP
    refine qj_callV (As := [.int (1 : Int32), .int (I1 122 1)]) (st := [.int a1, .ref 129]) (t := 121) (h' := (q2.2, J, (rX w, kX, nX, n))) (r := some (.int q2.1)) cx dX3_readFixed_55 (c_X3_takeNumber (I := I1) (J := J) (w := w) hn hn1 hn2 eq2) gc_RX3_75 qm_X3_takeNumber rfl rfl qc_cl3 rfl (Nat.lt_of_lt_of_le (by decide) hn2) (by decide) (by decide) rfl (Nat.le_of_ble_eq_true rfl) (Nat.le_trans hn1 (by decide)) hn0 rfl ?_
    obtain ⟨c4, hP⟩ := qc_ck hP
    obtain ⟨I3, eI3, hP⟩ := qc_letE hP
    refine qw_iast (n1 := 8) cx dX3_readFixed_58 rfl (Nat.lt_of_lt_of_le (by decide) hn2) rfl c4 eI3 ?_
    exact qw_vret cx hz dX3_readFixed_59 (Nat.zero_le _) (Nat.zero_le _) (Option.some.inj hP) rfl
  show qc_J F 0 0 0 [some (.ref 121), none] [] (I, J, (rX w, kX, nX, n))
  unfold P_X3_readFixed at hP
  refine qj_aload_n cx dX3_readFixed_0 rfl rfl ?_
  obtain ⟨q5, eq5, hP⟩ := Option.bind_eq_some_iff.mp hP
  refine qj_callV (As := []) (st := []) (t := 121) (h' := (q5.2, J, (rX w, kX, nX, n))) (r := some (.int q5.1)) cx dX3_readFixed_1 (c_X3_takeUser (I := I) (J := J) (w := w) hn hn1 hn2 eq5) gc_RX3_145 qm_X3_takeUser rfl rfl qc_cl3 rfl (Nat.lt_of_lt_of_le (by decide) hn2) (by decide) (by decide) rfl (Nat.le_of_ble_eq_true rfl) (Nat.le_trans hn1 (by decide)) hn0 rfl ?_
  refine qj_istore_n (ls1 := [some (.ref 121), some (.int q5.1)]) cx dX3_readFixed_4 rfl rfl rfl rfl ?_
  refine qj_iload_n cx dX3_readFixed_5 rfl rfl ?_
  refine qj_if_ge (tgt := 10) cx dX3_readFixed_6 (by decide) (fun c6 => ?_) (fun c6 => ?_)
  · have hP := qc_ifT hP c6
    refine qj_aload_n cx dX3_readFixed_10 rfl rfl ?_
    refine qw_getI (j := 12) cx dX3_readFixed_11 qc_cl3 rfl (Nat.lt_of_lt_of_le (by decide) hn2) rfl ww_400 ?_
    refine qj_iload_n cx dX3_readFixed_14 rfl rfl ?_
    refine qj_ishr cx dX3_readFixed_15 ?_
    refine qj_iconst (v := (1 : Int32)) cx dX3_readFixed_16 (by decide) ?_
    refine qj_iand cx dX3_readFixed_17 ?_
    refine qj_if_eq (tgt := 26) cx dX3_readFixed_18 (by decide) (fun c7 => ?_) (fun c7 => ?_)
    · have hP := qc_ifT hP c7
      exact L26 q5.2 q5.1 hP
    · have hP := qc_ifF hP c7
      refine qj_aload_n cx dX3_readFixed_21 rfl rfl ?_
      refine qj_iconst (v := (3 : Int32)) cx dX3_readFixed_22 (by decide) ?_
      obtain ⟨q8, eq8, hP⟩ := Option.bind_eq_some_iff.mp hP
      refine qj_callV (As := [.int (3 : Int32)]) (st := []) (t := 121) (h' := (q8, J, (rX w, kX, nX, n))) (r := none) cx dX3_readFixed_23 (c_X3_fail (I := q5.2) (J := J) (w := w) hn hn1 hn2 eq8) gc_RX3_110 qm_X3_fail rfl rfl qc_cl3 rfl (Nat.lt_of_lt_of_le (by decide) hn2) (by decide) (by decide) rfl (Nat.le_of_ble_eq_true rfl) (Nat.le_trans hn1 (by decide)) hn0 rfl ?_
      exact L26 q8 q5.1 hP
  · have hP := qc_ifF hP c6
    exact qw_vret cx hz dX3_readFixed_9 (Nat.zero_le _) (Nat.zero_le _) (Option.some.inj hP) rfl
def P_X3_readSlots_26  (I : (Nat → Nat → Int32)) (a1 : Int32) : Option ((Nat → Nat → Int32)) :=
  qc_let (qc_u2 I 121 13 ((I 121 13) ||| ((1 : Int32) <<< (a1 &&& 31)))) fun I1 =>
  (P_X3_takeNumber I1 (1 : Int32) (255 : Int32)).bind fun q2 =>
  if qc_in a1 8 then
  qc_let (qc_u2 q2.2 131 a1.toNatClampNeg q2.1) fun I3 =>
  some I3
  else none
def P_X3_readSlots (I : Nat → Nat → Int32) : Option ((Nat → Nat → Int32)) :=
  (P_X3_takeUser I).bind fun q5 =>
  if 0 ≤ q5.1 then
  (if ((q5.2 121 13) >>> (q5.1 &&& 31)) &&& (1 : Int32) = 0 then
  P_X3_readSlots_26 q5.2 q5.1
  else
  (P_X3_fail q5.2 (3 : Int32)).bind fun q8 =>
  P_X3_readSlots_26 q8 q5.1)
  else
  some q5.2
set_option maxRecDepth 20000 in
theorem c_X3_readSlots {I : Nat → Nat → Int32} {J : Nat → Nat → Int64} {w : Nat → Nat} {n : Nat} (hn : 121 ≤ n) (hn1 : n ≤ 200) (hn2 : 132 ≤ n)  {q0 : (Nat → Nat → Int32)} (hP : P_X3_readSlots I = some q0) : ∀ l, qc_M l yX3_readSlots cX3_readSlots 2 none 4 83 0 0 [.ref 121] (I, J, (rX w, kX, nX, n)) none (q0, J, (rX w, kX, nX, n)) := by
  intro l
  refine qc_ent2 (by decide) (Nat.le_of_ble_eq_true rfl) ?_
  intro F hn0 cx hz
  have cx : qc_X F cX3_readSlots RX3 "readSlots" 4 0 0 83 := cx
  have L26 : ∀  (I : (Nat → Nat → Int32)) (a1 : Int32), P_X3_readSlots_26 I a1 = some q0 → qc_J F 0 0 26 [some (.ref 121), some (.int a1)] [] (I, J, (rX w, kX, nX, n)) := by
    intro I a1 hP
    unfold P_X3_readSlots_26 at hP
    refine qj_aload_n cx dX3_readSlots_26 rfl rfl ?_
    refine qj_dup cx dX3_readSlots_27 rfl ?_
    refine qw_getI (j := 13) cx dX3_readSlots_28 qc_cl3 rfl (Nat.lt_of_lt_of_le (by decide) hn2) rfl ww_401 ?_
    refine qj_iconst (v := (1 : Int32)) cx dX3_readSlots_31 (by decide) ?_
    refine qj_iload_n cx dX3_readSlots_32 rfl rfl ?_
    refine qj_ishl cx dX3_readSlots_33 ?_
    refine qj_ior cx dX3_readSlots_34 ?_
    obtain ⟨I1, eI1, hP⟩ := qc_letE hP
    refine qw_putI (j := 13) cx dX3_readSlots_35 qc_cl3 rfl (Nat.lt_of_lt_of_le (by decide) hn2) rfl ww_401 rfl rfl rfl eI1 ?_
    refine qj_aload_n cx dX3_readSlots_38 rfl rfl ?_
    refine qw_getR (j := 2) (t1 := 122) cx dX3_readSlots_39 qc_cl3 rfl (Nat.lt_of_lt_of_le (by decide) hn2) rfl ww_386 rfl ?_
    refine qw_getR (j := 15) (t1 := 131) cx dX3_readSlots_42 qc_cl4 rfl (Nat.lt_of_lt_of_le (by decide) hn2) rfl ww_208 rfl ?_
    refine qj_iload_n cx dX3_readSlots_45 rfl rfl ?_
    refine qj_aload_n cx dX3_readSlots_46 rfl rfl ?_
    refine qj_iconst (v := (1 : Int32)) cx dX3_readSlots_47 (by decide) ?_
    refine qj_sipush (v := (255 : Int32)) cx dX3_readSlots_48 (by decide) ?_
    obtain ⟨q2, eq2, hP⟩ := Option.bind_eq_some_iff.mp hP
    refine qj_callV (As := [.int (1 : Int32), .int (255 : Int32)]) (st := [.int a1, .ref 131]) (t := 121) (h' := (q2.2, J, (rX w, kX, nX, n))) (r := some (.int q2.1)) cx dX3_readSlots_51 (c_X3_takeNumber (I := I1) (J := J) (w := w) hn hn1 hn2 eq2) gc_RX3_75 qm_X3_takeNumber rfl rfl qc_cl3 rfl (Nat.lt_of_lt_of_le (by decide) hn2) (by decide) (by decide) rfl (Nat.le_of_ble_eq_true rfl) (Nat.le_trans hn1 (by decide)) hn0 rfl ?_
    obtain ⟨c4, hP⟩ := qc_ck hP
    obtain ⟨I3, eI3, hP⟩ := qc_letE hP
    refine qw_iast (n1 := 8) cx dX3_readSlots_54 rfl (Nat.lt_of_lt_of_le (by decide) hn2) rfl c4 eI3 ?_
    exact qw_vret cx hz dX3_readSlots_55 (Nat.zero_le _) (Nat.zero_le _) (Option.some.inj hP) rfl
  show qc_J F 0 0 0 [some (.ref 121), none] [] (I, J, (rX w, kX, nX, n))
  unfold P_X3_readSlots at hP
  refine qj_aload_n cx dX3_readSlots_0 rfl rfl ?_
  obtain ⟨q5, eq5, hP⟩ := Option.bind_eq_some_iff.mp hP
  refine qj_callV (As := []) (st := []) (t := 121) (h' := (q5.2, J, (rX w, kX, nX, n))) (r := some (.int q5.1)) cx dX3_readSlots_1 (c_X3_takeUser (I := I) (J := J) (w := w) hn hn1 hn2 eq5) gc_RX3_145 qm_X3_takeUser rfl rfl qc_cl3 rfl (Nat.lt_of_lt_of_le (by decide) hn2) (by decide) (by decide) rfl (Nat.le_of_ble_eq_true rfl) (Nat.le_trans hn1 (by decide)) hn0 rfl ?_
  refine qj_istore_n (ls1 := [some (.ref 121), some (.int q5.1)]) cx dX3_readSlots_4 rfl rfl rfl rfl ?_
  refine qj_iload_n cx dX3_readSlots_5 rfl rfl ?_
  refine qj_if_ge (tgt := 10) cx dX3_readSlots_6 (by decide) (fun c6 => ?_) (fun c6 => ?_)
  · have hP := qc_ifT hP c6
    refine qj_aload_n cx dX3_readSlots_10 rfl rfl ?_
    refine qw_getI (j := 13) cx dX3_readSlots_11 qc_cl3 rfl (Nat.lt_of_lt_of_le (by decide) hn2) rfl ww_401 ?_
    refine qj_iload_n cx dX3_readSlots_14 rfl rfl ?_
    refine qj_ishr cx dX3_readSlots_15 ?_
    refine qj_iconst (v := (1 : Int32)) cx dX3_readSlots_16 (by decide) ?_
    refine qj_iand cx dX3_readSlots_17 ?_
    refine qj_if_eq (tgt := 26) cx dX3_readSlots_18 (by decide) (fun c7 => ?_) (fun c7 => ?_)
    · have hP := qc_ifT hP c7
      exact L26 q5.2 q5.1 hP
    · have hP := qc_ifF hP c7
      refine qj_aload_n cx dX3_readSlots_21 rfl rfl ?_
      refine qj_iconst (v := (3 : Int32)) cx dX3_readSlots_22 (by decide) ?_
      obtain ⟨q8, eq8, hP⟩ := Option.bind_eq_some_iff.mp hP
      refine qj_callV (As := [.int (3 : Int32)]) (st := []) (t := 121) (h' := (q8, J, (rX w, kX, nX, n))) (r := none) cx dX3_readSlots_23 (c_X3_fail (I := q5.2) (J := J) (w := w) hn hn1 hn2 eq8) gc_RX3_110 qm_X3_fail rfl rfl qc_cl3 rfl (Nat.lt_of_lt_of_le (by decide) hn2) (by decide) (by decide) rfl (Nat.le_of_ble_eq_true rfl) (Nat.le_trans hn1 (by decide)) hn0 rfl ?_
      exact L26 q8 q5.1 hP
  · have hP := qc_ifF hP c6
    exact qw_vret cx hz dX3_readSlots_9 (Nat.zero_le _) (Nat.zero_le _) (Option.some.inj hP) rfl
def P_X3_readBlock_52  : Nat → (Nat → Nat → Int32) → (Nat → Nat → Int64) → Int32 → Int32 → Option ((Nat → Nat → Int32) × (Nat → Nat → Int64))
  | 0, _, _, _, _ => none
  | f + 1, I, J, a2, a3 =>
  if a2 < a3 then
  some (I, J)
  else
  qc_let (qc_u2 J 122 6 ((J 122 6) ||| ((1 : Int64) <<< (a3.toInt64 &&& 63)))) fun J2 =>
  qc_let (a3 + (1 : Int32)) fun x3 =>
  P_X3_readBlock_52 f I J2 a2 x3
def P_X3_readBlock_14  (I : (Nat → Nat → Int32)) (J : (Nat → Nat → Int64)) : Option ((Nat → Nat → Int32) × (Nat → Nat → Int64)) :=
  qc_let (qc_u2 I 121 10 ((I 121 10) + (1 : Int32))) fun I4 =>
  (P_X3_takeNumber I4 (1 : Int32) (I4 122 1)).bind fun q5 =>
  (P_X3_takeNumber q5.2 q5.1 (q5.2 122 1)).bind fun q6 =>
  P_X3_readBlock_52 qc_fu q6.2 J q6.1 q5.1
def P_X3_readBlock (I : Nat → Nat → Int32) (J : Nat → Nat → Int64) : Option ((Nat → Nat → Int32) × (Nat → Nat → Int64)) :=
  if I 121 10 < (6 : Int32) then
  P_X3_readBlock_14 I J
  else
  (P_X3_fail I (2 : Int32)).bind fun q8 =>
  P_X3_readBlock_14 q8 J
set_option maxRecDepth 20000 in
theorem c_X3_readBlock {I : Nat → Nat → Int32} {J : Nat → Nat → Int64} {w : Nat → Nat} {n : Nat} (hn : 121 ≤ n) (hn1 : n ≤ 200) (hn2 : 132 ≤ n)  {q0 : (Nat → Nat → Int32) × (Nat → Nat → Int64)} (hP : P_X3_readBlock I J = some q0) : ∀ l, qc_M l yX3_readBlock cX3_readBlock 4 none 3 64 0 0 [.ref 121] (I, J, (rX w, kX, nX, n)) none (q0.1, q0.2, (rX w, kX, nX, n)) := by
  intro l
  refine qc_ent2 (by decide) (Nat.le_of_ble_eq_true rfl) ?_
  intro F hn0 cx hz
  have cx : qc_X F cX3_readBlock RX3 "readBlock" 3 0 0 64 := cx
  have L52 : ∀  (f : Nat) (I : (Nat → Nat → Int32)) (J : (Nat → Nat → Int64)) (a2 : Int32) (a3 : Int32), P_X3_readBlock_52 f I J a2 a3 = some q0 → qc_J F 0 0 52 [some (.ref 121), none, some (.int a2), some (.int a3)] [] (I, J, (rX w, kX, nX, n)) := by
    intro  f
    induction f with
    | zero => intro I J a2 a3 hP; cases hP
    | succ f ih =>
      intro I J a2 a3 hP
      rw [P_X3_readBlock_52] at hP
      refine qj_iload_n cx dX3_readBlock_52 rfl rfl ?_
      refine qj_iload_n cx dX3_readBlock_53 rfl rfl ?_
      refine qj_icmp_gt (tgt := 78) cx dX3_readBlock_54 (by decide) (fun c1 => ?_) (fun c1 => ?_)
      · have hP := qc_ifT hP c1
        exact qw_vret cx hz dX3_readBlock_78 (Nat.zero_le _) (Nat.zero_le _) (congrArg (fun q => q.1) (Option.some.inj hP)) (congrArg (fun q => q.2) (Option.some.inj hP))
      · have hP := qc_ifF hP c1
        refine qj_aload_n cx dX3_readBlock_57 rfl rfl ?_
        refine qw_getR (j := 2) (t1 := 122) cx dX3_readBlock_58 qc_cl3 rfl (Nat.lt_of_lt_of_le (by decide) hn2) rfl ww_386 rfl ?_
        refine qj_dup cx dX3_readBlock_61 rfl ?_
        refine qw_getJ (j := 6) cx dX3_readBlock_62 qc_cl4 rfl (Nat.lt_of_lt_of_le (by decide) hn2) rfl ww_172 ?_
        refine qj_lconst (v := (1 : Int64)) cx dX3_readBlock_65 (by decide) ?_
        refine qj_iload_n cx dX3_readBlock_66 rfl rfl ?_
        refine qj_lshl cx dX3_readBlock_67 ?_
        refine qj_lor cx dX3_readBlock_68 ?_
        obtain ⟨J2, eJ2, hP⟩ := qc_letE hP
        refine qw_putJ (j := 6) cx dX3_readBlock_69 qc_cl4 rfl (Nat.lt_of_lt_of_le (by decide) hn2) rfl ww_172 rfl rfl rfl eJ2 ?_
        obtain ⟨x3, ex3, hP⟩ := qc_letE hP
        refine qj_iinc (v := x3) (ls1 := [some (.ref 121), none, some (.int a2), some (.int x3)]) cx dX3_readBlock_72 rfl (by rw [ex3]; rfl) rfl rfl ?_
        refine qj_goto (tgt := 52) cx dX3_readBlock_75 (by decide) ?_
        exact ih I J2 a2 x3 hP
  have L14 : ∀  (I : (Nat → Nat → Int32)) (J : (Nat → Nat → Int64)), P_X3_readBlock_14 I J = some q0 → qc_J F 0 0 14 [some (.ref 121), none, none, none] [] (I, J, (rX w, kX, nX, n)) := by
    intro I J hP
    unfold P_X3_readBlock_14 at hP
    refine qj_aload_n cx dX3_readBlock_14 rfl rfl ?_
    refine qj_dup cx dX3_readBlock_15 rfl ?_
    refine qw_getI (j := 10) cx dX3_readBlock_16 qc_cl3 rfl (Nat.lt_of_lt_of_le (by decide) hn2) rfl ww_398 ?_
    refine qj_iconst (v := (1 : Int32)) cx dX3_readBlock_19 (by decide) ?_
    refine qj_iadd cx dX3_readBlock_20 ?_
    obtain ⟨I4, eI4, hP⟩ := qc_letE hP
    refine qw_putI (j := 10) cx dX3_readBlock_21 qc_cl3 rfl (Nat.lt_of_lt_of_le (by decide) hn2) rfl ww_398 rfl rfl rfl eI4 ?_
    refine qj_aload_n cx dX3_readBlock_24 rfl rfl ?_
    refine qj_iconst (v := (1 : Int32)) cx dX3_readBlock_25 (by decide) ?_
    refine qj_aload_n cx dX3_readBlock_26 rfl rfl ?_
    refine qw_getR (j := 2) (t1 := 122) cx dX3_readBlock_27 qc_cl3 rfl (Nat.lt_of_lt_of_le (by decide) hn2) rfl ww_386 rfl ?_
    refine qw_getI (j := 1) cx dX3_readBlock_30 qc_cl4 rfl (Nat.lt_of_lt_of_le (by decide) hn2) rfl ww_153 ?_
    obtain ⟨q5, eq5, hP⟩ := Option.bind_eq_some_iff.mp hP
    refine qj_callV (As := [.int (1 : Int32), .int (I4 122 1)]) (st := []) (t := 121) (h' := (q5.2, J, (rX w, kX, nX, n))) (r := some (.int q5.1)) cx dX3_readBlock_33 (c_X3_takeNumber (I := I4) (J := J) (w := w) hn hn1 hn2 eq5) gc_RX3_75 qm_X3_takeNumber rfl rfl qc_cl3 rfl (Nat.lt_of_lt_of_le (by decide) hn2) (by decide) (by decide) rfl (Nat.le_of_ble_eq_true rfl) (Nat.le_trans hn1 (by decide)) hn0 rfl ?_
    refine qj_istore_n (ls1 := [some (.ref 121), some (.int q5.1), none, none]) cx dX3_readBlock_36 rfl rfl rfl rfl ?_
    refine qj_aload_n cx dX3_readBlock_37 rfl rfl ?_
    refine qj_iload_n cx dX3_readBlock_38 rfl rfl ?_
    refine qj_aload_n cx dX3_readBlock_39 rfl rfl ?_
    refine qw_getR (j := 2) (t1 := 122) cx dX3_readBlock_40 qc_cl3 rfl (Nat.lt_of_lt_of_le (by decide) hn2) rfl ww_386 rfl ?_
    refine qw_getI (j := 1) cx dX3_readBlock_43 qc_cl4 rfl (Nat.lt_of_lt_of_le (by decide) hn2) rfl ww_153 ?_
    obtain ⟨q6, eq6, hP⟩ := Option.bind_eq_some_iff.mp hP
    refine qj_callV (As := [.int q5.1, .int (q5.2 122 1)]) (st := []) (t := 121) (h' := (q6.2, J, (rX w, kX, nX, n))) (r := some (.int q6.1)) cx dX3_readBlock_46 (c_X3_takeNumber (I := q5.2) (J := J) (w := w) hn hn1 hn2 eq6) gc_RX3_75 qm_X3_takeNumber rfl rfl qc_cl3 rfl (Nat.lt_of_lt_of_le (by decide) hn2) (by decide) (by decide) rfl (Nat.le_of_ble_eq_true rfl) (Nat.le_trans hn1 (by decide)) hn0 rfl ?_
    refine qj_istore_n (ls1 := [some (.ref 121), some (.int q5.1), some (.int q6.1), none]) cx dX3_readBlock_49 rfl rfl rfl rfl ?_
    refine qj_iload_n cx dX3_readBlock_50 rfl rfl ?_
    refine qj_istore_n (ls1 := [some (.ref 121), some (.int q5.1), some (.int q6.1), some (.int q5.1)]) cx dX3_readBlock_51 rfl rfl rfl rfl ?_
    refine qw_sub (ls1 := [some (.ref 121), none, some (.int q6.1), some (.int q5.1)]) rfl (qc_sb_ok ⟨rfl, rfl, rfl, trivial⟩) ?_
    exact L52 qc_fu q6.2 J q6.1 q5.1 hP
  show qc_J F 0 0 0 [some (.ref 121), none, none, none] [] (I, J, (rX w, kX, nX, n))
  unfold P_X3_readBlock at hP
  refine qj_aload_n cx dX3_readBlock_0 rfl rfl ?_
  refine qw_getI (j := 10) cx dX3_readBlock_1 qc_cl3 rfl (Nat.lt_of_lt_of_le (by decide) hn2) rfl ww_398 ?_
  refine qj_bipush (v := (6 : Int32)) cx dX3_readBlock_4 (by decide) ?_
  refine qj_icmp_lt (tgt := 14) cx dX3_readBlock_6 (by decide) (fun c7 => ?_) (fun c7 => ?_)
  · have hP := qc_ifT hP c7
    exact L14 I J hP
  · have hP := qc_ifF hP c7
    refine qj_aload_n cx dX3_readBlock_9 rfl rfl ?_
    refine qj_iconst (v := (2 : Int32)) cx dX3_readBlock_10 (by decide) ?_
    obtain ⟨q8, eq8, hP⟩ := Option.bind_eq_some_iff.mp hP
    refine qj_callV (As := [.int (2 : Int32)]) (st := []) (t := 121) (h' := (q8, J, (rX w, kX, nX, n))) (r := none) cx dX3_readBlock_11 (c_X3_fail (I := I) (J := J) (w := w) hn hn1 hn2 eq8) gc_RX3_110 qm_X3_fail rfl rfl qc_cl3 rfl (Nat.lt_of_lt_of_le (by decide) hn2) (by decide) (by decide) rfl (Nat.le_of_ble_eq_true rfl) (Nat.le_trans hn1 (by decide)) hn0 rfl ?_
    exact L14 q8 J hP
def P_X3_readLink_48  (I : (Nat → Nat → Int32)) (a1 : Int32) (a2 : Int32) : Option ((Nat → Nat → Int32)) :=
  (P_X3_takeNumber I (0 : Int32) (99 : Int32)).bind fun q1 =>
  if qc_in ((a1 * (3 : Int32)) + a2) 9 then
  qc_let (qc_u2 q1.2 124 ((a1 * (3 : Int32)) + a2).toNatClampNeg q1.1) fun I2 =>
  if qc_in ((a2 * (3 : Int32)) + a1) 9 then
  qc_let (qc_u2 I2 124 ((a2 * (3 : Int32)) + a1).toNatClampNeg q1.1) fun I3 =>
  some I3
  else none
  else none
def P_X3_readLink_24  (I : (Nat → Nat → Int32)) (a1 : Int32) (a2 : Int32) : Option ((Nat → Nat → Int32)) :=
  if qc_in ((a1 * (3 : Int32)) + a2) 9 then
  if I 124 ((a1 * (3 : Int32)) + a2).toNatClampNeg = (1000 : Int32) then
  P_X3_readLink_48 I a1 a2
  else
  (P_X3_fail I (3 : Int32)).bind fun q8 =>
  P_X3_readLink_48 q8 a1 a2
  else none
def P_X3_readLink (I : Nat → Nat → Int32) : Option ((Nat → Nat → Int32)) :=
  (P_X3_takeNumber I (0 : Int32) (2 : Int32)).bind fun q9 =>
  (P_X3_takeNumber q9.2 (0 : Int32) (2 : Int32)).bind fun q10 =>
  if q9.1 = q10.1 then
  (P_X3_fail q10.2 (2 : Int32)).bind fun q12 =>
  P_X3_readLink_24 q12 q9.1 q10.1
  else
  P_X3_readLink_24 q10.2 q9.1 q10.1
set_option maxRecDepth 20000 in
theorem c_X3_readLink {I : Nat → Nat → Int32} {J : Nat → Nat → Int64} {w : Nat → Nat} {n : Nat} (hn : 121 ≤ n) (hn1 : n ≤ 200) (hn2 : 132 ≤ n)  {q0 : (Nat → Nat → Int32)} (hP : P_X3_readLink I = some q0) : ∀ l, qc_M l yX3_readLink cX3_readLink 4 none 3 64 0 0 [.ref 121] (I, J, (rX w, kX, nX, n)) none (q0, J, (rX w, kX, nX, n)) := by
  intro l
  refine qc_ent2 (by decide) (Nat.le_of_ble_eq_true rfl) ?_
  intro F hn0 cx hz
  have cx : qc_X F cX3_readLink RX3 "readLink" 3 0 0 64 := cx
  have L48 : ∀  (I : (Nat → Nat → Int32)) (a1 : Int32) (a2 : Int32), P_X3_readLink_48 I a1 a2 = some q0 → qc_J F 0 0 48 [some (.ref 121), some (.int a1), some (.int a2), none] [] (I, J, (rX w, kX, nX, n)) := by
    intro I a1 a2 hP
    unfold P_X3_readLink_48 at hP
    refine qj_aload_n cx dX3_readLink_48 rfl rfl ?_
    refine qj_iconst (v := (0 : Int32)) cx dX3_readLink_49 (by decide) ?_
    refine qj_bipush (v := (99 : Int32)) cx dX3_readLink_50 (by decide) ?_
    obtain ⟨q1, eq1, hP⟩ := Option.bind_eq_some_iff.mp hP
    refine qj_callV (As := [.int (0 : Int32), .int (99 : Int32)]) (st := []) (t := 121) (h' := (q1.2, J, (rX w, kX, nX, n))) (r := some (.int q1.1)) cx dX3_readLink_52 (c_X3_takeNumber (I := I) (J := J) (w := w) hn hn1 hn2 eq1) gc_RX3_75 qm_X3_takeNumber rfl rfl qc_cl3 rfl (Nat.lt_of_lt_of_le (by decide) hn2) (by decide) (by decide) rfl (Nat.le_of_ble_eq_true rfl) (Nat.le_trans hn1 (by decide)) hn0 rfl ?_
    refine qj_istore_n (ls1 := [some (.ref 121), some (.int a1), some (.int a2), some (.int q1.1)]) cx dX3_readLink_55 rfl rfl rfl rfl ?_
    refine qj_aload_n cx dX3_readLink_56 rfl rfl ?_
    refine qw_getR (j := 2) (t1 := 122) cx dX3_readLink_57 qc_cl3 rfl (Nat.lt_of_lt_of_le (by decide) hn2) rfl ww_386 rfl ?_
    refine qw_getR (j := 8) (t1 := 124) cx dX3_readLink_60 qc_cl4 rfl (Nat.lt_of_lt_of_le (by decide) hn2) rfl ww_178 rfl ?_
    refine qj_iload_n cx dX3_readLink_63 rfl rfl ?_
    refine qj_iconst (v := (3 : Int32)) cx dX3_readLink_64 (by decide) ?_
    refine qj_imul cx dX3_readLink_65 ?_
    refine qj_iload_n cx dX3_readLink_66 rfl rfl ?_
    refine qj_iadd cx dX3_readLink_67 ?_
    refine qj_iload_n cx dX3_readLink_68 rfl rfl ?_
    obtain ⟨c5, hP⟩ := qc_ck hP
    obtain ⟨I2, eI2, hP⟩ := qc_letE hP
    refine qw_iast (n1 := 9) cx dX3_readLink_69 rfl (Nat.lt_of_lt_of_le (by decide) hn2) rfl c5 eI2 ?_
    refine qj_aload_n cx dX3_readLink_70 rfl rfl ?_
    refine qw_getR (j := 2) (t1 := 122) cx dX3_readLink_71 qc_cl3 rfl (Nat.lt_of_lt_of_le (by decide) hn2) rfl ww_386 rfl ?_
    refine qw_getR (j := 8) (t1 := 124) cx dX3_readLink_74 qc_cl4 rfl (Nat.lt_of_lt_of_le (by decide) hn2) rfl ww_178 rfl ?_
    refine qj_iload_n cx dX3_readLink_77 rfl rfl ?_
    refine qj_iconst (v := (3 : Int32)) cx dX3_readLink_78 (by decide) ?_
    refine qj_imul cx dX3_readLink_79 ?_
    refine qj_iload_n cx dX3_readLink_80 rfl rfl ?_
    refine qj_iadd cx dX3_readLink_81 ?_
    refine qj_iload_n cx dX3_readLink_82 rfl rfl ?_
    obtain ⟨c4, hP⟩ := qc_ck hP
    obtain ⟨I3, eI3, hP⟩ := qc_letE hP
    refine qw_iast (n1 := 9) cx dX3_readLink_83 rfl (Nat.lt_of_lt_of_le (by decide) hn2) rfl c4 eI3 ?_
    exact qw_vret cx hz dX3_readLink_84 (Nat.zero_le _) (Nat.zero_le _) (Option.some.inj hP) rfl
  have L24 : ∀  (I : (Nat → Nat → Int32)) (a1 : Int32) (a2 : Int32), P_X3_readLink_24 I a1 a2 = some q0 → qc_J F 0 0 24 [some (.ref 121), some (.int a1), some (.int a2), none] [] (I, J, (rX w, kX, nX, n)) := by
    intro I a1 a2 hP
    unfold P_X3_readLink_24 at hP
    refine qj_aload_n cx dX3_readLink_24 rfl rfl ?_
    refine qw_getR (j := 2) (t1 := 122) cx dX3_readLink_25 qc_cl3 rfl (Nat.lt_of_lt_of_le (by decide) hn2) rfl ww_386 rfl ?_
    refine qw_getR (j := 8) (t1 := 124) cx dX3_readLink_28 qc_cl4 rfl (Nat.lt_of_lt_of_le (by decide) hn2) rfl ww_178 rfl ?_
    refine qj_iload_n cx dX3_readLink_31 rfl rfl ?_
    refine qj_iconst (v := (3 : Int32)) cx dX3_readLink_32 (by decide) ?_
    refine qj_imul cx dX3_readLink_33 ?_
    refine qj_iload_n cx dX3_readLink_34 rfl rfl ?_
    refine qj_iadd cx dX3_readLink_35 ?_
    obtain ⟨c6, hP⟩ := qc_ck hP
    refine qw_iald (n1 := 9) cx dX3_readLink_36 rfl (Nat.lt_of_lt_of_le (by decide) hn2) rfl c6 ?_
    refine qj_sipush (v := (1000 : Int32)) cx dX3_readLink_37 (by decide) ?_
    refine qj_icmp_eq (tgt := 48) cx dX3_readLink_40 (by decide) (fun c7 => ?_) (fun c7 => ?_)
    · have hP := qc_ifT hP c7
      exact L48 I a1 a2 hP
    · have hP := qc_ifF hP c7
      refine qj_aload_n cx dX3_readLink_43 rfl rfl ?_
      refine qj_iconst (v := (3 : Int32)) cx dX3_readLink_44 (by decide) ?_
      obtain ⟨q8, eq8, hP⟩ := Option.bind_eq_some_iff.mp hP
      refine qj_callV (As := [.int (3 : Int32)]) (st := []) (t := 121) (h' := (q8, J, (rX w, kX, nX, n))) (r := none) cx dX3_readLink_45 (c_X3_fail (I := I) (J := J) (w := w) hn hn1 hn2 eq8) gc_RX3_110 qm_X3_fail rfl rfl qc_cl3 rfl (Nat.lt_of_lt_of_le (by decide) hn2) (by decide) (by decide) rfl (Nat.le_of_ble_eq_true rfl) (Nat.le_trans hn1 (by decide)) hn0 rfl ?_
      exact L48 q8 a1 a2 hP
  show qc_J F 0 0 0 [some (.ref 121), none, none, none] [] (I, J, (rX w, kX, nX, n))
  unfold P_X3_readLink at hP
  refine qj_aload_n cx dX3_readLink_0 rfl rfl ?_
  refine qj_iconst (v := (0 : Int32)) cx dX3_readLink_1 (by decide) ?_
  refine qj_iconst (v := (2 : Int32)) cx dX3_readLink_2 (by decide) ?_
  obtain ⟨q9, eq9, hP⟩ := Option.bind_eq_some_iff.mp hP
  refine qj_callV (As := [.int (0 : Int32), .int (2 : Int32)]) (st := []) (t := 121) (h' := (q9.2, J, (rX w, kX, nX, n))) (r := some (.int q9.1)) cx dX3_readLink_3 (c_X3_takeNumber (I := I) (J := J) (w := w) hn hn1 hn2 eq9) gc_RX3_75 qm_X3_takeNumber rfl rfl qc_cl3 rfl (Nat.lt_of_lt_of_le (by decide) hn2) (by decide) (by decide) rfl (Nat.le_of_ble_eq_true rfl) (Nat.le_trans hn1 (by decide)) hn0 rfl ?_
  refine qj_istore_n (ls1 := [some (.ref 121), some (.int q9.1), none, none]) cx dX3_readLink_6 rfl rfl rfl rfl ?_
  refine qj_aload_n cx dX3_readLink_7 rfl rfl ?_
  refine qj_iconst (v := (0 : Int32)) cx dX3_readLink_8 (by decide) ?_
  refine qj_iconst (v := (2 : Int32)) cx dX3_readLink_9 (by decide) ?_
  obtain ⟨q10, eq10, hP⟩ := Option.bind_eq_some_iff.mp hP
  refine qj_callV (As := [.int (0 : Int32), .int (2 : Int32)]) (st := []) (t := 121) (h' := (q10.2, J, (rX w, kX, nX, n))) (r := some (.int q10.1)) cx dX3_readLink_10 (c_X3_takeNumber (I := q9.2) (J := J) (w := w) hn hn1 hn2 eq10) gc_RX3_75 qm_X3_takeNumber rfl rfl qc_cl3 rfl (Nat.lt_of_lt_of_le (by decide) hn2) (by decide) (by decide) rfl (Nat.le_of_ble_eq_true rfl) (Nat.le_trans hn1 (by decide)) hn0 rfl ?_
  refine qj_istore_n (ls1 := [some (.ref 121), some (.int q9.1), some (.int q10.1), none]) cx dX3_readLink_13 rfl rfl rfl rfl ?_
  refine qj_iload_n cx dX3_readLink_14 rfl rfl ?_
  refine qj_iload_n cx dX3_readLink_15 rfl rfl ?_
  refine qj_icmp_ne (tgt := 24) cx dX3_readLink_16 (by decide) (fun c11 => ?_) (fun c11 => ?_)
  · have hP := qc_ifF hP c11
    exact L24 q10.2 q9.1 q10.1 hP
  · have hP := qc_ifT hP c11
    refine qj_aload_n cx dX3_readLink_19 rfl rfl ?_
    refine qj_iconst (v := (2 : Int32)) cx dX3_readLink_20 (by decide) ?_
    obtain ⟨q12, eq12, hP⟩ := Option.bind_eq_some_iff.mp hP
    refine qj_callV (As := [.int (2 : Int32)]) (st := []) (t := 121) (h' := (q12, J, (rX w, kX, nX, n))) (r := none) cx dX3_readLink_21 (c_X3_fail (I := q10.2) (J := J) (w := w) hn hn1 hn2 eq12) gc_RX3_110 qm_X3_fail rfl rfl qc_cl3 rfl (Nat.lt_of_lt_of_le (by decide) hn2) (by decide) (by decide) rfl (Nat.le_of_ble_eq_true rfl) (Nat.le_trans hn1 (by decide)) hn0 rfl ?_
    exact L24 q12 q9.1 q10.1 hP
def P_X2_fill (I : Nat → Nat → Int32) (J : Nat → Nat → Int64) (p : Nat) : Option ((Nat → Nat → Int32) × (Nat → Nat → Int64)) :=
  (P_X2_gather I J p (0 : Int32)).bind fun q1 =>
  some (q1.1, q1.2)
set_option maxRecDepth 20000 in
theorem c_X2_fill {I : Nat → Nat → Int32} {J : Nat → Nat → Int64} {w : Nat → Nat} {n : Nat} (hn : 121 ≤ n) (hn1 : n ≤ 200) {p : Nat} (hp : qc_sc n p)  {q0 : (Nat → Nat → Int32) × (Nat → Nat → Int64)} (hP : P_X2_fill I J p = some q0) : ∀ l, qc_M l yX2_fill cX2_fill 2 none 4 106 0 0 [.ref 22, .ref p] (I, J, (rX w, kX, nX, n)) none (q0.1, q0.2, (rX w, kX, nX, n)) := by
  intro l
  refine qc_ent2 (by decide) (Nat.le_of_ble_eq_true rfl) ?_
  intro F hn0 cx hz
  have cx : qc_X F cX2_fill RX2 "fill" 4 0 0 106 := cx
  show qc_J F 0 0 0 [some (.ref 22), some (.ref p)] [] (I, J, (rX w, kX, nX, n))
  unfold P_X2_fill at hP
  refine qj_aload_n cx dX2_fill_0 rfl rfl ?_
  refine qj_aload_n cx dX2_fill_1 rfl rfl ?_
  refine qj_iconst (v := (0 : Int32)) cx dX2_fill_2 (by decide) ?_
  obtain ⟨q1, eq1, hP⟩ := Option.bind_eq_some_iff.mp hP
  refine qj_callV (As := [.ref p, .int (0 : Int32)]) (st := []) (t := 22) (h' := (q1.1, q1.2, (rX w, kX, nX, n))) (r := none) cx dX2_fill_3 (c_X2_gather (I := I) (J := J) (w := w) hn hn1 hp eq1) gc_RX2_38 qm_X2_gather rfl rfl qc_cl2 rfl (Nat.lt_of_lt_of_le (by decide) hn) (by decide) (by decide) rfl (Nat.le_of_ble_eq_true rfl) (Nat.le_trans hn1 (by decide)) hn0 rfl ?_
  exact qw_vret cx hz dX2_fill_6 (Nat.zero_le _) (Nat.zero_le _) (congrArg (fun q => q.1) (Option.some.inj hP)) (congrArg (fun q => q.2) (Option.some.inj hP))
def P_X2_anyStrike (I : Nat → Nat → Int32) (J : Nat → Nat → Int64) (p : Nat) : Option (Int32 × (Nat → Nat → Int32) × (Nat → Nat → Int64)) :=
  (P_X2_gather I J p (1 : Int32)).bind fun q1 =>
  (if q1.1 22 2 ≤ 0 then
  some (0 : Int32)
  else
  some (1 : Int32)).bind fun v3 =>
  if qc_bo v3 then some (v3, q1.1, q1.2) else none
set_option maxRecDepth 20000 in
theorem c_X2_anyStrike {I : Nat → Nat → Int32} {J : Nat → Nat → Int64} {w : Nat → Nat} {n : Nat} (hn : 121 ≤ n) (hn1 : n ≤ 200) {p : Nat} (hp : qc_sc n p)  {q0 : Int32 × (Nat → Nat → Int32) × (Nat → Nat → Int64)} (hP : P_X2_anyStrike I J p = some q0) : ∀ l, qc_M l yX2_anyStrike cX2_anyStrike 2 (some .boolean) 4 106 0 0 [.ref 22, .ref p] (I, J, (rX w, kX, nX, n)) (some (.int q0.1)) (q0.2.1, q0.2.2, (rX w, kX, nX, n)) := by
  intro l
  refine qc_ent2 (by decide) (Nat.le_of_ble_eq_true rfl) ?_
  intro F hn0 cx hz
  have cx : qc_X F cX2_anyStrike RX2 "anyStrike" 4 0 0 106 := cx
  show qc_J F 0 0 0 [some (.ref 22), some (.ref p)] [] (I, J, (rX w, kX, nX, n))
  unfold P_X2_anyStrike at hP
  refine qj_aload_n cx dX2_anyStrike_0 rfl rfl ?_
  refine qj_aload_n cx dX2_anyStrike_1 rfl rfl ?_
  refine qj_iconst (v := (1 : Int32)) cx dX2_anyStrike_2 (by decide) ?_
  obtain ⟨q1, eq1, hP⟩ := Option.bind_eq_some_iff.mp hP
  refine qj_callV (As := [.ref p, .int (1 : Int32)]) (st := []) (t := 22) (h' := (q1.1, q1.2, (rX w, kX, nX, n))) (r := none) cx dX2_anyStrike_3 (c_X2_gather (I := I) (J := J) (w := w) hn hn1 hp eq1) gc_RX2_38 qm_X2_gather rfl rfl qc_cl2 rfl (Nat.lt_of_lt_of_le (by decide) hn) (by decide) (by decide) rfl (Nat.le_of_ble_eq_true rfl) (Nat.le_trans hn1 (by decide)) hn0 rfl ?_
  refine qj_aload_n cx dX2_anyStrike_6 rfl rfl ?_
  refine qw_getI (j := 2) cx dX2_anyStrike_7 qc_cl2 rfl (Nat.lt_of_lt_of_le (by decide) hn) rfl ww_256 ?_
  obtain ⟨v3, hv3, hP⟩ := Option.bind_eq_some_iff.mp hP
  have Kv3 : qc_J F 0 0 18 [some (.ref 22), some (.ref p)] [.int v3] (q1.1, q1.2, (rX w, kX, nX, n)) := by
    obtain ⟨c4, hP⟩ := qc_ck hP
    exact qw_zret cx hz dX2_anyStrike_18 (qc_bo_n c4) (Nat.zero_le _) (Nat.zero_le _) (congrArg (fun q => q.1) (Option.some.inj hP)) (congrArg (fun q => q.2.1) (Option.some.inj hP)) (congrArg (fun q => q.2.2) (Option.some.inj hP))
  refine qj_if_le (tgt := 17) cx dX2_anyStrike_10 (by decide) (fun c2 => ?_) (fun c2 => ?_)
  · have hv3 := qc_ifT hv3 c2
    refine qj_iconst (v := (0 : Int32)) cx dX2_anyStrike_17 (by decide) ?_
    exact qw_top (Option.some.inj hv3).symm Kv3
  · have hv3 := qc_ifF hv3 c2
    refine qj_iconst (v := (1 : Int32)) cx dX2_anyStrike_13 (by decide) ?_
    refine qj_goto (tgt := 18) cx dX2_anyStrike_14 (by decide) ?_
    exact qw_top (Option.some.inj hv3).symm Kv3
def P_X2_allClean (I : Nat → Nat → Int32) (J : Nat → Nat → Int64) (p : Nat) : Option (Int32 × (Nat → Nat → Int32) × (Nat → Nat → Int64)) :=
  (P_X4_allRight I J p).bind fun q1 =>
  if q1 = 0 then
  some ((0 : Int32), I, J)
  else
  (P_X4_crowdedCouples I p).bind fun q3 =>
  if q3 ≤ 0 then
  (P_X2_gather I J p (1 : Int32)).bind fun q5 =>
  (if q5.1 22 2 = 0 then
  some (1 : Int32)
  else
  some (0 : Int32)).bind fun v7 =>
  if qc_bo v7 then some (v7, q5.1, q5.2) else none
  else
  some ((0 : Int32), I, J)
set_option maxRecDepth 20000 in
theorem c_X2_allClean {I : Nat → Nat → Int32} {J : Nat → Nat → Int64} {w : Nat → Nat} {n : Nat} (hn : 121 ≤ n) (hn1 : n ≤ 200) {p : Nat} (hp : qc_sc n p)  {q0 : Int32 × (Nat → Nat → Int32) × (Nat → Nat → Int64)} (hP : P_X2_allClean I J p = some q0) : ∀ l, qc_M l yX2_allClean cX2_allClean 2 (some .boolean) 4 106 0 0 [.ref 22, .ref p] (I, J, (rX w, kX, nX, n)) (some (.int q0.1)) (q0.2.1, q0.2.2, (rX w, kX, nX, n)) := by
  intro l
  refine qc_ent2 (by decide) (Nat.le_of_ble_eq_true rfl) ?_
  intro F hn0 cx hz
  have cx : qc_X F cX2_allClean RX2 "allClean" 4 0 0 106 := cx
  show qc_J F 0 0 0 [some (.ref 22), some (.ref p)] [] (I, J, (rX w, kX, nX, n))
  unfold P_X2_allClean at hP
  refine qj_aload_n cx dX2_allClean_0 rfl rfl ?_
  obtain ⟨q1, eq1, hP⟩ := Option.bind_eq_some_iff.mp hP
  refine qj_callV (As := []) (st := []) (t := p) (h' := (I, J, (rX w, kX, nX, n))) (r := some (.int q1)) cx dX2_allClean_1 (c_X4_allRight (I := I) (J := J) (w := w) hn hn1 hp eq1) gc_RX2_42 qm_X4_allRight rfl rfl qc_cl4 hp.2.1 (qc_ltp0 hp.1) (by decide) (by decide) rfl (Nat.le_of_ble_eq_true rfl) (Nat.le_trans hn1 (by decide)) hn0 rfl ?_
  refine qj_if_eq (tgt := 14) cx dX2_allClean_4 (by decide) (fun c2 => ?_) (fun c2 => ?_)
  · have hP := qc_ifT hP c2
    refine qj_iconst (v := (0 : Int32)) cx dX2_allClean_14 (by decide) ?_
    exact qw_zret cx hz dX2_allClean_15 (by decide) (Nat.zero_le _) (Nat.zero_le _) (congrArg (fun q => q.1) (Option.some.inj hP)) (congrArg (fun q => q.2.1) (Option.some.inj hP)) (congrArg (fun q => q.2.2) (Option.some.inj hP))
  · have hP := qc_ifF hP c2
    refine qj_aload_n cx dX2_allClean_7 rfl rfl ?_
    obtain ⟨q3, eq3, hP⟩ := Option.bind_eq_some_iff.mp hP
    refine qj_callV (As := []) (st := []) (t := p) (h' := (I, J, (rX w, kX, nX, n))) (r := some (.int q3)) cx dX2_allClean_8 (c_X4_crowdedCouples (I := I) (J := J) (w := w) hn hn1 hp eq3) gc_RX2_48 qm_X4_crowdedCouples rfl rfl qc_cl4 hp.2.1 (qc_ltp0 hp.1) (by decide) (by decide) rfl (Nat.le_of_ble_eq_true rfl) (Nat.le_trans hn1 (by decide)) hn0 rfl ?_
    refine qj_if_le (tgt := 16) cx dX2_allClean_11 (by decide) (fun c4 => ?_) (fun c4 => ?_)
    · have hP := qc_ifT hP c4
      refine qj_aload_n cx dX2_allClean_16 rfl rfl ?_
      refine qj_aload_n cx dX2_allClean_17 rfl rfl ?_
      refine qj_iconst (v := (1 : Int32)) cx dX2_allClean_18 (by decide) ?_
      obtain ⟨q5, eq5, hP⟩ := Option.bind_eq_some_iff.mp hP
      refine qj_callV (As := [.ref p, .int (1 : Int32)]) (st := []) (t := 22) (h' := (q5.1, q5.2, (rX w, kX, nX, n))) (r := none) cx dX2_allClean_19 (c_X2_gather (I := I) (J := J) (w := w) hn hn1 hp eq5) gc_RX2_38 qm_X2_gather rfl rfl qc_cl2 rfl (Nat.lt_of_lt_of_le (by decide) hn) (by decide) (by decide) rfl (Nat.le_of_ble_eq_true rfl) (Nat.le_trans hn1 (by decide)) hn0 rfl ?_
      refine qj_aload_n cx dX2_allClean_22 rfl rfl ?_
      refine qw_getI (j := 2) cx dX2_allClean_23 qc_cl2 rfl (Nat.lt_of_lt_of_le (by decide) hn) rfl ww_256 ?_
      obtain ⟨v7, hv7, hP⟩ := Option.bind_eq_some_iff.mp hP
      have Kv7 : qc_J F 0 0 34 [some (.ref 22), some (.ref p)] [.int v7] (q5.1, q5.2, (rX w, kX, nX, n)) := by
        obtain ⟨c8, hP⟩ := qc_ck hP
        exact qw_zret cx hz dX2_allClean_34 (qc_bo_n c8) (Nat.zero_le _) (Nat.zero_le _) (congrArg (fun q => q.1) (Option.some.inj hP)) (congrArg (fun q => q.2.1) (Option.some.inj hP)) (congrArg (fun q => q.2.2) (Option.some.inj hP))
      refine qj_if_ne (tgt := 33) cx dX2_allClean_26 (by decide) (fun c6 => ?_) (fun c6 => ?_)
      · have hv7 := qc_ifF hv7 c6
        refine qj_iconst (v := (0 : Int32)) cx dX2_allClean_33 (by decide) ?_
        exact qw_top (Option.some.inj hv7).symm Kv7
      · have hv7 := qc_ifT hv7 c6
        refine qj_iconst (v := (1 : Int32)) cx dX2_allClean_29 (by decide) ?_
        refine qj_goto (tgt := 34) cx dX2_allClean_30 (by decide) ?_
        exact qw_top (Option.some.inj hv7).symm Kv7
    · have hP := qc_ifF hP c4
      refine qj_iconst (v := (0 : Int32)) cx dX2_allClean_14 (by decide) ?_
      exact qw_zret cx hz dX2_allClean_15 (by decide) (Nat.zero_le _) (Nat.zero_le _) (congrArg (fun q => q.1) (Option.some.inj hP)) (congrArg (fun q => q.2.1) (Option.some.inj hP)) (congrArg (fun q => q.2.2) (Option.some.inj hP))
def P_X3_readLine (I : Nat → Nat → Int32) (J : Nat → Nat → Int64) : Option ((Nat → Nat → Int32) × (Nat → Nat → Int64)) :=
  (if I 121 4 = (1 : Int32) then
  some (I 121 6)
  else
  some (0 : Int32)).bind fun v2 =>
  if v2 = (68620288 : Int32) then
  (P_X3_readBand I).bind fun q4 =>
  some (q4, J)
  else if v2 = (80186720 : Int32) then
  (P_X3_readBlock I J).bind fun q6 =>
  some (q6.1, q6.2)
  else if v2 = (211555456 : Int32) then
  (P_X3_readFixed I).bind fun q8 =>
  some (q8, J)
  else if v2 = (256952448 : Int32) then
  (P_X3_tellOnce I (2 : Int32)).bind fun q10 =>
  (P_X3_takeNumber q10 (0 : Int32) (5 : Int32)).bind fun q11 =>
  qc_let (qc_u2 q11.2 122 2 q11.1) fun I12 =>
  some (I12, J)
  else if v2 = (412560384 : Int32) then
  (P_X3_readLink I).bind fun q14 =>
  some (q14, J)
  else if v2 = (419023872 : Int32) then
  (P_X3_tellOnce I (16 : Int32)).bind fun q16 =>
  (P_X3_takeNumber q16 (0 : Int32) (99 : Int32)).bind fun q17 =>
  qc_let (qc_u2 q17.2 123 0 q17.1) fun I18 =>
  (P_X3_takeNumber I18 (0 : Int32) (99 : Int32)).bind fun q19 =>
  qc_let (qc_u2 q19.2 123 1 q19.1) fun I20 =>
  (P_X3_takeNumber I20 (0 : Int32) (99 : Int32)).bind fun q21 =>
  qc_let (qc_u2 q21.2 123 2 q21.1) fun I22 =>
  some (I22, J)
  else if v2 = (522327635 : Int32) then
  (P_X3_tellOnce I (8 : Int32)).bind fun q24 =>
  (P_X3_takeNumber q24 (0 : Int32) (7 : Int32)).bind fun q25 =>
  qc_let (qc_u2 q25.2 122 4 q25.1) fun I26 =>
  some (I26, J)
  else if v2 = (642945024 : Int32) then
  (P_X3_tellOnce I (32 : Int32)).bind fun q28 =>
  (P_X3_takeNumber q28 (0 : Int32) (99999 : Int32)).bind fun q29 =>
  qc_let (qc_u2 q29.2 122 5 q29.1) fun I30 =>
  some (I30, J)
  else if v2 = (650629728 : Int32) then
  (P_X3_readSlots I).bind fun q32 =>
  some (q32, J)
  else if v2 = (654347424 : Int32) then
  (P_X3_tellOnce I (4 : Int32)).bind fun q34 =>
  (P_X3_takeNumber q34 (1 : Int32) (20 : Int32)).bind fun q35 =>
  qc_let (qc_u2 q35.2 122 3 q35.1) fun I36 =>
  some (I36, J)
  else if v2 = (724748288 : Int32) then
  (P_X3_readUser I).bind fun q38 =>
  some (q38, J)
  else 
  (P_X3_fail I (1 : Int32)).bind fun q39 =>
  some (q39, J)
set_option maxRecDepth 20000 in
theorem c_X3_readLine {I : Nat → Nat → Int32} {J : Nat → Nat → Int64} {w : Nat → Nat} {n : Nat} (hn : 121 ≤ n) (hn1 : n ≤ 200) (hn2 : 132 ≤ n)  {q0 : (Nat → Nat → Int32) × (Nat → Nat → Int64)} (hP : P_X3_readLine I J = some q0) : ∀ l, qc_M l yX3_readLine cX3_readLine 2 none 5 104 0 0 [.ref 121] (I, J, (rX w, kX, nX, n)) none (q0.1, q0.2, (rX w, kX, nX, n)) := by
  intro l
  refine qc_ent2 (by decide) (Nat.le_of_ble_eq_true rfl) ?_
  intro F hn0 cx hz
  have cx : qc_X F cX3_readLine RX3 "readLine" 5 0 0 104 := cx
  show qc_J F 0 0 0 [some (.ref 121), none] [] (I, J, (rX w, kX, nX, n))
  unfold P_X3_readLine at hP
  refine qj_aload_n cx dX3_readLine_0 rfl rfl ?_
  refine qw_getI (j := 4) cx dX3_readLine_1 qc_cl3 rfl (Nat.lt_of_lt_of_le (by decide) hn2) rfl ww_389 ?_
  refine qj_iconst (v := (1 : Int32)) cx dX3_readLine_4 (by decide) ?_
  obtain ⟨v2, hv2, hP⟩ := Option.bind_eq_some_iff.mp hP
  have Kv2 : qc_J F 0 0 16 [some (.ref 121), none] [.int v2] (I, J, (rX w, kX, nX, n)) := by
    refine qj_istore_n (ls1 := [some (.ref 121), some (.int v2)]) cx dX3_readLine_16 rfl rfl rfl rfl ?_
    refine qj_iload_n cx dX3_readLine_17 rfl rfl ?_
    by_cases c3 : v2 = (68620288 : Int32)
    · have hP := qc_ifT hP c3
      refine qj_lookup (off := 98) (tgt := 116) cx dX3_readLine_18 (by decide) (by rw [c3]; decide) (by decide) ?_
      refine qj_aload_n cx dX3_readLine_116 rfl rfl ?_
      obtain ⟨q4, eq4, hP⟩ := Option.bind_eq_some_iff.mp hP
      refine qj_callV (As := []) (st := []) (t := 121) (h' := (q4, J, (rX w, kX, nX, n))) (r := none) cx dX3_readLine_117 (c_X3_readBand (I := I) (J := J) (w := w) hn hn1 hn2 eq4) gc_RX3_68 qm_X3_readBand rfl rfl qc_cl3 rfl (Nat.lt_of_lt_of_le (by decide) hn2) (by decide) (by decide) rfl (Nat.le_of_ble_eq_true rfl) (Nat.le_trans hn1 (by decide)) hn0 rfl ?_
      refine qj_goto (tgt := 309) cx dX3_readLine_120 (by decide) ?_
      exact qw_vret cx hz dX3_readLine_309 (Nat.zero_le _) (Nat.zero_le _) (congrArg (fun q => q.1) (Option.some.inj hP)) (congrArg (fun q => q.2) (Option.some.inj hP))
    have hP := qc_ifF hP c3
    by_cases c5 : v2 = (80186720 : Int32)
    · have hP := qc_ifT hP c5
      refine qj_lookup (off := 242) (tgt := 260) cx dX3_readLine_18 (by decide) (by rw [c5]; decide) (by decide) ?_
      refine qj_aload_n cx dX3_readLine_260 rfl rfl ?_
      obtain ⟨q6, eq6, hP⟩ := Option.bind_eq_some_iff.mp hP
      refine qj_callV (As := []) (st := []) (t := 121) (h' := (q6.1, q6.2, (rX w, kX, nX, n))) (r := none) cx dX3_readLine_261 (c_X3_readBlock (I := I) (J := J) (w := w) hn hn1 hn2 eq6) gc_RX3_97 qm_X3_readBlock rfl rfl qc_cl3 rfl (Nat.lt_of_lt_of_le (by decide) hn2) (by decide) (by decide) rfl (Nat.le_of_ble_eq_true rfl) (Nat.le_trans hn1 (by decide)) hn0 rfl ?_
      refine qj_goto (tgt := 309) cx dX3_readLine_264 (by decide) ?_
      exact qw_vret cx hz dX3_readLine_309 (Nat.zero_le _) (Nat.zero_le _) (congrArg (fun q => q.1) (Option.some.inj hP)) (congrArg (fun q => q.2) (Option.some.inj hP))
    have hP := qc_ifF hP c5
    by_cases c7 : v2 = (211555456 : Int32)
    · have hP := qc_ifT hP c7
      refine qj_lookup (off := 235) (tgt := 253) cx dX3_readLine_18 (by decide) (by rw [c7]; decide) (by decide) ?_
      refine qj_aload_n cx dX3_readLine_253 rfl rfl ?_
      obtain ⟨q8, eq8, hP⟩ := Option.bind_eq_some_iff.mp hP
      refine qj_callV (As := []) (st := []) (t := 121) (h' := (q8, J, (rX w, kX, nX, n))) (r := none) cx dX3_readLine_254 (c_X3_readFixed (I := I) (J := J) (w := w) hn hn1 hn2 eq8) gc_RX3_94 qm_X3_readFixed rfl rfl qc_cl3 rfl (Nat.lt_of_lt_of_le (by decide) hn2) (by decide) (by decide) rfl (Nat.le_of_ble_eq_true rfl) (Nat.le_trans hn1 (by decide)) hn0 rfl ?_
      refine qj_goto (tgt := 309) cx dX3_readLine_257 (by decide) ?_
      exact qw_vret cx hz dX3_readLine_309 (Nat.zero_le _) (Nat.zero_le _) (congrArg (fun q => q.1) (Option.some.inj hP)) (congrArg (fun q => q.2) (Option.some.inj hP))
    have hP := qc_ifF hP c7
    by_cases c9 : v2 = (256952448 : Int32)
    · have hP := qc_ifT hP c9
      refine qj_lookup (off := 105) (tgt := 123) cx dX3_readLine_18 (by decide) (by rw [c9]; decide) (by decide) ?_
      refine qj_aload_n cx dX3_readLine_123 rfl rfl ?_
      refine qj_iconst (v := (2 : Int32)) cx dX3_readLine_124 (by decide) ?_
      obtain ⟨q10, eq10, hP⟩ := Option.bind_eq_some_iff.mp hP
      refine qj_callV (As := [.int (2 : Int32)]) (st := []) (t := 121) (h' := (q10, J, (rX w, kX, nX, n))) (r := none) cx dX3_readLine_125 (c_X3_tellOnce (I := I) (J := J) (w := w) hn hn1 hn2 eq10) gc_RX3_71 qm_X3_tellOnce rfl rfl qc_cl3 rfl (Nat.lt_of_lt_of_le (by decide) hn2) (by decide) (by decide) rfl (Nat.le_of_ble_eq_true rfl) (Nat.le_trans hn1 (by decide)) hn0 rfl ?_
      refine qj_aload_n cx dX3_readLine_128 rfl rfl ?_
      refine qw_getR (j := 2) (t1 := 122) cx dX3_readLine_129 qc_cl3 rfl (Nat.lt_of_lt_of_le (by decide) hn2) rfl ww_386 rfl ?_
      refine qj_aload_n cx dX3_readLine_132 rfl rfl ?_
      refine qj_iconst (v := (0 : Int32)) cx dX3_readLine_133 (by decide) ?_
      refine qj_iconst (v := (5 : Int32)) cx dX3_readLine_134 (by decide) ?_
      obtain ⟨q11, eq11, hP⟩ := Option.bind_eq_some_iff.mp hP
      refine qj_callV (As := [.int (0 : Int32), .int (5 : Int32)]) (st := [.ref 122]) (t := 121) (h' := (q11.2, J, (rX w, kX, nX, n))) (r := some (.int q11.1)) cx dX3_readLine_135 (c_X3_takeNumber (I := q10) (J := J) (w := w) hn hn1 hn2 eq11) gc_RX3_75 qm_X3_takeNumber rfl rfl qc_cl3 rfl (Nat.lt_of_lt_of_le (by decide) hn2) (by decide) (by decide) rfl (Nat.le_of_ble_eq_true rfl) (Nat.le_trans hn1 (by decide)) hn0 rfl ?_
      obtain ⟨I12, eI12, hP⟩ := qc_letE hP
      refine qw_putI (j := 2) cx dX3_readLine_138 qc_cl4 rfl (Nat.lt_of_lt_of_le (by decide) hn2) rfl ww_157 rfl rfl rfl eI12 ?_
      refine qj_goto (tgt := 309) cx dX3_readLine_141 (by decide) ?_
      exact qw_vret cx hz dX3_readLine_309 (Nat.zero_le _) (Nat.zero_le _) (congrArg (fun q => q.1) (Option.some.inj hP)) (congrArg (fun q => q.2) (Option.some.inj hP))
    have hP := qc_ifF hP c9
    by_cases c13 : v2 = (412560384 : Int32)
    · have hP := qc_ifT hP c13
      refine qj_lookup (off := 249) (tgt := 267) cx dX3_readLine_18 (by decide) (by rw [c13]; decide) (by decide) ?_
      refine qj_aload_n cx dX3_readLine_267 rfl rfl ?_
      obtain ⟨q14, eq14, hP⟩ := Option.bind_eq_some_iff.mp hP
      refine qj_callV (As := []) (st := []) (t := 121) (h' := (q14, J, (rX w, kX, nX, n))) (r := none) cx dX3_readLine_268 (c_X3_readLink (I := I) (J := J) (w := w) hn hn1 hn2 eq14) gc_RX3_100 qm_X3_readLink rfl rfl qc_cl3 rfl (Nat.lt_of_lt_of_le (by decide) hn2) (by decide) (by decide) rfl (Nat.le_of_ble_eq_true rfl) (Nat.le_trans hn1 (by decide)) hn0 rfl ?_
      refine qj_goto (tgt := 309) cx dX3_readLine_271 (by decide) ?_
      exact qw_vret cx hz dX3_readLine_309 (Nat.zero_le _) (Nat.zero_le _) (congrArg (fun q => q.1) (Option.some.inj hP)) (congrArg (fun q => q.2) (Option.some.inj hP))
    have hP := qc_ifF hP c13
    by_cases c15 : v2 = (419023872 : Int32)
    · have hP := qc_ifT hP c15
      refine qj_lookup (off := 171) (tgt := 189) cx dX3_readLine_18 (by decide) (by rw [c15]; decide) (by decide) ?_
      refine qj_aload_n cx dX3_readLine_189 rfl rfl ?_
      refine qj_bipush (v := (16 : Int32)) cx dX3_readLine_190 (by decide) ?_
      obtain ⟨q16, eq16, hP⟩ := Option.bind_eq_some_iff.mp hP
      refine qj_callV (As := [.int (16 : Int32)]) (st := []) (t := 121) (h' := (q16, J, (rX w, kX, nX, n))) (r := none) cx dX3_readLine_192 (c_X3_tellOnce (I := I) (J := J) (w := w) hn hn1 hn2 eq16) gc_RX3_71 qm_X3_tellOnce rfl rfl qc_cl3 rfl (Nat.lt_of_lt_of_le (by decide) hn2) (by decide) (by decide) rfl (Nat.le_of_ble_eq_true rfl) (Nat.le_trans hn1 (by decide)) hn0 rfl ?_
      refine qj_aload_n cx dX3_readLine_195 rfl rfl ?_
      refine qw_getR (j := 2) (t1 := 122) cx dX3_readLine_196 qc_cl3 rfl (Nat.lt_of_lt_of_le (by decide) hn2) rfl ww_386 rfl ?_
      refine qw_getR (j := 7) (t1 := 123) cx dX3_readLine_199 qc_cl4 rfl (Nat.lt_of_lt_of_le (by decide) hn2) rfl ww_174 rfl ?_
      refine qj_iconst (v := (0 : Int32)) cx dX3_readLine_202 (by decide) ?_
      refine qj_aload_n cx dX3_readLine_203 rfl rfl ?_
      refine qj_iconst (v := (0 : Int32)) cx dX3_readLine_204 (by decide) ?_
      refine qj_bipush (v := (99 : Int32)) cx dX3_readLine_205 (by decide) ?_
      obtain ⟨q17, eq17, hP⟩ := Option.bind_eq_some_iff.mp hP
      refine qj_callV (As := [.int (0 : Int32), .int (99 : Int32)]) (st := [.int (0 : Int32), .ref 123]) (t := 121) (h' := (q17.2, J, (rX w, kX, nX, n))) (r := some (.int q17.1)) cx dX3_readLine_207 (c_X3_takeNumber (I := q16) (J := J) (w := w) hn hn1 hn2 eq17) gc_RX3_75 qm_X3_takeNumber rfl rfl qc_cl3 rfl (Nat.lt_of_lt_of_le (by decide) hn2) (by decide) (by decide) rfl (Nat.le_of_ble_eq_true rfl) (Nat.le_trans hn1 (by decide)) hn0 rfl ?_
      obtain ⟨I18, eI18, hP⟩ := qc_letE hP
      refine qw_iast (n1 := 3) cx dX3_readLine_210 rfl (Nat.lt_of_lt_of_le (by decide) hn2) rfl (by decide) eI18 ?_
      refine qj_aload_n cx dX3_readLine_211 rfl rfl ?_
      refine qw_getR (j := 2) (t1 := 122) cx dX3_readLine_212 qc_cl3 rfl (Nat.lt_of_lt_of_le (by decide) hn2) rfl ww_386 rfl ?_
      refine qw_getR (j := 7) (t1 := 123) cx dX3_readLine_215 qc_cl4 rfl (Nat.lt_of_lt_of_le (by decide) hn2) rfl ww_174 rfl ?_
      refine qj_iconst (v := (1 : Int32)) cx dX3_readLine_218 (by decide) ?_
      refine qj_aload_n cx dX3_readLine_219 rfl rfl ?_
      refine qj_iconst (v := (0 : Int32)) cx dX3_readLine_220 (by decide) ?_
      refine qj_bipush (v := (99 : Int32)) cx dX3_readLine_221 (by decide) ?_
      obtain ⟨q19, eq19, hP⟩ := Option.bind_eq_some_iff.mp hP
      refine qj_callV (As := [.int (0 : Int32), .int (99 : Int32)]) (st := [.int (1 : Int32), .ref 123]) (t := 121) (h' := (q19.2, J, (rX w, kX, nX, n))) (r := some (.int q19.1)) cx dX3_readLine_223 (c_X3_takeNumber (I := I18) (J := J) (w := w) hn hn1 hn2 eq19) gc_RX3_75 qm_X3_takeNumber rfl rfl qc_cl3 rfl (Nat.lt_of_lt_of_le (by decide) hn2) (by decide) (by decide) rfl (Nat.le_of_ble_eq_true rfl) (Nat.le_trans hn1 (by decide)) hn0 rfl ?_
      obtain ⟨I20, eI20, hP⟩ := qc_letE hP
      refine qw_iast (n1 := 3) cx dX3_readLine_226 rfl (Nat.lt_of_lt_of_le (by decide) hn2) rfl (by decide) eI20 ?_
      refine qj_aload_n cx dX3_readLine_227 rfl rfl ?_
      refine qw_getR (j := 2) (t1 := 122) cx dX3_readLine_228 qc_cl3 rfl (Nat.lt_of_lt_of_le (by decide) hn2) rfl ww_386 rfl ?_
      refine qw_getR (j := 7) (t1 := 123) cx dX3_readLine_231 qc_cl4 rfl (Nat.lt_of_lt_of_le (by decide) hn2) rfl ww_174 rfl ?_
      refine qj_iconst (v := (2 : Int32)) cx dX3_readLine_234 (by decide) ?_
      refine qj_aload_n cx dX3_readLine_235 rfl rfl ?_
      refine qj_iconst (v := (0 : Int32)) cx dX3_readLine_236 (by decide) ?_
      refine qj_bipush (v := (99 : Int32)) cx dX3_readLine_237 (by decide) ?_
      obtain ⟨q21, eq21, hP⟩ := Option.bind_eq_some_iff.mp hP
      refine qj_callV (As := [.int (0 : Int32), .int (99 : Int32)]) (st := [.int (2 : Int32), .ref 123]) (t := 121) (h' := (q21.2, J, (rX w, kX, nX, n))) (r := some (.int q21.1)) cx dX3_readLine_239 (c_X3_takeNumber (I := I20) (J := J) (w := w) hn hn1 hn2 eq21) gc_RX3_75 qm_X3_takeNumber rfl rfl qc_cl3 rfl (Nat.lt_of_lt_of_le (by decide) hn2) (by decide) (by decide) rfl (Nat.le_of_ble_eq_true rfl) (Nat.le_trans hn1 (by decide)) hn0 rfl ?_
      obtain ⟨I22, eI22, hP⟩ := qc_letE hP
      refine qw_iast (n1 := 3) cx dX3_readLine_242 rfl (Nat.lt_of_lt_of_le (by decide) hn2) rfl (by decide) eI22 ?_
      refine qj_goto (tgt := 309) cx dX3_readLine_243 (by decide) ?_
      exact qw_vret cx hz dX3_readLine_309 (Nat.zero_le _) (Nat.zero_le _) (congrArg (fun q => q.1) (Option.some.inj hP)) (congrArg (fun q => q.2) (Option.some.inj hP))
    have hP := qc_ifF hP c15
    by_cases c23 : v2 = (522327635 : Int32)
    · have hP := qc_ifT hP c23
      refine qj_lookup (off := 148) (tgt := 166) cx dX3_readLine_18 (by decide) (by rw [c23]; decide) (by decide) ?_
      refine qj_aload_n cx dX3_readLine_166 rfl rfl ?_
      refine qj_bipush (v := (8 : Int32)) cx dX3_readLine_167 (by decide) ?_
      obtain ⟨q24, eq24, hP⟩ := Option.bind_eq_some_iff.mp hP
      refine qj_callV (As := [.int (8 : Int32)]) (st := []) (t := 121) (h' := (q24, J, (rX w, kX, nX, n))) (r := none) cx dX3_readLine_169 (c_X3_tellOnce (I := I) (J := J) (w := w) hn hn1 hn2 eq24) gc_RX3_71 qm_X3_tellOnce rfl rfl qc_cl3 rfl (Nat.lt_of_lt_of_le (by decide) hn2) (by decide) (by decide) rfl (Nat.le_of_ble_eq_true rfl) (Nat.le_trans hn1 (by decide)) hn0 rfl ?_
      refine qj_aload_n cx dX3_readLine_172 rfl rfl ?_
      refine qw_getR (j := 2) (t1 := 122) cx dX3_readLine_173 qc_cl3 rfl (Nat.lt_of_lt_of_le (by decide) hn2) rfl ww_386 rfl ?_
      refine qj_aload_n cx dX3_readLine_176 rfl rfl ?_
      refine qj_iconst (v := (0 : Int32)) cx dX3_readLine_177 (by decide) ?_
      refine qj_bipush (v := (7 : Int32)) cx dX3_readLine_178 (by decide) ?_
      obtain ⟨q25, eq25, hP⟩ := Option.bind_eq_some_iff.mp hP
      refine qj_callV (As := [.int (0 : Int32), .int (7 : Int32)]) (st := [.ref 122]) (t := 121) (h' := (q25.2, J, (rX w, kX, nX, n))) (r := some (.int q25.1)) cx dX3_readLine_180 (c_X3_takeNumber (I := q24) (J := J) (w := w) hn hn1 hn2 eq25) gc_RX3_75 qm_X3_takeNumber rfl rfl qc_cl3 rfl (Nat.lt_of_lt_of_le (by decide) hn2) (by decide) (by decide) rfl (Nat.le_of_ble_eq_true rfl) (Nat.le_trans hn1 (by decide)) hn0 rfl ?_
      obtain ⟨I26, eI26, hP⟩ := qc_letE hP
      refine qw_putI (j := 4) cx dX3_readLine_183 qc_cl4 rfl (Nat.lt_of_lt_of_le (by decide) hn2) rfl ww_164 rfl rfl rfl eI26 ?_
      refine qj_goto (tgt := 309) cx dX3_readLine_186 (by decide) ?_
      exact qw_vret cx hz dX3_readLine_309 (Nat.zero_le _) (Nat.zero_le _) (congrArg (fun q => q.1) (Option.some.inj hP)) (congrArg (fun q => q.2) (Option.some.inj hP))
    have hP := qc_ifF hP c23
    by_cases c27 : v2 = (642945024 : Int32)
    · have hP := qc_ifT hP c27
      refine qj_lookup (off := 263) (tgt := 281) cx dX3_readLine_18 (by decide) (by rw [c27]; decide) (by decide) ?_
      refine qj_aload_n cx dX3_readLine_281 rfl rfl ?_
      refine qj_bipush (v := (32 : Int32)) cx dX3_readLine_282 (by decide) ?_
      obtain ⟨q28, eq28, hP⟩ := Option.bind_eq_some_iff.mp hP
      refine qj_callV (As := [.int (32 : Int32)]) (st := []) (t := 121) (h' := (q28, J, (rX w, kX, nX, n))) (r := none) cx dX3_readLine_284 (c_X3_tellOnce (I := I) (J := J) (w := w) hn hn1 hn2 eq28) gc_RX3_71 qm_X3_tellOnce rfl rfl qc_cl3 rfl (Nat.lt_of_lt_of_le (by decide) hn2) (by decide) (by decide) rfl (Nat.le_of_ble_eq_true rfl) (Nat.le_trans hn1 (by decide)) hn0 rfl ?_
      refine qj_aload_n cx dX3_readLine_287 rfl rfl ?_
      refine qw_getR (j := 2) (t1 := 122) cx dX3_readLine_288 qc_cl3 rfl (Nat.lt_of_lt_of_le (by decide) hn2) rfl ww_386 rfl ?_
      refine qj_aload_n cx dX3_readLine_291 rfl rfl ?_
      refine qj_iconst (v := (0 : Int32)) cx dX3_readLine_292 (by decide) ?_
      refine qj_ldc cx dX3_readLine_293 ww_503 ?_
      obtain ⟨q29, eq29, hP⟩ := Option.bind_eq_some_iff.mp hP
      refine qj_callV (As := [.int (0 : Int32), .int (99999 : Int32)]) (st := [.ref 122]) (t := 121) (h' := (q29.2, J, (rX w, kX, nX, n))) (r := some (.int q29.1)) cx dX3_readLine_295 (c_X3_takeNumber (I := q28) (J := J) (w := w) hn hn1 hn2 eq29) gc_RX3_75 qm_X3_takeNumber rfl rfl qc_cl3 rfl (Nat.lt_of_lt_of_le (by decide) hn2) (by decide) (by decide) rfl (Nat.le_of_ble_eq_true rfl) (Nat.le_trans hn1 (by decide)) hn0 rfl ?_
      obtain ⟨I30, eI30, hP⟩ := qc_letE hP
      refine qw_putI (j := 5) cx dX3_readLine_298 qc_cl4 rfl (Nat.lt_of_lt_of_le (by decide) hn2) rfl ww_167 rfl rfl rfl eI30 ?_
      refine qj_goto (tgt := 309) cx dX3_readLine_301 (by decide) ?_
      exact qw_vret cx hz dX3_readLine_309 (Nat.zero_le _) (Nat.zero_le _) (congrArg (fun q => q.1) (Option.some.inj hP)) (congrArg (fun q => q.2) (Option.some.inj hP))
    have hP := qc_ifF hP c27
    by_cases c31 : v2 = (650629728 : Int32)
    · have hP := qc_ifT hP c31
      refine qj_lookup (off := 256) (tgt := 274) cx dX3_readLine_18 (by decide) (by rw [c31]; decide) (by decide) ?_
      refine qj_aload_n cx dX3_readLine_274 rfl rfl ?_
      obtain ⟨q32, eq32, hP⟩ := Option.bind_eq_some_iff.mp hP
      refine qj_callV (As := []) (st := []) (t := 121) (h' := (q32, J, (rX w, kX, nX, n))) (r := none) cx dX3_readLine_275 (c_X3_readSlots (I := I) (J := J) (w := w) hn hn1 hn2 eq32) gc_RX3_103 qm_X3_readSlots rfl rfl qc_cl3 rfl (Nat.lt_of_lt_of_le (by decide) hn2) (by decide) (by decide) rfl (Nat.le_of_ble_eq_true rfl) (Nat.le_trans hn1 (by decide)) hn0 rfl ?_
      refine qj_goto (tgt := 309) cx dX3_readLine_278 (by decide) ?_
      exact qw_vret cx hz dX3_readLine_309 (Nat.zero_le _) (Nat.zero_le _) (congrArg (fun q => q.1) (Option.some.inj hP)) (congrArg (fun q => q.2) (Option.some.inj hP))
    have hP := qc_ifF hP c31
    by_cases c33 : v2 = (654347424 : Int32)
    · have hP := qc_ifT hP c33
      refine qj_lookup (off := 126) (tgt := 144) cx dX3_readLine_18 (by decide) (by rw [c33]; decide) (by decide) ?_
      refine qj_aload_n cx dX3_readLine_144 rfl rfl ?_
      refine qj_iconst (v := (4 : Int32)) cx dX3_readLine_145 (by decide) ?_
      obtain ⟨q34, eq34, hP⟩ := Option.bind_eq_some_iff.mp hP
      refine qj_callV (As := [.int (4 : Int32)]) (st := []) (t := 121) (h' := (q34, J, (rX w, kX, nX, n))) (r := none) cx dX3_readLine_146 (c_X3_tellOnce (I := I) (J := J) (w := w) hn hn1 hn2 eq34) gc_RX3_71 qm_X3_tellOnce rfl rfl qc_cl3 rfl (Nat.lt_of_lt_of_le (by decide) hn2) (by decide) (by decide) rfl (Nat.le_of_ble_eq_true rfl) (Nat.le_trans hn1 (by decide)) hn0 rfl ?_
      refine qj_aload_n cx dX3_readLine_149 rfl rfl ?_
      refine qw_getR (j := 2) (t1 := 122) cx dX3_readLine_150 qc_cl3 rfl (Nat.lt_of_lt_of_le (by decide) hn2) rfl ww_386 rfl ?_
      refine qj_aload_n cx dX3_readLine_153 rfl rfl ?_
      refine qj_iconst (v := (1 : Int32)) cx dX3_readLine_154 (by decide) ?_
      refine qj_bipush (v := (20 : Int32)) cx dX3_readLine_155 (by decide) ?_
      obtain ⟨q35, eq35, hP⟩ := Option.bind_eq_some_iff.mp hP
      refine qj_callV (As := [.int (1 : Int32), .int (20 : Int32)]) (st := [.ref 122]) (t := 121) (h' := (q35.2, J, (rX w, kX, nX, n))) (r := some (.int q35.1)) cx dX3_readLine_157 (c_X3_takeNumber (I := q34) (J := J) (w := w) hn hn1 hn2 eq35) gc_RX3_75 qm_X3_takeNumber rfl rfl qc_cl3 rfl (Nat.lt_of_lt_of_le (by decide) hn2) (by decide) (by decide) rfl (Nat.le_of_ble_eq_true rfl) (Nat.le_trans hn1 (by decide)) hn0 rfl ?_
      obtain ⟨I36, eI36, hP⟩ := qc_letE hP
      refine qw_putI (j := 3) cx dX3_readLine_160 qc_cl4 rfl (Nat.lt_of_lt_of_le (by decide) hn2) rfl ww_161 rfl rfl rfl eI36 ?_
      refine qj_goto (tgt := 309) cx dX3_readLine_163 (by decide) ?_
      exact qw_vret cx hz dX3_readLine_309 (Nat.zero_le _) (Nat.zero_le _) (congrArg (fun q => q.1) (Option.some.inj hP)) (congrArg (fun q => q.2) (Option.some.inj hP))
    have hP := qc_ifF hP c33
    by_cases c37 : v2 = (724748288 : Int32)
    · have hP := qc_ifT hP c37
      refine qj_lookup (off := 228) (tgt := 246) cx dX3_readLine_18 (by decide) (by rw [c37]; decide) (by decide) ?_
      refine qj_aload_n cx dX3_readLine_246 rfl rfl ?_
      obtain ⟨q38, eq38, hP⟩ := Option.bind_eq_some_iff.mp hP
      refine qj_callV (As := []) (st := []) (t := 121) (h' := (q38, J, (rX w, kX, nX, n))) (r := none) cx dX3_readLine_247 (c_X3_readUser (I := I) (J := J) (w := w) hn hn1 hn2 eq38) gc_RX3_91 qm_X3_readUser rfl rfl qc_cl3 rfl (Nat.lt_of_lt_of_le (by decide) hn2) (by decide) (by decide) rfl (Nat.le_of_ble_eq_true rfl) (Nat.le_trans hn1 (by decide)) hn0 rfl ?_
      refine qj_goto (tgt := 309) cx dX3_readLine_250 (by decide) ?_
      exact qw_vret cx hz dX3_readLine_309 (Nat.zero_le _) (Nat.zero_le _) (congrArg (fun q => q.1) (Option.some.inj hP)) (congrArg (fun q => q.2) (Option.some.inj hP))
    have hP := qc_ifF hP c37
    refine qj_lookup (off := 286) (tgt := 304) cx dX3_readLine_18 (by decide) (by rw [lv_osw c3 (by decide)]; rw [lv_osw c5 (by decide)]; rw [lv_osw c7 (by decide)]; rw [lv_osw c9 (by decide)]; rw [lv_osw c13 (by decide)]; rw [lv_osw c15 (by decide)]; rw [lv_osw c23 (by decide)]; rw [lv_osw c27 (by decide)]; rw [lv_osw c31 (by decide)]; rw [lv_osw c33 (by decide)]; rw [lv_osw c37 (by decide)]; rfl) (by decide) ?_
    refine qj_aload_n cx dX3_readLine_304 rfl rfl ?_
    refine qj_iconst (v := (1 : Int32)) cx dX3_readLine_305 (by decide) ?_
    obtain ⟨q39, eq39, hP⟩ := Option.bind_eq_some_iff.mp hP
    refine qj_callV (As := [.int (1 : Int32)]) (st := []) (t := 121) (h' := (q39, J, (rX w, kX, nX, n))) (r := none) cx dX3_readLine_306 (c_X3_fail (I := I) (J := J) (w := w) hn hn1 hn2 eq39) gc_RX3_110 qm_X3_fail rfl rfl qc_cl3 rfl (Nat.lt_of_lt_of_le (by decide) hn2) (by decide) (by decide) rfl (Nat.le_of_ble_eq_true rfl) (Nat.le_trans hn1 (by decide)) hn0 rfl ?_
    exact qw_vret cx hz dX3_readLine_309 (Nat.zero_le _) (Nat.zero_le _) (congrArg (fun q => q.1) (Option.some.inj hP)) (congrArg (fun q => q.2) (Option.some.inj hP))
  refine qj_icmp_ne (tgt := 15) cx dX3_readLine_5 (by decide) (fun c1 => ?_) (fun c1 => ?_)
  · have hv2 := qc_ifF hv2 c1
    refine qj_iconst (v := (0 : Int32)) cx dX3_readLine_15 (by decide) ?_
    exact qw_top (Option.some.inj hv2).symm Kv2
  · have hv2 := qc_ifT hv2 c1
    refine qj_aload_n cx dX3_readLine_8 rfl rfl ?_
    refine qw_getI (j := 6) cx dX3_readLine_9 qc_cl3 rfl (Nat.lt_of_lt_of_le (by decide) hn2) rfl ww_391 ?_
    refine qj_goto (tgt := 16) cx dX3_readLine_12 (by decide) ?_
    exact qw_top (Option.some.inj hv2).symm Kv2
