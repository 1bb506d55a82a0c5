def P_X7_readBlock_57  : Nat → (Nat → Nat → Int32) → Int32 → Int32 → Option ((Nat → Nat → Int32))
  | 0, _, _, _ => none
  | f + 1, I, a2, a3 =>
  if a2 < a3 then
  (P_X7_reading I (8 : Int32)).bind fun q2 =>
  (P_X7_reads I (8 : Int32) (q2 + (1 : Int32))).bind fun q3 =>
  some q3
  else
  if qc_in ((61 : Int32) + a3) 122 then
  qc_let (qc_u2 I 12 ((61 : Int32) + a3).toNatClampNeg (vp_nar .boolean (1 : Int32))) fun I4 =>
  qc_let (a3 + (1 : Int32)) fun x5 =>
  P_X7_readBlock_57 f I4 a2 x5
  else none
def P_X7_readBlock_21  (I : (Nat → Nat → Int32)) : Option ((Nat → Nat → Int32)) :=
  (P_X7_goOn I).bind fun q7 =>
  (P_X7_reading q7 (0 : Int32)).bind fun q8 =>
  (P_X7_numeral q7 (1 : Int32) q8).bind fun q9 =>
  (P_X7_reading q9.2 (0 : Int32)).bind fun q10 =>
  (P_X7_numeral q9.2 q9.1 q10).bind fun q11 =>
  if q11.2 0 21 = 0 then
  P_X7_readBlock_57 qc_fu q11.2 q11.1 q9.1
  else
  some q11.2
def P_X7_readBlock (I : Nat → Nat → Int32) : Option ((Nat → Nat → Int32)) :=
  qc_let (qc_u2 I 0 14 (1 : Int32)) fun I13 =>
  (P_X7_reading I13 (8 : Int32)).bind fun q14 =>
  if q14 = (6 : Int32) then
  (P_X7_wrong I13 (2 : Int32)).bind fun q16 =>
  P_X7_readBlock_21 q16
  else
  P_X7_readBlock_21 I13
set_option maxRecDepth 20000 in
theorem c_X7_readBlock {I : Nat → Nat → Int32} {J : Nat → Nat → Int64}   {q0 : (Nat → Nat → Int32)} (hP : P_X7_readBlock I = some q0) : ∀ l, qc_M l yX7_readBlock cX7_readBlock 4 none 8 172 0 0 [.ref 0] (I, J, shM) none (q0, J, shM) := by
  intro l
  refine qc_ent2 (by decide) (Nat.le_of_ble_eq_true rfl) ?_
  intro F hn0 cx hz
  have cx : qc_X F cX7_readBlock RX7 "readBlock" 8 0 0 172 := cx
  have L57 : ∀  (f : Nat) (I : (Nat → Nat → Int32)) (a2 : Int32) (a3 : Int32), P_X7_readBlock_57 f I a2 a3 = some q0 → qc_J F 0 0 57 [some (.ref 0), none, some (.int a2), some (.int a3)] [] (I, J, shM) := by
    intro  f
    induction f with
    | zero => intro I a2 a3 hP; cases hP
    | succ f ih =>
      intro I a2 a3 hP
      rw [P_X7_readBlock_57] at hP
      refine qj_iload_n cx dX7_readBlock_57 rfl rfl ?_
      refine qj_iload_n cx dX7_readBlock_58 rfl rfl ?_
      refine qj_icmp_gt (tgt := 78) cx dX7_readBlock_59 (by decide) (fun c1 => ?_) (fun c1 => ?_)
      · have hP := qc_ifT hP c1
        refine qj_aload_n cx dX7_readBlock_78 rfl rfl ?_
        refine qj_bipush (v := (8 : Int32)) cx dX7_readBlock_79 (by decide) ?_
        refine qj_aload_n cx dX7_readBlock_81 rfl rfl ?_
        refine qj_bipush (v := (8 : Int32)) cx dX7_readBlock_82 (by decide) ?_
        obtain ⟨q2, eq2, hP⟩ := Option.bind_eq_some_iff.mp hP
        refine qj_callV (As := [.int (8 : Int32)]) (st := [.int (8 : Int32), .ref 0]) (t := 0) (h' := (I, J, shM)) (r := some (.int q2)) cx dX7_readBlock_84 (c_X7_reading (I := I) (J := J)  eq2) gc_RX7_181 qm_X7_reading rfl rfl qc_cl7 rfl (Nat.le_of_ble_eq_true rfl) (by decide) (by decide) rfl (Nat.le_of_ble_eq_true rfl) (Nat.le_of_ble_eq_true rfl) hn0 rfl ?_
        refine qj_iconst (v := (1 : Int32)) cx dX7_readBlock_87 (by decide) ?_
        refine qj_iadd cx dX7_readBlock_88 ?_
        obtain ⟨q3, eq3, hP⟩ := Option.bind_eq_some_iff.mp hP
        refine qj_callV (As := [.int (8 : Int32), .int (q2 + (1 : Int32))]) (st := []) (t := 0) (h' := (q3, J, shM)) (r := none) cx dX7_readBlock_89 (c_X7_reads (I := I) (J := J)  eq3) gc_RX7_169 qm_X7_reads rfl rfl qc_cl7 rfl (Nat.le_of_ble_eq_true rfl) (by decide) (by decide) rfl (Nat.le_of_ble_eq_true rfl) (Nat.le_of_ble_eq_true rfl) hn0 rfl ?_
        exact qw_vret cx hz dX7_readBlock_92 (Nat.zero_le _) (Nat.zero_le _) (Option.some.inj hP) rfl
      · have hP := qc_ifF hP c1
        refine qj_aload_n cx dX7_readBlock_62 rfl rfl ?_
        refine qw_getR (j := 13) (t1 := 12) cx dX7_readBlock_63 qc_cl7 rfl (Nat.le_of_ble_eq_true rfl) rfl ww_1105 rfl ?_
        refine qj_bipush (v := (61 : Int32)) cx dX7_readBlock_66 (by decide) ?_
        refine qj_iload_n cx dX7_readBlock_68 rfl rfl ?_
        refine qj_iadd cx dX7_readBlock_69 ?_
        refine qj_iconst (v := (1 : Int32)) cx dX7_readBlock_70 (by decide) ?_
        obtain ⟨c6, hP⟩ := qc_ck hP
        obtain ⟨I4, eI4, hP⟩ := qc_letE hP
        refine qw_zast cx dX7_readBlock_71 rfl (Nat.le_of_ble_eq_true rfl) rfl c6 eI4 ?_
        obtain ⟨x5, ex5, hP⟩ := qc_letE hP
        refine qj_iinc (v := x5) (ls1 := [some (.ref 0), none, some (.int a2), some (.int x5)]) cx dX7_readBlock_72 rfl (by rw [ex5]; rfl) rfl rfl ?_
        refine qj_goto (tgt := 57) cx dX7_readBlock_75 (by decide) ?_
        exact ih I4 a2 x5 hP
  have L21 : ∀  (I : (Nat → Nat → Int32)), P_X7_readBlock_21 I = some q0 → qc_J F 0 0 21 [some (.ref 0), none, none, none] [] (I, J, shM) := by
    intro I hP
    unfold P_X7_readBlock_21 at hP
    refine qj_aload_n cx dX7_readBlock_21 rfl rfl ?_
    obtain ⟨q7, eq7, hP⟩ := Option.bind_eq_some_iff.mp hP
    refine qj_callV (As := []) (st := []) (t := 0) (h' := (q7, J, shM)) (r := none) cx dX7_readBlock_22 (c_X7_goOn (I := I) (J := J)  eq7) gc_RX7_159 qm_X7_goOn rfl rfl qc_cl7 rfl (Nat.le_of_ble_eq_true rfl) (by decide) (by decide) rfl (Nat.le_of_ble_eq_true rfl) (Nat.le_of_ble_eq_true rfl) hn0 rfl ?_
    refine qj_aload_n cx dX7_readBlock_25 rfl rfl ?_
    refine qj_iconst (v := (1 : Int32)) cx dX7_readBlock_26 (by decide) ?_
    refine qj_aload_n cx dX7_readBlock_27 rfl rfl ?_
    refine qj_iconst (v := (0 : Int32)) cx dX7_readBlock_28 (by decide) ?_
    obtain ⟨q8, eq8, hP⟩ := Option.bind_eq_some_iff.mp hP
    refine qj_callV (As := [.int (0 : Int32)]) (st := [.int (1 : Int32), .ref 0]) (t := 0) (h' := (q7, J, shM)) (r := some (.int q8)) cx dX7_readBlock_29 (c_X7_reading (I := q7) (J := J)  eq8) gc_RX7_181 qm_X7_reading rfl rfl qc_cl7 rfl (Nat.le_of_ble_eq_true rfl) (by decide) (by decide) rfl (Nat.le_of_ble_eq_true rfl) (Nat.le_of_ble_eq_true rfl) hn0 rfl ?_
    obtain ⟨q9, eq9, hP⟩ := Option.bind_eq_some_iff.mp hP
    refine qj_callV (As := [.int (1 : Int32), .int q8]) (st := []) (t := 0) (h' := (q9.2, J, shM)) (r := some (.int q9.1)) cx dX7_readBlock_32 (c_X7_numeral (I := q7) (J := J)  eq9) gc_RX7_165 qm_X7_numeral rfl rfl qc_cl7 rfl (Nat.le_of_ble_eq_true rfl) (by decide) (by decide) rfl (Nat.le_of_ble_eq_true rfl) (Nat.le_of_ble_eq_true rfl) hn0 rfl ?_
    refine qj_istore_n (ls1 := [some (.ref 0), some (.int q9.1), none, none]) cx dX7_readBlock_35 rfl rfl rfl rfl ?_
    refine qj_aload_n cx dX7_readBlock_36 rfl rfl ?_
    refine qj_iload_n cx dX7_readBlock_37 rfl rfl ?_
    refine qj_aload_n cx dX7_readBlock_38 rfl rfl ?_
    refine qj_iconst (v := (0 : Int32)) cx dX7_readBlock_39 (by decide) ?_
    obtain ⟨q10, eq10, hP⟩ := Option.bind_eq_some_iff.mp hP
    refine qj_callV (As := [.int (0 : Int32)]) (st := [.int q9.1, .ref 0]) (t := 0) (h' := (q9.2, J, shM)) (r := some (.int q10)) cx dX7_readBlock_40 (c_X7_reading (I := q9.2) (J := J)  eq10) gc_RX7_181 qm_X7_reading rfl rfl qc_cl7 rfl (Nat.le_of_ble_eq_true rfl) (by decide) (by decide) rfl (Nat.le_of_ble_eq_true rfl) (Nat.le_of_ble_eq_true rfl) hn0 rfl ?_
    obtain ⟨q11, eq11, hP⟩ := Option.bind_eq_some_iff.mp hP
    refine qj_callV (As := [.int q9.1, .int q10]) (st := []) (t := 0) (h' := (q11.2, J, shM)) (r := some (.int q11.1)) cx dX7_readBlock_43 (c_X7_numeral (I := q9.2) (J := J)  eq11) gc_RX7_165 qm_X7_numeral rfl rfl qc_cl7 rfl (Nat.le_of_ble_eq_true rfl) (by decide) (by decide) rfl (Nat.le_of_ble_eq_true rfl) (Nat.le_of_ble_eq_true rfl) hn0 rfl ?_
    refine qj_istore_n (ls1 := [some (.ref 0), some (.int q9.1), some (.int q11.1), none]) cx dX7_readBlock_46 rfl rfl rfl rfl ?_
    refine qj_aload_n cx dX7_readBlock_47 rfl rfl ?_
    refine qw_getI (j := 21) cx dX7_readBlock_48 qc_cl7 rfl (Nat.le_of_ble_eq_true rfl) rfl ww_1113 ?_
    refine qj_if_eq (tgt := 55) cx dX7_readBlock_51 (by decide) (fun c12 => ?_) (fun c12 => ?_)
    · have hP := qc_ifT hP c12
      refine qj_iload_n cx dX7_readBlock_55 rfl rfl ?_
      refine qj_istore_n (ls1 := [some (.ref 0), some (.int q9.1), some (.int q11.1), some (.int q9.1)]) cx dX7_readBlock_56 rfl rfl rfl rfl ?_
      refine qw_sub (ls1 := [some (.ref 0), none, some (.int q11.1), some (.int q9.1)]) rfl (qc_sb_ok ⟨rfl, rfl, rfl, trivial⟩) ?_
      exact L57 qc_fu q11.2 q11.1 q9.1 hP
    · have hP := qc_ifF hP c12
      exact qw_vret cx hz dX7_readBlock_54 (Nat.zero_le _) (Nat.zero_le _) (Option.some.inj hP) rfl
  show qc_J F 0 0 0 [some (.ref 0), none, none, none] [] (I, J, shM)
  unfold P_X7_readBlock at hP
  refine qj_aload_n cx dX7_readBlock_0 rfl rfl ?_
  refine qj_iconst (v := (1 : Int32)) cx dX7_readBlock_1 (by decide) ?_
  obtain ⟨I13, eI13, hP⟩ := qc_letE hP
  refine qw_putI (j := 14) cx dX7_readBlock_2 qc_cl7 rfl (Nat.le_of_ble_eq_true rfl) rfl ww_1106 (by decide) (by decide) rfl eI13 ?_
  refine qj_aload_n cx dX7_readBlock_5 rfl rfl ?_
  refine qj_bipush (v := (8 : Int32)) cx dX7_readBlock_6 (by decide) ?_
  obtain ⟨q14, eq14, hP⟩ := Option.bind_eq_some_iff.mp hP
  refine qj_callV (As := [.int (8 : Int32)]) (st := []) (t := 0) (h' := (I13, J, shM)) (r := some (.int q14)) cx dX7_readBlock_8 (c_X7_reading (I := I13) (J := J)  eq14) gc_RX7_181 qm_X7_reading rfl rfl qc_cl7 rfl (Nat.le_of_ble_eq_true rfl) (by decide) (by decide) rfl (Nat.le_of_ble_eq_true rfl) (Nat.le_of_ble_eq_true rfl) hn0 rfl ?_
  refine qj_bipush (v := (6 : Int32)) cx dX7_readBlock_11 (by decide) ?_
  refine qj_icmp_ne (tgt := 21) cx dX7_readBlock_13 (by decide) (fun c15 => ?_) (fun c15 => ?_)
  · have hP := qc_ifF hP c15
    exact L21 I13 hP
  · have hP := qc_ifT hP c15
    refine qj_aload_n cx dX7_readBlock_16 rfl rfl ?_
    refine qj_iconst (v := (2 : Int32)) cx dX7_readBlock_17 (by decide) ?_
    obtain ⟨q16, eq16, hP⟩ := Option.bind_eq_some_iff.mp hP
    refine qj_callV (As := [.int (2 : Int32)]) (st := []) (t := 0) (h' := (q16, J, shM)) (r := none) cx dX7_readBlock_18 (c_X7_wrong (I := I13) (J := J)  eq16) gc_RX7_155 qm_X7_wrong rfl rfl qc_cl7 rfl (Nat.le_of_ble_eq_true rfl) (by decide) (by decide) rfl (Nat.le_of_ble_eq_true rfl) (Nat.le_of_ble_eq_true rfl) hn0 rfl ?_
    exact L21 q16 hP
def P_X7_readLine_213  (I : (Nat → Nat → Int32)) : Option ((Nat → Nat → Int32)) :=
  (P_X7_goOn I).bind fun q1 =>
  qc_let (qc_u2 q1 0 15 ((q1 0 15) + (1 : Int32))) fun I2 =>
  some I2
def P_X7_readLine_193  (I : (Nat → Nat → Int32)) : Option ((Nat → Nat → Int32)) :=
  if I 0 21 = 0 then
  (if I 0 19 = (3 : Int32) then
  P_X7_readLine_213 I
  else
  (P_X7_wrong I (1 : Int32)).bind fun q5 =>
  P_X7_readLine_213 q5)
  else
  P_X7_readLine_213 I
def P_X7_readLine (I : Nat → Nat → Int32) : Option ((Nat → Nat → Int32)) :=
  if I 0 19 = 0 then
  (if I 0 20 = 0 then
  (P_X7_readBand I).bind fun q27 =>
  P_X7_readLine_193 q27
  else
  if I 0 20 = (1 : Int32) then
  (P_X7_readOnce I (1 : Int32) (1 : Int32) (0 : Int32) (5 : Int32)).bind fun q26 =>
  P_X7_readLine_193 q26
  else
  if I 0 20 = (2 : Int32) then
  (P_X7_readOnce I (2 : Int32) (2 : Int32) (1 : Int32) (20 : Int32)).bind fun q25 =>
  P_X7_readLine_193 q25
  else
  if I 0 20 = (3 : Int32) then
  (P_X7_readOnce I (3 : Int32) (3 : Int32) (0 : Int32) (7 : Int32)).bind fun q24 =>
  P_X7_readLine_193 q24
  else
  if I 0 20 = (4 : Int32) then
  (P_X7_readLoss I).bind fun q23 =>
  P_X7_readLine_193 q23
  else
  if I 0 20 = (5 : Int32) then
  (P_X7_readUser I).bind fun q22 =>
  P_X7_readLine_193 q22
  else
  if I 0 20 = (6 : Int32) then
  (P_X7_readFixed I).bind fun q21 =>
  P_X7_readLine_193 q21
  else
  if I 0 20 = (7 : Int32) then
  (P_X7_readBlock I).bind fun q20 =>
  P_X7_readLine_193 q20
  else
  if I 0 20 = (8 : Int32) then
  (P_X7_readLink I).bind fun q19 =>
  P_X7_readLine_193 q19
  else
  if I 0 20 = (9 : Int32) then
  (P_X7_readSlots I).bind fun q18 =>
  P_X7_readLine_193 q18
  else
  (P_X7_readOnce I (10 : Int32) (9 : Int32) (0 : Int32) (99999 : Int32)).bind fun q17 =>
  P_X7_readLine_193 q17)
  else
  (P_X7_wrong I (1 : Int32)).bind fun q28 =>
  P_X7_readLine_193 q28
set_option maxRecDepth 20000 in
theorem c_X7_readLine {I : Nat → Nat → Int32} {J : Nat → Nat → Int64}   {q0 : (Nat → Nat → Int32)} (hP : P_X7_readLine I = some q0) : ∀ l, qc_M l yX7_readLine cX7_readLine 1 none 10 216 0 0 [.ref 0] (I, J, shM) none (q0, J, shM) := by
  intro l
  refine qc_ent2 (by decide) (Nat.le_of_ble_eq_true rfl) ?_
  intro F hn0 cx hz
  have cx : qc_X F cX7_readLine RX7 "readLine" 10 0 0 216 := cx
  have L213 : ∀  (I : (Nat → Nat → Int32)), P_X7_readLine_213 I = some q0 → qc_J F 0 0 213 [some (.ref 0)] [] (I, J, shM) := by
    intro I hP
    unfold P_X7_readLine_213 at hP
    refine qj_aload_n cx dX7_readLine_213 rfl rfl ?_
    obtain ⟨q1, eq1, hP⟩ := Option.bind_eq_some_iff.mp hP
    refine qj_callV (As := []) (st := []) (t := 0) (h' := (q1, J, shM)) (r := none) cx dX7_readLine_214 (c_X7_goOn (I := I) (J := J)  eq1) gc_RX7_159 qm_X7_goOn rfl rfl qc_cl7 rfl (Nat.le_of_ble_eq_true rfl) (by decide) (by decide) rfl (Nat.le_of_ble_eq_true rfl) (Nat.le_of_ble_eq_true rfl) hn0 rfl ?_
    refine qj_aload_n cx dX7_readLine_217 rfl rfl ?_
    refine qj_dup cx dX7_readLine_218 rfl ?_
    refine qw_getI (j := 15) cx dX7_readLine_219 qc_cl7 rfl (Nat.le_of_ble_eq_true rfl) rfl ww_1107 ?_
    refine qj_iconst (v := (1 : Int32)) cx dX7_readLine_222 (by decide) ?_
    refine qj_iadd cx dX7_readLine_223 ?_
    obtain ⟨I2, eI2, hP⟩ := qc_letE hP
    refine qw_putI (j := 15) cx dX7_readLine_224 qc_cl7 rfl (Nat.le_of_ble_eq_true rfl) rfl ww_1107 rfl rfl rfl eI2 ?_
    exact qw_vret cx hz dX7_readLine_227 (Nat.zero_le _) (Nat.zero_le _) (Option.some.inj hP) rfl
  have L193 : ∀  (I : (Nat → Nat → Int32)), P_X7_readLine_193 I = some q0 → qc_J F 0 0 193 [some (.ref 0)] [] (I, J, shM) := by
    intro I hP
    unfold P_X7_readLine_193 at hP
    refine qj_aload_n cx dX7_readLine_193 rfl rfl ?_
    refine qw_getI (j := 21) cx dX7_readLine_194 qc_cl7 rfl (Nat.le_of_ble_eq_true rfl) rfl ww_1113 ?_
    refine qj_if_ne (tgt := 213) cx dX7_readLine_197 (by decide) (fun c3 => ?_) (fun c3 => ?_)
    · have hP := qc_ifF hP c3
      exact L213 I hP
    · have hP := qc_ifT hP c3
      refine qj_aload_n cx dX7_readLine_200 rfl rfl ?_
      refine qw_getI (j := 19) cx dX7_readLine_201 qc_cl7 rfl (Nat.le_of_ble_eq_true rfl) rfl ww_1111 ?_
      refine qj_iconst (v := (3 : Int32)) cx dX7_readLine_204 (by decide) ?_
      refine qj_icmp_eq (tgt := 213) cx dX7_readLine_205 (by decide) (fun c4 => ?_) (fun c4 => ?_)
      · have hP := qc_ifT hP c4
        exact L213 I hP
      · have hP := qc_ifF hP c4
        refine qj_aload_n cx dX7_readLine_208 rfl rfl ?_
        refine qj_iconst (v := (1 : Int32)) cx dX7_readLine_209 (by decide) ?_
        obtain ⟨q5, eq5, hP⟩ := Option.bind_eq_some_iff.mp hP
        refine qj_callV (As := [.int (1 : Int32)]) (st := []) (t := 0) (h' := (q5, J, shM)) (r := none) cx dX7_readLine_210 (c_X7_wrong (I := I) (J := J)  eq5) gc_RX7_155 qm_X7_wrong rfl rfl qc_cl7 rfl (Nat.le_of_ble_eq_true rfl) (by decide) (by decide) rfl (Nat.le_of_ble_eq_true rfl) (Nat.le_of_ble_eq_true rfl) hn0 rfl ?_
        exact L213 q5 hP
  show qc_J F 0 0 0 [some (.ref 0)] [] (I, J, shM)
  unfold P_X7_readLine at hP
  refine qj_aload_n cx dX7_readLine_0 rfl rfl ?_
  refine qw_getI (j := 19) cx dX7_readLine_1 qc_cl7 rfl (Nat.le_of_ble_eq_true rfl) rfl ww_1111 ?_
  refine qj_if_eq (tgt := 15) cx dX7_readLine_4 (by decide) (fun c6 => ?_) (fun c6 => ?_)
  · have hP := qc_ifT hP c6
    refine qj_aload_n cx dX7_readLine_15 rfl rfl ?_
    refine qw_getI (j := 20) cx dX7_readLine_16 qc_cl7 rfl (Nat.le_of_ble_eq_true rfl) rfl ww_1112 ?_
    refine qj_if_ne (tgt := 29) cx dX7_readLine_19 (by decide) (fun c7 => ?_) (fun c7 => ?_)
    · have hP := qc_ifF hP c7
      refine qj_aload_n cx dX7_readLine_29 rfl rfl ?_
      refine qw_getI (j := 20) cx dX7_readLine_30 qc_cl7 rfl (Nat.le_of_ble_eq_true rfl) rfl ww_1112 ?_
      refine qj_iconst (v := (1 : Int32)) cx dX7_readLine_33 (by decide) ?_
      refine qj_icmp_ne (tgt := 48) cx dX7_readLine_34 (by decide) (fun c8 => ?_) (fun c8 => ?_)
      · have hP := qc_ifF hP c8
        refine qj_aload_n cx dX7_readLine_48 rfl rfl ?_
        refine qw_getI (j := 20) cx dX7_readLine_49 qc_cl7 rfl (Nat.le_of_ble_eq_true rfl) rfl ww_1112 ?_
        refine qj_iconst (v := (2 : Int32)) cx dX7_readLine_52 (by decide) ?_
        refine qj_icmp_ne (tgt := 68) cx dX7_readLine_53 (by decide) (fun c9 => ?_) (fun c9 => ?_)
        · have hP := qc_ifF hP c9
          refine qj_aload_n cx dX7_readLine_68 rfl rfl ?_
          refine qw_getI (j := 20) cx dX7_readLine_69 qc_cl7 rfl (Nat.le_of_ble_eq_true rfl) rfl ww_1112 ?_
          refine qj_iconst (v := (3 : Int32)) cx dX7_readLine_72 (by decide) ?_
          refine qj_icmp_ne (tgt := 88) cx dX7_readLine_73 (by decide) (fun c10 => ?_) (fun c10 => ?_)
          · have hP := qc_ifF hP c10
            refine qj_aload_n cx dX7_readLine_88 rfl rfl ?_
            refine qw_getI (j := 20) cx dX7_readLine_89 qc_cl7 rfl (Nat.le_of_ble_eq_true rfl) rfl ww_1112 ?_
            refine qj_iconst (v := (4 : Int32)) cx dX7_readLine_92 (by decide) ?_
            refine qj_icmp_ne (tgt := 103) cx dX7_readLine_93 (by decide) (fun c11 => ?_) (fun c11 => ?_)
            · have hP := qc_ifF hP c11
              refine qj_aload_n cx dX7_readLine_103 rfl rfl ?_
              refine qw_getI (j := 20) cx dX7_readLine_104 qc_cl7 rfl (Nat.le_of_ble_eq_true rfl) rfl ww_1112 ?_
              refine qj_iconst (v := (5 : Int32)) cx dX7_readLine_107 (by decide) ?_
              refine qj_icmp_ne (tgt := 118) cx dX7_readLine_108 (by decide) (fun c12 => ?_) (fun c12 => ?_)
              · have hP := qc_ifF hP c12
                refine qj_aload_n cx dX7_readLine_118 rfl rfl ?_
                refine qw_getI (j := 20) cx dX7_readLine_119 qc_cl7 rfl (Nat.le_of_ble_eq_true rfl) rfl ww_1112 ?_
                refine qj_bipush (v := (6 : Int32)) cx dX7_readLine_122 (by decide) ?_
                refine qj_icmp_ne (tgt := 134) cx dX7_readLine_124 (by decide) (fun c13 => ?_) (fun c13 => ?_)
                · have hP := qc_ifF hP c13
                  refine qj_aload_n cx dX7_readLine_134 rfl rfl ?_
                  refine qw_getI (j := 20) cx dX7_readLine_135 qc_cl7 rfl (Nat.le_of_ble_eq_true rfl) rfl ww_1112 ?_
                  refine qj_bipush (v := (7 : Int32)) cx dX7_readLine_138 (by decide) ?_
                  refine qj_icmp_ne (tgt := 150) cx dX7_readLine_140 (by decide) (fun c14 => ?_) (fun c14 => ?_)
                  · have hP := qc_ifF hP c14
                    refine qj_aload_n cx dX7_readLine_150 rfl rfl ?_
                    refine qw_getI (j := 20) cx dX7_readLine_151 qc_cl7 rfl (Nat.le_of_ble_eq_true rfl) rfl ww_1112 ?_
                    refine qj_bipush (v := (8 : Int32)) cx dX7_readLine_154 (by decide) ?_
                    refine qj_icmp_ne (tgt := 166) cx dX7_readLine_156 (by decide) (fun c15 => ?_) (fun c15 => ?_)
                    · have hP := qc_ifF hP c15
                      refine qj_aload_n cx dX7_readLine_166 rfl rfl ?_
                      refine qw_getI (j := 20) cx dX7_readLine_167 qc_cl7 rfl (Nat.le_of_ble_eq_true rfl) rfl ww_1112 ?_
                      refine qj_bipush (v := (9 : Int32)) cx dX7_readLine_170 (by decide) ?_
                      refine qj_icmp_ne (tgt := 182) cx dX7_readLine_172 (by decide) (fun c16 => ?_) (fun c16 => ?_)
                      · have hP := qc_ifF hP c16
                        refine qj_aload_n cx dX7_readLine_182 rfl rfl ?_
                        refine qj_bipush (v := (10 : Int32)) cx dX7_readLine_183 (by decide) ?_
                        refine qj_bipush (v := (9 : Int32)) cx dX7_readLine_185 (by decide) ?_
                        refine qj_iconst (v := (0 : Int32)) cx dX7_readLine_187 (by decide) ?_
                        refine qj_ldc cx dX7_readLine_188 ww_1319 ?_
                        obtain ⟨q17, eq17, hP⟩ := Option.bind_eq_some_iff.mp hP
                        refine qj_callV (As := [.int (10 : Int32), .int (9 : Int32), .int (0 : Int32), .int (99999 : Int32)]) (st := []) (t := 0) (h' := (q17, J, shM)) (r := none) cx dX7_readLine_190 (c_X7_readOnce (I := I) (J := J)  eq17) gc_RX7_177 qm_X7_readOnce rfl rfl qc_cl7 rfl (Nat.le_of_ble_eq_true rfl) (by decide) (by decide) rfl (Nat.le_of_ble_eq_true rfl) (Nat.le_of_ble_eq_true rfl) hn0 rfl ?_
                        exact L193 q17 hP
                      · have hP := qc_ifT hP c16
                        refine qj_aload_n cx dX7_readLine_175 rfl rfl ?_
                        obtain ⟨q18, eq18, hP⟩ := Option.bind_eq_some_iff.mp hP
                        refine qj_callV (As := []) (st := []) (t := 0) (h' := (q18, J, shM)) (r := none) cx dX7_readLine_176 (c_X7_readSlots (I := I) (J := J)  eq18) gc_RX7_211 qm_X7_readSlots rfl rfl qc_cl7 rfl (Nat.le_of_ble_eq_true rfl) (by decide) (by decide) rfl (Nat.le_of_ble_eq_true rfl) (Nat.le_of_ble_eq_true rfl) hn0 rfl ?_
                        refine qj_goto (tgt := 193) cx dX7_readLine_179 (by decide) ?_
                        exact L193 q18 hP
                    · have hP := qc_ifT hP c15
                      refine qj_aload_n cx dX7_readLine_159 rfl rfl ?_
                      obtain ⟨q19, eq19, hP⟩ := Option.bind_eq_some_iff.mp hP
                      refine qj_callV (As := []) (st := []) (t := 0) (h' := (q19, J, shM)) (r := none) cx dX7_readLine_160 (c_X7_readLink (I := I) (J := J)  eq19) gc_RX7_208 qm_X7_readLink rfl rfl qc_cl7 rfl (Nat.le_of_ble_eq_true rfl) (by decide) (by decide) rfl (Nat.le_of_ble_eq_true rfl) (Nat.le_of_ble_eq_true rfl) hn0 rfl ?_
                      refine qj_goto (tgt := 193) cx dX7_readLine_163 (by decide) ?_
                      exact L193 q19 hP
                  · have hP := qc_ifT hP c14
                    refine qj_aload_n cx dX7_readLine_143 rfl rfl ?_
                    obtain ⟨q20, eq20, hP⟩ := Option.bind_eq_some_iff.mp hP
                    refine qj_callV (As := []) (st := []) (t := 0) (h' := (q20, J, shM)) (r := none) cx dX7_readLine_144 (c_X7_readBlock (I := I) (J := J)  eq20) gc_RX7_205 qm_X7_readBlock rfl rfl qc_cl7 rfl (Nat.le_of_ble_eq_true rfl) (by decide) (by decide) rfl (Nat.le_of_ble_eq_true rfl) (Nat.le_of_ble_eq_true rfl) hn0 rfl ?_
                    refine qj_goto (tgt := 193) cx dX7_readLine_147 (by decide) ?_
                    exact L193 q20 hP
                · have hP := qc_ifT hP c13
                  refine qj_aload_n cx dX7_readLine_127 rfl rfl ?_
                  obtain ⟨q21, eq21, hP⟩ := Option.bind_eq_some_iff.mp hP
                  refine qj_callV (As := []) (st := []) (t := 0) (h' := (q21, J, shM)) (r := none) cx dX7_readLine_128 (c_X7_readFixed (I := I) (J := J)  eq21) gc_RX7_202 qm_X7_readFixed rfl rfl qc_cl7 rfl (Nat.le_of_ble_eq_true rfl) (by decide) (by decide) rfl (Nat.le_of_ble_eq_true rfl) (Nat.le_of_ble_eq_true rfl) hn0 rfl ?_
                  refine qj_goto (tgt := 193) cx dX7_readLine_131 (by decide) ?_
                  exact L193 q21 hP
              · have hP := qc_ifT hP c12
                refine qj_aload_n cx dX7_readLine_111 rfl rfl ?_
                obtain ⟨q22, eq22, hP⟩ := Option.bind_eq_some_iff.mp hP
                refine qj_callV (As := []) (st := []) (t := 0) (h' := (q22, J, shM)) (r := none) cx dX7_readLine_112 (c_X7_readUser (I := I) (J := J)  eq22) gc_RX7_199 qm_X7_readUser rfl rfl qc_cl7 rfl (Nat.le_of_ble_eq_true rfl) (by decide) (by decide) rfl (Nat.le_of_ble_eq_true rfl) (Nat.le_of_ble_eq_true rfl) hn0 rfl ?_
                refine qj_goto (tgt := 193) cx dX7_readLine_115 (by decide) ?_
                exact L193 q22 hP
            · have hP := qc_ifT hP c11
              refine qj_aload_n cx dX7_readLine_96 rfl rfl ?_
              obtain ⟨q23, eq23, hP⟩ := Option.bind_eq_some_iff.mp hP
              refine qj_callV (As := []) (st := []) (t := 0) (h' := (q23, J, shM)) (r := none) cx dX7_readLine_97 (c_X7_readLoss (I := I) (J := J)  eq23) gc_RX7_196 qm_X7_readLoss rfl rfl qc_cl7 rfl (Nat.le_of_ble_eq_true rfl) (by decide) (by decide) rfl (Nat.le_of_ble_eq_true rfl) (Nat.le_of_ble_eq_true rfl) hn0 rfl ?_
              refine qj_goto (tgt := 193) cx dX7_readLine_100 (by decide) ?_
              exact L193 q23 hP
          · have hP := qc_ifT hP c10
            refine qj_aload_n cx dX7_readLine_76 rfl rfl ?_
            refine qj_iconst (v := (3 : Int32)) cx dX7_readLine_77 (by decide) ?_
            refine qj_iconst (v := (3 : Int32)) cx dX7_readLine_78 (by decide) ?_
            refine qj_iconst (v := (0 : Int32)) cx dX7_readLine_79 (by decide) ?_
            refine qj_bipush (v := (7 : Int32)) cx dX7_readLine_80 (by decide) ?_
            obtain ⟨q24, eq24, hP⟩ := Option.bind_eq_some_iff.mp hP
            refine qj_callV (As := [.int (3 : Int32), .int (3 : Int32), .int (0 : Int32), .int (7 : Int32)]) (st := []) (t := 0) (h' := (q24, J, shM)) (r := none) cx dX7_readLine_82 (c_X7_readOnce (I := I) (J := J)  eq24) gc_RX7_177 qm_X7_readOnce rfl rfl qc_cl7 rfl (Nat.le_of_ble_eq_true rfl) (by decide) (by decide) rfl (Nat.le_of_ble_eq_true rfl) (Nat.le_of_ble_eq_true rfl) hn0 rfl ?_
            refine qj_goto (tgt := 193) cx dX7_readLine_85 (by decide) ?_
            exact L193 q24 hP
        · have hP := qc_ifT hP c9
          refine qj_aload_n cx dX7_readLine_56 rfl rfl ?_
          refine qj_iconst (v := (2 : Int32)) cx dX7_readLine_57 (by decide) ?_
          refine qj_iconst (v := (2 : Int32)) cx dX7_readLine_58 (by decide) ?_
          refine qj_iconst (v := (1 : Int32)) cx dX7_readLine_59 (by decide) ?_
          refine qj_bipush (v := (20 : Int32)) cx dX7_readLine_60 (by decide) ?_
          obtain ⟨q25, eq25, hP⟩ := Option.bind_eq_some_iff.mp hP
          refine qj_callV (As := [.int (2 : Int32), .int (2 : Int32), .int (1 : Int32), .int (20 : Int32)]) (st := []) (t := 0) (h' := (q25, J, shM)) (r := none) cx dX7_readLine_62 (c_X7_readOnce (I := I) (J := J)  eq25) gc_RX7_177 qm_X7_readOnce rfl rfl qc_cl7 rfl (Nat.le_of_ble_eq_true rfl) (by decide) (by decide) rfl (Nat.le_of_ble_eq_true rfl) (Nat.le_of_ble_eq_true rfl) hn0 rfl ?_
          refine qj_goto (tgt := 193) cx dX7_readLine_65 (by decide) ?_
          exact L193 q25 hP
      · have hP := qc_ifT hP c8
        refine qj_aload_n cx dX7_readLine_37 rfl rfl ?_
        refine qj_iconst (v := (1 : Int32)) cx dX7_readLine_38 (by decide) ?_
        refine qj_iconst (v := (1 : Int32)) cx dX7_readLine_39 (by decide) ?_
        refine qj_iconst (v := (0 : Int32)) cx dX7_readLine_40 (by decide) ?_
        refine qj_iconst (v := (5 : Int32)) cx dX7_readLine_41 (by decide) ?_
        obtain ⟨q26, eq26, hP⟩ := Option.bind_eq_some_iff.mp hP
        refine qj_callV (As := [.int (1 : Int32), .int (1 : Int32), .int (0 : Int32), .int (5 : Int32)]) (st := []) (t := 0) (h' := (q26, J, shM)) (r := none) cx dX7_readLine_42 (c_X7_readOnce (I := I) (J := J)  eq26) gc_RX7_177 qm_X7_readOnce rfl rfl qc_cl7 rfl (Nat.le_of_ble_eq_true rfl) (by decide) (by decide) rfl (Nat.le_of_ble_eq_true rfl) (Nat.le_of_ble_eq_true rfl) hn0 rfl ?_
        refine qj_goto (tgt := 193) cx dX7_readLine_45 (by decide) ?_
        exact L193 q26 hP
    · have hP := qc_ifT hP c7
      refine qj_aload_n cx dX7_readLine_22 rfl rfl ?_
      obtain ⟨q27, eq27, hP⟩ := Option.bind_eq_some_iff.mp hP
      refine qj_callV (As := []) (st := []) (t := 0) (h' := (q27, J, shM)) (r := none) cx dX7_readLine_23 (c_X7_readBand (I := I) (J := J)  eq27) gc_RX7_193 qm_X7_readBand rfl rfl qc_cl7 rfl (Nat.le_of_ble_eq_true rfl) (by decide) (by decide) rfl (Nat.le_of_ble_eq_true rfl) (Nat.le_of_ble_eq_true rfl) hn0 rfl ?_
      refine qj_goto (tgt := 193) cx dX7_readLine_26 (by decide) ?_
      exact L193 q27 hP
  · have hP := qc_ifF hP c6
    refine qj_aload_n cx dX7_readLine_7 rfl rfl ?_
    refine qj_iconst (v := (1 : Int32)) cx dX7_readLine_8 (by decide) ?_
    obtain ⟨q28, eq28, hP⟩ := Option.bind_eq_some_iff.mp hP
    refine qj_callV (As := [.int (1 : Int32)]) (st := []) (t := 0) (h' := (q28, J, shM)) (r := none) cx dX7_readLine_9 (c_X7_wrong (I := I) (J := J)  eq28) gc_RX7_155 qm_X7_wrong rfl rfl qc_cl7 rfl (Nat.le_of_ble_eq_true rfl) (by decide) (by decide) rfl (Nat.le_of_ble_eq_true rfl) (Nat.le_of_ble_eq_true rfl) hn0 rfl ?_
    refine qj_goto (tgt := 193) cx dX7_readLine_12 (by decide) ?_
    exact L193 q28 hP
def P_X7_readText_28  : Nat → (Nat → Nat → Int32) → Option ((Nat → Nat → Int32))
  | 0, _ => none
  | f + 1, I =>
  if I 0 21 = 0 then
  (if I 0 19 = (4 : Int32) then
  some I
  else
  (P_X7_readLine I).bind fun q3 =>
  P_X7_readText_28 f q3)
  else
  some I
def P_X7_readText (I : Nat → Nat → Int32) (a : Int32) : Option ((Nat → Nat → Int32)) :=
  qc_let (qc_u2 I 0 16 a) fun I4 =>
  qc_let (qc_u2 I4 0 17 (0 : Int32)) fun I5 =>
  qc_let (qc_u2 I5 0 21 (0 : Int32)) fun I6 =>
  qc_let (qc_u2 I6 0 15 (0 : Int32)) fun I7 =>
  (P_X7_freshText I7).bind fun q8 =>
  (P_X7_token q8).bind fun q9 =>
  P_X7_readText_28 qc_fu q9
set_option maxRecDepth 20000 in
theorem c_X7_readText {I : Nat → Nat → Int32} {J : Nat → Nat → Int64}  {a : Int32} {q0 : (Nat → Nat → Int32)} (hP : P_X7_readText I a = some q0) : ∀ l, qc_M l yX7_readText cX7_readText 2 none 11 236 0 0 [.ref 0, .int a] (I, J, shM) none (q0, J, shM) := by
  intro l
  refine qc_ent2 (by decide) (Nat.le_of_ble_eq_true rfl) ?_
  intro F hn0 cx hz
  have cx : qc_X F cX7_readText RX7 "readText" 11 0 0 236 := cx
  have L28 : ∀  (f : Nat) (I : (Nat → Nat → Int32)), P_X7_readText_28 f I = some q0 → qc_J F 0 0 28 [some (.ref 0), none] [] (I, J, shM) := by
    intro  f
    induction f with
    | zero => intro I hP; cases hP
    | succ f ih =>
      intro I hP
      rw [P_X7_readText_28] at hP
      refine qj_aload_n cx dX7_readText_28 rfl rfl ?_
      refine qw_getI (j := 21) cx dX7_readText_29 qc_cl7 rfl (Nat.le_of_ble_eq_true rfl) rfl ww_1113 ?_
      refine qj_if_ne (tgt := 50) cx dX7_readText_32 (by decide) (fun c1 => ?_) (fun c1 => ?_)
      · have hP := qc_ifF hP c1
        exact qw_vret cx hz dX7_readText_50 (Nat.zero_le _) (Nat.zero_le _) (Option.some.inj hP) rfl
      · have hP := qc_ifT hP c1
        refine qj_aload_n cx dX7_readText_35 rfl rfl ?_
        refine qw_getI (j := 19) cx dX7_readText_36 qc_cl7 rfl (Nat.le_of_ble_eq_true rfl) rfl ww_1111 ?_
        refine qj_iconst (v := (4 : Int32)) cx dX7_readText_39 (by decide) ?_
        refine qj_icmp_eq (tgt := 50) cx dX7_readText_40 (by decide) (fun c2 => ?_) (fun c2 => ?_)
        · have hP := qc_ifT hP c2
          exact qw_vret cx hz dX7_readText_50 (Nat.zero_le _) (Nat.zero_le _) (Option.some.inj hP) rfl
        · have hP := qc_ifF hP c2
          refine qj_aload_n cx dX7_readText_43 rfl rfl ?_
          obtain ⟨q3, eq3, hP⟩ := Option.bind_eq_some_iff.mp hP
          refine qj_callV (As := []) (st := []) (t := 0) (h' := (q3, J, shM)) (r := none) cx dX7_readText_44 (c_X7_readLine (I := I) (J := J)  eq3) gc_RX7_217 qm_X7_readLine rfl rfl qc_cl7 rfl (Nat.le_of_ble_eq_true rfl) (by decide) (by decide) rfl (Nat.le_of_ble_eq_true rfl) (Nat.le_of_ble_eq_true rfl) hn0 rfl ?_
          refine qj_goto (tgt := 28) cx dX7_readText_47 (by decide) ?_
          exact ih q3 hP
  show qc_J F 0 0 0 [some (.ref 0), some (.int a)] [] (I, J, shM)
  unfold P_X7_readText at hP
  refine qj_aload_n cx dX7_readText_0 rfl rfl ?_
  refine qj_iload_n cx dX7_readText_1 rfl rfl ?_
  obtain ⟨I4, eI4, hP⟩ := qc_letE hP
  refine qw_putI (j := 16) cx dX7_readText_2 qc_cl7 rfl (Nat.le_of_ble_eq_true rfl) rfl ww_1108 rfl rfl rfl eI4 ?_
  refine qj_aload_n cx dX7_readText_5 rfl rfl ?_
  refine qj_iconst (v := (0 : Int32)) cx dX7_readText_6 (by decide) ?_
  obtain ⟨I5, eI5, hP⟩ := qc_letE hP
  refine qw_putI (j := 17) cx dX7_readText_7 qc_cl7 rfl (Nat.le_of_ble_eq_true rfl) rfl ww_1109 rfl rfl rfl eI5 ?_
  refine qj_aload_n cx dX7_readText_10 rfl rfl ?_
  refine qj_iconst (v := (0 : Int32)) cx dX7_readText_11 (by decide) ?_
  obtain ⟨I6, eI6, hP⟩ := qc_letE hP
  refine qw_putI (j := 21) cx dX7_readText_12 qc_cl7 rfl (Nat.le_of_ble_eq_true rfl) rfl ww_1113 rfl rfl rfl eI6 ?_
  refine qj_aload_n cx dX7_readText_15 rfl rfl ?_
  refine qj_iconst (v := (0 : Int32)) cx dX7_readText_16 (by decide) ?_
  obtain ⟨I7, eI7, hP⟩ := qc_letE hP
  refine qw_putI (j := 15) cx dX7_readText_17 qc_cl7 rfl (Nat.le_of_ble_eq_true rfl) rfl ww_1107 rfl rfl rfl eI7 ?_
  refine qj_aload_n cx dX7_readText_20 rfl rfl ?_
  obtain ⟨q8, eq8, hP⟩ := Option.bind_eq_some_iff.mp hP
  refine qj_callV (As := []) (st := []) (t := 0) (h' := (q8, J, shM)) (r := none) cx dX7_readText_21 (c_X7_freshText (I := I7) (J := J)  eq8) gc_RX7_87 qm_X7_freshText rfl rfl qc_cl7 rfl (Nat.le_of_ble_eq_true rfl) (by decide) (by decide) rfl (Nat.le_of_ble_eq_true rfl) (Nat.le_of_ble_eq_true rfl) hn0 rfl ?_
  refine qj_aload_n cx dX7_readText_24 rfl rfl ?_
  obtain ⟨q9, eq9, hP⟩ := Option.bind_eq_some_iff.mp hP
  refine qj_callV (As := []) (st := []) (t := 0) (h' := (q9, J, shM)) (r := none) cx dX7_readText_25 (c_X7_token (I := q8) (J := J)  eq9) gc_RX7_152 qm_X7_token rfl rfl qc_cl7 rfl (Nat.le_of_ble_eq_true rfl) (by decide) (by decide) rfl (Nat.le_of_ble_eq_true rfl) (Nat.le_of_ble_eq_true rfl) hn0 rfl ?_
  refine qw_sub (ls1 := [some (.ref 0), none]) rfl (qc_sb_ok ⟨rfl, trivial⟩) ?_
  exact L28 qc_fu q9 hP
def P_X7_begins_98  : Nat → (Nat → Nat → Int32) → Int32 → Option ((Nat → Nat → Int32))
  | 0, _, _ => none
  | f + 1, I, a1 =>
  if (60 : Int32) < a1 then
  (P_X7_asTold I).bind fun q2 =>
  some q2
  else
  if qc_in a1 122 then
  (if I 12 a1.toNatClampNeg = 0 then
  some (0 : Int32)
  else
  some (1 : Int32)).bind fun v5 =>
  if qc_in ((12 : Int32) + a1) 79 then
  qc_let (qc_u2 I 13 ((12 : Int32) + a1).toNatClampNeg v5) fun I6 =>
  qc_let (a1 + (1 : Int32)) fun x7 =>
  P_X7_begins_98 f I6 x7
  else none
  else none
def P_X7_begins_23  : Nat → (Nat → Nat → Int32) → Int32 → Option ((Nat → Nat → Int32))
  | 0, _, _ => none
  | f + 1, I, a1 =>
  (P_X7_users I).bind fun q9 =>
  if q9 ≤ a1 then
  P_X7_begins_98 qc_fu I (1 : Int32)
  else
  if qc_in a1 12 then
  if qc_in ((0 : Int32) + a1) 79 then
  qc_let (qc_u2 I 13 ((0 : Int32) + a1).toNatClampNeg (I 9 a1.toNatClampNeg)) fun I12 =>
  if qc_in a1 12 then
  if qc_in ((6 : Int32) + a1) 79 then
  qc_let (qc_u2 I12 13 ((6 : Int32) + a1).toNatClampNeg (I12 6 a1.toNatClampNeg)) fun I14 =>
  if qc_in a1 12 then
  (if I14 10 a1.toNatClampNeg = 0 then
  some (255 : Int32)
  else
  if qc_in a1 12 then
  some (I14 10 a1.toNatClampNeg)
  else none).bind fun v17 =>
  if qc_in ((73 : Int32) + a1) 79 then
  qc_let (qc_u2 I14 13 ((73 : Int32) + a1).toNatClampNeg v17) fun I19 =>
  qc_let (a1 + (1 : Int32)) fun x20 =>
  P_X7_begins_23 f I19 x20
  else none
  else none
  else none
  else none
  else none
  else none
def P_X7_begins_2  : Nat → (Nat → Nat → Int32) → Int32 → Option ((Nat → Nat → Int32))
  | 0, _, _ => none
  | f + 1, I, a1 =>
  if (79 : Int32) ≤ a1 then
  P_X7_begins_23 qc_fu I (0 : Int32)
  else
  if qc_in a1 79 then
  qc_let (qc_u2 I 13 a1.toNatClampNeg (0 : Int32)) fun I25 =>
  qc_let (a1 + (1 : Int32)) fun x26 =>
  P_X7_begins_2 f I25 x26
  else none
def P_X7_begins (I : Nat → Nat → Int32) : Option ((Nat → Nat → Int32)) :=
  P_X7_begins_2 qc_fu I (0 : Int32)
set_option maxRecDepth 20000 in
theorem c_X7_begins {I : Nat → Nat → Int32} {J : Nat → Nat → Int64}   {q0 : (Nat → Nat → Int32)} (hP : P_X7_begins I = some q0) : ∀ l, qc_M l yX7_begins cX7_begins 2 none 1 20 0 0 [.ref 0] (I, J, shM) none (q0, J, shM) := by
  intro l
  refine qc_ent2 (by decide) (Nat.le_of_ble_eq_true rfl) ?_
  intro F hn0 cx hz
  have cx : qc_X F cX7_begins RX7 "begins" 1 0 0 20 := cx
  have L98 : ∀  (f : Nat) (I : (Nat → Nat → Int32)) (a1 : Int32), P_X7_begins_98 f I a1 = some q0 → qc_J F 0 0 98 [some (.ref 0), some (.int a1)] [] (I, J, shM) := by
    intro  f
    induction f with
    | zero => intro I a1 hP; cases hP
    | succ f ih =>
      intro I a1 hP
      rw [P_X7_begins_98] at hP
      refine qj_iload_n cx dX7_begins_98 rfl rfl ?_
      refine qj_bipush (v := (60 : Int32)) cx dX7_begins_99 (by decide) ?_
      refine qj_icmp_gt (tgt := 133) cx dX7_begins_101 (by decide) (fun c1 => ?_) (fun c1 => ?_)
      · have hP := qc_ifT hP c1
        refine qj_aload_n cx dX7_begins_133 rfl rfl ?_
        obtain ⟨q2, eq2, hP⟩ := Option.bind_eq_some_iff.mp hP
        refine qj_callV (As := []) (st := []) (t := 0) (h' := (q2, J, shM)) (r := none) cx dX7_begins_134 (c_X7_asTold (I := I) (J := J)  eq2) gc_RX7_235 qm_X7_asTold rfl rfl qc_cl7 rfl (Nat.le_of_ble_eq_true rfl) (by decide) (by decide) rfl (Nat.le_of_ble_eq_true rfl) (Nat.le_of_ble_eq_true rfl) hn0 rfl ?_
        exact qw_vret cx hz dX7_begins_137 (Nat.zero_le _) (Nat.zero_le _) (Option.some.inj hP) rfl
      · have hP := qc_ifF hP c1
        refine qj_aload_n cx dX7_begins_104 rfl rfl ?_
        refine qw_getR (j := 25) (t1 := 13) cx dX7_begins_105 qc_cl7 rfl (Nat.le_of_ble_eq_true rfl) rfl ww_1117 rfl ?_
        refine qj_bipush (v := (12 : Int32)) cx dX7_begins_108 (by decide) ?_
        refine qj_iload_n cx dX7_begins_110 rfl rfl ?_
        refine qj_iadd cx dX7_begins_111 ?_
        refine qj_aload_n cx dX7_begins_112 rfl rfl ?_
        refine qw_getR (j := 13) (t1 := 12) cx dX7_begins_113 qc_cl7 rfl (Nat.le_of_ble_eq_true rfl) rfl ww_1105 rfl ?_
        refine qj_iload_n cx dX7_begins_116 rfl rfl ?_
        obtain ⟨c3, hP⟩ := qc_ck hP
        refine qw_zald cx dX7_begins_117 rfl (Nat.le_of_ble_eq_true rfl) rfl c3 ?_
        obtain ⟨v5, hv5, hP⟩ := Option.bind_eq_some_iff.mp hP
        have Kv5 : qc_J F 0 0 126 [some (.ref 0), some (.int a1)] [.int v5, .int ((12 : Int32) + a1), .ref 13] (I, J, shM) := by
          obtain ⟨c8, hP⟩ := qc_ck hP
          obtain ⟨I6, eI6, hP⟩ := qc_letE hP
          refine qw_iast cx dX7_begins_126 rfl (Nat.le_of_ble_eq_true rfl) rfl c8 eI6 ?_
          obtain ⟨x7, ex7, hP⟩ := qc_letE hP
          refine qj_iinc (v := x7) (ls1 := [some (.ref 0), some (.int x7)]) cx dX7_begins_127 rfl (by rw [ex7]; rfl) rfl rfl ?_
          refine qj_goto (tgt := 98) cx dX7_begins_130 (by decide) ?_
          exact ih I6 x7 hP
        refine qj_if_eq (tgt := 125) cx dX7_begins_118 (by decide) (fun c4 => ?_) (fun c4 => ?_)
        · have hv5 := qc_ifT hv5 c4
          refine qj_iconst (v := (0 : Int32)) cx dX7_begins_125 (by decide) ?_
          exact qw_top (Option.some.inj hv5).symm Kv5
        · have hv5 := qc_ifF hv5 c4
          refine qj_iconst (v := (1 : Int32)) cx dX7_begins_121 (by decide) ?_
          refine qj_goto (tgt := 126) cx dX7_begins_122 (by decide) ?_
          exact qw_top (Option.some.inj hv5).symm Kv5
  have L23 : ∀  (f : Nat) (I : (Nat → Nat → Int32)) (a1 : Int32), P_X7_begins_23 f I a1 = some q0 → qc_J F 0 0 23 [some (.ref 0), some (.int a1)] [] (I, J, shM) := by
    intro  f
    induction f with
    | zero => intro I a1 hP; cases hP
    | succ f ih =>
      intro I a1 hP
      rw [P_X7_begins_23] at hP
      refine qj_iload_n cx dX7_begins_23 rfl rfl ?_
      refine qj_aload_n cx dX7_begins_24 rfl rfl ?_
      obtain ⟨q9, eq9, hP⟩ := Option.bind_eq_some_iff.mp hP
      refine qj_callV (As := []) (st := [.int a1]) (t := 0) (h' := (I, J, shM)) (r := some (.int q9)) cx dX7_begins_25 (c_X7_users (I := I) (J := J)  eq9) gc_RX7_232 qm_X7_users rfl rfl qc_cl7 rfl (Nat.le_of_ble_eq_true rfl) (by decide) (by decide) rfl (Nat.le_of_ble_eq_true rfl) (Nat.le_of_ble_eq_true rfl) hn0 rfl ?_
      refine qj_icmp_ge (tgt := 96) cx dX7_begins_28 (by decide) (fun c10 => ?_) (fun c10 => ?_)
      · have hP := qc_ifT hP c10
        refine qj_iconst (v := (1 : Int32)) cx dX7_begins_96 (by decide) ?_
        refine qj_istore_n (ls1 := [some (.ref 0), some (.int (1 : Int32))]) cx dX7_begins_97 rfl rfl rfl rfl ?_
        exact L98 qc_fu I (1 : Int32) hP
      · have hP := qc_ifF hP c10
        refine qj_aload_n cx dX7_begins_31 rfl rfl ?_
        refine qw_getR (j := 25) (t1 := 13) cx dX7_begins_32 qc_cl7 rfl (Nat.le_of_ble_eq_true rfl) rfl ww_1117 rfl ?_
        refine qj_iconst (v := (0 : Int32)) cx dX7_begins_35 (by decide) ?_
        refine qj_iload_n cx dX7_begins_36 rfl rfl ?_
        refine qj_iadd cx dX7_begins_37 ?_
        refine qj_aload_n cx dX7_begins_38 rfl rfl ?_
        refine qw_getR (j := 10) (t1 := 9) cx dX7_begins_39 qc_cl7 rfl (Nat.le_of_ble_eq_true rfl) rfl ww_1102 rfl ?_
        refine qj_iload_n cx dX7_begins_42 rfl rfl ?_
        obtain ⟨c11, hP⟩ := qc_ck hP
        refine qw_iald cx dX7_begins_43 rfl (Nat.le_of_ble_eq_true rfl) rfl c11 ?_
        obtain ⟨c23, hP⟩ := qc_ck hP
        obtain ⟨I12, eI12, hP⟩ := qc_letE hP
        refine qw_iast cx dX7_begins_44 rfl (Nat.le_of_ble_eq_true rfl) rfl c23 eI12 ?_
        refine qj_aload_n cx dX7_begins_45 rfl rfl ?_
        refine qw_getR (j := 25) (t1 := 13) cx dX7_begins_46 qc_cl7 rfl (Nat.le_of_ble_eq_true rfl) rfl ww_1117 rfl ?_
        refine qj_bipush (v := (6 : Int32)) cx dX7_begins_49 (by decide) ?_
        refine qj_iload_n cx dX7_begins_51 rfl rfl ?_
        refine qj_iadd cx dX7_begins_52 ?_
        refine qj_aload_n cx dX7_begins_53 rfl rfl ?_
        refine qw_getR (j := 7) (t1 := 6) cx dX7_begins_54 qc_cl7 rfl (Nat.le_of_ble_eq_true rfl) rfl ww_1099 rfl ?_
        refine qj_iload_n cx dX7_begins_57 rfl rfl ?_
        obtain ⟨c13, hP⟩ := qc_ck hP
        refine qw_iald cx dX7_begins_58 rfl (Nat.le_of_ble_eq_true rfl) rfl c13 ?_
        obtain ⟨c22, hP⟩ := qc_ck hP
        obtain ⟨I14, eI14, hP⟩ := qc_letE hP
        refine qw_iast cx dX7_begins_59 rfl (Nat.le_of_ble_eq_true rfl) rfl c22 eI14 ?_
        refine qj_aload_n cx dX7_begins_60 rfl rfl ?_
        refine qw_getR (j := 25) (t1 := 13) cx dX7_begins_61 qc_cl7 rfl (Nat.le_of_ble_eq_true rfl) rfl ww_1117 rfl ?_
        refine qj_bipush (v := (73 : Int32)) cx dX7_begins_64 (by decide) ?_
        refine qj_iload_n cx dX7_begins_66 rfl rfl ?_
        refine qj_iadd cx dX7_begins_67 ?_
        refine qj_aload_n cx dX7_begins_68 rfl rfl ?_
        refine qw_getR (j := 11) (t1 := 10) cx dX7_begins_69 qc_cl7 rfl (Nat.le_of_ble_eq_true rfl) rfl ww_1103 rfl ?_
        refine qj_iload_n cx dX7_begins_72 rfl rfl ?_
        obtain ⟨c15, hP⟩ := qc_ck hP
        refine qw_iald cx dX7_begins_73 rfl (Nat.le_of_ble_eq_true rfl) rfl c15 ?_
        obtain ⟨v17, hv17, hP⟩ := Option.bind_eq_some_iff.mp hP
        have Kv17 : qc_J F 0 0 89 [some (.ref 0), some (.int a1)] [.int v17, .int ((73 : Int32) + a1), .ref 13] (I14, J, shM) := by
          obtain ⟨c21, hP⟩ := qc_ck hP
          obtain ⟨I19, eI19, hP⟩ := qc_letE hP
          refine qw_iast cx dX7_begins_89 rfl (Nat.le_of_ble_eq_true rfl) rfl c21 eI19 ?_
          obtain ⟨x20, ex20, hP⟩ := qc_letE hP
          refine qj_iinc (v := x20) (ls1 := [some (.ref 0), some (.int x20)]) cx dX7_begins_90 rfl (by rw [ex20]; rfl) rfl rfl ?_
          refine qj_goto (tgt := 23) cx dX7_begins_93 (by decide) ?_
          exact ih I19 x20 hP
        refine qj_if_ne (tgt := 83) cx dX7_begins_74 (by decide) (fun c16 => ?_) (fun c16 => ?_)
        · have hv17 := qc_ifF hv17 c16
          refine qj_aload_n cx dX7_begins_83 rfl rfl ?_
          refine qw_getR (j := 11) (t1 := 10) cx dX7_begins_84 qc_cl7 rfl (Nat.le_of_ble_eq_true rfl) rfl ww_1103 rfl ?_
          refine qj_iload_n cx dX7_begins_87 rfl rfl ?_
          obtain ⟨c18, hv17⟩ := qc_ck hv17
          refine qw_iald cx dX7_begins_88 rfl (Nat.le_of_ble_eq_true rfl) rfl c18 ?_
          exact qw_top (Option.some.inj hv17).symm Kv17
        · have hv17 := qc_ifT hv17 c16
          refine qj_sipush (v := (255 : Int32)) cx dX7_begins_77 (by decide) ?_
          refine qj_goto (tgt := 89) cx dX7_begins_80 (by decide) ?_
          exact qw_top (Option.some.inj hv17).symm Kv17
  have L2 : ∀  (f : Nat) (I : (Nat → Nat → Int32)) (a1 : Int32), P_X7_begins_2 f I a1 = some q0 → qc_J F 0 0 2 [some (.ref 0), some (.int a1)] [] (I, J, shM) := by
    intro  f
    induction f with
    | zero => intro I a1 hP; cases hP
    | succ f ih =>
      intro I a1 hP
      rw [P_X7_begins_2] at hP
      refine qj_iload_n cx dX7_begins_2 rfl rfl ?_
      refine qj_bipush (v := (79 : Int32)) cx dX7_begins_3 (by decide) ?_
      refine qj_icmp_ge (tgt := 21) cx dX7_begins_5 (by decide) (fun c24 => ?_) (fun c24 => ?_)
      · have hP := qc_ifT hP c24
        refine qj_iconst (v := (0 : Int32)) cx dX7_begins_21 (by decide) ?_
        refine qj_istore_n (ls1 := [some (.ref 0), some (.int (0 : Int32))]) cx dX7_begins_22 rfl rfl rfl rfl ?_
        exact L23 qc_fu I (0 : Int32) hP
      · have hP := qc_ifF hP c24
        refine qj_aload_n cx dX7_begins_8 rfl rfl ?_
        refine qw_getR (j := 25) (t1 := 13) cx dX7_begins_9 qc_cl7 rfl (Nat.le_of_ble_eq_true rfl) rfl ww_1117 rfl ?_
        refine qj_iload_n cx dX7_begins_12 rfl rfl ?_
        refine qj_iconst (v := (0 : Int32)) cx dX7_begins_13 (by decide) ?_
        obtain ⟨c27, hP⟩ := qc_ck hP
        obtain ⟨I25, eI25, hP⟩ := qc_letE hP
        refine qw_iast cx dX7_begins_14 rfl (Nat.le_of_ble_eq_true rfl) rfl c27 eI25 ?_
        obtain ⟨x26, ex26, hP⟩ := qc_letE hP
        refine qj_iinc (v := x26) (ls1 := [some (.ref 0), some (.int x26)]) cx dX7_begins_15 rfl (by rw [ex26]; rfl) rfl rfl ?_
        refine qj_goto (tgt := 2) cx dX7_begins_18 (by decide) ?_
        exact ih I25 x26 hP
  show qc_J F 0 0 0 [some (.ref 0), none] [] (I, J, shM)
  unfold P_X7_begins at hP
  refine qj_iconst (v := (0 : Int32)) cx dX7_begins_0 (by decide) ?_
  refine qj_istore_n (ls1 := [some (.ref 0), some (.int (0 : Int32))]) cx dX7_begins_1 rfl rfl rfl rfl ?_
  exact L2 qc_fu I (0 : Int32) hP
def P_X7_laysProducts_38 (k7 : (Nat → Nat → Int32) → Int32 → Option ((Nat → Nat → Int32))) (k14 : (Nat → Nat → Int32) → Int32 → Int32 → Option ((Nat → Nat → Int32))) (I : (Nat → Nat → Int32)) (a1 : Int32) (a2 : Int32) : Option ((Nat → Nat → Int32)) :=
  qc_let (a2 + (1 : Int32)) fun x1 =>
  k14 I a1 x1
def P_X7_laysProducts_14 (k7 : (Nat → Nat → Int32) → Int32 → Option ((Nat → Nat → Int32))) : Nat → (Nat → Nat → Int32) → Int32 → Int32 → Option ((Nat → Nat → Int32))
  | 0, _, _, _ => none
  | f + 1, I, a1, a2 =>
  if (6 : Int32) ≤ a2 then
  qc_let (a1 + (1 : Int32)) fun x3 =>
  k7 I x3
  else
  (P_X7_bitOf a2).bind fun q4 =>
  if (I 0 33) &&& q4 = 0 then
  P_X7_laysProducts_38 k7 (P_X7_laysProducts_14 k7 f) I a1 a2
  else
  (P_X7_laysSort I a1 a2).bind fun q6 =>
  P_X7_laysProducts_38 k7 (P_X7_laysProducts_14 k7 f) q6 a1 a2
def P_X7_laysProducts_7  : Nat → (Nat → Nat → Int32) → Int32 → Option ((Nat → Nat → Int32))
  | 0, _, _ => none
  | f + 1, I, a1 =>
  if (3 : Int32) ≤ a1 then
  some I
  else
  P_X7_laysProducts_14 (P_X7_laysProducts_7 f) qc_fu I a1 (0 : Int32)
def P_X7_laysProducts (I : Nat → Nat → Int32) : Option ((Nat → Nat → Int32)) :=
  qc_let (qc_u2 I 0 41 (0 : Int32)) fun I8 =>
  P_X7_laysProducts_7 qc_fu I8 (0 : Int32)
set_option maxRecDepth 20000 in
theorem c_X7_laysProducts {I : Nat → Nat → Int32} {J : Nat → Nat → Int64}   {q0 : (Nat → Nat → Int32)} (hP : P_X7_laysProducts I = some q0) : ∀ l, qc_M l yX7_laysProducts cX7_laysProducts 3 none 3 74 0 0 [.ref 0] (I, J, shM) none (q0, J, shM) := by
  intro l
  refine qc_ent2 (by decide) (Nat.le_of_ble_eq_true rfl) ?_
  intro F hn0 cx hz
  have cx : qc_X F cX7_laysProducts RX7 "laysProducts" 3 0 0 74 := cx
  have L38 : ∀ (k7 : (Nat → Nat → Int32) → Int32 → Option ((Nat → Nat → Int32))) (g7 : ∀ (I : Nat → Nat → Int32) (a1 : Int32), k7 I a1 = some q0 → qc_J F 0 0 7 [some (.ref 0), some (.int a1), none] [] (I, J, shM)) (k14 : (Nat → Nat → Int32) → Int32 → Int32 → Option ((Nat → Nat → Int32))) (g14 : ∀ (I : Nat → Nat → Int32) (a1 : Int32) (a2 : Int32), k14 I a1 a2 = some q0 → qc_J F 0 0 14 [some (.ref 0), some (.int a1), some (.int a2)] [] (I, J, shM)) (I : (Nat → Nat → Int32)) (a1 : Int32) (a2 : Int32), P_X7_laysProducts_38 k7 k14 I a1 a2 = some q0 → qc_J F 0 0 38 [some (.ref 0), some (.int a1), some (.int a2)] [] (I, J, shM) := by
    intro k7 g7 k14 g14 I a1 a2 hP
    unfold P_X7_laysProducts_38 at hP
    obtain ⟨x1, ex1, hP⟩ := qc_letE hP
    refine qj_iinc (v := x1) (ls1 := [some (.ref 0), some (.int a1), some (.int x1)]) cx dX7_laysProducts_38 rfl (by rw [ex1]; rfl) rfl rfl ?_
    refine qj_goto (tgt := 14) cx dX7_laysProducts_41 (by decide) ?_
    exact g14 I a1 x1 hP
  have L14 : ∀ (k7 : (Nat → Nat → Int32) → Int32 → Option ((Nat → Nat → Int32))) (g7 : ∀ (I : Nat → Nat → Int32) (a1 : Int32), k7 I a1 = some q0 → qc_J F 0 0 7 [some (.ref 0), some (.int a1), none] [] (I, J, shM)) (f : Nat) (I : (Nat → Nat → Int32)) (a1 : Int32) (a2 : Int32), P_X7_laysProducts_14 k7 f I a1 a2 = some q0 → qc_J F 0 0 14 [some (.ref 0), some (.int a1), some (.int a2)] [] (I, J, shM) := by
    intro k7 g7 f
    induction f with
    | zero => intro I a1 a2 hP; cases hP
    | succ f ih =>
      intro I a1 a2 hP
      rw [P_X7_laysProducts_14] at hP
      refine qj_iload_n cx dX7_laysProducts_14 rfl rfl ?_
      refine qj_bipush (v := (6 : Int32)) cx dX7_laysProducts_15 (by decide) ?_
      refine qj_icmp_ge (tgt := 44) cx dX7_laysProducts_17 (by decide) (fun c2 => ?_) (fun c2 => ?_)
      · have hP := qc_ifT hP c2
        obtain ⟨x3, ex3, hP⟩ := qc_letE hP
        refine qj_iinc (v := x3) (ls1 := [some (.ref 0), some (.int x3), some (.int a2)]) cx dX7_laysProducts_44 rfl (by rw [ex3]; rfl) rfl rfl ?_
        refine qj_goto (tgt := 7) cx dX7_laysProducts_47 (by decide) ?_
        refine qw_sub (ls1 := [some (.ref 0), some (.int x3), none]) rfl (qc_sb_ok ⟨rfl, rfl, trivial⟩) ?_
        exact g7 I x3 hP
      · have hP := qc_ifF hP c2
        refine qj_aload_n cx dX7_laysProducts_20 rfl rfl ?_
        refine qw_getI (j := 33) cx dX7_laysProducts_21 qc_cl7 rfl (Nat.le_of_ble_eq_true rfl) rfl ww_1125 ?_
        refine qj_iload_n cx dX7_laysProducts_24 rfl rfl ?_
        obtain ⟨q4, eq4, hP⟩ := Option.bind_eq_some_iff.mp hP
        refine qj_callS (As := [.int a2]) (st := [.int (I 0 33)]) (h' := (I, J, shM)) (r := some (.int q4)) cx dX7_laysProducts_25 (c_X7_bitOf (S := shM) (I := I) (J := J) eq4) gc_RX7_286 qm_X7_bitOf rfl (by decide) (by decide) rfl (Nat.le_of_ble_eq_true rfl) (Nat.le_of_ble_eq_true rfl) hn0 rfl ?_
        refine qj_iand cx dX7_laysProducts_28 ?_
        refine qj_if_eq (tgt := 38) cx dX7_laysProducts_29 (by decide) (fun c5 => ?_) (fun c5 => ?_)
        · have hP := qc_ifT hP c5
          exact L38 k7 g7 (P_X7_laysProducts_14 k7 f) ih I a1 a2 hP
        · have hP := qc_ifF hP c5
          refine qj_aload_n cx dX7_laysProducts_32 rfl rfl ?_
          refine qj_iload_n cx dX7_laysProducts_33 rfl rfl ?_
          refine qj_iload_n cx dX7_laysProducts_34 rfl rfl ?_
          obtain ⟨q6, eq6, hP⟩ := Option.bind_eq_some_iff.mp hP
          refine qj_callV (As := [.int a1, .int a2]) (st := []) (t := 0) (h' := (q6, J, shM)) (r := none) cx dX7_laysProducts_35 (c_X7_laysSort (I := I) (J := J)  eq6) gc_RX7_289 qm_X7_laysSort rfl rfl qc_cl7 rfl (Nat.le_of_ble_eq_true rfl) (by decide) (by decide) rfl (Nat.le_of_ble_eq_true rfl) (Nat.le_of_ble_eq_true rfl) hn0 rfl ?_
          exact L38 k7 g7 (P_X7_laysProducts_14 k7 f) ih q6 a1 a2 hP
  have L7 : ∀  (f : Nat) (I : (Nat → Nat → Int32)) (a1 : Int32), P_X7_laysProducts_7 f I a1 = some q0 → qc_J F 0 0 7 [some (.ref 0), some (.int a1), none] [] (I, J, shM) := by
    intro  f
    induction f with
    | zero => intro I a1 hP; cases hP
    | succ f ih =>
      intro I a1 hP
      rw [P_X7_laysProducts_7] at hP
      refine qj_iload_n cx dX7_laysProducts_7 rfl rfl ?_
      refine qj_iconst (v := (3 : Int32)) cx dX7_laysProducts_8 (by decide) ?_
      refine qj_icmp_ge (tgt := 50) cx dX7_laysProducts_9 (by decide) (fun c7 => ?_) (fun c7 => ?_)
      · have hP := qc_ifT hP c7
        exact qw_vret cx hz dX7_laysProducts_50 (Nat.zero_le _) (Nat.zero_le _) (Option.some.inj hP) rfl
      · have hP := qc_ifF hP c7
        refine qj_iconst (v := (0 : Int32)) cx dX7_laysProducts_12 (by decide) ?_
        refine qj_istore_n (ls1 := [some (.ref 0), some (.int a1), some (.int (0 : Int32))]) cx dX7_laysProducts_13 rfl rfl rfl rfl ?_
        exact L14 (P_X7_laysProducts_7 f) ih qc_fu I a1 (0 : Int32) hP
  show qc_J F 0 0 0 [some (.ref 0), none, none] [] (I, J, shM)
  unfold P_X7_laysProducts at hP
  refine qj_aload_n cx dX7_laysProducts_0 rfl rfl ?_
  refine qj_iconst (v := (0 : Int32)) cx dX7_laysProducts_1 (by decide) ?_
  obtain ⟨I8, eI8, hP⟩ := qc_letE hP
  refine qw_putI (j := 41) cx dX7_laysProducts_2 qc_cl7 rfl (Nat.le_of_ble_eq_true rfl) rfl ww_1133 rfl rfl rfl eI8 ?_
  refine qj_iconst (v := (0 : Int32)) cx dX7_laysProducts_5 (by decide) ?_
  refine qj_istore_n (ls1 := [some (.ref 0), some (.int (0 : Int32)), none]) cx dX7_laysProducts_6 rfl rfl rfl rfl ?_
  exact L7 qc_fu I8 (0 : Int32) hP
def P_X7_hits (I : Nat → Nat → Int32) (a : Int32) (b : Int32) : Option (Int32) :=
  (P_X7_mayHit I a b).bind fun q1 =>
  (if q1 = 0 then
  some (0 : Int32)
  else
  if qc_in ((0 : Int32) + b) 79 then
  if qc_in a 300 then
  (P_X7_without ((I 13 ((0 : Int32) + b).toNatClampNeg) - (I 20 a.toNatClampNeg))).bind fun q6 =>
  if I 0 31 < q6 then
  some (0 : Int32)
  else
  some (1 : Int32)
  else none
  else none).bind fun v3 =>
  if qc_bo v3 then some v3 else none
set_option maxRecDepth 20000 in
theorem c_X7_hits {I : Nat → Nat → Int32} {J : Nat → Nat → Int64}  {a : Int32} {b : Int32} {q0 : Int32} (hP : P_X7_hits I a b = some q0) : ∀ l, qc_M l yX7_hits cX7_hits 3 (some .boolean) 2 46 0 0 [.ref 0, .int a, .int b] (I, J, shM) (some (.int q0)) (I, J, shM) := by
  intro l
  refine qc_ent2 (by decide) (Nat.le_of_ble_eq_true rfl) ?_
  intro F hn0 cx hz
  have cx : qc_X F cX7_hits RX7 "hits" 2 0 0 46 := cx
  show qc_J F 0 0 0 [some (.ref 0), some (.int a), some (.int b)] [] (I, J, shM)
  unfold P_X7_hits at hP
  refine qj_aload_n cx dX7_hits_0 rfl rfl ?_
  refine qj_iload_n cx dX7_hits_1 rfl rfl ?_
  refine qj_iload_n cx dX7_hits_2 rfl rfl ?_
  obtain ⟨q1, eq1, hP⟩ := Option.bind_eq_some_iff.mp hP
  refine qj_callV (As := [.int a, .int b]) (st := []) (t := 0) (h' := (I, J, shM)) (r := some (.int q1)) cx dX7_hits_3 (c_X7_mayHit (I := I) (J := J)  eq1) gc_RX7_299 qm_X7_mayHit rfl rfl qc_cl7 rfl (Nat.le_of_ble_eq_true rfl) (by decide) (by decide) rfl (Nat.le_of_ble_eq_true rfl) (Nat.le_of_ble_eq_true rfl) hn0 rfl ?_
  obtain ⟨v3, hv3, hP⟩ := Option.bind_eq_some_iff.mp hP
  have Kv3 : qc_J F 0 0 39 [some (.ref 0), some (.int a), some (.int b)] [.int v3] (I, J, shM) := by
    obtain ⟨c8, hP⟩ := qc_ck hP
    exact qw_zret cx hz dX7_hits_39 (qc_bo_n c8) (Nat.zero_le _) (Nat.zero_le _) (Option.some.inj hP) rfl rfl
  refine qj_if_eq (tgt := 38) cx dX7_hits_6 (by decide) (fun c2 => ?_) (fun c2 => ?_)
  · have hv3 := qc_ifT hv3 c2
    refine qj_iconst (v := (0 : Int32)) cx dX7_hits_38 (by decide) ?_
    exact qw_top (Option.some.inj hv3).symm Kv3
  · have hv3 := qc_ifF hv3 c2
    refine qj_aload_n cx dX7_hits_9 rfl rfl ?_
    refine qw_getR (j := 25) (t1 := 13) cx dX7_hits_10 qc_cl7 rfl (Nat.le_of_ble_eq_true rfl) rfl ww_1117 rfl ?_
    refine qj_iconst (v := (0 : Int32)) cx dX7_hits_13 (by decide) ?_
    refine qj_iload_n cx dX7_hits_14 rfl rfl ?_
    refine qj_iadd cx dX7_hits_15 ?_
    obtain ⟨c4, hv3⟩ := qc_ck hv3
    refine qw_iald cx dX7_hits_16 rfl (Nat.le_of_ble_eq_true rfl) rfl c4 ?_
    refine qj_aload_n cx dX7_hits_17 rfl rfl ?_
    refine qw_getR (j := 38) (t1 := 20) cx dX7_hits_18 qc_cl7 rfl (Nat.le_of_ble_eq_true rfl) rfl ww_1130 rfl ?_
    refine qj_iload_n cx dX7_hits_21 rfl rfl ?_
    obtain ⟨c5, hv3⟩ := qc_ck hv3
    refine qw_iald cx dX7_hits_22 rfl (Nat.le_of_ble_eq_true rfl) rfl c5 ?_
    refine qj_isub cx dX7_hits_23 ?_
    obtain ⟨q6, eq6, hv3⟩ := Option.bind_eq_some_iff.mp hv3
    refine qj_callS (As := [.int ((I 13 ((0 : Int32) + b).toNatClampNeg) - (I 20 a.toNatClampNeg))]) (st := []) (h' := (I, J, shM)) (r := some (.int q6)) cx dX7_hits_24 (c_X7_without (S := shM) (I := I) (J := J) eq6) gc_RX7_274 qm_X7_without rfl (by decide) (by decide) rfl (Nat.le_of_ble_eq_true rfl) (Nat.le_of_ble_eq_true rfl) hn0 rfl ?_
    refine qj_aload_n cx dX7_hits_27 rfl rfl ?_
    refine qw_getI (j := 31) cx dX7_hits_28 qc_cl7 rfl (Nat.le_of_ble_eq_true rfl) rfl ww_1123 ?_
    refine qj_icmp_gt (tgt := 38) cx dX7_hits_31 (by decide) (fun c7 => ?_) (fun c7 => ?_)
    · have hv3 := qc_ifT hv3 c7
      refine qj_iconst (v := (0 : Int32)) cx dX7_hits_38 (by decide) ?_
      exact qw_top (Option.some.inj hv3).symm Kv3
    · have hv3 := qc_ifF hv3 c7
      refine qj_iconst (v := (1 : Int32)) cx dX7_hits_34 (by decide) ?_
      refine qj_goto (tgt := 39) cx dX7_hits_35 (by decide) ?_
      exact qw_top (Option.some.inj hv3).symm Kv3
def P_X7_hitsOf_27 (I : Nat → Nat → Int32) (k4 : Int32 → Int32 → Int32 → Option (Int32)) (a1 : Int32) (a2 : Int32) (a3 : Int32) : Option (Int32) :=
  qc_let (a3 + (1 : Int32)) fun x1 =>
  k4 a1 a2 x1
def P_X7_hitsOf_4 (I : Nat → Nat → Int32) : Nat → Int32 → Int32 → Int32 → Option (Int32)
  | 0, _, _, _ => none
  | f + 1, a1, a2, a3 =>
  (P_X7_users I).bind fun q2 =>
  if q2 ≤ a3 then
  some a2
  else
  (P_X7_hits I a1 a3).bind fun q4 =>
  if q4 = 0 then
  P_X7_hitsOf_27 I (P_X7_hitsOf_4 I f) a1 a2 a3
  else
  qc_let (a2 ||| ((1 : Int32) <<< (a3 &&& 31))) fun x6 =>
  P_X7_hitsOf_27 I (P_X7_hitsOf_4 I f) a1 x6 a3
def P_X7_hitsOf (I : Nat → Nat → Int32) (a : Int32) : Option (Int32) :=
  P_X7_hitsOf_4 I qc_fu a (0 : Int32) (0 : Int32)
set_option maxRecDepth 20000 in
theorem c_X7_hitsOf {I : Nat → Nat → Int32} {J : Nat → Nat → Int64}  {a : Int32} {q0 : Int32} (hP : P_X7_hitsOf I a = some q0) : ∀ l, qc_M l yX7_hitsOf cX7_hitsOf 4 (some .int) 3 68 0 0 [.ref 0, .int a] (I, J, shM) (some (.int q0)) (I, J, shM) := by
  intro l
  refine qc_ent2 (by decide) (Nat.le_of_ble_eq_true rfl) ?_
  intro F hn0 cx hz
  have cx : qc_X F cX7_hitsOf RX7 "hitsOf" 3 0 0 68 := cx
  have L27 : ∀ (k4 : Int32 → Int32 → Int32 → Option (Int32)) (g4 : ∀ (a1 : Int32) (a2 : Int32) (a3 : Int32), k4 a1 a2 a3 = some q0 → qc_J F 0 0 4 [some (.ref 0), some (.int a1), some (.int a2), some (.int a3)] [] (I, J, shM)) (a1 : Int32) (a2 : Int32) (a3 : Int32), P_X7_hitsOf_27 I k4 a1 a2 a3 = some q0 → qc_J F 0 0 27 [some (.ref 0), some (.int a1), some (.int a2), some (.int a3)] [] (I, J, shM) := by
    intro k4 g4 a1 a2 a3 hP
    unfold P_X7_hitsOf_27 at hP
    obtain ⟨x1, ex1, hP⟩ := qc_letE hP
    refine qj_iinc (v := x1) (ls1 := [some (.ref 0), some (.int a1), some (.int a2), some (.int x1)]) cx dX7_hitsOf_27 rfl (by rw [ex1]; rfl) rfl rfl ?_
    refine qj_goto (tgt := 4) cx dX7_hitsOf_30 (by decide) ?_
    exact g4 a1 a2 x1 hP
  have L4 : ∀  (f : Nat) (a1 : Int32) (a2 : Int32) (a3 : Int32), P_X7_hitsOf_4 I f a1 a2 a3 = some q0 → qc_J F 0 0 4 [some (.ref 0), some (.int a1), some (.int a2), some (.int a3)] [] (I, J, shM) := by
    intro  f
    induction f with
    | zero => intro a1 a2 a3 hP; cases hP
    | succ f ih =>
      intro a1 a2 a3 hP
      rw [P_X7_hitsOf_4] at hP
      refine qj_iload_n cx dX7_hitsOf_4 rfl rfl ?_
      refine qj_aload_n cx dX7_hitsOf_5 rfl rfl ?_
      obtain ⟨q2, eq2, hP⟩ := Option.bind_eq_some_iff.mp hP
      refine qj_callV (As := []) (st := [.int a3]) (t := 0) (h' := (I, J, shM)) (r := some (.int q2)) cx dX7_hitsOf_6 (c_X7_users (I := I) (J := J)  eq2) gc_RX7_232 qm_X7_users rfl rfl qc_cl7 rfl (Nat.le_of_ble_eq_true rfl) (by decide) (by decide) rfl (Nat.le_of_ble_eq_true rfl) (Nat.le_of_ble_eq_true rfl) hn0 rfl ?_
      refine qj_icmp_ge (tgt := 33) cx dX7_hitsOf_9 (by decide) (fun c3 => ?_) (fun c3 => ?_)
      · have hP := qc_ifT hP c3
        refine qj_iload_n cx dX7_hitsOf_33 rfl rfl ?_
        exact qw_iret cx hz dX7_hitsOf_34 (Nat.zero_le _) (Nat.zero_le _) (Option.some.inj hP) rfl rfl
      · have hP := qc_ifF hP c3
        refine qj_aload_n cx dX7_hitsOf_12 rfl rfl ?_
        refine qj_iload_n cx dX7_hitsOf_13 rfl rfl ?_
        refine qj_iload_n cx dX7_hitsOf_14 rfl rfl ?_
        obtain ⟨q4, eq4, hP⟩ := Option.bind_eq_some_iff.mp hP
        refine qj_callV (As := [.int a1, .int a3]) (st := []) (t := 0) (h' := (I, J, shM)) (r := some (.int q4)) cx dX7_hitsOf_15 (c_X7_hits (I := I) (J := J)  eq4) gc_RX7_305 qm_X7_hits rfl rfl qc_cl7 rfl (Nat.le_of_ble_eq_true rfl) (by decide) (by decide) rfl (Nat.le_of_ble_eq_true rfl) (Nat.le_of_ble_eq_true rfl) hn0 rfl ?_
        refine qj_if_eq (tgt := 27) cx dX7_hitsOf_18 (by decide) (fun c5 => ?_) (fun c5 => ?_)
        · have hP := qc_ifT hP c5
          exact L27 (P_X7_hitsOf_4 I f) ih a1 a2 a3 hP
        · have hP := qc_ifF hP c5
          refine qj_iload_n cx dX7_hitsOf_21 rfl rfl ?_
          refine qj_iconst (v := (1 : Int32)) cx dX7_hitsOf_22 (by decide) ?_
          refine qj_iload_n cx dX7_hitsOf_23 rfl rfl ?_
          refine qj_ishl cx dX7_hitsOf_24 ?_
          refine qj_ior cx dX7_hitsOf_25 ?_
          obtain ⟨x6, ex6, hP⟩ := qc_letE hP
          refine qw_top ex6 ?_
          refine qj_istore_n (ls1 := [some (.ref 0), some (.int a1), some (.int x6), some (.int a3)]) cx dX7_hitsOf_26 rfl rfl rfl rfl ?_
          exact L27 (P_X7_hitsOf_4 I f) ih a1 x6 a3 hP
  show qc_J F 0 0 0 [some (.ref 0), some (.int a), none, none] [] (I, J, shM)
  unfold P_X7_hitsOf at hP
  refine qj_iconst (v := (0 : Int32)) cx dX7_hitsOf_0 (by decide) ?_
  refine qj_istore_n (ls1 := [some (.ref 0), some (.int a), some (.int (0 : Int32)), none]) cx dX7_hitsOf_1 rfl rfl rfl rfl ?_
  refine qj_iconst (v := (0 : Int32)) cx dX7_hitsOf_2 (by decide) ?_
  refine qj_istore_n (ls1 := [some (.ref 0), some (.int a), some (.int (0 : Int32)), some (.int (0 : Int32))]) cx dX7_hitsOf_3 rfl rfl rfl rfl ?_
  exact L4 qc_fu a (0 : Int32) (0 : Int32) hP
def P_X7_allHits_4 (I : Nat → Nat → Int32) : Nat → Int32 → Int32 → Option (Int32)
  | 0, _, _ => none
  | f + 1, a1, a2 =>
  if I 0 41 ≤ a2 then
  some a1
  else
  (P_X7_hitsOf I a2).bind fun q2 =>
  (P_X7_bits q2).bind fun q3 =>
  qc_let (a1 + q3) fun x4 =>
  qc_let (a2 + (1 : Int32)) fun x5 =>
  P_X7_allHits_4 I f x4 x5
def P_X7_allHits (I : Nat → Nat → Int32) : Option (Int32) :=
  P_X7_allHits_4 I qc_fu (0 : Int32) (0 : Int32)
set_option maxRecDepth 20000 in
theorem c_X7_allHits {I : Nat → Nat → Int32} {J : Nat → Nat → Int64}   {q0 : Int32} (hP : P_X7_allHits I = some q0) : ∀ l, qc_M l yX7_allHits cX7_allHits 3 (some .int) 4 91 0 0 [.ref 0] (I, J, shM) (some (.int q0)) (I, J, shM) := by
  intro l
  refine qc_ent2 (by decide) (Nat.le_of_ble_eq_true rfl) ?_
  intro F hn0 cx hz
  have cx : qc_X F cX7_allHits RX7 "allHits" 4 0 0 91 := cx
  have L4 : ∀  (f : Nat) (a1 : Int32) (a2 : Int32), P_X7_allHits_4 I f a1 a2 = some q0 → qc_J F 0 0 4 [some (.ref 0), some (.int a1), some (.int a2)] [] (I, J, shM) := by
    intro  f
    induction f with
    | zero => intro a1 a2 hP; cases hP
    | succ f ih =>
      intro a1 a2 hP
      rw [P_X7_allHits_4] at hP
      refine qj_iload_n cx dX7_allHits_4 rfl rfl ?_
      refine qj_aload_n cx dX7_allHits_5 rfl rfl ?_
      refine qw_getI (j := 41) cx dX7_allHits_6 qc_cl7 rfl (Nat.le_of_ble_eq_true rfl) rfl ww_1133 ?_
      refine qj_icmp_ge (tgt := 29) cx dX7_allHits_9 (by decide) (fun c1 => ?_) (fun c1 => ?_)
      · have hP := qc_ifT hP c1
        refine qj_iload_n cx dX7_allHits_29 rfl rfl ?_
        exact qw_iret cx hz dX7_allHits_30 (Nat.zero_le _) (Nat.zero_le _) (Option.some.inj hP) rfl rfl
      · have hP := qc_ifF hP c1
        refine qj_iload_n cx dX7_allHits_12 rfl rfl ?_
        refine qj_aload_n cx dX7_allHits_13 rfl rfl ?_
        refine qj_iload_n cx dX7_allHits_14 rfl rfl ?_
        obtain ⟨q2, eq2, hP⟩ := Option.bind_eq_some_iff.mp hP
        refine qj_callV (As := [.int a2]) (st := [.int a1]) (t := 0) (h' := (I, J, shM)) (r := some (.int q2)) cx dX7_allHits_15 (c_X7_hitsOf (I := I) (J := J)  eq2) gc_RX7_308 qm_X7_hitsOf rfl rfl qc_cl7 rfl (Nat.le_of_ble_eq_true rfl) (by decide) (by decide) rfl (Nat.le_of_ble_eq_true rfl) (Nat.le_of_ble_eq_true rfl) hn0 rfl ?_
        obtain ⟨q3, eq3, hP⟩ := Option.bind_eq_some_iff.mp hP
        refine qj_callS (As := [.int q2]) (st := [.int a1]) (h' := (I, J, shM)) (r := some (.int q3)) cx dX7_allHits_18 (c_X7_bits (S := shM) (I := I) (J := J) eq3) gc_RX7_311 qm_X7_bits rfl (by decide) (by decide) rfl (Nat.le_of_ble_eq_true rfl) (Nat.le_of_ble_eq_true rfl) hn0 rfl ?_
        refine qj_iadd cx dX7_allHits_21 ?_
        obtain ⟨x4, ex4, hP⟩ := qc_letE hP
        refine qw_top ex4 ?_
        refine qj_istore_n (ls1 := [some (.ref 0), some (.int x4), some (.int a2)]) cx dX7_allHits_22 rfl rfl rfl rfl ?_
        obtain ⟨x5, ex5, hP⟩ := qc_letE hP
        refine qj_iinc (v := x5) (ls1 := [some (.ref 0), some (.int x4), some (.int x5)]) cx dX7_allHits_23 rfl (by rw [ex5]; rfl) rfl rfl ?_
        refine qj_goto (tgt := 4) cx dX7_allHits_26 (by decide) ?_
        exact ih x4 x5 hP
  show qc_J F 0 0 0 [some (.ref 0), none, none] [] (I, J, shM)
  unfold P_X7_allHits at hP
  refine qj_iconst (v := (0 : Int32)) cx dX7_allHits_0 (by decide) ?_
  refine qj_istore_n (ls1 := [some (.ref 0), some (.int (0 : Int32)), none]) cx dX7_allHits_1 rfl rfl rfl rfl ?_
  refine qj_iconst (v := (0 : Int32)) cx dX7_allHits_2 (by decide) ?_
  refine qj_istore_n (ls1 := [some (.ref 0), some (.int (0 : Int32)), some (.int (0 : Int32))]) cx dX7_allHits_3 rfl rfl rfl rfl ?_
  exact L4 qc_fu (0 : Int32) (0 : Int32) hP
def P_X7_isClean_51  : Nat → (Nat → Nat → Int32) → Int32 → Option (Int32 × (Nat → Nat → Int32))
  | 0, _, _ => none
  | f + 1, I, a1 =>
  if I 0 41 ≤ a1 then
  some ((1 : Int32), I)
  else
  (P_X7_hitsOf I a1).bind fun q2 =>
  if q2 = 0 then
  qc_let (a1 + (1 : Int32)) fun x4 =>
  P_X7_isClean_51 f I x4
  else
  some ((0 : Int32), I)
def P_X7_isClean_39 (k2 : (Nat → Nat → Int32) → Int32 → Option (Int32 × (Nat → Nat → Int32))) (I : (Nat → Nat → Int32)) (a1 : Int32) : Option (Int32 × (Nat → Nat → Int32)) :=
  qc_let (a1 + (1 : Int32)) fun x5 =>
  k2 I x5
def P_X7_isClean_2  : Nat → (Nat → Nat → Int32) → Int32 → Option (Int32 × (Nat → Nat → Int32))
  | 0, _, _ => none
  | f + 1, I, a1 =>
  (P_X7_users I).bind fun q6 =>
  if q6 ≤ a1 then
  (P_X7_laysProducts I).bind fun q8 =>
  P_X7_isClean_51 qc_fu q8 (0 : Int32)
  else
  if qc_in ((0 : Int32) + a1) 79 then
  if I 13 ((0 : Int32) + a1).toNatClampNeg ≤ 0 then
  P_X7_isClean_39 (P_X7_isClean_2 f) I a1
  else
  (P_X7_isRight I a1).bind fun q11 =>
  if q11 = 0 then
  some ((0 : Int32), I)
  else
  (P_X7_crowdsOf I a1).bind fun q13 =>
  if q13 = 0 then
  P_X7_isClean_39 (P_X7_isClean_2 f) I a1
  else
  some ((0 : Int32), I)
  else none
def P_X7_isClean (I : Nat → Nat → Int32) : Option (Int32 × (Nat → Nat → Int32)) :=
  P_X7_isClean_2 qc_fu I (0 : Int32)
set_option maxRecDepth 20000 in
theorem c_X7_isClean {I : Nat → Nat → Int32} {J : Nat → Nat → Int64}   {q0 : Int32 × (Nat → Nat → Int32)} (hP : P_X7_isClean I = some q0) : ∀ l, qc_M l yX7_isClean cX7_isClean 2 (some .boolean) 4 96 0 0 [.ref 0] (I, J, shM) (some (.int q0.1)) (q0.2, J, shM) := by
  intro l
  refine qc_ent2 (by decide) (Nat.le_of_ble_eq_true rfl) ?_
  intro F hn0 cx hz
  have cx : qc_X F cX7_isClean RX7 "isClean" 4 0 0 96 := cx
  have L51 : ∀  (f : Nat) (I : (Nat → Nat → Int32)) (a1 : Int32), P_X7_isClean_51 f I a1 = some q0 → qc_J F 0 0 51 [some (.ref 0), some (.int a1)] [] (I, J, shM) := by
    intro  f
    induction f with
    | zero => intro I a1 hP; cases hP
    | succ f ih =>
      intro I a1 hP
      rw [P_X7_isClean_51] at hP
      refine qj_iload_n cx dX7_isClean_51 rfl rfl ?_
      refine qj_aload_n cx dX7_isClean_52 rfl rfl ?_
      refine qw_getI (j := 41) cx dX7_isClean_53 qc_cl7 rfl (Nat.le_of_ble_eq_true rfl) rfl ww_1133 ?_
      refine qj_icmp_ge (tgt := 75) cx dX7_isClean_56 (by decide) (fun c1 => ?_) (fun c1 => ?_)
      · have hP := qc_ifT hP c1
        refine qj_iconst (v := (1 : Int32)) cx dX7_isClean_75 (by decide) ?_
        exact qw_zret cx hz dX7_isClean_76 (by decide) (Nat.zero_le _) (Nat.zero_le _) (congrArg (fun q => q.1) (Option.some.inj hP)) (congrArg (fun q => q.2) (Option.some.inj hP)) rfl
      · have hP := qc_ifF hP c1
        refine qj_aload_n cx dX7_isClean_59 rfl rfl ?_
        refine qj_iload_n cx dX7_isClean_60 rfl rfl ?_
        obtain ⟨q2, eq2, hP⟩ := Option.bind_eq_some_iff.mp hP
        refine qj_callV (As := [.int a1]) (st := []) (t := 0) (h' := (I, J, shM)) (r := some (.int q2)) cx dX7_isClean_61 (c_X7_hitsOf (I := I) (J := J)  eq2) gc_RX7_308 qm_X7_hitsOf rfl rfl qc_cl7 rfl (Nat.le_of_ble_eq_true rfl) (by decide) (by decide) rfl (Nat.le_of_ble_eq_true rfl) (Nat.le_of_ble_eq_true rfl) hn0 rfl ?_
        refine qj_if_eq (tgt := 69) cx dX7_isClean_64 (by decide) (fun c3 => ?_) (fun c3 => ?_)
        · have hP := qc_ifT hP c3
          obtain ⟨x4, ex4, hP⟩ := qc_letE hP
          refine qj_iinc (v := x4) (ls1 := [some (.ref 0), some (.int x4)]) cx dX7_isClean_69 rfl (by rw [ex4]; rfl) rfl rfl ?_
          refine qj_goto (tgt := 51) cx dX7_isClean_72 (by decide) ?_
          exact ih I x4 hP
        · have hP := qc_ifF hP c3
          refine qj_iconst (v := (0 : Int32)) cx dX7_isClean_67 (by decide) ?_
          exact qw_zret cx hz dX7_isClean_68 (by decide) (Nat.zero_le _) (Nat.zero_le _) (congrArg (fun q => q.1) (Option.some.inj hP)) (congrArg (fun q => q.2) (Option.some.inj hP)) rfl
  have L39 : ∀ (k2 : (Nat → Nat → Int32) → Int32 → Option (Int32 × (Nat → Nat → Int32))) (g2 : ∀ (I : Nat → Nat → Int32) (a1 : Int32), k2 I a1 = some q0 → qc_J F 0 0 2 [some (.ref 0), some (.int a1)] [] (I, J, shM)) (I : (Nat → Nat → Int32)) (a1 : Int32), P_X7_isClean_39 k2 I a1 = some q0 → qc_J F 0 0 39 [some (.ref 0), some (.int a1)] [] (I, J, shM) := by
    intro k2 g2 I a1 hP
    unfold P_X7_isClean_39 at hP
    obtain ⟨x5, ex5, hP⟩ := qc_letE hP
    refine qj_iinc (v := x5) (ls1 := [some (.ref 0), some (.int x5)]) cx dX7_isClean_39 rfl (by rw [ex5]; rfl) rfl rfl ?_
    refine qj_goto (tgt := 2) cx dX7_isClean_42 (by decide) ?_
    exact g2 I x5 hP
  have L2 : ∀  (f : Nat) (I : (Nat → Nat → Int32)) (a1 : Int32), P_X7_isClean_2 f I a1 = some q0 → qc_J F 0 0 2 [some (.ref 0), some (.int a1)] [] (I, J, shM) := by
    intro  f
    induction f with
    | zero => intro I a1 hP; cases hP
    | succ f ih =>
      intro I a1 hP
      rw [P_X7_isClean_2] at hP
      refine qj_iload_n cx dX7_isClean_2 rfl rfl ?_
      refine qj_aload_n cx dX7_isClean_3 rfl rfl ?_
      obtain ⟨q6, eq6, hP⟩ := Option.bind_eq_some_iff.mp hP
      refine qj_callV (As := []) (st := [.int a1]) (t := 0) (h' := (I, J, shM)) (r := some (.int q6)) cx dX7_isClean_4 (c_X7_users (I := I) (J := J)  eq6) gc_RX7_232 qm_X7_users rfl rfl qc_cl7 rfl (Nat.le_of_ble_eq_true rfl) (by decide) (by decide) rfl (Nat.le_of_ble_eq_true rfl) (Nat.le_of_ble_eq_true rfl) hn0 rfl ?_
      refine qj_icmp_ge (tgt := 45) cx dX7_isClean_7 (by decide) (fun c7 => ?_) (fun c7 => ?_)
      · have hP := qc_ifT hP c7
        refine qj_aload_n cx dX7_isClean_45 rfl rfl ?_
        obtain ⟨q8, eq8, hP⟩ := Option.bind_eq_some_iff.mp hP
        refine qj_callV (As := []) (st := []) (t := 0) (h' := (q8, J, shM)) (r := none) cx dX7_isClean_46 (c_X7_laysProducts (I := I) (J := J)  eq8) gc_RX7_326 qm_X7_laysProducts rfl rfl qc_cl7 rfl (Nat.le_of_ble_eq_true rfl) (by decide) (by decide) rfl (Nat.le_of_ble_eq_true rfl) (Nat.le_of_ble_eq_true rfl) hn0 rfl ?_
        refine qj_iconst (v := (0 : Int32)) cx dX7_isClean_49 (by decide) ?_
        refine qj_istore_n (ls1 := [some (.ref 0), some (.int (0 : Int32))]) cx dX7_isClean_50 rfl rfl rfl rfl ?_
        exact L51 qc_fu q8 (0 : Int32) hP
      · have hP := qc_ifF hP c7
        refine qj_aload_n cx dX7_isClean_10 rfl rfl ?_
        refine qw_getR (j := 25) (t1 := 13) cx dX7_isClean_11 qc_cl7 rfl (Nat.le_of_ble_eq_true rfl) rfl ww_1117 rfl ?_
        refine qj_iconst (v := (0 : Int32)) cx dX7_isClean_14 (by decide) ?_
        refine qj_iload_n cx dX7_isClean_15 rfl rfl ?_
        refine qj_iadd cx dX7_isClean_16 ?_
        obtain ⟨c9, hP⟩ := qc_ck hP
        refine qw_iald cx dX7_isClean_17 rfl (Nat.le_of_ble_eq_true rfl) rfl c9 ?_
        refine qj_if_le (tgt := 39) cx dX7_isClean_18 (by decide) (fun c10 => ?_) (fun c10 => ?_)
        · have hP := qc_ifT hP c10
          exact L39 (P_X7_isClean_2 f) ih I a1 hP
        · have hP := qc_ifF hP c10
          refine qj_aload_n cx dX7_isClean_21 rfl rfl ?_
          refine qj_iload_n cx dX7_isClean_22 rfl rfl ?_
          obtain ⟨q11, eq11, hP⟩ := Option.bind_eq_some_iff.mp hP
          refine qj_callV (As := [.int a1]) (st := []) (t := 0) (h' := (I, J, shM)) (r := some (.int q11)) cx dX7_isClean_23 (c_X7_isRight (I := I) (J := J)  eq11) gc_RX7_323 qm_X7_isRight rfl rfl qc_cl7 rfl (Nat.le_of_ble_eq_true rfl) (by decide) (by decide) rfl (Nat.le_of_ble_eq_true rfl) (Nat.le_of_ble_eq_true rfl) hn0 rfl ?_
          refine qj_if_eq (tgt := 37) cx dX7_isClean_26 (by decide) (fun c12 => ?_) (fun c12 => ?_)
          · have hP := qc_ifT hP c12
            refine qj_iconst (v := (0 : Int32)) cx dX7_isClean_37 (by decide) ?_
            exact qw_zret cx hz dX7_isClean_38 (by decide) (Nat.zero_le _) (Nat.zero_le _) (congrArg (fun q => q.1) (Option.some.inj hP)) (congrArg (fun q => q.2) (Option.some.inj hP)) rfl
          · have hP := qc_ifF hP c12
            refine qj_aload_n cx dX7_isClean_29 rfl rfl ?_
            refine qj_iload_n cx dX7_isClean_30 rfl rfl ?_
            obtain ⟨q13, eq13, hP⟩ := Option.bind_eq_some_iff.mp hP
            refine qj_callV (As := [.int a1]) (st := []) (t := 0) (h' := (I, J, shM)) (r := some (.int q13)) cx dX7_isClean_31 (c_X7_crowdsOf (I := I) (J := J)  eq13) gc_RX7_317 qm_X7_crowdsOf rfl rfl qc_cl7 rfl (Nat.le_of_ble_eq_true rfl) (by decide) (by decide) rfl (Nat.le_of_ble_eq_true rfl) (Nat.le_of_ble_eq_true rfl) hn0 rfl ?_
            refine qj_if_eq (tgt := 39) cx dX7_isClean_34 (by decide) (fun c14 => ?_) (fun c14 => ?_)
            · have hP := qc_ifT hP c14
              exact L39 (P_X7_isClean_2 f) ih I a1 hP
            · have hP := qc_ifF hP c14
              refine qj_iconst (v := (0 : Int32)) cx dX7_isClean_37 (by decide) ?_
              exact qw_zret cx hz dX7_isClean_38 (by decide) (Nat.zero_le _) (Nat.zero_le _) (congrArg (fun q => q.1) (Option.some.inj hP)) (congrArg (fun q => q.2) (Option.some.inj hP)) rfl
  show qc_J F 0 0 0 [some (.ref 0), none] [] (I, J, shM)
  unfold P_X7_isClean at hP
  refine qj_iconst (v := (0 : Int32)) cx dX7_isClean_0 (by decide) ?_
  refine qj_istore_n (ls1 := [some (.ref 0), some (.int (0 : Int32))]) cx dX7_isClean_1 rfl rfl rfl rfl ?_
  exact L2 qc_fu I (0 : Int32) hP
def P_X7_nextFit_33  : Nat → (Nat → Nat → Int32) → Int32 → Int32 → Option (Int32 × (Nat → Nat → Int32))
  | 0, _, _, _ => none
  | f + 1, I, a1, a3 =>
  (P_X7_highOf I a1).bind fun q1 =>
  if q1 < a3 then
  some ((0 : Int32), I)
  else
  if I 0 42 = (600 : Int32) then
  some ((-3 : Int32), I)
  else
  qc_let (qc_u2 I 0 42 ((I 0 42) + (1 : Int32))) fun I4 =>
  if qc_in ((0 : Int32) + a1) 79 then
  qc_let (qc_u2 I4 13 ((0 : Int32) + a1).toNatClampNeg a3) fun I5 =>
  (P_X7_isClean I5).bind fun q6 =>
  if q6.1 = 0 then
  qc_let (a3 + (1 : Int32)) fun x8 =>
  P_X7_nextFit_33 f q6.2 a1 x8
  else
  some (a3, q6.2)
  else none
def P_X7_nextFit (I : Nat → Nat → Int32) (a : Int32) : Option (Int32 × (Nat → Nat → Int32)) :=
  if qc_in ((0 : Int32) + a) 79 then
  (if I 13 ((0 : Int32) + a).toNatClampNeg = 0 then
  if qc_in a 12 then
  some (I 7 a.toNatClampNeg)
  else none
  else
  if qc_in ((0 : Int32) + a) 79 then
  some ((I 13 ((0 : Int32) + a).toNatClampNeg) + (1 : Int32))
  else none).bind fun v12 =>
  P_X7_nextFit_33 qc_fu I a v12
  else none
set_option maxRecDepth 20000 in
theorem c_X7_nextFit {I : Nat → Nat → Int32} {J : Nat → Nat → Int64}  {a : Int32} {q0 : Int32 × (Nat → Nat → Int32)} (hP : P_X7_nextFit I a = some q0) : ∀ l, qc_M l yX7_nextFit cX7_nextFit 4 (some .int) 5 117 0 0 [.ref 0, .int a] (I, J, shM) (some (.int q0.1)) (q0.2, J, shM) := by
  intro l
  refine qc_ent2 (by decide) (Nat.le_of_ble_eq_true rfl) ?_
  intro F hn0 cx hz
  have cx : qc_X F cX7_nextFit RX7 "nextFit" 5 0 0 117 := cx
  have L33 : ∀  (f : Nat) (I : (Nat → Nat → Int32)) (a1 : Int32) (a3 : Int32), P_X7_nextFit_33 f I a1 a3 = some q0 → qc_J F 0 0 33 [some (.ref 0), some (.int a1), none, some (.int a3)] [] (I, J, shM) := by
    intro  f
    induction f with
    | zero => intro I a1 a3 hP; cases hP
    | succ f ih =>
      intro I a1 a3 hP
      rw [P_X7_nextFit_33] at hP
      refine qj_iload_n cx dX7_nextFit_33 rfl rfl ?_
      refine qj_aload_n cx dX7_nextFit_34 rfl rfl ?_
      refine qj_iload_n cx dX7_nextFit_35 rfl rfl ?_
      obtain ⟨q1, eq1, hP⟩ := Option.bind_eq_some_iff.mp hP
      refine qj_callV (As := [.int a1]) (st := [.int a3]) (t := 0) (h' := (I, J, shM)) (r := some (.int q1)) cx dX7_nextFit_36 (c_X7_highOf (I := I) (J := J)  eq1) gc_RX7_320 qm_X7_highOf rfl rfl qc_cl7 rfl (Nat.le_of_ble_eq_true rfl) (by decide) (by decide) rfl (Nat.le_of_ble_eq_true rfl) (Nat.le_of_ble_eq_true rfl) hn0 rfl ?_
      refine qj_icmp_gt (tgt := 89) cx dX7_nextFit_39 (by decide) (fun c2 => ?_) (fun c2 => ?_)
      · have hP := qc_ifT hP c2
        refine qj_iconst (v := (0 : Int32)) cx dX7_nextFit_89 (by decide) ?_
        exact qw_iret cx hz dX7_nextFit_90 (Nat.zero_le _) (Nat.zero_le _) (congrArg (fun q => q.1) (Option.some.inj hP)) (congrArg (fun q => q.2) (Option.some.inj hP)) rfl
      · have hP := qc_ifF hP c2
        refine qj_aload_n cx dX7_nextFit_42 rfl rfl ?_
        refine qw_getI (j := 42) cx dX7_nextFit_43 qc_cl7 rfl (Nat.le_of_ble_eq_true rfl) rfl ww_1134 ?_
        refine qj_sipush (v := (600 : Int32)) cx dX7_nextFit_46 (by decide) ?_
        refine qj_icmp_ne (tgt := 55) cx dX7_nextFit_49 (by decide) (fun c3 => ?_) (fun c3 => ?_)
        · have hP := qc_ifF hP c3
          refine qj_aload_n cx dX7_nextFit_55 rfl rfl ?_
          refine qj_dup cx dX7_nextFit_56 rfl ?_
          refine qw_getI (j := 42) cx dX7_nextFit_57 qc_cl7 rfl (Nat.le_of_ble_eq_true rfl) rfl ww_1134 ?_
          refine qj_iconst (v := (1 : Int32)) cx dX7_nextFit_60 (by decide) ?_
          refine qj_iadd cx dX7_nextFit_61 ?_
          obtain ⟨I4, eI4, hP⟩ := qc_letE hP
          refine qw_putI (j := 42) cx dX7_nextFit_62 qc_cl7 rfl (Nat.le_of_ble_eq_true rfl) rfl ww_1134 rfl rfl rfl eI4 ?_
          refine qj_aload_n cx dX7_nextFit_65 rfl rfl ?_
          refine qw_getR (j := 25) (t1 := 13) cx dX7_nextFit_66 qc_cl7 rfl (Nat.le_of_ble_eq_true rfl) rfl ww_1117 rfl ?_
          refine qj_iconst (v := (0 : Int32)) cx dX7_nextFit_69 (by decide) ?_
          refine qj_iload_n cx dX7_nextFit_70 rfl rfl ?_
          refine qj_iadd cx dX7_nextFit_71 ?_
          refine qj_iload_n cx dX7_nextFit_72 rfl rfl ?_
          obtain ⟨c9, hP⟩ := qc_ck hP
          obtain ⟨I5, eI5, hP⟩ := qc_letE hP
          refine qw_iast cx dX7_nextFit_73 rfl (Nat.le_of_ble_eq_true rfl) rfl c9 eI5 ?_
          refine qj_aload_n cx dX7_nextFit_74 rfl rfl ?_
          obtain ⟨q6, eq6, hP⟩ := Option.bind_eq_some_iff.mp hP
          refine qj_callV (As := []) (st := []) (t := 0) (h' := (q6.2, J, shM)) (r := some (.int q6.1)) cx dX7_nextFit_75 (c_X7_isClean (I := I5) (J := J)  eq6) gc_RX7_332 qm_X7_isClean rfl rfl qc_cl7 rfl (Nat.le_of_ble_eq_true rfl) (by decide) (by decide) rfl (Nat.le_of_ble_eq_true rfl) (Nat.le_of_ble_eq_true rfl) hn0 rfl ?_
          refine qj_if_eq (tgt := 83) cx dX7_nextFit_78 (by decide) (fun c7 => ?_) (fun c7 => ?_)
          · have hP := qc_ifT hP c7
            obtain ⟨x8, ex8, hP⟩ := qc_letE hP
            refine qj_iinc (v := x8) (ls1 := [some (.ref 0), some (.int a1), none, some (.int x8)]) cx dX7_nextFit_83 rfl (by rw [ex8]; rfl) rfl rfl ?_
            refine qj_goto (tgt := 33) cx dX7_nextFit_86 (by decide) ?_
            exact ih q6.2 a1 x8 hP
          · have hP := qc_ifF hP c7
            refine qj_iload_n cx dX7_nextFit_81 rfl rfl ?_
            exact qw_iret cx hz dX7_nextFit_82 (Nat.zero_le _) (Nat.zero_le _) (congrArg (fun q => q.1) (Option.some.inj hP)) (congrArg (fun q => q.2) (Option.some.inj hP)) rfl
        · have hP := qc_ifT hP c3
          refine qj_bipush (v := (-3 : Int32)) cx dX7_nextFit_52 (by decide) ?_
          exact qw_iret cx hz dX7_nextFit_54 (Nat.zero_le _) (Nat.zero_le _) (congrArg (fun q => q.1) (Option.some.inj hP)) (congrArg (fun q => q.2) (Option.some.inj hP)) rfl
  show qc_J F 0 0 0 [some (.ref 0), some (.int a), none, none] [] (I, J, shM)
  unfold P_X7_nextFit at hP
  refine qj_aload_n cx dX7_nextFit_0 rfl rfl ?_
  refine qw_getR (j := 25) (t1 := 13) cx dX7_nextFit_1 qc_cl7 rfl (Nat.le_of_ble_eq_true rfl) rfl ww_1117 rfl ?_
  refine qj_iconst (v := (0 : Int32)) cx dX7_nextFit_4 (by decide) ?_
  refine qj_iload_n cx dX7_nextFit_5 rfl rfl ?_
  refine qj_iadd cx dX7_nextFit_6 ?_
  obtain ⟨c10, hP⟩ := qc_ck hP
  refine qw_iald cx dX7_nextFit_7 rfl (Nat.le_of_ble_eq_true rfl) rfl c10 ?_
  obtain ⟨v12, hv12, hP⟩ := Option.bind_eq_some_iff.mp hP
  have Kv12 : qc_J F 0 0 30 [some (.ref 0), some (.int a), none, none] [.int v12] (I, J, shM) := by
    refine qj_istore_n (ls1 := [some (.ref 0), some (.int a), some (.int v12), none]) cx dX7_nextFit_30 rfl rfl rfl rfl ?_
    refine qj_iload_n cx dX7_nextFit_31 rfl rfl ?_
    refine qj_istore_n (ls1 := [some (.ref 0), some (.int a), some (.int v12), some (.int v12)]) cx dX7_nextFit_32 rfl rfl rfl rfl ?_
    refine qw_sub (ls1 := [some (.ref 0), some (.int a), none, some (.int v12)]) rfl (qc_sb_ok ⟨rfl, rfl, rfl, trivial⟩) ?_
    exact L33 qc_fu I a v12 hP
  refine qj_if_ne (tgt := 20) cx dX7_nextFit_8 (by decide) (fun c11 => ?_) (fun c11 => ?_)
  · have hv12 := qc_ifF hv12 c11
    refine qj_aload_n cx dX7_nextFit_20 rfl rfl ?_
    refine qw_getR (j := 25) (t1 := 13) cx dX7_nextFit_21 qc_cl7 rfl (Nat.le_of_ble_eq_true rfl) rfl ww_1117 rfl ?_
    refine qj_iconst (v := (0 : Int32)) cx dX7_nextFit_24 (by decide) ?_
    refine qj_iload_n cx dX7_nextFit_25 rfl rfl ?_
    refine qj_iadd cx dX7_nextFit_26 ?_
    obtain ⟨c13, hv12⟩ := qc_ck hv12
    refine qw_iald cx dX7_nextFit_27 rfl (Nat.le_of_ble_eq_true rfl) rfl c13 ?_
    refine qj_iconst (v := (1 : Int32)) cx dX7_nextFit_28 (by decide) ?_
    refine qj_iadd cx dX7_nextFit_29 ?_
    exact qw_top (Option.some.inj hv12).symm Kv12
  · have hv12 := qc_ifT hv12 c11
    refine qj_aload_n cx dX7_nextFit_11 rfl rfl ?_
    refine qw_getR (j := 8) (t1 := 7) cx dX7_nextFit_12 qc_cl7 rfl (Nat.le_of_ble_eq_true rfl) rfl ww_1100 rfl ?_
    refine qj_iload_n cx dX7_nextFit_15 rfl rfl ?_
    obtain ⟨c14, hv12⟩ := qc_ck hv12
    refine qw_iald cx dX7_nextFit_16 rfl (Nat.le_of_ble_eq_true rfl) rfl c14 ?_
    refine qj_goto (tgt := 30) cx dX7_nextFit_17 (by decide) ?_
    exact qw_top (Option.some.inj hv12).symm Kv12
def P_X7_products (I : Nat → Nat → Int32) (a : Int32) : Option (Int32 × (Nat → Nat → Int32)) :=
  qc_let (qc_u2 I 0 0 (0 : Int32)) fun I1 =>
  (P_X7_laysProducts I1).bind fun q2 =>
  if a = (0 : Int32) then
  some (q2 0 41, q2)
  else if a = (1 : Int32) then
  (P_X7_heard q2).bind fun q5 =>
  some (q5, q2)
  else if a = (2 : Int32) then
  (P_X7_allHits q2).bind fun q7 =>
  some (q7, q2)
  else if a = (3 : Int32) then
  (P_X7_allCrowds q2).bind fun q9 =>
  some (q9, q2)
  else 
  some ((-1 : Int32), q2)
set_option maxRecDepth 20000 in
theorem c_X7_products {I : Nat → Nat → Int32} {J : Nat → Nat → Int64}  {a : Int32} {q0 : Int32 × (Nat → Nat → Int32)} (hP : P_X7_products I a = some q0) : ∀ l, qc_M l yX7_products cX7_products 2 (some .int) 5 113 0 0 [.ref 0, .int a] (I, J, shM) (some (.int q0.1)) (q0.2, J, shM) := by
  intro l
  refine qc_ent2 (by decide) (Nat.le_of_ble_eq_true rfl) ?_
  intro F hn0 cx hz
  have cx : qc_X F cX7_products RX7 "products" 5 0 0 113 := cx
  show qc_J F 0 0 0 [some (.ref 0), some (.int a)] [] (I, J, shM)
  unfold P_X7_products at hP
  refine qj_aload_n cx dX7_products_0 rfl rfl ?_
  refine qj_iconst (v := (0 : Int32)) cx dX7_products_1 (by decide) ?_
  obtain ⟨I1, eI1, hP⟩ := qc_letE hP
  refine qw_putI (j := 0) cx dX7_products_2 qc_cl7 rfl (Nat.le_of_ble_eq_true rfl) rfl ww_1092 rfl rfl rfl eI1 ?_
  refine qj_aload_n cx dX7_products_5 rfl rfl ?_
  obtain ⟨q2, eq2, hP⟩ := Option.bind_eq_some_iff.mp hP
  refine qj_callV (As := []) (st := []) (t := 0) (h' := (q2, J, shM)) (r := none) cx dX7_products_6 (c_X7_laysProducts (I := I1) (J := J)  eq2) gc_RX7_326 qm_X7_laysProducts rfl rfl qc_cl7 rfl (Nat.le_of_ble_eq_true rfl) (by decide) (by decide) rfl (Nat.le_of_ble_eq_true rfl) (Nat.le_of_ble_eq_true rfl) hn0 rfl ?_
  refine qj_iload_n cx dX7_products_9 rfl rfl ?_
  by_cases c3 : a = (0 : Int32)
  · have hP := qc_ifT hP c3
    refine qj_tableIn (off := 30) (tgt := 40) cx dX7_products_10 (by rw [c3]; decide) (by rw [c3]; decide) (by rw [c3]; rfl) (by decide) ?_
    refine qj_aload_n cx dX7_products_40 rfl rfl ?_
    refine qw_getI (j := 41) cx dX7_products_41 qc_cl7 rfl (Nat.le_of_ble_eq_true rfl) rfl ww_1133 ?_
    exact qw_iret cx hz dX7_products_44 (Nat.zero_le _) (Nat.zero_le _) (congrArg (fun q => q.1) (Option.some.inj hP)) (congrArg (fun q => q.2) (Option.some.inj hP)) rfl
  have hP := qc_ifF hP c3
  by_cases c4 : a = (1 : Int32)
  · have hP := qc_ifT hP c4
    refine qj_tableIn (off := 35) (tgt := 45) cx dX7_products_10 (by rw [c4]; decide) (by rw [c4]; decide) (by rw [c4]; rfl) (by decide) ?_
    refine qj_aload_n cx dX7_products_45 rfl rfl ?_
    obtain ⟨q5, eq5, hP⟩ := Option.bind_eq_some_iff.mp hP
    refine qj_callV (As := []) (st := []) (t := 0) (h' := (q2, J, shM)) (r := some (.int q5)) cx dX7_products_46 (c_X7_heard (I := q2) (J := J)  eq5) gc_RX7_378 qm_X7_heard rfl rfl qc_cl7 rfl (Nat.le_of_ble_eq_true rfl) (by decide) (by decide) rfl (Nat.le_of_ble_eq_true rfl) (Nat.le_of_ble_eq_true rfl) hn0 rfl ?_
    exact qw_iret cx hz dX7_products_49 (Nat.zero_le _) (Nat.zero_le _) (congrArg (fun q => q.1) (Option.some.inj hP)) (congrArg (fun q => q.2) (Option.some.inj hP)) rfl
  have hP := qc_ifF hP c4
  by_cases c6 : a = (2 : Int32)
  · have hP := qc_ifT hP c6
    refine qj_tableIn (off := 40) (tgt := 50) cx dX7_products_10 (by rw [c6]; decide) (by rw [c6]; decide) (by rw [c6]; rfl) (by decide) ?_
    refine qj_aload_n cx dX7_products_50 rfl rfl ?_
    obtain ⟨q7, eq7, hP⟩ := Option.bind_eq_some_iff.mp hP
    refine qj_callV (As := []) (st := []) (t := 0) (h' := (q2, J, shM)) (r := some (.int q7)) cx dX7_products_51 (c_X7_allHits (I := q2) (J := J)  eq7) gc_RX7_381 qm_X7_allHits rfl rfl qc_cl7 rfl (Nat.le_of_ble_eq_true rfl) (by decide) (by decide) rfl (Nat.le_of_ble_eq_true rfl) (Nat.le_of_ble_eq_true rfl) hn0 rfl ?_
    exact qw_iret cx hz dX7_products_54 (Nat.zero_le _) (Nat.zero_le _) (congrArg (fun q => q.1) (Option.some.inj hP)) (congrArg (fun q => q.2) (Option.some.inj hP)) rfl
  have hP := qc_ifF hP c6
  by_cases c8 : a = (3 : Int32)
  · have hP := qc_ifT hP c8
    refine qj_tableIn (off := 45) (tgt := 55) cx dX7_products_10 (by rw [c8]; decide) (by rw [c8]; decide) (by rw [c8]; rfl) (by decide) ?_
    refine qj_aload_n cx dX7_products_55 rfl rfl ?_
    obtain ⟨q9, eq9, hP⟩ := Option.bind_eq_some_iff.mp hP
    refine qj_callV (As := []) (st := []) (t := 0) (h' := (q2, J, shM)) (r := some (.int q9)) cx dX7_products_56 (c_X7_allCrowds (I := q2) (J := J)  eq9) gc_RX7_384 qm_X7_allCrowds rfl rfl qc_cl7 rfl (Nat.le_of_ble_eq_true rfl) (by decide) (by decide) rfl (Nat.le_of_ble_eq_true rfl) (Nat.le_of_ble_eq_true rfl) hn0 rfl ?_
    exact qw_iret cx hz dX7_products_59 (Nat.zero_le _) (Nat.zero_le _) (congrArg (fun q => q.1) (Option.some.inj hP)) (congrArg (fun q => q.2) (Option.some.inj hP)) rfl
  have hP := qc_ifF hP c8
  refine qj_tableOut (tgt := 60) cx dX7_products_10 (by have := lv_neT (a := 0) c3 (by decide); have := lv_neT (a := 1) c4 (by decide); have := lv_neT (a := 2) c6 (by decide); have := lv_neT (a := 3) c8 (by decide); omega) (by decide) ?_
  refine qj_iconst (v := (-1 : Int32)) cx dX7_products_60 (by decide) ?_
  exact qw_iret cx hz dX7_products_61 (Nat.zero_le _) (Nat.zero_le _) (congrArg (fun q => q.1) (Option.some.inj hP)) (congrArg (fun q => q.2) (Option.some.inj hP)) rfl
def P_X7_product (I : Nat → Nat → Int32) (a : Int32) (b : Int32) : Option (Int32 × (Nat → Nat → Int32)) :=
  qc_let (qc_u2 I 0 0 (0 : Int32)) fun I1 =>
  (P_X7_laysProducts I1).bind fun q2 =>
  if a < 0 then
  some ((-1000 : Int32), q2)
  else
  if a < q2 0 41 then
  (if b = (0 : Int32) then
  (if qc_in a 300 then
  some (q2 16 a.toNatClampNeg, q2)
  else none)
  else if b = (1 : Int32) then
  (if qc_in a 300 then
  some (q2 17 a.toNatClampNeg, q2)
  else none)
  else if b = (2 : Int32) then
  (if qc_in a 300 then
  some (q2 18 a.toNatClampNeg, q2)
  else none)
  else if b = (3 : Int32) then
  (if qc_in a 300 then
  some (q2 19 a.toNatClampNeg, q2)
  else none)
  else if b = (4 : Int32) then
  (if qc_in a 300 then
  some (q2 20 a.toNatClampNeg, q2)
  else none)
  else if b = (5 : Int32) then
  (if qc_in a 300 then
  some (q2 21 a.toNatClampNeg, q2)
  else none)
  else if b = (6 : Int32) then
  (P_X7_hitsOf q2 a).bind fun q18 =>
  some (q18, q2)
  else 
  some ((-1000 : Int32), q2))
  else
  some ((-1000 : Int32), q2)
set_option maxRecDepth 20000 in
theorem c_X7_product {I : Nat → Nat → Int32} {J : Nat → Nat → Int64}  {a : Int32} {b : Int32} {q0 : Int32 × (Nat → Nat → Int32)} (hP : P_X7_product I a b = some q0) : ∀ l, qc_M l yX7_product cX7_product 3 (some .int) 4 96 0 0 [.ref 0, .int a, .int b] (I, J, shM) (some (.int q0.1)) (q0.2, J, shM) := by
  intro l
  refine qc_ent2 (by decide) (Nat.le_of_ble_eq_true rfl) ?_
  intro F hn0 cx hz
  have cx : qc_X F cX7_product RX7 "product" 4 0 0 96 := cx
  show qc_J F 0 0 0 [some (.ref 0), some (.int a), some (.int b)] [] (I, J, shM)
  unfold P_X7_product at hP
  refine qj_aload_n cx dX7_product_0 rfl rfl ?_
  refine qj_iconst (v := (0 : Int32)) cx dX7_product_1 (by decide) ?_
  obtain ⟨I1, eI1, hP⟩ := qc_letE hP
  refine qw_putI (j := 0) cx dX7_product_2 qc_cl7 rfl (Nat.le_of_ble_eq_true rfl) rfl ww_1092 rfl rfl rfl eI1 ?_
  refine qj_aload_n cx dX7_product_5 rfl rfl ?_
  obtain ⟨q2, eq2, hP⟩ := Option.bind_eq_some_iff.mp hP
  refine qj_callV (As := []) (st := []) (t := 0) (h' := (q2, J, shM)) (r := none) cx dX7_product_6 (c_X7_laysProducts (I := I1) (J := J)  eq2) gc_RX7_326 qm_X7_laysProducts rfl rfl qc_cl7 rfl (Nat.le_of_ble_eq_true rfl) (by decide) (by decide) rfl (Nat.le_of_ble_eq_true rfl) (Nat.le_of_ble_eq_true rfl) hn0 rfl ?_
  refine qj_iload_n cx dX7_product_9 rfl rfl ?_
  refine qj_if_lt (tgt := 21) cx dX7_product_10 (by decide) (fun c3 => ?_) (fun c3 => ?_)
  · have hP := qc_ifT hP c3
    refine qj_sipush (v := (-1000 : Int32)) cx dX7_product_21 (by decide) ?_
    exact qw_iret cx hz dX7_product_24 (Nat.zero_le _) (Nat.zero_le _) (congrArg (fun q => q.1) (Option.some.inj hP)) (congrArg (fun q => q.2) (Option.some.inj hP)) rfl
  · have hP := qc_ifF hP c3
    refine qj_iload_n cx dX7_product_13 rfl rfl ?_
    refine qj_aload_n cx dX7_product_14 rfl rfl ?_
    refine qw_getI (j := 41) cx dX7_product_15 qc_cl7 rfl (Nat.le_of_ble_eq_true rfl) rfl ww_1133 ?_
    refine qj_icmp_lt (tgt := 25) cx dX7_product_18 (by decide) (fun c4 => ?_) (fun c4 => ?_)
    · have hP := qc_ifT hP c4
      refine qj_iload_n cx dX7_product_25 rfl rfl ?_
      by_cases c5 : b = (0 : Int32)
      · have hP := qc_ifT hP c5
        refine qj_tableIn (off := 42) (tgt := 68) cx dX7_product_26 (by rw [c5]; decide) (by rw [c5]; decide) (by rw [c5]; rfl) (by decide) ?_
        refine qj_aload_n cx dX7_product_68 rfl rfl ?_
        refine qw_getR (j := 34) (t1 := 16) cx dX7_product_69 qc_cl7 rfl (Nat.le_of_ble_eq_true rfl) rfl ww_1126 rfl ?_
        refine qj_iload_n cx dX7_product_72 rfl rfl ?_
        obtain ⟨c6, hP⟩ := qc_ck hP
        refine qw_iald cx dX7_product_73 rfl (Nat.le_of_ble_eq_true rfl) rfl c6 ?_
        exact qw_iret cx hz dX7_product_74 (Nat.zero_le _) (Nat.zero_le _) (congrArg (fun q => q.1) (Option.some.inj hP)) (congrArg (fun q => q.2) (Option.some.inj hP)) rfl
      have hP := qc_ifF hP c5
      by_cases c7 : b = (1 : Int32)
      · have hP := qc_ifT hP c7
        refine qj_tableIn (off := 49) (tgt := 75) cx dX7_product_26 (by rw [c7]; decide) (by rw [c7]; decide) (by rw [c7]; rfl) (by decide) ?_
        refine qj_aload_n cx dX7_product_75 rfl rfl ?_
        refine qw_getR (j := 35) (t1 := 17) cx dX7_product_76 qc_cl7 rfl (Nat.le_of_ble_eq_true rfl) rfl ww_1127 rfl ?_
        refine qj_iload_n cx dX7_product_79 rfl rfl ?_
        obtain ⟨c8, hP⟩ := qc_ck hP
        refine qw_iald cx dX7_product_80 rfl (Nat.le_of_ble_eq_true rfl) rfl c8 ?_
        exact qw_iret cx hz dX7_product_81 (Nat.zero_le _) (Nat.zero_le _) (congrArg (fun q => q.1) (Option.some.inj hP)) (congrArg (fun q => q.2) (Option.some.inj hP)) rfl
      have hP := qc_ifF hP c7
      by_cases c9 : b = (2 : Int32)
      · have hP := qc_ifT hP c9
        refine qj_tableIn (off := 56) (tgt := 82) cx dX7_product_26 (by rw [c9]; decide) (by rw [c9]; decide) (by rw [c9]; rfl) (by decide) ?_
        refine qj_aload_n cx dX7_product_82 rfl rfl ?_
        refine qw_getR (j := 36) (t1 := 18) cx dX7_product_83 qc_cl7 rfl (Nat.le_of_ble_eq_true rfl) rfl ww_1128 rfl ?_
        refine qj_iload_n cx dX7_product_86 rfl rfl ?_
        obtain ⟨c10, hP⟩ := qc_ck hP
        refine qw_iald cx dX7_product_87 rfl (Nat.le_of_ble_eq_true rfl) rfl c10 ?_
        exact qw_iret cx hz dX7_product_88 (Nat.zero_le _) (Nat.zero_le _) (congrArg (fun q => q.1) (Option.some.inj hP)) (congrArg (fun q => q.2) (Option.some.inj hP)) rfl
      have hP := qc_ifF hP c9
      by_cases c11 : b = (3 : Int32)
      · have hP := qc_ifT hP c11
        refine qj_tableIn (off := 63) (tgt := 89) cx dX7_product_26 (by rw [c11]; decide) (by rw [c11]; decide) (by rw [c11]; rfl) (by decide) ?_
        refine qj_aload_n cx dX7_product_89 rfl rfl ?_
        refine qw_getR (j := 37) (t1 := 19) cx dX7_product_90 qc_cl7 rfl (Nat.le_of_ble_eq_true rfl) rfl ww_1129 rfl ?_
        refine qj_iload_n cx dX7_product_93 rfl rfl ?_
        obtain ⟨c12, hP⟩ := qc_ck hP
        refine qw_iald cx dX7_product_94 rfl (Nat.le_of_ble_eq_true rfl) rfl c12 ?_
        exact qw_iret cx hz dX7_product_95 (Nat.zero_le _) (Nat.zero_le _) (congrArg (fun q => q.1) (Option.some.inj hP)) (congrArg (fun q => q.2) (Option.some.inj hP)) rfl
      have hP := qc_ifF hP c11
      by_cases c13 : b = (4 : Int32)
      · have hP := qc_ifT hP c13
        refine qj_tableIn (off := 70) (tgt := 96) cx dX7_product_26 (by rw [c13]; decide) (by rw [c13]; decide) (by rw [c13]; rfl) (by decide) ?_
        refine qj_aload_n cx dX7_product_96 rfl rfl ?_
        refine qw_getR (j := 38) (t1 := 20) cx dX7_product_97 qc_cl7 rfl (Nat.le_of_ble_eq_true rfl) rfl ww_1130 rfl ?_
        refine qj_iload_n cx dX7_product_100 rfl rfl ?_
        obtain ⟨c14, hP⟩ := qc_ck hP
        refine qw_iald cx dX7_product_101 rfl (Nat.le_of_ble_eq_true rfl) rfl c14 ?_
        exact qw_iret cx hz dX7_product_102 (Nat.zero_le _) (Nat.zero_le _) (congrArg (fun q => q.1) (Option.some.inj hP)) (congrArg (fun q => q.2) (Option.some.inj hP)) rfl
      have hP := qc_ifF hP c13
      by_cases c15 : b = (5 : Int32)
      · have hP := qc_ifT hP c15
        refine qj_tableIn (off := 77) (tgt := 103) cx dX7_product_26 (by rw [c15]; decide) (by rw [c15]; decide) (by rw [c15]; rfl) (by decide) ?_
        refine qj_aload_n cx dX7_product_103 rfl rfl ?_
        refine qw_getR (j := 39) (t1 := 21) cx dX7_product_104 qc_cl7 rfl (Nat.le_of_ble_eq_true rfl) rfl ww_1131 rfl ?_
        refine qj_iload_n cx dX7_product_107 rfl rfl ?_
        obtain ⟨c16, hP⟩ := qc_ck hP
        refine qw_iald cx dX7_product_108 rfl (Nat.le_of_ble_eq_true rfl) rfl c16 ?_
        exact qw_iret cx hz dX7_product_109 (Nat.zero_le _) (Nat.zero_le _) (congrArg (fun q => q.1) (Option.some.inj hP)) (congrArg (fun q => q.2) (Option.some.inj hP)) rfl
      have hP := qc_ifF hP c15
      by_cases c17 : b = (6 : Int32)
      · have hP := qc_ifT hP c17
        refine qj_tableIn (off := 84) (tgt := 110) cx dX7_product_26 (by rw [c17]; decide) (by rw [c17]; decide) (by rw [c17]; rfl) (by decide) ?_
        refine qj_aload_n cx dX7_product_110 rfl rfl ?_
        refine qj_iload_n cx dX7_product_111 rfl rfl ?_
        obtain ⟨q18, eq18, hP⟩ := Option.bind_eq_some_iff.mp hP
        refine qj_callV (As := [.int a]) (st := []) (t := 0) (h' := (q2, J, shM)) (r := some (.int q18)) cx dX7_product_112 (c_X7_hitsOf (I := q2) (J := J)  eq18) gc_RX7_308 qm_X7_hitsOf rfl rfl qc_cl7 rfl (Nat.le_of_ble_eq_true rfl) (by decide) (by decide) rfl (Nat.le_of_ble_eq_true rfl) (Nat.le_of_ble_eq_true rfl) hn0 rfl ?_
        exact qw_iret cx hz dX7_product_115 (Nat.zero_le _) (Nat.zero_le _) (congrArg (fun q => q.1) (Option.some.inj hP)) (congrArg (fun q => q.2) (Option.some.inj hP)) rfl
      have hP := qc_ifF hP c17
      refine qj_tableOut (tgt := 116) cx dX7_product_26 (by have := lv_neT (a := 0) c5 (by decide); have := lv_neT (a := 1) c7 (by decide); have := lv_neT (a := 2) c9 (by decide); have := lv_neT (a := 3) c11 (by decide); have := lv_neT (a := 4) c13 (by decide); have := lv_neT (a := 5) c15 (by decide); have := lv_neT (a := 6) c17 (by decide); omega) (by decide) ?_
      refine qj_sipush (v := (-1000 : Int32)) cx dX7_product_116 (by decide) ?_
      exact qw_iret cx hz dX7_product_119 (Nat.zero_le _) (Nat.zero_le _) (congrArg (fun q => q.1) (Option.some.inj hP)) (congrArg (fun q => q.2) (Option.some.inj hP)) rfl
    · have hP := qc_ifF hP c4
      refine qj_sipush (v := (-1000 : Int32)) cx dX7_product_21 (by decide) ?_
      exact qw_iret cx hz dX7_product_24 (Nat.zero_le _) (Nat.zero_le _) (congrArg (fun q => q.1) (Option.some.inj hP)) (congrArg (fun q => q.2) (Option.some.inj hP)) rfl
def P_X7_hits__37  : Nat → (Nat → Nat → Int32) → Int32 → Int32 → Int32 → Option (Int32 × (Nat → Nat → Int32))
  | 0, _, _, _, _ => none
  | f + 1, I, a1, a2, a3 =>
  if I 0 41 ≤ a3 then
  some (a2, I)
  else
  (P_X7_hits I a3 a1).bind fun q2 =>
  (if q2 = 0 then
  some (0 : Int32)
  else
  some (1 : Int32)).bind fun v4 =>
  qc_let (a2 + v4) fun x5 =>
  qc_let (a3 + (1 : Int32)) fun x6 =>
  P_X7_hits__37 f I a1 x5 x6
def P_X7_hits_ (I : Nat → Nat → Int32) (a : Int32) : Option (Int32 × (Nat → Nat → Int32)) :=
  qc_let (qc_u2 I 0 0 (0 : Int32)) fun I7 =>
  (P_X7_isUser I7 a).bind fun q8 =>
  if q8 = 0 then
  some ((-1 : Int32), I7)
  else
  if qc_in ((0 : Int32) + a) 79 then
  if I7 13 ((0 : Int32) + a).toNatClampNeg = 0 then
  some ((-2 : Int32), I7)
  else
  (P_X7_laysProducts I7).bind fun q12 =>
  P_X7_hits__37 qc_fu q12 a (0 : Int32) (0 : Int32)
  else none
set_option maxRecDepth 20000 in
theorem c_X7_hits_ {I : Nat → Nat → Int32} {J : Nat → Nat → Int64}  {a : Int32} {q0 : Int32 × (Nat → Nat → Int32)} (hP : P_X7_hits_ I a = some q0) : ∀ l, qc_M l yX7_hits_ cX7_hits_ 4 (some .int) 4 96 0 0 [.ref 0, .int a] (I, J, shM) (some (.int q0.1)) (q0.2, J, shM) := by
  intro l
  refine qc_ent2 (by decide) (Nat.le_of_ble_eq_true rfl) ?_
  intro F hn0 cx hz
  have cx : qc_X F cX7_hits_ RX7 "hits" 4 0 0 96 := cx
  have L37 : ∀  (f : Nat) (I : (Nat → Nat → Int32)) (a1 : Int32) (a2 : Int32) (a3 : Int32), P_X7_hits__37 f I a1 a2 a3 = some q0 → qc_J F 0 0 37 [some (.ref 0), some (.int a1), some (.int a2), some (.int a3)] [] (I, J, shM) := by
    intro  f
    induction f with
    | zero => intro I a1 a2 a3 hP; cases hP
    | succ f ih =>
      intro I a1 a2 a3 hP
      rw [P_X7_hits__37] at hP
      refine qj_iload_n cx dX7_hits__37 rfl rfl ?_
      refine qj_aload_n cx dX7_hits__38 rfl rfl ?_
      refine qw_getI (j := 41) cx dX7_hits__39 qc_cl7 rfl (Nat.le_of_ble_eq_true rfl) rfl ww_1133 ?_
      refine qj_icmp_ge (tgt := 68) cx dX7_hits__42 (by decide) (fun c1 => ?_) (fun c1 => ?_)
      · have hP := qc_ifT hP c1
        refine qj_iload_n cx dX7_hits__68 rfl rfl ?_
        exact qw_iret cx hz dX7_hits__69 (Nat.zero_le _) (Nat.zero_le _) (congrArg (fun q => q.1) (Option.some.inj hP)) (congrArg (fun q => q.2) (Option.some.inj hP)) rfl
      · have hP := qc_ifF hP c1
        refine qj_iload_n cx dX7_hits__45 rfl rfl ?_
        refine qj_aload_n cx dX7_hits__46 rfl rfl ?_
        refine qj_iload_n cx dX7_hits__47 rfl rfl ?_
        refine qj_iload_n cx dX7_hits__48 rfl rfl ?_
        obtain ⟨q2, eq2, hP⟩ := Option.bind_eq_some_iff.mp hP
        refine qj_callV (As := [.int a3, .int a1]) (st := [.int a2]) (t := 0) (h' := (I, J, shM)) (r := some (.int q2)) cx dX7_hits__49 (c_X7_hits (I := I) (J := J)  eq2) gc_RX7_305 qm_X7_hits rfl rfl qc_cl7 rfl (Nat.le_of_ble_eq_true rfl) (by decide) (by decide) rfl (Nat.le_of_ble_eq_true rfl) (Nat.le_of_ble_eq_true rfl) hn0 rfl ?_
        obtain ⟨v4, hv4, hP⟩ := Option.bind_eq_some_iff.mp hP
        have Kv4 : qc_J F 0 0 60 [some (.ref 0), some (.int a1), some (.int a2), some (.int a3)] [.int v4, .int a2] (I, J, shM) := by
          refine qj_iadd cx dX7_hits__60 ?_
          obtain ⟨x5, ex5, hP⟩ := qc_letE hP
          refine qw_top ex5 ?_
          refine qj_istore_n (ls1 := [some (.ref 0), some (.int a1), some (.int x5), some (.int a3)]) cx dX7_hits__61 rfl rfl rfl rfl ?_
          obtain ⟨x6, ex6, hP⟩ := qc_letE hP
          refine qj_iinc (v := x6) (ls1 := [some (.ref 0), some (.int a1), some (.int x5), some (.int x6)]) cx dX7_hits__62 rfl (by rw [ex6]; rfl) rfl rfl ?_
          refine qj_goto (tgt := 37) cx dX7_hits__65 (by decide) ?_
          exact ih I a1 x5 x6 hP
        refine qj_if_eq (tgt := 59) cx dX7_hits__52 (by decide) (fun c3 => ?_) (fun c3 => ?_)
        · have hv4 := qc_ifT hv4 c3
          refine qj_iconst (v := (0 : Int32)) cx dX7_hits__59 (by decide) ?_
          exact qw_top (Option.some.inj hv4).symm Kv4
        · have hv4 := qc_ifF hv4 c3
          refine qj_iconst (v := (1 : Int32)) cx dX7_hits__55 (by decide) ?_
          refine qj_goto (tgt := 60) cx dX7_hits__56 (by decide) ?_
          exact qw_top (Option.some.inj hv4).symm Kv4
  show qc_J F 0 0 0 [some (.ref 0), some (.int a), none, none] [] (I, J, shM)
  unfold P_X7_hits_ at hP
  refine qj_aload_n cx dX7_hits__0 rfl rfl ?_
  refine qj_iconst (v := (0 : Int32)) cx dX7_hits__1 (by decide) ?_
  obtain ⟨I7, eI7, hP⟩ := qc_letE hP
  refine qw_putI (j := 0) cx dX7_hits__2 qc_cl7 rfl (Nat.le_of_ble_eq_true rfl) rfl ww_1092 rfl rfl rfl eI7 ?_
  refine qj_aload_n cx dX7_hits__5 rfl rfl ?_
  refine qj_iload_n cx dX7_hits__6 rfl rfl ?_
  obtain ⟨q8, eq8, hP⟩ := Option.bind_eq_some_iff.mp hP
  refine qj_callV (As := [.int a]) (st := []) (t := 0) (h' := (I7, J, shM)) (r := some (.int q8)) cx dX7_hits__7 (c_X7_isUser (I := I7) (J := J)  eq8) gc_RX7_259 qm_X7_isUser rfl rfl qc_cl7 rfl (Nat.le_of_ble_eq_true rfl) (by decide) (by decide) rfl (Nat.le_of_ble_eq_true rfl) (Nat.le_of_ble_eq_true rfl) hn0 rfl ?_
  refine qj_if_ne (tgt := 15) cx dX7_hits__10 (by decide) (fun c9 => ?_) (fun c9 => ?_)
  · have hP := qc_ifF hP c9
    refine qj_aload_n cx dX7_hits__15 rfl rfl ?_
    refine qw_getR (j := 25) (t1 := 13) cx dX7_hits__16 qc_cl7 rfl (Nat.le_of_ble_eq_true rfl) rfl ww_1117 rfl ?_
    refine qj_iconst (v := (0 : Int32)) cx dX7_hits__19 (by decide) ?_
    refine qj_iload_n cx dX7_hits__20 rfl rfl ?_
    refine qj_iadd cx dX7_hits__21 ?_
    obtain ⟨c10, hP⟩ := qc_ck hP
    refine qw_iald cx dX7_hits__22 rfl (Nat.le_of_ble_eq_true rfl) rfl c10 ?_
    refine qj_if_ne (tgt := 29) cx dX7_hits__23 (by decide) (fun c11 => ?_) (fun c11 => ?_)
    · have hP := qc_ifF hP c11
      refine qj_aload_n cx dX7_hits__29 rfl rfl ?_
      obtain ⟨q12, eq12, hP⟩ := Option.bind_eq_some_iff.mp hP
      refine qj_callV (As := []) (st := []) (t := 0) (h' := (q12, J, shM)) (r := none) cx dX7_hits__30 (c_X7_laysProducts (I := I7) (J := J)  eq12) gc_RX7_326 qm_X7_laysProducts rfl rfl qc_cl7 rfl (Nat.le_of_ble_eq_true rfl) (by decide) (by decide) rfl (Nat.le_of_ble_eq_true rfl) (Nat.le_of_ble_eq_true rfl) hn0 rfl ?_
      refine qj_iconst (v := (0 : Int32)) cx dX7_hits__33 (by decide) ?_
      refine qj_istore_n (ls1 := [some (.ref 0), some (.int a), some (.int (0 : Int32)), none]) cx dX7_hits__34 rfl rfl rfl rfl ?_
      refine qj_iconst (v := (0 : Int32)) cx dX7_hits__35 (by decide) ?_
      refine qj_istore_n (ls1 := [some (.ref 0), some (.int a), some (.int (0 : Int32)), some (.int (0 : Int32))]) cx dX7_hits__36 rfl rfl rfl rfl ?_
      exact L37 qc_fu q12 a (0 : Int32) (0 : Int32) hP
    · have hP := qc_ifT hP c11
      refine qj_bipush (v := (-2 : Int32)) cx dX7_hits__26 (by decide) ?_
      exact qw_iret cx hz dX7_hits__28 (Nat.zero_le _) (Nat.zero_le _) (congrArg (fun q => q.1) (Option.some.inj hP)) (congrArg (fun q => q.2) (Option.some.inj hP)) rfl
  · have hP := qc_ifT hP c9
    refine qj_iconst (v := (-1 : Int32)) cx dX7_hits__13 (by decide) ?_
    exact qw_iret cx hz dX7_hits__14 (Nat.zero_le _) (Nat.zero_le _) (congrArg (fun q => q.1) (Option.some.inj hP)) (congrArg (fun q => q.2) (Option.some.inj hP)) rfl
def P_X7_hitBy_60 (k28 : (Nat → Nat → Int32) → Int32 → Int32 → Int32 → Option (Int32 × (Nat → Nat → Int32))) (I : (Nat → Nat → Int32)) (a1 : Int32) (a3 : Int32) (a4 : Int32) : Option (Int32 × (Nat → Nat → Int32)) :=
  qc_let (a4 + (1 : Int32)) fun x1 =>
  k28 I a1 a3 x1
def P_X7_hitBy_28  : Nat → (Nat → Nat → Int32) → Int32 → Int32 → Int32 → Option (Int32 × (Nat → Nat → Int32))
  | 0, _, _, _, _ => none
  | f + 1, I, a1, a3, a4 =>
  if I 0 41 ≤ a4 then
  some ((-2 : Int32), I)
  else
  (P_X7_hits I a4 a1).bind fun q3 =>
  if q3 = 0 then
  P_X7_hitBy_60 (P_X7_hitBy_28 f) I a1 a3 a4
  else
  if a3 = 0 then
  some (a4, I)
  else
  qc_let (a3 + (-1 : Int32)) fun x6 =>
  P_X7_hitBy_60 (P_X7_hitBy_28 f) I a1 x6 a4
def P_X7_hitBy (I : Nat → Nat → Int32) (a : Int32) (b : Int32) : Option (Int32 × (Nat → Nat → Int32)) :=
  qc_let (qc_u2 I 0 0 (0 : Int32)) fun I7 =>
  (P_X7_isUser I7 a).bind fun q8 =>
  if q8 = 0 then
  some ((-1 : Int32), I7)
  else
  if 0 ≤ b then
  (P_X7_laysProducts I7).bind fun q11 =>
  P_X7_hitBy_28 qc_fu q11 a b (0 : Int32)
  else
  some ((-1 : Int32), I7)
set_option maxRecDepth 20000 in
theorem c_X7_hitBy {I : Nat → Nat → Int32} {J : Nat → Nat → Int64}  {a : Int32} {b : Int32} {q0 : Int32 × (Nat → Nat → Int32)} (hP : P_X7_hitBy I a b = some q0) : ∀ l, qc_M l yX7_hitBy cX7_hitBy 5 (some .int) 4 96 0 0 [.ref 0, .int a, .int b] (I, J, shM) (some (.int q0.1)) (q0.2, J, shM) := by
  intro l
  refine qc_ent2 (by decide) (Nat.le_of_ble_eq_true rfl) ?_
  intro F hn0 cx hz
  have cx : qc_X F cX7_hitBy RX7 "hitBy" 4 0 0 96 := cx
  have L60 : ∀ (k28 : (Nat → Nat → Int32) → Int32 → Int32 → Int32 → Option (Int32 × (Nat → Nat → Int32))) (g28 : ∀ (I : Nat → Nat → Int32) (a1 : Int32) (a3 : Int32) (a4 : Int32), k28 I a1 a3 a4 = some q0 → qc_J F 0 0 28 [some (.ref 0), some (.int a1), none, some (.int a3), some (.int a4)] [] (I, J, shM)) (I : (Nat → Nat → Int32)) (a1 : Int32) (a3 : Int32) (a4 : Int32), P_X7_hitBy_60 k28 I a1 a3 a4 = some q0 → qc_J F 0 0 60 [some (.ref 0), some (.int a1), none, some (.int a3), some (.int a4)] [] (I, J, shM) := by
    intro k28 g28 I a1 a3 a4 hP
    unfold P_X7_hitBy_60 at hP
    obtain ⟨x1, ex1, hP⟩ := qc_letE hP
    refine qj_iinc (v := x1) (ls1 := [some (.ref 0), some (.int a1), none, some (.int a3), some (.int x1)]) cx dX7_hitBy_60 rfl (by rw [ex1]; rfl) rfl rfl ?_
    refine qj_goto (tgt := 28) cx dX7_hitBy_63 (by decide) ?_
    exact g28 I a1 a3 x1 hP
  have L28 : ∀  (f : Nat) (I : (Nat → Nat → Int32)) (a1 : Int32) (a3 : Int32) (a4 : Int32), P_X7_hitBy_28 f I a1 a3 a4 = some q0 → qc_J F 0 0 28 [some (.ref 0), some (.int a1), none, some (.int a3), some (.int a4)] [] (I, J, shM) := by
    intro  f
    induction f with
    | zero => intro I a1 a3 a4 hP; cases hP
    | succ f ih =>
      intro I a1 a3 a4 hP
      rw [P_X7_hitBy_28] at hP
      refine qj_iload cx dX7_hitBy_28 rfl ?_
      refine qj_aload_n cx dX7_hitBy_30 rfl rfl ?_
      refine qw_getI (j := 41) cx dX7_hitBy_31 qc_cl7 rfl (Nat.le_of_ble_eq_true rfl) rfl ww_1133 ?_
      refine qj_icmp_ge (tgt := 66) cx dX7_hitBy_34 (by decide) (fun c2 => ?_) (fun c2 => ?_)
      · have hP := qc_ifT hP c2
        refine qj_bipush (v := (-2 : Int32)) cx dX7_hitBy_66 (by decide) ?_
        exact qw_iret cx hz dX7_hitBy_68 (Nat.zero_le _) (Nat.zero_le _) (congrArg (fun q => q.1) (Option.some.inj hP)) (congrArg (fun q => q.2) (Option.some.inj hP)) rfl
      · have hP := qc_ifF hP c2
        refine qj_aload_n cx dX7_hitBy_37 rfl rfl ?_
        refine qj_iload cx dX7_hitBy_38 rfl ?_
        refine qj_iload_n cx dX7_hitBy_40 rfl rfl ?_
        obtain ⟨q3, eq3, hP⟩ := Option.bind_eq_some_iff.mp hP
        refine qj_callV (As := [.int a4, .int a1]) (st := []) (t := 0) (h' := (I, J, shM)) (r := some (.int q3)) cx dX7_hitBy_41 (c_X7_hits (I := I) (J := J)  eq3) gc_RX7_305 qm_X7_hits rfl rfl qc_cl7 rfl (Nat.le_of_ble_eq_true rfl) (by decide) (by decide) rfl (Nat.le_of_ble_eq_true rfl) (Nat.le_of_ble_eq_true rfl) hn0 rfl ?_
        refine qj_if_ne (tgt := 50) cx dX7_hitBy_44 (by decide) (fun c4 => ?_) (fun c4 => ?_)
        · have hP := qc_ifF hP c4
          refine qj_iload_n cx dX7_hitBy_50 rfl rfl ?_
          refine qj_if_ne (tgt := 57) cx dX7_hitBy_51 (by decide) (fun c5 => ?_) (fun c5 => ?_)
          · have hP := qc_ifF hP c5
            obtain ⟨x6, ex6, hP⟩ := qc_letE hP
            refine qj_iinc (v := x6) (ls1 := [some (.ref 0), some (.int a1), none, some (.int x6), some (.int a4)]) cx dX7_hitBy_57 rfl (by rw [ex6]; rfl) rfl rfl ?_
            exact L60 (P_X7_hitBy_28 f) ih I a1 x6 a4 hP
          · have hP := qc_ifT hP c5
            refine qj_iload cx dX7_hitBy_54 rfl ?_
            exact qw_iret cx hz dX7_hitBy_56 (Nat.zero_le _) (Nat.zero_le _) (congrArg (fun q => q.1) (Option.some.inj hP)) (congrArg (fun q => q.2) (Option.some.inj hP)) rfl
        · have hP := qc_ifT hP c4
          refine qj_goto (tgt := 60) cx dX7_hitBy_47 (by decide) ?_
          exact L60 (P_X7_hitBy_28 f) ih I a1 a3 a4 hP
  show qc_J F 0 0 0 [some (.ref 0), some (.int a), some (.int b), none, none] [] (I, J, shM)
  unfold P_X7_hitBy at hP
  refine qj_aload_n cx dX7_hitBy_0 rfl rfl ?_
  refine qj_iconst (v := (0 : Int32)) cx dX7_hitBy_1 (by decide) ?_
  obtain ⟨I7, eI7, hP⟩ := qc_letE hP
  refine qw_putI (j := 0) cx dX7_hitBy_2 qc_cl7 rfl (Nat.le_of_ble_eq_true rfl) rfl ww_1092 rfl rfl rfl eI7 ?_
  refine qj_aload_n cx dX7_hitBy_5 rfl rfl ?_
  refine qj_iload_n cx dX7_hitBy_6 rfl rfl ?_
  obtain ⟨q8, eq8, hP⟩ := Option.bind_eq_some_iff.mp hP
  refine qj_callV (As := [.int a]) (st := []) (t := 0) (h' := (I7, J, shM)) (r := some (.int q8)) cx dX7_hitBy_7 (c_X7_isUser (I := I7) (J := J)  eq8) gc_RX7_259 qm_X7_isUser rfl rfl qc_cl7 rfl (Nat.le_of_ble_eq_true rfl) (by decide) (by decide) rfl (Nat.le_of_ble_eq_true rfl) (Nat.le_of_ble_eq_true rfl) hn0 rfl ?_
  refine qj_if_eq (tgt := 17) cx dX7_hitBy_10 (by decide) (fun c9 => ?_) (fun c9 => ?_)
  · have hP := qc_ifT hP c9
    refine qj_iconst (v := (-1 : Int32)) cx dX7_hitBy_17 (by decide) ?_
    exact qw_iret cx hz dX7_hitBy_18 (Nat.zero_le _) (Nat.zero_le _) (congrArg (fun q => q.1) (Option.some.inj hP)) (congrArg (fun q => q.2) (Option.some.inj hP)) rfl
  · have hP := qc_ifF hP c9
    refine qj_iload_n cx dX7_hitBy_13 rfl rfl ?_
    refine qj_if_ge (tgt := 19) cx dX7_hitBy_14 (by decide) (fun c10 => ?_) (fun c10 => ?_)
    · have hP := qc_ifT hP c10
      refine qj_aload_n cx dX7_hitBy_19 rfl rfl ?_
      obtain ⟨q11, eq11, hP⟩ := Option.bind_eq_some_iff.mp hP
      refine qj_callV (As := []) (st := []) (t := 0) (h' := (q11, J, shM)) (r := none) cx dX7_hitBy_20 (c_X7_laysProducts (I := I7) (J := J)  eq11) gc_RX7_326 qm_X7_laysProducts rfl rfl qc_cl7 rfl (Nat.le_of_ble_eq_true rfl) (by decide) (by decide) rfl (Nat.le_of_ble_eq_true rfl) (Nat.le_of_ble_eq_true rfl) hn0 rfl ?_
      refine qj_iload_n cx dX7_hitBy_23 rfl rfl ?_
      refine qj_istore_n (ls1 := [some (.ref 0), some (.int a), some (.int b), some (.int b), none]) cx dX7_hitBy_24 rfl rfl rfl rfl ?_
      refine qj_iconst (v := (0 : Int32)) cx dX7_hitBy_25 (by decide) ?_
      refine qj_istore (ls1 := [some (.ref 0), some (.int a), some (.int b), some (.int b), some (.int (0 : Int32))]) cx dX7_hitBy_26 rfl rfl rfl ?_
      refine qw_sub (ls1 := [some (.ref 0), some (.int a), none, some (.int b), some (.int (0 : Int32))]) rfl (qc_sb_ok ⟨rfl, rfl, rfl, rfl, trivial⟩) ?_
      exact L28 qc_fu q11 a b (0 : Int32) hP
    · have hP := qc_ifF hP c10
      refine qj_iconst (v := (-1 : Int32)) cx dX7_hitBy_17 (by decide) ?_
      exact qw_iret cx hz dX7_hitBy_18 (Nat.zero_le _) (Nat.zero_le _) (congrArg (fun q => q.1) (Option.some.inj hP)) (congrArg (fun q => q.2) (Option.some.inj hP)) rfl
def P_X7_clean (I : Nat → Nat → Int32) : Option (Int32 × (Nat → Nat → Int32)) :=
  qc_let (qc_u2 I 0 0 (0 : Int32)) fun I1 =>
  (P_X7_isClean I1).bind fun q2 =>
  (if q2.1 = 0 then
  some (0 : Int32)
  else
  some (1 : Int32)).bind fun v4 =>
  some (v4, q2.2)
set_option maxRecDepth 20000 in
theorem c_X7_clean {I : Nat → Nat → Int32} {J : Nat → Nat → Int64}   {q0 : Int32 × (Nat → Nat → Int32)} (hP : P_X7_clean I = some q0) : ∀ l, qc_M l yX7_clean cX7_clean 1 (some .int) 5 117 0 0 [.ref 0] (I, J, shM) (some (.int q0.1)) (q0.2, J, shM) := by
  intro l
  refine qc_ent2 (by decide) (Nat.le_of_ble_eq_true rfl) ?_
  intro F hn0 cx hz
  have cx : qc_X F cX7_clean RX7 "clean" 5 0 0 117 := cx
  show qc_J F 0 0 0 [some (.ref 0)] [] (I, J, shM)
  unfold P_X7_clean at hP
  refine qj_aload_n cx dX7_clean_0 rfl rfl ?_
  refine qj_iconst (v := (0 : Int32)) cx dX7_clean_1 (by decide) ?_
  obtain ⟨I1, eI1, hP⟩ := qc_letE hP
  refine qw_putI (j := 0) cx dX7_clean_2 qc_cl7 rfl (Nat.le_of_ble_eq_true rfl) rfl ww_1092 rfl rfl rfl eI1 ?_
  refine qj_aload_n cx dX7_clean_5 rfl rfl ?_
  obtain ⟨q2, eq2, hP⟩ := Option.bind_eq_some_iff.mp hP
  refine qj_callV (As := []) (st := []) (t := 0) (h' := (q2.2, J, shM)) (r := some (.int q2.1)) cx dX7_clean_6 (c_X7_isClean (I := I1) (J := J)  eq2) gc_RX7_332 qm_X7_isClean rfl rfl qc_cl7 rfl (Nat.le_of_ble_eq_true rfl) (by decide) (by decide) rfl (Nat.le_of_ble_eq_true rfl) (Nat.le_of_ble_eq_true rfl) hn0 rfl ?_
  obtain ⟨v4, hv4, hP⟩ := Option.bind_eq_some_iff.mp hP
  have Kv4 : qc_J F 0 0 17 [some (.ref 0)] [.int v4] (q2.2, J, shM) := by
    exact qw_iret cx hz dX7_clean_17 (Nat.zero_le _) (Nat.zero_le _) (congrArg (fun q => q.1) (Option.some.inj hP)) (congrArg (fun q => q.2) (Option.some.inj hP)) rfl
  refine qj_if_eq (tgt := 16) cx dX7_clean_9 (by decide) (fun c3 => ?_) (fun c3 => ?_)
  · have hv4 := qc_ifT hv4 c3
    refine qj_iconst (v := (0 : Int32)) cx dX7_clean_16 (by decide) ?_
    exact qw_top (Option.some.inj hv4).symm Kv4
  · have hv4 := qc_ifF hv4 c3
    refine qj_iconst (v := (1 : Int32)) cx dX7_clean_12 (by decide) ?_
    refine qj_goto (tgt := 17) cx dX7_clean_13 (by decide) ?_
    exact qw_top (Option.some.inj hv4).symm Kv4
def P_X7_fitsAt (I : Nat → Nat → Int32) (a : Int32) (b : Int32) : Option (Int32 × (Nat → Nat → Int32)) :=
  if qc_in ((0 : Int32) + a) 79 then
  qc_let (I 13 ((0 : Int32) + a).toNatClampNeg) fun x2 =>
  if qc_in ((0 : Int32) + a) 79 then
  qc_let (qc_u2 I 13 ((0 : Int32) + a).toNatClampNeg b) fun I3 =>
  (P_X7_isClean I3).bind fun q4 =>
  if qc_in ((0 : Int32) + a) 79 then
  qc_let (qc_u2 q4.2 13 ((0 : Int32) + a).toNatClampNeg x2) fun I5 =>
  if qc_bo q4.1 then some (q4.1, I5) else none
  else none
  else none
  else none
set_option maxRecDepth 20000 in
theorem c_X7_fitsAt {I : Nat → Nat → Int32} {J : Nat → Nat → Int64}  {a : Int32} {b : Int32} {q0 : Int32 × (Nat → Nat → Int32)} (hP : P_X7_fitsAt I a b = some q0) : ∀ l, qc_M l yX7_fitsAt cX7_fitsAt 5 (some .boolean) 5 117 0 0 [.ref 0, .int a, .int b] (I, J, shM) (some (.int q0.1)) (q0.2, J, shM) := by
  intro l
  refine qc_ent2 (by decide) (Nat.le_of_ble_eq_true rfl) ?_
  intro F hn0 cx hz
  have cx : qc_X F cX7_fitsAt RX7 "fitsAt" 5 0 0 117 := cx
  show qc_J F 0 0 0 [some (.ref 0), some (.int a), some (.int b), none, none] [] (I, J, shM)
  unfold P_X7_fitsAt at hP
  refine qj_aload_n cx dX7_fitsAt_0 rfl rfl ?_
  refine qw_getR (j := 25) (t1 := 13) cx dX7_fitsAt_1 qc_cl7 rfl (Nat.le_of_ble_eq_true rfl) rfl ww_1117 rfl ?_
  refine qj_iconst (v := (0 : Int32)) cx dX7_fitsAt_4 (by decide) ?_
  refine qj_iload_n cx dX7_fitsAt_5 rfl rfl ?_
  refine qj_iadd cx dX7_fitsAt_6 ?_
  obtain ⟨c1, hP⟩ := qc_ck hP
  refine qw_iald cx dX7_fitsAt_7 rfl (Nat.le_of_ble_eq_true rfl) rfl c1 ?_
  obtain ⟨x2, ex2, hP⟩ := qc_letE hP
  refine qw_top ex2 ?_
  refine qj_istore_n (ls1 := [some (.ref 0), some (.int a), some (.int b), some (.int x2), none]) cx dX7_fitsAt_8 rfl rfl rfl rfl ?_
  refine qj_aload_n cx dX7_fitsAt_9 rfl rfl ?_
  refine qw_getR (j := 25) (t1 := 13) cx dX7_fitsAt_10 qc_cl7 rfl (Nat.le_of_ble_eq_true rfl) rfl ww_1117 rfl ?_
  refine qj_iconst (v := (0 : Int32)) cx dX7_fitsAt_13 (by decide) ?_
  refine qj_iload_n cx dX7_fitsAt_14 rfl rfl ?_
  refine qj_iadd cx dX7_fitsAt_15 ?_
  refine qj_iload_n cx dX7_fitsAt_16 rfl rfl ?_
  obtain ⟨c8, hP⟩ := qc_ck hP
  obtain ⟨I3, eI3, hP⟩ := qc_letE hP
  refine qw_iast cx dX7_fitsAt_17 rfl (Nat.le_of_ble_eq_true rfl) rfl c8 eI3 ?_
  refine qj_aload_n cx dX7_fitsAt_18 rfl rfl ?_
  obtain ⟨q4, eq4, hP⟩ := Option.bind_eq_some_iff.mp hP
  refine qj_callV (As := []) (st := []) (t := 0) (h' := (q4.2, J, shM)) (r := some (.int q4.1)) cx dX7_fitsAt_19 (c_X7_isClean (I := I3) (J := J)  eq4) gc_RX7_332 qm_X7_isClean rfl rfl qc_cl7 rfl (Nat.le_of_ble_eq_true rfl) (by decide) (by decide) rfl (Nat.le_of_ble_eq_true rfl) (Nat.le_of_ble_eq_true rfl) hn0 rfl ?_
  refine qj_istore (ls1 := [some (.ref 0), some (.int a), some (.int b), some (.int x2), some (.int q4.1)]) cx dX7_fitsAt_22 rfl rfl rfl ?_
  refine qj_aload_n cx dX7_fitsAt_24 rfl rfl ?_
  refine qw_getR (j := 25) (t1 := 13) cx dX7_fitsAt_25 qc_cl7 rfl (Nat.le_of_ble_eq_true rfl) rfl ww_1117 rfl ?_
  refine qj_iconst (v := (0 : Int32)) cx dX7_fitsAt_28 (by decide) ?_
  refine qj_iload_n cx dX7_fitsAt_29 rfl rfl ?_
  refine qj_iadd cx dX7_fitsAt_30 ?_
  refine qj_iload_n cx dX7_fitsAt_31 rfl rfl ?_
  obtain ⟨c7, hP⟩ := qc_ck hP
  obtain ⟨I5, eI5, hP⟩ := qc_letE hP
  refine qw_iast cx dX7_fitsAt_32 rfl (Nat.le_of_ble_eq_true rfl) rfl c7 eI5 ?_
  refine qj_iload cx dX7_fitsAt_33 rfl ?_
  obtain ⟨c6, hP⟩ := qc_ck hP
  exact qw_zret cx hz dX7_fitsAt_35 (qc_bo_n c6) (Nat.zero_le _) (Nat.zero_le _) (congrArg (fun q => q.1) (Option.some.inj hP)) (congrArg (fun q => q.2) (Option.some.inj hP)) rfl
def P_X7_fits (I : Nat → Nat → Int32) (a : Int32) (b : Int32) : Option (Int32 × (Nat → Nat → Int32)) :=
  qc_let (qc_u2 I 0 0 (0 : Int32)) fun I1 =>
  (P_X7_isUser I1 a).bind fun q2 =>
  if q2 = 0 then
  some ((-1 : Int32), I1)
  else
  (P_X7_isChannel I1 b).bind fun q4 =>
  if q4 = 0 then
  some ((-1 : Int32), I1)
  else
  (P_X7_fitsAt I1 a b).bind fun q6 =>
  (if q6.1 = 0 then
  some (0 : Int32)
  else
  some (1 : Int32)).bind fun v8 =>
  some (v8, q6.2)
set_option maxRecDepth 20000 in
theorem c_X7_fits {I : Nat → Nat → Int32} {J : Nat → Nat → Int64}  {a : Int32} {b : Int32} {q0 : Int32 × (Nat → Nat → Int32)} (hP : P_X7_fits I a b = some q0) : ∀ l, qc_M l yX7_fits cX7_fits 3 (some .int) 6 141 0 0 [.ref 0, .int a, .int b] (I, J, shM) (some (.int q0.1)) (q0.2, J, shM) := by
  intro l
  refine qc_ent2 (by decide) (Nat.le_of_ble_eq_true rfl) ?_
  intro F hn0 cx hz
  have cx : qc_X F cX7_fits RX7 "fits" 6 0 0 141 := cx
  show qc_J F 0 0 0 [some (.ref 0), some (.int a), some (.int b)] [] (I, J, shM)
  unfold P_X7_fits at hP
  refine qj_aload_n cx dX7_fits_0 rfl rfl ?_
  refine qj_iconst (v := (0 : Int32)) cx dX7_fits_1 (by decide) ?_
  obtain ⟨I1, eI1, hP⟩ := qc_letE hP
  refine qw_putI (j := 0) cx dX7_fits_2 qc_cl7 rfl (Nat.le_of_ble_eq_true rfl) rfl ww_1092 rfl rfl rfl eI1 ?_
  refine qj_aload_n cx dX7_fits_5 rfl rfl ?_
  refine qj_iload_n cx dX7_fits_6 rfl rfl ?_
  obtain ⟨q2, eq2, hP⟩ := Option.bind_eq_some_iff.mp hP
  refine qj_callV (As := [.int a]) (st := []) (t := 0) (h' := (I1, J, shM)) (r := some (.int q2)) cx dX7_fits_7 (c_X7_isUser (I := I1) (J := J)  eq2) gc_RX7_259 qm_X7_isUser rfl rfl qc_cl7 rfl (Nat.le_of_ble_eq_true rfl) (by decide) (by decide) rfl (Nat.le_of_ble_eq_true rfl) (Nat.le_of_ble_eq_true rfl) hn0 rfl ?_
  refine qj_if_eq (tgt := 21) cx dX7_fits_10 (by decide) (fun c3 => ?_) (fun c3 => ?_)
  · have hP := qc_ifT hP c3
    refine qj_iconst (v := (-1 : Int32)) cx dX7_fits_21 (by decide) ?_
    exact qw_iret cx hz dX7_fits_22 (Nat.zero_le _) (Nat.zero_le _) (congrArg (fun q => q.1) (Option.some.inj hP)) (congrArg (fun q => q.2) (Option.some.inj hP)) rfl
  · have hP := qc_ifF hP c3
    refine qj_aload_n cx dX7_fits_13 rfl rfl ?_
    refine qj_iload_n cx dX7_fits_14 rfl rfl ?_
    obtain ⟨q4, eq4, hP⟩ := Option.bind_eq_some_iff.mp hP
    refine qj_callV (As := [.int b]) (st := []) (t := 0) (h' := (I1, J, shM)) (r := some (.int q4)) cx dX7_fits_15 (c_X7_isChannel (I := I1) (J := J)  eq4) gc_RX7_262 qm_X7_isChannel rfl rfl qc_cl7 rfl (Nat.le_of_ble_eq_true rfl) (by decide) (by decide) rfl (Nat.le_of_ble_eq_true rfl) (Nat.le_of_ble_eq_true rfl) hn0 rfl ?_
    refine qj_if_ne (tgt := 23) cx dX7_fits_18 (by decide) (fun c5 => ?_) (fun c5 => ?_)
    · have hP := qc_ifF hP c5
      refine qj_aload_n cx dX7_fits_23 rfl rfl ?_
      refine qj_iload_n cx dX7_fits_24 rfl rfl ?_
      refine qj_iload_n cx dX7_fits_25 rfl rfl ?_
      obtain ⟨q6, eq6, hP⟩ := Option.bind_eq_some_iff.mp hP
      refine qj_callV (As := [.int a, .int b]) (st := []) (t := 0) (h' := (q6.2, J, shM)) (r := some (.int q6.1)) cx dX7_fits_26 (c_X7_fitsAt (I := I1) (J := J)  eq6) gc_RX7_387 qm_X7_fitsAt rfl rfl qc_cl7 rfl (Nat.le_of_ble_eq_true rfl) (by decide) (by decide) rfl (Nat.le_of_ble_eq_true rfl) (Nat.le_of_ble_eq_true rfl) hn0 rfl ?_
      obtain ⟨v8, hv8, hP⟩ := Option.bind_eq_some_iff.mp hP
      have Kv8 : qc_J F 0 0 37 [some (.ref 0), some (.int a), some (.int b)] [.int v8] (q6.2, J, shM) := by
        exact qw_iret cx hz dX7_fits_37 (Nat.zero_le _) (Nat.zero_le _) (congrArg (fun q => q.1) (Option.some.inj hP)) (congrArg (fun q => q.2) (Option.some.inj hP)) rfl
      refine qj_if_eq (tgt := 36) cx dX7_fits_29 (by decide) (fun c7 => ?_) (fun c7 => ?_)
      · have hv8 := qc_ifT hv8 c7
        refine qj_iconst (v := (0 : Int32)) cx dX7_fits_36 (by decide) ?_
        exact qw_top (Option.some.inj hv8).symm Kv8
      · have hv8 := qc_ifF hv8 c7
        refine qj_iconst (v := (1 : Int32)) cx dX7_fits_32 (by decide) ?_
        refine qj_goto (tgt := 37) cx dX7_fits_33 (by decide) ?_
        exact qw_top (Option.some.inj hv8).symm Kv8
    · have hP := qc_ifT hP c5
      refine qj_iconst (v := (-1 : Int32)) cx dX7_fits_21 (by decide) ?_
      exact qw_iret cx hz dX7_fits_22 (Nat.zero_le _) (Nat.zero_le _) (congrArg (fun q => q.1) (Option.some.inj hP)) (congrArg (fun q => q.2) (Option.some.inj hP)) rfl
def P_X7_free_19  : Nat → (Nat → Nat → Int32) → Int32 → Int32 → Int32 → Option (Int32 × (Nat → Nat → Int32))
  | 0, _, _, _, _ => none
  | f + 1, I, a1, a2, a3 =>
  if I 0 30 < a3 then
  some (a2, I)
  else
  (P_X7_fitsAt I a1 a3).bind fun q2 =>
  (if q2.1 = 0 then
  some (0 : Int32)
  else
  some (1 : Int32)).bind fun v4 =>
  qc_let (a2 + v4) fun x5 =>
  qc_let (a3 + (1 : Int32)) fun x6 =>
  P_X7_free_19 f q2.2 a1 x5 x6
def P_X7_free (I : Nat → Nat → Int32) (a : Int32) : Option (Int32 × (Nat → Nat → Int32)) :=
  qc_let (qc_u2 I 0 0 (0 : Int32)) fun I7 =>
  (P_X7_isUser I7 a).bind fun q8 =>
  if q8 = 0 then
  some ((-1 : Int32), I7)
  else
  P_X7_free_19 qc_fu I7 a (0 : Int32) (1 : Int32)
set_option maxRecDepth 20000 in
theorem c_X7_free {I : Nat → Nat → Int32} {J : Nat → Nat → Int64}  {a : Int32} {q0 : Int32 × (Nat → Nat → Int32)} (hP : P_X7_free I a = some q0) : ∀ l, qc_M l yX7_free cX7_free 4 (some .int) 6 141 0 0 [.ref 0, .int a] (I, J, shM) (some (.int q0.1)) (q0.2, J, shM) := by
  intro l
  refine qc_ent2 (by decide) (Nat.le_of_ble_eq_true rfl) ?_
  intro F hn0 cx hz
  have cx : qc_X F cX7_free RX7 "free" 6 0 0 141 := cx
  have L19 : ∀  (f : Nat) (I : (Nat → Nat → Int32)) (a1 : Int32) (a2 : Int32) (a3 : Int32), P_X7_free_19 f I a1 a2 a3 = some q0 → qc_J F 0 0 19 [some (.ref 0), some (.int a1), some (.int a2), some (.int a3)] [] (I, J, shM) := by
    intro  f
    induction f with
    | zero => intro I a1 a2 a3 hP; cases hP
    | succ f ih =>
      intro I a1 a2 a3 hP
      rw [P_X7_free_19] at hP
      refine qj_iload_n cx dX7_free_19 rfl rfl ?_
      refine qj_aload_n cx dX7_free_20 rfl rfl ?_
      refine qw_getI (j := 30) cx dX7_free_21 qc_cl7 rfl (Nat.le_of_ble_eq_true rfl) rfl ww_1122 ?_
      refine qj_icmp_gt (tgt := 50) cx dX7_free_24 (by decide) (fun c1 => ?_) (fun c1 => ?_)
      · have hP := qc_ifT hP c1
        refine qj_iload_n cx dX7_free_50 rfl rfl ?_
        exact qw_iret cx hz dX7_free_51 (Nat.zero_le _) (Nat.zero_le _) (congrArg (fun q => q.1) (Option.some.inj hP)) (congrArg (fun q => q.2) (Option.some.inj hP)) rfl
      · have hP := qc_ifF hP c1
        refine qj_iload_n cx dX7_free_27 rfl rfl ?_
        refine qj_aload_n cx dX7_free_28 rfl rfl ?_
        refine qj_iload_n cx dX7_free_29 rfl rfl ?_
        refine qj_iload_n cx dX7_free_30 rfl rfl ?_
        obtain ⟨q2, eq2, hP⟩ := Option.bind_eq_some_iff.mp hP
        refine qj_callV (As := [.int a1, .int a3]) (st := [.int a2]) (t := 0) (h' := (q2.2, J, shM)) (r := some (.int q2.1)) cx dX7_free_31 (c_X7_fitsAt (I := I) (J := J)  eq2) gc_RX7_387 qm_X7_fitsAt rfl rfl qc_cl7 rfl (Nat.le_of_ble_eq_true rfl) (by decide) (by decide) rfl (Nat.le_of_ble_eq_true rfl) (Nat.le_of_ble_eq_true rfl) hn0 rfl ?_
        obtain ⟨v4, hv4, hP⟩ := Option.bind_eq_some_iff.mp hP
        have Kv4 : qc_J F 0 0 42 [some (.ref 0), some (.int a1), some (.int a2), some (.int a3)] [.int v4, .int a2] (q2.2, J, shM) := by
          refine qj_iadd cx dX7_free_42 ?_
          obtain ⟨x5, ex5, hP⟩ := qc_letE hP
          refine qw_top ex5 ?_
          refine qj_istore_n (ls1 := [some (.ref 0), some (.int a1), some (.int x5), some (.int a3)]) cx dX7_free_43 rfl rfl rfl rfl ?_
          obtain ⟨x6, ex6, hP⟩ := qc_letE hP
          refine qj_iinc (v := x6) (ls1 := [some (.ref 0), some (.int a1), some (.int x5), some (.int x6)]) cx dX7_free_44 rfl (by rw [ex6]; rfl) rfl rfl ?_
          refine qj_goto (tgt := 19) cx dX7_free_47 (by decide) ?_
          exact ih q2.2 a1 x5 x6 hP
        refine qj_if_eq (tgt := 41) cx dX7_free_34 (by decide) (fun c3 => ?_) (fun c3 => ?_)
        · have hv4 := qc_ifT hv4 c3
          refine qj_iconst (v := (0 : Int32)) cx dX7_free_41 (by decide) ?_
          exact qw_top (Option.some.inj hv4).symm Kv4
        · have hv4 := qc_ifF hv4 c3
          refine qj_iconst (v := (1 : Int32)) cx dX7_free_37 (by decide) ?_
          refine qj_goto (tgt := 42) cx dX7_free_38 (by decide) ?_
          exact qw_top (Option.some.inj hv4).symm Kv4
  show qc_J F 0 0 0 [some (.ref 0), some (.int a), none, none] [] (I, J, shM)
  unfold P_X7_free at hP
  refine qj_aload_n cx dX7_free_0 rfl rfl ?_
  refine qj_iconst (v := (0 : Int32)) cx dX7_free_1 (by decide) ?_
  obtain ⟨I7, eI7, hP⟩ := qc_letE hP
  refine qw_putI (j := 0) cx dX7_free_2 qc_cl7 rfl (Nat.le_of_ble_eq_true rfl) rfl ww_1092 rfl rfl rfl eI7 ?_
  refine qj_aload_n cx dX7_free_5 rfl rfl ?_
  refine qj_iload_n cx dX7_free_6 rfl rfl ?_
  obtain ⟨q8, eq8, hP⟩ := Option.bind_eq_some_iff.mp hP
  refine qj_callV (As := [.int a]) (st := []) (t := 0) (h' := (I7, J, shM)) (r := some (.int q8)) cx dX7_free_7 (c_X7_isUser (I := I7) (J := J)  eq8) gc_RX7_259 qm_X7_isUser rfl rfl qc_cl7 rfl (Nat.le_of_ble_eq_true rfl) (by decide) (by decide) rfl (Nat.le_of_ble_eq_true rfl) (Nat.le_of_ble_eq_true rfl) hn0 rfl ?_
  refine qj_if_ne (tgt := 15) cx dX7_free_10 (by decide) (fun c9 => ?_) (fun c9 => ?_)
  · have hP := qc_ifF hP c9
    refine qj_iconst (v := (0 : Int32)) cx dX7_free_15 (by decide) ?_
    refine qj_istore_n (ls1 := [some (.ref 0), some (.int a), some (.int (0 : Int32)), none]) cx dX7_free_16 rfl rfl rfl rfl ?_
    refine qj_iconst (v := (1 : Int32)) cx dX7_free_17 (by decide) ?_
    refine qj_istore_n (ls1 := [some (.ref 0), some (.int a), some (.int (0 : Int32)), some (.int (1 : Int32))]) cx dX7_free_18 rfl rfl rfl rfl ?_
    exact L19 qc_fu I7 a (0 : Int32) (1 : Int32) hP
  · have hP := qc_ifT hP c9
    refine qj_iconst (v := (-1 : Int32)) cx dX7_free_13 (by decide) ?_
    exact qw_iret cx hz dX7_free_14 (Nat.zero_le _) (Nat.zero_le _) (congrArg (fun q => q.1) (Option.some.inj hP)) (congrArg (fun q => q.2) (Option.some.inj hP)) rfl
def P_X7_freeAt_56 (k24 : (Nat → Nat → Int32) → Int32 → Int32 → Int32 → Option (Int32 × (Nat → Nat → Int32))) (I : (Nat → Nat → Int32)) (a1 : Int32) (a3 : Int32) (a4 : Int32) : Option (Int32 × (Nat → Nat → Int32)) :=
  qc_let (a4 + (1 : Int32)) fun x1 =>
  k24 I a1 a3 x1
def P_X7_freeAt_24  : Nat → (Nat → Nat → Int32) → Int32 → Int32 → Int32 → Option (Int32 × (Nat → Nat → Int32))
  | 0, _, _, _, _ => none
  | f + 1, I, a1, a3, a4 =>
  if I 0 30 < a4 then
  some ((-2 : Int32), I)
  else
  (P_X7_fitsAt I a1 a4).bind fun q3 =>
  if q3.1 = 0 then
  P_X7_freeAt_56 (P_X7_freeAt_24 f) q3.2 a1 a3 a4
  else
  if a3 = 0 then
  some (a4, q3.2)
  else
  qc_let (a3 + (-1 : Int32)) fun x6 =>
  P_X7_freeAt_56 (P_X7_freeAt_24 f) q3.2 a1 x6 a4
def P_X7_freeAt (I : Nat → Nat → Int32) (a : Int32) (b : Int32) : Option (Int32 × (Nat → Nat → Int32)) :=
  qc_let (qc_u2 I 0 0 (0 : Int32)) fun I7 =>
  (P_X7_isUser I7 a).bind fun q8 =>
  if q8 = 0 then
  some ((-1 : Int32), I7)
  else
  if 0 ≤ b then
  P_X7_freeAt_24 qc_fu I7 a b (1 : Int32)
  else
  some ((-1 : Int32), I7)
set_option maxRecDepth 20000 in
theorem c_X7_freeAt {I : Nat → Nat → Int32} {J : Nat → Nat → Int64}  {a : Int32} {b : Int32} {q0 : Int32 × (Nat → Nat → Int32)} (hP : P_X7_freeAt I a b = some q0) : ∀ l, qc_M l yX7_freeAt cX7_freeAt 5 (some .int) 6 141 0 0 [.ref 0, .int a, .int b] (I, J, shM) (some (.int q0.1)) (q0.2, J, shM) := by
  intro l
  refine qc_ent2 (by decide) (Nat.le_of_ble_eq_true rfl) ?_
  intro F hn0 cx hz
  have cx : qc_X F cX7_freeAt RX7 "freeAt" 6 0 0 141 := cx
  have L56 : ∀ (k24 : (Nat → Nat → Int32) → Int32 → Int32 → Int32 → Option (Int32 × (Nat → Nat → Int32))) (g24 : ∀ (I : Nat → Nat → Int32) (a1 : Int32) (a3 : Int32) (a4 : Int32), k24 I a1 a3 a4 = some q0 → qc_J F 0 0 24 [some (.ref 0), some (.int a1), none, some (.int a3), some (.int a4)] [] (I, J, shM)) (I : (Nat → Nat → Int32)) (a1 : Int32) (a3 : Int32) (a4 : Int32), P_X7_freeAt_56 k24 I a1 a3 a4 = some q0 → qc_J F 0 0 56 [some (.ref 0), some (.int a1), none, some (.int a3), some (.int a4)] [] (I, J, shM) := by
    intro k24 g24 I a1 a3 a4 hP
    unfold P_X7_freeAt_56 at hP
    obtain ⟨x1, ex1, hP⟩ := qc_letE hP
    refine qj_iinc (v := x1) (ls1 := [some (.ref 0), some (.int a1), none, some (.int a3), some (.int x1)]) cx dX7_freeAt_56 rfl (by rw [ex1]; rfl) rfl rfl ?_
    refine qj_goto (tgt := 24) cx dX7_freeAt_59 (by decide) ?_
    exact g24 I a1 a3 x1 hP
  have L24 : ∀  (f : Nat) (I : (Nat → Nat → Int32)) (a1 : Int32) (a3 : Int32) (a4 : Int32), P_X7_freeAt_24 f I a1 a3 a4 = some q0 → qc_J F 0 0 24 [some (.ref 0), some (.int a1), none, some (.int a3), some (.int a4)] [] (I, J, shM) := by
    intro  f
    induction f with
    | zero => intro I a1 a3 a4 hP; cases hP
    | succ f ih =>
      intro I a1 a3 a4 hP
      rw [P_X7_freeAt_24] at hP
      refine qj_iload cx dX7_freeAt_24 rfl ?_
      refine qj_aload_n cx dX7_freeAt_26 rfl rfl ?_
      refine qw_getI (j := 30) cx dX7_freeAt_27 qc_cl7 rfl (Nat.le_of_ble_eq_true rfl) rfl ww_1122 ?_
      refine qj_icmp_gt (tgt := 62) cx dX7_freeAt_30 (by decide) (fun c2 => ?_) (fun c2 => ?_)
      · have hP := qc_ifT hP c2
        refine qj_bipush (v := (-2 : Int32)) cx dX7_freeAt_62 (by decide) ?_
        exact qw_iret cx hz dX7_freeAt_64 (Nat.zero_le _) (Nat.zero_le _) (congrArg (fun q => q.1) (Option.some.inj hP)) (congrArg (fun q => q.2) (Option.some.inj hP)) rfl
      · have hP := qc_ifF hP c2
        refine qj_aload_n cx dX7_freeAt_33 rfl rfl ?_
        refine qj_iload_n cx dX7_freeAt_34 rfl rfl ?_
        refine qj_iload cx dX7_freeAt_35 rfl ?_
        obtain ⟨q3, eq3, hP⟩ := Option.bind_eq_some_iff.mp hP
        refine qj_callV (As := [.int a1, .int a4]) (st := []) (t := 0) (h' := (q3.2, J, shM)) (r := some (.int q3.1)) cx dX7_freeAt_37 (c_X7_fitsAt (I := I) (J := J)  eq3) gc_RX7_387 qm_X7_fitsAt rfl rfl qc_cl7 rfl (Nat.le_of_ble_eq_true rfl) (by decide) (by decide) rfl (Nat.le_of_ble_eq_true rfl) (Nat.le_of_ble_eq_true rfl) hn0 rfl ?_
        refine qj_if_ne (tgt := 46) cx dX7_freeAt_40 (by decide) (fun c4 => ?_) (fun c4 => ?_)
        · have hP := qc_ifF hP c4
          refine qj_iload_n cx dX7_freeAt_46 rfl rfl ?_
          refine qj_if_ne (tgt := 53) cx dX7_freeAt_47 (by decide) (fun c5 => ?_) (fun c5 => ?_)
          · have hP := qc_ifF hP c5
            obtain ⟨x6, ex6, hP⟩ := qc_letE hP
            refine qj_iinc (v := x6) (ls1 := [some (.ref 0), some (.int a1), none, some (.int x6), some (.int a4)]) cx dX7_freeAt_53 rfl (by rw [ex6]; rfl) rfl rfl ?_
            exact L56 (P_X7_freeAt_24 f) ih q3.2 a1 x6 a4 hP
          · have hP := qc_ifT hP c5
            refine qj_iload cx dX7_freeAt_50 rfl ?_
            exact qw_iret cx hz dX7_freeAt_52 (Nat.zero_le _) (Nat.zero_le _) (congrArg (fun q => q.1) (Option.some.inj hP)) (congrArg (fun q => q.2) (Option.some.inj hP)) rfl
        · have hP := qc_ifT hP c4
          refine qj_goto (tgt := 56) cx dX7_freeAt_43 (by decide) ?_
          exact L56 (P_X7_freeAt_24 f) ih q3.2 a1 a3 a4 hP
  show qc_J F 0 0 0 [some (.ref 0), some (.int a), some (.int b), none, none] [] (I, J, shM)
  unfold P_X7_freeAt at hP
  refine qj_aload_n cx dX7_freeAt_0 rfl rfl ?_
  refine qj_iconst (v := (0 : Int32)) cx dX7_freeAt_1 (by decide) ?_
  obtain ⟨I7, eI7, hP⟩ := qc_letE hP
  refine qw_putI (j := 0) cx dX7_freeAt_2 qc_cl7 rfl (Nat.le_of_ble_eq_true rfl) rfl ww_1092 rfl rfl rfl eI7 ?_
  refine qj_aload_n cx dX7_freeAt_5 rfl rfl ?_
  refine qj_iload_n cx dX7_freeAt_6 rfl rfl ?_
  obtain ⟨q8, eq8, hP⟩ := Option.bind_eq_some_iff.mp hP
  refine qj_callV (As := [.int a]) (st := []) (t := 0) (h' := (I7, J, shM)) (r := some (.int q8)) cx dX7_freeAt_7 (c_X7_isUser (I := I7) (J := J)  eq8) gc_RX7_259 qm_X7_isUser rfl rfl qc_cl7 rfl (Nat.le_of_ble_eq_true rfl) (by decide) (by decide) rfl (Nat.le_of_ble_eq_true rfl) (Nat.le_of_ble_eq_true rfl) hn0 rfl ?_
  refine qj_if_eq (tgt := 17) cx dX7_freeAt_10 (by decide) (fun c9 => ?_) (fun c9 => ?_)
  · have hP := qc_ifT hP c9
    refine qj_iconst (v := (-1 : Int32)) cx dX7_freeAt_17 (by decide) ?_
    exact qw_iret cx hz dX7_freeAt_18 (Nat.zero_le _) (Nat.zero_le _) (congrArg (fun q => q.1) (Option.some.inj hP)) (congrArg (fun q => q.2) (Option.some.inj hP)) rfl
  · have hP := qc_ifF hP c9
    refine qj_iload_n cx dX7_freeAt_13 rfl rfl ?_
    refine qj_if_ge (tgt := 19) cx dX7_freeAt_14 (by decide) (fun c10 => ?_) (fun c10 => ?_)
    · have hP := qc_ifT hP c10
      refine qj_iload_n cx dX7_freeAt_19 rfl rfl ?_
      refine qj_istore_n (ls1 := [some (.ref 0), some (.int a), some (.int b), some (.int b), none]) cx dX7_freeAt_20 rfl rfl rfl rfl ?_
      refine qj_iconst (v := (1 : Int32)) cx dX7_freeAt_21 (by decide) ?_
      refine qj_istore (ls1 := [some (.ref 0), some (.int a), some (.int b), some (.int b), some (.int (1 : Int32))]) cx dX7_freeAt_22 rfl rfl rfl ?_
      refine qw_sub (ls1 := [some (.ref 0), some (.int a), none, some (.int b), some (.int (1 : Int32))]) rfl (qc_sb_ok ⟨rfl, rfl, rfl, rfl, trivial⟩) ?_
      exact L24 qc_fu I7 a b (1 : Int32) hP
    · have hP := qc_ifF hP c10
      refine qj_iconst (v := (-1 : Int32)) cx dX7_freeAt_17 (by decide) ?_
      exact qw_iret cx hz dX7_freeAt_18 (Nat.zero_le _) (Nat.zero_le _) (congrArg (fun q => q.1) (Option.some.inj hP)) (congrArg (fun q => q.2) (Option.some.inj hP)) rfl
def P_X7_noiseAt (I : Nat → Nat → Int32) (a : Int32) (b : Int32) : Option (Int32 × (Nat → Nat → Int32)) :=
  if qc_in ((0 : Int32) + a) 79 then
  qc_let (I 13 ((0 : Int32) + a).toNatClampNeg) fun x2 =>
  if qc_in ((0 : Int32) + a) 79 then
  qc_let (qc_u2 I 13 ((0 : Int32) + a).toNatClampNeg b) fun I3 =>
  (P_X7_laysProducts I3).bind fun q4 =>
  (P_X7_allHits q4).bind fun q5 =>
  (P_X7_allCrowds q4).bind fun q6 =>
  qc_let (q5 + q6) fun x7 =>
  if qc_in ((0 : Int32) + a) 79 then
  qc_let (qc_u2 q4 13 ((0 : Int32) + a).toNatClampNeg x2) fun I8 =>
  some (x7, I8)
  else none
  else none
  else none
set_option maxRecDepth 20000 in
theorem c_X7_noiseAt {I : Nat → Nat → Int32} {J : Nat → Nat → Int64}  {a : Int32} {b : Int32} {q0 : Int32 × (Nat → Nat → Int32)} (hP : P_X7_noiseAt I a b = some q0) : ∀ l, qc_M l yX7_noiseAt cX7_noiseAt 5 (some .int) 5 113 0 0 [.ref 0, .int a, .int b] (I, J, shM) (some (.int q0.1)) (q0.2, J, shM) := by
  intro l
  refine qc_ent2 (by decide) (Nat.le_of_ble_eq_true rfl) ?_
  intro F hn0 cx hz
  have cx : qc_X F cX7_noiseAt RX7 "noiseAt" 5 0 0 113 := cx
  show qc_J F 0 0 0 [some (.ref 0), some (.int a), some (.int b), none, none] [] (I, J, shM)
  unfold P_X7_noiseAt at hP
  refine qj_aload_n cx dX7_noiseAt_0 rfl rfl ?_
  refine qw_getR (j := 25) (t1 := 13) cx dX7_noiseAt_1 qc_cl7 rfl (Nat.le_of_ble_eq_true rfl) rfl ww_1117 rfl ?_
  refine qj_iconst (v := (0 : Int32)) cx dX7_noiseAt_4 (by decide) ?_
  refine qj_iload_n cx dX7_noiseAt_5 rfl rfl ?_
  refine qj_iadd cx dX7_noiseAt_6 ?_
  obtain ⟨c1, hP⟩ := qc_ck hP
  refine qw_iald cx dX7_noiseAt_7 rfl (Nat.le_of_ble_eq_true rfl) rfl c1 ?_
  obtain ⟨x2, ex2, hP⟩ := qc_letE hP
  refine qw_top ex2 ?_
  refine qj_istore_n (ls1 := [some (.ref 0), some (.int a), some (.int b), some (.int x2), none]) cx dX7_noiseAt_8 rfl rfl rfl rfl ?_
  refine qj_aload_n cx dX7_noiseAt_9 rfl rfl ?_
  refine qw_getR (j := 25) (t1 := 13) cx dX7_noiseAt_10 qc_cl7 rfl (Nat.le_of_ble_eq_true rfl) rfl ww_1117 rfl ?_
  refine qj_iconst (v := (0 : Int32)) cx dX7_noiseAt_13 (by decide) ?_
  refine qj_iload_n cx dX7_noiseAt_14 rfl rfl ?_
  refine qj_iadd cx dX7_noiseAt_15 ?_
  refine qj_iload_n cx dX7_noiseAt_16 rfl rfl ?_
  obtain ⟨c10, hP⟩ := qc_ck hP
  obtain ⟨I3, eI3, hP⟩ := qc_letE hP
  refine qw_iast cx dX7_noiseAt_17 rfl (Nat.le_of_ble_eq_true rfl) rfl c10 eI3 ?_
  refine qj_aload_n cx dX7_noiseAt_18 rfl rfl ?_
  obtain ⟨q4, eq4, hP⟩ := Option.bind_eq_some_iff.mp hP
  refine qj_callV (As := []) (st := []) (t := 0) (h' := (q4, J, shM)) (r := none) cx dX7_noiseAt_19 (c_X7_laysProducts (I := I3) (J := J)  eq4) gc_RX7_326 qm_X7_laysProducts rfl rfl qc_cl7 rfl (Nat.le_of_ble_eq_true rfl) (by decide) (by decide) rfl (Nat.le_of_ble_eq_true rfl) (Nat.le_of_ble_eq_true rfl) hn0 rfl ?_
  refine qj_aload_n cx dX7_noiseAt_22 rfl rfl ?_
  obtain ⟨q5, eq5, hP⟩ := Option.bind_eq_some_iff.mp hP
  refine qj_callV (As := []) (st := []) (t := 0) (h' := (q4, J, shM)) (r := some (.int q5)) cx dX7_noiseAt_23 (c_X7_allHits (I := q4) (J := J)  eq5) gc_RX7_381 qm_X7_allHits rfl rfl qc_cl7 rfl (Nat.le_of_ble_eq_true rfl) (by decide) (by decide) rfl (Nat.le_of_ble_eq_true rfl) (Nat.le_of_ble_eq_true rfl) hn0 rfl ?_
  refine qj_aload_n cx dX7_noiseAt_26 rfl rfl ?_
  obtain ⟨q6, eq6, hP⟩ := Option.bind_eq_some_iff.mp hP
  refine qj_callV (As := []) (st := [.int q5]) (t := 0) (h' := (q4, J, shM)) (r := some (.int q6)) cx dX7_noiseAt_27 (c_X7_allCrowds (I := q4) (J := J)  eq6) gc_RX7_384 qm_X7_allCrowds rfl rfl qc_cl7 rfl (Nat.le_of_ble_eq_true rfl) (by decide) (by decide) rfl (Nat.le_of_ble_eq_true rfl) (Nat.le_of_ble_eq_true rfl) hn0 rfl ?_
  refine qj_iadd cx dX7_noiseAt_30 ?_
  obtain ⟨x7, ex7, hP⟩ := qc_letE hP
  refine qw_top ex7 ?_
  refine qj_istore (ls1 := [some (.ref 0), some (.int a), some (.int b), some (.int x2), some (.int x7)]) cx dX7_noiseAt_31 rfl rfl rfl ?_
  refine qj_aload_n cx dX7_noiseAt_33 rfl rfl ?_
  refine qw_getR (j := 25) (t1 := 13) cx dX7_noiseAt_34 qc_cl7 rfl (Nat.le_of_ble_eq_true rfl) rfl ww_1117 rfl ?_
  refine qj_iconst (v := (0 : Int32)) cx dX7_noiseAt_37 (by decide) ?_
  refine qj_iload_n cx dX7_noiseAt_38 rfl rfl ?_
  refine qj_iadd cx dX7_noiseAt_39 ?_
  refine qj_iload_n cx dX7_noiseAt_40 rfl rfl ?_
  obtain ⟨c9, hP⟩ := qc_ck hP
  obtain ⟨I8, eI8, hP⟩ := qc_letE hP
  refine qw_iast cx dX7_noiseAt_41 rfl (Nat.le_of_ble_eq_true rfl) rfl c9 eI8 ?_
  refine qj_iload cx dX7_noiseAt_42 rfl ?_
  exact qw_iret cx hz dX7_noiseAt_44 (Nat.zero_le _) (Nat.zero_le _) (congrArg (fun q => q.1) (Option.some.inj hP)) (congrArg (fun q => q.2) (Option.some.inj hP)) rfl
def P_X7_quietest_86 (k28 : (Nat → Nat → Int32) → Int32 → Int32 → Int32 → Int32 → Option (Int32 × (Nat → Nat → Int32))) (I : (Nat → Nat → Int32)) (a1 : Int32) (a2 : Int32) (a3 : Int32) (a4 : Int32) : Option (Int32 × (Nat → Nat → Int32)) :=
  qc_let (a4 + (1 : Int32)) fun x1 =>
  k28 I a1 a2 a3 x1
def P_X7_quietest_80 (k28 : (Nat → Nat → Int32) → Int32 → Int32 → Int32 → Int32 → Option (Int32 × (Nat → Nat → Int32))) (I : (Nat → Nat → Int32)) (a1 : Int32) (a4 : Int32) (a5 : Int32) : Option (Int32 × (Nat → Nat → Int32)) :=
  P_X7_quietest_86 k28 I a1 a4 a5 a4
def P_X7_quietest_28  : Nat → (Nat → Nat → Int32) → Int32 → Int32 → Int32 → Int32 → Option (Int32 × (Nat → Nat → Int32))
  | 0, _, _, _, _, _ => none
  | f + 1, I, a1, a2, a3, a4 =>
  if qc_in a1 12 then
  if I 8 a1.toNatClampNeg < a4 then
  some (a2, I)
  else
  if qc_in ((12 : Int32) + a4) 79 then
  if I 13 ((12 : Int32) + a4).toNatClampNeg = (1 : Int32) then
  P_X7_quietest_86 (P_X7_quietest_28 f) I a1 a2 a3 a4
  else
  (P_X7_noiseAt I a1 a4).bind fun q6 =>
  if a2 = (-2 : Int32) then
  P_X7_quietest_80 (P_X7_quietest_28 f) q6.2 a1 a4 q6.1
  else
  if q6.1 < a3 then
  P_X7_quietest_80 (P_X7_quietest_28 f) q6.2 a1 a4 q6.1
  else
  P_X7_quietest_86 (P_X7_quietest_28 f) q6.2 a1 a2 a3 a4
  else none
  else none
def P_X7_quietest (I : Nat → Nat → Int32) (a : Int32) : Option (Int32 × (Nat → Nat → Int32)) :=
  qc_let (qc_u2 I 0 0 (0 : Int32)) fun I9 =>
  (P_X7_isUser I9 a).bind fun q10 =>
  if q10 = 0 then
  some ((-1 : Int32), I9)
  else
  if qc_in a 12 then
  qc_let (I9 7 a.toNatClampNeg) fun x13 =>
  P_X7_quietest_28 qc_fu I9 a (-2 : Int32) (0 : Int32) x13
  else none
set_option maxRecDepth 20000 in
theorem c_X7_quietest {I : Nat → Nat → Int32} {J : Nat → Nat → Int64}  {a : Int32} {q0 : Int32 × (Nat → Nat → Int32)} (hP : P_X7_quietest I a = some q0) : ∀ l, qc_M l yX7_quietest cX7_quietest 6 (some .int) 6 137 0 0 [.ref 0, .int a] (I, J, shM) (some (.int q0.1)) (q0.2, J, shM) := by
  intro l
  refine qc_ent2 (by decide) (Nat.le_of_ble_eq_true rfl) ?_
  intro F hn0 cx hz
  have cx : qc_X F cX7_quietest RX7 "quietest" 6 0 0 137 := cx
  have L86 : ∀ (k28 : (Nat → Nat → Int32) → Int32 → Int32 → Int32 → Int32 → Option (Int32 × (Nat → Nat → Int32))) (g28 : ∀ (I : Nat → Nat → Int32) (a1 : Int32) (a2 : Int32) (a3 : Int32) (a4 : Int32), k28 I a1 a2 a3 a4 = some q0 → qc_J F 0 0 28 [some (.ref 0), some (.int a1), some (.int a2), some (.int a3), some (.int a4), none] [] (I, J, shM)) (I : (Nat → Nat → Int32)) (a1 : Int32) (a2 : Int32) (a3 : Int32) (a4 : Int32), P_X7_quietest_86 k28 I a1 a2 a3 a4 = some q0 → qc_J F 0 0 86 [some (.ref 0), some (.int a1), some (.int a2), some (.int a3), some (.int a4), none] [] (I, J, shM) := by
    intro k28 g28 I a1 a2 a3 a4 hP
    unfold P_X7_quietest_86 at hP
    obtain ⟨x1, ex1, hP⟩ := qc_letE hP
    refine qj_iinc (v := x1) (ls1 := [some (.ref 0), some (.int a1), some (.int a2), some (.int a3), some (.int x1), none]) cx dX7_quietest_86 rfl (by rw [ex1]; rfl) rfl rfl ?_
    refine qj_goto (tgt := 28) cx dX7_quietest_89 (by decide) ?_
    exact g28 I a1 a2 a3 x1 hP
  have L80 : ∀ (k28 : (Nat → Nat → Int32) → Int32 → Int32 → Int32 → Int32 → Option (Int32 × (Nat → Nat → Int32))) (g28 : ∀ (I : Nat → Nat → Int32) (a1 : Int32) (a2 : Int32) (a3 : Int32) (a4 : Int32), k28 I a1 a2 a3 a4 = some q0 → qc_J F 0 0 28 [some (.ref 0), some (.int a1), some (.int a2), some (.int a3), some (.int a4), none] [] (I, J, shM)) (I : (Nat → Nat → Int32)) (a1 : Int32) (a4 : Int32) (a5 : Int32), P_X7_quietest_80 k28 I a1 a4 a5 = some q0 → qc_J F 0 0 80 [some (.ref 0), some (.int a1), none, none, some (.int a4), some (.int a5)] [] (I, J, shM) := by
    intro k28 g28 I a1 a4 a5 hP
    unfold P_X7_quietest_80 at hP
    refine qj_iload cx dX7_quietest_80 rfl ?_
    refine qj_istore_n (ls1 := [some (.ref 0), some (.int a1), some (.int a4), none, some (.int a4), some (.int a5)]) cx dX7_quietest_82 rfl rfl rfl rfl ?_
    refine qj_iload cx dX7_quietest_83 rfl ?_
    refine qj_istore_n (ls1 := [some (.ref 0), some (.int a1), some (.int a4), some (.int a5), some (.int a4), some (.int a5)]) cx dX7_quietest_85 rfl rfl rfl rfl ?_
    refine qw_sub (ls1 := [some (.ref 0), some (.int a1), some (.int a4), some (.int a5), some (.int a4), none]) rfl (qc_sb_ok ⟨rfl, rfl, rfl, rfl, rfl, trivial⟩) ?_
    exact L86 k28 g28 I a1 a4 a5 a4 hP
  have L28 : ∀  (f : Nat) (I : (Nat → Nat → Int32)) (a1 : Int32) (a2 : Int32) (a3 : Int32) (a4 : Int32), P_X7_quietest_28 f I a1 a2 a3 a4 = some q0 → qc_J F 0 0 28 [some (.ref 0), some (.int a1), some (.int a2), some (.int a3), some (.int a4), none] [] (I, J, shM) := by
    intro  f
    induction f with
    | zero => intro I a1 a2 a3 a4 hP; cases hP
    | succ f ih =>
      intro I a1 a2 a3 a4 hP
      rw [P_X7_quietest_28] at hP
      refine qj_iload cx dX7_quietest_28 rfl ?_
      refine qj_aload_n cx dX7_quietest_30 rfl rfl ?_
      refine qw_getR (j := 9) (t1 := 8) cx dX7_quietest_31 qc_cl7 rfl (Nat.le_of_ble_eq_true rfl) rfl ww_1101 rfl ?_
      refine qj_iload_n cx dX7_quietest_34 rfl rfl ?_
      obtain ⟨c2, hP⟩ := qc_ck hP
      refine qw_iald cx dX7_quietest_35 rfl (Nat.le_of_ble_eq_true rfl) rfl c2 ?_
      refine qj_icmp_gt (tgt := 92) cx dX7_quietest_36 (by decide) (fun c3 => ?_) (fun c3 => ?_)
      · have hP := qc_ifT hP c3
        refine qj_iload_n cx dX7_quietest_92 rfl rfl ?_
        exact qw_iret cx hz dX7_quietest_93 (Nat.zero_le _) (Nat.zero_le _) (congrArg (fun q => q.1) (Option.some.inj hP)) (congrArg (fun q => q.2) (Option.some.inj hP)) rfl
      · have hP := qc_ifF hP c3
        refine qj_aload_n cx dX7_quietest_39 rfl rfl ?_
        refine qw_getR (j := 25) (t1 := 13) cx dX7_quietest_40 qc_cl7 rfl (Nat.le_of_ble_eq_true rfl) rfl ww_1117 rfl ?_
        refine qj_bipush (v := (12 : Int32)) cx dX7_quietest_43 (by decide) ?_
        refine qj_iload cx dX7_quietest_45 rfl ?_
        refine qj_iadd cx dX7_quietest_47 ?_
        obtain ⟨c4, hP⟩ := qc_ck hP
        refine qw_iald cx dX7_quietest_48 rfl (Nat.le_of_ble_eq_true rfl) rfl c4 ?_
        refine qj_iconst (v := (1 : Int32)) cx dX7_quietest_49 (by decide) ?_
        refine qj_icmp_ne (tgt := 56) cx dX7_quietest_50 (by decide) (fun c5 => ?_) (fun c5 => ?_)
        · have hP := qc_ifF hP c5
          refine qj_aload_n cx dX7_quietest_56 rfl rfl ?_
          refine qj_iload_n cx dX7_quietest_57 rfl rfl ?_
          refine qj_iload cx dX7_quietest_58 rfl ?_
          obtain ⟨q6, eq6, hP⟩ := Option.bind_eq_some_iff.mp hP
          refine qj_callV (As := [.int a1, .int a4]) (st := []) (t := 0) (h' := (q6.2, J, shM)) (r := some (.int q6.1)) cx dX7_quietest_60 (c_X7_noiseAt (I := I) (J := J)  eq6) gc_RX7_390 qm_X7_noiseAt rfl rfl qc_cl7 rfl (Nat.le_of_ble_eq_true rfl) (by decide) (by decide) rfl (Nat.le_of_ble_eq_true rfl) (Nat.le_of_ble_eq_true rfl) hn0 rfl ?_
          refine qj_istore (ls1 := [some (.ref 0), some (.int a1), some (.int a2), some (.int a3), some (.int a4), some (.int q6.1)]) cx dX7_quietest_63 rfl rfl rfl ?_
          refine qj_iload_n cx dX7_quietest_65 rfl rfl ?_
          refine qj_bipush (v := (-2 : Int32)) cx dX7_quietest_66 (by decide) ?_
          refine qj_icmp_eq (tgt := 80) cx dX7_quietest_68 (by decide) (fun c7 => ?_) (fun c7 => ?_)
          · have hP := qc_ifT hP c7
            refine qw_sub (ls1 := [some (.ref 0), some (.int a1), none, none, some (.int a4), some (.int q6.1)]) rfl (qc_sb_ok ⟨rfl, rfl, rfl, rfl, trivial⟩) ?_
            exact L80 (P_X7_quietest_28 f) ih q6.2 a1 a4 q6.1 hP
          · have hP := qc_ifF hP c7
            refine qj_iload cx dX7_quietest_71 rfl ?_
            refine qj_iload_n cx dX7_quietest_73 rfl rfl ?_
            refine qj_icmp_lt (tgt := 80) cx dX7_quietest_74 (by decide) (fun c8 => ?_) (fun c8 => ?_)
            · have hP := qc_ifT hP c8
              refine qw_sub (ls1 := [some (.ref 0), some (.int a1), none, none, some (.int a4), some (.int q6.1)]) rfl (qc_sb_ok ⟨rfl, rfl, rfl, rfl, trivial⟩) ?_
              exact L80 (P_X7_quietest_28 f) ih q6.2 a1 a4 q6.1 hP
            · have hP := qc_ifF hP c8
              refine qj_goto (tgt := 86) cx dX7_quietest_77 (by decide) ?_
              refine qw_sub (ls1 := [some (.ref 0), some (.int a1), some (.int a2), some (.int a3), some (.int a4), none]) rfl (qc_sb_ok ⟨rfl, rfl, rfl, rfl, rfl, trivial⟩) ?_
              exact L86 (P_X7_quietest_28 f) ih q6.2 a1 a2 a3 a4 hP
        · have hP := qc_ifT hP c5
          refine qj_goto (tgt := 86) cx dX7_quietest_53 (by decide) ?_
          exact L86 (P_X7_quietest_28 f) ih I a1 a2 a3 a4 hP
  show qc_J F 0 0 0 [some (.ref 0), some (.int a), none, none, none, none] [] (I, J, shM)
  unfold P_X7_quietest at hP
  refine qj_aload_n cx dX7_quietest_0 rfl rfl ?_
  refine qj_iconst (v := (0 : Int32)) cx dX7_quietest_1 (by decide) ?_
  obtain ⟨I9, eI9, hP⟩ := qc_letE hP
  refine qw_putI (j := 0) cx dX7_quietest_2 qc_cl7 rfl (Nat.le_of_ble_eq_true rfl) rfl ww_1092 rfl rfl rfl eI9 ?_
  refine qj_aload_n cx dX7_quietest_5 rfl rfl ?_
  refine qj_iload_n cx dX7_quietest_6 rfl rfl ?_
  obtain ⟨q10, eq10, hP⟩ := Option.bind_eq_some_iff.mp hP
  refine qj_callV (As := [.int a]) (st := []) (t := 0) (h' := (I9, J, shM)) (r := some (.int q10)) cx dX7_quietest_7 (c_X7_isUser (I := I9) (J := J)  eq10) gc_RX7_259 qm_X7_isUser rfl rfl qc_cl7 rfl (Nat.le_of_ble_eq_true rfl) (by decide) (by decide) rfl (Nat.le_of_ble_eq_true rfl) (Nat.le_of_ble_eq_true rfl) hn0 rfl ?_
  refine qj_if_ne (tgt := 15) cx dX7_quietest_10 (by decide) (fun c11 => ?_) (fun c11 => ?_)
  · have hP := qc_ifF hP c11
    refine qj_bipush (v := (-2 : Int32)) cx dX7_quietest_15 (by decide) ?_
    refine qj_istore_n (ls1 := [some (.ref 0), some (.int a), some (.int (-2 : Int32)), none, none, none]) cx dX7_quietest_17 rfl rfl rfl rfl ?_
    refine qj_iconst (v := (0 : Int32)) cx dX7_quietest_18 (by decide) ?_
    refine qj_istore_n (ls1 := [some (.ref 0), some (.int a), some (.int (-2 : Int32)), some (.int (0 : Int32)), none, none]) cx dX7_quietest_19 rfl rfl rfl rfl ?_
    refine qj_aload_n cx dX7_quietest_20 rfl rfl ?_
    refine qw_getR (j := 8) (t1 := 7) cx dX7_quietest_21 qc_cl7 rfl (Nat.le_of_ble_eq_true rfl) rfl ww_1100 rfl ?_
    refine qj_iload_n cx dX7_quietest_24 rfl rfl ?_
    obtain ⟨c12, hP⟩ := qc_ck hP
    refine qw_iald cx dX7_quietest_25 rfl (Nat.le_of_ble_eq_true rfl) rfl c12 ?_
    obtain ⟨x13, ex13, hP⟩ := qc_letE hP
    refine qw_top ex13 ?_
    refine qj_istore (ls1 := [some (.ref 0), some (.int a), some (.int (-2 : Int32)), some (.int (0 : Int32)), some (.int x13), none]) cx dX7_quietest_26 rfl rfl rfl ?_
    exact L28 qc_fu I9 a (-2 : Int32) (0 : Int32) x13 hP
  · have hP := qc_ifT hP c11
    refine qj_iconst (v := (-1 : Int32)) cx dX7_quietest_13 (by decide) ?_
    exact qw_iret cx hz dX7_quietest_14 (Nat.zero_le _) (Nat.zero_le _) (congrArg (fun q => q.1) (Option.some.inj hP)) (congrArg (fun q => q.2) (Option.some.inj hP)) rfl
def P_X7_ifTuned (I : Nat → Nat → Int32) (a : Int32) (b : Int32) : Option (Int32 × (Nat → Nat → Int32)) :=
  qc_let (qc_u2 I 0 0 (0 : Int32)) fun I1 =>
  (P_X7_isUser I1 a).bind fun q2 =>
  if q2 = 0 then
  some ((-1 : Int32), I1)
  else
  if b = 0 then
  (P_X7_noiseAt I1 a b).bind fun q5 =>
  some (q5.1, q5.2)
  else
  (P_X7_isChannel I1 b).bind fun q6 =>
  if q6 = 0 then
  some ((-1 : Int32), I1)
  else
  (P_X7_noiseAt I1 a b).bind fun q8 =>
  some (q8.1, q8.2)
set_option maxRecDepth 20000 in
theorem c_X7_ifTuned {I : Nat → Nat → Int32} {J : Nat → Nat → Int64}  {a : Int32} {b : Int32} {q0 : Int32 × (Nat → Nat → Int32)} (hP : P_X7_ifTuned I a b = some q0) : ∀ l, qc_M l yX7_ifTuned cX7_ifTuned 3 (some .int) 6 137 0 0 [.ref 0, .int a, .int b] (I, J, shM) (some (.int q0.1)) (q0.2, J, shM) := by
  intro l
  refine qc_ent2 (by decide) (Nat.le_of_ble_eq_true rfl) ?_
  intro F hn0 cx hz
  have cx : qc_X F cX7_ifTuned RX7 "ifTuned" 6 0 0 137 := cx
  show qc_J F 0 0 0 [some (.ref 0), some (.int a), some (.int b)] [] (I, J, shM)
  unfold P_X7_ifTuned at hP
  refine qj_aload_n cx dX7_ifTuned_0 rfl rfl ?_
  refine qj_iconst (v := (0 : Int32)) cx dX7_ifTuned_1 (by decide) ?_
  obtain ⟨I1, eI1, hP⟩ := qc_letE hP
  refine qw_putI (j := 0) cx dX7_ifTuned_2 qc_cl7 rfl (Nat.le_of_ble_eq_true rfl) rfl ww_1092 rfl rfl rfl eI1 ?_
  refine qj_aload_n cx dX7_ifTuned_5 rfl rfl ?_
  refine qj_iload_n cx dX7_ifTuned_6 rfl rfl ?_
  obtain ⟨q2, eq2, hP⟩ := Option.bind_eq_some_iff.mp hP
  refine qj_callV (As := [.int a]) (st := []) (t := 0) (h' := (I1, J, shM)) (r := some (.int q2)) cx dX7_ifTuned_7 (c_X7_isUser (I := I1) (J := J)  eq2) gc_RX7_259 qm_X7_isUser rfl rfl qc_cl7 rfl (Nat.le_of_ble_eq_true rfl) (by decide) (by decide) rfl (Nat.le_of_ble_eq_true rfl) (Nat.le_of_ble_eq_true rfl) hn0 rfl ?_
  refine qj_if_eq (tgt := 25) cx dX7_ifTuned_10 (by decide) (fun c3 => ?_) (fun c3 => ?_)
  · have hP := qc_ifT hP c3
    refine qj_iconst (v := (-1 : Int32)) cx dX7_ifTuned_25 (by decide) ?_
    exact qw_iret cx hz dX7_ifTuned_26 (Nat.zero_le _) (Nat.zero_le _) (congrArg (fun q => q.1) (Option.some.inj hP)) (congrArg (fun q => q.2) (Option.some.inj hP)) rfl
  · have hP := qc_ifF hP c3
    refine qj_iload_n cx dX7_ifTuned_13 rfl rfl ?_
    refine qj_if_eq (tgt := 27) cx dX7_ifTuned_14 (by decide) (fun c4 => ?_) (fun c4 => ?_)
    · have hP := qc_ifT hP c4
      refine qj_aload_n cx dX7_ifTuned_27 rfl rfl ?_
      refine qj_iload_n cx dX7_ifTuned_28 rfl rfl ?_
      refine qj_iload_n cx dX7_ifTuned_29 rfl rfl ?_
      obtain ⟨q5, eq5, hP⟩ := Option.bind_eq_some_iff.mp hP
      refine qj_callV (As := [.int a, .int b]) (st := []) (t := 0) (h' := (q5.2, J, shM)) (r := some (.int q5.1)) cx dX7_ifTuned_30 (c_X7_noiseAt (I := I1) (J := J)  eq5) gc_RX7_390 qm_X7_noiseAt rfl rfl qc_cl7 rfl (Nat.le_of_ble_eq_true rfl) (by decide) (by decide) rfl (Nat.le_of_ble_eq_true rfl) (Nat.le_of_ble_eq_true rfl) hn0 rfl ?_
      exact qw_iret cx hz dX7_ifTuned_33 (Nat.zero_le _) (Nat.zero_le _) (congrArg (fun q => q.1) (Option.some.inj hP)) (congrArg (fun q => q.2) (Option.some.inj hP)) rfl
    · have hP := qc_ifF hP c4
      refine qj_aload_n cx dX7_ifTuned_17 rfl rfl ?_
      refine qj_iload_n cx dX7_ifTuned_18 rfl rfl ?_
      obtain ⟨q6, eq6, hP⟩ := Option.bind_eq_some_iff.mp hP
      refine qj_callV (As := [.int b]) (st := []) (t := 0) (h' := (I1, J, shM)) (r := some (.int q6)) cx dX7_ifTuned_19 (c_X7_isChannel (I := I1) (J := J)  eq6) gc_RX7_262 qm_X7_isChannel rfl rfl qc_cl7 rfl (Nat.le_of_ble_eq_true rfl) (by decide) (by decide) rfl (Nat.le_of_ble_eq_true rfl) (Nat.le_of_ble_eq_true rfl) hn0 rfl ?_
      refine qj_if_ne (tgt := 27) cx dX7_ifTuned_22 (by decide) (fun c7 => ?_) (fun c7 => ?_)
      · have hP := qc_ifF hP c7
        refine qj_aload_n cx dX7_ifTuned_27 rfl rfl ?_
        refine qj_iload_n cx dX7_ifTuned_28 rfl rfl ?_
        refine qj_iload_n cx dX7_ifTuned_29 rfl rfl ?_
        obtain ⟨q8, eq8, hP⟩ := Option.bind_eq_some_iff.mp hP
        refine qj_callV (As := [.int a, .int b]) (st := []) (t := 0) (h' := (q8.2, J, shM)) (r := some (.int q8.1)) cx dX7_ifTuned_30 (c_X7_noiseAt (I := I1) (J := J)  eq8) gc_RX7_390 qm_X7_noiseAt rfl rfl qc_cl7 rfl (Nat.le_of_ble_eq_true rfl) (by decide) (by decide) rfl (Nat.le_of_ble_eq_true rfl) (Nat.le_of_ble_eq_true rfl) hn0 rfl ?_
        exact qw_iret cx hz dX7_ifTuned_33 (Nat.zero_le _) (Nat.zero_le _) (congrArg (fun q => q.1) (Option.some.inj hP)) (congrArg (fun q => q.2) (Option.some.inj hP)) rfl
      · have hP := qc_ifT hP c7
        refine qj_iconst (v := (-1 : Int32)) cx dX7_ifTuned_25 (by decide) ?_
        exact qw_iret cx hz dX7_ifTuned_26 (Nat.zero_le _) (Nat.zero_le _) (congrArg (fun q => q.1) (Option.some.inj hP)) (congrArg (fun q => q.2) (Option.some.inj hP)) rfl
def P_X7_madeBy_4 (I : Nat → Nat → Int32) : Nat → Int32 → Int32 → Int32 → Option (Int32)
  | 0, _, _, _ => none
  | f + 1, a1, a2, a3 =>
  if I 0 41 ≤ a3 then
  some a2
  else
  (P_X7_isIn I a3 a1).bind fun q2 =>
  (if q2 = 0 then
  some (0 : Int32)
  else
  (P_X7_hitsOf I a3).bind fun q5 =>
  (P_X7_bits q5).bind fun q6 =>
  some q6).bind fun v4 =>
  qc_let (a2 + v4) fun x7 =>
  qc_let (a3 + (1 : Int32)) fun x8 =>
  P_X7_madeBy_4 I f a1 x7 x8
def P_X7_madeBy (I : Nat → Nat → Int32) (a : Int32) : Option (Int32) :=
  P_X7_madeBy_4 I qc_fu a (0 : Int32) (0 : Int32)
set_option maxRecDepth 20000 in
theorem c_X7_madeBy {I : Nat → Nat → Int32} {J : Nat → Nat → Int64}  {a : Int32} {q0 : Int32} (hP : P_X7_madeBy I a = some q0) : ∀ l, qc_M l yX7_madeBy cX7_madeBy 4 (some .int) 4 91 0 0 [.ref 0, .int a] (I, J, shM) (some (.int q0)) (I, J, shM) := by
  intro l
  refine qc_ent2 (by decide) (Nat.le_of_ble_eq_true rfl) ?_
  intro F hn0 cx hz
  have cx : qc_X F cX7_madeBy RX7 "madeBy" 4 0 0 91 := cx
  have L4 : ∀  (f : Nat) (a1 : Int32) (a2 : Int32) (a3 : Int32), P_X7_madeBy_4 I f a1 a2 a3 = some q0 → qc_J F 0 0 4 [some (.ref 0), some (.int a1), some (.int a2), some (.int a3)] [] (I, J, shM) := by
    intro  f
    induction f with
    | zero => intro a1 a2 a3 hP; cases hP
    | succ f ih =>
      intro a1 a2 a3 hP
      rw [P_X7_madeBy_4] at hP
      refine qj_iload_n cx dX7_madeBy_4 rfl rfl ?_
      refine qj_aload_n cx dX7_madeBy_5 rfl rfl ?_
      refine qw_getI (j := 41) cx dX7_madeBy_6 qc_cl7 rfl (Nat.le_of_ble_eq_true rfl) rfl ww_1133 ?_
      refine qj_icmp_ge (tgt := 42) cx dX7_madeBy_9 (by decide) (fun c1 => ?_) (fun c1 => ?_)
      · have hP := qc_ifT hP c1
        refine qj_iload_n cx dX7_madeBy_42 rfl rfl ?_
        exact qw_iret cx hz dX7_madeBy_43 (Nat.zero_le _) (Nat.zero_le _) (Option.some.inj hP) rfl rfl
      · have hP := qc_ifF hP c1
        refine qj_iload_n cx dX7_madeBy_12 rfl rfl ?_
        refine qj_aload_n cx dX7_madeBy_13 rfl rfl ?_
        refine qj_iload_n cx dX7_madeBy_14 rfl rfl ?_
        refine qj_iload_n cx dX7_madeBy_15 rfl rfl ?_
        obtain ⟨q2, eq2, hP⟩ := Option.bind_eq_some_iff.mp hP
        refine qj_callV (As := [.int a3, .int a1]) (st := [.int a2]) (t := 0) (h' := (I, J, shM)) (r := some (.int q2)) cx dX7_madeBy_16 (c_X7_isIn (I := I) (J := J)  eq2) gc_RX7_302 qm_X7_isIn rfl rfl qc_cl7 rfl (Nat.le_of_ble_eq_true rfl) (by decide) (by decide) rfl (Nat.le_of_ble_eq_true rfl) (Nat.le_of_ble_eq_true rfl) hn0 rfl ?_
        obtain ⟨v4, hv4, hP⟩ := Option.bind_eq_some_iff.mp hP
        have Kv4 : qc_J F 0 0 34 [some (.ref 0), some (.int a1), some (.int a2), some (.int a3)] [.int v4, .int a2] (I, J, shM) := by
          refine qj_iadd cx dX7_madeBy_34 ?_
          obtain ⟨x7, ex7, hP⟩ := qc_letE hP
          refine qw_top ex7 ?_
          refine qj_istore_n (ls1 := [some (.ref 0), some (.int a1), some (.int x7), some (.int a3)]) cx dX7_madeBy_35 rfl rfl rfl rfl ?_
          obtain ⟨x8, ex8, hP⟩ := qc_letE hP
          refine qj_iinc (v := x8) (ls1 := [some (.ref 0), some (.int a1), some (.int x7), some (.int x8)]) cx dX7_madeBy_36 rfl (by rw [ex8]; rfl) rfl rfl ?_
          refine qj_goto (tgt := 4) cx dX7_madeBy_39 (by decide) ?_
          exact ih a1 x7 x8 hP
        refine qj_if_eq (tgt := 33) cx dX7_madeBy_19 (by decide) (fun c3 => ?_) (fun c3 => ?_)
        · have hv4 := qc_ifT hv4 c3
          refine qj_iconst (v := (0 : Int32)) cx dX7_madeBy_33 (by decide) ?_
          exact qw_top (Option.some.inj hv4).symm Kv4
        · have hv4 := qc_ifF hv4 c3
          refine qj_aload_n cx dX7_madeBy_22 rfl rfl ?_
          refine qj_iload_n cx dX7_madeBy_23 rfl rfl ?_
          obtain ⟨q5, eq5, hv4⟩ := Option.bind_eq_some_iff.mp hv4
          refine qj_callV (As := [.int a3]) (st := [.int a2]) (t := 0) (h' := (I, J, shM)) (r := some (.int q5)) cx dX7_madeBy_24 (c_X7_hitsOf (I := I) (J := J)  eq5) gc_RX7_308 qm_X7_hitsOf rfl rfl qc_cl7 rfl (Nat.le_of_ble_eq_true rfl) (by decide) (by decide) rfl (Nat.le_of_ble_eq_true rfl) (Nat.le_of_ble_eq_true rfl) hn0 rfl ?_
          obtain ⟨q6, eq6, hv4⟩ := Option.bind_eq_some_iff.mp hv4
          refine qj_callS (As := [.int q5]) (st := [.int a2]) (h' := (I, J, shM)) (r := some (.int q6)) cx dX7_madeBy_27 (c_X7_bits (S := shM) (I := I) (J := J) eq6) gc_RX7_311 qm_X7_bits rfl (by decide) (by decide) rfl (Nat.le_of_ble_eq_true rfl) (Nat.le_of_ble_eq_true rfl) hn0 rfl ?_
          refine qj_goto (tgt := 34) cx dX7_madeBy_30 (by decide) ?_
          exact qw_top (Option.some.inj hv4).symm Kv4
  show qc_J F 0 0 0 [some (.ref 0), some (.int a), none, none] [] (I, J, shM)
  unfold P_X7_madeBy at hP
  refine qj_iconst (v := (0 : Int32)) cx dX7_madeBy_0 (by decide) ?_
  refine qj_istore_n (ls1 := [some (.ref 0), some (.int a), some (.int (0 : Int32)), none]) cx dX7_madeBy_1 rfl rfl rfl rfl ?_
  refine qj_iconst (v := (0 : Int32)) cx dX7_madeBy_2 (by decide) ?_
  refine qj_istore_n (ls1 := [some (.ref 0), some (.int a), some (.int (0 : Int32)), some (.int (0 : Int32))]) cx dX7_madeBy_3 rfl rfl rfl rfl ?_
  exact L4 qc_fu a (0 : Int32) (0 : Int32) hP
def P_X7_worstNow_40 (k11 : (Nat → Nat → Int32) → Int32 → Int32 → Int32 → Option (Int32 × (Nat → Nat → Int32))) (I : (Nat → Nat → Int32)) (a1 : Int32) (a2 : Int32) (a3 : Int32) : Option (Int32 × (Nat → Nat → Int32)) :=
  qc_let (a3 + (1 : Int32)) fun x1 =>
  k11 I a1 a2 x1
def P_X7_worstNow_11  : Nat → (Nat → Nat → Int32) → Int32 → Int32 → Int32 → Option (Int32 × (Nat → Nat → Int32))
  | 0, _, _, _, _ => none
  | f + 1, I, a1, a2, a3 =>
  (P_X7_users I).bind fun q2 =>
  if q2 ≤ a3 then
  some (a1, I)
  else
  (P_X7_madeBy I a3).bind fun q4 =>
  if a2 < q4 then
  P_X7_worstNow_40 (P_X7_worstNow_11 f) I a3 q4 a3
  else
  P_X7_worstNow_40 (P_X7_worstNow_11 f) I a1 a2 a3
def P_X7_worstNow (I : Nat → Nat → Int32) : Option (Int32 × (Nat → Nat → Int32)) :=
  (P_X7_laysProducts I).bind fun q6 =>
  P_X7_worstNow_11 qc_fu q6 (-2 : Int32) (0 : Int32) (0 : Int32)
set_option maxRecDepth 20000 in
theorem c_X7_worstNow {I : Nat → Nat → Int32} {J : Nat → Nat → Int64}   {q0 : Int32 × (Nat → Nat → Int32)} (hP : P_X7_worstNow I = some q0) : ∀ l, qc_M l yX7_worstNow cX7_worstNow 5 (some .int) 5 114 0 0 [.ref 0] (I, J, shM) (some (.int q0.1)) (q0.2, J, shM) := by
  intro l
  refine qc_ent2 (by decide) (Nat.le_of_ble_eq_true rfl) ?_
  intro F hn0 cx hz
  have cx : qc_X F cX7_worstNow RX7 "worstNow" 5 0 0 114 := cx
  have L40 : ∀ (k11 : (Nat → Nat → Int32) → Int32 → Int32 → Int32 → Option (Int32 × (Nat → Nat → Int32))) (g11 : ∀ (I : Nat → Nat → Int32) (a1 : Int32) (a2 : Int32) (a3 : Int32), k11 I a1 a2 a3 = some q0 → qc_J F 0 0 11 [some (.ref 0), some (.int a1), some (.int a2), some (.int a3), none] [] (I, J, shM)) (I : (Nat → Nat → Int32)) (a1 : Int32) (a2 : Int32) (a3 : Int32), P_X7_worstNow_40 k11 I a1 a2 a3 = some q0 → qc_J F 0 0 40 [some (.ref 0), some (.int a1), some (.int a2), some (.int a3), none] [] (I, J, shM) := by
    intro k11 g11 I a1 a2 a3 hP
    unfold P_X7_worstNow_40 at hP
    obtain ⟨x1, ex1, hP⟩ := qc_letE hP
    refine qj_iinc (v := x1) (ls1 := [some (.ref 0), some (.int a1), some (.int a2), some (.int x1), none]) cx dX7_worstNow_40 rfl (by rw [ex1]; rfl) rfl rfl ?_
    refine qj_goto (tgt := 11) cx dX7_worstNow_43 (by decide) ?_
    exact g11 I a1 a2 x1 hP
  have L11 : ∀  (f : Nat) (I : (Nat → Nat → Int32)) (a1 : Int32) (a2 : Int32) (a3 : Int32), P_X7_worstNow_11 f I a1 a2 a3 = some q0 → qc_J F 0 0 11 [some (.ref 0), some (.int a1), some (.int a2), some (.int a3), none] [] (I, J, shM) := by
    intro  f
    induction f with
    | zero => intro I a1 a2 a3 hP; cases hP
    | succ f ih =>
      intro I a1 a2 a3 hP
      rw [P_X7_worstNow_11] at hP
      refine qj_iload_n cx dX7_worstNow_11 rfl rfl ?_
      refine qj_aload_n cx dX7_worstNow_12 rfl rfl ?_
      obtain ⟨q2, eq2, hP⟩ := Option.bind_eq_some_iff.mp hP
      refine qj_callV (As := []) (st := [.int a3]) (t := 0) (h' := (I, J, shM)) (r := some (.int q2)) cx dX7_worstNow_13 (c_X7_users (I := I) (J := J)  eq2) gc_RX7_232 qm_X7_users rfl rfl qc_cl7 rfl (Nat.le_of_ble_eq_true rfl) (by decide) (by decide) rfl (Nat.le_of_ble_eq_true rfl) (Nat.le_of_ble_eq_true rfl) hn0 rfl ?_
      refine qj_icmp_ge (tgt := 46) cx dX7_worstNow_16 (by decide) (fun c3 => ?_) (fun c3 => ?_)
      · have hP := qc_ifT hP c3
        refine qj_iload_n cx dX7_worstNow_46 rfl rfl ?_
        exact qw_iret cx hz dX7_worstNow_47 (Nat.zero_le _) (Nat.zero_le _) (congrArg (fun q => q.1) (Option.some.inj hP)) (congrArg (fun q => q.2) (Option.some.inj hP)) rfl
      · have hP := qc_ifF hP c3
        refine qj_aload_n cx dX7_worstNow_19 rfl rfl ?_
        refine qj_iload_n cx dX7_worstNow_20 rfl rfl ?_
        obtain ⟨q4, eq4, hP⟩ := Option.bind_eq_some_iff.mp hP
        refine qj_callV (As := [.int a3]) (st := []) (t := 0) (h' := (I, J, shM)) (r := some (.int q4)) cx dX7_worstNow_21 (c_X7_madeBy (I := I) (J := J)  eq4) gc_RX7_393 qm_X7_madeBy rfl rfl qc_cl7 rfl (Nat.le_of_ble_eq_true rfl) (by decide) (by decide) rfl (Nat.le_of_ble_eq_true rfl) (Nat.le_of_ble_eq_true rfl) hn0 rfl ?_
        refine qj_istore (ls1 := [some (.ref 0), some (.int a1), some (.int a2), some (.int a3), some (.int q4)]) cx dX7_worstNow_24 rfl rfl rfl ?_
        refine qj_iload cx dX7_worstNow_26 rfl ?_
        refine qj_iload_n cx dX7_worstNow_28 rfl rfl ?_
        refine qj_icmp_gt (tgt := 35) cx dX7_worstNow_29 (by decide) (fun c5 => ?_) (fun c5 => ?_)
        · have hP := qc_ifT hP c5
          refine qj_iload_n cx dX7_worstNow_35 rfl rfl ?_
          refine qj_istore_n (ls1 := [some (.ref 0), some (.int a3), some (.int a2), some (.int a3), some (.int q4)]) cx dX7_worstNow_36 rfl rfl rfl rfl ?_
          refine qj_iload cx dX7_worstNow_37 rfl ?_
          refine qj_istore_n (ls1 := [some (.ref 0), some (.int a3), some (.int q4), some (.int a3), some (.int q4)]) cx dX7_worstNow_39 rfl rfl rfl rfl ?_
          refine qw_sub (ls1 := [some (.ref 0), some (.int a3), some (.int q4), some (.int a3), none]) rfl (qc_sb_ok ⟨rfl, rfl, rfl, rfl, trivial⟩) ?_
          exact L40 (P_X7_worstNow_11 f) ih I a3 q4 a3 hP
        · have hP := qc_ifF hP c5
          refine qj_goto (tgt := 40) cx dX7_worstNow_32 (by decide) ?_
          refine qw_sub (ls1 := [some (.ref 0), some (.int a1), some (.int a2), some (.int a3), none]) rfl (qc_sb_ok ⟨rfl, rfl, rfl, rfl, trivial⟩) ?_
          exact L40 (P_X7_worstNow_11 f) ih I a1 a2 a3 hP
  show qc_J F 0 0 0 [some (.ref 0), none, none, none, none] [] (I, J, shM)
  unfold P_X7_worstNow at hP
  refine qj_aload_n cx dX7_worstNow_0 rfl rfl ?_
  obtain ⟨q6, eq6, hP⟩ := Option.bind_eq_some_iff.mp hP
  refine qj_callV (As := []) (st := []) (t := 0) (h' := (q6, J, shM)) (r := none) cx dX7_worstNow_1 (c_X7_laysProducts (I := I) (J := J)  eq6) gc_RX7_326 qm_X7_laysProducts rfl rfl qc_cl7 rfl (Nat.le_of_ble_eq_true rfl) (by decide) (by decide) rfl (Nat.le_of_ble_eq_true rfl) (Nat.le_of_ble_eq_true rfl) hn0 rfl ?_
  refine qj_bipush (v := (-2 : Int32)) cx dX7_worstNow_4 (by decide) ?_
  refine qj_istore_n (ls1 := [some (.ref 0), some (.int (-2 : Int32)), none, none, none]) cx dX7_worstNow_6 rfl rfl rfl rfl ?_
  refine qj_iconst (v := (0 : Int32)) cx dX7_worstNow_7 (by decide) ?_
  refine qj_istore_n (ls1 := [some (.ref 0), some (.int (-2 : Int32)), some (.int (0 : Int32)), none, none]) cx dX7_worstNow_8 rfl rfl rfl rfl ?_
  refine qj_iconst (v := (0 : Int32)) cx dX7_worstNow_9 (by decide) ?_
  refine qj_istore_n (ls1 := [some (.ref 0), some (.int (-2 : Int32)), some (.int (0 : Int32)), some (.int (0 : Int32)), none]) cx dX7_worstNow_10 rfl rfl rfl rfl ?_
  exact L11 qc_fu q6 (-2 : Int32) (0 : Int32) (0 : Int32) hP
