def P_X7_worst (I : Nat → Nat → Int32) : Option (Int32 × (Nat → Nat → Int32)) :=
  qc_let (qc_u2 I 0 0 (0 : Int32)) fun I1 =>
  (P_X7_worstNow I1).bind fun q2 =>
  some (q2.1, q2.2)
set_option maxRecDepth 20000 in
theorem c_X7_worst {I : Nat → Nat → Int32} {J : Nat → Nat → Int64}   {q0 : Int32 × (Nat → Nat → Int32)} (hP : P_X7_worst I = some q0) : ∀ l, qc_M l yX7_worst cX7_worst 1 (some .int) 6 138 0 0 [.ref 0] (I, J, shM) (some (.int q0.1)) (q0.2, J, shM) := by
  intro l
  refine qc_ent2 (by decide) (Nat.le_of_ble_eq_true rfl) ?_
  intro F hn0 cx hz
  have cx : qc_X F cX7_worst RX7 "worst" 6 0 0 138 := cx
  show qc_J F 0 0 0 [some (.ref 0)] [] (I, J, shM)
  unfold P_X7_worst at hP
  refine qj_aload_n cx dX7_worst_0 rfl rfl ?_
  refine qj_iconst (v := (0 : Int32)) cx dX7_worst_1 (by decide) ?_
  obtain ⟨I1, eI1, hP⟩ := qc_letE hP
  refine qw_putI (j := 0) cx dX7_worst_2 qc_cl7 rfl (Nat.le_of_ble_eq_true rfl) rfl ww_1092 rfl rfl rfl eI1 ?_
  refine qj_aload_n cx dX7_worst_5 rfl rfl ?_
  obtain ⟨q2, eq2, hP⟩ := Option.bind_eq_some_iff.mp hP
  refine qj_callV (As := []) (st := []) (t := 0) (h' := (q2.2, J, shM)) (r := some (.int q2.1)) cx dX7_worst_6 (c_X7_worstNow (I := I1) (J := J)  eq2) gc_RX7_396 qm_X7_worstNow rfl rfl qc_cl7 rfl (Nat.le_of_ble_eq_true rfl) (by decide) (by decide) rfl (Nat.le_of_ble_eq_true rfl) (Nat.le_of_ble_eq_true rfl) hn0 rfl ?_
  exact qw_iret cx hz dX7_worst_9 (Nat.zero_le _) (Nat.zero_le _) (congrArg (fun q => q.1) (Option.some.inj hP)) (congrArg (fun q => q.2) (Option.some.inj hP)) rfl
def P_X7_rank_38 (k25 : (Nat → Nat → Int32) → Int32 → Int32 → Option (Int32 × (Nat → Nat → Int32))) : Nat → (Nat → Nat → Int32) → Int32 → Int32 → Int32 → Int32 → Option (Int32 × (Nat → Nat → Int32))
  | 0, _, _, _, _, _ => none
  | f + 1, I, a1, a2, a3, a4 =>
  (P_X7_users I).bind fun q1 =>
  if q1 ≤ a4 then
  (if a3 = a1 then
  some (a2, I)
  else
  qc_let (a2 + (1 : Int32)) fun x4 =>
  k25 I a1 x4)
  else
  (P_X7_madeBy I a4).bind fun q5 =>
  (P_X7_madeBy I a2).bind fun q6 =>
  (if q6 < q5 then
  some (1 : Int32)
  else
  (P_X7_madeBy I a4).bind fun q9 =>
  (P_X7_madeBy I a2).bind fun q10 =>
  if q9 = q10 then
  (if a2 ≤ a4 then
  some (0 : Int32)
  else
  some (1 : Int32))
  else
  some (0 : Int32)).bind fun v8 =>
  qc_let (a3 + v8) fun x13 =>
  qc_let (a4 + (1 : Int32)) fun x14 =>
  P_X7_rank_38 k25 f I a1 a2 x13 x14
def P_X7_rank_25  : Nat → (Nat → Nat → Int32) → Int32 → Int32 → Option (Int32 × (Nat → Nat → Int32))
  | 0, _, _, _ => none
  | f + 1, I, a1, a2 =>
  (P_X7_users I).bind fun q15 =>
  if q15 ≤ a2 then
  some ((-1 : Int32), I)
  else
  P_X7_rank_38 (P_X7_rank_25 f) qc_fu I a1 a2 (0 : Int32) (0 : Int32)
def P_X7_rank (I : Nat → Nat → Int32) (a : Int32) : Option (Int32 × (Nat → Nat → Int32)) :=
  qc_let (qc_u2 I 0 0 (0 : Int32)) fun I17 =>
  if a < 0 then
  some ((-1 : Int32), I17)
  else
  (P_X7_users I17).bind fun q19 =>
  if a < q19 then
  (P_X7_laysProducts I17).bind fun q21 =>
  P_X7_rank_25 qc_fu q21 a (0 : Int32)
  else
  some ((-1 : Int32), I17)
set_option maxRecDepth 20000 in
theorem c_X7_rank {I : Nat → Nat → Int32} {J : Nat → Nat → Int64}  {a : Int32} {q0 : Int32 × (Nat → Nat → Int32)} (hP : P_X7_rank I a = some q0) : ∀ l, qc_M l yX7_rank cX7_rank 5 (some .int) 5 114 0 0 [.ref 0, .int a] (I, J, shM) (some (.int q0.1)) (q0.2, J, shM) := by
  intro l
  refine qc_ent2 (by decide) (Nat.le_of_ble_eq_true rfl) ?_
  intro F hn0 cx hz
  have cx : qc_X F cX7_rank RX7 "rank" 5 0 0 114 := cx
  have L38 : ∀ (k25 : (Nat → Nat → Int32) → Int32 → Int32 → Option (Int32 × (Nat → Nat → Int32))) (g25 : ∀ (I : Nat → Nat → Int32) (a1 : Int32) (a2 : Int32), k25 I a1 a2 = some q0 → qc_J F 0 0 25 [some (.ref 0), some (.int a1), some (.int a2), none, none] [] (I, J, shM)) (f : Nat) (I : (Nat → Nat → Int32)) (a1 : Int32) (a2 : Int32) (a3 : Int32) (a4 : Int32), P_X7_rank_38 k25 f I a1 a2 a3 a4 = some q0 → qc_J F 0 0 38 [some (.ref 0), some (.int a1), some (.int a2), some (.int a3), some (.int a4)] [] (I, J, shM) := by
    intro k25 g25 f
    induction f with
    | zero => intro I a1 a2 a3 a4 hP; cases hP
    | succ f ih =>
      intro I a1 a2 a3 a4 hP
      rw [P_X7_rank_38] at hP
      refine qj_iload cx dX7_rank_38 rfl ?_
      refine qj_aload_n cx dX7_rank_40 rfl rfl ?_
      obtain ⟨q1, eq1, hP⟩ := Option.bind_eq_some_iff.mp hP
      refine qj_callV (As := []) (st := [.int a4]) (t := 0) (h' := (I, J, shM)) (r := some (.int q1)) cx dX7_rank_41 (c_X7_users (I := I) (J := J)  eq1) gc_RX7_232 qm_X7_users rfl rfl qc_cl7 rfl (Nat.le_of_ble_eq_true rfl) (by decide) (by decide) rfl (Nat.le_of_ble_eq_true rfl) (Nat.le_of_ble_eq_true rfl) hn0 rfl ?_
      refine qj_icmp_ge (tgt := 95) cx dX7_rank_44 (by decide) (fun c2 => ?_) (fun c2 => ?_)
      · have hP := qc_ifT hP c2
        refine qj_iload_n cx dX7_rank_95 rfl rfl ?_
        refine qj_iload_n cx dX7_rank_96 rfl rfl ?_
        refine qj_icmp_ne (tgt := 102) cx dX7_rank_97 (by decide) (fun c3 => ?_) (fun c3 => ?_)
        · have hP := qc_ifF hP c3
          obtain ⟨x4, ex4, hP⟩ := qc_letE hP
          refine qj_iinc (v := x4) (ls1 := [some (.ref 0), some (.int a1), some (.int x4), some (.int a3), some (.int a4)]) cx dX7_rank_102 rfl (by rw [ex4]; rfl) rfl rfl ?_
          refine qj_goto (tgt := 25) cx dX7_rank_105 (by decide) ?_
          refine qw_sub (ls1 := [some (.ref 0), some (.int a1), some (.int x4), none, none]) rfl (qc_sb_ok ⟨rfl, rfl, rfl, trivial⟩) ?_
          exact g25 I a1 x4 hP
        · have hP := qc_ifT hP c3
          refine qj_iload_n cx dX7_rank_100 rfl rfl ?_
          exact qw_iret cx hz dX7_rank_101 (Nat.zero_le _) (Nat.zero_le _) (congrArg (fun q => q.1) (Option.some.inj hP)) (congrArg (fun q => q.2) (Option.some.inj hP)) rfl
      · have hP := qc_ifF hP c2
        refine qj_iload_n cx dX7_rank_47 rfl rfl ?_
        refine qj_aload_n cx dX7_rank_48 rfl rfl ?_
        refine qj_iload cx dX7_rank_49 rfl ?_
        obtain ⟨q5, eq5, hP⟩ := Option.bind_eq_some_iff.mp hP
        refine qj_callV (As := [.int a4]) (st := [.int a3]) (t := 0) (h' := (I, J, shM)) (r := some (.int q5)) cx dX7_rank_51 (c_X7_madeBy (I := I) (J := J)  eq5) gc_RX7_393 qm_X7_madeBy rfl rfl qc_cl7 rfl (Nat.le_of_ble_eq_true rfl) (by decide) (by decide) rfl (Nat.le_of_ble_eq_true rfl) (Nat.le_of_ble_eq_true rfl) hn0 rfl ?_
        refine qj_aload_n cx dX7_rank_54 rfl rfl ?_
        refine qj_iload_n cx dX7_rank_55 rfl rfl ?_
        obtain ⟨q6, eq6, hP⟩ := Option.bind_eq_some_iff.mp hP
        refine qj_callV (As := [.int a2]) (st := [.int q5, .int a3]) (t := 0) (h' := (I, J, shM)) (r := some (.int q6)) cx dX7_rank_56 (c_X7_madeBy (I := I) (J := J)  eq6) gc_RX7_393 qm_X7_madeBy rfl rfl qc_cl7 rfl (Nat.le_of_ble_eq_true rfl) (by decide) (by decide) rfl (Nat.le_of_ble_eq_true rfl) (Nat.le_of_ble_eq_true rfl) hn0 rfl ?_
        obtain ⟨v8, hv8, hP⟩ := Option.bind_eq_some_iff.mp hP
        have Kv8 : qc_J F 0 0 87 [some (.ref 0), some (.int a1), some (.int a2), some (.int a3), some (.int a4)] [.int v8, .int a3] (I, J, shM) := by
          refine qj_iadd cx dX7_rank_87 ?_
          obtain ⟨x13, ex13, hP⟩ := qc_letE hP
          refine qw_top ex13 ?_
          refine qj_istore_n (ls1 := [some (.ref 0), some (.int a1), some (.int a2), some (.int x13), some (.int a4)]) cx dX7_rank_88 rfl rfl rfl rfl ?_
          obtain ⟨x14, ex14, hP⟩ := qc_letE hP
          refine qj_iinc (v := x14) (ls1 := [some (.ref 0), some (.int a1), some (.int a2), some (.int x13), some (.int x14)]) cx dX7_rank_89 rfl (by rw [ex14]; rfl) rfl rfl ?_
          refine qj_goto (tgt := 38) cx dX7_rank_92 (by decide) ?_
          exact ih I a1 a2 x13 x14 hP
        refine qj_icmp_gt (tgt := 82) cx dX7_rank_59 (by decide) (fun c7 => ?_) (fun c7 => ?_)
        · have hv8 := qc_ifT hv8 c7
          refine qj_iconst (v := (1 : Int32)) cx dX7_rank_82 (by decide) ?_
          refine qj_goto (tgt := 87) cx dX7_rank_83 (by decide) ?_
          exact qw_top (Option.some.inj hv8).symm Kv8
        · have hv8 := qc_ifF hv8 c7
          refine qj_aload_n cx dX7_rank_62 rfl rfl ?_
          refine qj_iload cx dX7_rank_63 rfl ?_
          obtain ⟨q9, eq9, hv8⟩ := Option.bind_eq_some_iff.mp hv8
          refine qj_callV (As := [.int a4]) (st := [.int a3]) (t := 0) (h' := (I, J, shM)) (r := some (.int q9)) cx dX7_rank_65 (c_X7_madeBy (I := I) (J := J)  eq9) gc_RX7_393 qm_X7_madeBy rfl rfl qc_cl7 rfl (Nat.le_of_ble_eq_true rfl) (by decide) (by decide) rfl (Nat.le_of_ble_eq_true rfl) (Nat.le_of_ble_eq_true rfl) hn0 rfl ?_
          refine qj_aload_n cx dX7_rank_68 rfl rfl ?_
          refine qj_iload_n cx dX7_rank_69 rfl rfl ?_
          obtain ⟨q10, eq10, hv8⟩ := Option.bind_eq_some_iff.mp hv8
          refine qj_callV (As := [.int a2]) (st := [.int q9, .int a3]) (t := 0) (h' := (I, J, shM)) (r := some (.int q10)) cx dX7_rank_70 (c_X7_madeBy (I := I) (J := J)  eq10) gc_RX7_393 qm_X7_madeBy rfl rfl qc_cl7 rfl (Nat.le_of_ble_eq_true rfl) (by decide) (by decide) rfl (Nat.le_of_ble_eq_true rfl) (Nat.le_of_ble_eq_true rfl) hn0 rfl ?_
          refine qj_icmp_ne (tgt := 86) cx dX7_rank_73 (by decide) (fun c11 => ?_) (fun c11 => ?_)
          · have hv8 := qc_ifF hv8 c11
            refine qj_iconst (v := (0 : Int32)) cx dX7_rank_86 (by decide) ?_
            exact qw_top (Option.some.inj hv8).symm Kv8
          · have hv8 := qc_ifT hv8 c11
            refine qj_iload cx dX7_rank_76 rfl ?_
            refine qj_iload_n cx dX7_rank_78 rfl rfl ?_
            refine qj_icmp_ge (tgt := 86) cx dX7_rank_79 (by decide) (fun c12 => ?_) (fun c12 => ?_)
            · have hv8 := qc_ifT hv8 c12
              refine qj_iconst (v := (0 : Int32)) cx dX7_rank_86 (by decide) ?_
              exact qw_top (Option.some.inj hv8).symm Kv8
            · have hv8 := qc_ifF hv8 c12
              refine qj_iconst (v := (1 : Int32)) cx dX7_rank_82 (by decide) ?_
              refine qj_goto (tgt := 87) cx dX7_rank_83 (by decide) ?_
              exact qw_top (Option.some.inj hv8).symm Kv8
  have L25 : ∀  (f : Nat) (I : (Nat → Nat → Int32)) (a1 : Int32) (a2 : Int32), P_X7_rank_25 f I a1 a2 = some q0 → qc_J F 0 0 25 [some (.ref 0), some (.int a1), some (.int a2), none, none] [] (I, J, shM) := by
    intro  f
    induction f with
    | zero => intro I a1 a2 hP; cases hP
    | succ f ih =>
      intro I a1 a2 hP
      rw [P_X7_rank_25] at hP
      refine qj_iload_n cx dX7_rank_25 rfl rfl ?_
      refine qj_aload_n cx dX7_rank_26 rfl rfl ?_
      obtain ⟨q15, eq15, hP⟩ := Option.bind_eq_some_iff.mp hP
      refine qj_callV (As := []) (st := [.int a2]) (t := 0) (h' := (I, J, shM)) (r := some (.int q15)) cx dX7_rank_27 (c_X7_users (I := I) (J := J)  eq15) gc_RX7_232 qm_X7_users rfl rfl qc_cl7 rfl (Nat.le_of_ble_eq_true rfl) (by decide) (by decide) rfl (Nat.le_of_ble_eq_true rfl) (Nat.le_of_ble_eq_true rfl) hn0 rfl ?_
      refine qj_icmp_ge (tgt := 108) cx dX7_rank_30 (by decide) (fun c16 => ?_) (fun c16 => ?_)
      · have hP := qc_ifT hP c16
        refine qj_iconst (v := (-1 : Int32)) cx dX7_rank_108 (by decide) ?_
        exact qw_iret cx hz dX7_rank_109 (Nat.zero_le _) (Nat.zero_le _) (congrArg (fun q => q.1) (Option.some.inj hP)) (congrArg (fun q => q.2) (Option.some.inj hP)) rfl
      · have hP := qc_ifF hP c16
        refine qj_iconst (v := (0 : Int32)) cx dX7_rank_33 (by decide) ?_
        refine qj_istore_n (ls1 := [some (.ref 0), some (.int a1), some (.int a2), some (.int (0 : Int32)), none]) cx dX7_rank_34 rfl rfl rfl rfl ?_
        refine qj_iconst (v := (0 : Int32)) cx dX7_rank_35 (by decide) ?_
        refine qj_istore (ls1 := [some (.ref 0), some (.int a1), some (.int a2), some (.int (0 : Int32)), some (.int (0 : Int32))]) cx dX7_rank_36 rfl rfl rfl ?_
        exact L38 (P_X7_rank_25 f) ih qc_fu I a1 a2 (0 : Int32) (0 : Int32) hP
  show qc_J F 0 0 0 [some (.ref 0), some (.int a), none, none, none] [] (I, J, shM)
  unfold P_X7_rank at hP
  refine qj_aload_n cx dX7_rank_0 rfl rfl ?_
  refine qj_iconst (v := (0 : Int32)) cx dX7_rank_1 (by decide) ?_
  obtain ⟨I17, eI17, hP⟩ := qc_letE hP
  refine qw_putI (j := 0) cx dX7_rank_2 qc_cl7 rfl (Nat.le_of_ble_eq_true rfl) rfl ww_1092 rfl rfl rfl eI17 ?_
  refine qj_iload_n cx dX7_rank_5 rfl rfl ?_
  refine qj_if_lt (tgt := 17) cx dX7_rank_6 (by decide) (fun c18 => ?_) (fun c18 => ?_)
  · have hP := qc_ifT hP c18
    refine qj_iconst (v := (-1 : Int32)) cx dX7_rank_17 (by decide) ?_
    exact qw_iret cx hz dX7_rank_18 (Nat.zero_le _) (Nat.zero_le _) (congrArg (fun q => q.1) (Option.some.inj hP)) (congrArg (fun q => q.2) (Option.some.inj hP)) rfl
  · have hP := qc_ifF hP c18
    refine qj_iload_n cx dX7_rank_9 rfl rfl ?_
    refine qj_aload_n cx dX7_rank_10 rfl rfl ?_
    obtain ⟨q19, eq19, hP⟩ := Option.bind_eq_some_iff.mp hP
    refine qj_callV (As := []) (st := [.int a]) (t := 0) (h' := (I17, J, shM)) (r := some (.int q19)) cx dX7_rank_11 (c_X7_users (I := I17) (J := J)  eq19) gc_RX7_232 qm_X7_users rfl rfl qc_cl7 rfl (Nat.le_of_ble_eq_true rfl) (by decide) (by decide) rfl (Nat.le_of_ble_eq_true rfl) (Nat.le_of_ble_eq_true rfl) hn0 rfl ?_
    refine qj_icmp_lt (tgt := 19) cx dX7_rank_14 (by decide) (fun c20 => ?_) (fun c20 => ?_)
    · have hP := qc_ifT hP c20
      refine qj_aload_n cx dX7_rank_19 rfl rfl ?_
      obtain ⟨q21, eq21, hP⟩ := Option.bind_eq_some_iff.mp hP
      refine qj_callV (As := []) (st := []) (t := 0) (h' := (q21, J, shM)) (r := none) cx dX7_rank_20 (c_X7_laysProducts (I := I17) (J := J)  eq21) gc_RX7_326 qm_X7_laysProducts rfl rfl qc_cl7 rfl (Nat.le_of_ble_eq_true rfl) (by decide) (by decide) rfl (Nat.le_of_ble_eq_true rfl) (Nat.le_of_ble_eq_true rfl) hn0 rfl ?_
      refine qj_iconst (v := (0 : Int32)) cx dX7_rank_23 (by decide) ?_
      refine qj_istore_n (ls1 := [some (.ref 0), some (.int a), some (.int (0 : Int32)), none, none]) cx dX7_rank_24 rfl rfl rfl rfl ?_
      exact L25 qc_fu q21 a (0 : Int32) hP
    · have hP := qc_ifF hP c20
      refine qj_iconst (v := (-1 : Int32)) cx dX7_rank_17 (by decide) ?_
      exact qw_iret cx hz dX7_rank_18 (Nat.zero_le _) (Nat.zero_le _) (congrArg (fun q => q.1) (Option.some.inj hP)) (congrArg (fun q => q.2) (Option.some.inj hP)) rfl
def P_X7_bySort_101 (k35 : (Nat → Nat → Int32) → Int32 → Int32 → Int32 → Int32 → Option (Int32 × (Nat → Nat → Int32))) (I : (Nat → Nat → Int32)) (a1 : Int32) (a2 : Int32) (a3 : Int32) (a4 : Int32) : Option (Int32 × (Nat → Nat → Int32)) :=
  qc_let (a4 + (1 : Int32)) fun x1 =>
  k35 I a1 a2 a3 x1
def P_X7_bySort_35  : Nat → (Nat → Nat → Int32) → Int32 → Int32 → Int32 → Int32 → Option (Int32 × (Nat → Nat → Int32))
  | 0, _, _, _, _, _ => none
  | f + 1, I, a1, a2, a3, a4 =>
  if I 0 41 ≤ a4 then
  some (a3, I)
  else
  if qc_in a4 300 then
  if I 16 a4.toNatClampNeg = a1 then
  (if a2 = 0 then
  some (1 : Int32)
  else
  if a2 = (1 : Int32) then
  (if qc_in a4 300 then
  if I 21 a4.toNatClampNeg < 0 then
  some (0 : Int32)
  else
  some (1 : Int32)
  else none)
  else
  (P_X7_hitsOf I a4).bind fun q8 =>
  (P_X7_bits q8).bind fun q9 =>
  some q9).bind fun v6 =>
  qc_let (a3 + v6) fun x12 =>
  P_X7_bySort_101 (P_X7_bySort_35 f) I a1 a2 x12 a4
  else
  P_X7_bySort_101 (P_X7_bySort_35 f) I a1 a2 a3 a4
  else none
def P_X7_bySort (I : Nat → Nat → Int32) (a : Int32) (b : Int32) : Option (Int32 × (Nat → Nat → Int32)) :=
  qc_let (qc_u2 I 0 0 (0 : Int32)) fun I13 =>
  if a < 0 then
  some ((-1 : Int32), I13)
  else
  if (6 : Int32) ≤ a then
  some ((-1 : Int32), I13)
  else
  if b < 0 then
  some ((-1 : Int32), I13)
  else
  if b ≤ (2 : Int32) then
  (P_X7_laysProducts I13).bind fun q18 =>
  P_X7_bySort_35 qc_fu q18 a b (0 : Int32) (0 : Int32)
  else
  some ((-1 : Int32), I13)
set_option maxRecDepth 20000 in
theorem c_X7_bySort {I : Nat → Nat → Int32} {J : Nat → Nat → Int64}  {a : Int32} {b : Int32} {q0 : Int32 × (Nat → Nat → Int32)} (hP : P_X7_bySort I a b = some q0) : ∀ l, qc_M l yX7_bySort cX7_bySort 5 (some .int) 4 96 0 0 [.ref 0, .int a, .int b] (I, J, shM) (some (.int q0.1)) (q0.2, J, shM) := by
  intro l
  refine qc_ent2 (by decide) (Nat.le_of_ble_eq_true rfl) ?_
  intro F hn0 cx hz
  have cx : qc_X F cX7_bySort RX7 "bySort" 4 0 0 96 := cx
  have L101 : ∀ (k35 : (Nat → Nat → Int32) → Int32 → Int32 → Int32 → Int32 → Option (Int32 × (Nat → Nat → Int32))) (g35 : ∀ (I : Nat → Nat → Int32) (a1 : Int32) (a2 : Int32) (a3 : Int32) (a4 : Int32), k35 I a1 a2 a3 a4 = some q0 → qc_J F 0 0 35 [some (.ref 0), some (.int a1), some (.int a2), some (.int a3), some (.int a4)] [] (I, J, shM)) (I : (Nat → Nat → Int32)) (a1 : Int32) (a2 : Int32) (a3 : Int32) (a4 : Int32), P_X7_bySort_101 k35 I a1 a2 a3 a4 = some q0 → qc_J F 0 0 101 [some (.ref 0), some (.int a1), some (.int a2), some (.int a3), some (.int a4)] [] (I, J, shM) := by
    intro k35 g35 I a1 a2 a3 a4 hP
    unfold P_X7_bySort_101 at hP
    obtain ⟨x1, ex1, hP⟩ := qc_letE hP
    refine qj_iinc (v := x1) (ls1 := [some (.ref 0), some (.int a1), some (.int a2), some (.int a3), some (.int x1)]) cx dX7_bySort_101 rfl (by rw [ex1]; rfl) rfl rfl ?_
    refine qj_goto (tgt := 35) cx dX7_bySort_104 (by decide) ?_
    exact g35 I a1 a2 a3 x1 hP
  have L35 : ∀  (f : Nat) (I : (Nat → Nat → Int32)) (a1 : Int32) (a2 : Int32) (a3 : Int32) (a4 : Int32), P_X7_bySort_35 f I a1 a2 a3 a4 = some q0 → qc_J F 0 0 35 [some (.ref 0), some (.int a1), some (.int a2), some (.int a3), some (.int a4)] [] (I, J, shM) := by
    intro  f
    induction f with
    | zero => intro I a1 a2 a3 a4 hP; cases hP
    | succ f ih =>
      intro I a1 a2 a3 a4 hP
      rw [P_X7_bySort_35] at hP
      refine qj_iload cx dX7_bySort_35 rfl ?_
      refine qj_aload_n cx dX7_bySort_37 rfl rfl ?_
      refine qw_getI (j := 41) cx dX7_bySort_38 qc_cl7 rfl (Nat.le_of_ble_eq_true rfl) rfl ww_1133 ?_
      refine qj_icmp_ge (tgt := 107) cx dX7_bySort_41 (by decide) (fun c2 => ?_) (fun c2 => ?_)
      · have hP := qc_ifT hP c2
        refine qj_iload_n cx dX7_bySort_107 rfl rfl ?_
        exact qw_iret cx hz dX7_bySort_108 (Nat.zero_le _) (Nat.zero_le _) (congrArg (fun q => q.1) (Option.some.inj hP)) (congrArg (fun q => q.2) (Option.some.inj hP)) rfl
      · have hP := qc_ifF hP c2
        refine qj_aload_n cx dX7_bySort_44 rfl rfl ?_
        refine qw_getR (j := 34) (t1 := 16) cx dX7_bySort_45 qc_cl7 rfl (Nat.le_of_ble_eq_true rfl) rfl ww_1126 rfl ?_
        refine qj_iload cx dX7_bySort_48 rfl ?_
        obtain ⟨c3, hP⟩ := qc_ck hP
        refine qw_iald cx dX7_bySort_50 rfl (Nat.le_of_ble_eq_true rfl) rfl c3 ?_
        refine qj_iload_n cx dX7_bySort_51 rfl rfl ?_
        refine qj_icmp_eq (tgt := 58) cx dX7_bySort_52 (by decide) (fun c4 => ?_) (fun c4 => ?_)
        · have hP := qc_ifT hP c4
          refine qj_iload_n cx dX7_bySort_58 rfl rfl ?_
          refine qj_iload_n cx dX7_bySort_59 rfl rfl ?_
          obtain ⟨v6, hv6, hP⟩ := Option.bind_eq_some_iff.mp hP
          have Kv6 : qc_J F 0 0 99 [some (.ref 0), some (.int a1), some (.int a2), some (.int a3), some (.int a4)] [.int v6, .int a3] (I, J, shM) := by
            refine qj_iadd cx dX7_bySort_99 ?_
            obtain ⟨x12, ex12, hP⟩ := qc_letE hP
            refine qw_top ex12 ?_
            refine qj_istore_n (ls1 := [some (.ref 0), some (.int a1), some (.int a2), some (.int x12), some (.int a4)]) cx dX7_bySort_100 rfl rfl rfl rfl ?_
            exact L101 (P_X7_bySort_35 f) ih I a1 a2 x12 a4 hP
          refine qj_if_ne (tgt := 67) cx dX7_bySort_60 (by decide) (fun c5 => ?_) (fun c5 => ?_)
          · have hv6 := qc_ifF hv6 c5
            refine qj_iload_n cx dX7_bySort_67 rfl rfl ?_
            refine qj_iconst (v := (1 : Int32)) cx dX7_bySort_68 (by decide) ?_
            refine qj_icmp_ne (tgt := 90) cx dX7_bySort_69 (by decide) (fun c7 => ?_) (fun c7 => ?_)
            · have hv6 := qc_ifF hv6 c7
              refine qj_aload_n cx dX7_bySort_90 rfl rfl ?_
              refine qj_iload cx dX7_bySort_91 rfl ?_
              obtain ⟨q8, eq8, hv6⟩ := Option.bind_eq_some_iff.mp hv6
              refine qj_callV (As := [.int a4]) (st := [.int a3]) (t := 0) (h' := (I, J, shM)) (r := some (.int q8)) cx dX7_bySort_93 (c_X7_hitsOf (I := I) (J := J)  eq8) gc_RX7_308 qm_X7_hitsOf rfl rfl qc_cl7 rfl (Nat.le_of_ble_eq_true rfl) (by decide) (by decide) rfl (Nat.le_of_ble_eq_true rfl) (Nat.le_of_ble_eq_true rfl) hn0 rfl ?_
              obtain ⟨q9, eq9, hv6⟩ := Option.bind_eq_some_iff.mp hv6
              refine qj_callS (As := [.int q8]) (st := [.int a3]) (h' := (I, J, shM)) (r := some (.int q9)) cx dX7_bySort_96 (c_X7_bits (S := shM) (I := I) (J := J) eq9) gc_RX7_311 qm_X7_bits rfl (by decide) (by decide) rfl (Nat.le_of_ble_eq_true rfl) (Nat.le_of_ble_eq_true rfl) hn0 rfl ?_
              exact qw_top (Option.some.inj hv6).symm Kv6
            · have hv6 := qc_ifT hv6 c7
              refine qj_aload_n cx dX7_bySort_72 rfl rfl ?_
              refine qw_getR (j := 39) (t1 := 21) cx dX7_bySort_73 qc_cl7 rfl (Nat.le_of_ble_eq_true rfl) rfl ww_1131 rfl ?_
              refine qj_iload cx dX7_bySort_76 rfl ?_
              obtain ⟨c10, hv6⟩ := qc_ck hv6
              refine qw_iald cx dX7_bySort_78 rfl (Nat.le_of_ble_eq_true rfl) rfl c10 ?_
              refine qj_if_lt (tgt := 86) cx dX7_bySort_79 (by decide) (fun c11 => ?_) (fun c11 => ?_)
              · have hv6 := qc_ifT hv6 c11
                refine qj_iconst (v := (0 : Int32)) cx dX7_bySort_86 (by decide) ?_
                refine qj_goto (tgt := 99) cx dX7_bySort_87 (by decide) ?_
                exact qw_top (Option.some.inj hv6).symm Kv6
              · have hv6 := qc_ifF hv6 c11
                refine qj_iconst (v := (1 : Int32)) cx dX7_bySort_82 (by decide) ?_
                refine qj_goto (tgt := 99) cx dX7_bySort_83 (by decide) ?_
                exact qw_top (Option.some.inj hv6).symm Kv6
          · have hv6 := qc_ifT hv6 c5
            refine qj_iconst (v := (1 : Int32)) cx dX7_bySort_63 (by decide) ?_
            refine qj_goto (tgt := 99) cx dX7_bySort_64 (by decide) ?_
            exact qw_top (Option.some.inj hv6).symm Kv6
        · have hP := qc_ifF hP c4
          refine qj_goto (tgt := 101) cx dX7_bySort_55 (by decide) ?_
          exact L101 (P_X7_bySort_35 f) ih I a1 a2 a3 a4 hP
  show qc_J F 0 0 0 [some (.ref 0), some (.int a), some (.int b), none, none] [] (I, J, shM)
  unfold P_X7_bySort at hP
  refine qj_aload_n cx dX7_bySort_0 rfl rfl ?_
  refine qj_iconst (v := (0 : Int32)) cx dX7_bySort_1 (by decide) ?_
  obtain ⟨I13, eI13, hP⟩ := qc_letE hP
  refine qw_putI (j := 0) cx dX7_bySort_2 qc_cl7 rfl (Nat.le_of_ble_eq_true rfl) rfl ww_1092 rfl rfl rfl eI13 ?_
  refine qj_iload_n cx dX7_bySort_5 rfl rfl ?_
  refine qj_if_lt (tgt := 24) cx dX7_bySort_6 (by decide) (fun c14 => ?_) (fun c14 => ?_)
  · have hP := qc_ifT hP c14
    refine qj_iconst (v := (-1 : Int32)) cx dX7_bySort_24 (by decide) ?_
    exact qw_iret cx hz dX7_bySort_25 (Nat.zero_le _) (Nat.zero_le _) (congrArg (fun q => q.1) (Option.some.inj hP)) (congrArg (fun q => q.2) (Option.some.inj hP)) rfl
  · have hP := qc_ifF hP c14
    refine qj_iload_n cx dX7_bySort_9 rfl rfl ?_
    refine qj_bipush (v := (6 : Int32)) cx dX7_bySort_10 (by decide) ?_
    refine qj_icmp_ge (tgt := 24) cx dX7_bySort_12 (by decide) (fun c15 => ?_) (fun c15 => ?_)
    · have hP := qc_ifT hP c15
      refine qj_iconst (v := (-1 : Int32)) cx dX7_bySort_24 (by decide) ?_
      exact qw_iret cx hz dX7_bySort_25 (Nat.zero_le _) (Nat.zero_le _) (congrArg (fun q => q.1) (Option.some.inj hP)) (congrArg (fun q => q.2) (Option.some.inj hP)) rfl
    · have hP := qc_ifF hP c15
      refine qj_iload_n cx dX7_bySort_15 rfl rfl ?_
      refine qj_if_lt (tgt := 24) cx dX7_bySort_16 (by decide) (fun c16 => ?_) (fun c16 => ?_)
      · have hP := qc_ifT hP c16
        refine qj_iconst (v := (-1 : Int32)) cx dX7_bySort_24 (by decide) ?_
        exact qw_iret cx hz dX7_bySort_25 (Nat.zero_le _) (Nat.zero_le _) (congrArg (fun q => q.1) (Option.some.inj hP)) (congrArg (fun q => q.2) (Option.some.inj hP)) rfl
      · have hP := qc_ifF hP c16
        refine qj_iload_n cx dX7_bySort_19 rfl rfl ?_
        refine qj_iconst (v := (2 : Int32)) cx dX7_bySort_20 (by decide) ?_
        refine qj_icmp_le (tgt := 26) cx dX7_bySort_21 (by decide) (fun c17 => ?_) (fun c17 => ?_)
        · have hP := qc_ifT hP c17
          refine qj_aload_n cx dX7_bySort_26 rfl rfl ?_
          obtain ⟨q18, eq18, hP⟩ := Option.bind_eq_some_iff.mp hP
          refine qj_callV (As := []) (st := []) (t := 0) (h' := (q18, J, shM)) (r := none) cx dX7_bySort_27 (c_X7_laysProducts (I := I13) (J := J)  eq18) gc_RX7_326 qm_X7_laysProducts rfl rfl qc_cl7 rfl (Nat.le_of_ble_eq_true rfl) (by decide) (by decide) rfl (Nat.le_of_ble_eq_true rfl) (Nat.le_of_ble_eq_true rfl) hn0 rfl ?_
          refine qj_iconst (v := (0 : Int32)) cx dX7_bySort_30 (by decide) ?_
          refine qj_istore_n (ls1 := [some (.ref 0), some (.int a), some (.int b), some (.int (0 : Int32)), none]) cx dX7_bySort_31 rfl rfl rfl rfl ?_
          refine qj_iconst (v := (0 : Int32)) cx dX7_bySort_32 (by decide) ?_
          refine qj_istore (ls1 := [some (.ref 0), some (.int a), some (.int b), some (.int (0 : Int32)), some (.int (0 : Int32))]) cx dX7_bySort_33 rfl rfl rfl ?_
          exact L35 qc_fu q18 a b (0 : Int32) (0 : Int32) hP
        · have hP := qc_ifF hP c17
          refine qj_iconst (v := (-1 : Int32)) cx dX7_bySort_24 (by decide) ?_
          exact qw_iret cx hz dX7_bySort_25 (Nat.zero_le _) (Nat.zero_le _) (congrArg (fun q => q.1) (Option.some.inj hP)) (congrArg (fun q => q.2) (Option.some.inj hP)) rfl
def P_X7_loudest_53 (k14 : (Nat → Nat → Int32) → Int32 → Int32 → Option (Int32 × (Nat → Nat → Int32))) (I : (Nat → Nat → Int32)) (a1 : Int32) (a2 : Int32) : Option (Int32 × (Nat → Nat → Int32)) :=
  qc_let (a2 + (1 : Int32)) fun x1 =>
  k14 I a1 x1
def P_X7_loudest_51 (k14 : (Nat → Nat → Int32) → Int32 → Int32 → Option (Int32 × (Nat → Nat → Int32))) (I : (Nat → Nat → Int32)) (a2 : Int32) : Option (Int32 × (Nat → Nat → Int32)) :=
  P_X7_loudest_53 k14 I a2 a2
def P_X7_loudest_14  : Nat → (Nat → Nat → Int32) → Int32 → Int32 → Option (Int32 × (Nat → Nat → Int32))
  | 0, _, _, _ => none
  | f + 1, I, a1, a2 =>
  if I 0 41 ≤ a2 then
  some (a1, I)
  else
  (P_X7_hitsOf I a2).bind fun q3 =>
  if q3 = 0 then
  P_X7_loudest_53 (P_X7_loudest_14 f) I a1 a2
  else
  if a1 = (-2 : Int32) then
  P_X7_loudest_51 (P_X7_loudest_14 f) I a2
  else
  if qc_in a2 300 then
  if qc_in a1 300 then
  if I 21 a2.toNatClampNeg ≤ I 21 a1.toNatClampNeg then
  P_X7_loudest_53 (P_X7_loudest_14 f) I a1 a2
  else
  P_X7_loudest_51 (P_X7_loudest_14 f) I a2
  else none
  else none
def P_X7_loudest (I : Nat → Nat → Int32) : Option (Int32 × (Nat → Nat → Int32)) :=
  qc_let (qc_u2 I 0 0 (0 : Int32)) fun I9 =>
  (P_X7_laysProducts I9).bind fun q10 =>
  P_X7_loudest_14 qc_fu q10 (-2 : Int32) (0 : Int32)
set_option maxRecDepth 20000 in
theorem c_X7_loudest {I : Nat → Nat → Int32} {J : Nat → Nat → Int64}   {q0 : Int32 × (Nat → Nat → Int32)} (hP : P_X7_loudest I = some q0) : ∀ l, qc_M l yX7_loudest cX7_loudest 3 (some .int) 4 96 0 0 [.ref 0] (I, J, shM) (some (.int q0.1)) (q0.2, J, shM) := by
  intro l
  refine qc_ent2 (by decide) (Nat.le_of_ble_eq_true rfl) ?_
  intro F hn0 cx hz
  have cx : qc_X F cX7_loudest RX7 "loudest" 4 0 0 96 := cx
  have L53 : ∀ (k14 : (Nat → Nat → Int32) → Int32 → Int32 → Option (Int32 × (Nat → Nat → Int32))) (g14 : ∀ (I : Nat → Nat → Int32) (a1 : Int32) (a2 : Int32), k14 I a1 a2 = some q0 → qc_J F 0 0 14 [some (.ref 0), some (.int a1), some (.int a2)] [] (I, J, shM)) (I : (Nat → Nat → Int32)) (a1 : Int32) (a2 : Int32), P_X7_loudest_53 k14 I a1 a2 = some q0 → qc_J F 0 0 53 [some (.ref 0), some (.int a1), some (.int a2)] [] (I, J, shM) := by
    intro k14 g14 I a1 a2 hP
    unfold P_X7_loudest_53 at hP
    obtain ⟨x1, ex1, hP⟩ := qc_letE hP
    refine qj_iinc (v := x1) (ls1 := [some (.ref 0), some (.int a1), some (.int x1)]) cx dX7_loudest_53 rfl (by rw [ex1]; rfl) rfl rfl ?_
    refine qj_goto (tgt := 14) cx dX7_loudest_56 (by decide) ?_
    exact g14 I a1 x1 hP
  have L51 : ∀ (k14 : (Nat → Nat → Int32) → Int32 → Int32 → Option (Int32 × (Nat → Nat → Int32))) (g14 : ∀ (I : Nat → Nat → Int32) (a1 : Int32) (a2 : Int32), k14 I a1 a2 = some q0 → qc_J F 0 0 14 [some (.ref 0), some (.int a1), some (.int a2)] [] (I, J, shM)) (I : (Nat → Nat → Int32)) (a2 : Int32), P_X7_loudest_51 k14 I a2 = some q0 → qc_J F 0 0 51 [some (.ref 0), none, some (.int a2)] [] (I, J, shM) := by
    intro k14 g14 I a2 hP
    unfold P_X7_loudest_51 at hP
    refine qj_iload_n cx dX7_loudest_51 rfl rfl ?_
    refine qj_istore_n (ls1 := [some (.ref 0), some (.int a2), some (.int a2)]) cx dX7_loudest_52 rfl rfl rfl rfl ?_
    exact L53 k14 g14 I a2 a2 hP
  have L14 : ∀  (f : Nat) (I : (Nat → Nat → Int32)) (a1 : Int32) (a2 : Int32), P_X7_loudest_14 f I a1 a2 = some q0 → qc_J F 0 0 14 [some (.ref 0), some (.int a1), some (.int a2)] [] (I, J, shM) := by
    intro  f
    induction f with
    | zero => intro I a1 a2 hP; cases hP
    | succ f ih =>
      intro I a1 a2 hP
      rw [P_X7_loudest_14] at hP
      refine qj_iload_n cx dX7_loudest_14 rfl rfl ?_
      refine qj_aload_n cx dX7_loudest_15 rfl rfl ?_
      refine qw_getI (j := 41) cx dX7_loudest_16 qc_cl7 rfl (Nat.le_of_ble_eq_true rfl) rfl ww_1133 ?_
      refine qj_icmp_ge (tgt := 59) cx dX7_loudest_19 (by decide) (fun c2 => ?_) (fun c2 => ?_)
      · have hP := qc_ifT hP c2
        refine qj_iload_n cx dX7_loudest_59 rfl rfl ?_
        exact qw_iret cx hz dX7_loudest_60 (Nat.zero_le _) (Nat.zero_le _) (congrArg (fun q => q.1) (Option.some.inj hP)) (congrArg (fun q => q.2) (Option.some.inj hP)) rfl
      · have hP := qc_ifF hP c2
        refine qj_aload_n cx dX7_loudest_22 rfl rfl ?_
        refine qj_iload_n cx dX7_loudest_23 rfl rfl ?_
        obtain ⟨q3, eq3, hP⟩ := Option.bind_eq_some_iff.mp hP
        refine qj_callV (As := [.int a2]) (st := []) (t := 0) (h' := (I, J, shM)) (r := some (.int q3)) cx dX7_loudest_24 (c_X7_hitsOf (I := I) (J := J)  eq3) gc_RX7_308 qm_X7_hitsOf rfl rfl qc_cl7 rfl (Nat.le_of_ble_eq_true rfl) (by decide) (by decide) rfl (Nat.le_of_ble_eq_true rfl) (Nat.le_of_ble_eq_true rfl) hn0 rfl ?_
        refine qj_if_eq (tgt := 53) cx dX7_loudest_27 (by decide) (fun c4 => ?_) (fun c4 => ?_)
        · have hP := qc_ifT hP c4
          exact L53 (P_X7_loudest_14 f) ih I a1 a2 hP
        · have hP := qc_ifF hP c4
          refine qj_iload_n cx dX7_loudest_30 rfl rfl ?_
          refine qj_bipush (v := (-2 : Int32)) cx dX7_loudest_31 (by decide) ?_
          refine qj_icmp_eq (tgt := 51) cx dX7_loudest_33 (by decide) (fun c5 => ?_) (fun c5 => ?_)
          · have hP := qc_ifT hP c5
            refine qw_sub (ls1 := [some (.ref 0), none, some (.int a2)]) rfl (qc_sb_ok ⟨rfl, rfl, trivial⟩) ?_
            exact L51 (P_X7_loudest_14 f) ih I a2 hP
          · have hP := qc_ifF hP c5
            refine qj_aload_n cx dX7_loudest_36 rfl rfl ?_
            refine qw_getR (j := 39) (t1 := 21) cx dX7_loudest_37 qc_cl7 rfl (Nat.le_of_ble_eq_true rfl) rfl ww_1131 rfl ?_
            refine qj_iload_n cx dX7_loudest_40 rfl rfl ?_
            obtain ⟨c6, hP⟩ := qc_ck hP
            refine qw_iald cx dX7_loudest_41 rfl (Nat.le_of_ble_eq_true rfl) rfl c6 ?_
            refine qj_aload_n cx dX7_loudest_42 rfl rfl ?_
            refine qw_getR (j := 39) (t1 := 21) cx dX7_loudest_43 qc_cl7 rfl (Nat.le_of_ble_eq_true rfl) rfl ww_1131 rfl ?_
            refine qj_iload_n cx dX7_loudest_46 rfl rfl ?_
            obtain ⟨c7, hP⟩ := qc_ck hP
            refine qw_iald cx dX7_loudest_47 rfl (Nat.le_of_ble_eq_true rfl) rfl c7 ?_
            refine qj_icmp_le (tgt := 53) cx dX7_loudest_48 (by decide) (fun c8 => ?_) (fun c8 => ?_)
            · have hP := qc_ifT hP c8
              exact L53 (P_X7_loudest_14 f) ih I a1 a2 hP
            · have hP := qc_ifF hP c8
              refine qw_sub (ls1 := [some (.ref 0), none, some (.int a2)]) rfl (qc_sb_ok ⟨rfl, rfl, trivial⟩) ?_
              exact L51 (P_X7_loudest_14 f) ih I a2 hP
  show qc_J F 0 0 0 [some (.ref 0), none, none] [] (I, J, shM)
  unfold P_X7_loudest at hP
  refine qj_aload_n cx dX7_loudest_0 rfl rfl ?_
  refine qj_iconst (v := (0 : Int32)) cx dX7_loudest_1 (by decide) ?_
  obtain ⟨I9, eI9, hP⟩ := qc_letE hP
  refine qw_putI (j := 0) cx dX7_loudest_2 qc_cl7 rfl (Nat.le_of_ble_eq_true rfl) rfl ww_1092 rfl rfl rfl eI9 ?_
  refine qj_aload_n cx dX7_loudest_5 rfl rfl ?_
  obtain ⟨q10, eq10, hP⟩ := Option.bind_eq_some_iff.mp hP
  refine qj_callV (As := []) (st := []) (t := 0) (h' := (q10, J, shM)) (r := none) cx dX7_loudest_6 (c_X7_laysProducts (I := I9) (J := J)  eq10) gc_RX7_326 qm_X7_laysProducts rfl rfl qc_cl7 rfl (Nat.le_of_ble_eq_true rfl) (by decide) (by decide) rfl (Nat.le_of_ble_eq_true rfl) (Nat.le_of_ble_eq_true rfl) hn0 rfl ?_
  refine qj_bipush (v := (-2 : Int32)) cx dX7_loudest_9 (by decide) ?_
  refine qj_istore_n (ls1 := [some (.ref 0), some (.int (-2 : Int32)), none]) cx dX7_loudest_11 rfl rfl rfl rfl ?_
  refine qj_iconst (v := (0 : Int32)) cx dX7_loudest_12 (by decide) ?_
  refine qj_istore_n (ls1 := [some (.ref 0), some (.int (-2 : Int32)), some (.int (0 : Int32))]) cx dX7_loudest_13 rfl rfl rfl rfl ?_
  exact L14 qc_fu q10 (-2 : Int32) (0 : Int32) hP
def P_X7_turnsDown_11  : Nat → (Nat → Nat → Int32) → Int32 → Int32 → Option (Int32 × (Nat → Nat → Int32))
  | 0, _, _, _ => none
  | f + 1, I, a1, a2 =>
  if a2 = (-2 : Int32) then
  some (a1, I)
  else
  if qc_in ((6 : Int32) + a2) 79 then
  if I 13 ((6 : Int32) + a2).toNatClampNeg ≤ 0 then
  some (a1, I)
  else
  if qc_in ((6 : Int32) + a2) 79 then
  if qc_in ((6 : Int32) + a2) 79 then
  qc_let (qc_u2 I 13 ((6 : Int32) + a2).toNatClampNeg ((I 13 ((6 : Int32) + a2).toNatClampNeg) - (1 : Int32))) fun I5 =>
  qc_let (a1 + (1 : Int32)) fun x6 =>
  (P_X7_worstNow I5).bind fun q7 =>
  P_X7_turnsDown_11 f q7.2 x6 q7.1
  else none
  else none
  else none
def P_X7_turnsDown (I : Nat → Nat → Int32) : Option (Int32 × (Nat → Nat → Int32)) :=
  (P_X7_goesAside I).bind fun q9 =>
  (P_X7_worstNow q9).bind fun q10 =>
  P_X7_turnsDown_11 qc_fu q10.2 (0 : Int32) q10.1
set_option maxRecDepth 20000 in
theorem c_X7_turnsDown {I : Nat → Nat → Int32} {J : Nat → Nat → Int64}   {q0 : Int32 × (Nat → Nat → Int32)} (hP : P_X7_turnsDown I = some q0) : ∀ l, qc_M l yX7_turnsDown cX7_turnsDown 3 (some .int) 6 138 0 0 [.ref 0] (I, J, shM) (some (.int q0.1)) (q0.2, J, shM) := by
  intro l
  refine qc_ent2 (by decide) (Nat.le_of_ble_eq_true rfl) ?_
  intro F hn0 cx hz
  have cx : qc_X F cX7_turnsDown RX7 "turnsDown" 6 0 0 138 := cx
  have L11 : ∀  (f : Nat) (I : (Nat → Nat → Int32)) (a1 : Int32) (a2 : Int32), P_X7_turnsDown_11 f I a1 a2 = some q0 → qc_J F 0 0 11 [some (.ref 0), some (.int a1), some (.int a2)] [] (I, J, shM) := by
    intro  f
    induction f with
    | zero => intro I a1 a2 hP; cases hP
    | succ f ih =>
      intro I a1 a2 hP
      rw [P_X7_turnsDown_11] at hP
      refine qj_iload_n cx dX7_turnsDown_11 rfl rfl ?_
      refine qj_bipush (v := (-2 : Int32)) cx dX7_turnsDown_12 (by decide) ?_
      refine qj_icmp_eq (tgt := 53) cx dX7_turnsDown_14 (by decide) (fun c1 => ?_) (fun c1 => ?_)
      · have hP := qc_ifT hP c1
        refine qj_iload_n cx dX7_turnsDown_53 rfl rfl ?_
        exact qw_iret cx hz dX7_turnsDown_54 (Nat.zero_le _) (Nat.zero_le _) (congrArg (fun q => q.1) (Option.some.inj hP)) (congrArg (fun q => q.2) (Option.some.inj hP)) rfl
      · have hP := qc_ifF hP c1
        refine qj_aload_n cx dX7_turnsDown_17 rfl rfl ?_
        refine qw_getR (j := 25) (t1 := 13) cx dX7_turnsDown_18 qc_cl7 rfl (Nat.le_of_ble_eq_true rfl) rfl ww_1117 rfl ?_
        refine qj_bipush (v := (6 : Int32)) cx dX7_turnsDown_21 (by decide) ?_
        refine qj_iload_n cx dX7_turnsDown_23 rfl rfl ?_
        refine qj_iadd cx dX7_turnsDown_24 ?_
        obtain ⟨c2, hP⟩ := qc_ck hP
        refine qw_iald cx dX7_turnsDown_25 rfl (Nat.le_of_ble_eq_true rfl) rfl c2 ?_
        refine qj_if_le (tgt := 53) cx dX7_turnsDown_26 (by decide) (fun c3 => ?_) (fun c3 => ?_)
        · have hP := qc_ifT hP c3
          refine qj_iload_n cx dX7_turnsDown_53 rfl rfl ?_
          exact qw_iret cx hz dX7_turnsDown_54 (Nat.zero_le _) (Nat.zero_le _) (congrArg (fun q => q.1) (Option.some.inj hP)) (congrArg (fun q => q.2) (Option.some.inj hP)) rfl
        · have hP := qc_ifF hP c3
          refine qj_aload_n cx dX7_turnsDown_29 rfl rfl ?_
          refine qw_getR (j := 25) (t1 := 13) cx dX7_turnsDown_30 qc_cl7 rfl (Nat.le_of_ble_eq_true rfl) rfl ww_1117 rfl ?_
          refine qj_bipush (v := (6 : Int32)) cx dX7_turnsDown_33 (by decide) ?_
          refine qj_iload_n cx dX7_turnsDown_35 rfl rfl ?_
          refine qj_iadd cx dX7_turnsDown_36 ?_
          refine qj_dup2 cx dX7_turnsDown_37 rfl rfl ?_
          obtain ⟨c4, hP⟩ := qc_ck hP
          refine qw_iald cx dX7_turnsDown_38 rfl (Nat.le_of_ble_eq_true rfl) rfl c4 ?_
          refine qj_iconst (v := (1 : Int32)) cx dX7_turnsDown_39 (by decide) ?_
          refine qj_isub cx dX7_turnsDown_40 ?_
          obtain ⟨c8, hP⟩ := qc_ck hP
          obtain ⟨I5, eI5, hP⟩ := qc_letE hP
          refine qw_iast cx dX7_turnsDown_41 rfl (Nat.le_of_ble_eq_true rfl) rfl c8 eI5 ?_
          obtain ⟨x6, ex6, hP⟩ := qc_letE hP
          refine qj_iinc (v := x6) (ls1 := [some (.ref 0), some (.int x6), some (.int a2)]) cx dX7_turnsDown_42 rfl (by rw [ex6]; rfl) rfl rfl ?_
          refine qj_aload_n cx dX7_turnsDown_45 rfl rfl ?_
          obtain ⟨q7, eq7, hP⟩ := Option.bind_eq_some_iff.mp hP
          refine qj_callV (As := []) (st := []) (t := 0) (h' := (q7.2, J, shM)) (r := some (.int q7.1)) cx dX7_turnsDown_46 (c_X7_worstNow (I := I5) (J := J)  eq7) gc_RX7_396 qm_X7_worstNow rfl rfl qc_cl7 rfl (Nat.le_of_ble_eq_true rfl) (by decide) (by decide) rfl (Nat.le_of_ble_eq_true rfl) (Nat.le_of_ble_eq_true rfl) hn0 rfl ?_
          refine qj_istore_n (ls1 := [some (.ref 0), some (.int x6), some (.int q7.1)]) cx dX7_turnsDown_49 rfl rfl rfl rfl ?_
          refine qj_goto (tgt := 11) cx dX7_turnsDown_50 (by decide) ?_
          exact ih q7.2 x6 q7.1 hP
  show qc_J F 0 0 0 [some (.ref 0), none, none] [] (I, J, shM)
  unfold P_X7_turnsDown at hP
  refine qj_aload_n cx dX7_turnsDown_0 rfl rfl ?_
  obtain ⟨q9, eq9, hP⟩ := Option.bind_eq_some_iff.mp hP
  refine qj_callV (As := []) (st := []) (t := 0) (h' := (q9, J, shM)) (r := none) cx dX7_turnsDown_1 (c_X7_goesAside (I := I) (J := J)  eq9) gc_RX7_348 qm_X7_goesAside rfl rfl qc_cl7 rfl (Nat.le_of_ble_eq_true rfl) (by decide) (by decide) rfl (Nat.le_of_ble_eq_true rfl) (Nat.le_of_ble_eq_true rfl) hn0 rfl ?_
  refine qj_iconst (v := (0 : Int32)) cx dX7_turnsDown_4 (by decide) ?_
  refine qj_istore_n (ls1 := [some (.ref 0), some (.int (0 : Int32)), none]) cx dX7_turnsDown_5 rfl rfl rfl rfl ?_
  refine qj_aload_n cx dX7_turnsDown_6 rfl rfl ?_
  obtain ⟨q10, eq10, hP⟩ := Option.bind_eq_some_iff.mp hP
  refine qj_callV (As := []) (st := []) (t := 0) (h' := (q10.2, J, shM)) (r := some (.int q10.1)) cx dX7_turnsDown_7 (c_X7_worstNow (I := q9) (J := J)  eq10) gc_RX7_396 qm_X7_worstNow rfl rfl qc_cl7 rfl (Nat.le_of_ble_eq_true rfl) (by decide) (by decide) rfl (Nat.le_of_ble_eq_true rfl) (Nat.le_of_ble_eq_true rfl) hn0 rfl ?_
  refine qj_istore_n (ls1 := [some (.ref 0), some (.int (0 : Int32)), some (.int q10.1)]) cx dX7_turnsDown_10 rfl rfl rfl rfl ?_
  exact L11 qc_fu q10.2 (0 : Int32) q10.1 hP
def P_X7_turned_21  (I : (Nat → Nat → Int32)) (a1 : Int32) : Option (Int32 × (Nat → Nat → Int32)) :=
  (P_X7_turnsDown I).bind fun q1 =>
  (if a1 = (-1 : Int32) then
  some q1.1
  else
  if qc_in ((6 : Int32) + a1) 79 then
  some (q1.2 13 ((6 : Int32) + a1).toNatClampNeg)
  else none).bind fun v3 =>
  (P_X7_comesBack q1.2).bind fun q5 =>
  some (v3, q5)
def P_X7_turned (I : Nat → Nat → Int32) (a : Int32) : Option (Int32 × (Nat → Nat → Int32)) :=
  qc_let (qc_u2 I 0 0 (0 : Int32)) fun I6 =>
  if a = (-1 : Int32) then
  P_X7_turned_21 I6 a
  else
  (P_X7_isUser I6 a).bind fun q8 =>
  if q8 = 0 then
  some ((-2 : Int32), I6)
  else
  P_X7_turned_21 I6 a
set_option maxRecDepth 20000 in
theorem c_X7_turned {I : Nat → Nat → Int32} {J : Nat → Nat → Int64}  {a : Int32} {q0 : Int32 × (Nat → Nat → Int32)} (hP : P_X7_turned I a = some q0) : ∀ l, qc_M l yX7_turned cX7_turned 4 (some .int) 7 160 0 0 [.ref 0, .int a] (I, J, shM) (some (.int q0.1)) (q0.2, J, shM) := by
  intro l
  refine qc_ent2 (by decide) (Nat.le_of_ble_eq_true rfl) ?_
  intro F hn0 cx hz
  have cx : qc_X F cX7_turned RX7 "turned" 7 0 0 160 := cx
  have L21 : ∀  (I : (Nat → Nat → Int32)) (a1 : Int32), P_X7_turned_21 I a1 = some q0 → qc_J F 0 0 21 [some (.ref 0), some (.int a1), none, none] [] (I, J, shM) := by
    intro I a1 hP
    unfold P_X7_turned_21 at hP
    refine qj_aload_n cx dX7_turned_21 rfl rfl ?_
    obtain ⟨q1, eq1, hP⟩ := Option.bind_eq_some_iff.mp hP
    refine qj_callV (As := []) (st := []) (t := 0) (h' := (q1.2, J, shM)) (r := some (.int q1.1)) cx dX7_turned_22 (c_X7_turnsDown (I := I) (J := J)  eq1) gc_RX7_399 qm_X7_turnsDown rfl rfl qc_cl7 rfl (Nat.le_of_ble_eq_true rfl) (by decide) (by decide) rfl (Nat.le_of_ble_eq_true rfl) (Nat.le_of_ble_eq_true rfl) hn0 rfl ?_
    refine qj_istore_n (ls1 := [some (.ref 0), some (.int a1), some (.int q1.1), none]) cx dX7_turned_25 rfl rfl rfl rfl ?_
    refine qj_iload_n cx dX7_turned_26 rfl rfl ?_
    refine qj_iconst (v := (-1 : Int32)) cx dX7_turned_27 (by decide) ?_
    obtain ⟨v3, hv3, hP⟩ := Option.bind_eq_some_iff.mp hP
    have Kv3 : qc_J F 0 0 44 [some (.ref 0), some (.int a1), some (.int q1.1), none] [.int v3] (q1.2, J, shM) := by
      refine qj_istore_n (ls1 := [some (.ref 0), some (.int a1), some (.int q1.1), some (.int v3)]) cx dX7_turned_44 rfl rfl rfl rfl ?_
      refine qj_aload_n cx dX7_turned_45 rfl rfl ?_
      obtain ⟨q5, eq5, hP⟩ := Option.bind_eq_some_iff.mp hP
      refine qj_callV (As := []) (st := []) (t := 0) (h' := (q5, J, shM)) (r := none) cx dX7_turned_46 (c_X7_comesBack (I := q1.2) (J := J)  eq5) gc_RX7_357 qm_X7_comesBack rfl rfl qc_cl7 rfl (Nat.le_of_ble_eq_true rfl) (by decide) (by decide) rfl (Nat.le_of_ble_eq_true rfl) (Nat.le_of_ble_eq_true rfl) hn0 rfl ?_
      refine qj_iload_n cx dX7_turned_49 rfl rfl ?_
      exact qw_iret cx hz dX7_turned_50 (Nat.zero_le _) (Nat.zero_le _) (congrArg (fun q => q.1) (Option.some.inj hP)) (congrArg (fun q => q.2) (Option.some.inj hP)) rfl
    refine qj_icmp_ne (tgt := 35) cx dX7_turned_28 (by decide) (fun c2 => ?_) (fun c2 => ?_)
    · have hv3 := qc_ifF hv3 c2
      refine qj_aload_n cx dX7_turned_35 rfl rfl ?_
      refine qw_getR (j := 25) (t1 := 13) cx dX7_turned_36 qc_cl7 rfl (Nat.le_of_ble_eq_true rfl) rfl ww_1117 rfl ?_
      refine qj_bipush (v := (6 : Int32)) cx dX7_turned_39 (by decide) ?_
      refine qj_iload_n cx dX7_turned_41 rfl rfl ?_
      refine qj_iadd cx dX7_turned_42 ?_
      obtain ⟨c4, hv3⟩ := qc_ck hv3
      refine qw_iald cx dX7_turned_43 rfl (Nat.le_of_ble_eq_true rfl) rfl c4 ?_
      exact qw_top (Option.some.inj hv3).symm Kv3
    · have hv3 := qc_ifT hv3 c2
      refine qj_iload_n cx dX7_turned_31 rfl rfl ?_
      refine qj_goto (tgt := 44) cx dX7_turned_32 (by decide) ?_
      exact qw_top (Option.some.inj hv3).symm Kv3
  show qc_J F 0 0 0 [some (.ref 0), some (.int a), none, none] [] (I, J, shM)
  unfold P_X7_turned at hP
  refine qj_aload_n cx dX7_turned_0 rfl rfl ?_
  refine qj_iconst (v := (0 : Int32)) cx dX7_turned_1 (by decide) ?_
  obtain ⟨I6, eI6, hP⟩ := qc_letE hP
  refine qw_putI (j := 0) cx dX7_turned_2 qc_cl7 rfl (Nat.le_of_ble_eq_true rfl) rfl ww_1092 rfl rfl rfl eI6 ?_
  refine qj_iload_n cx dX7_turned_5 rfl rfl ?_
  refine qj_iconst (v := (-1 : Int32)) cx dX7_turned_6 (by decide) ?_
  refine qj_icmp_eq (tgt := 21) cx dX7_turned_7 (by decide) (fun c7 => ?_) (fun c7 => ?_)
  · have hP := qc_ifT hP c7
    exact L21 I6 a hP
  · have hP := qc_ifF hP c7
    refine qj_aload_n cx dX7_turned_10 rfl rfl ?_
    refine qj_iload_n cx dX7_turned_11 rfl rfl ?_
    obtain ⟨q8, eq8, hP⟩ := Option.bind_eq_some_iff.mp hP
    refine qj_callV (As := [.int a]) (st := []) (t := 0) (h' := (I6, J, shM)) (r := some (.int q8)) cx dX7_turned_12 (c_X7_isUser (I := I6) (J := J)  eq8) gc_RX7_259 qm_X7_isUser rfl rfl qc_cl7 rfl (Nat.le_of_ble_eq_true rfl) (by decide) (by decide) rfl (Nat.le_of_ble_eq_true rfl) (Nat.le_of_ble_eq_true rfl) hn0 rfl ?_
    refine qj_if_ne (tgt := 21) cx dX7_turned_15 (by decide) (fun c9 => ?_) (fun c9 => ?_)
    · have hP := qc_ifF hP c9
      exact L21 I6 a hP
    · have hP := qc_ifT hP c9
      refine qj_bipush (v := (-2 : Int32)) cx dX7_turned_18 (by decide) ?_
      exact qw_iret cx hz dX7_turned_20 (Nat.zero_le _) (Nat.zero_le _) (congrArg (fun q => q.1) (Option.some.inj hP)) (congrArg (fun q => q.2) (Option.some.inj hP)) rfl
def P_X7_left (I : Nat → Nat → Int32) : Option (Int32 × (Nat → Nat → Int32)) :=
  qc_let (qc_u2 I 0 0 (0 : Int32)) fun I1 =>
  (P_X7_turnsDown I1).bind fun q2 =>
  (P_X7_laysProducts q2.2).bind fun q3 =>
  (P_X7_allHits q3).bind fun q4 =>
  (P_X7_comesBack q3).bind fun q5 =>
  some (q4, q5)
set_option maxRecDepth 20000 in
theorem c_X7_left {I : Nat → Nat → Int32} {J : Nat → Nat → Int64}   {q0 : Int32 × (Nat → Nat → Int32)} (hP : P_X7_left I = some q0) : ∀ l, qc_M l yX7_left cX7_left 2 (some .int) 7 160 0 0 [.ref 0] (I, J, shM) (some (.int q0.1)) (q0.2, J, shM) := by
  intro l
  refine qc_ent2 (by decide) (Nat.le_of_ble_eq_true rfl) ?_
  intro F hn0 cx hz
  have cx : qc_X F cX7_left RX7 "left" 7 0 0 160 := cx
  show qc_J F 0 0 0 [some (.ref 0), none] [] (I, J, shM)
  unfold P_X7_left at hP
  refine qj_aload_n cx dX7_left_0 rfl rfl ?_
  refine qj_iconst (v := (0 : Int32)) cx dX7_left_1 (by decide) ?_
  obtain ⟨I1, eI1, hP⟩ := qc_letE hP
  refine qw_putI (j := 0) cx dX7_left_2 qc_cl7 rfl (Nat.le_of_ble_eq_true rfl) rfl ww_1092 rfl rfl rfl eI1 ?_
  refine qj_aload_n cx dX7_left_5 rfl rfl ?_
  obtain ⟨q2, eq2, hP⟩ := Option.bind_eq_some_iff.mp hP
  refine qj_callV (As := []) (st := []) (t := 0) (h' := (q2.2, J, shM)) (r := some (.int q2.1)) cx dX7_left_6 (c_X7_turnsDown (I := I1) (J := J)  eq2) gc_RX7_399 qm_X7_turnsDown rfl rfl qc_cl7 rfl (Nat.le_of_ble_eq_true rfl) (by decide) (by decide) rfl (Nat.le_of_ble_eq_true rfl) (Nat.le_of_ble_eq_true rfl) hn0 rfl ?_
  refine qj_pop cx dX7_left_9 rfl ?_
  refine qj_aload_n cx dX7_left_10 rfl rfl ?_
  obtain ⟨q3, eq3, hP⟩ := Option.bind_eq_some_iff.mp hP
  refine qj_callV (As := []) (st := []) (t := 0) (h' := (q3, J, shM)) (r := none) cx dX7_left_11 (c_X7_laysProducts (I := q2.2) (J := J)  eq3) gc_RX7_326 qm_X7_laysProducts rfl rfl qc_cl7 rfl (Nat.le_of_ble_eq_true rfl) (by decide) (by decide) rfl (Nat.le_of_ble_eq_true rfl) (Nat.le_of_ble_eq_true rfl) hn0 rfl ?_
  refine qj_aload_n cx dX7_left_14 rfl rfl ?_
  obtain ⟨q4, eq4, hP⟩ := Option.bind_eq_some_iff.mp hP
  refine qj_callV (As := []) (st := []) (t := 0) (h' := (q3, J, shM)) (r := some (.int q4)) cx dX7_left_15 (c_X7_allHits (I := q3) (J := J)  eq4) gc_RX7_381 qm_X7_allHits rfl rfl qc_cl7 rfl (Nat.le_of_ble_eq_true rfl) (by decide) (by decide) rfl (Nat.le_of_ble_eq_true rfl) (Nat.le_of_ble_eq_true rfl) hn0 rfl ?_
  refine qj_istore_n (ls1 := [some (.ref 0), some (.int q4)]) cx dX7_left_18 rfl rfl rfl rfl ?_
  refine qj_aload_n cx dX7_left_19 rfl rfl ?_
  obtain ⟨q5, eq5, hP⟩ := Option.bind_eq_some_iff.mp hP
  refine qj_callV (As := []) (st := []) (t := 0) (h' := (q5, J, shM)) (r := none) cx dX7_left_20 (c_X7_comesBack (I := q3) (J := J)  eq5) gc_RX7_357 qm_X7_comesBack rfl rfl qc_cl7 rfl (Nat.le_of_ble_eq_true rfl) (by decide) (by decide) rfl (Nat.le_of_ble_eq_true rfl) (Nat.le_of_ble_eq_true rfl) hn0 rfl ?_
  refine qj_iload_n cx dX7_left_23 rfl rfl ?_
  exact qw_iret cx hz dX7_left_24 (Nat.zero_le _) (Nat.zero_le _) (congrArg (fun q => q.1) (Option.some.inj hP)) (congrArg (fun q => q.2) (Option.some.inj hP)) rfl
def P_X7_bestSwap_121 (k24 : (Nat → Nat → Int32) → Int32 → Int32 → Int32 → Option (Int32 × (Nat → Nat → Int32))) (k37 : (Nat → Nat → Int32) → Int32 → Int32 → Int32 → Int32 → Option (Int32 × (Nat → Nat → Int32))) (I : (Nat → Nat → Int32)) (a1 : Int32) (a2 : Int32) (a3 : Int32) (a4 : Int32) : Option (Int32 × (Nat → Nat → Int32)) :=
  qc_let (a4 + (1 : Int32)) fun x1 =>
  k37 I a1 a2 a3 x1
def P_X7_bestSwap_37 (k24 : (Nat → Nat → Int32) → Int32 → Int32 → Int32 → Option (Int32 × (Nat → Nat → Int32))) : Nat → (Nat → Nat → Int32) → Int32 → Int32 → Int32 → Int32 → Option (Int32 × (Nat → Nat → Int32))
  | 0, _, _, _, _, _ => none
  | f + 1, I, a1, a2, a3, a4 =>
  (P_X7_users I).bind fun q2 =>
  if q2 ≤ a4 then
  qc_let (a3 + (1 : Int32)) fun x4 =>
  k24 I a1 a2 x4
  else
  if qc_in ((0 : Int32) + a3) 79 then
  if I 13 ((0 : Int32) + a3).toNatClampNeg = 0 then
  P_X7_bestSwap_121 k24 (P_X7_bestSwap_37 k24 f) I a1 a2 a3 a4
  else
  if qc_in ((0 : Int32) + a4) 79 then
  if I 13 ((0 : Int32) + a4).toNatClampNeg = 0 then
  P_X7_bestSwap_121 k24 (P_X7_bestSwap_37 k24 f) I a1 a2 a3 a4
  else
  (P_X7_exchanges I a3 a4).bind fun q9 =>
  (P_X7_laysProducts q9).bind fun q10 =>
  (P_X7_allHits q10).bind fun q11 =>
  (P_X7_allCrowds q10).bind fun q12 =>
  qc_let (q11 + q12) fun x13 =>
  (P_X7_exchanges q10 a3 a4).bind fun q14 =>
  if x13 < a1 then
  qc_let (((6 : Int32) * a3) + a4) fun x16 =>
  P_X7_bestSwap_121 k24 (P_X7_bestSwap_37 k24 f) q14 x13 x16 a3 a4
  else
  P_X7_bestSwap_121 k24 (P_X7_bestSwap_37 k24 f) q14 a1 a2 a3 a4
  else none
  else none
def P_X7_bestSwap_24  : Nat → (Nat → Nat → Int32) → Int32 → Int32 → Int32 → Option (Int32 × (Nat → Nat → Int32))
  | 0, _, _, _, _ => none
  | f + 1, I, a1, a2, a3 =>
  (P_X7_users I).bind fun q17 =>
  if q17 ≤ a3 then
  some (a2, I)
  else
  qc_let (a3 + (1 : Int32)) fun x19 =>
  P_X7_bestSwap_37 (P_X7_bestSwap_24 f) qc_fu I a1 a2 a3 x19
def P_X7_bestSwap (I : Nat → Nat → Int32) : Option (Int32 × (Nat → Nat → Int32)) :=
  qc_let (qc_u2 I 0 0 (0 : Int32)) fun I20 =>
  (P_X7_laysProducts I20).bind fun q21 =>
  (P_X7_allHits q21).bind fun q22 =>
  (P_X7_allCrowds q21).bind fun q23 =>
  qc_let (q22 + q23) fun x24 =>
  P_X7_bestSwap_24 qc_fu q21 x24 (-2 : Int32) (0 : Int32)
set_option maxRecDepth 20000 in
theorem c_X7_bestSwap {I : Nat → Nat → Int32} {J : Nat → Nat → Int64}   {q0 : Int32 × (Nat → Nat → Int32)} (hP : P_X7_bestSwap I = some q0) : ∀ l, qc_M l yX7_bestSwap cX7_bestSwap 6 (some .int) 5 113 0 0 [.ref 0] (I, J, shM) (some (.int q0.1)) (q0.2, J, shM) := by
  intro l
  refine qc_ent2 (by decide) (Nat.le_of_ble_eq_true rfl) ?_
  intro F hn0 cx hz
  have cx : qc_X F cX7_bestSwap RX7 "bestSwap" 5 0 0 113 := cx
  have L121 : ∀ (k24 : (Nat → Nat → Int32) → Int32 → Int32 → Int32 → Option (Int32 × (Nat → Nat → Int32))) (g24 : ∀ (I : Nat → Nat → Int32) (a1 : Int32) (a2 : Int32) (a3 : Int32), k24 I a1 a2 a3 = some q0 → qc_J F 0 0 24 [some (.ref 0), some (.int a1), some (.int a2), some (.int a3), none, none] [] (I, J, shM)) (k37 : (Nat → Nat → Int32) → Int32 → Int32 → Int32 → Int32 → Option (Int32 × (Nat → Nat → Int32))) (g37 : ∀ (I : Nat → Nat → Int32) (a1 : Int32) (a2 : Int32) (a3 : Int32) (a4 : Int32), k37 I a1 a2 a3 a4 = some q0 → qc_J F 0 0 37 [some (.ref 0), some (.int a1), some (.int a2), some (.int a3), some (.int a4), none] [] (I, J, shM)) (I : (Nat → Nat → Int32)) (a1 : Int32) (a2 : Int32) (a3 : Int32) (a4 : Int32), P_X7_bestSwap_121 k24 k37 I a1 a2 a3 a4 = some q0 → qc_J F 0 0 121 [some (.ref 0), some (.int a1), some (.int a2), some (.int a3), some (.int a4), none] [] (I, J, shM) := by
    intro k24 g24 k37 g37 I a1 a2 a3 a4 hP
    unfold P_X7_bestSwap_121 at hP
    obtain ⟨x1, ex1, hP⟩ := qc_letE hP
    refine qj_iinc (v := x1) (ls1 := [some (.ref 0), some (.int a1), some (.int a2), some (.int a3), some (.int x1), none]) cx dX7_bestSwap_121 rfl (by rw [ex1]; rfl) rfl rfl ?_
    refine qj_goto (tgt := 37) cx dX7_bestSwap_124 (by decide) ?_
    exact g37 I a1 a2 a3 x1 hP
  have L37 : ∀ (k24 : (Nat → Nat → Int32) → Int32 → Int32 → Int32 → Option (Int32 × (Nat → Nat → Int32))) (g24 : ∀ (I : Nat → Nat → Int32) (a1 : Int32) (a2 : Int32) (a3 : Int32), k24 I a1 a2 a3 = some q0 → qc_J F 0 0 24 [some (.ref 0), some (.int a1), some (.int a2), some (.int a3), none, none] [] (I, J, shM)) (f : Nat) (I : (Nat → Nat → Int32)) (a1 : Int32) (a2 : Int32) (a3 : Int32) (a4 : Int32), P_X7_bestSwap_37 k24 f I a1 a2 a3 a4 = some q0 → qc_J F 0 0 37 [some (.ref 0), some (.int a1), some (.int a2), some (.int a3), some (.int a4), none] [] (I, J, shM) := by
    intro k24 g24 f
    induction f with
    | zero => intro I a1 a2 a3 a4 hP; cases hP
    | succ f ih =>
      intro I a1 a2 a3 a4 hP
      rw [P_X7_bestSwap_37] at hP
      refine qj_iload cx dX7_bestSwap_37 rfl ?_
      refine qj_aload_n cx dX7_bestSwap_39 rfl rfl ?_
      obtain ⟨q2, eq2, hP⟩ := Option.bind_eq_some_iff.mp hP
      refine qj_callV (As := []) (st := [.int a4]) (t := 0) (h' := (I, J, shM)) (r := some (.int q2)) cx dX7_bestSwap_40 (c_X7_users (I := I) (J := J)  eq2) gc_RX7_232 qm_X7_users rfl rfl qc_cl7 rfl (Nat.le_of_ble_eq_true rfl) (by decide) (by decide) rfl (Nat.le_of_ble_eq_true rfl) (Nat.le_of_ble_eq_true rfl) hn0 rfl ?_
      refine qj_icmp_ge (tgt := 127) cx dX7_bestSwap_43 (by decide) (fun c3 => ?_) (fun c3 => ?_)
      · have hP := qc_ifT hP c3
        obtain ⟨x4, ex4, hP⟩ := qc_letE hP
        refine qj_iinc (v := x4) (ls1 := [some (.ref 0), some (.int a1), some (.int a2), some (.int x4), some (.int a4), none]) cx dX7_bestSwap_127 rfl (by rw [ex4]; rfl) rfl rfl ?_
        refine qj_goto (tgt := 24) cx dX7_bestSwap_130 (by decide) ?_
        refine qw_sub (ls1 := [some (.ref 0), some (.int a1), some (.int a2), some (.int x4), none, none]) rfl (qc_sb_ok ⟨rfl, rfl, rfl, rfl, trivial⟩) ?_
        exact g24 I a1 a2 x4 hP
      · have hP := qc_ifF hP c3
        refine qj_aload_n cx dX7_bestSwap_46 rfl rfl ?_
        refine qw_getR (j := 25) (t1 := 13) cx dX7_bestSwap_47 qc_cl7 rfl (Nat.le_of_ble_eq_true rfl) rfl ww_1117 rfl ?_
        refine qj_iconst (v := (0 : Int32)) cx dX7_bestSwap_50 (by decide) ?_
        refine qj_iload_n cx dX7_bestSwap_51 rfl rfl ?_
        refine qj_iadd cx dX7_bestSwap_52 ?_
        obtain ⟨c5, hP⟩ := qc_ck hP
        refine qw_iald cx dX7_bestSwap_53 rfl (Nat.le_of_ble_eq_true rfl) rfl c5 ?_
        refine qj_if_eq (tgt := 121) cx dX7_bestSwap_54 (by decide) (fun c6 => ?_) (fun c6 => ?_)
        · have hP := qc_ifT hP c6
          exact L121 k24 g24 (P_X7_bestSwap_37 k24 f) ih I a1 a2 a3 a4 hP
        · have hP := qc_ifF hP c6
          refine qj_aload_n cx dX7_bestSwap_57 rfl rfl ?_
          refine qw_getR (j := 25) (t1 := 13) cx dX7_bestSwap_58 qc_cl7 rfl (Nat.le_of_ble_eq_true rfl) rfl ww_1117 rfl ?_
          refine qj_iconst (v := (0 : Int32)) cx dX7_bestSwap_61 (by decide) ?_
          refine qj_iload cx dX7_bestSwap_62 rfl ?_
          refine qj_iadd cx dX7_bestSwap_64 ?_
          obtain ⟨c7, hP⟩ := qc_ck hP
          refine qw_iald cx dX7_bestSwap_65 rfl (Nat.le_of_ble_eq_true rfl) rfl c7 ?_
          refine qj_if_ne (tgt := 72) cx dX7_bestSwap_66 (by decide) (fun c8 => ?_) (fun c8 => ?_)
          · have hP := qc_ifF hP c8
            refine qj_aload_n cx dX7_bestSwap_72 rfl rfl ?_
            refine qj_iload_n cx dX7_bestSwap_73 rfl rfl ?_
            refine qj_iload cx dX7_bestSwap_74 rfl ?_
            obtain ⟨q9, eq9, hP⟩ := Option.bind_eq_some_iff.mp hP
            refine qj_callV (As := [.int a3, .int a4]) (st := []) (t := 0) (h' := (q9, J, shM)) (r := none) cx dX7_bestSwap_76 (c_X7_exchanges (I := I) (J := J)  eq9) gc_RX7_402 qm_X7_exchanges rfl rfl qc_cl7 rfl (Nat.le_of_ble_eq_true rfl) (by decide) (by decide) rfl (Nat.le_of_ble_eq_true rfl) (Nat.le_of_ble_eq_true rfl) hn0 rfl ?_
            refine qj_aload_n cx dX7_bestSwap_79 rfl rfl ?_
            obtain ⟨q10, eq10, hP⟩ := Option.bind_eq_some_iff.mp hP
            refine qj_callV (As := []) (st := []) (t := 0) (h' := (q10, J, shM)) (r := none) cx dX7_bestSwap_80 (c_X7_laysProducts (I := q9) (J := J)  eq10) gc_RX7_326 qm_X7_laysProducts rfl rfl qc_cl7 rfl (Nat.le_of_ble_eq_true rfl) (by decide) (by decide) rfl (Nat.le_of_ble_eq_true rfl) (Nat.le_of_ble_eq_true rfl) hn0 rfl ?_
            refine qj_aload_n cx dX7_bestSwap_83 rfl rfl ?_
            obtain ⟨q11, eq11, hP⟩ := Option.bind_eq_some_iff.mp hP
            refine qj_callV (As := []) (st := []) (t := 0) (h' := (q10, J, shM)) (r := some (.int q11)) cx dX7_bestSwap_84 (c_X7_allHits (I := q10) (J := J)  eq11) gc_RX7_381 qm_X7_allHits rfl rfl qc_cl7 rfl (Nat.le_of_ble_eq_true rfl) (by decide) (by decide) rfl (Nat.le_of_ble_eq_true rfl) (Nat.le_of_ble_eq_true rfl) hn0 rfl ?_
            refine qj_aload_n cx dX7_bestSwap_87 rfl rfl ?_
            obtain ⟨q12, eq12, hP⟩ := Option.bind_eq_some_iff.mp hP
            refine qj_callV (As := []) (st := [.int q11]) (t := 0) (h' := (q10, J, shM)) (r := some (.int q12)) cx dX7_bestSwap_88 (c_X7_allCrowds (I := q10) (J := J)  eq12) gc_RX7_384 qm_X7_allCrowds rfl rfl qc_cl7 rfl (Nat.le_of_ble_eq_true rfl) (by decide) (by decide) rfl (Nat.le_of_ble_eq_true rfl) (Nat.le_of_ble_eq_true rfl) hn0 rfl ?_
            refine qj_iadd cx dX7_bestSwap_91 ?_
            obtain ⟨x13, ex13, hP⟩ := qc_letE hP
            refine qw_top ex13 ?_
            refine qj_istore (ls1 := [some (.ref 0), some (.int a1), some (.int a2), some (.int a3), some (.int a4), some (.int x13)]) cx dX7_bestSwap_92 rfl rfl rfl ?_
            refine qj_aload_n cx dX7_bestSwap_94 rfl rfl ?_
            refine qj_iload_n cx dX7_bestSwap_95 rfl rfl ?_
            refine qj_iload cx dX7_bestSwap_96 rfl ?_
            obtain ⟨q14, eq14, hP⟩ := Option.bind_eq_some_iff.mp hP
            refine qj_callV (As := [.int a3, .int a4]) (st := []) (t := 0) (h' := (q14, J, shM)) (r := none) cx dX7_bestSwap_98 (c_X7_exchanges (I := q10) (J := J)  eq14) gc_RX7_402 qm_X7_exchanges rfl rfl qc_cl7 rfl (Nat.le_of_ble_eq_true rfl) (by decide) (by decide) rfl (Nat.le_of_ble_eq_true rfl) (Nat.le_of_ble_eq_true rfl) hn0 rfl ?_
            refine qj_iload cx dX7_bestSwap_101 rfl ?_
            refine qj_iload_n cx dX7_bestSwap_103 rfl rfl ?_
            refine qj_icmp_lt (tgt := 110) cx dX7_bestSwap_104 (by decide) (fun c15 => ?_) (fun c15 => ?_)
            · have hP := qc_ifT hP c15
              refine qj_bipush (v := (6 : Int32)) cx dX7_bestSwap_110 (by decide) ?_
              refine qj_iload_n cx dX7_bestSwap_112 rfl rfl ?_
              refine qj_imul cx dX7_bestSwap_113 ?_
              refine qj_iload cx dX7_bestSwap_114 rfl ?_
              refine qj_iadd cx dX7_bestSwap_116 ?_
              obtain ⟨x16, ex16, hP⟩ := qc_letE hP
              refine qw_top ex16 ?_
              refine qj_istore_n (ls1 := [some (.ref 0), some (.int a1), some (.int x16), some (.int a3), some (.int a4), some (.int x13)]) cx dX7_bestSwap_117 rfl rfl rfl rfl ?_
              refine qj_iload cx dX7_bestSwap_118 rfl ?_
              refine qj_istore_n (ls1 := [some (.ref 0), some (.int x13), some (.int x16), some (.int a3), some (.int a4), some (.int x13)]) cx dX7_bestSwap_120 rfl rfl rfl rfl ?_
              refine qw_sub (ls1 := [some (.ref 0), some (.int x13), some (.int x16), some (.int a3), some (.int a4), none]) rfl (qc_sb_ok ⟨rfl, rfl, rfl, rfl, rfl, trivial⟩) ?_
              exact L121 k24 g24 (P_X7_bestSwap_37 k24 f) ih q14 x13 x16 a3 a4 hP
            · have hP := qc_ifF hP c15
              refine qj_goto (tgt := 121) cx dX7_bestSwap_107 (by decide) ?_
              refine qw_sub (ls1 := [some (.ref 0), some (.int a1), some (.int a2), some (.int a3), some (.int a4), none]) rfl (qc_sb_ok ⟨rfl, rfl, rfl, rfl, rfl, trivial⟩) ?_
              exact L121 k24 g24 (P_X7_bestSwap_37 k24 f) ih q14 a1 a2 a3 a4 hP
          · have hP := qc_ifT hP c8
            refine qj_goto (tgt := 121) cx dX7_bestSwap_69 (by decide) ?_
            exact L121 k24 g24 (P_X7_bestSwap_37 k24 f) ih I a1 a2 a3 a4 hP
  have L24 : ∀  (f : Nat) (I : (Nat → Nat → Int32)) (a1 : Int32) (a2 : Int32) (a3 : Int32), P_X7_bestSwap_24 f I a1 a2 a3 = some q0 → qc_J F 0 0 24 [some (.ref 0), some (.int a1), some (.int a2), some (.int a3), none, none] [] (I, J, shM) := by
    intro  f
    induction f with
    | zero => intro I a1 a2 a3 hP; cases hP
    | succ f ih =>
      intro I a1 a2 a3 hP
      rw [P_X7_bestSwap_24] at hP
      refine qj_iload_n cx dX7_bestSwap_24 rfl rfl ?_
      refine qj_aload_n cx dX7_bestSwap_25 rfl rfl ?_
      obtain ⟨q17, eq17, hP⟩ := Option.bind_eq_some_iff.mp hP
      refine qj_callV (As := []) (st := [.int a3]) (t := 0) (h' := (I, J, shM)) (r := some (.int q17)) cx dX7_bestSwap_26 (c_X7_users (I := I) (J := J)  eq17) gc_RX7_232 qm_X7_users rfl rfl qc_cl7 rfl (Nat.le_of_ble_eq_true rfl) (by decide) (by decide) rfl (Nat.le_of_ble_eq_true rfl) (Nat.le_of_ble_eq_true rfl) hn0 rfl ?_
      refine qj_icmp_ge (tgt := 133) cx dX7_bestSwap_29 (by decide) (fun c18 => ?_) (fun c18 => ?_)
      · have hP := qc_ifT hP c18
        refine qj_iload_n cx dX7_bestSwap_133 rfl rfl ?_
        exact qw_iret cx hz dX7_bestSwap_134 (Nat.zero_le _) (Nat.zero_le _) (congrArg (fun q => q.1) (Option.some.inj hP)) (congrArg (fun q => q.2) (Option.some.inj hP)) rfl
      · have hP := qc_ifF hP c18
        refine qj_iload_n cx dX7_bestSwap_32 rfl rfl ?_
        refine qj_iconst (v := (1 : Int32)) cx dX7_bestSwap_33 (by decide) ?_
        refine qj_iadd cx dX7_bestSwap_34 ?_
        obtain ⟨x19, ex19, hP⟩ := qc_letE hP
        refine qw_top ex19 ?_
        refine qj_istore (ls1 := [some (.ref 0), some (.int a1), some (.int a2), some (.int a3), some (.int x19), none]) cx dX7_bestSwap_35 rfl rfl rfl ?_
        exact L37 (P_X7_bestSwap_24 f) ih qc_fu I a1 a2 a3 x19 hP
  show qc_J F 0 0 0 [some (.ref 0), none, none, none, none, none] [] (I, J, shM)
  unfold P_X7_bestSwap at hP
  refine qj_aload_n cx dX7_bestSwap_0 rfl rfl ?_
  refine qj_iconst (v := (0 : Int32)) cx dX7_bestSwap_1 (by decide) ?_
  obtain ⟨I20, eI20, hP⟩ := qc_letE hP
  refine qw_putI (j := 0) cx dX7_bestSwap_2 qc_cl7 rfl (Nat.le_of_ble_eq_true rfl) rfl ww_1092 rfl rfl rfl eI20 ?_
  refine qj_aload_n cx dX7_bestSwap_5 rfl rfl ?_
  obtain ⟨q21, eq21, hP⟩ := Option.bind_eq_some_iff.mp hP
  refine qj_callV (As := []) (st := []) (t := 0) (h' := (q21, J, shM)) (r := none) cx dX7_bestSwap_6 (c_X7_laysProducts (I := I20) (J := J)  eq21) gc_RX7_326 qm_X7_laysProducts rfl rfl qc_cl7 rfl (Nat.le_of_ble_eq_true rfl) (by decide) (by decide) rfl (Nat.le_of_ble_eq_true rfl) (Nat.le_of_ble_eq_true rfl) hn0 rfl ?_
  refine qj_aload_n cx dX7_bestSwap_9 rfl rfl ?_
  obtain ⟨q22, eq22, hP⟩ := Option.bind_eq_some_iff.mp hP
  refine qj_callV (As := []) (st := []) (t := 0) (h' := (q21, J, shM)) (r := some (.int q22)) cx dX7_bestSwap_10 (c_X7_allHits (I := q21) (J := J)  eq22) gc_RX7_381 qm_X7_allHits rfl rfl qc_cl7 rfl (Nat.le_of_ble_eq_true rfl) (by decide) (by decide) rfl (Nat.le_of_ble_eq_true rfl) (Nat.le_of_ble_eq_true rfl) hn0 rfl ?_
  refine qj_aload_n cx dX7_bestSwap_13 rfl rfl ?_
  obtain ⟨q23, eq23, hP⟩ := Option.bind_eq_some_iff.mp hP
  refine qj_callV (As := []) (st := [.int q22]) (t := 0) (h' := (q21, J, shM)) (r := some (.int q23)) cx dX7_bestSwap_14 (c_X7_allCrowds (I := q21) (J := J)  eq23) gc_RX7_384 qm_X7_allCrowds rfl rfl qc_cl7 rfl (Nat.le_of_ble_eq_true rfl) (by decide) (by decide) rfl (Nat.le_of_ble_eq_true rfl) (Nat.le_of_ble_eq_true rfl) hn0 rfl ?_
  refine qj_iadd cx dX7_bestSwap_17 ?_
  obtain ⟨x24, ex24, hP⟩ := qc_letE hP
  refine qw_top ex24 ?_
  refine qj_istore_n (ls1 := [some (.ref 0), some (.int x24), none, none, none, none]) cx dX7_bestSwap_18 rfl rfl rfl rfl ?_
  refine qj_bipush (v := (-2 : Int32)) cx dX7_bestSwap_19 (by decide) ?_
  refine qj_istore_n (ls1 := [some (.ref 0), some (.int x24), some (.int (-2 : Int32)), none, none, none]) cx dX7_bestSwap_21 rfl rfl rfl rfl ?_
  refine qj_iconst (v := (0 : Int32)) cx dX7_bestSwap_22 (by decide) ?_
  refine qj_istore_n (ls1 := [some (.ref 0), some (.int x24), some (.int (-2 : Int32)), some (.int (0 : Int32)), none, none]) cx dX7_bestSwap_23 rfl rfl rfl rfl ?_
  exact L24 qc_fu q21 x24 (-2 : Int32) (0 : Int32) hP
def P_X7_when_59 (k23 : (Nat → Nat → Int32) → Int32 → Int32 → Int32 → Option (Int32 × (Nat → Nat → Int32))) (I : (Nat → Nat → Int32)) (a1 : Int32) (a2 : Int32) (a3 : Int32) : Option (Int32 × (Nat → Nat → Int32)) :=
  qc_let (a3 + (1 : Int32)) fun x1 =>
  k23 I a1 a2 x1
def P_X7_when_23  : Nat → (Nat → Nat → Int32) → Int32 → Int32 → Int32 → Option (Int32 × (Nat → Nat → Int32))
  | 0, _, _, _, _ => none
  | f + 1, I, a1, a2, a3 =>
  if I 0 41 ≤ a3 then
  some (a2, I)
  else
  (P_X7_hits I a3 a1).bind fun q3 =>
  if q3 = 0 then
  P_X7_when_59 (P_X7_when_23 f) I a1 a2 a3
  else
  if qc_in a3 300 then
  if qc_in ((73 : Int32) + a1) 79 then
  qc_let (a2 ||| ((I 22 a3.toNatClampNeg) &&& (I 13 ((73 : Int32) + a1).toNatClampNeg))) fun x7 =>
  P_X7_when_59 (P_X7_when_23 f) I a1 x7 a3
  else none
  else none
def P_X7_when (I : Nat → Nat → Int32) (a : Int32) : Option (Int32 × (Nat → Nat → Int32)) :=
  qc_let (qc_u2 I 0 0 (0 : Int32)) fun I8 =>
  (P_X7_isUser I8 a).bind fun q9 =>
  if q9 = 0 then
  some ((-1 : Int32), I8)
  else
  (P_X7_laysProducts I8).bind fun q11 =>
  P_X7_when_23 qc_fu q11 a (0 : Int32) (0 : Int32)
set_option maxRecDepth 20000 in
theorem c_X7_when {I : Nat → Nat → Int32} {J : Nat → Nat → Int64}  {a : Int32} {q0 : Int32 × (Nat → Nat → Int32)} (hP : P_X7_when I a = some q0) : ∀ l, qc_M l yX7_when cX7_when 4 (some .int) 4 96 0 0 [.ref 0, .int a] (I, J, shM) (some (.int q0.1)) (q0.2, J, shM) := by
  intro l
  refine qc_ent2 (by decide) (Nat.le_of_ble_eq_true rfl) ?_
  intro F hn0 cx hz
  have cx : qc_X F cX7_when RX7 "when" 4 0 0 96 := cx
  have L59 : ∀ (k23 : (Nat → Nat → Int32) → Int32 → Int32 → Int32 → Option (Int32 × (Nat → Nat → Int32))) (g23 : ∀ (I : Nat → Nat → Int32) (a1 : Int32) (a2 : Int32) (a3 : Int32), k23 I a1 a2 a3 = some q0 → qc_J F 0 0 23 [some (.ref 0), some (.int a1), some (.int a2), some (.int a3)] [] (I, J, shM)) (I : (Nat → Nat → Int32)) (a1 : Int32) (a2 : Int32) (a3 : Int32), P_X7_when_59 k23 I a1 a2 a3 = some q0 → qc_J F 0 0 59 [some (.ref 0), some (.int a1), some (.int a2), some (.int a3)] [] (I, J, shM) := by
    intro k23 g23 I a1 a2 a3 hP
    unfold P_X7_when_59 at hP
    obtain ⟨x1, ex1, hP⟩ := qc_letE hP
    refine qj_iinc (v := x1) (ls1 := [some (.ref 0), some (.int a1), some (.int a2), some (.int x1)]) cx dX7_when_59 rfl (by rw [ex1]; rfl) rfl rfl ?_
    refine qj_goto (tgt := 23) cx dX7_when_62 (by decide) ?_
    exact g23 I a1 a2 x1 hP
  have L23 : ∀  (f : Nat) (I : (Nat → Nat → Int32)) (a1 : Int32) (a2 : Int32) (a3 : Int32), P_X7_when_23 f I a1 a2 a3 = some q0 → qc_J F 0 0 23 [some (.ref 0), some (.int a1), some (.int a2), some (.int a3)] [] (I, J, shM) := by
    intro  f
    induction f with
    | zero => intro I a1 a2 a3 hP; cases hP
    | succ f ih =>
      intro I a1 a2 a3 hP
      rw [P_X7_when_23] at hP
      refine qj_iload_n cx dX7_when_23 rfl rfl ?_
      refine qj_aload_n cx dX7_when_24 rfl rfl ?_
      refine qw_getI (j := 41) cx dX7_when_25 qc_cl7 rfl (Nat.le_of_ble_eq_true rfl) rfl ww_1133 ?_
      refine qj_icmp_ge (tgt := 65) cx dX7_when_28 (by decide) (fun c2 => ?_) (fun c2 => ?_)
      · have hP := qc_ifT hP c2
        refine qj_iload_n cx dX7_when_65 rfl rfl ?_
        exact qw_iret cx hz dX7_when_66 (Nat.zero_le _) (Nat.zero_le _) (congrArg (fun q => q.1) (Option.some.inj hP)) (congrArg (fun q => q.2) (Option.some.inj hP)) rfl
      · have hP := qc_ifF hP c2
        refine qj_aload_n cx dX7_when_31 rfl rfl ?_
        refine qj_iload_n cx dX7_when_32 rfl rfl ?_
        refine qj_iload_n cx dX7_when_33 rfl rfl ?_
        obtain ⟨q3, eq3, hP⟩ := Option.bind_eq_some_iff.mp hP
        refine qj_callV (As := [.int a3, .int a1]) (st := []) (t := 0) (h' := (I, J, shM)) (r := some (.int q3)) cx dX7_when_34 (c_X7_hits (I := I) (J := J)  eq3) gc_RX7_305 qm_X7_hits rfl rfl qc_cl7 rfl (Nat.le_of_ble_eq_true rfl) (by decide) (by decide) rfl (Nat.le_of_ble_eq_true rfl) (Nat.le_of_ble_eq_true rfl) hn0 rfl ?_
        refine qj_if_eq (tgt := 59) cx dX7_when_37 (by decide) (fun c4 => ?_) (fun c4 => ?_)
        · have hP := qc_ifT hP c4
          exact L59 (P_X7_when_23 f) ih I a1 a2 a3 hP
        · have hP := qc_ifF hP c4
          refine qj_iload_n cx dX7_when_40 rfl rfl ?_
          refine qj_aload_n cx dX7_when_41 rfl rfl ?_
          refine qw_getR (j := 40) (t1 := 22) cx dX7_when_42 qc_cl7 rfl (Nat.le_of_ble_eq_true rfl) rfl ww_1132 rfl ?_
          refine qj_iload_n cx dX7_when_45 rfl rfl ?_
          obtain ⟨c5, hP⟩ := qc_ck hP
          refine qw_iald cx dX7_when_46 rfl (Nat.le_of_ble_eq_true rfl) rfl c5 ?_
          refine qj_aload_n cx dX7_when_47 rfl rfl ?_
          refine qw_getR (j := 25) (t1 := 13) cx dX7_when_48 qc_cl7 rfl (Nat.le_of_ble_eq_true rfl) rfl ww_1117 rfl ?_
          refine qj_bipush (v := (73 : Int32)) cx dX7_when_51 (by decide) ?_
          refine qj_iload_n cx dX7_when_53 rfl rfl ?_
          refine qj_iadd cx dX7_when_54 ?_
          obtain ⟨c6, hP⟩ := qc_ck hP
          refine qw_iald cx dX7_when_55 rfl (Nat.le_of_ble_eq_true rfl) rfl c6 ?_
          refine qj_iand cx dX7_when_56 ?_
          refine qj_ior cx dX7_when_57 ?_
          obtain ⟨x7, ex7, hP⟩ := qc_letE hP
          refine qw_top ex7 ?_
          refine qj_istore_n (ls1 := [some (.ref 0), some (.int a1), some (.int x7), some (.int a3)]) cx dX7_when_58 rfl rfl rfl rfl ?_
          exact L59 (P_X7_when_23 f) ih I a1 x7 a3 hP
  show qc_J F 0 0 0 [some (.ref 0), some (.int a), none, none] [] (I, J, shM)
  unfold P_X7_when at hP
  refine qj_aload_n cx dX7_when_0 rfl rfl ?_
  refine qj_iconst (v := (0 : Int32)) cx dX7_when_1 (by decide) ?_
  obtain ⟨I8, eI8, hP⟩ := qc_letE hP
  refine qw_putI (j := 0) cx dX7_when_2 qc_cl7 rfl (Nat.le_of_ble_eq_true rfl) rfl ww_1092 rfl rfl rfl eI8 ?_
  refine qj_aload_n cx dX7_when_5 rfl rfl ?_
  refine qj_iload_n cx dX7_when_6 rfl rfl ?_
  obtain ⟨q9, eq9, hP⟩ := Option.bind_eq_some_iff.mp hP
  refine qj_callV (As := [.int a]) (st := []) (t := 0) (h' := (I8, J, shM)) (r := some (.int q9)) cx dX7_when_7 (c_X7_isUser (I := I8) (J := J)  eq9) gc_RX7_259 qm_X7_isUser rfl rfl qc_cl7 rfl (Nat.le_of_ble_eq_true rfl) (by decide) (by decide) rfl (Nat.le_of_ble_eq_true rfl) (Nat.le_of_ble_eq_true rfl) hn0 rfl ?_
  refine qj_if_ne (tgt := 15) cx dX7_when_10 (by decide) (fun c10 => ?_) (fun c10 => ?_)
  · have hP := qc_ifF hP c10
    refine qj_aload_n cx dX7_when_15 rfl rfl ?_
    obtain ⟨q11, eq11, hP⟩ := Option.bind_eq_some_iff.mp hP
    refine qj_callV (As := []) (st := []) (t := 0) (h' := (q11, J, shM)) (r := none) cx dX7_when_16 (c_X7_laysProducts (I := I8) (J := J)  eq11) gc_RX7_326 qm_X7_laysProducts rfl rfl qc_cl7 rfl (Nat.le_of_ble_eq_true rfl) (by decide) (by decide) rfl (Nat.le_of_ble_eq_true rfl) (Nat.le_of_ble_eq_true rfl) hn0 rfl ?_
    refine qj_iconst (v := (0 : Int32)) cx dX7_when_19 (by decide) ?_
    refine qj_istore_n (ls1 := [some (.ref 0), some (.int a), some (.int (0 : Int32)), none]) cx dX7_when_20 rfl rfl rfl rfl ?_
    refine qj_iconst (v := (0 : Int32)) cx dX7_when_21 (by decide) ?_
    refine qj_istore_n (ls1 := [some (.ref 0), some (.int a), some (.int (0 : Int32)), some (.int (0 : Int32))]) cx dX7_when_22 rfl rfl rfl rfl ?_
    exact L23 qc_fu q11 a (0 : Int32) (0 : Int32) hP
  · have hP := qc_ifT hP c10
    refine qj_iconst (v := (-1 : Int32)) cx dX7_when_13 (by decide) ?_
    exact qw_iret cx hz dX7_when_14 (Nat.zero_le _) (Nat.zero_le _) (congrArg (fun q => q.1) (Option.some.inj hP)) (congrArg (fun q => q.2) (Option.some.inj hP)) rfl
def P_X7_clearance_83 (k24 : (Nat → Nat → Int32) → Int32 → Int32 → Int32 → Option (Int32 × (Nat → Nat → Int32))) (I : (Nat → Nat → Int32)) (a1 : Int32) (a2 : Int32) (a3 : Int32) : Option (Int32 × (Nat → Nat → Int32)) :=
  qc_let (a3 + (1 : Int32)) fun x1 =>
  k24 I a1 a2 x1
def P_X7_clearance_24  : Nat → (Nat → Nat → Int32) → Int32 → Int32 → Int32 → Option (Int32 × (Nat → Nat → Int32))
  | 0, _, _, _, _ => none
  | f + 1, I, a1, a2, a3 =>
  if I 0 41 ≤ a3 then
  some (a2, I)
  else
  (P_X7_mayHit I a3 a1).bind fun q3 =>
  if q3 = 0 then
  P_X7_clearance_83 (P_X7_clearance_24 f) I a1 a2 a3
  else
  if qc_in ((0 : Int32) + a1) 79 then
  if qc_in a3 300 then
  (P_X7_without ((I 13 ((0 : Int32) + a1).toNatClampNeg) - (I 20 a3.toNatClampNeg))).bind fun q7 =>
  (if a2 = (-2 : Int32) then
  some q7
  else
  if a2 ≤ q7 then
  some a2
  else
  some q7).bind fun v9 =>
  P_X7_clearance_83 (P_X7_clearance_24 f) I a1 v9 a3
  else none
  else none
def P_X7_clearance (I : Nat → Nat → Int32) (a : Int32) : Option (Int32 × (Nat → Nat → Int32)) :=
  qc_let (qc_u2 I 0 0 (0 : Int32)) fun I11 =>
  (P_X7_isUser I11 a).bind fun q12 =>
  if q12 = 0 then
  some ((-1 : Int32), I11)
  else
  (P_X7_laysProducts I11).bind fun q14 =>
  P_X7_clearance_24 qc_fu q14 a (-2 : Int32) (0 : Int32)
set_option maxRecDepth 20000 in
theorem c_X7_clearance {I : Nat → Nat → Int32} {J : Nat → Nat → Int64}  {a : Int32} {q0 : Int32 × (Nat → Nat → Int32)} (hP : P_X7_clearance I a = some q0) : ∀ l, qc_M l yX7_clearance cX7_clearance 5 (some .int) 4 96 0 0 [.ref 0, .int a] (I, J, shM) (some (.int q0.1)) (q0.2, J, shM) := by
  intro l
  refine qc_ent2 (by decide) (Nat.le_of_ble_eq_true rfl) ?_
  intro F hn0 cx hz
  have cx : qc_X F cX7_clearance RX7 "clearance" 4 0 0 96 := cx
  have L83 : ∀ (k24 : (Nat → Nat → Int32) → Int32 → Int32 → Int32 → Option (Int32 × (Nat → Nat → Int32))) (g24 : ∀ (I : Nat → Nat → Int32) (a1 : Int32) (a2 : Int32) (a3 : Int32), k24 I a1 a2 a3 = some q0 → qc_J F 0 0 24 [some (.ref 0), some (.int a1), some (.int a2), some (.int a3), none] [] (I, J, shM)) (I : (Nat → Nat → Int32)) (a1 : Int32) (a2 : Int32) (a3 : Int32), P_X7_clearance_83 k24 I a1 a2 a3 = some q0 → qc_J F 0 0 83 [some (.ref 0), some (.int a1), some (.int a2), some (.int a3), none] [] (I, J, shM) := by
    intro k24 g24 I a1 a2 a3 hP
    unfold P_X7_clearance_83 at hP
    obtain ⟨x1, ex1, hP⟩ := qc_letE hP
    refine qj_iinc (v := x1) (ls1 := [some (.ref 0), some (.int a1), some (.int a2), some (.int x1), none]) cx dX7_clearance_83 rfl (by rw [ex1]; rfl) rfl rfl ?_
    refine qj_goto (tgt := 24) cx dX7_clearance_86 (by decide) ?_
    exact g24 I a1 a2 x1 hP
  have L24 : ∀  (f : Nat) (I : (Nat → Nat → Int32)) (a1 : Int32) (a2 : Int32) (a3 : Int32), P_X7_clearance_24 f I a1 a2 a3 = some q0 → qc_J F 0 0 24 [some (.ref 0), some (.int a1), some (.int a2), some (.int a3), none] [] (I, J, shM) := by
    intro  f
    induction f with
    | zero => intro I a1 a2 a3 hP; cases hP
    | succ f ih =>
      intro I a1 a2 a3 hP
      rw [P_X7_clearance_24] at hP
      refine qj_iload_n cx dX7_clearance_24 rfl rfl ?_
      refine qj_aload_n cx dX7_clearance_25 rfl rfl ?_
      refine qw_getI (j := 41) cx dX7_clearance_26 qc_cl7 rfl (Nat.le_of_ble_eq_true rfl) rfl ww_1133 ?_
      refine qj_icmp_ge (tgt := 89) cx dX7_clearance_29 (by decide) (fun c2 => ?_) (fun c2 => ?_)
      · have hP := qc_ifT hP c2
        refine qj_iload_n cx dX7_clearance_89 rfl rfl ?_
        exact qw_iret cx hz dX7_clearance_90 (Nat.zero_le _) (Nat.zero_le _) (congrArg (fun q => q.1) (Option.some.inj hP)) (congrArg (fun q => q.2) (Option.some.inj hP)) rfl
      · have hP := qc_ifF hP c2
        refine qj_aload_n cx dX7_clearance_32 rfl rfl ?_
        refine qj_iload_n cx dX7_clearance_33 rfl rfl ?_
        refine qj_iload_n cx dX7_clearance_34 rfl rfl ?_
        obtain ⟨q3, eq3, hP⟩ := Option.bind_eq_some_iff.mp hP
        refine qj_callV (As := [.int a3, .int a1]) (st := []) (t := 0) (h' := (I, J, shM)) (r := some (.int q3)) cx dX7_clearance_35 (c_X7_mayHit (I := I) (J := J)  eq3) gc_RX7_299 qm_X7_mayHit rfl rfl qc_cl7 rfl (Nat.le_of_ble_eq_true rfl) (by decide) (by decide) rfl (Nat.le_of_ble_eq_true rfl) (Nat.le_of_ble_eq_true rfl) hn0 rfl ?_
        refine qj_if_ne (tgt := 44) cx dX7_clearance_38 (by decide) (fun c4 => ?_) (fun c4 => ?_)
        · have hP := qc_ifF hP c4
          refine qj_aload_n cx dX7_clearance_44 rfl rfl ?_
          refine qw_getR (j := 25) (t1 := 13) cx dX7_clearance_45 qc_cl7 rfl (Nat.le_of_ble_eq_true rfl) rfl ww_1117 rfl ?_
          refine qj_iconst (v := (0 : Int32)) cx dX7_clearance_48 (by decide) ?_
          refine qj_iload_n cx dX7_clearance_49 rfl rfl ?_
          refine qj_iadd cx dX7_clearance_50 ?_
          obtain ⟨c5, hP⟩ := qc_ck hP
          refine qw_iald cx dX7_clearance_51 rfl (Nat.le_of_ble_eq_true rfl) rfl c5 ?_
          refine qj_aload_n cx dX7_clearance_52 rfl rfl ?_
          refine qw_getR (j := 38) (t1 := 20) cx dX7_clearance_53 qc_cl7 rfl (Nat.le_of_ble_eq_true rfl) rfl ww_1130 rfl ?_
          refine qj_iload_n cx dX7_clearance_56 rfl rfl ?_
          obtain ⟨c6, hP⟩ := qc_ck hP
          refine qw_iald cx dX7_clearance_57 rfl (Nat.le_of_ble_eq_true rfl) rfl c6 ?_
          refine qj_isub cx dX7_clearance_58 ?_
          obtain ⟨q7, eq7, hP⟩ := Option.bind_eq_some_iff.mp hP
          refine qj_callS (As := [.int ((I 13 ((0 : Int32) + a1).toNatClampNeg) - (I 20 a3.toNatClampNeg))]) (st := []) (h' := (I, J, shM)) (r := some (.int q7)) cx dX7_clearance_59 (c_X7_without (S := shM) (I := I) (J := J) eq7) gc_RX7_274 qm_X7_without rfl (by decide) (by decide) rfl (Nat.le_of_ble_eq_true rfl) (Nat.le_of_ble_eq_true rfl) hn0 rfl ?_
          refine qj_istore (ls1 := [some (.ref 0), some (.int a1), some (.int a2), some (.int a3), some (.int q7)]) cx dX7_clearance_62 rfl rfl rfl ?_
          refine qj_iload_n cx dX7_clearance_64 rfl rfl ?_
          refine qj_bipush (v := (-2 : Int32)) cx dX7_clearance_65 (by decide) ?_
          obtain ⟨v9, hv9, hP⟩ := Option.bind_eq_some_iff.mp hP
          have Kv9 : qc_J F 0 0 82 [some (.ref 0), some (.int a1), some (.int a2), some (.int a3), some (.int q7)] [.int v9] (I, J, shM) := by
            refine qj_istore_n (ls1 := [some (.ref 0), some (.int a1), some (.int v9), some (.int a3), some (.int q7)]) cx dX7_clearance_82 rfl rfl rfl rfl ?_
            refine qw_sub (ls1 := [some (.ref 0), some (.int a1), some (.int v9), some (.int a3), none]) rfl (qc_sb_ok ⟨rfl, rfl, rfl, rfl, trivial⟩) ?_
            exact L83 (P_X7_clearance_24 f) ih I a1 v9 a3 hP
          refine qj_icmp_eq (tgt := 76) cx dX7_clearance_67 (by decide) (fun c8 => ?_) (fun c8 => ?_)
          · have hv9 := qc_ifT hv9 c8
            refine qj_iload cx dX7_clearance_76 rfl ?_
            refine qj_goto (tgt := 82) cx dX7_clearance_78 (by decide) ?_
            exact qw_top (Option.some.inj hv9).symm Kv9
          · have hv9 := qc_ifF hv9 c8
            refine qj_iload cx dX7_clearance_70 rfl ?_
            refine qj_iload_n cx dX7_clearance_72 rfl rfl ?_
            refine qj_icmp_ge (tgt := 81) cx dX7_clearance_73 (by decide) (fun c10 => ?_) (fun c10 => ?_)
            · have hv9 := qc_ifT hv9 c10
              refine qj_iload_n cx dX7_clearance_81 rfl rfl ?_
              exact qw_top (Option.some.inj hv9).symm Kv9
            · have hv9 := qc_ifF hv9 c10
              refine qj_iload cx dX7_clearance_76 rfl ?_
              refine qj_goto (tgt := 82) cx dX7_clearance_78 (by decide) ?_
              exact qw_top (Option.some.inj hv9).symm Kv9
        · have hP := qc_ifT hP c4
          refine qj_goto (tgt := 83) cx dX7_clearance_41 (by decide) ?_
          exact L83 (P_X7_clearance_24 f) ih I a1 a2 a3 hP
  show qc_J F 0 0 0 [some (.ref 0), some (.int a), none, none, none] [] (I, J, shM)
  unfold P_X7_clearance at hP
  refine qj_aload_n cx dX7_clearance_0 rfl rfl ?_
  refine qj_iconst (v := (0 : Int32)) cx dX7_clearance_1 (by decide) ?_
  obtain ⟨I11, eI11, hP⟩ := qc_letE hP
  refine qw_putI (j := 0) cx dX7_clearance_2 qc_cl7 rfl (Nat.le_of_ble_eq_true rfl) rfl ww_1092 rfl rfl rfl eI11 ?_
  refine qj_aload_n cx dX7_clearance_5 rfl rfl ?_
  refine qj_iload_n cx dX7_clearance_6 rfl rfl ?_
  obtain ⟨q12, eq12, hP⟩ := Option.bind_eq_some_iff.mp hP
  refine qj_callV (As := [.int a]) (st := []) (t := 0) (h' := (I11, J, shM)) (r := some (.int q12)) cx dX7_clearance_7 (c_X7_isUser (I := I11) (J := J)  eq12) gc_RX7_259 qm_X7_isUser rfl rfl qc_cl7 rfl (Nat.le_of_ble_eq_true rfl) (by decide) (by decide) rfl (Nat.le_of_ble_eq_true rfl) (Nat.le_of_ble_eq_true rfl) hn0 rfl ?_
  refine qj_if_ne (tgt := 15) cx dX7_clearance_10 (by decide) (fun c13 => ?_) (fun c13 => ?_)
  · have hP := qc_ifF hP c13
    refine qj_aload_n cx dX7_clearance_15 rfl rfl ?_
    obtain ⟨q14, eq14, hP⟩ := Option.bind_eq_some_iff.mp hP
    refine qj_callV (As := []) (st := []) (t := 0) (h' := (q14, J, shM)) (r := none) cx dX7_clearance_16 (c_X7_laysProducts (I := I11) (J := J)  eq14) gc_RX7_326 qm_X7_laysProducts rfl rfl qc_cl7 rfl (Nat.le_of_ble_eq_true rfl) (by decide) (by decide) rfl (Nat.le_of_ble_eq_true rfl) (Nat.le_of_ble_eq_true rfl) hn0 rfl ?_
    refine qj_bipush (v := (-2 : Int32)) cx dX7_clearance_19 (by decide) ?_
    refine qj_istore_n (ls1 := [some (.ref 0), some (.int a), some (.int (-2 : Int32)), none, none]) cx dX7_clearance_21 rfl rfl rfl rfl ?_
    refine qj_iconst (v := (0 : Int32)) cx dX7_clearance_22 (by decide) ?_
    refine qj_istore_n (ls1 := [some (.ref 0), some (.int a), some (.int (-2 : Int32)), some (.int (0 : Int32)), none]) cx dX7_clearance_23 rfl rfl rfl rfl ?_
    exact L24 qc_fu q14 a (-2 : Int32) (0 : Int32) hP
  · have hP := qc_ifT hP c13
    refine qj_iconst (v := (-1 : Int32)) cx dX7_clearance_13 (by decide) ?_
    exact qw_iret cx hz dX7_clearance_14 (Nat.zero_le _) (Nat.zero_le _) (congrArg (fun q => q.1) (Option.some.inj hP)) (congrArg (fun q => q.2) (Option.some.inj hP)) rfl
def P_X7_hasHits (I : Nat → Nat → Int32) : Option (Int32 × (Nat → Nat → Int32)) :=
  (P_X7_laysProducts I).bind fun q1 =>
  (P_X7_allHits q1).bind fun q2 =>
  (if q2 ≤ 0 then
  some (0 : Int32)
  else
  some (1 : Int32)).bind fun v4 =>
  if qc_bo v4 then some (v4, q1) else none
set_option maxRecDepth 20000 in
theorem c_X7_hasHits {I : Nat → Nat → Int32} {J : Nat → Nat → Int64}   {q0 : Int32 × (Nat → Nat → Int32)} (hP : P_X7_hasHits I = some q0) : ∀ l, qc_M l yX7_hasHits cX7_hasHits 1 (some .boolean) 5 113 0 0 [.ref 0] (I, J, shM) (some (.int q0.1)) (q0.2, J, shM) := by
  intro l
  refine qc_ent2 (by decide) (Nat.le_of_ble_eq_true rfl) ?_
  intro F hn0 cx hz
  have cx : qc_X F cX7_hasHits RX7 "hasHits" 5 0 0 113 := cx
  show qc_J F 0 0 0 [some (.ref 0)] [] (I, J, shM)
  unfold P_X7_hasHits at hP
  refine qj_aload_n cx dX7_hasHits_0 rfl rfl ?_
  obtain ⟨q1, eq1, hP⟩ := Option.bind_eq_some_iff.mp hP
  refine qj_callV (As := []) (st := []) (t := 0) (h' := (q1, J, shM)) (r := none) cx dX7_hasHits_1 (c_X7_laysProducts (I := I) (J := J)  eq1) gc_RX7_326 qm_X7_laysProducts rfl rfl qc_cl7 rfl (Nat.le_of_ble_eq_true rfl) (by decide) (by decide) rfl (Nat.le_of_ble_eq_true rfl) (Nat.le_of_ble_eq_true rfl) hn0 rfl ?_
  refine qj_aload_n cx dX7_hasHits_4 rfl rfl ?_
  obtain ⟨q2, eq2, hP⟩ := Option.bind_eq_some_iff.mp hP
  refine qj_callV (As := []) (st := []) (t := 0) (h' := (q1, J, shM)) (r := some (.int q2)) cx dX7_hasHits_5 (c_X7_allHits (I := q1) (J := J)  eq2) gc_RX7_381 qm_X7_allHits rfl rfl qc_cl7 rfl (Nat.le_of_ble_eq_true rfl) (by decide) (by decide) rfl (Nat.le_of_ble_eq_true rfl) (Nat.le_of_ble_eq_true rfl) hn0 rfl ?_
  obtain ⟨v4, hv4, hP⟩ := Option.bind_eq_some_iff.mp hP
  have Kv4 : qc_J F 0 0 16 [some (.ref 0)] [.int v4] (q1, J, shM) := by
    obtain ⟨c5, hP⟩ := qc_ck hP
    exact qw_zret cx hz dX7_hasHits_16 (qc_bo_n c5) (Nat.zero_le _) (Nat.zero_le _) (congrArg (fun q => q.1) (Option.some.inj hP)) (congrArg (fun q => q.2) (Option.some.inj hP)) rfl
  refine qj_if_le (tgt := 15) cx dX7_hasHits_8 (by decide) (fun c3 => ?_) (fun c3 => ?_)
  · have hv4 := qc_ifT hv4 c3
    refine qj_iconst (v := (0 : Int32)) cx dX7_hasHits_15 (by decide) ?_
    exact qw_top (Option.some.inj hv4).symm Kv4
  · have hv4 := qc_ifF hv4 c3
    refine qj_iconst (v := (1 : Int32)) cx dX7_hasHits_11 (by decide) ?_
    refine qj_goto (tgt := 16) cx dX7_hasHits_12 (by decide) ?_
    exact qw_top (Option.some.inj hv4).symm Kv4
def P_X7_mostPower_65  (I : (Nat → Nat → Int32)) (a1 : Int32) (a2 : Int32) (a3 : Int32) : Option (Int32 × (Nat → Nat → Int32)) :=
  if qc_in ((6 : Int32) + a1) 79 then
  qc_let (qc_u2 I 13 ((6 : Int32) + a1).toNatClampNeg a2) fun I1 =>
  (if 0 ≤ a3 then
  some a3
  else
  some (-2 : Int32)).bind fun v3 =>
  some (v3, I1)
  else none
def P_X7_mostPower_38  : Nat → (Nat → Nat → Int32) → Int32 → Int32 → Int32 → Option (Int32 × (Nat → Nat → Int32))
  | 0, _, _, _, _ => none
  | f + 1, I, a1, a2, a3 =>
  if a3 < 0 then
  P_X7_mostPower_65 I a1 a2 a3
  else
  (P_X7_hasHits I).bind fun q6 =>
  if q6.1 = 0 then
  P_X7_mostPower_65 q6.2 a1 a2 a3
  else
  qc_let (a3 + (-1 : Int32)) fun x8 =>
  if qc_in ((6 : Int32) + a1) 79 then
  qc_let (qc_u2 q6.2 13 ((6 : Int32) + a1).toNatClampNeg x8) fun I9 =>
  P_X7_mostPower_38 f I9 a1 a2 x8
  else none
def P_X7_mostPower (I : Nat → Nat → Int32) (a : Int32) : Option (Int32 × (Nat → Nat → Int32)) :=
  qc_let (qc_u2 I 0 0 (0 : Int32)) fun I11 =>
  (P_X7_isUser I11 a).bind fun q12 =>
  if q12 = 0 then
  some ((-1 : Int32), I11)
  else
  if qc_in ((6 : Int32) + a) 79 then
  qc_let (I11 13 ((6 : Int32) + a).toNatClampNeg) fun x15 =>
  if qc_in ((6 : Int32) + a) 79 then
  qc_let (qc_u2 I11 13 ((6 : Int32) + a).toNatClampNeg (30 : Int32)) fun I16 =>
  P_X7_mostPower_38 qc_fu I16 a x15 (30 : Int32)
  else none
  else none
set_option maxRecDepth 20000 in
theorem c_X7_mostPower {I : Nat → Nat → Int32} {J : Nat → Nat → Int64}  {a : Int32} {q0 : Int32 × (Nat → Nat → Int32)} (hP : P_X7_mostPower I a = some q0) : ∀ l, qc_M l yX7_mostPower cX7_mostPower 4 (some .int) 6 133 0 0 [.ref 0, .int a] (I, J, shM) (some (.int q0.1)) (q0.2, J, shM) := by
  intro l
  refine qc_ent2 (by decide) (Nat.le_of_ble_eq_true rfl) ?_
  intro F hn0 cx hz
  have cx : qc_X F cX7_mostPower RX7 "mostPower" 6 0 0 133 := cx
  have L65 : ∀  (I : (Nat → Nat → Int32)) (a1 : Int32) (a2 : Int32) (a3 : Int32), P_X7_mostPower_65 I a1 a2 a3 = some q0 → qc_J F 0 0 65 [some (.ref 0), some (.int a1), some (.int a2), some (.int a3)] [] (I, J, shM) := by
    intro I a1 a2 a3 hP
    unfold P_X7_mostPower_65 at hP
    refine qj_aload_n cx dX7_mostPower_65 rfl rfl ?_
    refine qw_getR (j := 25) (t1 := 13) cx dX7_mostPower_66 qc_cl7 rfl (Nat.le_of_ble_eq_true rfl) rfl ww_1117 rfl ?_
    refine qj_bipush (v := (6 : Int32)) cx dX7_mostPower_69 (by decide) ?_
    refine qj_iload_n cx dX7_mostPower_71 rfl rfl ?_
    refine qj_iadd cx dX7_mostPower_72 ?_
    refine qj_iload_n cx dX7_mostPower_73 rfl rfl ?_
    obtain ⟨c4, hP⟩ := qc_ck hP
    obtain ⟨I1, eI1, hP⟩ := qc_letE hP
    refine qw_iast cx dX7_mostPower_74 rfl (Nat.le_of_ble_eq_true rfl) rfl c4 eI1 ?_
    refine qj_iload_n cx dX7_mostPower_75 rfl rfl ?_
    obtain ⟨v3, hv3, hP⟩ := Option.bind_eq_some_iff.mp hP
    have Kv3 : qc_J F 0 0 85 [some (.ref 0), some (.int a1), some (.int a2), some (.int a3)] [.int v3] (I1, J, shM) := by
      exact qw_iret cx hz dX7_mostPower_85 (Nat.zero_le _) (Nat.zero_le _) (congrArg (fun q => q.1) (Option.some.inj hP)) (congrArg (fun q => q.2) (Option.some.inj hP)) rfl
    refine qj_if_ge (tgt := 84) cx dX7_mostPower_76 (by decide) (fun c2 => ?_) (fun c2 => ?_)
    · have hv3 := qc_ifT hv3 c2
      refine qj_iload_n cx dX7_mostPower_84 rfl rfl ?_
      exact qw_top (Option.some.inj hv3).symm Kv3
    · have hv3 := qc_ifF hv3 c2
      refine qj_bipush (v := (-2 : Int32)) cx dX7_mostPower_79 (by decide) ?_
      refine qj_goto (tgt := 85) cx dX7_mostPower_81 (by decide) ?_
      exact qw_top (Option.some.inj hv3).symm Kv3
  have L38 : ∀  (f : Nat) (I : (Nat → Nat → Int32)) (a1 : Int32) (a2 : Int32) (a3 : Int32), P_X7_mostPower_38 f I a1 a2 a3 = some q0 → qc_J F 0 0 38 [some (.ref 0), some (.int a1), some (.int a2), some (.int a3)] [] (I, J, shM) := by
    intro  f
    induction f with
    | zero => intro I a1 a2 a3 hP; cases hP
    | succ f ih =>
      intro I a1 a2 a3 hP
      rw [P_X7_mostPower_38] at hP
      refine qj_iload_n cx dX7_mostPower_38 rfl rfl ?_
      refine qj_if_lt (tgt := 65) cx dX7_mostPower_39 (by decide) (fun c5 => ?_) (fun c5 => ?_)
      · have hP := qc_ifT hP c5
        exact L65 I a1 a2 a3 hP
      · have hP := qc_ifF hP c5
        refine qj_aload_n cx dX7_mostPower_42 rfl rfl ?_
        obtain ⟨q6, eq6, hP⟩ := Option.bind_eq_some_iff.mp hP
        refine qj_callV (As := []) (st := []) (t := 0) (h' := (q6.2, J, shM)) (r := some (.int q6.1)) cx dX7_mostPower_43 (c_X7_hasHits (I := I) (J := J)  eq6) gc_RX7_405 qm_X7_hasHits rfl rfl qc_cl7 rfl (Nat.le_of_ble_eq_true rfl) (by decide) (by decide) rfl (Nat.le_of_ble_eq_true rfl) (Nat.le_of_ble_eq_true rfl) hn0 rfl ?_
        refine qj_if_eq (tgt := 65) cx dX7_mostPower_46 (by decide) (fun c7 => ?_) (fun c7 => ?_)
        · have hP := qc_ifT hP c7
          exact L65 q6.2 a1 a2 a3 hP
        · have hP := qc_ifF hP c7
          obtain ⟨x8, ex8, hP⟩ := qc_letE hP
          refine qj_iinc (v := x8) (ls1 := [some (.ref 0), some (.int a1), some (.int a2), some (.int x8)]) cx dX7_mostPower_49 rfl (by rw [ex8]; rfl) rfl rfl ?_
          refine qj_aload_n cx dX7_mostPower_52 rfl rfl ?_
          refine qw_getR (j := 25) (t1 := 13) cx dX7_mostPower_53 qc_cl7 rfl (Nat.le_of_ble_eq_true rfl) rfl ww_1117 rfl ?_
          refine qj_bipush (v := (6 : Int32)) cx dX7_mostPower_56 (by decide) ?_
          refine qj_iload_n cx dX7_mostPower_58 rfl rfl ?_
          refine qj_iadd cx dX7_mostPower_59 ?_
          refine qj_iload_n cx dX7_mostPower_60 rfl rfl ?_
          obtain ⟨c10, hP⟩ := qc_ck hP
          obtain ⟨I9, eI9, hP⟩ := qc_letE hP
          refine qw_iast cx dX7_mostPower_61 rfl (Nat.le_of_ble_eq_true rfl) rfl c10 eI9 ?_
          refine qj_goto (tgt := 38) cx dX7_mostPower_62 (by decide) ?_
          exact ih I9 a1 a2 x8 hP
  show qc_J F 0 0 0 [some (.ref 0), some (.int a), none, none] [] (I, J, shM)
  unfold P_X7_mostPower at hP
  refine qj_aload_n cx dX7_mostPower_0 rfl rfl ?_
  refine qj_iconst (v := (0 : Int32)) cx dX7_mostPower_1 (by decide) ?_
  obtain ⟨I11, eI11, hP⟩ := qc_letE hP
  refine qw_putI (j := 0) cx dX7_mostPower_2 qc_cl7 rfl (Nat.le_of_ble_eq_true rfl) rfl ww_1092 rfl rfl rfl eI11 ?_
  refine qj_aload_n cx dX7_mostPower_5 rfl rfl ?_
  refine qj_iload_n cx dX7_mostPower_6 rfl rfl ?_
  obtain ⟨q12, eq12, hP⟩ := Option.bind_eq_some_iff.mp hP
  refine qj_callV (As := [.int a]) (st := []) (t := 0) (h' := (I11, J, shM)) (r := some (.int q12)) cx dX7_mostPower_7 (c_X7_isUser (I := I11) (J := J)  eq12) gc_RX7_259 qm_X7_isUser rfl rfl qc_cl7 rfl (Nat.le_of_ble_eq_true rfl) (by decide) (by decide) rfl (Nat.le_of_ble_eq_true rfl) (Nat.le_of_ble_eq_true rfl) hn0 rfl ?_
  refine qj_if_ne (tgt := 15) cx dX7_mostPower_10 (by decide) (fun c13 => ?_) (fun c13 => ?_)
  · have hP := qc_ifF hP c13
    refine qj_aload_n cx dX7_mostPower_15 rfl rfl ?_
    refine qw_getR (j := 25) (t1 := 13) cx dX7_mostPower_16 qc_cl7 rfl (Nat.le_of_ble_eq_true rfl) rfl ww_1117 rfl ?_
    refine qj_bipush (v := (6 : Int32)) cx dX7_mostPower_19 (by decide) ?_
    refine qj_iload_n cx dX7_mostPower_21 rfl rfl ?_
    refine qj_iadd cx dX7_mostPower_22 ?_
    obtain ⟨c14, hP⟩ := qc_ck hP
    refine qw_iald cx dX7_mostPower_23 rfl (Nat.le_of_ble_eq_true rfl) rfl c14 ?_
    obtain ⟨x15, ex15, hP⟩ := qc_letE hP
    refine qw_top ex15 ?_
    refine qj_istore_n (ls1 := [some (.ref 0), some (.int a), some (.int x15), none]) cx dX7_mostPower_24 rfl rfl rfl rfl ?_
    refine qj_bipush (v := (30 : Int32)) cx dX7_mostPower_25 (by decide) ?_
    refine qj_istore_n (ls1 := [some (.ref 0), some (.int a), some (.int x15), some (.int (30 : Int32))]) cx dX7_mostPower_27 rfl rfl rfl rfl ?_
    refine qj_aload_n cx dX7_mostPower_28 rfl rfl ?_
    refine qw_getR (j := 25) (t1 := 13) cx dX7_mostPower_29 qc_cl7 rfl (Nat.le_of_ble_eq_true rfl) rfl ww_1117 rfl ?_
    refine qj_bipush (v := (6 : Int32)) cx dX7_mostPower_32 (by decide) ?_
    refine qj_iload_n cx dX7_mostPower_34 rfl rfl ?_
    refine qj_iadd cx dX7_mostPower_35 ?_
    refine qj_iload_n cx dX7_mostPower_36 rfl rfl ?_
    obtain ⟨c17, hP⟩ := qc_ck hP
    obtain ⟨I16, eI16, hP⟩ := qc_letE hP
    refine qw_iast cx dX7_mostPower_37 rfl (Nat.le_of_ble_eq_true rfl) rfl c17 eI16 ?_
    exact L38 qc_fu I16 a x15 (30 : Int32) hP
  · have hP := qc_ifT hP c13
    refine qj_iconst (v := (-1 : Int32)) cx dX7_mostPower_13 (by decide) ?_
    exact qw_iret cx hz dX7_mostPower_14 (Nat.zero_le _) (Nat.zero_le _) (congrArg (fun q => q.1) (Option.some.inj hP)) (congrArg (fun q => q.2) (Option.some.inj hP)) rfl
def P_X7_mostGuard_37  (I : (Nat → Nat → Int32)) : Option (Int32 × (Nat → Nat → Int32)) :=
  (if 0 ≤ I 0 31 then
  some (I 0 31)
  else
  some (-2 : Int32)).bind fun v2 =>
  (P_X7_asTold I).bind fun q3 =>
  some (v2, q3)
def P_X7_mostGuard_10  : Nat → (Nat → Nat → Int32) → Option (Int32 × (Nat → Nat → Int32))
  | 0, _ => none
  | f + 1, I =>
  if I 0 31 < 0 then
  P_X7_mostGuard_37 I
  else
  (P_X7_hasHits I).bind fun q5 =>
  if q5.1 = 0 then
  P_X7_mostGuard_37 q5.2
  else
  qc_let (qc_u2 q5.2 0 31 ((q5.2 0 31) - (1 : Int32))) fun I7 =>
  P_X7_mostGuard_10 f I7
def P_X7_mostGuard (I : Nat → Nat → Int32) : Option (Int32 × (Nat → Nat → Int32)) :=
  qc_let (qc_u2 I 0 0 (0 : Int32)) fun I8 =>
  qc_let (qc_u2 I8 0 31 (5 : Int32)) fun I9 =>
  P_X7_mostGuard_10 qc_fu I9
set_option maxRecDepth 20000 in
theorem c_X7_mostGuard {I : Nat → Nat → Int32} {J : Nat → Nat → Int64}   {q0 : Int32 × (Nat → Nat → Int32)} (hP : P_X7_mostGuard I = some q0) : ∀ l, qc_M l yX7_mostGuard cX7_mostGuard 2 (some .int) 6 133 0 0 [.ref 0] (I, J, shM) (some (.int q0.1)) (q0.2, J, shM) := by
  intro l
  refine qc_ent2 (by decide) (Nat.le_of_ble_eq_true rfl) ?_
  intro F hn0 cx hz
  have cx : qc_X F cX7_mostGuard RX7 "mostGuard" 6 0 0 133 := cx
  have L37 : ∀  (I : (Nat → Nat → Int32)), P_X7_mostGuard_37 I = some q0 → qc_J F 0 0 37 [some (.ref 0), none] [] (I, J, shM) := by
    intro I hP
    unfold P_X7_mostGuard_37 at hP
    refine qj_aload_n cx dX7_mostGuard_37 rfl rfl ?_
    refine qw_getI (j := 31) cx dX7_mostGuard_38 qc_cl7 rfl (Nat.le_of_ble_eq_true rfl) rfl ww_1123 ?_
    obtain ⟨v2, hv2, hP⟩ := Option.bind_eq_some_iff.mp hP
    have Kv2 : qc_J F 0 0 53 [some (.ref 0), none] [.int v2] (I, J, shM) := by
      refine qj_istore_n (ls1 := [some (.ref 0), some (.int v2)]) cx dX7_mostGuard_53 rfl rfl rfl rfl ?_
      refine qj_aload_n cx dX7_mostGuard_54 rfl rfl ?_
      obtain ⟨q3, eq3, hP⟩ := Option.bind_eq_some_iff.mp hP
      refine qj_callV (As := []) (st := []) (t := 0) (h' := (q3, J, shM)) (r := none) cx dX7_mostGuard_55 (c_X7_asTold (I := I) (J := J)  eq3) gc_RX7_235 qm_X7_asTold rfl rfl qc_cl7 rfl (Nat.le_of_ble_eq_true rfl) (by decide) (by decide) rfl (Nat.le_of_ble_eq_true rfl) (Nat.le_of_ble_eq_true rfl) hn0 rfl ?_
      refine qj_iload_n cx dX7_mostGuard_58 rfl rfl ?_
      exact qw_iret cx hz dX7_mostGuard_59 (Nat.zero_le _) (Nat.zero_le _) (congrArg (fun q => q.1) (Option.some.inj hP)) (congrArg (fun q => q.2) (Option.some.inj hP)) rfl
    refine qj_if_ge (tgt := 49) cx dX7_mostGuard_41 (by decide) (fun c1 => ?_) (fun c1 => ?_)
    · have hv2 := qc_ifT hv2 c1
      refine qj_aload_n cx dX7_mostGuard_49 rfl rfl ?_
      refine qw_getI (j := 31) cx dX7_mostGuard_50 qc_cl7 rfl (Nat.le_of_ble_eq_true rfl) rfl ww_1123 ?_
      exact qw_top (Option.some.inj hv2).symm Kv2
    · have hv2 := qc_ifF hv2 c1
      refine qj_bipush (v := (-2 : Int32)) cx dX7_mostGuard_44 (by decide) ?_
      refine qj_goto (tgt := 53) cx dX7_mostGuard_46 (by decide) ?_
      exact qw_top (Option.some.inj hv2).symm Kv2
  have L10 : ∀  (f : Nat) (I : (Nat → Nat → Int32)), P_X7_mostGuard_10 f I = some q0 → qc_J F 0 0 10 [some (.ref 0), none] [] (I, J, shM) := by
    intro  f
    induction f with
    | zero => intro I hP; cases hP
    | succ f ih =>
      intro I hP
      rw [P_X7_mostGuard_10] at hP
      refine qj_aload_n cx dX7_mostGuard_10 rfl rfl ?_
      refine qw_getI (j := 31) cx dX7_mostGuard_11 qc_cl7 rfl (Nat.le_of_ble_eq_true rfl) rfl ww_1123 ?_
      refine qj_if_lt (tgt := 37) cx dX7_mostGuard_14 (by decide) (fun c4 => ?_) (fun c4 => ?_)
      · have hP := qc_ifT hP c4
        exact L37 I hP
      · have hP := qc_ifF hP c4
        refine qj_aload_n cx dX7_mostGuard_17 rfl rfl ?_
        obtain ⟨q5, eq5, hP⟩ := Option.bind_eq_some_iff.mp hP
        refine qj_callV (As := []) (st := []) (t := 0) (h' := (q5.2, J, shM)) (r := some (.int q5.1)) cx dX7_mostGuard_18 (c_X7_hasHits (I := I) (J := J)  eq5) gc_RX7_405 qm_X7_hasHits rfl rfl qc_cl7 rfl (Nat.le_of_ble_eq_true rfl) (by decide) (by decide) rfl (Nat.le_of_ble_eq_true rfl) (Nat.le_of_ble_eq_true rfl) hn0 rfl ?_
        refine qj_if_eq (tgt := 37) cx dX7_mostGuard_21 (by decide) (fun c6 => ?_) (fun c6 => ?_)
        · have hP := qc_ifT hP c6
          exact L37 q5.2 hP
        · have hP := qc_ifF hP c6
          refine qj_aload_n cx dX7_mostGuard_24 rfl rfl ?_
          refine qj_dup cx dX7_mostGuard_25 rfl ?_
          refine qw_getI (j := 31) cx dX7_mostGuard_26 qc_cl7 rfl (Nat.le_of_ble_eq_true rfl) rfl ww_1123 ?_
          refine qj_iconst (v := (1 : Int32)) cx dX7_mostGuard_29 (by decide) ?_
          refine qj_isub cx dX7_mostGuard_30 ?_
          obtain ⟨I7, eI7, hP⟩ := qc_letE hP
          refine qw_putI (j := 31) cx dX7_mostGuard_31 qc_cl7 rfl (Nat.le_of_ble_eq_true rfl) rfl ww_1123 rfl rfl rfl eI7 ?_
          refine qj_goto (tgt := 10) cx dX7_mostGuard_34 (by decide) ?_
          exact ih I7 hP
  show qc_J F 0 0 0 [some (.ref 0), none] [] (I, J, shM)
  unfold P_X7_mostGuard at hP
  refine qj_aload_n cx dX7_mostGuard_0 rfl rfl ?_
  refine qj_iconst (v := (0 : Int32)) cx dX7_mostGuard_1 (by decide) ?_
  obtain ⟨I8, eI8, hP⟩ := qc_letE hP
  refine qw_putI (j := 0) cx dX7_mostGuard_2 qc_cl7 rfl (Nat.le_of_ble_eq_true rfl) rfl ww_1092 rfl rfl rfl eI8 ?_
  refine qj_aload_n cx dX7_mostGuard_5 rfl rfl ?_
  refine qj_iconst (v := (5 : Int32)) cx dX7_mostGuard_6 (by decide) ?_
  obtain ⟨I9, eI9, hP⟩ := qc_letE hP
  refine qw_putI (j := 31) cx dX7_mostGuard_7 qc_cl7 rfl (Nat.le_of_ble_eq_true rfl) rfl ww_1123 rfl rfl rfl eI9 ?_
  exact L10 qc_fu I9 hP
def P_X7_text (I : Nat → Nat → Int32) (a : Int32) : Option (Int32 × (Nat → Nat → Int32)) :=
  qc_let (qc_u2 I 0 0 (0 : Int32)) fun I1 =>
  if a < 0 then
  some ((-2 : Int32), I1)
  else
  if a ≤ I1 0 2 then
  (P_X7_readText I1 a).bind fun q4 =>
  qc_let (qc_u2 q4 0 2 (0 : Int32)) fun I5 =>
  qc_let (qc_u2 I5 0 23 (I5 0 21)) fun I6 =>
  (if I6 0 21 = 0 then
  some (-1 : Int32)
  else
  some (I6 0 22)).bind fun v8 =>
  qc_let (qc_u2 I6 0 24 v8) fun I9 =>
  if I9 0 21 = 0 then
  (P_X7_takeText I9).bind fun q11 =>
  (P_X7_begins q11).bind fun q12 =>
  qc_let (qc_u2 q12 0 28 (0 : Int32)) fun I13 =>
  qc_let (qc_u2 I13 0 29 (0 : Int32)) fun I14 =>
  some (I14 0 15, I14)
  else
  some ((-1 : Int32), I9)
  else
  some ((-2 : Int32), I1)
set_option maxRecDepth 20000 in
theorem c_X7_text {I : Nat → Nat → Int32} {J : Nat → Nat → Int64}  {a : Int32} {q0 : Int32 × (Nat → Nat → Int32)} (hP : P_X7_text I a = some q0) : ∀ l, qc_M l yX7_text cX7_text 2 (some .int) 12 257 0 0 [.ref 0, .int a] (I, J, shM) (some (.int q0.1)) (q0.2, J, shM) := by
  intro l
  refine qc_ent2 (by decide) (Nat.le_of_ble_eq_true rfl) ?_
  intro F hn0 cx hz
  have cx : qc_X F cX7_text RX7 "text" 12 0 0 257 := cx
  show qc_J F 0 0 0 [some (.ref 0), some (.int a)] [] (I, J, shM)
  unfold P_X7_text at hP
  refine qj_aload_n cx dX7_text_0 rfl rfl ?_
  refine qj_iconst (v := (0 : Int32)) cx dX7_text_1 (by decide) ?_
  obtain ⟨I1, eI1, hP⟩ := qc_letE hP
  refine qw_putI (j := 0) cx dX7_text_2 qc_cl7 rfl (Nat.le_of_ble_eq_true rfl) rfl ww_1092 rfl rfl rfl eI1 ?_
  refine qj_iload_n cx dX7_text_5 rfl rfl ?_
  refine qj_if_lt (tgt := 17) cx dX7_text_6 (by decide) (fun c2 => ?_) (fun c2 => ?_)
  · have hP := qc_ifT hP c2
    refine qj_bipush (v := (-2 : Int32)) cx dX7_text_17 (by decide) ?_
    exact qw_iret cx hz dX7_text_19 (Nat.zero_le _) (Nat.zero_le _) (congrArg (fun q => q.1) (Option.some.inj hP)) (congrArg (fun q => q.2) (Option.some.inj hP)) rfl
  · have hP := qc_ifF hP c2
    refine qj_iload_n cx dX7_text_9 rfl rfl ?_
    refine qj_aload_n cx dX7_text_10 rfl rfl ?_
    refine qw_getI (j := 2) cx dX7_text_11 qc_cl7 rfl (Nat.le_of_ble_eq_true rfl) rfl ww_1094 ?_
    refine qj_icmp_le (tgt := 20) cx dX7_text_14 (by decide) (fun c3 => ?_) (fun c3 => ?_)
    · have hP := qc_ifT hP c3
      refine qj_aload_n cx dX7_text_20 rfl rfl ?_
      refine qj_iload_n cx dX7_text_21 rfl rfl ?_
      obtain ⟨q4, eq4, hP⟩ := Option.bind_eq_some_iff.mp hP
      refine qj_callV (As := [.int a]) (st := []) (t := 0) (h' := (q4, J, shM)) (r := none) cx dX7_text_22 (c_X7_readText (I := I1) (J := J)  eq4) gc_RX7_220 qm_X7_readText rfl rfl qc_cl7 rfl (Nat.le_of_ble_eq_true rfl) (by decide) (by decide) rfl (Nat.le_of_ble_eq_true rfl) (Nat.le_of_ble_eq_true rfl) hn0 rfl ?_
      refine qj_aload_n cx dX7_text_25 rfl rfl ?_
      refine qj_iconst (v := (0 : Int32)) cx dX7_text_26 (by decide) ?_
      obtain ⟨I5, eI5, hP⟩ := qc_letE hP
      refine qw_putI (j := 2) cx dX7_text_27 qc_cl7 rfl (Nat.le_of_ble_eq_true rfl) rfl ww_1094 rfl rfl rfl eI5 ?_
      refine qj_aload_n cx dX7_text_30 rfl rfl ?_
      refine qj_aload_n cx dX7_text_31 rfl rfl ?_
      refine qw_getI (j := 21) cx dX7_text_32 qc_cl7 rfl (Nat.le_of_ble_eq_true rfl) rfl ww_1113 ?_
      obtain ⟨I6, eI6, hP⟩ := qc_letE hP
      refine qw_putI (j := 23) cx dX7_text_35 qc_cl7 rfl (Nat.le_of_ble_eq_true rfl) rfl ww_1115 rfl rfl rfl eI6 ?_
      refine qj_aload_n cx dX7_text_38 rfl rfl ?_
      refine qj_aload_n cx dX7_text_39 rfl rfl ?_
      refine qw_getI (j := 21) cx dX7_text_40 qc_cl7 rfl (Nat.le_of_ble_eq_true rfl) rfl ww_1113 ?_
      obtain ⟨v8, hv8, hP⟩ := Option.bind_eq_some_iff.mp hP
      have Kv8 : qc_J F 0 0 54 [some (.ref 0), some (.int a)] [.int v8, .ref 0] (I6, J, shM) := by
        obtain ⟨I9, eI9, hP⟩ := qc_letE hP
        refine qw_putI (j := 24) cx dX7_text_54 qc_cl7 rfl (Nat.le_of_ble_eq_true rfl) rfl ww_1116 rfl rfl rfl eI9 ?_
        refine qj_aload_n cx dX7_text_57 rfl rfl ?_
        refine qw_getI (j := 21) cx dX7_text_58 qc_cl7 rfl (Nat.le_of_ble_eq_true rfl) rfl ww_1113 ?_
        refine qj_if_eq (tgt := 66) cx dX7_text_61 (by decide) (fun c10 => ?_) (fun c10 => ?_)
        · have hP := qc_ifT hP c10
          refine qj_aload_n cx dX7_text_66 rfl rfl ?_
          obtain ⟨q11, eq11, hP⟩ := Option.bind_eq_some_iff.mp hP
          refine qj_callV (As := []) (st := []) (t := 0) (h' := (q11, J, shM)) (r := none) cx dX7_text_67 (c_X7_takeText (I := I9) (J := J)  eq11) gc_RX7_90 qm_X7_takeText rfl rfl qc_cl7 rfl (Nat.le_of_ble_eq_true rfl) (by decide) (by decide) rfl (Nat.le_of_ble_eq_true rfl) (Nat.le_of_ble_eq_true rfl) hn0 rfl ?_
          refine qj_aload_n cx dX7_text_70 rfl rfl ?_
          obtain ⟨q12, eq12, hP⟩ := Option.bind_eq_some_iff.mp hP
          refine qj_callV (As := []) (st := []) (t := 0) (h' := (q12, J, shM)) (r := none) cx dX7_text_71 (c_X7_begins (I := q11) (J := J)  eq12) gc_RX7_93 qm_X7_begins rfl rfl qc_cl7 rfl (Nat.le_of_ble_eq_true rfl) (by decide) (by decide) rfl (Nat.le_of_ble_eq_true rfl) (Nat.le_of_ble_eq_true rfl) hn0 rfl ?_
          refine qj_aload_n cx dX7_text_74 rfl rfl ?_
          refine qj_iconst (v := (0 : Int32)) cx dX7_text_75 (by decide) ?_
          obtain ⟨I13, eI13, hP⟩ := qc_letE hP
          refine qw_putI (j := 28) cx dX7_text_76 qc_cl7 rfl (Nat.le_of_ble_eq_true rfl) rfl ww_1120 rfl rfl rfl eI13 ?_
          refine qj_aload_n cx dX7_text_79 rfl rfl ?_
          refine qj_iconst (v := (0 : Int32)) cx dX7_text_80 (by decide) ?_
          obtain ⟨I14, eI14, hP⟩ := qc_letE hP
          refine qw_putI (j := 29) cx dX7_text_81 qc_cl7 rfl (Nat.le_of_ble_eq_true rfl) rfl ww_1121 (by decide) (by decide) rfl eI14 ?_
          refine qj_aload_n cx dX7_text_84 rfl rfl ?_
          refine qw_getI (j := 15) cx dX7_text_85 qc_cl7 rfl (Nat.le_of_ble_eq_true rfl) rfl ww_1107 ?_
          exact qw_iret cx hz dX7_text_88 (Nat.zero_le _) (Nat.zero_le _) (congrArg (fun q => q.1) (Option.some.inj hP)) (congrArg (fun q => q.2) (Option.some.inj hP)) rfl
        · have hP := qc_ifF hP c10
          refine qj_iconst (v := (-1 : Int32)) cx dX7_text_64 (by decide) ?_
          exact qw_iret cx hz dX7_text_65 (Nat.zero_le _) (Nat.zero_le _) (congrArg (fun q => q.1) (Option.some.inj hP)) (congrArg (fun q => q.2) (Option.some.inj hP)) rfl
      refine qj_if_ne (tgt := 50) cx dX7_text_43 (by decide) (fun c7 => ?_) (fun c7 => ?_)
      · have hv8 := qc_ifF hv8 c7
        refine qj_aload_n cx dX7_text_50 rfl rfl ?_
        refine qw_getI (j := 22) cx dX7_text_51 qc_cl7 rfl (Nat.le_of_ble_eq_true rfl) rfl ww_1114 ?_
        exact qw_top (Option.some.inj hv8).symm Kv8
      · have hv8 := qc_ifT hv8 c7
        refine qj_iconst (v := (-1 : Int32)) cx dX7_text_46 (by decide) ?_
        refine qj_goto (tgt := 54) cx dX7_text_47 (by decide) ?_
        exact qw_top (Option.some.inj hv8).symm Kv8
    · have hP := qc_ifF hP c3
      refine qj_bipush (v := (-2 : Int32)) cx dX7_text_17 (by decide) ?_
      exact qw_iret cx hz dX7_text_19 (Nat.zero_le _) (Nat.zero_le _) (congrArg (fun q => q.1) (Option.some.inj hP)) (congrArg (fun q => q.2) (Option.some.inj hP)) rfl
def P_X7_searches_127  (I : (Nat → Nat → Int32)) (a2 : Int32) : Option (Int32 × (Nat → Nat → Int32)) :=
  (if a2 = (-1 : Int32) then
  some (-2 : Int32)
  else
  some (I 0 42)).bind fun v2 =>
  some (v2, I)
def P_X7_searches_64  : Nat → (Nat → Nat → Int32) → Int32 → Int32 → Option (Int32 × (Nat → Nat → Int32))
  | 0, _, _, _ => none
  | f + 1, I, a1, a2 =>
  if a2 = (-1 : Int32) then
  P_X7_searches_127 I a2
  else
  if (6 : Int32) ≤ a2 then
  P_X7_searches_127 I a2
  else
  (P_X7_nextFit I a2).bind fun q5 =>
  if q5.1 = (-3 : Int32) then
  (P_X7_clears q5.2 a1).bind fun q13 =>
  some ((-3 : Int32), q13)
  else
  if qc_in ((0 : Int32) + a2) 79 then
  qc_let (qc_u2 q5.2 13 ((0 : Int32) + a2).toNatClampNeg q5.1) fun I7 =>
  (if q5.1 = 0 then
  (P_X7_aheadOf a1 a2).bind fun q11 =>
  some q11
  else
  (P_X7_nextOf a1 a2).bind fun q10 =>
  some q10).bind fun v9 =>
  P_X7_searches_64 f I7 a1 v9
  else none
def P_X7_searches_58 (k32 : (Nat → Nat → Int32) → Int32 → Int32 → Int32 → Option (Int32 × (Nat → Nat → Int32))) (I : (Nat → Nat → Int32)) (a1 : Int32) (a2 : Int32) (a3 : Int32) : Option (Int32 × (Nat → Nat → Int32)) :=
  qc_let (a3 + (1 : Int32)) fun x14 =>
  k32 I a1 a2 x14
def P_X7_searches_32  : Nat → (Nat → Nat → Int32) → Int32 → Int32 → Int32 → Option (Int32 × (Nat → Nat → Int32))
  | 0, _, _, _, _ => none
  | f + 1, I, a1, a2, a3 =>
  (P_X7_users I).bind fun q15 =>
  if q15 ≤ a3 then
  P_X7_searches_64 qc_fu I a1 a2
  else
  if (a1 >>> (a3 &&& 31)) &&& (1 : Int32) = (1 : Int32) then
  (if qc_in ((0 : Int32) + a3) 79 then
  qc_let (qc_u2 I 13 ((0 : Int32) + a3).toNatClampNeg (0 : Int32)) fun I18 =>
  P_X7_searches_58 (P_X7_searches_32 f) I18 a1 a2 a3
  else none)
  else
  P_X7_searches_58 (P_X7_searches_32 f) I a1 a2 a3
def P_X7_searches (I : Nat → Nat → Int32) (a : Int32) : Option (Int32 × (Nat → Nat → Int32)) :=
  qc_let (qc_u2 I 0 42 (0 : Int32)) fun I20 =>
  if a = 0 then
  (P_X7_isClean I20).bind fun q23 =>
  (if q23.1 = 0 then
  some (-2 : Int32)
  else
  some (0 : Int32)).bind fun v25 =>
  some (v25, q23.2)
  else
  (P_X7_nextOf a (-1 : Int32)).bind fun q22 =>
  P_X7_searches_32 qc_fu I20 a q22 (0 : Int32)
set_option maxRecDepth 20000 in
theorem c_X7_searches {I : Nat → Nat → Int32} {J : Nat → Nat → Int64}  {a : Int32} {q0 : Int32 × (Nat → Nat → Int32)} (hP : P_X7_searches I a = some q0) : ∀ l, qc_M l yX7_searches cX7_searches 4 (some .int) 6 140 0 0 [.ref 0, .int a] (I, J, shM) (some (.int q0.1)) (q0.2, J, shM) := by
  intro l
  refine qc_ent2 (by decide) (Nat.le_of_ble_eq_true rfl) ?_
  intro F hn0 cx hz
  have cx : qc_X F cX7_searches RX7 "searches" 6 0 0 140 := cx
  have L127 : ∀  (I : (Nat → Nat → Int32)) (a2 : Int32), P_X7_searches_127 I a2 = some q0 → qc_J F 0 0 127 [some (.ref 0), none, some (.int a2), none] [] (I, J, shM) := by
    intro I a2 hP
    unfold P_X7_searches_127 at hP
    refine qj_iload_n cx dX7_searches_127 rfl rfl ?_
    refine qj_iconst (v := (-1 : Int32)) cx dX7_searches_128 (by decide) ?_
    obtain ⟨v2, hv2, hP⟩ := Option.bind_eq_some_iff.mp hP
    have Kv2 : qc_J F 0 0 141 [some (.ref 0), none, some (.int a2), none] [.int v2] (I, J, shM) := by
      exact qw_iret cx hz dX7_searches_141 (Nat.zero_le _) (Nat.zero_le _) (congrArg (fun q => q.1) (Option.some.inj hP)) (congrArg (fun q => q.2) (Option.some.inj hP)) rfl
    refine qj_icmp_ne (tgt := 137) cx dX7_searches_129 (by decide) (fun c1 => ?_) (fun c1 => ?_)
    · have hv2 := qc_ifF hv2 c1
      refine qj_aload_n cx dX7_searches_137 rfl rfl ?_
      refine qw_getI (j := 42) cx dX7_searches_138 qc_cl7 rfl (Nat.le_of_ble_eq_true rfl) rfl ww_1134 ?_
      exact qw_top (Option.some.inj hv2).symm Kv2
    · have hv2 := qc_ifT hv2 c1
      refine qj_bipush (v := (-2 : Int32)) cx dX7_searches_132 (by decide) ?_
      refine qj_goto (tgt := 141) cx dX7_searches_134 (by decide) ?_
      exact qw_top (Option.some.inj hv2).symm Kv2
  have L64 : ∀  (f : Nat) (I : (Nat → Nat → Int32)) (a1 : Int32) (a2 : Int32), P_X7_searches_64 f I a1 a2 = some q0 → qc_J F 0 0 64 [some (.ref 0), some (.int a1), some (.int a2), none] [] (I, J, shM) := by
    intro  f
    induction f with
    | zero => intro I a1 a2 hP; cases hP
    | succ f ih =>
      intro I a1 a2 hP
      rw [P_X7_searches_64] at hP
      refine qj_iload_n cx dX7_searches_64 rfl rfl ?_
      refine qj_iconst (v := (-1 : Int32)) cx dX7_searches_65 (by decide) ?_
      refine qj_icmp_eq (tgt := 127) cx dX7_searches_66 (by decide) (fun c3 => ?_) (fun c3 => ?_)
      · have hP := qc_ifT hP c3
        refine qw_sub (ls1 := [some (.ref 0), none, some (.int a2), none]) rfl (qc_sb_ok ⟨rfl, rfl, trivial⟩) ?_
        exact L127 I a2 hP
      · have hP := qc_ifF hP c3
        refine qj_iload_n cx dX7_searches_69 rfl rfl ?_
        refine qj_bipush (v := (6 : Int32)) cx dX7_searches_70 (by decide) ?_
        refine qj_icmp_ge (tgt := 127) cx dX7_searches_72 (by decide) (fun c4 => ?_) (fun c4 => ?_)
        · have hP := qc_ifT hP c4
          refine qw_sub (ls1 := [some (.ref 0), none, some (.int a2), none]) rfl (qc_sb_ok ⟨rfl, rfl, trivial⟩) ?_
          exact L127 I a2 hP
        · have hP := qc_ifF hP c4
          refine qj_aload_n cx dX7_searches_75 rfl rfl ?_
          refine qj_iload_n cx dX7_searches_76 rfl rfl ?_
          obtain ⟨q5, eq5, hP⟩ := Option.bind_eq_some_iff.mp hP
          refine qj_callV (As := [.int a2]) (st := []) (t := 0) (h' := (q5.2, J, shM)) (r := some (.int q5.1)) cx dX7_searches_77 (c_X7_nextFit (I := I) (J := J)  eq5) gc_RX7_339 qm_X7_nextFit rfl rfl qc_cl7 rfl (Nat.le_of_ble_eq_true rfl) (by decide) (by decide) rfl (Nat.le_of_ble_eq_true rfl) (Nat.le_of_ble_eq_true rfl) hn0 rfl ?_
          refine qj_istore_n (ls1 := [some (.ref 0), some (.int a1), some (.int a2), some (.int q5.1)]) cx dX7_searches_80 rfl rfl rfl rfl ?_
          refine qj_iload_n cx dX7_searches_81 rfl rfl ?_
          refine qj_bipush (v := (-3 : Int32)) cx dX7_searches_82 (by decide) ?_
          refine qj_icmp_ne (tgt := 95) cx dX7_searches_84 (by decide) (fun c6 => ?_) (fun c6 => ?_)
          · have hP := qc_ifF hP c6
            refine qj_aload_n cx dX7_searches_95 rfl rfl ?_
            refine qw_getR (j := 25) (t1 := 13) cx dX7_searches_96 qc_cl7 rfl (Nat.le_of_ble_eq_true rfl) rfl ww_1117 rfl ?_
            refine qj_iconst (v := (0 : Int32)) cx dX7_searches_99 (by decide) ?_
            refine qj_iload_n cx dX7_searches_100 rfl rfl ?_
            refine qj_iadd cx dX7_searches_101 ?_
            refine qj_iload_n cx dX7_searches_102 rfl rfl ?_
            obtain ⟨c12, hP⟩ := qc_ck hP
            obtain ⟨I7, eI7, hP⟩ := qc_letE hP
            refine qw_iast cx dX7_searches_103 rfl (Nat.le_of_ble_eq_true rfl) rfl c12 eI7 ?_
            refine qj_iload_n cx dX7_searches_104 rfl rfl ?_
            obtain ⟨v9, hv9, hP⟩ := Option.bind_eq_some_iff.mp hP
            have Kv9 : qc_J F 0 0 123 [some (.ref 0), some (.int a1), some (.int a2), some (.int q5.1)] [.int v9] (I7, J, shM) := by
              refine qj_istore_n (ls1 := [some (.ref 0), some (.int a1), some (.int v9), some (.int q5.1)]) cx dX7_searches_123 rfl rfl rfl rfl ?_
              refine qj_goto (tgt := 64) cx dX7_searches_124 (by decide) ?_
              refine qw_sub (ls1 := [some (.ref 0), some (.int a1), some (.int v9), none]) rfl (qc_sb_ok ⟨rfl, rfl, rfl, trivial⟩) ?_
              exact ih I7 a1 v9 hP
            refine qj_if_ne (tgt := 117) cx dX7_searches_105 (by decide) (fun c8 => ?_) (fun c8 => ?_)
            · have hv9 := qc_ifF hv9 c8
              refine qj_aload_n cx dX7_searches_117 rfl rfl ?_
              refine qj_iload_n cx dX7_searches_118 rfl rfl ?_
              refine qj_iload_n cx dX7_searches_119 rfl rfl ?_
              obtain ⟨q10, eq10, hv9⟩ := Option.bind_eq_some_iff.mp hv9
              refine qj_callV (As := [.int a1, .int a2]) (st := []) (t := 0) (h' := (I7, J, shM)) (r := some (.int q10)) cx dX7_searches_120 (c_X7_nextOf (I := I7) (J := J)  eq10) gc_RX7_336 qm_X7_nextOf rfl rfl qc_cl7 rfl (Nat.le_of_ble_eq_true rfl) (by decide) (by decide) rfl (Nat.le_of_ble_eq_true rfl) (Nat.le_of_ble_eq_true rfl) hn0 rfl ?_
              exact qw_top (Option.some.inj hv9).symm Kv9
            · have hv9 := qc_ifT hv9 c8
              refine qj_aload_n cx dX7_searches_108 rfl rfl ?_
              refine qj_iload_n cx dX7_searches_109 rfl rfl ?_
              refine qj_iload_n cx dX7_searches_110 rfl rfl ?_
              obtain ⟨q11, eq11, hv9⟩ := Option.bind_eq_some_iff.mp hv9
              refine qj_callV (As := [.int a1, .int a2]) (st := []) (t := 0) (h' := (I7, J, shM)) (r := some (.int q11)) cx dX7_searches_111 (c_X7_aheadOf (I := I7) (J := J)  eq11) gc_RX7_345 qm_X7_aheadOf rfl rfl qc_cl7 rfl (Nat.le_of_ble_eq_true rfl) (by decide) (by decide) rfl (Nat.le_of_ble_eq_true rfl) (Nat.le_of_ble_eq_true rfl) hn0 rfl ?_
              refine qj_goto (tgt := 123) cx dX7_searches_114 (by decide) ?_
              exact qw_top (Option.some.inj hv9).symm Kv9
          · have hP := qc_ifT hP c6
            refine qj_aload_n cx dX7_searches_87 rfl rfl ?_
            refine qj_iload_n cx dX7_searches_88 rfl rfl ?_
            obtain ⟨q13, eq13, hP⟩ := Option.bind_eq_some_iff.mp hP
            refine qj_callV (As := [.int a1]) (st := []) (t := 0) (h' := (q13, J, shM)) (r := none) cx dX7_searches_89 (c_X7_clears (I := q5.2) (J := J)  eq13) gc_RX7_342 qm_X7_clears rfl rfl qc_cl7 rfl (Nat.le_of_ble_eq_true rfl) (by decide) (by decide) rfl (Nat.le_of_ble_eq_true rfl) (Nat.le_of_ble_eq_true rfl) hn0 rfl ?_
            refine qj_bipush (v := (-3 : Int32)) cx dX7_searches_92 (by decide) ?_
            exact qw_iret cx hz dX7_searches_94 (Nat.zero_le _) (Nat.zero_le _) (congrArg (fun q => q.1) (Option.some.inj hP)) (congrArg (fun q => q.2) (Option.some.inj hP)) rfl
  have L58 : ∀ (k32 : (Nat → Nat → Int32) → Int32 → Int32 → Int32 → Option (Int32 × (Nat → Nat → Int32))) (g32 : ∀ (I : Nat → Nat → Int32) (a1 : Int32) (a2 : Int32) (a3 : Int32), k32 I a1 a2 a3 = some q0 → qc_J F 0 0 32 [some (.ref 0), some (.int a1), some (.int a2), some (.int a3)] [] (I, J, shM)) (I : (Nat → Nat → Int32)) (a1 : Int32) (a2 : Int32) (a3 : Int32), P_X7_searches_58 k32 I a1 a2 a3 = some q0 → qc_J F 0 0 58 [some (.ref 0), some (.int a1), some (.int a2), some (.int a3)] [] (I, J, shM) := by
    intro k32 g32 I a1 a2 a3 hP
    unfold P_X7_searches_58 at hP
    obtain ⟨x14, ex14, hP⟩ := qc_letE hP
    refine qj_iinc (v := x14) (ls1 := [some (.ref 0), some (.int a1), some (.int a2), some (.int x14)]) cx dX7_searches_58 rfl (by rw [ex14]; rfl) rfl rfl ?_
    refine qj_goto (tgt := 32) cx dX7_searches_61 (by decide) ?_
    exact g32 I a1 a2 x14 hP
  have L32 : ∀  (f : Nat) (I : (Nat → Nat → Int32)) (a1 : Int32) (a2 : Int32) (a3 : Int32), P_X7_searches_32 f I a1 a2 a3 = some q0 → qc_J F 0 0 32 [some (.ref 0), some (.int a1), some (.int a2), some (.int a3)] [] (I, J, shM) := by
    intro  f
    induction f with
    | zero => intro I a1 a2 a3 hP; cases hP
    | succ f ih =>
      intro I a1 a2 a3 hP
      rw [P_X7_searches_32] at hP
      refine qj_iload_n cx dX7_searches_32 rfl rfl ?_
      refine qj_aload_n cx dX7_searches_33 rfl rfl ?_
      obtain ⟨q15, eq15, hP⟩ := Option.bind_eq_some_iff.mp hP
      refine qj_callV (As := []) (st := [.int a3]) (t := 0) (h' := (I, J, shM)) (r := some (.int q15)) cx dX7_searches_34 (c_X7_users (I := I) (J := J)  eq15) gc_RX7_232 qm_X7_users rfl rfl qc_cl7 rfl (Nat.le_of_ble_eq_true rfl) (by decide) (by decide) rfl (Nat.le_of_ble_eq_true rfl) (Nat.le_of_ble_eq_true rfl) hn0 rfl ?_
      refine qj_icmp_ge (tgt := 64) cx dX7_searches_37 (by decide) (fun c16 => ?_) (fun c16 => ?_)
      · have hP := qc_ifT hP c16
        refine qw_sub (ls1 := [some (.ref 0), some (.int a1), some (.int a2), none]) rfl (qc_sb_ok ⟨rfl, rfl, rfl, trivial⟩) ?_
        exact L64 qc_fu I a1 a2 hP
      · have hP := qc_ifF hP c16
        refine qj_iload_n cx dX7_searches_40 rfl rfl ?_
        refine qj_iload_n cx dX7_searches_41 rfl rfl ?_
        refine qj_ishr cx dX7_searches_42 ?_
        refine qj_iconst (v := (1 : Int32)) cx dX7_searches_43 (by decide) ?_
        refine qj_iand cx dX7_searches_44 ?_
        refine qj_iconst (v := (1 : Int32)) cx dX7_searches_45 (by decide) ?_
        refine qj_icmp_ne (tgt := 58) cx dX7_searches_46 (by decide) (fun c17 => ?_) (fun c17 => ?_)
        · have hP := qc_ifF hP c17
          exact L58 (P_X7_searches_32 f) ih I a1 a2 a3 hP
        · have hP := qc_ifT hP c17
          refine qj_aload_n cx dX7_searches_49 rfl rfl ?_
          refine qw_getR (j := 25) (t1 := 13) cx dX7_searches_50 qc_cl7 rfl (Nat.le_of_ble_eq_true rfl) rfl ww_1117 rfl ?_
          refine qj_iconst (v := (0 : Int32)) cx dX7_searches_53 (by decide) ?_
          refine qj_iload_n cx dX7_searches_54 rfl rfl ?_
          refine qj_iadd cx dX7_searches_55 ?_
          refine qj_iconst (v := (0 : Int32)) cx dX7_searches_56 (by decide) ?_
          obtain ⟨c19, hP⟩ := qc_ck hP
          obtain ⟨I18, eI18, hP⟩ := qc_letE hP
          refine qw_iast cx dX7_searches_57 rfl (Nat.le_of_ble_eq_true rfl) rfl c19 eI18 ?_
          exact L58 (P_X7_searches_32 f) ih I18 a1 a2 a3 hP
  show qc_J F 0 0 0 [some (.ref 0), some (.int a), none, none] [] (I, J, shM)
  unfold P_X7_searches at hP
  refine qj_aload_n cx dX7_searches_0 rfl rfl ?_
  refine qj_iconst (v := (0 : Int32)) cx dX7_searches_1 (by decide) ?_
  obtain ⟨I20, eI20, hP⟩ := qc_letE hP
  refine qw_putI (j := 42) cx dX7_searches_2 qc_cl7 rfl (Nat.le_of_ble_eq_true rfl) rfl ww_1134 rfl rfl rfl eI20 ?_
  refine qj_iload_n cx dX7_searches_5 rfl rfl ?_
  refine qj_if_ne (tgt := 23) cx dX7_searches_6 (by decide) (fun c21 => ?_) (fun c21 => ?_)
  · have hP := qc_ifF hP c21
    refine qj_aload_n cx dX7_searches_23 rfl rfl ?_
    refine qj_iload_n cx dX7_searches_24 rfl rfl ?_
    refine qj_iconst (v := (-1 : Int32)) cx dX7_searches_25 (by decide) ?_
    obtain ⟨q22, eq22, hP⟩ := Option.bind_eq_some_iff.mp hP
    refine qj_callV (As := [.int a, .int (-1 : Int32)]) (st := []) (t := 0) (h' := (I20, J, shM)) (r := some (.int q22)) cx dX7_searches_26 (c_X7_nextOf (I := I20) (J := J)  eq22) gc_RX7_336 qm_X7_nextOf rfl rfl qc_cl7 rfl (Nat.le_of_ble_eq_true rfl) (by decide) (by decide) rfl (Nat.le_of_ble_eq_true rfl) (Nat.le_of_ble_eq_true rfl) hn0 rfl ?_
    refine qj_istore_n (ls1 := [some (.ref 0), some (.int a), some (.int q22), none]) cx dX7_searches_29 rfl rfl rfl rfl ?_
    refine qj_iconst (v := (0 : Int32)) cx dX7_searches_30 (by decide) ?_
    refine qj_istore_n (ls1 := [some (.ref 0), some (.int a), some (.int q22), some (.int (0 : Int32))]) cx dX7_searches_31 rfl rfl rfl rfl ?_
    exact L32 qc_fu I20 a q22 (0 : Int32) hP
  · have hP := qc_ifT hP c21
    refine qj_aload_n cx dX7_searches_9 rfl rfl ?_
    obtain ⟨q23, eq23, hP⟩ := Option.bind_eq_some_iff.mp hP
    refine qj_callV (As := []) (st := []) (t := 0) (h' := (q23.2, J, shM)) (r := some (.int q23.1)) cx dX7_searches_10 (c_X7_isClean (I := I20) (J := J)  eq23) gc_RX7_332 qm_X7_isClean rfl rfl qc_cl7 rfl (Nat.le_of_ble_eq_true rfl) (by decide) (by decide) rfl (Nat.le_of_ble_eq_true rfl) (Nat.le_of_ble_eq_true rfl) hn0 rfl ?_
    obtain ⟨v25, hv25, hP⟩ := Option.bind_eq_some_iff.mp hP
    have Kv25 : qc_J F 0 0 22 [some (.ref 0), some (.int a), none, none] [.int v25] (q23.2, J, shM) := by
      exact qw_iret cx hz dX7_searches_22 (Nat.zero_le _) (Nat.zero_le _) (congrArg (fun q => q.1) (Option.some.inj hP)) (congrArg (fun q => q.2) (Option.some.inj hP)) rfl
    refine qj_if_eq (tgt := 20) cx dX7_searches_13 (by decide) (fun c24 => ?_) (fun c24 => ?_)
    · have hv25 := qc_ifT hv25 c24
      refine qj_bipush (v := (-2 : Int32)) cx dX7_searches_20 (by decide) ?_
      exact qw_top (Option.some.inj hv25).symm Kv25
    · have hv25 := qc_ifF hv25 c24
      refine qj_iconst (v := (0 : Int32)) cx dX7_searches_16 (by decide) ?_
      refine qj_goto (tgt := 22) cx dX7_searches_17 (by decide) ?_
      exact qw_top (Option.some.inj hv25).symm Kv25
def P_X7_complete (I : Nat → Nat → Int32) : Option (Int32 × (Nat → Nat → Int32)) :=
  qc_let (qc_u2 I 0 0 (0 : Int32)) fun I1 =>
  (P_X7_goesAside I1).bind fun q2 =>
  (P_X7_withoutChannels q2).bind fun q3 =>
  (P_X7_searches q2 q3).bind fun q4 =>
  if 0 < q4.1 then
  (P_X7_swapsIn q4.2).bind fun q6 =>
  some (q4.1, q6)
  else
  (P_X7_comesBack q4.2).bind fun q7 =>
  some (q4.1, q7)
set_option maxRecDepth 20000 in
theorem c_X7_complete {I : Nat → Nat → Int32} {J : Nat → Nat → Int64}   {q0 : Int32 × (Nat → Nat → Int32)} (hP : P_X7_complete I = some q0) : ∀ l, qc_M l yX7_complete cX7_complete 2 (some .int) 7 163 0 0 [.ref 0] (I, J, shM) (some (.int q0.1)) (q0.2, J, shM) := by
  intro l
  refine qc_ent2 (by decide) (Nat.le_of_ble_eq_true rfl) ?_
  intro F hn0 cx hz
  have cx : qc_X F cX7_complete RX7 "complete" 7 0 0 163 := cx
  show qc_J F 0 0 0 [some (.ref 0), none] [] (I, J, shM)
  unfold P_X7_complete at hP
  refine qj_aload_n cx dX7_complete_0 rfl rfl ?_
  refine qj_iconst (v := (0 : Int32)) cx dX7_complete_1 (by decide) ?_
  obtain ⟨I1, eI1, hP⟩ := qc_letE hP
  refine qw_putI (j := 0) cx dX7_complete_2 qc_cl7 rfl (Nat.le_of_ble_eq_true rfl) rfl ww_1092 rfl rfl rfl eI1 ?_
  refine qj_aload_n cx dX7_complete_5 rfl rfl ?_
  obtain ⟨q2, eq2, hP⟩ := Option.bind_eq_some_iff.mp hP
  refine qj_callV (As := []) (st := []) (t := 0) (h' := (q2, J, shM)) (r := none) cx dX7_complete_6 (c_X7_goesAside (I := I1) (J := J)  eq2) gc_RX7_348 qm_X7_goesAside rfl rfl qc_cl7 rfl (Nat.le_of_ble_eq_true rfl) (by decide) (by decide) rfl (Nat.le_of_ble_eq_true rfl) (Nat.le_of_ble_eq_true rfl) hn0 rfl ?_
  refine qj_aload_n cx dX7_complete_9 rfl rfl ?_
  refine qj_aload_n cx dX7_complete_10 rfl rfl ?_
  obtain ⟨q3, eq3, hP⟩ := Option.bind_eq_some_iff.mp hP
  refine qj_callV (As := []) (st := [.ref 0]) (t := 0) (h' := (q2, J, shM)) (r := some (.int q3)) cx dX7_complete_11 (c_X7_withoutChannels (I := q2) (J := J)  eq3) gc_RX7_351 qm_X7_withoutChannels rfl rfl qc_cl7 rfl (Nat.le_of_ble_eq_true rfl) (by decide) (by decide) rfl (Nat.le_of_ble_eq_true rfl) (Nat.le_of_ble_eq_true rfl) hn0 rfl ?_
  obtain ⟨q4, eq4, hP⟩ := Option.bind_eq_some_iff.mp hP
  refine qj_callV (As := [.int q3]) (st := []) (t := 0) (h' := (q4.2, J, shM)) (r := some (.int q4.1)) cx dX7_complete_14 (c_X7_searches (I := q2) (J := J)  eq4) gc_RX7_354 qm_X7_searches rfl rfl qc_cl7 rfl (Nat.le_of_ble_eq_true rfl) (by decide) (by decide) rfl (Nat.le_of_ble_eq_true rfl) (Nat.le_of_ble_eq_true rfl) hn0 rfl ?_
  refine qj_istore_n (ls1 := [some (.ref 0), some (.int q4.1)]) cx dX7_complete_17 rfl rfl rfl rfl ?_
  refine qj_iload_n cx dX7_complete_18 rfl rfl ?_
  refine qj_if_gt (tgt := 28) cx dX7_complete_19 (by decide) (fun c5 => ?_) (fun c5 => ?_)
  · have hP := qc_ifT hP c5
    refine qj_aload_n cx dX7_complete_28 rfl rfl ?_
    obtain ⟨q6, eq6, hP⟩ := Option.bind_eq_some_iff.mp hP
    refine qj_callV (As := []) (st := []) (t := 0) (h' := (q6, J, shM)) (r := none) cx dX7_complete_29 (c_X7_swapsIn (I := q4.2) (J := J)  eq6) gc_RX7_360 qm_X7_swapsIn rfl rfl qc_cl7 rfl (Nat.le_of_ble_eq_true rfl) (by decide) (by decide) rfl (Nat.le_of_ble_eq_true rfl) (Nat.le_of_ble_eq_true rfl) hn0 rfl ?_
    refine qj_iload_n cx dX7_complete_32 rfl rfl ?_
    exact qw_iret cx hz dX7_complete_33 (Nat.zero_le _) (Nat.zero_le _) (congrArg (fun q => q.1) (Option.some.inj hP)) (congrArg (fun q => q.2) (Option.some.inj hP)) rfl
  · have hP := qc_ifF hP c5
    refine qj_aload_n cx dX7_complete_22 rfl rfl ?_
    obtain ⟨q7, eq7, hP⟩ := Option.bind_eq_some_iff.mp hP
    refine qj_callV (As := []) (st := []) (t := 0) (h' := (q7, J, shM)) (r := none) cx dX7_complete_23 (c_X7_comesBack (I := q4.2) (J := J)  eq7) gc_RX7_357 qm_X7_comesBack rfl rfl qc_cl7 rfl (Nat.le_of_ble_eq_true rfl) (by decide) (by decide) rfl (Nat.le_of_ble_eq_true rfl) (Nat.le_of_ble_eq_true rfl) hn0 rfl ?_
    refine qj_iload_n cx dX7_complete_26 rfl rfl ?_
    exact qw_iret cx hz dX7_complete_27 (Nat.zero_le _) (Nat.zero_le _) (congrArg (fun q => q.1) (Option.some.inj hP)) (congrArg (fun q => q.2) (Option.some.inj hP)) rfl
def P_X7_mends_70 (k22 : (Nat → Nat → Int32) → Int32 → Int32 → Option (Int32 × (Nat → Nat → Int32))) (k32 : (Nat → Nat → Int32) → Int32 → Int32 → Int32 → Option (Int32 × (Nat → Nat → Int32))) (I : (Nat → Nat → Int32)) (a1 : Int32) (a2 : Int32) (a3 : Int32) : Option (Int32 × (Nat → Nat → Int32)) :=
  qc_let (a3 + (1 : Int32)) fun x1 =>
  k32 I a1 a2 x1
def P_X7_mends_32 (k22 : (Nat → Nat → Int32) → Int32 → Int32 → Option (Int32 × (Nat → Nat → Int32))) : Nat → (Nat → Nat → Int32) → Int32 → Int32 → Int32 → Option (Int32 × (Nat → Nat → Int32))
  | 0, _, _, _, _ => none
  | f + 1, I, a1, a2, a3 =>
  if a1 < a3 then
  qc_let (a2 + (1 : Int32)) fun x3 =>
  k22 I a1 x3
  else
  if a3 &&& (a1 ^^^ (-1 : Int32)) = 0 then
  (P_X7_bits a3).bind fun q5 =>
  if q5 = a2 then
  (P_X7_searches I a3).bind fun q7 =>
  if q7.1 < 0 then
  (P_X7_comesBack q7.2).bind fun q9 =>
  P_X7_mends_70 k22 (P_X7_mends_32 k22 f) q9 a1 a2 a3
  else
  some (a3, q7.2)
  else
  P_X7_mends_70 k22 (P_X7_mends_32 k22 f) I a1 a2 a3
  else
  P_X7_mends_70 k22 (P_X7_mends_32 k22 f) I a1 a2 a3
def P_X7_mends_22  : Nat → (Nat → Nat → Int32) → Int32 → Int32 → Option (Int32 × (Nat → Nat → Int32))
  | 0, _, _, _ => none
  | f + 1, I, a1, a2 =>
  (P_X7_users I).bind fun q10 =>
  if q10 < a2 then
  some ((-2 : Int32), I)
  else
  P_X7_mends_32 (P_X7_mends_22 f) qc_fu I a1 a2 (0 : Int32)
def P_X7_mends (I : Nat → Nat → Int32) : Option (Int32 × (Nat → Nat → Int32)) :=
  (P_X7_goesAside I).bind fun q12 =>
  (P_X7_users q12).bind fun q13 =>
  (P_X7_withoutChannels q12).bind fun q14 =>
  qc_let ((((1 : Int32) <<< (q13 &&& 31)) - (1 : Int32)) &&& (q14 ^^^ (-1 : Int32))) fun x15 =>
  P_X7_mends_22 qc_fu q12 x15 (0 : Int32)
set_option maxRecDepth 20000 in
theorem c_X7_mends {I : Nat → Nat → Int32} {J : Nat → Nat → Int64}   {q0 : Int32 × (Nat → Nat → Int32)} (hP : P_X7_mends I = some q0) : ∀ l, qc_M l yX7_mends cX7_mends 4 (some .int) 7 163 0 0 [.ref 0] (I, J, shM) (some (.int q0.1)) (q0.2, J, shM) := by
  intro l
  refine qc_ent2 (by decide) (Nat.le_of_ble_eq_true rfl) ?_
  intro F hn0 cx hz
  have cx : qc_X F cX7_mends RX7 "mends" 7 0 0 163 := cx
  have L70 : ∀ (k22 : (Nat → Nat → Int32) → Int32 → Int32 → Option (Int32 × (Nat → Nat → Int32))) (g22 : ∀ (I : Nat → Nat → Int32) (a1 : Int32) (a2 : Int32), k22 I a1 a2 = some q0 → qc_J F 0 0 22 [some (.ref 0), some (.int a1), some (.int a2), none] [] (I, J, shM)) (k32 : (Nat → Nat → Int32) → Int32 → Int32 → Int32 → Option (Int32 × (Nat → Nat → Int32))) (g32 : ∀ (I : Nat → Nat → Int32) (a1 : Int32) (a2 : Int32) (a3 : Int32), k32 I a1 a2 a3 = some q0 → qc_J F 0 0 32 [some (.ref 0), some (.int a1), some (.int a2), some (.int a3)] [] (I, J, shM)) (I : (Nat → Nat → Int32)) (a1 : Int32) (a2 : Int32) (a3 : Int32), P_X7_mends_70 k22 k32 I a1 a2 a3 = some q0 → qc_J F 0 0 70 [some (.ref 0), some (.int a1), some (.int a2), some (.int a3)] [] (I, J, shM) := by
    intro k22 g22 k32 g32 I a1 a2 a3 hP
    unfold P_X7_mends_70 at hP
    obtain ⟨x1, ex1, hP⟩ := qc_letE hP
    refine qj_iinc (v := x1) (ls1 := [some (.ref 0), some (.int a1), some (.int a2), some (.int x1)]) cx dX7_mends_70 rfl (by rw [ex1]; rfl) rfl rfl ?_
    refine qj_goto (tgt := 32) cx dX7_mends_73 (by decide) ?_
    exact g32 I a1 a2 x1 hP
  have L32 : ∀ (k22 : (Nat → Nat → Int32) → Int32 → Int32 → Option (Int32 × (Nat → Nat → Int32))) (g22 : ∀ (I : Nat → Nat → Int32) (a1 : Int32) (a2 : Int32), k22 I a1 a2 = some q0 → qc_J F 0 0 22 [some (.ref 0), some (.int a1), some (.int a2), none] [] (I, J, shM)) (f : Nat) (I : (Nat → Nat → Int32)) (a1 : Int32) (a2 : Int32) (a3 : Int32), P_X7_mends_32 k22 f I a1 a2 a3 = some q0 → qc_J F 0 0 32 [some (.ref 0), some (.int a1), some (.int a2), some (.int a3)] [] (I, J, shM) := by
    intro k22 g22 f
    induction f with
    | zero => intro I a1 a2 a3 hP; cases hP
    | succ f ih =>
      intro I a1 a2 a3 hP
      rw [P_X7_mends_32] at hP
      refine qj_iload_n cx dX7_mends_32 rfl rfl ?_
      refine qj_iload_n cx dX7_mends_33 rfl rfl ?_
      refine qj_icmp_gt (tgt := 76) cx dX7_mends_34 (by decide) (fun c2 => ?_) (fun c2 => ?_)
      · have hP := qc_ifT hP c2
        obtain ⟨x3, ex3, hP⟩ := qc_letE hP
        refine qj_iinc (v := x3) (ls1 := [some (.ref 0), some (.int a1), some (.int x3), some (.int a3)]) cx dX7_mends_76 rfl (by rw [ex3]; rfl) rfl rfl ?_
        refine qj_goto (tgt := 22) cx dX7_mends_79 (by decide) ?_
        refine qw_sub (ls1 := [some (.ref 0), some (.int a1), some (.int x3), none]) rfl (qc_sb_ok ⟨rfl, rfl, rfl, trivial⟩) ?_
        exact g22 I a1 x3 hP
      · have hP := qc_ifF hP c2
        refine qj_iload_n cx dX7_mends_37 rfl rfl ?_
        refine qj_iload_n cx dX7_mends_38 rfl rfl ?_
        refine qj_iconst (v := (-1 : Int32)) cx dX7_mends_39 (by decide) ?_
        refine qj_ixor cx dX7_mends_40 ?_
        refine qj_iand cx dX7_mends_41 ?_
        refine qj_if_ne (tgt := 70) cx dX7_mends_42 (by decide) (fun c4 => ?_) (fun c4 => ?_)
        · have hP := qc_ifF hP c4
          exact L70 k22 g22 (P_X7_mends_32 k22 f) ih I a1 a2 a3 hP
        · have hP := qc_ifT hP c4
          refine qj_iload_n cx dX7_mends_45 rfl rfl ?_
          obtain ⟨q5, eq5, hP⟩ := Option.bind_eq_some_iff.mp hP
          refine qj_callS (As := [.int a3]) (st := []) (h' := (I, J, shM)) (r := some (.int q5)) cx dX7_mends_46 (c_X7_bits (S := shM) (I := I) (J := J) eq5) gc_RX7_311 qm_X7_bits rfl (by decide) (by decide) rfl (Nat.le_of_ble_eq_true rfl) (Nat.le_of_ble_eq_true rfl) hn0 rfl ?_
          refine qj_iload_n cx dX7_mends_49 rfl rfl ?_
          refine qj_icmp_eq (tgt := 56) cx dX7_mends_50 (by decide) (fun c6 => ?_) (fun c6 => ?_)
          · have hP := qc_ifT hP c6
            refine qj_aload_n cx dX7_mends_56 rfl rfl ?_
            refine qj_iload_n cx dX7_mends_57 rfl rfl ?_
            obtain ⟨q7, eq7, hP⟩ := Option.bind_eq_some_iff.mp hP
            refine qj_callV (As := [.int a3]) (st := []) (t := 0) (h' := (q7.2, J, shM)) (r := some (.int q7.1)) cx dX7_mends_58 (c_X7_searches (I := I) (J := J)  eq7) gc_RX7_354 qm_X7_searches rfl rfl qc_cl7 rfl (Nat.le_of_ble_eq_true rfl) (by decide) (by decide) rfl (Nat.le_of_ble_eq_true rfl) (Nat.le_of_ble_eq_true rfl) hn0 rfl ?_
            refine qj_if_lt (tgt := 66) cx dX7_mends_61 (by decide) (fun c8 => ?_) (fun c8 => ?_)
            · have hP := qc_ifT hP c8
              refine qj_aload_n cx dX7_mends_66 rfl rfl ?_
              obtain ⟨q9, eq9, hP⟩ := Option.bind_eq_some_iff.mp hP
              refine qj_callV (As := []) (st := []) (t := 0) (h' := (q9, J, shM)) (r := none) cx dX7_mends_67 (c_X7_comesBack (I := q7.2) (J := J)  eq9) gc_RX7_357 qm_X7_comesBack rfl rfl qc_cl7 rfl (Nat.le_of_ble_eq_true rfl) (by decide) (by decide) rfl (Nat.le_of_ble_eq_true rfl) (Nat.le_of_ble_eq_true rfl) hn0 rfl ?_
              exact L70 k22 g22 (P_X7_mends_32 k22 f) ih q9 a1 a2 a3 hP
            · have hP := qc_ifF hP c8
              refine qj_iload_n cx dX7_mends_64 rfl rfl ?_
              exact qw_iret cx hz dX7_mends_65 (Nat.zero_le _) (Nat.zero_le _) (congrArg (fun q => q.1) (Option.some.inj hP)) (congrArg (fun q => q.2) (Option.some.inj hP)) rfl
          · have hP := qc_ifF hP c6
            refine qj_goto (tgt := 70) cx dX7_mends_53 (by decide) ?_
            exact L70 k22 g22 (P_X7_mends_32 k22 f) ih I a1 a2 a3 hP
  have L22 : ∀  (f : Nat) (I : (Nat → Nat → Int32)) (a1 : Int32) (a2 : Int32), P_X7_mends_22 f I a1 a2 = some q0 → qc_J F 0 0 22 [some (.ref 0), some (.int a1), some (.int a2), none] [] (I, J, shM) := by
    intro  f
    induction f with
    | zero => intro I a1 a2 hP; cases hP
    | succ f ih =>
      intro I a1 a2 hP
      rw [P_X7_mends_22] at hP
      refine qj_iload_n cx dX7_mends_22 rfl rfl ?_
      refine qj_aload_n cx dX7_mends_23 rfl rfl ?_
      obtain ⟨q10, eq10, hP⟩ := Option.bind_eq_some_iff.mp hP
      refine qj_callV (As := []) (st := [.int a2]) (t := 0) (h' := (I, J, shM)) (r := some (.int q10)) cx dX7_mends_24 (c_X7_users (I := I) (J := J)  eq10) gc_RX7_232 qm_X7_users rfl rfl qc_cl7 rfl (Nat.le_of_ble_eq_true rfl) (by decide) (by decide) rfl (Nat.le_of_ble_eq_true rfl) (Nat.le_of_ble_eq_true rfl) hn0 rfl ?_
      refine qj_icmp_gt (tgt := 82) cx dX7_mends_27 (by decide) (fun c11 => ?_) (fun c11 => ?_)
      · have hP := qc_ifT hP c11
        refine qj_bipush (v := (-2 : Int32)) cx dX7_mends_82 (by decide) ?_
        exact qw_iret cx hz dX7_mends_84 (Nat.zero_le _) (Nat.zero_le _) (congrArg (fun q => q.1) (Option.some.inj hP)) (congrArg (fun q => q.2) (Option.some.inj hP)) rfl
      · have hP := qc_ifF hP c11
        refine qj_iconst (v := (0 : Int32)) cx dX7_mends_30 (by decide) ?_
        refine qj_istore_n (ls1 := [some (.ref 0), some (.int a1), some (.int a2), some (.int (0 : Int32))]) cx dX7_mends_31 rfl rfl rfl rfl ?_
        exact L32 (P_X7_mends_22 f) ih qc_fu I a1 a2 (0 : Int32) hP
  show qc_J F 0 0 0 [some (.ref 0), none, none, none] [] (I, J, shM)
  unfold P_X7_mends at hP
  refine qj_aload_n cx dX7_mends_0 rfl rfl ?_
  obtain ⟨q12, eq12, hP⟩ := Option.bind_eq_some_iff.mp hP
  refine qj_callV (As := []) (st := []) (t := 0) (h' := (q12, J, shM)) (r := none) cx dX7_mends_1 (c_X7_goesAside (I := I) (J := J)  eq12) gc_RX7_348 qm_X7_goesAside rfl rfl qc_cl7 rfl (Nat.le_of_ble_eq_true rfl) (by decide) (by decide) rfl (Nat.le_of_ble_eq_true rfl) (Nat.le_of_ble_eq_true rfl) hn0 rfl ?_
  refine qj_iconst (v := (1 : Int32)) cx dX7_mends_4 (by decide) ?_
  refine qj_aload_n cx dX7_mends_5 rfl rfl ?_
  obtain ⟨q13, eq13, hP⟩ := Option.bind_eq_some_iff.mp hP
  refine qj_callV (As := []) (st := [.int (1 : Int32)]) (t := 0) (h' := (q12, J, shM)) (r := some (.int q13)) cx dX7_mends_6 (c_X7_users (I := q12) (J := J)  eq13) gc_RX7_232 qm_X7_users rfl rfl qc_cl7 rfl (Nat.le_of_ble_eq_true rfl) (by decide) (by decide) rfl (Nat.le_of_ble_eq_true rfl) (Nat.le_of_ble_eq_true rfl) hn0 rfl ?_
  refine qj_ishl cx dX7_mends_9 ?_
  refine qj_iconst (v := (1 : Int32)) cx dX7_mends_10 (by decide) ?_
  refine qj_isub cx dX7_mends_11 ?_
  refine qj_aload_n cx dX7_mends_12 rfl rfl ?_
  obtain ⟨q14, eq14, hP⟩ := Option.bind_eq_some_iff.mp hP
  refine qj_callV (As := []) (st := [.int (((1 : Int32) <<< (q13 &&& 31)) - (1 : Int32))]) (t := 0) (h' := (q12, J, shM)) (r := some (.int q14)) cx dX7_mends_13 (c_X7_withoutChannels (I := q12) (J := J)  eq14) gc_RX7_351 qm_X7_withoutChannels rfl rfl qc_cl7 rfl (Nat.le_of_ble_eq_true rfl) (by decide) (by decide) rfl (Nat.le_of_ble_eq_true rfl) (Nat.le_of_ble_eq_true rfl) hn0 rfl ?_
  refine qj_iconst (v := (-1 : Int32)) cx dX7_mends_16 (by decide) ?_
  refine qj_ixor cx dX7_mends_17 ?_
  refine qj_iand cx dX7_mends_18 ?_
  obtain ⟨x15, ex15, hP⟩ := qc_letE hP
  refine qw_top ex15 ?_
  refine qj_istore_n (ls1 := [some (.ref 0), some (.int x15), none, none]) cx dX7_mends_19 rfl rfl rfl rfl ?_
  refine qj_iconst (v := (0 : Int32)) cx dX7_mends_20 (by decide) ?_
  refine qj_istore_n (ls1 := [some (.ref 0), some (.int x15), some (.int (0 : Int32)), none]) cx dX7_mends_21 rfl rfl rfl rfl ?_
  exact L22 qc_fu q12 x15 (0 : Int32) hP
def P_X7_mend (I : Nat → Nat → Int32) : Option (Int32 × (Nat → Nat → Int32)) :=
  qc_let (qc_u2 I 0 0 (0 : Int32)) fun I1 =>
  (P_X7_mends I1).bind fun q2 =>
  if 0 < q2.1 then
  (P_X7_swapsIn q2.2).bind fun q4 =>
  some (q2.1, q4)
  else
  some (q2.1, q2.2)
set_option maxRecDepth 20000 in
theorem c_X7_mend {I : Nat → Nat → Int32} {J : Nat → Nat → Int64}   {q0 : Int32 × (Nat → Nat → Int32)} (hP : P_X7_mend I = some q0) : ∀ l, qc_M l yX7_mend cX7_mend 2 (some .int) 8 186 0 0 [.ref 0] (I, J, shM) (some (.int q0.1)) (q0.2, J, shM) := by
  intro l
  refine qc_ent2 (by decide) (Nat.le_of_ble_eq_true rfl) ?_
  intro F hn0 cx hz
  have cx : qc_X F cX7_mend RX7 "mend" 8 0 0 186 := cx
  show qc_J F 0 0 0 [some (.ref 0), none] [] (I, J, shM)
  unfold P_X7_mend at hP
  refine qj_aload_n cx dX7_mend_0 rfl rfl ?_
  refine qj_iconst (v := (0 : Int32)) cx dX7_mend_1 (by decide) ?_
  obtain ⟨I1, eI1, hP⟩ := qc_letE hP
  refine qw_putI (j := 0) cx dX7_mend_2 qc_cl7 rfl (Nat.le_of_ble_eq_true rfl) rfl ww_1092 rfl rfl rfl eI1 ?_
  refine qj_aload_n cx dX7_mend_5 rfl rfl ?_
  obtain ⟨q2, eq2, hP⟩ := Option.bind_eq_some_iff.mp hP
  refine qj_callV (As := []) (st := []) (t := 0) (h' := (q2.2, J, shM)) (r := some (.int q2.1)) cx dX7_mend_6 (c_X7_mends (I := I1) (J := J)  eq2) gc_RX7_363 qm_X7_mends rfl rfl qc_cl7 rfl (Nat.le_of_ble_eq_true rfl) (by decide) (by decide) rfl (Nat.le_of_ble_eq_true rfl) (Nat.le_of_ble_eq_true rfl) hn0 rfl ?_
  refine qj_istore_n (ls1 := [some (.ref 0), some (.int q2.1)]) cx dX7_mend_9 rfl rfl rfl rfl ?_
  refine qj_iload_n cx dX7_mend_10 rfl rfl ?_
  refine qj_if_gt (tgt := 16) cx dX7_mend_11 (by decide) (fun c3 => ?_) (fun c3 => ?_)
  · have hP := qc_ifT hP c3
    refine qj_aload_n cx dX7_mend_16 rfl rfl ?_
    obtain ⟨q4, eq4, hP⟩ := Option.bind_eq_some_iff.mp hP
    refine qj_callV (As := []) (st := []) (t := 0) (h' := (q4, J, shM)) (r := none) cx dX7_mend_17 (c_X7_swapsIn (I := q2.2) (J := J)  eq4) gc_RX7_360 qm_X7_swapsIn rfl rfl qc_cl7 rfl (Nat.le_of_ble_eq_true rfl) (by decide) (by decide) rfl (Nat.le_of_ble_eq_true rfl) (Nat.le_of_ble_eq_true rfl) hn0 rfl ?_
    refine qj_iload_n cx dX7_mend_20 rfl rfl ?_
    exact qw_iret cx hz dX7_mend_21 (Nat.zero_le _) (Nat.zero_le _) (congrArg (fun q => q.1) (Option.some.inj hP)) (congrArg (fun q => q.2) (Option.some.inj hP)) rfl
  · have hP := qc_ifF hP c3
    refine qj_iload_n cx dX7_mend_14 rfl rfl ?_
    exact qw_iret cx hz dX7_mend_15 (Nat.zero_le _) (Nat.zero_le _) (congrArg (fun q => q.1) (Option.some.inj hP)) (congrArg (fun q => q.2) (Option.some.inj hP)) rfl
def P_X7_mended (I : Nat → Nat → Int32) : Option (Int32 × (Nat → Nat → Int32)) :=
  qc_let (qc_u2 I 0 0 (0 : Int32)) fun I1 =>
  (P_X7_mends I1).bind fun q2 =>
  (P_X7_comesBack q2.2).bind fun q3 =>
  some (q2.1, q3)
set_option maxRecDepth 20000 in
theorem c_X7_mended {I : Nat → Nat → Int32} {J : Nat → Nat → Int64}   {q0 : Int32 × (Nat → Nat → Int32)} (hP : P_X7_mended I = some q0) : ∀ l, qc_M l yX7_mended cX7_mended 2 (some .int) 8 186 0 0 [.ref 0] (I, J, shM) (some (.int q0.1)) (q0.2, J, shM) := by
  intro l
  refine qc_ent2 (by decide) (Nat.le_of_ble_eq_true rfl) ?_
  intro F hn0 cx hz
  have cx : qc_X F cX7_mended RX7 "mended" 8 0 0 186 := cx
  show qc_J F 0 0 0 [some (.ref 0), none] [] (I, J, shM)
  unfold P_X7_mended at hP
  refine qj_aload_n cx dX7_mended_0 rfl rfl ?_
  refine qj_iconst (v := (0 : Int32)) cx dX7_mended_1 (by decide) ?_
  obtain ⟨I1, eI1, hP⟩ := qc_letE hP
  refine qw_putI (j := 0) cx dX7_mended_2 qc_cl7 rfl (Nat.le_of_ble_eq_true rfl) rfl ww_1092 rfl rfl rfl eI1 ?_
  refine qj_aload_n cx dX7_mended_5 rfl rfl ?_
  obtain ⟨q2, eq2, hP⟩ := Option.bind_eq_some_iff.mp hP
  refine qj_callV (As := []) (st := []) (t := 0) (h' := (q2.2, J, shM)) (r := some (.int q2.1)) cx dX7_mended_6 (c_X7_mends (I := I1) (J := J)  eq2) gc_RX7_363 qm_X7_mends rfl rfl qc_cl7 rfl (Nat.le_of_ble_eq_true rfl) (by decide) (by decide) rfl (Nat.le_of_ble_eq_true rfl) (Nat.le_of_ble_eq_true rfl) hn0 rfl ?_
  refine qj_istore_n (ls1 := [some (.ref 0), some (.int q2.1)]) cx dX7_mended_9 rfl rfl rfl rfl ?_
  refine qj_aload_n cx dX7_mended_10 rfl rfl ?_
  obtain ⟨q3, eq3, hP⟩ := Option.bind_eq_some_iff.mp hP
  refine qj_callV (As := []) (st := []) (t := 0) (h' := (q3, J, shM)) (r := none) cx dX7_mended_11 (c_X7_comesBack (I := q2.2) (J := J)  eq3) gc_RX7_357 qm_X7_comesBack rfl rfl qc_cl7 rfl (Nat.le_of_ble_eq_true rfl) (by decide) (by decide) rfl (Nat.le_of_ble_eq_true rfl) (Nat.le_of_ble_eq_true rfl) hn0 rfl ?_
  refine qj_iload_n cx dX7_mended_14 rfl rfl ?_
  exact qw_iret cx hz dX7_mended_15 (Nat.zero_le _) (Nat.zero_le _) (congrArg (fun q => q.1) (Option.some.inj hP)) (congrArg (fun q => q.2) (Option.some.inj hP)) rfl
def P_X7_planned (I : Nat → Nat → Int32) (a : Int32) : Option (Int32 × (Nat → Nat → Int32)) :=
  qc_let (qc_u2 I 0 0 (0 : Int32)) fun I1 =>
  (P_X7_isUser I1 a).bind fun q2 =>
  if q2 = 0 then
  some ((-1 : Int32), I1)
  else
  if qc_in ((0 : Int32) + a) 79 then
  if I1 13 ((0 : Int32) + a).toNatClampNeg ≤ 0 then
  (P_X7_goesAside I1).bind fun q6 =>
  (P_X7_withoutChannels q6).bind fun q7 =>
  (P_X7_searches q6 q7).bind fun q8 =>
  if qc_in ((0 : Int32) + a) 79 then
  qc_let (q8.2 13 ((0 : Int32) + a).toNatClampNeg) fun x10 =>
  (P_X7_comesBack q8.2).bind fun q11 =>
  (if 0 ≤ q8.1 then
  some x10
  else
  some q8.1).bind fun v13 =>
  some (v13, q11)
  else none
  else
  some ((-2 : Int32), I1)
  else none
set_option maxRecDepth 20000 in
theorem c_X7_planned {I : Nat → Nat → Int32} {J : Nat → Nat → Int64}  {a : Int32} {q0 : Int32 × (Nat → Nat → Int32)} (hP : P_X7_planned I a = some q0) : ∀ l, qc_M l yX7_planned cX7_planned 4 (some .int) 7 163 0 0 [.ref 0, .int a] (I, J, shM) (some (.int q0.1)) (q0.2, J, shM) := by
  intro l
  refine qc_ent2 (by decide) (Nat.le_of_ble_eq_true rfl) ?_
  intro F hn0 cx hz
  have cx : qc_X F cX7_planned RX7 "planned" 7 0 0 163 := cx
  show qc_J F 0 0 0 [some (.ref 0), some (.int a), none, none] [] (I, J, shM)
  unfold P_X7_planned at hP
  refine qj_aload_n cx dX7_planned_0 rfl rfl ?_
  refine qj_iconst (v := (0 : Int32)) cx dX7_planned_1 (by decide) ?_
  obtain ⟨I1, eI1, hP⟩ := qc_letE hP
  refine qw_putI (j := 0) cx dX7_planned_2 qc_cl7 rfl (Nat.le_of_ble_eq_true rfl) rfl ww_1092 rfl rfl rfl eI1 ?_
  refine qj_aload_n cx dX7_planned_5 rfl rfl ?_
  refine qj_iload_n cx dX7_planned_6 rfl rfl ?_
  obtain ⟨q2, eq2, hP⟩ := Option.bind_eq_some_iff.mp hP
  refine qj_callV (As := [.int a]) (st := []) (t := 0) (h' := (I1, J, shM)) (r := some (.int q2)) cx dX7_planned_7 (c_X7_isUser (I := I1) (J := J)  eq2) gc_RX7_259 qm_X7_isUser rfl rfl qc_cl7 rfl (Nat.le_of_ble_eq_true rfl) (by decide) (by decide) rfl (Nat.le_of_ble_eq_true rfl) (Nat.le_of_ble_eq_true rfl) hn0 rfl ?_
  refine qj_if_ne (tgt := 15) cx dX7_planned_10 (by decide) (fun c3 => ?_) (fun c3 => ?_)
  · have hP := qc_ifF hP c3
    refine qj_aload_n cx dX7_planned_15 rfl rfl ?_
    refine qw_getR (j := 25) (t1 := 13) cx dX7_planned_16 qc_cl7 rfl (Nat.le_of_ble_eq_true rfl) rfl ww_1117 rfl ?_
    refine qj_iconst (v := (0 : Int32)) cx dX7_planned_19 (by decide) ?_
    refine qj_iload_n cx dX7_planned_20 rfl rfl ?_
    refine qj_iadd cx dX7_planned_21 ?_
    obtain ⟨c4, hP⟩ := qc_ck hP
    refine qw_iald cx dX7_planned_22 rfl (Nat.le_of_ble_eq_true rfl) rfl c4 ?_
    refine qj_if_le (tgt := 29) cx dX7_planned_23 (by decide) (fun c5 => ?_) (fun c5 => ?_)
    · have hP := qc_ifT hP c5
      refine qj_aload_n cx dX7_planned_29 rfl rfl ?_
      obtain ⟨q6, eq6, hP⟩ := Option.bind_eq_some_iff.mp hP
      refine qj_callV (As := []) (st := []) (t := 0) (h' := (q6, J, shM)) (r := none) cx dX7_planned_30 (c_X7_goesAside (I := I1) (J := J)  eq6) gc_RX7_348 qm_X7_goesAside rfl rfl qc_cl7 rfl (Nat.le_of_ble_eq_true rfl) (by decide) (by decide) rfl (Nat.le_of_ble_eq_true rfl) (Nat.le_of_ble_eq_true rfl) hn0 rfl ?_
      refine qj_aload_n cx dX7_planned_33 rfl rfl ?_
      refine qj_aload_n cx dX7_planned_34 rfl rfl ?_
      obtain ⟨q7, eq7, hP⟩ := Option.bind_eq_some_iff.mp hP
      refine qj_callV (As := []) (st := [.ref 0]) (t := 0) (h' := (q6, J, shM)) (r := some (.int q7)) cx dX7_planned_35 (c_X7_withoutChannels (I := q6) (J := J)  eq7) gc_RX7_351 qm_X7_withoutChannels rfl rfl qc_cl7 rfl (Nat.le_of_ble_eq_true rfl) (by decide) (by decide) rfl (Nat.le_of_ble_eq_true rfl) (Nat.le_of_ble_eq_true rfl) hn0 rfl ?_
      obtain ⟨q8, eq8, hP⟩ := Option.bind_eq_some_iff.mp hP
      refine qj_callV (As := [.int q7]) (st := []) (t := 0) (h' := (q8.2, J, shM)) (r := some (.int q8.1)) cx dX7_planned_38 (c_X7_searches (I := q6) (J := J)  eq8) gc_RX7_354 qm_X7_searches rfl rfl qc_cl7 rfl (Nat.le_of_ble_eq_true rfl) (by decide) (by decide) rfl (Nat.le_of_ble_eq_true rfl) (Nat.le_of_ble_eq_true rfl) hn0 rfl ?_
      refine qj_istore_n (ls1 := [some (.ref 0), some (.int a), some (.int q8.1), none]) cx dX7_planned_41 rfl rfl rfl rfl ?_
      refine qj_aload_n cx dX7_planned_42 rfl rfl ?_
      refine qw_getR (j := 25) (t1 := 13) cx dX7_planned_43 qc_cl7 rfl (Nat.le_of_ble_eq_true rfl) rfl ww_1117 rfl ?_
      refine qj_iconst (v := (0 : Int32)) cx dX7_planned_46 (by decide) ?_
      refine qj_iload_n cx dX7_planned_47 rfl rfl ?_
      refine qj_iadd cx dX7_planned_48 ?_
      obtain ⟨c9, hP⟩ := qc_ck hP
      refine qw_iald cx dX7_planned_49 rfl (Nat.le_of_ble_eq_true rfl) rfl c9 ?_
      obtain ⟨x10, ex10, hP⟩ := qc_letE hP
      refine qw_top ex10 ?_
      refine qj_istore_n (ls1 := [some (.ref 0), some (.int a), some (.int q8.1), some (.int x10)]) cx dX7_planned_50 rfl rfl rfl rfl ?_
      refine qj_aload_n cx dX7_planned_51 rfl rfl ?_
      obtain ⟨q11, eq11, hP⟩ := Option.bind_eq_some_iff.mp hP
      refine qj_callV (As := []) (st := []) (t := 0) (h' := (q11, J, shM)) (r := none) cx dX7_planned_52 (c_X7_comesBack (I := q8.2) (J := J)  eq11) gc_RX7_357 qm_X7_comesBack rfl rfl qc_cl7 rfl (Nat.le_of_ble_eq_true rfl) (by decide) (by decide) rfl (Nat.le_of_ble_eq_true rfl) (Nat.le_of_ble_eq_true rfl) hn0 rfl ?_
      refine qj_iload_n cx dX7_planned_55 rfl rfl ?_
      obtain ⟨v13, hv13, hP⟩ := Option.bind_eq_some_iff.mp hP
      have Kv13 : qc_J F 0 0 64 [some (.ref 0), some (.int a), some (.int q8.1), some (.int x10)] [.int v13] (q11, J, shM) := by
        exact qw_iret cx hz dX7_planned_64 (Nat.zero_le _) (Nat.zero_le _) (congrArg (fun q => q.1) (Option.some.inj hP)) (congrArg (fun q => q.2) (Option.some.inj hP)) rfl
      refine qj_if_ge (tgt := 63) cx dX7_planned_56 (by decide) (fun c12 => ?_) (fun c12 => ?_)
      · have hv13 := qc_ifT hv13 c12
        refine qj_iload_n cx dX7_planned_63 rfl rfl ?_
        exact qw_top (Option.some.inj hv13).symm Kv13
      · have hv13 := qc_ifF hv13 c12
        refine qj_iload_n cx dX7_planned_59 rfl rfl ?_
        refine qj_goto (tgt := 64) cx dX7_planned_60 (by decide) ?_
        exact qw_top (Option.some.inj hv13).symm Kv13
    · have hP := qc_ifF hP c5
      refine qj_bipush (v := (-2 : Int32)) cx dX7_planned_26 (by decide) ?_
      exact qw_iret cx hz dX7_planned_28 (Nat.zero_le _) (Nat.zero_le _) (congrArg (fun q => q.1) (Option.some.inj hP)) (congrArg (fun q => q.2) (Option.some.inj hP)) rfl
  · have hP := qc_ifT hP c3
    refine qj_iconst (v := (-1 : Int32)) cx dX7_planned_13 (by decide) ?_
    exact qw_iret cx hz dX7_planned_14 (Nat.zero_le _) (Nat.zero_le _) (congrArg (fun q => q.1) (Option.some.inj hP)) (congrArg (fun q => q.2) (Option.some.inj hP)) rfl
def P_X7_leastBand_48 (k14 : (Nat → Nat → Int32) → Int32 → Int32 → Option (Int32 × (Nat → Nat → Int32))) (I : (Nat → Nat → Int32)) (a1 : Int32) (a2 : Int32) : Option (Int32 × (Nat → Nat → Int32)) :=
  qc_let (a2 + (1 : Int32)) fun x1 =>
  k14 I a1 x1
def P_X7_leastBand_14  : Nat → (Nat → Nat → Int32) → Int32 → Int32 → Option (Int32 × (Nat → Nat → Int32))
  | 0, _, _, _ => none
  | f + 1, I, a1, a2 =>
  if (60 : Int32) < a2 then
  (P_X7_comesBack I).bind fun q3 =>
  some (a1, q3)
  else
  if a1 = (-2 : Int32) then
  qc_let (qc_u2 I 0 30 a2) fun I6 =>
  (P_X7_users I6).bind fun q7 =>
  (P_X7_searches I6 (((1 : Int32) <<< (q7 &&& 31)) - (1 : Int32))).bind fun q8 =>
  if q8.1 < 0 then
  P_X7_leastBand_48 (P_X7_leastBand_14 f) q8.2 a1 a2
  else
  P_X7_leastBand_48 (P_X7_leastBand_14 f) q8.2 a2 a2
  else
  (P_X7_comesBack I).bind fun q5 =>
  some (a1, q5)
def P_X7_leastBand (I : Nat → Nat → Int32) : Option (Int32 × (Nat → Nat → Int32)) :=
  qc_let (qc_u2 I 0 0 (0 : Int32)) fun I10 =>
  (P_X7_goesAside I10).bind fun q11 =>
  P_X7_leastBand_14 qc_fu q11 (-2 : Int32) (4 : Int32)
set_option maxRecDepth 20000 in
theorem c_X7_leastBand {I : Nat → Nat → Int32} {J : Nat → Nat → Int64}   {q0 : Int32 × (Nat → Nat → Int32)} (hP : P_X7_leastBand I = some q0) : ∀ l, qc_M l yX7_leastBand cX7_leastBand 3 (some .int) 7 163 0 0 [.ref 0] (I, J, shM) (some (.int q0.1)) (q0.2, J, shM) := by
  intro l
  refine qc_ent2 (by decide) (Nat.le_of_ble_eq_true rfl) ?_
  intro F hn0 cx hz
  have cx : qc_X F cX7_leastBand RX7 "leastBand" 7 0 0 163 := cx
  have L48 : ∀ (k14 : (Nat → Nat → Int32) → Int32 → Int32 → Option (Int32 × (Nat → Nat → Int32))) (g14 : ∀ (I : Nat → Nat → Int32) (a1 : Int32) (a2 : Int32), k14 I a1 a2 = some q0 → qc_J F 0 0 14 [some (.ref 0), some (.int a1), some (.int a2)] [] (I, J, shM)) (I : (Nat → Nat → Int32)) (a1 : Int32) (a2 : Int32), P_X7_leastBand_48 k14 I a1 a2 = some q0 → qc_J F 0 0 48 [some (.ref 0), some (.int a1), some (.int a2)] [] (I, J, shM) := by
    intro k14 g14 I a1 a2 hP
    unfold P_X7_leastBand_48 at hP
    obtain ⟨x1, ex1, hP⟩ := qc_letE hP
    refine qj_iinc (v := x1) (ls1 := [some (.ref 0), some (.int a1), some (.int x1)]) cx dX7_leastBand_48 rfl (by rw [ex1]; rfl) rfl rfl ?_
    refine qj_goto (tgt := 14) cx dX7_leastBand_51 (by decide) ?_
    exact g14 I a1 x1 hP
  have L14 : ∀  (f : Nat) (I : (Nat → Nat → Int32)) (a1 : Int32) (a2 : Int32), P_X7_leastBand_14 f I a1 a2 = some q0 → qc_J F 0 0 14 [some (.ref 0), some (.int a1), some (.int a2)] [] (I, J, shM) := by
    intro  f
    induction f with
    | zero => intro I a1 a2 hP; cases hP
    | succ f ih =>
      intro I a1 a2 hP
      rw [P_X7_leastBand_14] at hP
      refine qj_iload_n cx dX7_leastBand_14 rfl rfl ?_
      refine qj_bipush (v := (60 : Int32)) cx dX7_leastBand_15 (by decide) ?_
      refine qj_icmp_gt (tgt := 54) cx dX7_leastBand_17 (by decide) (fun c2 => ?_) (fun c2 => ?_)
      · have hP := qc_ifT hP c2
        refine qj_aload_n cx dX7_leastBand_54 rfl rfl ?_
        obtain ⟨q3, eq3, hP⟩ := Option.bind_eq_some_iff.mp hP
        refine qj_callV (As := []) (st := []) (t := 0) (h' := (q3, J, shM)) (r := none) cx dX7_leastBand_55 (c_X7_comesBack (I := I) (J := J)  eq3) gc_RX7_357 qm_X7_comesBack rfl rfl qc_cl7 rfl (Nat.le_of_ble_eq_true rfl) (by decide) (by decide) rfl (Nat.le_of_ble_eq_true rfl) (Nat.le_of_ble_eq_true rfl) hn0 rfl ?_
        refine qj_iload_n cx dX7_leastBand_58 rfl rfl ?_
        exact qw_iret cx hz dX7_leastBand_59 (Nat.zero_le _) (Nat.zero_le _) (congrArg (fun q => q.1) (Option.some.inj hP)) (congrArg (fun q => q.2) (Option.some.inj hP)) rfl
      · have hP := qc_ifF hP c2
        refine qj_iload_n cx dX7_leastBand_20 rfl rfl ?_
        refine qj_bipush (v := (-2 : Int32)) cx dX7_leastBand_21 (by decide) ?_
        refine qj_icmp_ne (tgt := 54) cx dX7_leastBand_23 (by decide) (fun c4 => ?_) (fun c4 => ?_)
        · have hP := qc_ifF hP c4
          refine qj_aload_n cx dX7_leastBand_54 rfl rfl ?_
          obtain ⟨q5, eq5, hP⟩ := Option.bind_eq_some_iff.mp hP
          refine qj_callV (As := []) (st := []) (t := 0) (h' := (q5, J, shM)) (r := none) cx dX7_leastBand_55 (c_X7_comesBack (I := I) (J := J)  eq5) gc_RX7_357 qm_X7_comesBack rfl rfl qc_cl7 rfl (Nat.le_of_ble_eq_true rfl) (by decide) (by decide) rfl (Nat.le_of_ble_eq_true rfl) (Nat.le_of_ble_eq_true rfl) hn0 rfl ?_
          refine qj_iload_n cx dX7_leastBand_58 rfl rfl ?_
          exact qw_iret cx hz dX7_leastBand_59 (Nat.zero_le _) (Nat.zero_le _) (congrArg (fun q => q.1) (Option.some.inj hP)) (congrArg (fun q => q.2) (Option.some.inj hP)) rfl
        · have hP := qc_ifT hP c4
          refine qj_aload_n cx dX7_leastBand_26 rfl rfl ?_
          refine qj_iload_n cx dX7_leastBand_27 rfl rfl ?_
          obtain ⟨I6, eI6, hP⟩ := qc_letE hP
          refine qw_putI (j := 30) cx dX7_leastBand_28 qc_cl7 rfl (Nat.le_of_ble_eq_true rfl) rfl ww_1122 rfl rfl rfl eI6 ?_
          refine qj_aload_n cx dX7_leastBand_31 rfl rfl ?_
          refine qj_iconst (v := (1 : Int32)) cx dX7_leastBand_32 (by decide) ?_
          refine qj_aload_n cx dX7_leastBand_33 rfl rfl ?_
          obtain ⟨q7, eq7, hP⟩ := Option.bind_eq_some_iff.mp hP
          refine qj_callV (As := []) (st := [.int (1 : Int32), .ref 0]) (t := 0) (h' := (I6, J, shM)) (r := some (.int q7)) cx dX7_leastBand_34 (c_X7_users (I := I6) (J := J)  eq7) gc_RX7_232 qm_X7_users rfl rfl qc_cl7 rfl (Nat.le_of_ble_eq_true rfl) (by decide) (by decide) rfl (Nat.le_of_ble_eq_true rfl) (Nat.le_of_ble_eq_true rfl) hn0 rfl ?_
          refine qj_ishl cx dX7_leastBand_37 ?_
          refine qj_iconst (v := (1 : Int32)) cx dX7_leastBand_38 (by decide) ?_
          refine qj_isub cx dX7_leastBand_39 ?_
          obtain ⟨q8, eq8, hP⟩ := Option.bind_eq_some_iff.mp hP
          refine qj_callV (As := [.int (((1 : Int32) <<< (q7 &&& 31)) - (1 : Int32))]) (st := []) (t := 0) (h' := (q8.2, J, shM)) (r := some (.int q8.1)) cx dX7_leastBand_40 (c_X7_searches (I := I6) (J := J)  eq8) gc_RX7_354 qm_X7_searches rfl rfl qc_cl7 rfl (Nat.le_of_ble_eq_true rfl) (by decide) (by decide) rfl (Nat.le_of_ble_eq_true rfl) (Nat.le_of_ble_eq_true rfl) hn0 rfl ?_
          refine qj_if_lt (tgt := 48) cx dX7_leastBand_43 (by decide) (fun c9 => ?_) (fun c9 => ?_)
          · have hP := qc_ifT hP c9
            exact L48 (P_X7_leastBand_14 f) ih q8.2 a1 a2 hP
          · have hP := qc_ifF hP c9
            refine qj_iload_n cx dX7_leastBand_46 rfl rfl ?_
            refine qj_istore_n (ls1 := [some (.ref 0), some (.int a2), some (.int a2)]) cx dX7_leastBand_47 rfl rfl rfl rfl ?_
            exact L48 (P_X7_leastBand_14 f) ih q8.2 a2 a2 hP
  show qc_J F 0 0 0 [some (.ref 0), none, none] [] (I, J, shM)
  unfold P_X7_leastBand at hP
  refine qj_aload_n cx dX7_leastBand_0 rfl rfl ?_
  refine qj_iconst (v := (0 : Int32)) cx dX7_leastBand_1 (by decide) ?_
  obtain ⟨I10, eI10, hP⟩ := qc_letE hP
  refine qw_putI (j := 0) cx dX7_leastBand_2 qc_cl7 rfl (Nat.le_of_ble_eq_true rfl) rfl ww_1092 rfl rfl rfl eI10 ?_
  refine qj_aload_n cx dX7_leastBand_5 rfl rfl ?_
  obtain ⟨q11, eq11, hP⟩ := Option.bind_eq_some_iff.mp hP
  refine qj_callV (As := []) (st := []) (t := 0) (h' := (q11, J, shM)) (r := none) cx dX7_leastBand_6 (c_X7_goesAside (I := I10) (J := J)  eq11) gc_RX7_348 qm_X7_goesAside rfl rfl qc_cl7 rfl (Nat.le_of_ble_eq_true rfl) (by decide) (by decide) rfl (Nat.le_of_ble_eq_true rfl) (Nat.le_of_ble_eq_true rfl) hn0 rfl ?_
  refine qj_bipush (v := (-2 : Int32)) cx dX7_leastBand_9 (by decide) ?_
  refine qj_istore_n (ls1 := [some (.ref 0), some (.int (-2 : Int32)), none]) cx dX7_leastBand_11 rfl rfl rfl rfl ?_
  refine qj_iconst (v := (4 : Int32)) cx dX7_leastBand_12 (by decide) ?_
  refine qj_istore_n (ls1 := [some (.ref 0), some (.int (-2 : Int32)), some (.int (4 : Int32))]) cx dX7_leastBand_13 rfl rfl rfl rfl ?_
  exact L14 qc_fu q11 (-2 : Int32) (4 : Int32) hP
def P_X7_spare_61 (k23 : (Nat → Nat → Int32) → Int32 → Int32 → Int32 → Option (Int32 × (Nat → Nat → Int32))) (I : (Nat → Nat → Int32)) (a1 : Int32) (a2 : Int32) (a3 : Int32) : Option (Int32 × (Nat → Nat → Int32)) :=
  (P_X7_comesBack I).bind fun q1 =>
  qc_let (a3 + (1 : Int32)) fun x2 =>
  k23 q1 a1 a2 x2
def P_X7_spare_23  : Nat → (Nat → Nat → Int32) → Int32 → Int32 → Int32 → Option (Int32 × (Nat → Nat → Int32))
  | 0, _, _, _, _ => none
  | f + 1, I, a1, a2, a3 =>
  if I 0 30 < a3 then
  some (a2, I)
  else
  if qc_in ((0 : Int32) + a1) 79 then
  qc_let (qc_u2 I 13 ((0 : Int32) + a1).toNatClampNeg a3) fun I4 =>
  (P_X7_isClean I4).bind fun q5 =>
  if q5.1 = 0 then
  P_X7_spare_61 (P_X7_spare_23 f) q5.2 a1 a2 a3
  else
  (P_X7_withoutChannels q5.2).bind fun q7 =>
  (P_X7_searches q5.2 q7).bind fun q8 =>
  if q8.1 < 0 then
  P_X7_spare_61 (P_X7_spare_23 f) q8.2 a1 a2 a3
  else
  qc_let (a2 + (1 : Int32)) fun x10 =>
  P_X7_spare_61 (P_X7_spare_23 f) q8.2 a1 x10 a3
  else none
def P_X7_spare (I : Nat → Nat → Int32) (a : Int32) : Option (Int32 × (Nat → Nat → Int32)) :=
  qc_let (qc_u2 I 0 0 (0 : Int32)) fun I12 =>
  (P_X7_isUser I12 a).bind fun q13 =>
  if q13 = 0 then
  some ((-1 : Int32), I12)
  else
  (P_X7_goesAside I12).bind fun q15 =>
  P_X7_spare_23 qc_fu q15 a (0 : Int32) (1 : Int32)
set_option maxRecDepth 20000 in
theorem c_X7_spare {I : Nat → Nat → Int32} {J : Nat → Nat → Int64}  {a : Int32} {q0 : Int32 × (Nat → Nat → Int32)} (hP : P_X7_spare I a = some q0) : ∀ l, qc_M l yX7_spare cX7_spare 4 (some .int) 7 163 0 0 [.ref 0, .int a] (I, J, shM) (some (.int q0.1)) (q0.2, J, shM) := by
  intro l
  refine qc_ent2 (by decide) (Nat.le_of_ble_eq_true rfl) ?_
  intro F hn0 cx hz
  have cx : qc_X F cX7_spare RX7 "spare" 7 0 0 163 := cx
  have L61 : ∀ (k23 : (Nat → Nat → Int32) → Int32 → Int32 → Int32 → Option (Int32 × (Nat → Nat → Int32))) (g23 : ∀ (I : Nat → Nat → Int32) (a1 : Int32) (a2 : Int32) (a3 : Int32), k23 I a1 a2 a3 = some q0 → qc_J F 0 0 23 [some (.ref 0), some (.int a1), some (.int a2), some (.int a3)] [] (I, J, shM)) (I : (Nat → Nat → Int32)) (a1 : Int32) (a2 : Int32) (a3 : Int32), P_X7_spare_61 k23 I a1 a2 a3 = some q0 → qc_J F 0 0 61 [some (.ref 0), some (.int a1), some (.int a2), some (.int a3)] [] (I, J, shM) := by
    intro k23 g23 I a1 a2 a3 hP
    unfold P_X7_spare_61 at hP
    refine qj_aload_n cx dX7_spare_61 rfl rfl ?_
    obtain ⟨q1, eq1, hP⟩ := Option.bind_eq_some_iff.mp hP
    refine qj_callV (As := []) (st := []) (t := 0) (h' := (q1, J, shM)) (r := none) cx dX7_spare_62 (c_X7_comesBack (I := I) (J := J)  eq1) gc_RX7_357 qm_X7_comesBack rfl rfl qc_cl7 rfl (Nat.le_of_ble_eq_true rfl) (by decide) (by decide) rfl (Nat.le_of_ble_eq_true rfl) (Nat.le_of_ble_eq_true rfl) hn0 rfl ?_
    obtain ⟨x2, ex2, hP⟩ := qc_letE hP
    refine qj_iinc (v := x2) (ls1 := [some (.ref 0), some (.int a1), some (.int a2), some (.int x2)]) cx dX7_spare_65 rfl (by rw [ex2]; rfl) rfl rfl ?_
    refine qj_goto (tgt := 23) cx dX7_spare_68 (by decide) ?_
    exact g23 q1 a1 a2 x2 hP
  have L23 : ∀  (f : Nat) (I : (Nat → Nat → Int32)) (a1 : Int32) (a2 : Int32) (a3 : Int32), P_X7_spare_23 f I a1 a2 a3 = some q0 → qc_J F 0 0 23 [some (.ref 0), some (.int a1), some (.int a2), some (.int a3)] [] (I, J, shM) := by
    intro  f
    induction f with
    | zero => intro I a1 a2 a3 hP; cases hP
    | succ f ih =>
      intro I a1 a2 a3 hP
      rw [P_X7_spare_23] at hP
      refine qj_iload_n cx dX7_spare_23 rfl rfl ?_
      refine qj_aload_n cx dX7_spare_24 rfl rfl ?_
      refine qw_getI (j := 30) cx dX7_spare_25 qc_cl7 rfl (Nat.le_of_ble_eq_true rfl) rfl ww_1122 ?_
      refine qj_icmp_gt (tgt := 71) cx dX7_spare_28 (by decide) (fun c3 => ?_) (fun c3 => ?_)
      · have hP := qc_ifT hP c3
        refine qj_iload_n cx dX7_spare_71 rfl rfl ?_
        exact qw_iret cx hz dX7_spare_72 (Nat.zero_le _) (Nat.zero_le _) (congrArg (fun q => q.1) (Option.some.inj hP)) (congrArg (fun q => q.2) (Option.some.inj hP)) rfl
      · have hP := qc_ifF hP c3
        refine qj_aload_n cx dX7_spare_31 rfl rfl ?_
        refine qw_getR (j := 25) (t1 := 13) cx dX7_spare_32 qc_cl7 rfl (Nat.le_of_ble_eq_true rfl) rfl ww_1117 rfl ?_
        refine qj_iconst (v := (0 : Int32)) cx dX7_spare_35 (by decide) ?_
        refine qj_iload_n cx dX7_spare_36 rfl rfl ?_
        refine qj_iadd cx dX7_spare_37 ?_
        refine qj_iload_n cx dX7_spare_38 rfl rfl ?_
        obtain ⟨c11, hP⟩ := qc_ck hP
        obtain ⟨I4, eI4, hP⟩ := qc_letE hP
        refine qw_iast cx dX7_spare_39 rfl (Nat.le_of_ble_eq_true rfl) rfl c11 eI4 ?_
        refine qj_aload_n cx dX7_spare_40 rfl rfl ?_
        obtain ⟨q5, eq5, hP⟩ := Option.bind_eq_some_iff.mp hP
        refine qj_callV (As := []) (st := []) (t := 0) (h' := (q5.2, J, shM)) (r := some (.int q5.1)) cx dX7_spare_41 (c_X7_isClean (I := I4) (J := J)  eq5) gc_RX7_332 qm_X7_isClean rfl rfl qc_cl7 rfl (Nat.le_of_ble_eq_true rfl) (by decide) (by decide) rfl (Nat.le_of_ble_eq_true rfl) (Nat.le_of_ble_eq_true rfl) hn0 rfl ?_
        refine qj_if_eq (tgt := 61) cx dX7_spare_44 (by decide) (fun c6 => ?_) (fun c6 => ?_)
        · have hP := qc_ifT hP c6
          exact L61 (P_X7_spare_23 f) ih q5.2 a1 a2 a3 hP
        · have hP := qc_ifF hP c6
          refine qj_aload_n cx dX7_spare_47 rfl rfl ?_
          refine qj_aload_n cx dX7_spare_48 rfl rfl ?_
          obtain ⟨q7, eq7, hP⟩ := Option.bind_eq_some_iff.mp hP
          refine qj_callV (As := []) (st := [.ref 0]) (t := 0) (h' := (q5.2, J, shM)) (r := some (.int q7)) cx dX7_spare_49 (c_X7_withoutChannels (I := q5.2) (J := J)  eq7) gc_RX7_351 qm_X7_withoutChannels rfl rfl qc_cl7 rfl (Nat.le_of_ble_eq_true rfl) (by decide) (by decide) rfl (Nat.le_of_ble_eq_true rfl) (Nat.le_of_ble_eq_true rfl) hn0 rfl ?_
          obtain ⟨q8, eq8, hP⟩ := Option.bind_eq_some_iff.mp hP
          refine qj_callV (As := [.int q7]) (st := []) (t := 0) (h' := (q8.2, J, shM)) (r := some (.int q8.1)) cx dX7_spare_52 (c_X7_searches (I := q5.2) (J := J)  eq8) gc_RX7_354 qm_X7_searches rfl rfl qc_cl7 rfl (Nat.le_of_ble_eq_true rfl) (by decide) (by decide) rfl (Nat.le_of_ble_eq_true rfl) (Nat.le_of_ble_eq_true rfl) hn0 rfl ?_
          refine qj_if_lt (tgt := 61) cx dX7_spare_55 (by decide) (fun c9 => ?_) (fun c9 => ?_)
          · have hP := qc_ifT hP c9
            exact L61 (P_X7_spare_23 f) ih q8.2 a1 a2 a3 hP
          · have hP := qc_ifF hP c9
            obtain ⟨x10, ex10, hP⟩ := qc_letE hP
            refine qj_iinc (v := x10) (ls1 := [some (.ref 0), some (.int a1), some (.int x10), some (.int a3)]) cx dX7_spare_58 rfl (by rw [ex10]; rfl) rfl rfl ?_
            exact L61 (P_X7_spare_23 f) ih q8.2 a1 x10 a3 hP
  show qc_J F 0 0 0 [some (.ref 0), some (.int a), none, none] [] (I, J, shM)
  unfold P_X7_spare at hP
  refine qj_aload_n cx dX7_spare_0 rfl rfl ?_
  refine qj_iconst (v := (0 : Int32)) cx dX7_spare_1 (by decide) ?_
  obtain ⟨I12, eI12, hP⟩ := qc_letE hP
  refine qw_putI (j := 0) cx dX7_spare_2 qc_cl7 rfl (Nat.le_of_ble_eq_true rfl) rfl ww_1092 rfl rfl rfl eI12 ?_
  refine qj_aload_n cx dX7_spare_5 rfl rfl ?_
  refine qj_iload_n cx dX7_spare_6 rfl rfl ?_
  obtain ⟨q13, eq13, hP⟩ := Option.bind_eq_some_iff.mp hP
  refine qj_callV (As := [.int a]) (st := []) (t := 0) (h' := (I12, J, shM)) (r := some (.int q13)) cx dX7_spare_7 (c_X7_isUser (I := I12) (J := J)  eq13) gc_RX7_259 qm_X7_isUser rfl rfl qc_cl7 rfl (Nat.le_of_ble_eq_true rfl) (by decide) (by decide) rfl (Nat.le_of_ble_eq_true rfl) (Nat.le_of_ble_eq_true rfl) hn0 rfl ?_
  refine qj_if_ne (tgt := 15) cx dX7_spare_10 (by decide) (fun c14 => ?_) (fun c14 => ?_)
  · have hP := qc_ifF hP c14
    refine qj_aload_n cx dX7_spare_15 rfl rfl ?_
    obtain ⟨q15, eq15, hP⟩ := Option.bind_eq_some_iff.mp hP
    refine qj_callV (As := []) (st := []) (t := 0) (h' := (q15, J, shM)) (r := none) cx dX7_spare_16 (c_X7_goesAside (I := I12) (J := J)  eq15) gc_RX7_348 qm_X7_goesAside rfl rfl qc_cl7 rfl (Nat.le_of_ble_eq_true rfl) (by decide) (by decide) rfl (Nat.le_of_ble_eq_true rfl) (Nat.le_of_ble_eq_true rfl) hn0 rfl ?_
    refine qj_iconst (v := (0 : Int32)) cx dX7_spare_19 (by decide) ?_
    refine qj_istore_n (ls1 := [some (.ref 0), some (.int a), some (.int (0 : Int32)), none]) cx dX7_spare_20 rfl rfl rfl rfl ?_
    refine qj_iconst (v := (1 : Int32)) cx dX7_spare_21 (by decide) ?_
    refine qj_istore_n (ls1 := [some (.ref 0), some (.int a), some (.int (0 : Int32)), some (.int (1 : Int32))]) cx dX7_spare_22 rfl rfl rfl rfl ?_
    exact L23 qc_fu q15 a (0 : Int32) (1 : Int32) hP
  · have hP := qc_ifT hP c14
    refine qj_iconst (v := (-1 : Int32)) cx dX7_spare_13 (by decide) ?_
    exact qw_iret cx hz dX7_spare_14 (Nat.zero_le _) (Nat.zero_le _) (congrArg (fun q => q.1) (Option.some.inj hP)) (congrArg (fun q => q.2) (Option.some.inj hP)) rfl
def P_X7_chance_220  : Nat → (Nat → Nat → Int32) → Int32 → Int32 → Option (Int32 × (Nat → Nat → Int32))
  | 0, _, _, _ => none
  | f + 1, I, a5, a6 =>
  if (79 : Int32) ≤ a6 then
  some (a5, I)
  else
  if qc_in a6 79 then
  if qc_in a6 79 then
  qc_let (qc_u2 I 13 a6.toNatClampNeg (I 24 a6.toNatClampNeg)) fun I3 =>
  qc_let (a6 + (1 : Int32)) fun x4 =>
  P_X7_chance_220 f I3 a5 x4
  else none
  else none
def P_X7_chance_215  (I : (Nat → Nat → Int32)) (t0 : Int32) : Option (Int32 × (Nat → Nat → Int32)) :=
  P_X7_chance_220 qc_fu I t0 (0 : Int32)
def P_X7_chance_170 (k88 : (Nat → Nat → Int32) → Int32 → Int32 → Int32 → Int32 → Option (Int32 × (Nat → Nat → Int32))) (k120 : (Nat → Nat → Int32) → Int32 → Int32 → Int32 → Int32 → Int32 → Int32 → Option (Int32 × (Nat → Nat → Int32))) (I : (Nat → Nat → Int32)) (a2 : Int32) (a3 : Int32) (a4 : Int32) (a5 : Int32) (a6 : Int32) (a7 : Int32) : Option (Int32 × (Nat → Nat → Int32)) :=
  qc_let (a7 + (1 : Int32)) fun x6 =>
  k120 I a2 a3 a4 a5 a6 x6
def P_X7_chance_120 (k88 : (Nat → Nat → Int32) → Int32 → Int32 → Int32 → Int32 → Option (Int32 × (Nat → Nat → Int32))) : Nat → (Nat → Nat → Int32) → Int32 → Int32 → Int32 → Int32 → Int32 → Int32 → Option (Int32 × (Nat → Nat → Int32))
  | 0, _, _, _, _, _, _, _ => none
  | f + 1, I, a2, a3, a4, a5, a6, a7 =>
  (P_X7_users I).bind fun q7 =>
  if q7 ≤ a7 then
  qc_let (a5 + (1 : Int32)) fun x9 =>
  k88 I a2 a3 a4 x9
  else
  if qc_in ((0 : Int32) + a7) 79 then
  if I 13 ((0 : Int32) + a7).toNatClampNeg = a6 then
  qc_let (a4 + (1 : Int32)) fun x12 =>
  (P_X7_searches I ((1 : Int32) <<< (a7 &&& 31))).bind fun q13 =>
  if 0 ≤ q13.1 then
  P_X7_chance_170 k88 (P_X7_chance_120 k88 f) q13.2 a2 a3 x12 a5 a6 a7
  else
  if qc_in ((0 : Int32) + a7) 79 then
  qc_let (qc_u2 q13.2 13 ((0 : Int32) + a7).toNatClampNeg (0 : Int32)) fun I15 =>
  P_X7_chance_170 k88 (P_X7_chance_120 k88 f) I15 a2 a3 x12 a5 a6 a7
  else none
  else
  P_X7_chance_170 k88 (P_X7_chance_120 k88 f) I a2 a3 a4 a5 a6 a7
  else none
def P_X7_chance_88  : Nat → (Nat → Nat → Int32) → Int32 → Int32 → Int32 → Int32 → Option (Int32 × (Nat → Nat → Int32))
  | 0, _, _, _, _, _ => none
  | f + 1, I, a2, a3, a4, a5 =>
  if a2 ≤ a5 then
  (if a3 = 0 then
  (P_X7_tuned I).bind fun q23 =>
  P_X7_chance_215 I q23
  else
  if a3 = (1 : Int32) then
  P_X7_chance_215 I a4
  else
  (P_X7_isClean I).bind fun q20 =>
  (if q20.1 = 0 then
  some (0 : Int32)
  else
  some (1 : Int32)).bind fun v22 =>
  P_X7_chance_215 q20.2 v22)
  else
  (P_X7_draw I (I 0 30)).bind fun q24 =>
  qc_let (q24.1 + (1 : Int32)) fun x25 =>
  if qc_in ((12 : Int32) + x25) 79 then
  qc_let (qc_u2 q24.2 13 ((12 : Int32) + x25).toNatClampNeg (1 : Int32)) fun I26 =>
  P_X7_chance_120 (P_X7_chance_88 f) qc_fu I26 a2 a3 a4 a5 x25 (0 : Int32)
  else none
def P_X7_chance_55  : Nat → (Nat → Nat → Int32) → Int32 → Int32 → Int32 → Option (Int32 × (Nat → Nat → Int32))
  | 0, _, _, _, _ => none
  | f + 1, I, a2, a3, a4 =>
  if (79 : Int32) ≤ a4 then
  P_X7_chance_88 qc_fu I a2 a3 (0 : Int32) (0 : Int32)
  else
  if qc_in a4 79 then
  if qc_in a4 79 then
  qc_let (qc_u2 I 24 a4.toNatClampNeg (I 13 a4.toNatClampNeg)) fun I30 =>
  qc_let (a4 + (1 : Int32)) fun x31 =>
  P_X7_chance_55 f I30 a2 a3 x31
  else none
  else none
def P_X7_chance (I : Nat → Nat → Int32) (a : Int32) (b : Int32) (c : Int32) : Option (Int32 × (Nat → Nat → Int32)) :=
  qc_let (qc_u2 I 0 0 (0 : Int32)) fun I33 =>
  if a < (-1 : Int32) then
  some ((-1 : Int32), I33)
  else
  if b < (1 : Int32) then
  some ((-1 : Int32), I33)
  else
  if (20 : Int32) < b then
  some ((-1 : Int32), I33)
  else
  if c < 0 then
  some ((-1 : Int32), I33)
  else
  if c ≤ (2 : Int32) then
  (if a = (-1 : Int32) then
  some (I33 2 9)
  else
  some a).bind fun v40 =>
  qc_let (qc_u2 I33 0 44 v40) fun I41 =>
  P_X7_chance_55 qc_fu I41 b c (0 : Int32)
  else
  some ((-1 : Int32), I33)
set_option maxRecDepth 20000 in
theorem c_X7_chance {I : Nat → Nat → Int32} {J : Nat → Nat → Int64}  {a : Int32} {b : Int32} {c : Int32} {q0 : Int32 × (Nat → Nat → Int32)} (hP : P_X7_chance I a b c = some q0) : ∀ l, qc_M l yX7_chance cX7_chance 8 (some .int) 7 163 0 0 [.ref 0, .int a, .int b, .int c] (I, J, shM) (some (.int q0.1)) (q0.2, J, shM) := by
  intro l
  refine qc_ent2 (by decide) (Nat.le_of_ble_eq_true rfl) ?_
  intro F hn0 cx hz
  have cx : qc_X F cX7_chance RX7 "chance" 7 0 0 163 := cx
  have L220 : ∀  (f : Nat) (I : (Nat → Nat → Int32)) (a5 : Int32) (a6 : Int32), P_X7_chance_220 f I a5 a6 = some q0 → qc_J F 0 0 220 [some (.ref 0), none, none, none, none, some (.int a5), some (.int a6), none] [] (I, J, shM) := by
    intro  f
    induction f with
    | zero => intro I a5 a6 hP; cases hP
    | succ f ih =>
      intro I a5 a6 hP
      rw [P_X7_chance_220] at hP
      refine qj_iload cx dX7_chance_220 rfl ?_
      refine qj_bipush (v := (79 : Int32)) cx dX7_chance_222 (by decide) ?_
      refine qj_icmp_ge (tgt := 247) cx dX7_chance_224 (by decide) (fun c1 => ?_) (fun c1 => ?_)
      · have hP := qc_ifT hP c1
        refine qj_iload cx dX7_chance_247 rfl ?_
        exact qw_iret cx hz dX7_chance_249 (Nat.zero_le _) (Nat.zero_le _) (congrArg (fun q => q.1) (Option.some.inj hP)) (congrArg (fun q => q.2) (Option.some.inj hP)) rfl
      · have hP := qc_ifF hP c1
        refine qj_aload_n cx dX7_chance_227 rfl rfl ?_
        refine qw_getR (j := 25) (t1 := 13) cx dX7_chance_228 qc_cl7 rfl (Nat.le_of_ble_eq_true rfl) rfl ww_1117 rfl ?_
        refine qj_iload cx dX7_chance_231 rfl ?_
        refine qj_aload_n cx dX7_chance_233 rfl rfl ?_
        refine qw_getR (j := 45) (t1 := 24) cx dX7_chance_234 qc_cl7 rfl (Nat.le_of_ble_eq_true rfl) rfl ww_1137 rfl ?_
        refine qj_iload cx dX7_chance_237 rfl ?_
        obtain ⟨c2, hP⟩ := qc_ck hP
        refine qw_iald cx dX7_chance_239 rfl (Nat.le_of_ble_eq_true rfl) rfl c2 ?_
        obtain ⟨c5, hP⟩ := qc_ck hP
        obtain ⟨I3, eI3, hP⟩ := qc_letE hP
        refine qw_iast cx dX7_chance_240 rfl (Nat.le_of_ble_eq_true rfl) rfl c5 eI3 ?_
        obtain ⟨x4, ex4, hP⟩ := qc_letE hP
        refine qj_iinc (v := x4) (ls1 := [some (.ref 0), none, none, none, none, some (.int a5), some (.int x4), none]) cx dX7_chance_241 rfl (by rw [ex4]; rfl) rfl rfl ?_
        refine qj_goto (tgt := 220) cx dX7_chance_244 (by decide) ?_
        exact ih I3 a5 x4 hP
  have L215 : ∀  (I : (Nat → Nat → Int32)) (t0 : Int32), P_X7_chance_215 I t0 = some q0 → qc_J F 0 0 215 [some (.ref 0), none, none, none, none, none, none, none] [.int t0] (I, J, shM) := by
    intro I t0 hP
    unfold P_X7_chance_215 at hP
    refine qj_istore (ls1 := [some (.ref 0), none, none, none, none, some (.int t0), none, none]) cx dX7_chance_215 rfl rfl rfl ?_
    refine qj_iconst (v := (0 : Int32)) cx dX7_chance_217 (by decide) ?_
    refine qj_istore (ls1 := [some (.ref 0), none, none, none, none, some (.int t0), some (.int (0 : Int32)), none]) cx dX7_chance_218 rfl rfl rfl ?_
    exact L220 qc_fu I t0 (0 : Int32) hP
  have L170 : ∀ (k88 : (Nat → Nat → Int32) → Int32 → Int32 → Int32 → Int32 → Option (Int32 × (Nat → Nat → Int32))) (g88 : ∀ (I : Nat → Nat → Int32) (a2 : Int32) (a3 : Int32) (a4 : Int32) (a5 : Int32), k88 I a2 a3 a4 a5 = some q0 → qc_J F 0 0 88 [some (.ref 0), none, some (.int a2), some (.int a3), some (.int a4), some (.int a5), none, none] [] (I, J, shM)) (k120 : (Nat → Nat → Int32) → Int32 → Int32 → Int32 → Int32 → Int32 → Int32 → Option (Int32 × (Nat → Nat → Int32))) (g120 : ∀ (I : Nat → Nat → Int32) (a2 : Int32) (a3 : Int32) (a4 : Int32) (a5 : Int32) (a6 : Int32) (a7 : Int32), k120 I a2 a3 a4 a5 a6 a7 = some q0 → qc_J F 0 0 120 [some (.ref 0), none, some (.int a2), some (.int a3), some (.int a4), some (.int a5), some (.int a6), some (.int a7)] [] (I, J, shM)) (I : (Nat → Nat → Int32)) (a2 : Int32) (a3 : Int32) (a4 : Int32) (a5 : Int32) (a6 : Int32) (a7 : Int32), P_X7_chance_170 k88 k120 I a2 a3 a4 a5 a6 a7 = some q0 → qc_J F 0 0 170 [some (.ref 0), none, some (.int a2), some (.int a3), some (.int a4), some (.int a5), some (.int a6), some (.int a7)] [] (I, J, shM) := by
    intro k88 g88 k120 g120 I a2 a3 a4 a5 a6 a7 hP
    unfold P_X7_chance_170 at hP
    obtain ⟨x6, ex6, hP⟩ := qc_letE hP
    refine qj_iinc (v := x6) (ls1 := [some (.ref 0), none, some (.int a2), some (.int a3), some (.int a4), some (.int a5), some (.int a6), some (.int x6)]) cx dX7_chance_170 rfl (by rw [ex6]; rfl) rfl rfl ?_
    refine qj_goto (tgt := 120) cx dX7_chance_173 (by decide) ?_
    exact g120 I a2 a3 a4 a5 a6 x6 hP
  have L120 : ∀ (k88 : (Nat → Nat → Int32) → Int32 → Int32 → Int32 → Int32 → Option (Int32 × (Nat → Nat → Int32))) (g88 : ∀ (I : Nat → Nat → Int32) (a2 : Int32) (a3 : Int32) (a4 : Int32) (a5 : Int32), k88 I a2 a3 a4 a5 = some q0 → qc_J F 0 0 88 [some (.ref 0), none, some (.int a2), some (.int a3), some (.int a4), some (.int a5), none, none] [] (I, J, shM)) (f : Nat) (I : (Nat → Nat → Int32)) (a2 : Int32) (a3 : Int32) (a4 : Int32) (a5 : Int32) (a6 : Int32) (a7 : Int32), P_X7_chance_120 k88 f I a2 a3 a4 a5 a6 a7 = some q0 → qc_J F 0 0 120 [some (.ref 0), none, some (.int a2), some (.int a3), some (.int a4), some (.int a5), some (.int a6), some (.int a7)] [] (I, J, shM) := by
    intro k88 g88 f
    induction f with
    | zero => intro I a2 a3 a4 a5 a6 a7 hP; cases hP
    | succ f ih =>
      intro I a2 a3 a4 a5 a6 a7 hP
      rw [P_X7_chance_120] at hP
      refine qj_iload cx dX7_chance_120 rfl ?_
      refine qj_aload_n cx dX7_chance_122 rfl rfl ?_
      obtain ⟨q7, eq7, hP⟩ := Option.bind_eq_some_iff.mp hP
      refine qj_callV (As := []) (st := [.int a7]) (t := 0) (h' := (I, J, shM)) (r := some (.int q7)) cx dX7_chance_123 (c_X7_users (I := I) (J := J)  eq7) gc_RX7_232 qm_X7_users rfl rfl qc_cl7 rfl (Nat.le_of_ble_eq_true rfl) (by decide) (by decide) rfl (Nat.le_of_ble_eq_true rfl) (Nat.le_of_ble_eq_true rfl) hn0 rfl ?_
      refine qj_icmp_ge (tgt := 176) cx dX7_chance_126 (by decide) (fun c8 => ?_) (fun c8 => ?_)
      · have hP := qc_ifT hP c8
        obtain ⟨x9, ex9, hP⟩ := qc_letE hP
        refine qj_iinc (v := x9) (ls1 := [some (.ref 0), none, some (.int a2), some (.int a3), some (.int a4), some (.int x9), some (.int a6), some (.int a7)]) cx dX7_chance_176 rfl (by rw [ex9]; rfl) rfl rfl ?_
        refine qj_goto (tgt := 88) cx dX7_chance_179 (by decide) ?_
        refine qw_sub (ls1 := [some (.ref 0), none, some (.int a2), some (.int a3), some (.int a4), some (.int x9), none, none]) rfl (qc_sb_ok ⟨rfl, rfl, rfl, rfl, rfl, trivial⟩) ?_
        exact g88 I a2 a3 a4 x9 hP
      · have hP := qc_ifF hP c8
        refine qj_aload_n cx dX7_chance_129 rfl rfl ?_
        refine qw_getR (j := 25) (t1 := 13) cx dX7_chance_130 qc_cl7 rfl (Nat.le_of_ble_eq_true rfl) rfl ww_1117 rfl ?_
        refine qj_iconst (v := (0 : Int32)) cx dX7_chance_133 (by decide) ?_
        refine qj_iload cx dX7_chance_134 rfl ?_
        refine qj_iadd cx dX7_chance_136 ?_
        obtain ⟨c10, hP⟩ := qc_ck hP
        refine qw_iald cx dX7_chance_137 rfl (Nat.le_of_ble_eq_true rfl) rfl c10 ?_
        refine qj_iload cx dX7_chance_138 rfl ?_
        refine qj_icmp_eq (tgt := 146) cx dX7_chance_140 (by decide) (fun c11 => ?_) (fun c11 => ?_)
        · have hP := qc_ifT hP c11
          obtain ⟨x12, ex12, hP⟩ := qc_letE hP
          refine qj_iinc (v := x12) (ls1 := [some (.ref 0), none, some (.int a2), some (.int a3), some (.int x12), some (.int a5), some (.int a6), some (.int a7)]) cx dX7_chance_146 rfl (by rw [ex12]; rfl) rfl rfl ?_
          refine qj_aload_n cx dX7_chance_149 rfl rfl ?_
          refine qj_iconst (v := (1 : Int32)) cx dX7_chance_150 (by decide) ?_
          refine qj_iload cx dX7_chance_151 rfl ?_
          refine qj_ishl cx dX7_chance_153 ?_
          obtain ⟨q13, eq13, hP⟩ := Option.bind_eq_some_iff.mp hP
          refine qj_callV (As := [.int ((1 : Int32) <<< (a7 &&& 31))]) (st := []) (t := 0) (h' := (q13.2, J, shM)) (r := some (.int q13.1)) cx dX7_chance_154 (c_X7_searches (I := I) (J := J)  eq13) gc_RX7_354 qm_X7_searches rfl rfl qc_cl7 rfl (Nat.le_of_ble_eq_true rfl) (by decide) (by decide) rfl (Nat.le_of_ble_eq_true rfl) (Nat.le_of_ble_eq_true rfl) hn0 rfl ?_
          refine qj_if_ge (tgt := 170) cx dX7_chance_157 (by decide) (fun c14 => ?_) (fun c14 => ?_)
          · have hP := qc_ifT hP c14
            exact L170 k88 g88 (P_X7_chance_120 k88 f) ih q13.2 a2 a3 x12 a5 a6 a7 hP
          · have hP := qc_ifF hP c14
            refine qj_aload_n cx dX7_chance_160 rfl rfl ?_
            refine qw_getR (j := 25) (t1 := 13) cx dX7_chance_161 qc_cl7 rfl (Nat.le_of_ble_eq_true rfl) rfl ww_1117 rfl ?_
            refine qj_iconst (v := (0 : Int32)) cx dX7_chance_164 (by decide) ?_
            refine qj_iload cx dX7_chance_165 rfl ?_
            refine qj_iadd cx dX7_chance_167 ?_
            refine qj_iconst (v := (0 : Int32)) cx dX7_chance_168 (by decide) ?_
            obtain ⟨c16, hP⟩ := qc_ck hP
            obtain ⟨I15, eI15, hP⟩ := qc_letE hP
            refine qw_iast cx dX7_chance_169 rfl (Nat.le_of_ble_eq_true rfl) rfl c16 eI15 ?_
            exact L170 k88 g88 (P_X7_chance_120 k88 f) ih I15 a2 a3 x12 a5 a6 a7 hP
        · have hP := qc_ifF hP c11
          refine qj_goto (tgt := 170) cx dX7_chance_143 (by decide) ?_
          exact L170 k88 g88 (P_X7_chance_120 k88 f) ih I a2 a3 a4 a5 a6 a7 hP
  have L88 : ∀  (f : Nat) (I : (Nat → Nat → Int32)) (a2 : Int32) (a3 : Int32) (a4 : Int32) (a5 : Int32), P_X7_chance_88 f I a2 a3 a4 a5 = some q0 → qc_J F 0 0 88 [some (.ref 0), none, some (.int a2), some (.int a3), some (.int a4), some (.int a5), none, none] [] (I, J, shM) := by
    intro  f
    induction f with
    | zero => intro I a2 a3 a4 a5 hP; cases hP
    | succ f ih =>
      intro I a2 a3 a4 a5 hP
      rw [P_X7_chance_88] at hP
      refine qj_iload cx dX7_chance_88 rfl ?_
      refine qj_iload_n cx dX7_chance_90 rfl rfl ?_
      refine qj_icmp_ge (tgt := 182) cx dX7_chance_91 (by decide) (fun c17 => ?_) (fun c17 => ?_)
      · have hP := qc_ifT hP c17
        refine qj_iload_n cx dX7_chance_182 rfl rfl ?_
        refine qj_if_ne (tgt := 193) cx dX7_chance_183 (by decide) (fun c18 => ?_) (fun c18 => ?_)
        · have hP := qc_ifF hP c18
          refine qj_iload_n cx dX7_chance_193 rfl rfl ?_
          refine qj_iconst (v := (1 : Int32)) cx dX7_chance_194 (by decide) ?_
          refine qj_icmp_ne (tgt := 203) cx dX7_chance_195 (by decide) (fun c19 => ?_) (fun c19 => ?_)
          · have hP := qc_ifF hP c19
            refine qj_aload_n cx dX7_chance_203 rfl rfl ?_
            obtain ⟨q20, eq20, hP⟩ := Option.bind_eq_some_iff.mp hP
            refine qj_callV (As := []) (st := []) (t := 0) (h' := (q20.2, J, shM)) (r := some (.int q20.1)) cx dX7_chance_204 (c_X7_isClean (I := I) (J := J)  eq20) gc_RX7_332 qm_X7_isClean rfl rfl qc_cl7 rfl (Nat.le_of_ble_eq_true rfl) (by decide) (by decide) rfl (Nat.le_of_ble_eq_true rfl) (Nat.le_of_ble_eq_true rfl) hn0 rfl ?_
            obtain ⟨v22, hv22, hP⟩ := Option.bind_eq_some_iff.mp hP
            have Kv22 : qc_J F 0 0 215 [some (.ref 0), none, some (.int a2), some (.int a3), some (.int a4), some (.int a5), none, none] [.int v22] (q20.2, J, shM) := by
              refine qw_sub (ls1 := [some (.ref 0), none, none, none, none, none, none, none]) rfl (qc_sb_ok ⟨rfl, trivial⟩) ?_
              exact L215 q20.2 v22 hP
            refine qj_if_eq (tgt := 214) cx dX7_chance_207 (by decide) (fun c21 => ?_) (fun c21 => ?_)
            · have hv22 := qc_ifT hv22 c21
              refine qj_iconst (v := (0 : Int32)) cx dX7_chance_214 (by decide) ?_
              exact qw_top (Option.some.inj hv22).symm Kv22
            · have hv22 := qc_ifF hv22 c21
              refine qj_iconst (v := (1 : Int32)) cx dX7_chance_210 (by decide) ?_
              refine qj_goto (tgt := 215) cx dX7_chance_211 (by decide) ?_
              exact qw_top (Option.some.inj hv22).symm Kv22
          · have hP := qc_ifT hP c19
            refine qj_iload cx dX7_chance_198 rfl ?_
            refine qj_goto (tgt := 215) cx dX7_chance_200 (by decide) ?_
            refine qw_sub (ls1 := [some (.ref 0), none, none, none, none, none, none, none]) rfl (qc_sb_ok ⟨rfl, trivial⟩) ?_
            exact L215 I a4 hP
        · have hP := qc_ifT hP c18
          refine qj_aload_n cx dX7_chance_186 rfl rfl ?_
          obtain ⟨q23, eq23, hP⟩ := Option.bind_eq_some_iff.mp hP
          refine qj_callV (As := []) (st := []) (t := 0) (h' := (I, J, shM)) (r := some (.int q23)) cx dX7_chance_187 (c_X7_tuned (I := I) (J := J)  eq23) gc_RX7_256 qm_X7_tuned rfl rfl qc_cl7 rfl (Nat.le_of_ble_eq_true rfl) (by decide) (by decide) rfl (Nat.le_of_ble_eq_true rfl) (Nat.le_of_ble_eq_true rfl) hn0 rfl ?_
          refine qj_goto (tgt := 215) cx dX7_chance_190 (by decide) ?_
          refine qw_sub (ls1 := [some (.ref 0), none, none, none, none, none, none, none]) rfl (qc_sb_ok ⟨rfl, trivial⟩) ?_
          exact L215 I q23 hP
      · have hP := qc_ifF hP c17
        refine qj_aload_n cx dX7_chance_94 rfl rfl ?_
        refine qj_aload_n cx dX7_chance_95 rfl rfl ?_
        refine qw_getI (j := 30) cx dX7_chance_96 qc_cl7 rfl (Nat.le_of_ble_eq_true rfl) rfl ww_1122 ?_
        obtain ⟨q24, eq24, hP⟩ := Option.bind_eq_some_iff.mp hP
        refine qj_callV (As := [.int (I 0 30)]) (st := []) (t := 0) (h' := (q24.2, J, shM)) (r := some (.int q24.1)) cx dX7_chance_99 (c_X7_draw (I := I) (J := J)  eq24) gc_RX7_413 qm_X7_draw rfl rfl qc_cl7 rfl (Nat.le_of_ble_eq_true rfl) (by decide) (by decide) rfl (Nat.le_of_ble_eq_true rfl) (Nat.le_of_ble_eq_true rfl) hn0 rfl ?_
        refine qj_iconst (v := (1 : Int32)) cx dX7_chance_102 (by decide) ?_
        refine qj_iadd cx dX7_chance_103 ?_
        obtain ⟨x25, ex25, hP⟩ := qc_letE hP
        refine qw_top ex25 ?_
        refine qj_istore (ls1 := [some (.ref 0), none, some (.int a2), some (.int a3), some (.int a4), some (.int a5), some (.int x25), none]) cx dX7_chance_104 rfl rfl rfl ?_
        refine qj_aload_n cx dX7_chance_106 rfl rfl ?_
        refine qw_getR (j := 25) (t1 := 13) cx dX7_chance_107 qc_cl7 rfl (Nat.le_of_ble_eq_true rfl) rfl ww_1117 rfl ?_
        refine qj_bipush (v := (12 : Int32)) cx dX7_chance_110 (by decide) ?_
        refine qj_iload cx dX7_chance_112 rfl ?_
        refine qj_iadd cx dX7_chance_114 ?_
        refine qj_iconst (v := (1 : Int32)) cx dX7_chance_115 (by decide) ?_
        obtain ⟨c27, hP⟩ := qc_ck hP
        obtain ⟨I26, eI26, hP⟩ := qc_letE hP
        refine qw_iast cx dX7_chance_116 rfl (Nat.le_of_ble_eq_true rfl) rfl c27 eI26 ?_
        refine qj_iconst (v := (0 : Int32)) cx dX7_chance_117 (by decide) ?_
        refine qj_istore (ls1 := [some (.ref 0), none, some (.int a2), some (.int a3), some (.int a4), some (.int a5), some (.int x25), some (.int (0 : Int32))]) cx dX7_chance_118 rfl rfl rfl ?_
        exact L120 (P_X7_chance_88 f) ih qc_fu I26 a2 a3 a4 a5 x25 (0 : Int32) hP
  have L55 : ∀  (f : Nat) (I : (Nat → Nat → Int32)) (a2 : Int32) (a3 : Int32) (a4 : Int32), P_X7_chance_55 f I a2 a3 a4 = some q0 → qc_J F 0 0 55 [some (.ref 0), none, some (.int a2), some (.int a3), some (.int a4), none, none, none] [] (I, J, shM) := by
    intro  f
    induction f with
    | zero => intro I a2 a3 a4 hP; cases hP
    | succ f ih =>
      intro I a2 a3 a4 hP
      rw [P_X7_chance_55] at hP
      refine qj_iload cx dX7_chance_55 rfl ?_
      refine qj_bipush (v := (79 : Int32)) cx dX7_chance_57 (by decide) ?_
      refine qj_icmp_ge (tgt := 82) cx dX7_chance_59 (by decide) (fun c28 => ?_) (fun c28 => ?_)
      · have hP := qc_ifT hP c28
        refine qj_iconst (v := (0 : Int32)) cx dX7_chance_82 (by decide) ?_
        refine qj_istore (ls1 := [some (.ref 0), none, some (.int a2), some (.int a3), some (.int (0 : Int32)), none, none, none]) cx dX7_chance_83 rfl rfl rfl ?_
        refine qj_iconst (v := (0 : Int32)) cx dX7_chance_85 (by decide) ?_
        refine qj_istore (ls1 := [some (.ref 0), none, some (.int a2), some (.int a3), some (.int (0 : Int32)), some (.int (0 : Int32)), none, none]) cx dX7_chance_86 rfl rfl rfl ?_
        exact L88 qc_fu I a2 a3 (0 : Int32) (0 : Int32) hP
      · have hP := qc_ifF hP c28
        refine qj_aload_n cx dX7_chance_62 rfl rfl ?_
        refine qw_getR (j := 45) (t1 := 24) cx dX7_chance_63 qc_cl7 rfl (Nat.le_of_ble_eq_true rfl) rfl ww_1137 rfl ?_
        refine qj_iload cx dX7_chance_66 rfl ?_
        refine qj_aload_n cx dX7_chance_68 rfl rfl ?_
        refine qw_getR (j := 25) (t1 := 13) cx dX7_chance_69 qc_cl7 rfl (Nat.le_of_ble_eq_true rfl) rfl ww_1117 rfl ?_
        refine qj_iload cx dX7_chance_72 rfl ?_
        obtain ⟨c29, hP⟩ := qc_ck hP
        refine qw_iald cx dX7_chance_74 rfl (Nat.le_of_ble_eq_true rfl) rfl c29 ?_
        obtain ⟨c32, hP⟩ := qc_ck hP
        obtain ⟨I30, eI30, hP⟩ := qc_letE hP
        refine qw_iast cx dX7_chance_75 rfl (Nat.le_of_ble_eq_true rfl) rfl c32 eI30 ?_
        obtain ⟨x31, ex31, hP⟩ := qc_letE hP
        refine qj_iinc (v := x31) (ls1 := [some (.ref 0), none, some (.int a2), some (.int a3), some (.int x31), none, none, none]) cx dX7_chance_76 rfl (by rw [ex31]; rfl) rfl rfl ?_
        refine qj_goto (tgt := 55) cx dX7_chance_79 (by decide) ?_
        exact ih I30 a2 a3 x31 hP
  show qc_J F 0 0 0 [some (.ref 0), some (.int a), some (.int b), some (.int c), none, none, none, none] [] (I, J, shM)
  unfold P_X7_chance at hP
  refine qj_aload_n cx dX7_chance_0 rfl rfl ?_
  refine qj_iconst (v := (0 : Int32)) cx dX7_chance_1 (by decide) ?_
  obtain ⟨I33, eI33, hP⟩ := qc_letE hP
  refine qw_putI (j := 0) cx dX7_chance_2 qc_cl7 rfl (Nat.le_of_ble_eq_true rfl) rfl ww_1092 rfl rfl rfl eI33 ?_
  refine qj_iload_n cx dX7_chance_5 rfl rfl ?_
  refine qj_iconst (v := (-1 : Int32)) cx dX7_chance_6 (by decide) ?_
  refine qj_icmp_lt (tgt := 30) cx dX7_chance_7 (by decide) (fun c34 => ?_) (fun c34 => ?_)
  · have hP := qc_ifT hP c34
    refine qj_iconst (v := (-1 : Int32)) cx dX7_chance_30 (by decide) ?_
    exact qw_iret cx hz dX7_chance_31 (Nat.zero_le _) (Nat.zero_le _) (congrArg (fun q => q.1) (Option.some.inj hP)) (congrArg (fun q => q.2) (Option.some.inj hP)) rfl
  · have hP := qc_ifF hP c34
    refine qj_iload_n cx dX7_chance_10 rfl rfl ?_
    refine qj_iconst (v := (1 : Int32)) cx dX7_chance_11 (by decide) ?_
    refine qj_icmp_lt (tgt := 30) cx dX7_chance_12 (by decide) (fun c35 => ?_) (fun c35 => ?_)
    · have hP := qc_ifT hP c35
      refine qj_iconst (v := (-1 : Int32)) cx dX7_chance_30 (by decide) ?_
      exact qw_iret cx hz dX7_chance_31 (Nat.zero_le _) (Nat.zero_le _) (congrArg (fun q => q.1) (Option.some.inj hP)) (congrArg (fun q => q.2) (Option.some.inj hP)) rfl
    · have hP := qc_ifF hP c35
      refine qj_iload_n cx dX7_chance_15 rfl rfl ?_
      refine qj_bipush (v := (20 : Int32)) cx dX7_chance_16 (by decide) ?_
      refine qj_icmp_gt (tgt := 30) cx dX7_chance_18 (by decide) (fun c36 => ?_) (fun c36 => ?_)
      · have hP := qc_ifT hP c36
        refine qj_iconst (v := (-1 : Int32)) cx dX7_chance_30 (by decide) ?_
        exact qw_iret cx hz dX7_chance_31 (Nat.zero_le _) (Nat.zero_le _) (congrArg (fun q => q.1) (Option.some.inj hP)) (congrArg (fun q => q.2) (Option.some.inj hP)) rfl
      · have hP := qc_ifF hP c36
        refine qj_iload_n cx dX7_chance_21 rfl rfl ?_
        refine qj_if_lt (tgt := 30) cx dX7_chance_22 (by decide) (fun c37 => ?_) (fun c37 => ?_)
        · have hP := qc_ifT hP c37
          refine qj_iconst (v := (-1 : Int32)) cx dX7_chance_30 (by decide) ?_
          exact qw_iret cx hz dX7_chance_31 (Nat.zero_le _) (Nat.zero_le _) (congrArg (fun q => q.1) (Option.some.inj hP)) (congrArg (fun q => q.2) (Option.some.inj hP)) rfl
        · have hP := qc_ifF hP c37
          refine qj_iload_n cx dX7_chance_25 rfl rfl ?_
          refine qj_iconst (v := (2 : Int32)) cx dX7_chance_26 (by decide) ?_
          refine qj_icmp_le (tgt := 32) cx dX7_chance_27 (by decide) (fun c38 => ?_) (fun c38 => ?_)
          · have hP := qc_ifT hP c38
            refine qj_aload_n cx dX7_chance_32 rfl rfl ?_
            refine qj_iload_n cx dX7_chance_33 rfl rfl ?_
            refine qj_iconst (v := (-1 : Int32)) cx dX7_chance_34 (by decide) ?_
            obtain ⟨v40, hv40, hP⟩ := Option.bind_eq_some_iff.mp hP
            have Kv40 : qc_J F 0 0 49 [some (.ref 0), some (.int a), some (.int b), some (.int c), none, none, none, none] [.int v40, .ref 0] (I33, J, shM) := by
              obtain ⟨I41, eI41, hP⟩ := qc_letE hP
              refine qw_putI (j := 44) cx dX7_chance_49 qc_cl7 rfl (Nat.le_of_ble_eq_true rfl) rfl ww_1136 rfl rfl rfl eI41 ?_
              refine qj_iconst (v := (0 : Int32)) cx dX7_chance_52 (by decide) ?_
              refine qj_istore (ls1 := [some (.ref 0), some (.int a), some (.int b), some (.int c), some (.int (0 : Int32)), none, none, none]) cx dX7_chance_53 rfl rfl rfl ?_
              refine qw_sub (ls1 := [some (.ref 0), none, some (.int b), some (.int c), some (.int (0 : Int32)), none, none, none]) rfl (qc_sb_ok ⟨rfl, rfl, rfl, rfl, trivial⟩) ?_
              exact L55 qc_fu I41 b c (0 : Int32) hP
            refine qj_icmp_ne (tgt := 48) cx dX7_chance_35 (by decide) (fun c39 => ?_) (fun c39 => ?_)
            · have hv40 := qc_ifF hv40 c39
              refine qj_iload_n cx dX7_chance_48 rfl rfl ?_
              exact qw_top (Option.some.inj hv40).symm Kv40
            · have hv40 := qc_ifT hv40 c39
              refine qj_aload_n cx dX7_chance_38 rfl rfl ?_
              refine qw_getR (j := 3) (t1 := 2) cx dX7_chance_39 qc_cl7 rfl (Nat.le_of_ble_eq_true rfl) rfl ww_1095 rfl ?_
              refine qj_bipush (v := (9 : Int32)) cx dX7_chance_42 (by decide) ?_
              refine qw_iald cx dX7_chance_44 rfl (Nat.le_of_ble_eq_true rfl) rfl (by decide) ?_
              refine qj_goto (tgt := 49) cx dX7_chance_45 (by decide) ?_
              exact qw_top (Option.some.inj hv40).symm Kv40
          · have hP := qc_ifF hP c38
            refine qj_iconst (v := (-1 : Int32)) cx dX7_chance_30 (by decide) ?_
            exact qw_iret cx hz dX7_chance_31 (Nat.zero_le _) (Nat.zero_le _) (congrArg (fun q => q.1) (Option.some.inj hP)) (congrArg (fun q => q.2) (Option.some.inj hP)) rfl
