def P_X7_user (I : Nat → Nat → Int32) (a : Int32) (b : Int32) : Option (Int32 × (Nat → Nat → Int32)) :=
  qc_let (qc_u2 I 0 0 (0 : Int32)) fun I1 =>
  (P_X7_isUser I1 a).bind fun q2 =>
  if q2 = 0 then
  qc_let (qc_u2 I1 0 0 (1 : Int32)) fun I23 =>
  some ((0 : Int32), I23)
  else
  if b = (0 : Int32) then
  (if qc_in a 12 then
  some (I1 5 a.toNatClampNeg, I1)
  else none)
  else if b = (1 : Int32) then
  (if qc_in ((6 : Int32) + a) 79 then
  some (I1 13 ((6 : Int32) + a).toNatClampNeg, I1)
  else none)
  else if b = (2 : Int32) then
  (if qc_in a 12 then
  some (I1 7 a.toNatClampNeg, I1)
  else none)
  else if b = (3 : Int32) then
  (if qc_in a 12 then
  some (I1 8 a.toNatClampNeg, I1)
  else none)
  else if b = (4 : Int32) then
  (if qc_in ((0 : Int32) + a) 79 then
  some (I1 13 ((0 : Int32) + a).toNatClampNeg, I1)
  else none)
  else if b = (5 : Int32) then
  (if qc_in ((0 : Int32) + a) 79 then
  (if I1 13 ((0 : Int32) + a).toNatClampNeg ≤ 0 then
  some (0 : Int32)
  else
  (P_X7_isRight I1 a).bind fun q18 =>
  if q18 = 0 then
  some (0 : Int32)
  else
  some (1 : Int32)).bind fun v17 =>
  some (v17, I1)
  else none)
  else if b = (6 : Int32) then
  (if qc_in ((73 : Int32) + a) 79 then
  some (I1 13 ((73 : Int32) + a).toNatClampNeg, I1)
  else none)
  else 
  qc_let (qc_u2 I1 0 0 (2 : Int32)) fun I22 =>
  some ((0 : Int32), I22)
set_option maxRecDepth 20000 in
theorem c_X7_user {I : Nat → Nat → Int32} {J : Nat → Nat → Int64}  {a : Int32} {b : Int32} {q0 : Int32 × (Nat → Nat → Int32)} (hP : P_X7_user I a b = some q0) : ∀ l, qc_M l yX7_user cX7_user 3 (some .int) 2 43 0 0 [.ref 0, .int a, .int b] (I, J, shM) (some (.int q0.1)) (q0.2, J, shM) := by
  intro l
  refine qc_ent2 (by decide) (Nat.le_of_ble_eq_true rfl) ?_
  intro F hn0 cx hz
  have cx : qc_X F cX7_user RX7 "user" 2 0 0 43 := cx
  show qc_J F 0 0 0 [some (.ref 0), some (.int a), some (.int b)] [] (I, J, shM)
  unfold P_X7_user at hP
  refine qj_aload_n cx dX7_user_0 rfl rfl ?_
  refine qj_iconst (v := (0 : Int32)) cx dX7_user_1 (by decide) ?_
  obtain ⟨I1, eI1, hP⟩ := qc_letE hP
  refine qw_putI (j := 0) cx dX7_user_2 qc_cl7 rfl (Nat.le_of_ble_eq_true rfl) rfl ww_1092 rfl rfl rfl eI1 ?_
  refine qj_aload_n cx dX7_user_5 rfl rfl ?_
  refine qj_iload_n cx dX7_user_6 rfl rfl ?_
  obtain ⟨q2, eq2, hP⟩ := Option.bind_eq_some_iff.mp hP
  refine qj_callV (As := [.int a]) (st := []) (t := 0) (h' := (I1, J, shM)) (r := some (.int q2)) cx dX7_user_7 (c_X7_isUser (I := I1) (J := J)  eq2) gc_RX7_259 qm_X7_isUser rfl rfl qc_cl7 rfl (Nat.le_of_ble_eq_true rfl) (by decide) (by decide) rfl (Nat.le_of_ble_eq_true rfl) (Nat.le_of_ble_eq_true rfl) hn0 rfl ?_
  refine qj_if_ne (tgt := 20) cx dX7_user_10 (by decide) (fun c3 => ?_) (fun c3 => ?_)
  · have hP := qc_ifF hP c3
    refine qj_iload_n cx dX7_user_20 rfl rfl ?_
    by_cases c4 : b = (0 : Int32)
    · have hP := qc_ifT hP c4
      refine qj_tableIn (off := 43) (tgt := 64) cx dX7_user_21 (by rw [c4]; decide) (by rw [c4]; decide) (by rw [c4]; rfl) (by decide) ?_
      refine qj_aload_n cx dX7_user_64 rfl rfl ?_
      refine qw_getR (j := 6) (t1 := 5) cx dX7_user_65 qc_cl7 rfl (Nat.le_of_ble_eq_true rfl) rfl ww_1098 rfl ?_
      refine qj_iload_n cx dX7_user_68 rfl rfl ?_
      obtain ⟨c5, hP⟩ := qc_ck hP
      refine qw_iald cx dX7_user_69 rfl (Nat.le_of_ble_eq_true rfl) rfl c5 ?_
      exact qw_iret cx hz dX7_user_70 (Nat.zero_le _) (Nat.zero_le _) (congrArg (fun q => q.1) (Option.some.inj hP)) (congrArg (fun q => q.2) (Option.some.inj hP)) rfl
    have hP := qc_ifF hP c4
    by_cases c6 : b = (1 : Int32)
    · have hP := qc_ifT hP c6
      refine qj_tableIn (off := 50) (tgt := 71) cx dX7_user_21 (by rw [c6]; decide) (by rw [c6]; decide) (by rw [c6]; rfl) (by decide) ?_
      refine qj_aload_n cx dX7_user_71 rfl rfl ?_
      refine qw_getR (j := 25) (t1 := 13) cx dX7_user_72 qc_cl7 rfl (Nat.le_of_ble_eq_true rfl) rfl ww_1117 rfl ?_
      refine qj_bipush (v := (6 : Int32)) cx dX7_user_75 (by decide) ?_
      refine qj_iload_n cx dX7_user_77 rfl rfl ?_
      refine qj_iadd cx dX7_user_78 ?_
      obtain ⟨c7, hP⟩ := qc_ck hP
      refine qw_iald cx dX7_user_79 rfl (Nat.le_of_ble_eq_true rfl) rfl c7 ?_
      exact qw_iret cx hz dX7_user_80 (Nat.zero_le _) (Nat.zero_le _) (congrArg (fun q => q.1) (Option.some.inj hP)) (congrArg (fun q => q.2) (Option.some.inj hP)) rfl
    have hP := qc_ifF hP c6
    by_cases c8 : b = (2 : Int32)
    · have hP := qc_ifT hP c8
      refine qj_tableIn (off := 60) (tgt := 81) cx dX7_user_21 (by rw [c8]; decide) (by rw [c8]; decide) (by rw [c8]; rfl) (by decide) ?_
      refine qj_aload_n cx dX7_user_81 rfl rfl ?_
      refine qw_getR (j := 8) (t1 := 7) cx dX7_user_82 qc_cl7 rfl (Nat.le_of_ble_eq_true rfl) rfl ww_1100 rfl ?_
      refine qj_iload_n cx dX7_user_85 rfl rfl ?_
      obtain ⟨c9, hP⟩ := qc_ck hP
      refine qw_iald cx dX7_user_86 rfl (Nat.le_of_ble_eq_true rfl) rfl c9 ?_
      exact qw_iret cx hz dX7_user_87 (Nat.zero_le _) (Nat.zero_le _) (congrArg (fun q => q.1) (Option.some.inj hP)) (congrArg (fun q => q.2) (Option.some.inj hP)) rfl
    have hP := qc_ifF hP c8
    by_cases c10 : b = (3 : Int32)
    · have hP := qc_ifT hP c10
      refine qj_tableIn (off := 67) (tgt := 88) cx dX7_user_21 (by rw [c10]; decide) (by rw [c10]; decide) (by rw [c10]; rfl) (by decide) ?_
      refine qj_aload_n cx dX7_user_88 rfl rfl ?_
      refine qw_getR (j := 9) (t1 := 8) cx dX7_user_89 qc_cl7 rfl (Nat.le_of_ble_eq_true rfl) rfl ww_1101 rfl ?_
      refine qj_iload_n cx dX7_user_92 rfl rfl ?_
      obtain ⟨c11, hP⟩ := qc_ck hP
      refine qw_iald cx dX7_user_93 rfl (Nat.le_of_ble_eq_true rfl) rfl c11 ?_
      exact qw_iret cx hz dX7_user_94 (Nat.zero_le _) (Nat.zero_le _) (congrArg (fun q => q.1) (Option.some.inj hP)) (congrArg (fun q => q.2) (Option.some.inj hP)) rfl
    have hP := qc_ifF hP c10
    by_cases c12 : b = (4 : Int32)
    · have hP := qc_ifT hP c12
      refine qj_tableIn (off := 74) (tgt := 95) cx dX7_user_21 (by rw [c12]; decide) (by rw [c12]; decide) (by rw [c12]; rfl) (by decide) ?_
      refine qj_aload_n cx dX7_user_95 rfl rfl ?_
      refine qw_getR (j := 25) (t1 := 13) cx dX7_user_96 qc_cl7 rfl (Nat.le_of_ble_eq_true rfl) rfl ww_1117 rfl ?_
      refine qj_iconst (v := (0 : Int32)) cx dX7_user_99 (by decide) ?_
      refine qj_iload_n cx dX7_user_100 rfl rfl ?_
      refine qj_iadd cx dX7_user_101 ?_
      obtain ⟨c13, hP⟩ := qc_ck hP
      refine qw_iald cx dX7_user_102 rfl (Nat.le_of_ble_eq_true rfl) rfl c13 ?_
      exact qw_iret cx hz dX7_user_103 (Nat.zero_le _) (Nat.zero_le _) (congrArg (fun q => q.1) (Option.some.inj hP)) (congrArg (fun q => q.2) (Option.some.inj hP)) rfl
    have hP := qc_ifF hP c12
    by_cases c14 : b = (5 : Int32)
    · have hP := qc_ifT hP c14
      refine qj_tableIn (off := 83) (tgt := 104) cx dX7_user_21 (by rw [c14]; decide) (by rw [c14]; decide) (by rw [c14]; rfl) (by decide) ?_
      refine qj_aload_n cx dX7_user_104 rfl rfl ?_
      refine qw_getR (j := 25) (t1 := 13) cx dX7_user_105 qc_cl7 rfl (Nat.le_of_ble_eq_true rfl) rfl ww_1117 rfl ?_
      refine qj_iconst (v := (0 : Int32)) cx dX7_user_108 (by decide) ?_
      refine qj_iload_n cx dX7_user_109 rfl rfl ?_
      refine qj_iadd cx dX7_user_110 ?_
      obtain ⟨c15, hP⟩ := qc_ck hP
      refine qw_iald cx dX7_user_111 rfl (Nat.le_of_ble_eq_true rfl) rfl c15 ?_
      obtain ⟨v17, hv17, hP⟩ := Option.bind_eq_some_iff.mp hP
      have Kv17 : qc_J F 0 0 128 [some (.ref 0), some (.int a), some (.int b)] [.int v17] (I1, J, shM) := by
        exact qw_iret cx hz dX7_user_128 (Nat.zero_le _) (Nat.zero_le _) (congrArg (fun q => q.1) (Option.some.inj hP)) (congrArg (fun q => q.2) (Option.some.inj hP)) rfl
      refine qj_if_le (tgt := 127) cx dX7_user_112 (by decide) (fun c16 => ?_) (fun c16 => ?_)
      · have hv17 := qc_ifT hv17 c16
        refine qj_iconst (v := (0 : Int32)) cx dX7_user_127 (by decide) ?_
        exact qw_top (Option.some.inj hv17).symm Kv17
      · have hv17 := qc_ifF hv17 c16
        refine qj_aload_n cx dX7_user_115 rfl rfl ?_
        refine qj_iload_n cx dX7_user_116 rfl rfl ?_
        obtain ⟨q18, eq18, hv17⟩ := Option.bind_eq_some_iff.mp hv17
        refine qj_callV (As := [.int a]) (st := []) (t := 0) (h' := (I1, J, shM)) (r := some (.int q18)) cx dX7_user_117 (c_X7_isRight (I := I1) (J := J)  eq18) gc_RX7_323 qm_X7_isRight rfl rfl qc_cl7 rfl (Nat.le_of_ble_eq_true rfl) (by decide) (by decide) rfl (Nat.le_of_ble_eq_true rfl) (Nat.le_of_ble_eq_true rfl) hn0 rfl ?_
        refine qj_if_eq (tgt := 127) cx dX7_user_120 (by decide) (fun c19 => ?_) (fun c19 => ?_)
        · have hv17 := qc_ifT hv17 c19
          refine qj_iconst (v := (0 : Int32)) cx dX7_user_127 (by decide) ?_
          exact qw_top (Option.some.inj hv17).symm Kv17
        · have hv17 := qc_ifF hv17 c19
          refine qj_iconst (v := (1 : Int32)) cx dX7_user_123 (by decide) ?_
          refine qj_goto (tgt := 128) cx dX7_user_124 (by decide) ?_
          exact qw_top (Option.some.inj hv17).symm Kv17
    have hP := qc_ifF hP c14
    by_cases c20 : b = (6 : Int32)
    · have hP := qc_ifT hP c20
      refine qj_tableIn (off := 108) (tgt := 129) cx dX7_user_21 (by rw [c20]; decide) (by rw [c20]; decide) (by rw [c20]; rfl) (by decide) ?_
      refine qj_aload_n cx dX7_user_129 rfl rfl ?_
      refine qw_getR (j := 25) (t1 := 13) cx dX7_user_130 qc_cl7 rfl (Nat.le_of_ble_eq_true rfl) rfl ww_1117 rfl ?_
      refine qj_bipush (v := (73 : Int32)) cx dX7_user_133 (by decide) ?_
      refine qj_iload_n cx dX7_user_135 rfl rfl ?_
      refine qj_iadd cx dX7_user_136 ?_
      obtain ⟨c21, hP⟩ := qc_ck hP
      refine qw_iald cx dX7_user_137 rfl (Nat.le_of_ble_eq_true rfl) rfl c21 ?_
      exact qw_iret cx hz dX7_user_138 (Nat.zero_le _) (Nat.zero_le _) (congrArg (fun q => q.1) (Option.some.inj hP)) (congrArg (fun q => q.2) (Option.some.inj hP)) rfl
    have hP := qc_ifF hP c20
    refine qj_tableOut (tgt := 139) cx dX7_user_21 (by have := lv_neT (a := 0) c4 (by decide); have := lv_neT (a := 1) c6 (by decide); have := lv_neT (a := 2) c8 (by decide); have := lv_neT (a := 3) c10 (by decide); have := lv_neT (a := 4) c12 (by decide); have := lv_neT (a := 5) c14 (by decide); have := lv_neT (a := 6) c20 (by decide); omega) (by decide) ?_
    refine qj_aload_n cx dX7_user_139 rfl rfl ?_
    refine qj_iconst (v := (2 : Int32)) cx dX7_user_140 (by decide) ?_
    obtain ⟨I22, eI22, hP⟩ := qc_letE hP
    refine qw_putI (j := 0) cx dX7_user_141 qc_cl7 rfl (Nat.le_of_ble_eq_true rfl) rfl ww_1092 rfl rfl rfl eI22 ?_
    refine qj_iconst (v := (0 : Int32)) cx dX7_user_144 (by decide) ?_
    exact qw_iret cx hz dX7_user_145 (Nat.zero_le _) (Nat.zero_le _) (congrArg (fun q => q.1) (Option.some.inj hP)) (congrArg (fun q => q.2) (Option.some.inj hP)) rfl
  · have hP := qc_ifT hP c3
    refine qj_aload_n cx dX7_user_13 rfl rfl ?_
    refine qj_iconst (v := (1 : Int32)) cx dX7_user_14 (by decide) ?_
    obtain ⟨I23, eI23, hP⟩ := qc_letE hP
    refine qw_putI (j := 0) cx dX7_user_15 qc_cl7 rfl (Nat.le_of_ble_eq_true rfl) rfl ww_1092 rfl rfl rfl eI23 ?_
    refine qj_iconst (v := (0 : Int32)) cx dX7_user_18 (by decide) ?_
    exact qw_iret cx hz dX7_user_19 (Nat.zero_le _) (Nat.zero_le _) (congrArg (fun q => q.1) (Option.some.inj hP)) (congrArg (fun q => q.2) (Option.some.inj hP)) rfl
def P_X7_blocked (I : Nat → Nat → Int32) (a : Int32) : Option (Int32 × (Nat → Nat → Int32)) :=
  qc_let (qc_u2 I 0 0 (0 : Int32)) fun I1 =>
  (P_X7_isChannel I1 a).bind fun q2 =>
  (if q2 = 0 then
  some (-1 : Int32)
  else
  if qc_in ((12 : Int32) + a) 79 then
  some (I1 13 ((12 : Int32) + a).toNatClampNeg)
  else none).bind fun v4 =>
  some (v4, I1)
set_option maxRecDepth 20000 in
theorem c_X7_blocked {I : Nat → Nat → Int32} {J : Nat → Nat → Int64}  {a : Int32} {q0 : Int32 × (Nat → Nat → Int32)} (hP : P_X7_blocked I a = some q0) : ∀ l, qc_M l yX7_blocked cX7_blocked 2 (some .int) 1 21 0 0 [.ref 0, .int a] (I, J, shM) (some (.int q0.1)) (q0.2, J, shM) := by
  intro l
  refine qc_ent2 (by decide) (Nat.le_of_ble_eq_true rfl) ?_
  intro F hn0 cx hz
  have cx : qc_X F cX7_blocked RX7 "blocked" 1 0 0 21 := cx
  show qc_J F 0 0 0 [some (.ref 0), some (.int a)] [] (I, J, shM)
  unfold P_X7_blocked at hP
  refine qj_aload_n cx dX7_blocked_0 rfl rfl ?_
  refine qj_iconst (v := (0 : Int32)) cx dX7_blocked_1 (by decide) ?_
  obtain ⟨I1, eI1, hP⟩ := qc_letE hP
  refine qw_putI (j := 0) cx dX7_blocked_2 qc_cl7 rfl (Nat.le_of_ble_eq_true rfl) rfl ww_1092 rfl rfl rfl eI1 ?_
  refine qj_aload_n cx dX7_blocked_5 rfl rfl ?_
  refine qj_iload_n cx dX7_blocked_6 rfl rfl ?_
  obtain ⟨q2, eq2, hP⟩ := Option.bind_eq_some_iff.mp hP
  refine qj_callV (As := [.int a]) (st := []) (t := 0) (h' := (I1, J, shM)) (r := some (.int q2)) cx dX7_blocked_7 (c_X7_isChannel (I := I1) (J := J)  eq2) gc_RX7_262 qm_X7_isChannel rfl rfl qc_cl7 rfl (Nat.le_of_ble_eq_true rfl) (by decide) (by decide) rfl (Nat.le_of_ble_eq_true rfl) (Nat.le_of_ble_eq_true rfl) hn0 rfl ?_
  obtain ⟨v4, hv4, hP⟩ := Option.bind_eq_some_iff.mp hP
  have Kv4 : qc_J F 0 0 26 [some (.ref 0), some (.int a)] [.int v4] (I1, J, shM) := by
    exact qw_iret cx hz dX7_blocked_26 (Nat.zero_le _) (Nat.zero_le _) (congrArg (fun q => q.1) (Option.some.inj hP)) (congrArg (fun q => q.2) (Option.some.inj hP)) rfl
  refine qj_if_eq (tgt := 25) cx dX7_blocked_10 (by decide) (fun c3 => ?_) (fun c3 => ?_)
  · have hv4 := qc_ifT hv4 c3
    refine qj_iconst (v := (-1 : Int32)) cx dX7_blocked_25 (by decide) ?_
    exact qw_top (Option.some.inj hv4).symm Kv4
  · have hv4 := qc_ifF hv4 c3
    refine qj_aload_n cx dX7_blocked_13 rfl rfl ?_
    refine qw_getR (j := 25) (t1 := 13) cx dX7_blocked_14 qc_cl7 rfl (Nat.le_of_ble_eq_true rfl) rfl ww_1117 rfl ?_
    refine qj_bipush (v := (12 : Int32)) cx dX7_blocked_17 (by decide) ?_
    refine qj_iload_n cx dX7_blocked_19 rfl rfl ?_
    refine qj_iadd cx dX7_blocked_20 ?_
    obtain ⟨c5, hv4⟩ := qc_ck hv4
    refine qw_iald cx dX7_blocked_21 rfl (Nat.le_of_ble_eq_true rfl) rfl c5 ?_
    refine qj_goto (tgt := 26) cx dX7_blocked_22 (by decide) ?_
    exact qw_top (Option.some.inj hv4).symm Kv4
def P_X7_heard_4 (I : Nat → Nat → Int32) : Nat → Int32 → Int32 → Option (Int32)
  | 0, _, _ => none
  | f + 1, a1, a2 =>
  if I 0 41 ≤ a2 then
  some a1
  else
  if qc_in a2 300 then
  (if I 21 a2.toNatClampNeg < 0 then
  some (0 : Int32)
  else
  some (1 : Int32)).bind fun v4 =>
  qc_let (a1 + v4) fun x5 =>
  qc_let (a2 + (1 : Int32)) fun x6 =>
  P_X7_heard_4 I f x5 x6
  else none
def P_X7_heard (I : Nat → Nat → Int32) : Option (Int32) :=
  P_X7_heard_4 I qc_fu (0 : Int32) (0 : Int32)
set_option maxRecDepth 20000 in
theorem c_X7_heard {I : Nat → Nat → Int32} {J : Nat → Nat → Int64}   {q0 : Int32} (hP : P_X7_heard I = some q0) : ∀ l, qc_M l yX7_heard cX7_heard 3 (some .int) 0 0 0 0 [.ref 0] (I, J, shM) (some (.int q0)) (I, J, shM) := by
  intro l
  refine qc_ent2 (by decide) (Nat.le_of_ble_eq_true rfl) ?_
  intro F hn0 cx hz
  have cx : qc_X F cX7_heard RX7 "heard" 0 0 0 0 := cx
  have L4 : ∀  (f : Nat) (a1 : Int32) (a2 : Int32), P_X7_heard_4 I f a1 a2 = some q0 → qc_J F 0 0 4 [some (.ref 0), some (.int a1), some (.int a2)] [] (I, J, shM) := by
    intro  f
    induction f with
    | zero => intro a1 a2 hP; cases hP
    | succ f ih =>
      intro a1 a2 hP
      rw [P_X7_heard_4] at hP
      refine qj_iload_n cx dX7_heard_4 rfl rfl ?_
      refine qj_aload_n cx dX7_heard_5 rfl rfl ?_
      refine qw_getI (j := 41) cx dX7_heard_6 qc_cl7 rfl (Nat.le_of_ble_eq_true rfl) rfl ww_1133 ?_
      refine qj_icmp_ge (tgt := 35) cx dX7_heard_9 (by decide) (fun c1 => ?_) (fun c1 => ?_)
      · have hP := qc_ifT hP c1
        refine qj_iload_n cx dX7_heard_35 rfl rfl ?_
        exact qw_iret cx hz dX7_heard_36 (Nat.zero_le _) (Nat.zero_le _) (Option.some.inj hP) rfl rfl
      · have hP := qc_ifF hP c1
        refine qj_iload_n cx dX7_heard_12 rfl rfl ?_
        refine qj_aload_n cx dX7_heard_13 rfl rfl ?_
        refine qw_getR (j := 39) (t1 := 21) cx dX7_heard_14 qc_cl7 rfl (Nat.le_of_ble_eq_true rfl) rfl ww_1131 rfl ?_
        refine qj_iload_n cx dX7_heard_17 rfl rfl ?_
        obtain ⟨c2, hP⟩ := qc_ck hP
        refine qw_iald cx dX7_heard_18 rfl (Nat.le_of_ble_eq_true rfl) rfl c2 ?_
        obtain ⟨v4, hv4, hP⟩ := Option.bind_eq_some_iff.mp hP
        have Kv4 : qc_J F 0 0 27 [some (.ref 0), some (.int a1), some (.int a2)] [.int v4, .int a1] (I, J, shM) := by
          refine qj_iadd cx dX7_heard_27 ?_
          obtain ⟨x5, ex5, hP⟩ := qc_letE hP
          refine qw_top ex5 ?_
          refine qj_istore_n (ls1 := [some (.ref 0), some (.int x5), some (.int a2)]) cx dX7_heard_28 rfl rfl rfl rfl ?_
          obtain ⟨x6, ex6, hP⟩ := qc_letE hP
          refine qj_iinc (v := x6) (ls1 := [some (.ref 0), some (.int x5), some (.int x6)]) cx dX7_heard_29 rfl (by rw [ex6]; rfl) rfl rfl ?_
          refine qj_goto (tgt := 4) cx dX7_heard_32 (by decide) ?_
          exact ih x5 x6 hP
        refine qj_if_lt (tgt := 26) cx dX7_heard_19 (by decide) (fun c3 => ?_) (fun c3 => ?_)
        · have hv4 := qc_ifT hv4 c3
          refine qj_iconst (v := (0 : Int32)) cx dX7_heard_26 (by decide) ?_
          exact qw_top (Option.some.inj hv4).symm Kv4
        · have hv4 := qc_ifF hv4 c3
          refine qj_iconst (v := (1 : Int32)) cx dX7_heard_22 (by decide) ?_
          refine qj_goto (tgt := 27) cx dX7_heard_23 (by decide) ?_
          exact qw_top (Option.some.inj hv4).symm Kv4
  show qc_J F 0 0 0 [some (.ref 0), none, none] [] (I, J, shM)
  unfold P_X7_heard at hP
  refine qj_iconst (v := (0 : Int32)) cx dX7_heard_0 (by decide) ?_
  refine qj_istore_n (ls1 := [some (.ref 0), some (.int (0 : Int32)), none]) cx dX7_heard_1 rfl rfl rfl rfl ?_
  refine qj_iconst (v := (0 : Int32)) cx dX7_heard_2 (by decide) ?_
  refine qj_istore_n (ls1 := [some (.ref 0), some (.int (0 : Int32)), some (.int (0 : Int32))]) cx dX7_heard_3 rfl rfl rfl rfl ?_
  exact L4 qc_fu (0 : Int32) (0 : Int32) hP
def P_X7_crowds (I : Nat → Nat → Int32) (a : Int32) : Option (Int32 × (Nat → Nat → Int32)) :=
  qc_let (qc_u2 I 0 0 (0 : Int32)) fun I1 =>
  (P_X7_isUser I1 a).bind fun q2 =>
  (if q2 = 0 then
  some (-1 : Int32)
  else
  (P_X7_crowdsOf I1 a).bind fun q5 =>
  some q5).bind fun v4 =>
  some (v4, I1)
set_option maxRecDepth 20000 in
theorem c_X7_crowds {I : Nat → Nat → Int32} {J : Nat → Nat → Int64}  {a : Int32} {q0 : Int32 × (Nat → Nat → Int32)} (hP : P_X7_crowds I a = some q0) : ∀ l, qc_M l yX7_crowds cX7_crowds 2 (some .int) 3 65 0 0 [.ref 0, .int a] (I, J, shM) (some (.int q0.1)) (q0.2, J, shM) := by
  intro l
  refine qc_ent2 (by decide) (Nat.le_of_ble_eq_true rfl) ?_
  intro F hn0 cx hz
  have cx : qc_X F cX7_crowds RX7 "crowds" 3 0 0 65 := cx
  show qc_J F 0 0 0 [some (.ref 0), some (.int a)] [] (I, J, shM)
  unfold P_X7_crowds at hP
  refine qj_aload_n cx dX7_crowds_0 rfl rfl ?_
  refine qj_iconst (v := (0 : Int32)) cx dX7_crowds_1 (by decide) ?_
  obtain ⟨I1, eI1, hP⟩ := qc_letE hP
  refine qw_putI (j := 0) cx dX7_crowds_2 qc_cl7 rfl (Nat.le_of_ble_eq_true rfl) rfl ww_1092 rfl rfl rfl eI1 ?_
  refine qj_aload_n cx dX7_crowds_5 rfl rfl ?_
  refine qj_iload_n cx dX7_crowds_6 rfl rfl ?_
  obtain ⟨q2, eq2, hP⟩ := Option.bind_eq_some_iff.mp hP
  refine qj_callV (As := [.int a]) (st := []) (t := 0) (h' := (I1, J, shM)) (r := some (.int q2)) cx dX7_crowds_7 (c_X7_isUser (I := I1) (J := J)  eq2) gc_RX7_259 qm_X7_isUser rfl rfl qc_cl7 rfl (Nat.le_of_ble_eq_true rfl) (by decide) (by decide) rfl (Nat.le_of_ble_eq_true rfl) (Nat.le_of_ble_eq_true rfl) hn0 rfl ?_
  obtain ⟨v4, hv4, hP⟩ := Option.bind_eq_some_iff.mp hP
  have Kv4 : qc_J F 0 0 22 [some (.ref 0), some (.int a)] [.int v4] (I1, J, shM) := by
    exact qw_iret cx hz dX7_crowds_22 (Nat.zero_le _) (Nat.zero_le _) (congrArg (fun q => q.1) (Option.some.inj hP)) (congrArg (fun q => q.2) (Option.some.inj hP)) rfl
  refine qj_if_eq (tgt := 21) cx dX7_crowds_10 (by decide) (fun c3 => ?_) (fun c3 => ?_)
  · have hv4 := qc_ifT hv4 c3
    refine qj_iconst (v := (-1 : Int32)) cx dX7_crowds_21 (by decide) ?_
    exact qw_top (Option.some.inj hv4).symm Kv4
  · have hv4 := qc_ifF hv4 c3
    refine qj_aload_n cx dX7_crowds_13 rfl rfl ?_
    refine qj_iload_n cx dX7_crowds_14 rfl rfl ?_
    obtain ⟨q5, eq5, hv4⟩ := Option.bind_eq_some_iff.mp hv4
    refine qj_callV (As := [.int a]) (st := []) (t := 0) (h' := (I1, J, shM)) (r := some (.int q5)) cx dX7_crowds_15 (c_X7_crowdsOf (I := I1) (J := J)  eq5) gc_RX7_317 qm_X7_crowdsOf rfl rfl qc_cl7 rfl (Nat.le_of_ble_eq_true rfl) (by decide) (by decide) rfl (Nat.le_of_ble_eq_true rfl) (Nat.le_of_ble_eq_true rfl) hn0 rfl ?_
    refine qj_goto (tgt := 22) cx dX7_crowds_18 (by decide) ?_
    exact qw_top (Option.some.inj hv4).symm Kv4
def P_X7_exchanges (I : Nat → Nat → Int32) (a : Int32) (b : Int32) : Option ((Nat → Nat → Int32)) :=
  if qc_in ((0 : Int32) + a) 79 then
  qc_let (I 13 ((0 : Int32) + a).toNatClampNeg) fun x2 =>
  if qc_in ((0 : Int32) + b) 79 then
  if qc_in ((0 : Int32) + a) 79 then
  qc_let (qc_u2 I 13 ((0 : Int32) + a).toNatClampNeg (I 13 ((0 : Int32) + b).toNatClampNeg)) fun I4 =>
  if qc_in ((0 : Int32) + b) 79 then
  qc_let (qc_u2 I4 13 ((0 : Int32) + b).toNatClampNeg x2) fun I5 =>
  some I5
  else none
  else none
  else none
  else none
set_option maxRecDepth 20000 in
theorem c_X7_exchanges {I : Nat → Nat → Int32} {J : Nat → Nat → Int64}  {a : Int32} {b : Int32} {q0 : (Nat → Nat → Int32)} (hP : P_X7_exchanges I a b = some q0) : ∀ l, qc_M l yX7_exchanges cX7_exchanges 4 none 0 0 0 0 [.ref 0, .int a, .int b] (I, J, shM) none (q0, J, shM) := by
  intro l
  refine qc_ent2 (by decide) (Nat.le_of_ble_eq_true rfl) ?_
  intro F hn0 cx hz
  have cx : qc_X F cX7_exchanges RX7 "exchanges" 0 0 0 0 := cx
  show qc_J F 0 0 0 [some (.ref 0), some (.int a), some (.int b), none] [] (I, J, shM)
  unfold P_X7_exchanges at hP
  refine qj_aload_n cx dX7_exchanges_0 rfl rfl ?_
  refine qw_getR (j := 25) (t1 := 13) cx dX7_exchanges_1 qc_cl7 rfl (Nat.le_of_ble_eq_true rfl) rfl ww_1117 rfl ?_
  refine qj_iconst (v := (0 : Int32)) cx dX7_exchanges_4 (by decide) ?_
  refine qj_iload_n cx dX7_exchanges_5 rfl rfl ?_
  refine qj_iadd cx dX7_exchanges_6 ?_
  obtain ⟨c1, hP⟩ := qc_ck hP
  refine qw_iald cx dX7_exchanges_7 rfl (Nat.le_of_ble_eq_true rfl) rfl c1 ?_
  obtain ⟨x2, ex2, hP⟩ := qc_letE hP
  refine qw_top ex2 ?_
  refine qj_istore_n (ls1 := [some (.ref 0), some (.int a), some (.int b), some (.int x2)]) cx dX7_exchanges_8 rfl rfl rfl rfl ?_
  refine qj_aload_n cx dX7_exchanges_9 rfl rfl ?_
  refine qw_getR (j := 25) (t1 := 13) cx dX7_exchanges_10 qc_cl7 rfl (Nat.le_of_ble_eq_true rfl) rfl ww_1117 rfl ?_
  refine qj_iconst (v := (0 : Int32)) cx dX7_exchanges_13 (by decide) ?_
  refine qj_iload_n cx dX7_exchanges_14 rfl rfl ?_
  refine qj_iadd cx dX7_exchanges_15 ?_
  refine qj_aload_n cx dX7_exchanges_16 rfl rfl ?_
  refine qw_getR (j := 25) (t1 := 13) cx dX7_exchanges_17 qc_cl7 rfl (Nat.le_of_ble_eq_true rfl) rfl ww_1117 rfl ?_
  refine qj_iconst (v := (0 : Int32)) cx dX7_exchanges_20 (by decide) ?_
  refine qj_iload_n cx dX7_exchanges_21 rfl rfl ?_
  refine qj_iadd cx dX7_exchanges_22 ?_
  obtain ⟨c3, hP⟩ := qc_ck hP
  refine qw_iald cx dX7_exchanges_23 rfl (Nat.le_of_ble_eq_true rfl) rfl c3 ?_
  obtain ⟨c7, hP⟩ := qc_ck hP
  obtain ⟨I4, eI4, hP⟩ := qc_letE hP
  refine qw_iast cx dX7_exchanges_24 rfl (Nat.le_of_ble_eq_true rfl) rfl c7 eI4 ?_
  refine qj_aload_n cx dX7_exchanges_25 rfl rfl ?_
  refine qw_getR (j := 25) (t1 := 13) cx dX7_exchanges_26 qc_cl7 rfl (Nat.le_of_ble_eq_true rfl) rfl ww_1117 rfl ?_
  refine qj_iconst (v := (0 : Int32)) cx dX7_exchanges_29 (by decide) ?_
  refine qj_iload_n cx dX7_exchanges_30 rfl rfl ?_
  refine qj_iadd cx dX7_exchanges_31 ?_
  refine qj_iload_n cx dX7_exchanges_32 rfl rfl ?_
  obtain ⟨c6, hP⟩ := qc_ck hP
  obtain ⟨I5, eI5, hP⟩ := qc_letE hP
  refine qw_iast cx dX7_exchanges_33 rfl (Nat.le_of_ble_eq_true rfl) rfl c6 eI5 ?_
  exact qw_vret cx hz dX7_exchanges_34 (Nat.zero_le _) (Nat.zero_le _) (Option.some.inj hP) rfl
def P_X7_linked (I : Nat → Nat → Int32) (a : Int32) (b : Int32) : Option (Int32 × (Nat → Nat → Int32)) :=
  qc_let (qc_u2 I 0 0 (0 : Int32)) fun I1 =>
  if a < 0 then
  some ((-1 : Int32), I1)
  else
  if (3 : Int32) ≤ a then
  some ((-1 : Int32), I1)
  else
  if b < 0 then
  some ((-1 : Int32), I1)
  else
  if (3 : Int32) ≤ b then
  some ((-1 : Int32), I1)
  else
  if a = b then
  some ((-1 : Int32), I1)
  else
  if qc_in (((3 : Int32) * a) + b) 18 then
  some (I1 11 (((3 : Int32) * a) + b).toNatClampNeg, I1)
  else none
set_option maxRecDepth 20000 in
theorem c_X7_linked {I : Nat → Nat → Int32} {J : Nat → Nat → Int64}  {a : Int32} {b : Int32} {q0 : Int32 × (Nat → Nat → Int32)} (hP : P_X7_linked I a b = some q0) : ∀ l, qc_M l yX7_linked cX7_linked 3 (some .int) 0 0 0 0 [.ref 0, .int a, .int b] (I, J, shM) (some (.int q0.1)) (q0.2, J, shM) := by
  intro l
  refine qc_ent2 (by decide) (Nat.le_of_ble_eq_true rfl) ?_
  intro F hn0 cx hz
  have cx : qc_X F cX7_linked RX7 "linked" 0 0 0 0 := cx
  show qc_J F 0 0 0 [some (.ref 0), some (.int a), some (.int b)] [] (I, J, shM)
  unfold P_X7_linked at hP
  refine qj_aload_n cx dX7_linked_0 rfl rfl ?_
  refine qj_iconst (v := (0 : Int32)) cx dX7_linked_1 (by decide) ?_
  obtain ⟨I1, eI1, hP⟩ := qc_letE hP
  refine qw_putI (j := 0) cx dX7_linked_2 qc_cl7 rfl (Nat.le_of_ble_eq_true rfl) rfl ww_1092 rfl rfl rfl eI1 ?_
  refine qj_iload_n cx dX7_linked_5 rfl rfl ?_
  refine qj_if_lt (tgt := 28) cx dX7_linked_6 (by decide) (fun c2 => ?_) (fun c2 => ?_)
  · have hP := qc_ifT hP c2
    refine qj_iconst (v := (-1 : Int32)) cx dX7_linked_28 (by decide) ?_
    exact qw_iret cx hz dX7_linked_29 (Nat.zero_le _) (Nat.zero_le _) (congrArg (fun q => q.1) (Option.some.inj hP)) (congrArg (fun q => q.2) (Option.some.inj hP)) rfl
  · have hP := qc_ifF hP c2
    refine qj_iload_n cx dX7_linked_9 rfl rfl ?_
    refine qj_iconst (v := (3 : Int32)) cx dX7_linked_10 (by decide) ?_
    refine qj_icmp_ge (tgt := 28) cx dX7_linked_11 (by decide) (fun c3 => ?_) (fun c3 => ?_)
    · have hP := qc_ifT hP c3
      refine qj_iconst (v := (-1 : Int32)) cx dX7_linked_28 (by decide) ?_
      exact qw_iret cx hz dX7_linked_29 (Nat.zero_le _) (Nat.zero_le _) (congrArg (fun q => q.1) (Option.some.inj hP)) (congrArg (fun q => q.2) (Option.some.inj hP)) rfl
    · have hP := qc_ifF hP c3
      refine qj_iload_n cx dX7_linked_14 rfl rfl ?_
      refine qj_if_lt (tgt := 28) cx dX7_linked_15 (by decide) (fun c4 => ?_) (fun c4 => ?_)
      · have hP := qc_ifT hP c4
        refine qj_iconst (v := (-1 : Int32)) cx dX7_linked_28 (by decide) ?_
        exact qw_iret cx hz dX7_linked_29 (Nat.zero_le _) (Nat.zero_le _) (congrArg (fun q => q.1) (Option.some.inj hP)) (congrArg (fun q => q.2) (Option.some.inj hP)) rfl
      · have hP := qc_ifF hP c4
        refine qj_iload_n cx dX7_linked_18 rfl rfl ?_
        refine qj_iconst (v := (3 : Int32)) cx dX7_linked_19 (by decide) ?_
        refine qj_icmp_ge (tgt := 28) cx dX7_linked_20 (by decide) (fun c5 => ?_) (fun c5 => ?_)
        · have hP := qc_ifT hP c5
          refine qj_iconst (v := (-1 : Int32)) cx dX7_linked_28 (by decide) ?_
          exact qw_iret cx hz dX7_linked_29 (Nat.zero_le _) (Nat.zero_le _) (congrArg (fun q => q.1) (Option.some.inj hP)) (congrArg (fun q => q.2) (Option.some.inj hP)) rfl
        · have hP := qc_ifF hP c5
          refine qj_iload_n cx dX7_linked_23 rfl rfl ?_
          refine qj_iload_n cx dX7_linked_24 rfl rfl ?_
          refine qj_icmp_ne (tgt := 30) cx dX7_linked_25 (by decide) (fun c6 => ?_) (fun c6 => ?_)
          · have hP := qc_ifF hP c6
            refine qj_aload_n cx dX7_linked_30 rfl rfl ?_
            refine qw_getR (j := 12) (t1 := 11) cx dX7_linked_31 qc_cl7 rfl (Nat.le_of_ble_eq_true rfl) rfl ww_1104 rfl ?_
            refine qj_iconst (v := (3 : Int32)) cx dX7_linked_34 (by decide) ?_
            refine qj_iload_n cx dX7_linked_35 rfl rfl ?_
            refine qj_imul cx dX7_linked_36 ?_
            refine qj_iload_n cx dX7_linked_37 rfl rfl ?_
            refine qj_iadd cx dX7_linked_38 ?_
            obtain ⟨c7, hP⟩ := qc_ck hP
            refine qw_iald cx dX7_linked_39 rfl (Nat.le_of_ble_eq_true rfl) rfl c7 ?_
            exact qw_iret cx hz dX7_linked_40 (Nat.zero_le _) (Nat.zero_le _) (congrArg (fun q => q.1) (Option.some.inj hP)) (congrArg (fun q => q.2) (Option.some.inj hP)) rfl
          · have hP := qc_ifT hP c6
            refine qj_iconst (v := (-1 : Int32)) cx dX7_linked_28 (by decide) ?_
            exact qw_iret cx hz dX7_linked_29 (Nat.zero_le _) (Nat.zero_le _) (congrArg (fun q => q.1) (Option.some.inj hP)) (congrArg (fun q => q.2) (Option.some.inj hP)) rfl
def P_X7_nearest_124 (k20 : (Nat → Nat → Int32) → Int32 → Int32 → Int32 → Option (Int32 × (Nat → Nat → Int32))) (I : (Nat → Nat → Int32)) (a1 : Int32) (a2 : Int32) (a3 : Int32) : Option (Int32 × (Nat → Nat → Int32)) :=
  qc_let (a3 + (1 : Int32)) fun x1 =>
  k20 I a1 a2 x1
def P_X7_nearest_122 (k20 : (Nat → Nat → Int32) → Int32 → Int32 → Int32 → Option (Int32 × (Nat → Nat → Int32))) (I : (Nat → Nat → Int32)) (a1 : Int32) (a3 : Int32) : Option (Int32 × (Nat → Nat → Int32)) :=
  P_X7_nearest_124 k20 I a1 a3 a3
def P_X7_nearest_20  : Nat → (Nat → Nat → Int32) → Int32 → Int32 → Int32 → Option (Int32 × (Nat → Nat → Int32))
  | 0, _, _, _, _ => none
  | f + 1, I, a1, a2, a3 =>
  (P_X7_users I).bind fun q2 =>
  if q2 ≤ a3 then
  some (a2, I)
  else
  if a3 = a1 then
  P_X7_nearest_124 (P_X7_nearest_20 f) I a1 a2 a3
  else
  if qc_in a3 12 then
  if qc_in a1 12 then
  if I 5 a3.toNatClampNeg = I 5 a1.toNatClampNeg then
  (if qc_in ((0 : Int32) + a3) 79 then
  if I 13 ((0 : Int32) + a3).toNatClampNeg = 0 then
  P_X7_nearest_124 (P_X7_nearest_20 f) I a1 a2 a3
  else
  if qc_in ((0 : Int32) + a1) 79 then
  if I 13 ((0 : Int32) + a1).toNatClampNeg = 0 then
  P_X7_nearest_124 (P_X7_nearest_20 f) I a1 a2 a3
  else
  if a2 = (-2 : Int32) then
  P_X7_nearest_122 (P_X7_nearest_20 f) I a1 a3
  else
  if qc_in ((0 : Int32) + a3) 79 then
  if qc_in ((0 : Int32) + a1) 79 then
  (P_X7_without ((I 13 ((0 : Int32) + a3).toNatClampNeg) - (I 13 ((0 : Int32) + a1).toNatClampNeg))).bind fun q15 =>
  if qc_in ((0 : Int32) + a2) 79 then
  if qc_in ((0 : Int32) + a1) 79 then
  (P_X7_without ((I 13 ((0 : Int32) + a2).toNatClampNeg) - (I 13 ((0 : Int32) + a1).toNatClampNeg))).bind fun q18 =>
  if q18 ≤ q15 then
  P_X7_nearest_124 (P_X7_nearest_20 f) I a1 a2 a3
  else
  P_X7_nearest_122 (P_X7_nearest_20 f) I a1 a3
  else none
  else none
  else none
  else none
  else none
  else none)
  else
  P_X7_nearest_124 (P_X7_nearest_20 f) I a1 a2 a3
  else none
  else none
def P_X7_nearest (I : Nat → Nat → Int32) (a : Int32) : Option (Int32 × (Nat → Nat → Int32)) :=
  qc_let (qc_u2 I 0 0 (0 : Int32)) fun I20 =>
  (P_X7_isUser I20 a).bind fun q21 =>
  if q21 = 0 then
  some ((-1 : Int32), I20)
  else
  P_X7_nearest_20 qc_fu I20 a (-2 : Int32) (0 : Int32)
set_option maxRecDepth 20000 in
theorem c_X7_nearest {I : Nat → Nat → Int32} {J : Nat → Nat → Int64}  {a : Int32} {q0 : Int32 × (Nat → Nat → Int32)} (hP : P_X7_nearest I a = some q0) : ∀ l, qc_M l yX7_nearest cX7_nearest 4 (some .int) 2 41 0 0 [.ref 0, .int a] (I, J, shM) (some (.int q0.1)) (q0.2, J, shM) := by
  intro l
  refine qc_ent2 (by decide) (Nat.le_of_ble_eq_true rfl) ?_
  intro F hn0 cx hz
  have cx : qc_X F cX7_nearest RX7 "nearest" 2 0 0 41 := cx
  have L124 : ∀ (k20 : (Nat → Nat → Int32) → Int32 → Int32 → Int32 → Option (Int32 × (Nat → Nat → Int32))) (g20 : ∀ (I : Nat → Nat → Int32) (a1 : Int32) (a2 : Int32) (a3 : Int32), k20 I a1 a2 a3 = some q0 → qc_J F 0 0 20 [some (.ref 0), some (.int a1), some (.int a2), some (.int a3)] [] (I, J, shM)) (I : (Nat → Nat → Int32)) (a1 : Int32) (a2 : Int32) (a3 : Int32), P_X7_nearest_124 k20 I a1 a2 a3 = some q0 → qc_J F 0 0 124 [some (.ref 0), some (.int a1), some (.int a2), some (.int a3)] [] (I, J, shM) := by
    intro k20 g20 I a1 a2 a3 hP
    unfold P_X7_nearest_124 at hP
    obtain ⟨x1, ex1, hP⟩ := qc_letE hP
    refine qj_iinc (v := x1) (ls1 := [some (.ref 0), some (.int a1), some (.int a2), some (.int x1)]) cx dX7_nearest_124 rfl (by rw [ex1]; rfl) rfl rfl ?_
    refine qj_goto (tgt := 20) cx dX7_nearest_127 (by decide) ?_
    exact g20 I a1 a2 x1 hP
  have L122 : ∀ (k20 : (Nat → Nat → Int32) → Int32 → Int32 → Int32 → Option (Int32 × (Nat → Nat → Int32))) (g20 : ∀ (I : Nat → Nat → Int32) (a1 : Int32) (a2 : Int32) (a3 : Int32), k20 I a1 a2 a3 = some q0 → qc_J F 0 0 20 [some (.ref 0), some (.int a1), some (.int a2), some (.int a3)] [] (I, J, shM)) (I : (Nat → Nat → Int32)) (a1 : Int32) (a3 : Int32), P_X7_nearest_122 k20 I a1 a3 = some q0 → qc_J F 0 0 122 [some (.ref 0), some (.int a1), none, some (.int a3)] [] (I, J, shM) := by
    intro k20 g20 I a1 a3 hP
    unfold P_X7_nearest_122 at hP
    refine qj_iload_n cx dX7_nearest_122 rfl rfl ?_
    refine qj_istore_n (ls1 := [some (.ref 0), some (.int a1), some (.int a3), some (.int a3)]) cx dX7_nearest_123 rfl rfl rfl rfl ?_
    exact L124 k20 g20 I a1 a3 a3 hP
  have L20 : ∀  (f : Nat) (I : (Nat → Nat → Int32)) (a1 : Int32) (a2 : Int32) (a3 : Int32), P_X7_nearest_20 f I a1 a2 a3 = some q0 → qc_J F 0 0 20 [some (.ref 0), some (.int a1), some (.int a2), some (.int a3)] [] (I, J, shM) := by
    intro  f
    induction f with
    | zero => intro I a1 a2 a3 hP; cases hP
    | succ f ih =>
      intro I a1 a2 a3 hP
      rw [P_X7_nearest_20] at hP
      refine qj_iload_n cx dX7_nearest_20 rfl rfl ?_
      refine qj_aload_n cx dX7_nearest_21 rfl rfl ?_
      obtain ⟨q2, eq2, hP⟩ := Option.bind_eq_some_iff.mp hP
      refine qj_callV (As := []) (st := [.int a3]) (t := 0) (h' := (I, J, shM)) (r := some (.int q2)) cx dX7_nearest_22 (c_X7_users (I := I) (J := J)  eq2) gc_RX7_232 qm_X7_users rfl rfl qc_cl7 rfl (Nat.le_of_ble_eq_true rfl) (by decide) (by decide) rfl (Nat.le_of_ble_eq_true rfl) (Nat.le_of_ble_eq_true rfl) hn0 rfl ?_
      refine qj_icmp_ge (tgt := 130) cx dX7_nearest_25 (by decide) (fun c3 => ?_) (fun c3 => ?_)
      · have hP := qc_ifT hP c3
        refine qj_iload_n cx dX7_nearest_130 rfl rfl ?_
        exact qw_iret cx hz dX7_nearest_131 (Nat.zero_le _) (Nat.zero_le _) (congrArg (fun q => q.1) (Option.some.inj hP)) (congrArg (fun q => q.2) (Option.some.inj hP)) rfl
      · have hP := qc_ifF hP c3
        refine qj_iload_n cx dX7_nearest_28 rfl rfl ?_
        refine qj_iload_n cx dX7_nearest_29 rfl rfl ?_
        refine qj_icmp_eq (tgt := 124) cx dX7_nearest_30 (by decide) (fun c4 => ?_) (fun c4 => ?_)
        · have hP := qc_ifT hP c4
          exact L124 (P_X7_nearest_20 f) ih I a1 a2 a3 hP
        · have hP := qc_ifF hP c4
          refine qj_aload_n cx dX7_nearest_33 rfl rfl ?_
          refine qw_getR (j := 6) (t1 := 5) cx dX7_nearest_34 qc_cl7 rfl (Nat.le_of_ble_eq_true rfl) rfl ww_1098 rfl ?_
          refine qj_iload_n cx dX7_nearest_37 rfl rfl ?_
          obtain ⟨c5, hP⟩ := qc_ck hP
          refine qw_iald cx dX7_nearest_38 rfl (Nat.le_of_ble_eq_true rfl) rfl c5 ?_
          refine qj_aload_n cx dX7_nearest_39 rfl rfl ?_
          refine qw_getR (j := 6) (t1 := 5) cx dX7_nearest_40 qc_cl7 rfl (Nat.le_of_ble_eq_true rfl) rfl ww_1098 rfl ?_
          refine qj_iload_n cx dX7_nearest_43 rfl rfl ?_
          obtain ⟨c6, hP⟩ := qc_ck hP
          refine qw_iald cx dX7_nearest_44 rfl (Nat.le_of_ble_eq_true rfl) rfl c6 ?_
          refine qj_icmp_ne (tgt := 124) cx dX7_nearest_45 (by decide) (fun c7 => ?_) (fun c7 => ?_)
          · have hP := qc_ifF hP c7
            exact L124 (P_X7_nearest_20 f) ih I a1 a2 a3 hP
          · have hP := qc_ifT hP c7
            refine qj_aload_n cx dX7_nearest_48 rfl rfl ?_
            refine qw_getR (j := 25) (t1 := 13) cx dX7_nearest_49 qc_cl7 rfl (Nat.le_of_ble_eq_true rfl) rfl ww_1117 rfl ?_
            refine qj_iconst (v := (0 : Int32)) cx dX7_nearest_52 (by decide) ?_
            refine qj_iload_n cx dX7_nearest_53 rfl rfl ?_
            refine qj_iadd cx dX7_nearest_54 ?_
            obtain ⟨c8, hP⟩ := qc_ck hP
            refine qw_iald cx dX7_nearest_55 rfl (Nat.le_of_ble_eq_true rfl) rfl c8 ?_
            refine qj_if_eq (tgt := 124) cx dX7_nearest_56 (by decide) (fun c9 => ?_) (fun c9 => ?_)
            · have hP := qc_ifT hP c9
              exact L124 (P_X7_nearest_20 f) ih I a1 a2 a3 hP
            · have hP := qc_ifF hP c9
              refine qj_aload_n cx dX7_nearest_59 rfl rfl ?_
              refine qw_getR (j := 25) (t1 := 13) cx dX7_nearest_60 qc_cl7 rfl (Nat.le_of_ble_eq_true rfl) rfl ww_1117 rfl ?_
              refine qj_iconst (v := (0 : Int32)) cx dX7_nearest_63 (by decide) ?_
              refine qj_iload_n cx dX7_nearest_64 rfl rfl ?_
              refine qj_iadd cx dX7_nearest_65 ?_
              obtain ⟨c10, hP⟩ := qc_ck hP
              refine qw_iald cx dX7_nearest_66 rfl (Nat.le_of_ble_eq_true rfl) rfl c10 ?_
              refine qj_if_ne (tgt := 73) cx dX7_nearest_67 (by decide) (fun c11 => ?_) (fun c11 => ?_)
              · have hP := qc_ifF hP c11
                refine qj_iload_n cx dX7_nearest_73 rfl rfl ?_
                refine qj_bipush (v := (-2 : Int32)) cx dX7_nearest_74 (by decide) ?_
                refine qj_icmp_eq (tgt := 122) cx dX7_nearest_76 (by decide) (fun c12 => ?_) (fun c12 => ?_)
                · have hP := qc_ifT hP c12
                  refine qw_sub (ls1 := [some (.ref 0), some (.int a1), none, some (.int a3)]) rfl (qc_sb_ok ⟨rfl, rfl, rfl, trivial⟩) ?_
                  exact L122 (P_X7_nearest_20 f) ih I a1 a3 hP
                · have hP := qc_ifF hP c12
                  refine qj_aload_n cx dX7_nearest_79 rfl rfl ?_
                  refine qw_getR (j := 25) (t1 := 13) cx dX7_nearest_80 qc_cl7 rfl (Nat.le_of_ble_eq_true rfl) rfl ww_1117 rfl ?_
                  refine qj_iconst (v := (0 : Int32)) cx dX7_nearest_83 (by decide) ?_
                  refine qj_iload_n cx dX7_nearest_84 rfl rfl ?_
                  refine qj_iadd cx dX7_nearest_85 ?_
                  obtain ⟨c13, hP⟩ := qc_ck hP
                  refine qw_iald cx dX7_nearest_86 rfl (Nat.le_of_ble_eq_true rfl) rfl c13 ?_
                  refine qj_aload_n cx dX7_nearest_87 rfl rfl ?_
                  refine qw_getR (j := 25) (t1 := 13) cx dX7_nearest_88 qc_cl7 rfl (Nat.le_of_ble_eq_true rfl) rfl ww_1117 rfl ?_
                  refine qj_iconst (v := (0 : Int32)) cx dX7_nearest_91 (by decide) ?_
                  refine qj_iload_n cx dX7_nearest_92 rfl rfl ?_
                  refine qj_iadd cx dX7_nearest_93 ?_
                  obtain ⟨c14, hP⟩ := qc_ck hP
                  refine qw_iald cx dX7_nearest_94 rfl (Nat.le_of_ble_eq_true rfl) rfl c14 ?_
                  refine qj_isub cx dX7_nearest_95 ?_
                  obtain ⟨q15, eq15, hP⟩ := Option.bind_eq_some_iff.mp hP
                  refine qj_callS (As := [.int ((I 13 ((0 : Int32) + a3).toNatClampNeg) - (I 13 ((0 : Int32) + a1).toNatClampNeg))]) (st := []) (h' := (I, J, shM)) (r := some (.int q15)) cx dX7_nearest_96 (c_X7_without (S := shM) (I := I) (J := J) eq15) gc_RX7_274 qm_X7_without rfl (by decide) (by decide) rfl (Nat.le_of_ble_eq_true rfl) (Nat.le_of_ble_eq_true rfl) hn0 rfl ?_
                  refine qj_aload_n cx dX7_nearest_99 rfl rfl ?_
                  refine qw_getR (j := 25) (t1 := 13) cx dX7_nearest_100 qc_cl7 rfl (Nat.le_of_ble_eq_true rfl) rfl ww_1117 rfl ?_
                  refine qj_iconst (v := (0 : Int32)) cx dX7_nearest_103 (by decide) ?_
                  refine qj_iload_n cx dX7_nearest_104 rfl rfl ?_
                  refine qj_iadd cx dX7_nearest_105 ?_
                  obtain ⟨c16, hP⟩ := qc_ck hP
                  refine qw_iald cx dX7_nearest_106 rfl (Nat.le_of_ble_eq_true rfl) rfl c16 ?_
                  refine qj_aload_n cx dX7_nearest_107 rfl rfl ?_
                  refine qw_getR (j := 25) (t1 := 13) cx dX7_nearest_108 qc_cl7 rfl (Nat.le_of_ble_eq_true rfl) rfl ww_1117 rfl ?_
                  refine qj_iconst (v := (0 : Int32)) cx dX7_nearest_111 (by decide) ?_
                  refine qj_iload_n cx dX7_nearest_112 rfl rfl ?_
                  refine qj_iadd cx dX7_nearest_113 ?_
                  obtain ⟨c17, hP⟩ := qc_ck hP
                  refine qw_iald cx dX7_nearest_114 rfl (Nat.le_of_ble_eq_true rfl) rfl c17 ?_
                  refine qj_isub cx dX7_nearest_115 ?_
                  obtain ⟨q18, eq18, hP⟩ := Option.bind_eq_some_iff.mp hP
                  refine qj_callS (As := [.int ((I 13 ((0 : Int32) + a2).toNatClampNeg) - (I 13 ((0 : Int32) + a1).toNatClampNeg))]) (st := [.int q15]) (h' := (I, J, shM)) (r := some (.int q18)) cx dX7_nearest_116 (c_X7_without (S := shM) (I := I) (J := J) eq18) gc_RX7_274 qm_X7_without rfl (by decide) (by decide) rfl (Nat.le_of_ble_eq_true rfl) (Nat.le_of_ble_eq_true rfl) hn0 rfl ?_
                  refine qj_icmp_ge (tgt := 124) cx dX7_nearest_119 (by decide) (fun c19 => ?_) (fun c19 => ?_)
                  · have hP := qc_ifT hP c19
                    exact L124 (P_X7_nearest_20 f) ih I a1 a2 a3 hP
                  · have hP := qc_ifF hP c19
                    refine qw_sub (ls1 := [some (.ref 0), some (.int a1), none, some (.int a3)]) rfl (qc_sb_ok ⟨rfl, rfl, rfl, trivial⟩) ?_
                    exact L122 (P_X7_nearest_20 f) ih I a1 a3 hP
              · have hP := qc_ifT hP c11
                refine qj_goto (tgt := 124) cx dX7_nearest_70 (by decide) ?_
                exact L124 (P_X7_nearest_20 f) ih I a1 a2 a3 hP
  show qc_J F 0 0 0 [some (.ref 0), some (.int a), none, none] [] (I, J, shM)
  unfold P_X7_nearest at hP
  refine qj_aload_n cx dX7_nearest_0 rfl rfl ?_
  refine qj_iconst (v := (0 : Int32)) cx dX7_nearest_1 (by decide) ?_
  obtain ⟨I20, eI20, hP⟩ := qc_letE hP
  refine qw_putI (j := 0) cx dX7_nearest_2 qc_cl7 rfl (Nat.le_of_ble_eq_true rfl) rfl ww_1092 rfl rfl rfl eI20 ?_
  refine qj_aload_n cx dX7_nearest_5 rfl rfl ?_
  refine qj_iload_n cx dX7_nearest_6 rfl rfl ?_
  obtain ⟨q21, eq21, hP⟩ := Option.bind_eq_some_iff.mp hP
  refine qj_callV (As := [.int a]) (st := []) (t := 0) (h' := (I20, J, shM)) (r := some (.int q21)) cx dX7_nearest_7 (c_X7_isUser (I := I20) (J := J)  eq21) gc_RX7_259 qm_X7_isUser rfl rfl qc_cl7 rfl (Nat.le_of_ble_eq_true rfl) (by decide) (by decide) rfl (Nat.le_of_ble_eq_true rfl) (Nat.le_of_ble_eq_true rfl) hn0 rfl ?_
  refine qj_if_ne (tgt := 15) cx dX7_nearest_10 (by decide) (fun c22 => ?_) (fun c22 => ?_)
  · have hP := qc_ifF hP c22
    refine qj_bipush (v := (-2 : Int32)) cx dX7_nearest_15 (by decide) ?_
    refine qj_istore_n (ls1 := [some (.ref 0), some (.int a), some (.int (-2 : Int32)), none]) cx dX7_nearest_17 rfl rfl rfl rfl ?_
    refine qj_iconst (v := (0 : Int32)) cx dX7_nearest_18 (by decide) ?_
    refine qj_istore_n (ls1 := [some (.ref 0), some (.int a), some (.int (-2 : Int32)), some (.int (0 : Int32))]) cx dX7_nearest_19 rfl rfl rfl rfl ?_
    exact L20 qc_fu I20 a (-2 : Int32) (0 : Int32) hP
  · have hP := qc_ifT hP c22
    refine qj_iconst (v := (-1 : Int32)) cx dX7_nearest_13 (by decide) ?_
    exact qw_iret cx hz dX7_nearest_14 (Nat.zero_le _) (Nat.zero_le _) (congrArg (fun q => q.1) (Option.some.inj hP)) (congrArg (fun q => q.2) (Option.some.inj hP)) rfl
def P_X7_mostSpace_38  (I : (Nat → Nat → Int32)) : Option (Int32 × (Nat → Nat → Int32)) :=
  (if I 0 32 = 0 then
  some (-2 : Int32)
  else
  some (I 0 32)).bind fun v2 =>
  (P_X7_asTold I).bind fun q3 =>
  some (v2, q3)
def P_X7_mostSpace_11  : Nat → (Nat → Nat → Int32) → Option (Int32 × (Nat → Nat → Int32))
  | 0, _ => none
  | f + 1, I =>
  if I 0 32 ≤ 0 then
  P_X7_mostSpace_38 I
  else
  (P_X7_allCrowds I).bind fun q5 =>
  if q5 ≤ 0 then
  P_X7_mostSpace_38 I
  else
  qc_let (qc_u2 I 0 32 ((I 0 32) - (1 : Int32))) fun I7 =>
  P_X7_mostSpace_11 f I7
def P_X7_mostSpace (I : Nat → Nat → Int32) : Option (Int32 × (Nat → Nat → Int32)) :=
  qc_let (qc_u2 I 0 0 (0 : Int32)) fun I8 =>
  qc_let (qc_u2 I8 0 32 (20 : Int32)) fun I9 =>
  P_X7_mostSpace_11 qc_fu I9
set_option maxRecDepth 20000 in
theorem c_X7_mostSpace {I : Nat → Nat → Int32} {J : Nat → Nat → Int64}   {q0 : Int32 × (Nat → Nat → Int32)} (hP : P_X7_mostSpace I = some q0) : ∀ l, qc_M l yX7_mostSpace cX7_mostSpace 2 (some .int) 4 87 0 0 [.ref 0] (I, J, shM) (some (.int q0.1)) (q0.2, J, shM) := by
  intro l
  refine qc_ent2 (by decide) (Nat.le_of_ble_eq_true rfl) ?_
  intro F hn0 cx hz
  have cx : qc_X F cX7_mostSpace RX7 "mostSpace" 4 0 0 87 := cx
  have L38 : ∀  (I : (Nat → Nat → Int32)), P_X7_mostSpace_38 I = some q0 → qc_J F 0 0 38 [some (.ref 0), none] [] (I, J, shM) := by
    intro I hP
    unfold P_X7_mostSpace_38 at hP
    refine qj_aload_n cx dX7_mostSpace_38 rfl rfl ?_
    refine qw_getI (j := 32) cx dX7_mostSpace_39 qc_cl7 rfl (Nat.le_of_ble_eq_true rfl) rfl ww_1124 ?_
    obtain ⟨v2, hv2, hP⟩ := Option.bind_eq_some_iff.mp hP
    have Kv2 : qc_J F 0 0 54 [some (.ref 0), none] [.int v2] (I, J, shM) := by
      refine qj_istore_n (ls1 := [some (.ref 0), some (.int v2)]) cx dX7_mostSpace_54 rfl rfl rfl rfl ?_
      refine qj_aload_n cx dX7_mostSpace_55 rfl rfl ?_
      obtain ⟨q3, eq3, hP⟩ := Option.bind_eq_some_iff.mp hP
      refine qj_callV (As := []) (st := []) (t := 0) (h' := (q3, J, shM)) (r := none) cx dX7_mostSpace_56 (c_X7_asTold (I := I) (J := J)  eq3) gc_RX7_235 qm_X7_asTold rfl rfl qc_cl7 rfl (Nat.le_of_ble_eq_true rfl) (by decide) (by decide) rfl (Nat.le_of_ble_eq_true rfl) (Nat.le_of_ble_eq_true rfl) hn0 rfl ?_
      refine qj_iload_n cx dX7_mostSpace_59 rfl rfl ?_
      exact qw_iret cx hz dX7_mostSpace_60 (Nat.zero_le _) (Nat.zero_le _) (congrArg (fun q => q.1) (Option.some.inj hP)) (congrArg (fun q => q.2) (Option.some.inj hP)) rfl
    refine qj_if_ne (tgt := 50) cx dX7_mostSpace_42 (by decide) (fun c1 => ?_) (fun c1 => ?_)
    · have hv2 := qc_ifF hv2 c1
      refine qj_aload_n cx dX7_mostSpace_50 rfl rfl ?_
      refine qw_getI (j := 32) cx dX7_mostSpace_51 qc_cl7 rfl (Nat.le_of_ble_eq_true rfl) rfl ww_1124 ?_
      exact qw_top (Option.some.inj hv2).symm Kv2
    · have hv2 := qc_ifT hv2 c1
      refine qj_bipush (v := (-2 : Int32)) cx dX7_mostSpace_45 (by decide) ?_
      refine qj_goto (tgt := 54) cx dX7_mostSpace_47 (by decide) ?_
      exact qw_top (Option.some.inj hv2).symm Kv2
  have L11 : ∀  (f : Nat) (I : (Nat → Nat → Int32)), P_X7_mostSpace_11 f I = some q0 → qc_J F 0 0 11 [some (.ref 0), none] [] (I, J, shM) := by
    intro  f
    induction f with
    | zero => intro I hP; cases hP
    | succ f ih =>
      intro I hP
      rw [P_X7_mostSpace_11] at hP
      refine qj_aload_n cx dX7_mostSpace_11 rfl rfl ?_
      refine qw_getI (j := 32) cx dX7_mostSpace_12 qc_cl7 rfl (Nat.le_of_ble_eq_true rfl) rfl ww_1124 ?_
      refine qj_if_le (tgt := 38) cx dX7_mostSpace_15 (by decide) (fun c4 => ?_) (fun c4 => ?_)
      · have hP := qc_ifT hP c4
        exact L38 I hP
      · have hP := qc_ifF hP c4
        refine qj_aload_n cx dX7_mostSpace_18 rfl rfl ?_
        obtain ⟨q5, eq5, hP⟩ := Option.bind_eq_some_iff.mp hP
        refine qj_callV (As := []) (st := []) (t := 0) (h' := (I, J, shM)) (r := some (.int q5)) cx dX7_mostSpace_19 (c_X7_allCrowds (I := I) (J := J)  eq5) gc_RX7_384 qm_X7_allCrowds rfl rfl qc_cl7 rfl (Nat.le_of_ble_eq_true rfl) (by decide) (by decide) rfl (Nat.le_of_ble_eq_true rfl) (Nat.le_of_ble_eq_true rfl) hn0 rfl ?_
        refine qj_if_le (tgt := 38) cx dX7_mostSpace_22 (by decide) (fun c6 => ?_) (fun c6 => ?_)
        · have hP := qc_ifT hP c6
          exact L38 I hP
        · have hP := qc_ifF hP c6
          refine qj_aload_n cx dX7_mostSpace_25 rfl rfl ?_
          refine qj_dup cx dX7_mostSpace_26 rfl ?_
          refine qw_getI (j := 32) cx dX7_mostSpace_27 qc_cl7 rfl (Nat.le_of_ble_eq_true rfl) rfl ww_1124 ?_
          refine qj_iconst (v := (1 : Int32)) cx dX7_mostSpace_30 (by decide) ?_
          refine qj_isub cx dX7_mostSpace_31 ?_
          obtain ⟨I7, eI7, hP⟩ := qc_letE hP
          refine qw_putI (j := 32) cx dX7_mostSpace_32 qc_cl7 rfl (Nat.le_of_ble_eq_true rfl) rfl ww_1124 rfl rfl rfl eI7 ?_
          refine qj_goto (tgt := 11) cx dX7_mostSpace_35 (by decide) ?_
          exact ih I7 hP
  show qc_J F 0 0 0 [some (.ref 0), none] [] (I, J, shM)
  unfold P_X7_mostSpace at hP
  refine qj_aload_n cx dX7_mostSpace_0 rfl rfl ?_
  refine qj_iconst (v := (0 : Int32)) cx dX7_mostSpace_1 (by decide) ?_
  obtain ⟨I8, eI8, hP⟩ := qc_letE hP
  refine qw_putI (j := 0) cx dX7_mostSpace_2 qc_cl7 rfl (Nat.le_of_ble_eq_true rfl) rfl ww_1092 rfl rfl rfl eI8 ?_
  refine qj_aload_n cx dX7_mostSpace_5 rfl rfl ?_
  refine qj_bipush (v := (20 : Int32)) cx dX7_mostSpace_6 (by decide) ?_
  obtain ⟨I9, eI9, hP⟩ := qc_letE hP
  refine qw_putI (j := 32) cx dX7_mostSpace_8 qc_cl7 rfl (Nat.le_of_ble_eq_true rfl) rfl ww_1124 rfl rfl rfl eI9 ?_
  exact L11 qc_fu I9 hP
def P_X7_draw (I : Nat → Nat → Int32) (a : Int32) : Option (Int32 × (Nat → Nat → Int32)) :=
  qc_let (qc_u2 I 0 44 ((((I 0 44) * (1103515245 : Int32)) + (12345 : Int32)) &&& (2147483647 : Int32))) fun I1 =>
  if a = 0 then none else
  some (((I1 0 44) >>> ((16 : Int32) &&& 31)) - ((I1 0 44) >>> ((16 : Int32) &&& 31)) / a * a, I1)
set_option maxRecDepth 20000 in
theorem c_X7_draw {I : Nat → Nat → Int32} {J : Nat → Nat → Int64}  {a : Int32} {q0 : Int32 × (Nat → Nat → Int32)} (hP : P_X7_draw I a = some q0) : ∀ l, qc_M l yX7_draw cX7_draw 2 (some .int) 0 0 0 0 [.ref 0, .int a] (I, J, shM) (some (.int q0.1)) (q0.2, J, shM) := by
  intro l
  refine qc_ent2 (by decide) (Nat.le_of_ble_eq_true rfl) ?_
  intro F hn0 cx hz
  have cx : qc_X F cX7_draw RX7 "draw" 0 0 0 0 := cx
  show qc_J F 0 0 0 [some (.ref 0), some (.int a)] [] (I, J, shM)
  unfold P_X7_draw at hP
  refine qj_aload_n cx dX7_draw_0 rfl rfl ?_
  refine qj_aload_n cx dX7_draw_1 rfl rfl ?_
  refine qw_getI (j := 44) cx dX7_draw_2 qc_cl7 rfl (Nat.le_of_ble_eq_true rfl) rfl ww_1136 ?_
  refine qj_ldcw cx dX7_draw_5 ww_1750 ?_
  refine qj_imul cx dX7_draw_8 ?_
  refine qj_sipush (v := (12345 : Int32)) cx dX7_draw_9 (by decide) ?_
  refine qj_iadd cx dX7_draw_12 ?_
  refine qj_ldcw cx dX7_draw_13 ww_1751 ?_
  refine qj_iand cx dX7_draw_16 ?_
  obtain ⟨I1, eI1, hP⟩ := qc_letE hP
  refine qw_putI (j := 44) cx dX7_draw_17 qc_cl7 rfl (Nat.le_of_ble_eq_true rfl) rfl ww_1136 rfl rfl rfl eI1 ?_
  refine qj_aload_n cx dX7_draw_20 rfl rfl ?_
  refine qw_getI (j := 44) cx dX7_draw_21 qc_cl7 rfl (Nat.le_of_ble_eq_true rfl) rfl ww_1136 ?_
  refine qj_bipush (v := (16 : Int32)) cx dX7_draw_24 (by decide) ?_
  refine qj_ishr cx dX7_draw_26 ?_
  refine qj_iload_n cx dX7_draw_27 rfl rfl ?_
  by_cases c2 : a = 0
  · have hP := qc_ifT hP c2; cases hP
  have hP := qc_ifF hP c2
  refine qj_irem cx dX7_draw_28 c2 ?_
  exact qw_iret cx hz dX7_draw_29 (Nat.zero_le _) (Nat.zero_le _) (congrArg (fun q => q.1) (Option.some.inj hP)) (congrArg (fun q => q.2) (Option.some.inj hP)) rfl
def P_X7_blockedMany_4 (I : Nat → Nat → Int32) : Nat → Int32 → Int32 → Option (Int32)
  | 0, _, _ => none
  | f + 1, a1, a2 =>
  if I 2 0 < a2 then
  some a1
  else
  if qc_in ((12 : Int32) + a2) 79 then
  qc_let (a1 + (I 13 ((12 : Int32) + a2).toNatClampNeg)) fun x3 =>
  qc_let (a2 + (1 : Int32)) fun x4 =>
  P_X7_blockedMany_4 I f x3 x4
  else none
def P_X7_blockedMany (I : Nat → Nat → Int32) : Option (Int32) :=
  P_X7_blockedMany_4 I qc_fu (0 : Int32) (1 : Int32)
set_option maxRecDepth 20000 in
theorem c_X7_blockedMany {I : Nat → Nat → Int32} {J : Nat → Nat → Int64}   {q0 : Int32} (hP : P_X7_blockedMany I = some q0) : ∀ l, qc_M l yX7_blockedMany cX7_blockedMany 3 (some .int) 0 0 0 0 [.ref 0] (I, J, shM) (some (.int q0)) (I, J, shM) := by
  intro l
  refine qc_ent2 (by decide) (Nat.le_of_ble_eq_true rfl) ?_
  intro F hn0 cx hz
  have cx : qc_X F cX7_blockedMany RX7 "blockedMany" 0 0 0 0 := cx
  have L4 : ∀  (f : Nat) (a1 : Int32) (a2 : Int32), P_X7_blockedMany_4 I f a1 a2 = some q0 → qc_J F 0 0 4 [some (.ref 0), some (.int a1), some (.int a2)] [] (I, J, shM) := by
    intro  f
    induction f with
    | zero => intro a1 a2 hP; cases hP
    | succ f ih =>
      intro a1 a2 hP
      rw [P_X7_blockedMany_4] at hP
      refine qj_iload_n cx dX7_blockedMany_4 rfl rfl ?_
      refine qj_aload_n cx dX7_blockedMany_5 rfl rfl ?_
      refine qw_getR (j := 3) (t1 := 2) cx dX7_blockedMany_6 qc_cl7 rfl (Nat.le_of_ble_eq_true rfl) rfl ww_1095 rfl ?_
      refine qj_iconst (v := (0 : Int32)) cx dX7_blockedMany_9 (by decide) ?_
      refine qw_iald cx dX7_blockedMany_10 rfl (Nat.le_of_ble_eq_true rfl) rfl (by decide) ?_
      refine qj_icmp_gt (tgt := 32) cx dX7_blockedMany_11 (by decide) (fun c1 => ?_) (fun c1 => ?_)
      · have hP := qc_ifT hP c1
        refine qj_iload_n cx dX7_blockedMany_32 rfl rfl ?_
        exact qw_iret cx hz dX7_blockedMany_33 (Nat.zero_le _) (Nat.zero_le _) (Option.some.inj hP) rfl rfl
      · have hP := qc_ifF hP c1
        refine qj_iload_n cx dX7_blockedMany_14 rfl rfl ?_
        refine qj_aload_n cx dX7_blockedMany_15 rfl rfl ?_
        refine qw_getR (j := 25) (t1 := 13) cx dX7_blockedMany_16 qc_cl7 rfl (Nat.le_of_ble_eq_true rfl) rfl ww_1117 rfl ?_
        refine qj_bipush (v := (12 : Int32)) cx dX7_blockedMany_19 (by decide) ?_
        refine qj_iload_n cx dX7_blockedMany_21 rfl rfl ?_
        refine qj_iadd cx dX7_blockedMany_22 ?_
        obtain ⟨c2, hP⟩ := qc_ck hP
        refine qw_iald cx dX7_blockedMany_23 rfl (Nat.le_of_ble_eq_true rfl) rfl c2 ?_
        refine qj_iadd cx dX7_blockedMany_24 ?_
        obtain ⟨x3, ex3, hP⟩ := qc_letE hP
        refine qw_top ex3 ?_
        refine qj_istore_n (ls1 := [some (.ref 0), some (.int x3), some (.int a2)]) cx dX7_blockedMany_25 rfl rfl rfl rfl ?_
        obtain ⟨x4, ex4, hP⟩ := qc_letE hP
        refine qj_iinc (v := x4) (ls1 := [some (.ref 0), some (.int x3), some (.int x4)]) cx dX7_blockedMany_26 rfl (by rw [ex4]; rfl) rfl rfl ?_
        refine qj_goto (tgt := 4) cx dX7_blockedMany_29 (by decide) ?_
        exact ih x3 x4 hP
  show qc_J F 0 0 0 [some (.ref 0), none, none] [] (I, J, shM)
  unfold P_X7_blockedMany at hP
  refine qj_iconst (v := (0 : Int32)) cx dX7_blockedMany_0 (by decide) ?_
  refine qj_istore_n (ls1 := [some (.ref 0), some (.int (0 : Int32)), none]) cx dX7_blockedMany_1 rfl rfl rfl rfl ?_
  refine qj_iconst (v := (1 : Int32)) cx dX7_blockedMany_2 (by decide) ?_
  refine qj_istore_n (ls1 := [some (.ref 0), some (.int (0 : Int32)), some (.int (1 : Int32))]) cx dX7_blockedMany_3 rfl rfl rfl rfl ?_
  exact L4 qc_fu (0 : Int32) (1 : Int32) hP
def P_X7_count (I : Nat → Nat → Int32) (a : Int32) : Option (Int32 × (Nat → Nat → Int32)) :=
  qc_let (qc_u2 I 0 0 (0 : Int32)) fun I1 =>
  if a = (0 : Int32) then
  (P_X7_users I1).bind fun q3 =>
  some (q3, I1)
  else if a = (1 : Int32) then
  some (I1 2 0, I1)
  else if a = (2 : Int32) then
  some (I1 2 1, I1)
  else if a = (3 : Int32) then
  some (I1 2 2, I1)
  else if a = (4 : Int32) then
  some (I1 2 3, I1)
  else if a = (5 : Int32) then
  (P_X7_blockedMany I1).bind fun q9 =>
  some (q9, I1)
  else if a = (6 : Int32) then
  (P_X7_tuned I1).bind fun q11 =>
  some (q11, I1)
  else if a = (7 : Int32) then
  some (I1 0 28, I1)
  else if a = (8 : Int32) then
  some (I1 0 2, I1)
  else 
  some ((-1 : Int32), I1)
set_option maxRecDepth 20000 in
theorem c_X7_count {I : Nat → Nat → Int32} {J : Nat → Nat → Int64}  {a : Int32} {q0 : Int32 × (Nat → Nat → Int32)} (hP : P_X7_count I a = some q0) : ∀ l, qc_M l yX7_count cX7_count 2 (some .int) 2 42 0 0 [.ref 0, .int a] (I, J, shM) (some (.int q0.1)) (q0.2, J, shM) := by
  intro l
  refine qc_ent2 (by decide) (Nat.le_of_ble_eq_true rfl) ?_
  intro F hn0 cx hz
  have cx : qc_X F cX7_count RX7 "count" 2 0 0 42 := cx
  show qc_J F 0 0 0 [some (.ref 0), some (.int a)] [] (I, J, shM)
  unfold P_X7_count at hP
  refine qj_aload_n cx dX7_count_0 rfl rfl ?_
  refine qj_iconst (v := (0 : Int32)) cx dX7_count_1 (by decide) ?_
  obtain ⟨I1, eI1, hP⟩ := qc_letE hP
  refine qw_putI (j := 0) cx dX7_count_2 qc_cl7 rfl (Nat.le_of_ble_eq_true rfl) rfl ww_1092 rfl rfl rfl eI1 ?_
  refine qj_iload_n cx dX7_count_5 rfl rfl ?_
  by_cases c2 : a = (0 : Int32)
  · have hP := qc_ifT hP c2
    refine qj_tableIn (off := 50) (tgt := 56) cx dX7_count_6 (by rw [c2]; decide) (by rw [c2]; decide) (by rw [c2]; rfl) (by decide) ?_
    refine qj_aload_n cx dX7_count_56 rfl rfl ?_
    obtain ⟨q3, eq3, hP⟩ := Option.bind_eq_some_iff.mp hP
    refine qj_callV (As := []) (st := []) (t := 0) (h' := (I1, J, shM)) (r := some (.int q3)) cx dX7_count_57 (c_X7_users (I := I1) (J := J)  eq3) gc_RX7_232 qm_X7_users rfl rfl qc_cl7 rfl (Nat.le_of_ble_eq_true rfl) (by decide) (by decide) rfl (Nat.le_of_ble_eq_true rfl) (Nat.le_of_ble_eq_true rfl) hn0 rfl ?_
    exact qw_iret cx hz dX7_count_60 (Nat.zero_le _) (Nat.zero_le _) (congrArg (fun q => q.1) (Option.some.inj hP)) (congrArg (fun q => q.2) (Option.some.inj hP)) rfl
  have hP := qc_ifF hP c2
  by_cases c4 : a = (1 : Int32)
  · have hP := qc_ifT hP c4
    refine qj_tableIn (off := 55) (tgt := 61) cx dX7_count_6 (by rw [c4]; decide) (by rw [c4]; decide) (by rw [c4]; rfl) (by decide) ?_
    refine qj_aload_n cx dX7_count_61 rfl rfl ?_
    refine qw_getR (j := 3) (t1 := 2) cx dX7_count_62 qc_cl7 rfl (Nat.le_of_ble_eq_true rfl) rfl ww_1095 rfl ?_
    refine qj_iconst (v := (0 : Int32)) cx dX7_count_65 (by decide) ?_
    refine qw_iald cx dX7_count_66 rfl (Nat.le_of_ble_eq_true rfl) rfl (by decide) ?_
    exact qw_iret cx hz dX7_count_67 (Nat.zero_le _) (Nat.zero_le _) (congrArg (fun q => q.1) (Option.some.inj hP)) (congrArg (fun q => q.2) (Option.some.inj hP)) rfl
  have hP := qc_ifF hP c4
  by_cases c5 : a = (2 : Int32)
  · have hP := qc_ifT hP c5
    refine qj_tableIn (off := 62) (tgt := 68) cx dX7_count_6 (by rw [c5]; decide) (by rw [c5]; decide) (by rw [c5]; rfl) (by decide) ?_
    refine qj_aload_n cx dX7_count_68 rfl rfl ?_
    refine qw_getR (j := 3) (t1 := 2) cx dX7_count_69 qc_cl7 rfl (Nat.le_of_ble_eq_true rfl) rfl ww_1095 rfl ?_
    refine qj_iconst (v := (1 : Int32)) cx dX7_count_72 (by decide) ?_
    refine qw_iald cx dX7_count_73 rfl (Nat.le_of_ble_eq_true rfl) rfl (by decide) ?_
    exact qw_iret cx hz dX7_count_74 (Nat.zero_le _) (Nat.zero_le _) (congrArg (fun q => q.1) (Option.some.inj hP)) (congrArg (fun q => q.2) (Option.some.inj hP)) rfl
  have hP := qc_ifF hP c5
  by_cases c6 : a = (3 : Int32)
  · have hP := qc_ifT hP c6
    refine qj_tableIn (off := 69) (tgt := 75) cx dX7_count_6 (by rw [c6]; decide) (by rw [c6]; decide) (by rw [c6]; rfl) (by decide) ?_
    refine qj_aload_n cx dX7_count_75 rfl rfl ?_
    refine qw_getR (j := 3) (t1 := 2) cx dX7_count_76 qc_cl7 rfl (Nat.le_of_ble_eq_true rfl) rfl ww_1095 rfl ?_
    refine qj_iconst (v := (2 : Int32)) cx dX7_count_79 (by decide) ?_
    refine qw_iald cx dX7_count_80 rfl (Nat.le_of_ble_eq_true rfl) rfl (by decide) ?_
    exact qw_iret cx hz dX7_count_81 (Nat.zero_le _) (Nat.zero_le _) (congrArg (fun q => q.1) (Option.some.inj hP)) (congrArg (fun q => q.2) (Option.some.inj hP)) rfl
  have hP := qc_ifF hP c6
  by_cases c7 : a = (4 : Int32)
  · have hP := qc_ifT hP c7
    refine qj_tableIn (off := 76) (tgt := 82) cx dX7_count_6 (by rw [c7]; decide) (by rw [c7]; decide) (by rw [c7]; rfl) (by decide) ?_
    refine qj_aload_n cx dX7_count_82 rfl rfl ?_
    refine qw_getR (j := 3) (t1 := 2) cx dX7_count_83 qc_cl7 rfl (Nat.le_of_ble_eq_true rfl) rfl ww_1095 rfl ?_
    refine qj_iconst (v := (3 : Int32)) cx dX7_count_86 (by decide) ?_
    refine qw_iald cx dX7_count_87 rfl (Nat.le_of_ble_eq_true rfl) rfl (by decide) ?_
    exact qw_iret cx hz dX7_count_88 (Nat.zero_le _) (Nat.zero_le _) (congrArg (fun q => q.1) (Option.some.inj hP)) (congrArg (fun q => q.2) (Option.some.inj hP)) rfl
  have hP := qc_ifF hP c7
  by_cases c8 : a = (5 : Int32)
  · have hP := qc_ifT hP c8
    refine qj_tableIn (off := 83) (tgt := 89) cx dX7_count_6 (by rw [c8]; decide) (by rw [c8]; decide) (by rw [c8]; rfl) (by decide) ?_
    refine qj_aload_n cx dX7_count_89 rfl rfl ?_
    obtain ⟨q9, eq9, hP⟩ := Option.bind_eq_some_iff.mp hP
    refine qj_callV (As := []) (st := []) (t := 0) (h' := (I1, J, shM)) (r := some (.int q9)) cx dX7_count_90 (c_X7_blockedMany (I := I1) (J := J)  eq9) gc_RX7_416 qm_X7_blockedMany rfl rfl qc_cl7 rfl (Nat.le_of_ble_eq_true rfl) (by decide) (by decide) rfl (Nat.le_of_ble_eq_true rfl) (Nat.le_of_ble_eq_true rfl) hn0 rfl ?_
    exact qw_iret cx hz dX7_count_93 (Nat.zero_le _) (Nat.zero_le _) (congrArg (fun q => q.1) (Option.some.inj hP)) (congrArg (fun q => q.2) (Option.some.inj hP)) rfl
  have hP := qc_ifF hP c8
  by_cases c10 : a = (6 : Int32)
  · have hP := qc_ifT hP c10
    refine qj_tableIn (off := 88) (tgt := 94) cx dX7_count_6 (by rw [c10]; decide) (by rw [c10]; decide) (by rw [c10]; rfl) (by decide) ?_
    refine qj_aload_n cx dX7_count_94 rfl rfl ?_
    obtain ⟨q11, eq11, hP⟩ := Option.bind_eq_some_iff.mp hP
    refine qj_callV (As := []) (st := []) (t := 0) (h' := (I1, J, shM)) (r := some (.int q11)) cx dX7_count_95 (c_X7_tuned (I := I1) (J := J)  eq11) gc_RX7_256 qm_X7_tuned rfl rfl qc_cl7 rfl (Nat.le_of_ble_eq_true rfl) (by decide) (by decide) rfl (Nat.le_of_ble_eq_true rfl) (Nat.le_of_ble_eq_true rfl) hn0 rfl ?_
    exact qw_iret cx hz dX7_count_98 (Nat.zero_le _) (Nat.zero_le _) (congrArg (fun q => q.1) (Option.some.inj hP)) (congrArg (fun q => q.2) (Option.some.inj hP)) rfl
  have hP := qc_ifF hP c10
  by_cases c12 : a = (7 : Int32)
  · have hP := qc_ifT hP c12
    refine qj_tableIn (off := 93) (tgt := 99) cx dX7_count_6 (by rw [c12]; decide) (by rw [c12]; decide) (by rw [c12]; rfl) (by decide) ?_
    refine qj_aload_n cx dX7_count_99 rfl rfl ?_
    refine qw_getI (j := 28) cx dX7_count_100 qc_cl7 rfl (Nat.le_of_ble_eq_true rfl) rfl ww_1120 ?_
    exact qw_iret cx hz dX7_count_103 (Nat.zero_le _) (Nat.zero_le _) (congrArg (fun q => q.1) (Option.some.inj hP)) (congrArg (fun q => q.2) (Option.some.inj hP)) rfl
  have hP := qc_ifF hP c12
  by_cases c13 : a = (8 : Int32)
  · have hP := qc_ifT hP c13
    refine qj_tableIn (off := 98) (tgt := 104) cx dX7_count_6 (by rw [c13]; decide) (by rw [c13]; decide) (by rw [c13]; rfl) (by decide) ?_
    refine qj_aload_n cx dX7_count_104 rfl rfl ?_
    refine qw_getI (j := 2) cx dX7_count_105 qc_cl7 rfl (Nat.le_of_ble_eq_true rfl) rfl ww_1094 ?_
    exact qw_iret cx hz dX7_count_108 (Nat.zero_le _) (Nat.zero_le _) (congrArg (fun q => q.1) (Option.some.inj hP)) (congrArg (fun q => q.2) (Option.some.inj hP)) rfl
  have hP := qc_ifF hP c13
  refine qj_tableOut (tgt := 109) cx dX7_count_6 (by have := lv_neT (a := 0) c2 (by decide); have := lv_neT (a := 1) c4 (by decide); have := lv_neT (a := 2) c5 (by decide); have := lv_neT (a := 3) c6 (by decide); have := lv_neT (a := 4) c7 (by decide); have := lv_neT (a := 5) c8 (by decide); have := lv_neT (a := 6) c10 (by decide); have := lv_neT (a := 7) c12 (by decide); have := lv_neT (a := 8) c13 (by decide); omega) (by decide) ?_
  refine qj_iconst (v := (-1 : Int32)) cx dX7_count_109 (by decide) ?_
  exact qw_iret cx hz dX7_count_110 (Nat.zero_le _) (Nat.zero_le _) (congrArg (fun q => q.1) (Option.some.inj hP)) (congrArg (fun q => q.2) (Option.some.inj hP)) rfl
def P_X7_token_162  : Nat → (Nat → Nat → Int32) → Option ((Nat → Nat → Int32))
  | 0, _ => none
  | f + 1, I =>
  (P_X7_here I).bind fun q1 =>
  (P_X7_isDigit q1).bind fun q2 =>
  if q2 = 0 then
  some I
  else
  (if I 0 20 ≤ (99999 : Int32) then
  (P_X7_here I).bind fun q6 =>
  some ((((10 : Int32) * (I 0 20)) + q6) - (48 : Int32))
  else
  some (I 0 20)).bind fun v5 =>
  qc_let (qc_u2 I 0 20 v5) fun I7 =>
  qc_let (qc_u2 I7 0 17 ((I7 0 17) + (1 : Int32))) fun I8 =>
  P_X7_token_162 f I8
def P_X7_token_64  : Nat → (Nat → Nat → Int32) → Option ((Nat → Nat → Int32))
  | 0, _ => none
  | f + 1, I =>
  (P_X7_here I).bind fun q9 =>
  (P_X7_isSmall q9).bind fun q10 =>
  if q10 = 0 then
  (P_X7_wordHere I).bind fun q12 =>
  qc_let (qc_u2 I 0 20 q12) fun I13 =>
  (if I13 0 20 = (-1 : Int32) then
  if (I13 0 17) - (I13 0 18) ≤ (6 : Int32) then
  some (1 : Int32)
  else
  some (5 : Int32)
  else
  some (0 : Int32)).bind fun v15 =>
  qc_let (qc_u2 I13 0 19 v15) fun I17 =>
  if I17 0 19 = (1 : Int32) then
  (P_X7_nameHere I17).bind fun q19 =>
  some q19
  else
  some I17
  else
  qc_let (qc_u2 I 0 17 ((I 0 17) + (1 : Int32))) fun I20 =>
  P_X7_token_64 f I20
def P_X7_token_18 (k0 : (Nat → Nat → Int32) → Option ((Nat → Nat → Int32))) (I : (Nat → Nat → Int32)) : Option ((Nat → Nat → Int32)) :=
  qc_let (qc_u2 I 0 17 ((I 0 17) + (1 : Int32))) fun I21 =>
  k0 I21
def P_X7_token_0  : Nat → (Nat → Nat → Int32) → Option ((Nat → Nat → Int32))
  | 0, _ => none
  | f + 1, I =>
  (P_X7_here I).bind fun q22 =>
  if q22 = (10 : Int32) then
  P_X7_token_18 (P_X7_token_0 f) I
  else
  (P_X7_here I).bind fun q24 =>
  if q24 = (32 : Int32) then
  P_X7_token_18 (P_X7_token_0 f) I
  else
  qc_let (qc_u2 I 0 18 (I 0 17)) fun I26 =>
  (P_X7_here I26).bind fun q27 =>
  if q27 = (-1 : Int32) then
  qc_let (qc_u2 I26 0 19 (4 : Int32)) fun I39 =>
  some I39
  else
  (P_X7_isSmall q27).bind fun q29 =>
  if q29 = 0 then
  (P_X7_isDigit q27).bind fun q31 =>
  if q31 = 0 then
  (if q27 = (59 : Int32) then
  some (3 : Int32)
  else
  some (5 : Int32)).bind fun v34 =>
  qc_let (qc_u2 I26 0 19 v34) fun I35 =>
  qc_let (qc_u2 I35 0 17 ((I35 0 17) + (1 : Int32))) fun I36 =>
  some I36
  else
  qc_let (qc_u2 I26 0 19 (2 : Int32)) fun I37 =>
  qc_let (qc_u2 I37 0 20 (0 : Int32)) fun I38 =>
  P_X7_token_162 qc_fu I38
  else
  P_X7_token_64 qc_fu I26
def P_X7_token (I : Nat → Nat → Int32) : Option ((Nat → Nat → Int32)) :=
  P_X7_token_0 qc_fu I
set_option maxRecDepth 20000 in
theorem c_X7_token {I : Nat → Nat → Int32} {J : Nat → Nat → Int64}   {q0 : (Nat → Nat → Int32)} (hP : P_X7_token I = some q0) : ∀ l, qc_M l yX7_token cX7_token 2 none 5 108 0 0 [.ref 0] (I, J, shM) none (q0, J, shM) := by
  intro l
  refine qc_ent2 (by decide) (Nat.le_of_ble_eq_true rfl) ?_
  intro F hn0 cx hz
  have cx : qc_X F cX7_token RX7 "token" 5 0 0 108 := cx
  have L162 : ∀  (f : Nat) (I : (Nat → Nat → Int32)), P_X7_token_162 f I = some q0 → qc_J F 0 0 162 [some (.ref 0), none] [] (I, J, shM) := by
    intro  f
    induction f with
    | zero => intro I hP; cases hP
    | succ f ih =>
      intro I hP
      rw [P_X7_token_162] at hP
      refine qj_aload_n cx dX7_token_162 rfl rfl ?_
      obtain ⟨q1, eq1, hP⟩ := Option.bind_eq_some_iff.mp hP
      refine qj_callV (As := []) (st := []) (t := 0) (h' := (I, J, shM)) (r := some (.int q1)) cx dX7_token_163 (c_X7_here (I := I) (J := J)  eq1) gc_RX7_108 qm_X7_here rfl rfl qc_cl7 rfl (Nat.le_of_ble_eq_true rfl) (by decide) (by decide) rfl (Nat.le_of_ble_eq_true rfl) (Nat.le_of_ble_eq_true rfl) hn0 rfl ?_
      obtain ⟨q2, eq2, hP⟩ := Option.bind_eq_some_iff.mp hP
      refine qj_callS (As := [.int q1]) (st := []) (h' := (I, J, shM)) (r := some (.int q2)) cx dX7_token_166 (c_X7_isDigit (S := shM) (I := I) (J := J) eq2) gc_RX7_131 qm_X7_isDigit rfl (by decide) (by decide) rfl (Nat.le_of_ble_eq_true rfl) (Nat.le_of_ble_eq_true rfl) hn0 rfl ?_
      refine qj_if_eq (tgt := 245) cx dX7_token_169 (by decide) (fun c3 => ?_) (fun c3 => ?_)
      · have hP := qc_ifT hP c3
        exact qw_vret cx hz dX7_token_245 (Nat.zero_le _) (Nat.zero_le _) (Option.some.inj hP) rfl
      · have hP := qc_ifF hP c3
        refine qj_aload_n cx dX7_token_172 rfl rfl ?_
        refine qj_aload_n cx dX7_token_173 rfl rfl ?_
        refine qw_getI (j := 20) cx dX7_token_174 qc_cl7 rfl (Nat.le_of_ble_eq_true rfl) rfl ww_1112 ?_
        refine qj_ldc cx dX7_token_177 ww_1319 ?_
        obtain ⟨v5, hv5, hP⟩ := Option.bind_eq_some_iff.mp hP
        have Kv5 : qc_J F 0 0 204 [some (.ref 0), none] [.int v5, .ref 0] (I, J, shM) := by
          obtain ⟨I7, eI7, hP⟩ := qc_letE hP
          refine qw_putI (j := 20) cx dX7_token_204 qc_cl7 rfl (Nat.le_of_ble_eq_true rfl) rfl ww_1112 rfl rfl rfl eI7 ?_
          refine qj_aload_n cx dX7_token_207 rfl rfl ?_
          refine qj_dup cx dX7_token_208 rfl ?_
          refine qw_getI (j := 17) cx dX7_token_209 qc_cl7 rfl (Nat.le_of_ble_eq_true rfl) rfl ww_1109 ?_
          refine qj_iconst (v := (1 : Int32)) cx dX7_token_212 (by decide) ?_
          refine qj_iadd cx dX7_token_213 ?_
          obtain ⟨I8, eI8, hP⟩ := qc_letE hP
          refine qw_putI (j := 17) cx dX7_token_214 qc_cl7 rfl (Nat.le_of_ble_eq_true rfl) rfl ww_1109 rfl rfl rfl eI8 ?_
          refine qj_goto (tgt := 162) cx dX7_token_217 (by decide) ?_
          exact ih I8 hP
        refine qj_icmp_le (tgt := 189) cx dX7_token_179 (by decide) (fun c4 => ?_) (fun c4 => ?_)
        · have hv5 := qc_ifT hv5 c4
          refine qj_bipush (v := (10 : Int32)) cx dX7_token_189 (by decide) ?_
          refine qj_aload_n cx dX7_token_191 rfl rfl ?_
          refine qw_getI (j := 20) cx dX7_token_192 qc_cl7 rfl (Nat.le_of_ble_eq_true rfl) rfl ww_1112 ?_
          refine qj_imul cx dX7_token_195 ?_
          refine qj_aload_n cx dX7_token_196 rfl rfl ?_
          obtain ⟨q6, eq6, hv5⟩ := Option.bind_eq_some_iff.mp hv5
          refine qj_callV (As := []) (st := [.int ((10 : Int32) * (I 0 20)), .ref 0]) (t := 0) (h' := (I, J, shM)) (r := some (.int q6)) cx dX7_token_197 (c_X7_here (I := I) (J := J)  eq6) gc_RX7_108 qm_X7_here rfl rfl qc_cl7 rfl (Nat.le_of_ble_eq_true rfl) (by decide) (by decide) rfl (Nat.le_of_ble_eq_true rfl) (Nat.le_of_ble_eq_true rfl) hn0 rfl ?_
          refine qj_iadd cx dX7_token_200 ?_
          refine qj_bipush (v := (48 : Int32)) cx dX7_token_201 (by decide) ?_
          refine qj_isub cx dX7_token_203 ?_
          exact qw_top (Option.some.inj hv5).symm Kv5
        · have hv5 := qc_ifF hv5 c4
          refine qj_aload_n cx dX7_token_182 rfl rfl ?_
          refine qw_getI (j := 20) cx dX7_token_183 qc_cl7 rfl (Nat.le_of_ble_eq_true rfl) rfl ww_1112 ?_
          refine qj_goto (tgt := 204) cx dX7_token_186 (by decide) ?_
          exact qw_top (Option.some.inj hv5).symm Kv5
  have L64 : ∀  (f : Nat) (I : (Nat → Nat → Int32)), P_X7_token_64 f I = some q0 → qc_J F 0 0 64 [some (.ref 0), none] [] (I, J, shM) := by
    intro  f
    induction f with
    | zero => intro I hP; cases hP
    | succ f ih =>
      intro I hP
      rw [P_X7_token_64] at hP
      refine qj_aload_n cx dX7_token_64 rfl rfl ?_
      obtain ⟨q9, eq9, hP⟩ := Option.bind_eq_some_iff.mp hP
      refine qj_callV (As := []) (st := []) (t := 0) (h' := (I, J, shM)) (r := some (.int q9)) cx dX7_token_65 (c_X7_here (I := I) (J := J)  eq9) gc_RX7_108 qm_X7_here rfl rfl qc_cl7 rfl (Nat.le_of_ble_eq_true rfl) (by decide) (by decide) rfl (Nat.le_of_ble_eq_true rfl) (Nat.le_of_ble_eq_true rfl) hn0 rfl ?_
      obtain ⟨q10, eq10, hP⟩ := Option.bind_eq_some_iff.mp hP
      refine qj_callS (As := [.int q9]) (st := []) (h' := (I, J, shM)) (r := some (.int q10)) cx dX7_token_68 (c_X7_isSmall (S := shM) (I := I) (J := J) eq10) gc_RX7_118 qm_X7_isSmall rfl (by decide) (by decide) rfl (Nat.le_of_ble_eq_true rfl) (Nat.le_of_ble_eq_true rfl) hn0 rfl ?_
      refine qj_if_eq (tgt := 87) cx dX7_token_71 (by decide) (fun c11 => ?_) (fun c11 => ?_)
      · have hP := qc_ifT hP c11
        refine qj_aload_n cx dX7_token_87 rfl rfl ?_
        refine qj_aload_n cx dX7_token_88 rfl rfl ?_
        obtain ⟨q12, eq12, hP⟩ := Option.bind_eq_some_iff.mp hP
        refine qj_callV (As := []) (st := [.ref 0]) (t := 0) (h' := (I, J, shM)) (r := some (.int q12)) cx dX7_token_89 (c_X7_wordHere (I := I) (J := J)  eq12) gc_RX7_122 qm_X7_wordHere rfl rfl qc_cl7 rfl (Nat.le_of_ble_eq_true rfl) (by decide) (by decide) rfl (Nat.le_of_ble_eq_true rfl) (Nat.le_of_ble_eq_true rfl) hn0 rfl ?_
        obtain ⟨I13, eI13, hP⟩ := qc_letE hP
        refine qw_putI (j := 20) cx dX7_token_92 qc_cl7 rfl (Nat.le_of_ble_eq_true rfl) rfl ww_1112 rfl rfl rfl eI13 ?_
        refine qj_aload_n cx dX7_token_95 rfl rfl ?_
        refine qj_aload_n cx dX7_token_96 rfl rfl ?_
        refine qw_getI (j := 20) cx dX7_token_97 qc_cl7 rfl (Nat.le_of_ble_eq_true rfl) rfl ww_1112 ?_
        refine qj_iconst (v := (-1 : Int32)) cx dX7_token_100 (by decide) ?_
        obtain ⟨v15, hv15, hP⟩ := Option.bind_eq_some_iff.mp hP
        have Kv15 : qc_J F 0 0 127 [some (.ref 0), none] [.int v15, .ref 0] (I13, J, shM) := by
          obtain ⟨I17, eI17, hP⟩ := qc_letE hP
          refine qw_putI (j := 19) cx dX7_token_127 qc_cl7 rfl (Nat.le_of_ble_eq_true rfl) rfl ww_1111 rfl rfl rfl eI17 ?_
          refine qj_aload_n cx dX7_token_130 rfl rfl ?_
          refine qw_getI (j := 19) cx dX7_token_131 qc_cl7 rfl (Nat.le_of_ble_eq_true rfl) rfl ww_1111 ?_
          refine qj_iconst (v := (1 : Int32)) cx dX7_token_134 (by decide) ?_
          refine qj_icmp_ne (tgt := 245) cx dX7_token_135 (by decide) (fun c18 => ?_) (fun c18 => ?_)
          · have hP := qc_ifF hP c18
            exact qw_vret cx hz dX7_token_245 (Nat.zero_le _) (Nat.zero_le _) (Option.some.inj hP) rfl
          · have hP := qc_ifT hP c18
            refine qj_aload_n cx dX7_token_138 rfl rfl ?_
            obtain ⟨q19, eq19, hP⟩ := Option.bind_eq_some_iff.mp hP
            refine qj_callV (As := []) (st := []) (t := 0) (h' := (q19, J, shM)) (r := none) cx dX7_token_139 (c_X7_nameHere (I := I17) (J := J)  eq19) gc_RX7_128 qm_X7_nameHere rfl rfl qc_cl7 rfl (Nat.le_of_ble_eq_true rfl) (by decide) (by decide) rfl (Nat.le_of_ble_eq_true rfl) (Nat.le_of_ble_eq_true rfl) hn0 rfl ?_
            refine qj_goto (tgt := 245) cx dX7_token_142 (by decide) ?_
            exact qw_vret cx hz dX7_token_245 (Nat.zero_le _) (Nat.zero_le _) (Option.some.inj hP) rfl
        refine qj_icmp_eq (tgt := 108) cx dX7_token_101 (by decide) (fun c14 => ?_) (fun c14 => ?_)
        · have hv15 := qc_ifT hv15 c14
          refine qj_aload_n cx dX7_token_108 rfl rfl ?_
          refine qw_getI (j := 17) cx dX7_token_109 qc_cl7 rfl (Nat.le_of_ble_eq_true rfl) rfl ww_1109 ?_
          refine qj_aload_n cx dX7_token_112 rfl rfl ?_
          refine qw_getI (j := 18) cx dX7_token_113 qc_cl7 rfl (Nat.le_of_ble_eq_true rfl) rfl ww_1110 ?_
          refine qj_isub cx dX7_token_116 ?_
          refine qj_bipush (v := (6 : Int32)) cx dX7_token_117 (by decide) ?_
          refine qj_icmp_le (tgt := 126) cx dX7_token_119 (by decide) (fun c16 => ?_) (fun c16 => ?_)
          · have hv15 := qc_ifT hv15 c16
            refine qj_iconst (v := (1 : Int32)) cx dX7_token_126 (by decide) ?_
            exact qw_top (Option.some.inj hv15).symm Kv15
          · have hv15 := qc_ifF hv15 c16
            refine qj_iconst (v := (5 : Int32)) cx dX7_token_122 (by decide) ?_
            refine qj_goto (tgt := 127) cx dX7_token_123 (by decide) ?_
            exact qw_top (Option.some.inj hv15).symm Kv15
        · have hv15 := qc_ifF hv15 c14
          refine qj_iconst (v := (0 : Int32)) cx dX7_token_104 (by decide) ?_
          refine qj_goto (tgt := 127) cx dX7_token_105 (by decide) ?_
          exact qw_top (Option.some.inj hv15).symm Kv15
      · have hP := qc_ifF hP c11
        refine qj_aload_n cx dX7_token_74 rfl rfl ?_
        refine qj_dup cx dX7_token_75 rfl ?_
        refine qw_getI (j := 17) cx dX7_token_76 qc_cl7 rfl (Nat.le_of_ble_eq_true rfl) rfl ww_1109 ?_
        refine qj_iconst (v := (1 : Int32)) cx dX7_token_79 (by decide) ?_
        refine qj_iadd cx dX7_token_80 ?_
        obtain ⟨I20, eI20, hP⟩ := qc_letE hP
        refine qw_putI (j := 17) cx dX7_token_81 qc_cl7 rfl (Nat.le_of_ble_eq_true rfl) rfl ww_1109 rfl rfl rfl eI20 ?_
        refine qj_goto (tgt := 64) cx dX7_token_84 (by decide) ?_
        exact ih I20 hP
  have L18 : ∀ (k0 : (Nat → Nat → Int32) → Option ((Nat → Nat → Int32))) (g0 : ∀ (I : Nat → Nat → Int32), k0 I = some q0 → qc_J F 0 0 0 [some (.ref 0), none] [] (I, J, shM)) (I : (Nat → Nat → Int32)), P_X7_token_18 k0 I = some q0 → qc_J F 0 0 18 [some (.ref 0), none] [] (I, J, shM) := by
    intro k0 g0 I hP
    unfold P_X7_token_18 at hP
    refine qj_aload_n cx dX7_token_18 rfl rfl ?_
    refine qj_dup cx dX7_token_19 rfl ?_
    refine qw_getI (j := 17) cx dX7_token_20 qc_cl7 rfl (Nat.le_of_ble_eq_true rfl) rfl ww_1109 ?_
    refine qj_iconst (v := (1 : Int32)) cx dX7_token_23 (by decide) ?_
    refine qj_iadd cx dX7_token_24 ?_
    obtain ⟨I21, eI21, hP⟩ := qc_letE hP
    refine qw_putI (j := 17) cx dX7_token_25 qc_cl7 rfl (Nat.le_of_ble_eq_true rfl) rfl ww_1109 rfl rfl rfl eI21 ?_
    refine qj_goto (tgt := 0) cx dX7_token_28 (by decide) ?_
    exact g0 I21 hP
  have L0 : ∀  (f : Nat) (I : (Nat → Nat → Int32)), P_X7_token_0 f I = some q0 → qc_J F 0 0 0 [some (.ref 0), none] [] (I, J, shM) := by
    intro  f
    induction f with
    | zero => intro I hP; cases hP
    | succ f ih =>
      intro I hP
      rw [P_X7_token_0] at hP
      refine qj_aload_n cx dX7_token_0 rfl rfl ?_
      obtain ⟨q22, eq22, hP⟩ := Option.bind_eq_some_iff.mp hP
      refine qj_callV (As := []) (st := []) (t := 0) (h' := (I, J, shM)) (r := some (.int q22)) cx dX7_token_1 (c_X7_here (I := I) (J := J)  eq22) gc_RX7_108 qm_X7_here rfl rfl qc_cl7 rfl (Nat.le_of_ble_eq_true rfl) (by decide) (by decide) rfl (Nat.le_of_ble_eq_true rfl) (Nat.le_of_ble_eq_true rfl) hn0 rfl ?_
      refine qj_bipush (v := (10 : Int32)) cx dX7_token_4 (by decide) ?_
      refine qj_icmp_eq (tgt := 18) cx dX7_token_6 (by decide) (fun c23 => ?_) (fun c23 => ?_)
      · have hP := qc_ifT hP c23
        exact L18 (P_X7_token_0 f) ih I hP
      · have hP := qc_ifF hP c23
        refine qj_aload_n cx dX7_token_9 rfl rfl ?_
        obtain ⟨q24, eq24, hP⟩ := Option.bind_eq_some_iff.mp hP
        refine qj_callV (As := []) (st := []) (t := 0) (h' := (I, J, shM)) (r := some (.int q24)) cx dX7_token_10 (c_X7_here (I := I) (J := J)  eq24) gc_RX7_108 qm_X7_here rfl rfl qc_cl7 rfl (Nat.le_of_ble_eq_true rfl) (by decide) (by decide) rfl (Nat.le_of_ble_eq_true rfl) (Nat.le_of_ble_eq_true rfl) hn0 rfl ?_
        refine qj_bipush (v := (32 : Int32)) cx dX7_token_13 (by decide) ?_
        refine qj_icmp_ne (tgt := 31) cx dX7_token_15 (by decide) (fun c25 => ?_) (fun c25 => ?_)
        · have hP := qc_ifF hP c25
          refine qj_aload_n cx dX7_token_31 rfl rfl ?_
          refine qj_aload_n cx dX7_token_32 rfl rfl ?_
          refine qw_getI (j := 17) cx dX7_token_33 qc_cl7 rfl (Nat.le_of_ble_eq_true rfl) rfl ww_1109 ?_
          obtain ⟨I26, eI26, hP⟩ := qc_letE hP
          refine qw_putI (j := 18) cx dX7_token_36 qc_cl7 rfl (Nat.le_of_ble_eq_true rfl) rfl ww_1110 rfl rfl rfl eI26 ?_
          refine qj_aload_n cx dX7_token_39 rfl rfl ?_
          obtain ⟨q27, eq27, hP⟩ := Option.bind_eq_some_iff.mp hP
          refine qj_callV (As := []) (st := []) (t := 0) (h' := (I26, J, shM)) (r := some (.int q27)) cx dX7_token_40 (c_X7_here (I := I26) (J := J)  eq27) gc_RX7_108 qm_X7_here rfl rfl qc_cl7 rfl (Nat.le_of_ble_eq_true rfl) (by decide) (by decide) rfl (Nat.le_of_ble_eq_true rfl) (Nat.le_of_ble_eq_true rfl) hn0 rfl ?_
          refine qj_istore_n (ls1 := [some (.ref 0), some (.int q27)]) cx dX7_token_43 rfl rfl rfl rfl ?_
          refine qj_iload_n cx dX7_token_44 rfl rfl ?_
          refine qj_iconst (v := (-1 : Int32)) cx dX7_token_45 (by decide) ?_
          refine qj_icmp_ne (tgt := 57) cx dX7_token_46 (by decide) (fun c28 => ?_) (fun c28 => ?_)
          · have hP := qc_ifF hP c28
            refine qj_iload_n cx dX7_token_57 rfl rfl ?_
            obtain ⟨q29, eq29, hP⟩ := Option.bind_eq_some_iff.mp hP
            refine qj_callS (As := [.int q27]) (st := []) (h' := (I26, J, shM)) (r := some (.int q29)) cx dX7_token_58 (c_X7_isSmall (S := shM) (I := I26) (J := J) eq29) gc_RX7_118 qm_X7_isSmall rfl (by decide) (by decide) rfl (Nat.le_of_ble_eq_true rfl) (Nat.le_of_ble_eq_true rfl) hn0 rfl ?_
            refine qj_if_eq (tgt := 145) cx dX7_token_61 (by decide) (fun c30 => ?_) (fun c30 => ?_)
            · have hP := qc_ifT hP c30
              refine qj_iload_n cx dX7_token_145 rfl rfl ?_
              obtain ⟨q31, eq31, hP⟩ := Option.bind_eq_some_iff.mp hP
              refine qj_callS (As := [.int q27]) (st := []) (h' := (I26, J, shM)) (r := some (.int q31)) cx dX7_token_146 (c_X7_isDigit (S := shM) (I := I26) (J := J) eq31) gc_RX7_131 qm_X7_isDigit rfl (by decide) (by decide) rfl (Nat.le_of_ble_eq_true rfl) (Nat.le_of_ble_eq_true rfl) hn0 rfl ?_
              refine qj_if_eq (tgt := 220) cx dX7_token_149 (by decide) (fun c32 => ?_) (fun c32 => ?_)
              · have hP := qc_ifT hP c32
                refine qj_aload_n cx dX7_token_220 rfl rfl ?_
                refine qj_iload_n cx dX7_token_221 rfl rfl ?_
                refine qj_bipush (v := (59 : Int32)) cx dX7_token_222 (by decide) ?_
                obtain ⟨v34, hv34, hP⟩ := Option.bind_eq_some_iff.mp hP
                have Kv34 : qc_J F 0 0 232 [some (.ref 0), some (.int q27)] [.int v34, .ref 0] (I26, J, shM) := by
                  obtain ⟨I35, eI35, hP⟩ := qc_letE hP
                  refine qw_putI (j := 19) cx dX7_token_232 qc_cl7 rfl (Nat.le_of_ble_eq_true rfl) rfl ww_1111 rfl rfl rfl eI35 ?_
                  refine qj_aload_n cx dX7_token_235 rfl rfl ?_
                  refine qj_dup cx dX7_token_236 rfl ?_
                  refine qw_getI (j := 17) cx dX7_token_237 qc_cl7 rfl (Nat.le_of_ble_eq_true rfl) rfl ww_1109 ?_
                  refine qj_iconst (v := (1 : Int32)) cx dX7_token_240 (by decide) ?_
                  refine qj_iadd cx dX7_token_241 ?_
                  obtain ⟨I36, eI36, hP⟩ := qc_letE hP
                  refine qw_putI (j := 17) cx dX7_token_242 qc_cl7 rfl (Nat.le_of_ble_eq_true rfl) rfl ww_1109 rfl rfl rfl eI36 ?_
                  exact qw_vret cx hz dX7_token_245 (Nat.zero_le _) (Nat.zero_le _) (Option.some.inj hP) rfl
                refine qj_icmp_ne (tgt := 231) cx dX7_token_224 (by decide) (fun c33 => ?_) (fun c33 => ?_)
                · have hv34 := qc_ifF hv34 c33
                  refine qj_iconst (v := (5 : Int32)) cx dX7_token_231 (by decide) ?_
                  exact qw_top (Option.some.inj hv34).symm Kv34
                · have hv34 := qc_ifT hv34 c33
                  refine qj_iconst (v := (3 : Int32)) cx dX7_token_227 (by decide) ?_
                  refine qj_goto (tgt := 232) cx dX7_token_228 (by decide) ?_
                  exact qw_top (Option.some.inj hv34).symm Kv34
              · have hP := qc_ifF hP c32
                refine qj_aload_n cx dX7_token_152 rfl rfl ?_
                refine qj_iconst (v := (2 : Int32)) cx dX7_token_153 (by decide) ?_
                obtain ⟨I37, eI37, hP⟩ := qc_letE hP
                refine qw_putI (j := 19) cx dX7_token_154 qc_cl7 rfl (Nat.le_of_ble_eq_true rfl) rfl ww_1111 rfl rfl rfl eI37 ?_
                refine qj_aload_n cx dX7_token_157 rfl rfl ?_
                refine qj_iconst (v := (0 : Int32)) cx dX7_token_158 (by decide) ?_
                obtain ⟨I38, eI38, hP⟩ := qc_letE hP
                refine qw_putI (j := 20) cx dX7_token_159 qc_cl7 rfl (Nat.le_of_ble_eq_true rfl) rfl ww_1112 rfl rfl rfl eI38 ?_
                refine qw_sub (ls1 := [some (.ref 0), none]) rfl (qc_sb_ok ⟨rfl, trivial⟩) ?_
                exact L162 qc_fu I38 hP
            · have hP := qc_ifF hP c30
              refine qw_sub (ls1 := [some (.ref 0), none]) rfl (qc_sb_ok ⟨rfl, trivial⟩) ?_
              exact L64 qc_fu I26 hP
          · have hP := qc_ifT hP c28
            refine qj_aload_n cx dX7_token_49 rfl rfl ?_
            refine qj_iconst (v := (4 : Int32)) cx dX7_token_50 (by decide) ?_
            obtain ⟨I39, eI39, hP⟩ := qc_letE hP
            refine qw_putI (j := 19) cx dX7_token_51 qc_cl7 rfl (Nat.le_of_ble_eq_true rfl) rfl ww_1111 rfl rfl rfl eI39 ?_
            refine qj_goto (tgt := 245) cx dX7_token_54 (by decide) ?_
            exact qw_vret cx hz dX7_token_245 (Nat.zero_le _) (Nat.zero_le _) (Option.some.inj hP) rfl
        · have hP := qc_ifT hP c25
          exact L18 (P_X7_token_0 f) ih I hP
  show qc_J F 0 0 0 [some (.ref 0), none] [] (I, J, shM)
  unfold P_X7_token at hP
  exact L0 qc_fu I hP
def P_X7_goOn (I : Nat → Nat → Int32) : Option ((Nat → Nat → Int32)) :=
  if I 0 21 = 0 then
  (P_X7_token I).bind fun q2 =>
  some q2
  else
  some I
set_option maxRecDepth 20000 in
theorem c_X7_goOn {I : Nat → Nat → Int32} {J : Nat → Nat → Int64}   {q0 : (Nat → Nat → Int32)} (hP : P_X7_goOn I = some q0) : ∀ l, qc_M l yX7_goOn cX7_goOn 1 none 6 129 0 0 [.ref 0] (I, J, shM) none (q0, J, shM) := by
  intro l
  refine qc_ent2 (by decide) (Nat.le_of_ble_eq_true rfl) ?_
  intro F hn0 cx hz
  have cx : qc_X F cX7_goOn RX7 "goOn" 6 0 0 129 := cx
  show qc_J F 0 0 0 [some (.ref 0)] [] (I, J, shM)
  unfold P_X7_goOn at hP
  refine qj_aload_n cx dX7_goOn_0 rfl rfl ?_
  refine qw_getI (j := 21) cx dX7_goOn_1 qc_cl7 rfl (Nat.le_of_ble_eq_true rfl) rfl ww_1113 ?_
  refine qj_if_ne (tgt := 11) cx dX7_goOn_4 (by decide) (fun c1 => ?_) (fun c1 => ?_)
  · have hP := qc_ifF hP c1
    exact qw_vret cx hz dX7_goOn_11 (Nat.zero_le _) (Nat.zero_le _) (Option.some.inj hP) rfl
  · have hP := qc_ifT hP c1
    refine qj_aload_n cx dX7_goOn_7 rfl rfl ?_
    obtain ⟨q2, eq2, hP⟩ := Option.bind_eq_some_iff.mp hP
    refine qj_callV (As := []) (st := []) (t := 0) (h' := (q2, J, shM)) (r := none) cx dX7_goOn_8 (c_X7_token (I := I) (J := J)  eq2) gc_RX7_152 qm_X7_token rfl rfl qc_cl7 rfl (Nat.le_of_ble_eq_true rfl) (by decide) (by decide) rfl (Nat.le_of_ble_eq_true rfl) (Nat.le_of_ble_eq_true rfl) hn0 rfl ?_
    exact qw_vret cx hz dX7_goOn_11 (Nat.zero_le _) (Nat.zero_le _) (Option.some.inj hP) rfl
def P_X7_numeral_46  (I : (Nat → Nat → Int32)) (a1 : Int32) : Option (Int32 × (Nat → Nat → Int32)) :=
  (if I 0 21 = 0 then
  some (I 0 20)
  else
  some a1).bind fun v2 =>
  (P_X7_goOn I).bind fun q3 =>
  some (v2, q3)
def P_X7_numeral_41  (I : (Nat → Nat → Int32)) (a1 : Int32) : Option (Int32 × (Nat → Nat → Int32)) :=
  (P_X7_wrong I (2 : Int32)).bind fun q4 =>
  P_X7_numeral_46 q4 a1
def P_X7_numeral (I : Nat → Nat → Int32) (a : Int32) (b : Int32) : Option (Int32 × (Nat → Nat → Int32)) :=
  if I 0 21 = 0 then
  (if I 0 19 = (2 : Int32) then
  (if I 0 20 < a then
  P_X7_numeral_41 I a
  else
  if I 0 20 ≤ b then
  P_X7_numeral_46 I a
  else
  P_X7_numeral_41 I a)
  else
  (P_X7_wrong I (1 : Int32)).bind fun q9 =>
  P_X7_numeral_46 q9 a)
  else
  some (a, I)
set_option maxRecDepth 20000 in
theorem c_X7_numeral {I : Nat → Nat → Int32} {J : Nat → Nat → Int64}  {a : Int32} {b : Int32} {q0 : Int32 × (Nat → Nat → Int32)} (hP : P_X7_numeral I a b = some q0) : ∀ l, qc_M l yX7_numeral cX7_numeral 4 (some .int) 7 149 0 0 [.ref 0, .int a, .int b] (I, J, shM) (some (.int q0.1)) (q0.2, J, shM) := by
  intro l
  refine qc_ent2 (by decide) (Nat.le_of_ble_eq_true rfl) ?_
  intro F hn0 cx hz
  have cx : qc_X F cX7_numeral RX7 "numeral" 7 0 0 149 := cx
  have L46 : ∀  (I : (Nat → Nat → Int32)) (a1 : Int32), P_X7_numeral_46 I a1 = some q0 → qc_J F 0 0 46 [some (.ref 0), some (.int a1), none, none] [] (I, J, shM) := by
    intro I a1 hP
    unfold P_X7_numeral_46 at hP
    refine qj_aload_n cx dX7_numeral_46 rfl rfl ?_
    refine qw_getI (j := 21) cx dX7_numeral_47 qc_cl7 rfl (Nat.le_of_ble_eq_true rfl) rfl ww_1113 ?_
    obtain ⟨v2, hv2, hP⟩ := Option.bind_eq_some_iff.mp hP
    have Kv2 : qc_J F 0 0 61 [some (.ref 0), some (.int a1), none, none] [.int v2] (I, J, shM) := by
      refine qj_istore_n (ls1 := [some (.ref 0), some (.int a1), none, some (.int v2)]) cx dX7_numeral_61 rfl rfl rfl rfl ?_
      refine qj_aload_n cx dX7_numeral_62 rfl rfl ?_
      obtain ⟨q3, eq3, hP⟩ := Option.bind_eq_some_iff.mp hP
      refine qj_callV (As := []) (st := []) (t := 0) (h' := (q3, J, shM)) (r := none) cx dX7_numeral_63 (c_X7_goOn (I := I) (J := J)  eq3) gc_RX7_159 qm_X7_goOn rfl rfl qc_cl7 rfl (Nat.le_of_ble_eq_true rfl) (by decide) (by decide) rfl (Nat.le_of_ble_eq_true rfl) (Nat.le_of_ble_eq_true rfl) hn0 rfl ?_
      refine qj_iload_n cx dX7_numeral_66 rfl rfl ?_
      exact qw_iret cx hz dX7_numeral_67 (Nat.zero_le _) (Nat.zero_le _) (congrArg (fun q => q.1) (Option.some.inj hP)) (congrArg (fun q => q.2) (Option.some.inj hP)) rfl
    refine qj_if_ne (tgt := 60) cx dX7_numeral_50 (by decide) (fun c1 => ?_) (fun c1 => ?_)
    · have hv2 := qc_ifF hv2 c1
      refine qj_iload_n cx dX7_numeral_60 rfl rfl ?_
      exact qw_top (Option.some.inj hv2).symm Kv2
    · have hv2 := qc_ifT hv2 c1
      refine qj_aload_n cx dX7_numeral_53 rfl rfl ?_
      refine qw_getI (j := 20) cx dX7_numeral_54 qc_cl7 rfl (Nat.le_of_ble_eq_true rfl) rfl ww_1112 ?_
      refine qj_goto (tgt := 61) cx dX7_numeral_57 (by decide) ?_
      exact qw_top (Option.some.inj hv2).symm Kv2
  have L41 : ∀  (I : (Nat → Nat → Int32)) (a1 : Int32), P_X7_numeral_41 I a1 = some q0 → qc_J F 0 0 41 [some (.ref 0), some (.int a1), none, none] [] (I, J, shM) := by
    intro I a1 hP
    unfold P_X7_numeral_41 at hP
    refine qj_aload_n cx dX7_numeral_41 rfl rfl ?_
    refine qj_iconst (v := (2 : Int32)) cx dX7_numeral_42 (by decide) ?_
    obtain ⟨q4, eq4, hP⟩ := Option.bind_eq_some_iff.mp hP
    refine qj_callV (As := [.int (2 : Int32)]) (st := []) (t := 0) (h' := (q4, J, shM)) (r := none) cx dX7_numeral_43 (c_X7_wrong (I := I) (J := J)  eq4) gc_RX7_155 qm_X7_wrong rfl rfl qc_cl7 rfl (Nat.le_of_ble_eq_true rfl) (by decide) (by decide) rfl (Nat.le_of_ble_eq_true rfl) (Nat.le_of_ble_eq_true rfl) hn0 rfl ?_
    exact L46 q4 a1 hP
  show qc_J F 0 0 0 [some (.ref 0), some (.int a), some (.int b), none] [] (I, J, shM)
  unfold P_X7_numeral at hP
  refine qj_aload_n cx dX7_numeral_0 rfl rfl ?_
  refine qw_getI (j := 21) cx dX7_numeral_1 qc_cl7 rfl (Nat.le_of_ble_eq_true rfl) rfl ww_1113 ?_
  refine qj_if_eq (tgt := 9) cx dX7_numeral_4 (by decide) (fun c5 => ?_) (fun c5 => ?_)
  · have hP := qc_ifT hP c5
    refine qj_aload_n cx dX7_numeral_9 rfl rfl ?_
    refine qw_getI (j := 19) cx dX7_numeral_10 qc_cl7 rfl (Nat.le_of_ble_eq_true rfl) rfl ww_1111 ?_
    refine qj_iconst (v := (2 : Int32)) cx dX7_numeral_13 (by decide) ?_
    refine qj_icmp_eq (tgt := 25) cx dX7_numeral_14 (by decide) (fun c6 => ?_) (fun c6 => ?_)
    · have hP := qc_ifT hP c6
      refine qj_aload_n cx dX7_numeral_25 rfl rfl ?_
      refine qw_getI (j := 20) cx dX7_numeral_26 qc_cl7 rfl (Nat.le_of_ble_eq_true rfl) rfl ww_1112 ?_
      refine qj_iload_n cx dX7_numeral_29 rfl rfl ?_
      refine qj_icmp_lt (tgt := 41) cx dX7_numeral_30 (by decide) (fun c7 => ?_) (fun c7 => ?_)
      · have hP := qc_ifT hP c7
        refine qw_sub (ls1 := [some (.ref 0), some (.int a), none, none]) rfl (qc_sb_ok ⟨rfl, rfl, trivial⟩) ?_
        exact L41 I a hP
      · have hP := qc_ifF hP c7
        refine qj_aload_n cx dX7_numeral_33 rfl rfl ?_
        refine qw_getI (j := 20) cx dX7_numeral_34 qc_cl7 rfl (Nat.le_of_ble_eq_true rfl) rfl ww_1112 ?_
        refine qj_iload_n cx dX7_numeral_37 rfl rfl ?_
        refine qj_icmp_le (tgt := 46) cx dX7_numeral_38 (by decide) (fun c8 => ?_) (fun c8 => ?_)
        · have hP := qc_ifT hP c8
          refine qw_sub (ls1 := [some (.ref 0), some (.int a), none, none]) rfl (qc_sb_ok ⟨rfl, rfl, trivial⟩) ?_
          exact L46 I a hP
        · have hP := qc_ifF hP c8
          refine qw_sub (ls1 := [some (.ref 0), some (.int a), none, none]) rfl (qc_sb_ok ⟨rfl, rfl, trivial⟩) ?_
          exact L41 I a hP
    · have hP := qc_ifF hP c6
      refine qj_aload_n cx dX7_numeral_17 rfl rfl ?_
      refine qj_iconst (v := (1 : Int32)) cx dX7_numeral_18 (by decide) ?_
      obtain ⟨q9, eq9, hP⟩ := Option.bind_eq_some_iff.mp hP
      refine qj_callV (As := [.int (1 : Int32)]) (st := []) (t := 0) (h' := (q9, J, shM)) (r := none) cx dX7_numeral_19 (c_X7_wrong (I := I) (J := J)  eq9) gc_RX7_155 qm_X7_wrong rfl rfl qc_cl7 rfl (Nat.le_of_ble_eq_true rfl) (by decide) (by decide) rfl (Nat.le_of_ble_eq_true rfl) (Nat.le_of_ble_eq_true rfl) hn0 rfl ?_
      refine qj_goto (tgt := 46) cx dX7_numeral_22 (by decide) ?_
      refine qw_sub (ls1 := [some (.ref 0), some (.int a), none, none]) rfl (qc_sb_ok ⟨rfl, rfl, trivial⟩) ?_
      exact L46 q9 a hP
  · have hP := qc_ifF hP c5
    refine qj_iload_n cx dX7_numeral_7 rfl rfl ?_
    exact qw_iret cx hz dX7_numeral_8 (Nat.zero_le _) (Nat.zero_le _) (congrArg (fun q => q.1) (Option.some.inj hP)) (congrArg (fun q => q.2) (Option.some.inj hP)) rfl
def P_X7_once_14  (I : (Nat → Nat → Int32)) (a1 : Int32) : Option ((Nat → Nat → Int32)) :=
  if qc_in a1 11 then
  qc_let (qc_u2 I 3 a1.toNatClampNeg (vp_nar .boolean (1 : Int32))) fun I1 =>
  (P_X7_goOn I1).bind fun q2 =>
  some q2
  else none
def P_X7_once (I : Nat → Nat → Int32) (a : Int32) : Option ((Nat → Nat → Int32)) :=
  if qc_in a 11 then
  if I 3 a.toNatClampNeg = 0 then
  P_X7_once_14 I a
  else
  (P_X7_wrong I (3 : Int32)).bind fun q6 =>
  P_X7_once_14 q6 a
  else none
set_option maxRecDepth 20000 in
theorem c_X7_once {I : Nat → Nat → Int32} {J : Nat → Nat → Int64}  {a : Int32} {q0 : (Nat → Nat → Int32)} (hP : P_X7_once I a = some q0) : ∀ l, qc_M l yX7_once cX7_once 2 none 7 149 0 0 [.ref 0, .int a] (I, J, shM) none (q0, J, shM) := by
  intro l
  refine qc_ent2 (by decide) (Nat.le_of_ble_eq_true rfl) ?_
  intro F hn0 cx hz
  have cx : qc_X F cX7_once RX7 "once" 7 0 0 149 := cx
  have L14 : ∀  (I : (Nat → Nat → Int32)) (a1 : Int32), P_X7_once_14 I a1 = some q0 → qc_J F 0 0 14 [some (.ref 0), some (.int a1)] [] (I, J, shM) := by
    intro I a1 hP
    unfold P_X7_once_14 at hP
    refine qj_aload_n cx dX7_once_14 rfl rfl ?_
    refine qw_getR (j := 4) (t1 := 3) cx dX7_once_15 qc_cl7 rfl (Nat.le_of_ble_eq_true rfl) rfl ww_1096 rfl ?_
    refine qj_iload_n cx dX7_once_18 rfl rfl ?_
    refine qj_iconst (v := (1 : Int32)) cx dX7_once_19 (by decide) ?_
    obtain ⟨c3, hP⟩ := qc_ck hP
    obtain ⟨I1, eI1, hP⟩ := qc_letE hP
    refine qw_zast cx dX7_once_20 rfl (Nat.le_of_ble_eq_true rfl) rfl c3 eI1 ?_
    refine qj_aload_n cx dX7_once_21 rfl rfl ?_
    obtain ⟨q2, eq2, hP⟩ := Option.bind_eq_some_iff.mp hP
    refine qj_callV (As := []) (st := []) (t := 0) (h' := (q2, J, shM)) (r := none) cx dX7_once_22 (c_X7_goOn (I := I1) (J := J)  eq2) gc_RX7_159 qm_X7_goOn rfl rfl qc_cl7 rfl (Nat.le_of_ble_eq_true rfl) (by decide) (by decide) rfl (Nat.le_of_ble_eq_true rfl) (Nat.le_of_ble_eq_true rfl) hn0 rfl ?_
    exact qw_vret cx hz dX7_once_25 (Nat.zero_le _) (Nat.zero_le _) (Option.some.inj hP) rfl
  show qc_J F 0 0 0 [some (.ref 0), some (.int a)] [] (I, J, shM)
  unfold P_X7_once at hP
  refine qj_aload_n cx dX7_once_0 rfl rfl ?_
  refine qw_getR (j := 4) (t1 := 3) cx dX7_once_1 qc_cl7 rfl (Nat.le_of_ble_eq_true rfl) rfl ww_1096 rfl ?_
  refine qj_iload_n cx dX7_once_4 rfl rfl ?_
  obtain ⟨c4, hP⟩ := qc_ck hP
  refine qw_zald cx dX7_once_5 rfl (Nat.le_of_ble_eq_true rfl) rfl c4 ?_
  refine qj_if_eq (tgt := 14) cx dX7_once_6 (by decide) (fun c5 => ?_) (fun c5 => ?_)
  · have hP := qc_ifT hP c5
    exact L14 I a hP
  · have hP := qc_ifF hP c5
    refine qj_aload_n cx dX7_once_9 rfl rfl ?_
    refine qj_iconst (v := (3 : Int32)) cx dX7_once_10 (by decide) ?_
    obtain ⟨q6, eq6, hP⟩ := Option.bind_eq_some_iff.mp hP
    refine qj_callV (As := [.int (3 : Int32)]) (st := []) (t := 0) (h' := (q6, J, shM)) (r := none) cx dX7_once_11 (c_X7_wrong (I := I) (J := J)  eq6) gc_RX7_155 qm_X7_wrong rfl rfl qc_cl7 rfl (Nat.le_of_ble_eq_true rfl) (by decide) (by decide) rfl (Nat.le_of_ble_eq_true rfl) (Nat.le_of_ble_eq_true rfl) hn0 rfl ?_
    exact L14 q6 a hP
def P_X7_readOnce (I : Nat → Nat → Int32) (a : Int32) (b : Int32) (c : Int32) (d : Int32) : Option ((Nat → Nat → Int32)) :=
  (P_X7_once I a).bind fun q1 =>
  (P_X7_numeral q1 c d).bind fun q2 =>
  (P_X7_reads q2.2 b q2.1).bind fun q3 =>
  some q3
set_option maxRecDepth 20000 in
theorem c_X7_readOnce {I : Nat → Nat → Int32} {J : Nat → Nat → Int64}  {a : Int32} {b : Int32} {c : Int32} {d : Int32} {q0 : (Nat → Nat → Int32)} (hP : P_X7_readOnce I a b c d = some q0) : ∀ l, qc_M l yX7_readOnce cX7_readOnce 5 none 8 172 0 0 [.ref 0, .int a, .int b, .int c, .int d] (I, J, shM) none (q0, J, shM) := by
  intro l
  refine qc_ent2 (by decide) (Nat.le_of_ble_eq_true rfl) ?_
  intro F hn0 cx hz
  have cx : qc_X F cX7_readOnce RX7 "readOnce" 8 0 0 172 := cx
  show qc_J F 0 0 0 [some (.ref 0), some (.int a), some (.int b), some (.int c), some (.int d)] [] (I, J, shM)
  unfold P_X7_readOnce at hP
  refine qj_aload_n cx dX7_readOnce_0 rfl rfl ?_
  refine qj_iload_n cx dX7_readOnce_1 rfl rfl ?_
  obtain ⟨q1, eq1, hP⟩ := Option.bind_eq_some_iff.mp hP
  refine qj_callV (As := [.int a]) (st := []) (t := 0) (h' := (q1, J, shM)) (r := none) cx dX7_readOnce_2 (c_X7_once (I := I) (J := J)  eq1) gc_RX7_162 qm_X7_once rfl rfl qc_cl7 rfl (Nat.le_of_ble_eq_true rfl) (by decide) (by decide) rfl (Nat.le_of_ble_eq_true rfl) (Nat.le_of_ble_eq_true rfl) hn0 rfl ?_
  refine qj_aload_n cx dX7_readOnce_5 rfl rfl ?_
  refine qj_iload_n cx dX7_readOnce_6 rfl rfl ?_
  refine qj_aload_n cx dX7_readOnce_7 rfl rfl ?_
  refine qj_iload_n cx dX7_readOnce_8 rfl rfl ?_
  refine qj_iload cx dX7_readOnce_9 rfl ?_
  obtain ⟨q2, eq2, hP⟩ := Option.bind_eq_some_iff.mp hP
  refine qj_callV (As := [.int c, .int d]) (st := [.int b, .ref 0]) (t := 0) (h' := (q2.2, J, shM)) (r := some (.int q2.1)) cx dX7_readOnce_11 (c_X7_numeral (I := q1) (J := J)  eq2) gc_RX7_165 qm_X7_numeral rfl rfl qc_cl7 rfl (Nat.le_of_ble_eq_true rfl) (by decide) (by decide) rfl (Nat.le_of_ble_eq_true rfl) (Nat.le_of_ble_eq_true rfl) hn0 rfl ?_
  obtain ⟨q3, eq3, hP⟩ := Option.bind_eq_some_iff.mp hP
  refine qj_callV (As := [.int b, .int q2.1]) (st := []) (t := 0) (h' := (q3, J, shM)) (r := none) cx dX7_readOnce_14 (c_X7_reads (I := q2.2) (J := J)  eq3) gc_RX7_169 qm_X7_reads rfl rfl qc_cl7 rfl (Nat.le_of_ble_eq_true rfl) (by decide) (by decide) rfl (Nat.le_of_ble_eq_true rfl) (Nat.le_of_ble_eq_true rfl) hn0 rfl ?_
  exact qw_vret cx hz dX7_readOnce_17 (Nat.zero_le _) (Nat.zero_le _) (Option.some.inj hP) rfl
def P_X7_readBand (I : Nat → Nat → Int32) : Option ((Nat → Nat → Int32)) :=
  if I 0 14 = 0 then
  (P_X7_readOnce I (0 : Int32) (0 : Int32) (4 : Int32) (60 : Int32)).bind fun q2 =>
  some q2
  else
  (P_X7_wrong I (1 : Int32)).bind fun q3 =>
  (P_X7_readOnce q3 (0 : Int32) (0 : Int32) (4 : Int32) (60 : Int32)).bind fun q4 =>
  some q4
set_option maxRecDepth 20000 in
theorem c_X7_readBand {I : Nat → Nat → Int32} {J : Nat → Nat → Int64}   {q0 : (Nat → Nat → Int32)} (hP : P_X7_readBand I = some q0) : ∀ l, qc_M l yX7_readBand cX7_readBand 1 none 9 196 0 0 [.ref 0] (I, J, shM) none (q0, J, shM) := by
  intro l
  refine qc_ent2 (by decide) (Nat.le_of_ble_eq_true rfl) ?_
  intro F hn0 cx hz
  have cx : qc_X F cX7_readBand RX7 "readBand" 9 0 0 196 := cx
  show qc_J F 0 0 0 [some (.ref 0)] [] (I, J, shM)
  unfold P_X7_readBand at hP
  refine qj_aload_n cx dX7_readBand_0 rfl rfl ?_
  refine qw_getI (j := 14) cx dX7_readBand_1 qc_cl7 rfl (Nat.le_of_ble_eq_true rfl) rfl ww_1106 ?_
  refine qj_if_eq (tgt := 12) cx dX7_readBand_4 (by decide) (fun c1 => ?_) (fun c1 => ?_)
  · have hP := qc_ifT hP c1
    refine qj_aload_n cx dX7_readBand_12 rfl rfl ?_
    refine qj_iconst (v := (0 : Int32)) cx dX7_readBand_13 (by decide) ?_
    refine qj_iconst (v := (0 : Int32)) cx dX7_readBand_14 (by decide) ?_
    refine qj_iconst (v := (4 : Int32)) cx dX7_readBand_15 (by decide) ?_
    refine qj_bipush (v := (60 : Int32)) cx dX7_readBand_16 (by decide) ?_
    obtain ⟨q2, eq2, hP⟩ := Option.bind_eq_some_iff.mp hP
    refine qj_callV (As := [.int (0 : Int32), .int (0 : Int32), .int (4 : Int32), .int (60 : Int32)]) (st := []) (t := 0) (h' := (q2, J, shM)) (r := none) cx dX7_readBand_18 (c_X7_readOnce (I := I) (J := J)  eq2) gc_RX7_177 qm_X7_readOnce rfl rfl qc_cl7 rfl (Nat.le_of_ble_eq_true rfl) (by decide) (by decide) rfl (Nat.le_of_ble_eq_true rfl) (Nat.le_of_ble_eq_true rfl) hn0 rfl ?_
    exact qw_vret cx hz dX7_readBand_21 (Nat.zero_le _) (Nat.zero_le _) (Option.some.inj hP) rfl
  · have hP := qc_ifF hP c1
    refine qj_aload_n cx dX7_readBand_7 rfl rfl ?_
    refine qj_iconst (v := (1 : Int32)) cx dX7_readBand_8 (by decide) ?_
    obtain ⟨q3, eq3, hP⟩ := Option.bind_eq_some_iff.mp hP
    refine qj_callV (As := [.int (1 : Int32)]) (st := []) (t := 0) (h' := (q3, J, shM)) (r := none) cx dX7_readBand_9 (c_X7_wrong (I := I) (J := J)  eq3) gc_RX7_155 qm_X7_wrong rfl rfl qc_cl7 rfl (Nat.le_of_ble_eq_true rfl) (by decide) (by decide) rfl (Nat.le_of_ble_eq_true rfl) (Nat.le_of_ble_eq_true rfl) hn0 rfl ?_
    refine qj_aload_n cx dX7_readBand_12 rfl rfl ?_
    refine qj_iconst (v := (0 : Int32)) cx dX7_readBand_13 (by decide) ?_
    refine qj_iconst (v := (0 : Int32)) cx dX7_readBand_14 (by decide) ?_
    refine qj_iconst (v := (4 : Int32)) cx dX7_readBand_15 (by decide) ?_
    refine qj_bipush (v := (60 : Int32)) cx dX7_readBand_16 (by decide) ?_
    obtain ⟨q4, eq4, hP⟩ := Option.bind_eq_some_iff.mp hP
    refine qj_callV (As := [.int (0 : Int32), .int (0 : Int32), .int (4 : Int32), .int (60 : Int32)]) (st := []) (t := 0) (h' := (q4, J, shM)) (r := none) cx dX7_readBand_18 (c_X7_readOnce (I := q3) (J := J)  eq4) gc_RX7_177 qm_X7_readOnce rfl rfl qc_cl7 rfl (Nat.le_of_ble_eq_true rfl) (by decide) (by decide) rfl (Nat.le_of_ble_eq_true rfl) (Nat.le_of_ble_eq_true rfl) hn0 rfl ?_
    exact qw_vret cx hz dX7_readBand_21 (Nat.zero_le _) (Nat.zero_le _) (Option.some.inj hP) rfl
def P_X7_readLoss_7  : Nat → (Nat → Nat → Int32) → Int32 → Option ((Nat → Nat → Int32))
  | 0, _, _ => none
  | f + 1, I, a1 =>
  if (3 : Int32) ≤ a1 then
  some I
  else
  (P_X7_numeral I (0 : Int32) (99 : Int32)).bind fun q2 =>
  (P_X7_reads q2.2 ((4 : Int32) + a1) q2.1).bind fun q3 =>
  qc_let (a1 + (1 : Int32)) fun x4 =>
  P_X7_readLoss_7 f q3 x4
def P_X7_readLoss (I : Nat → Nat → Int32) : Option ((Nat → Nat → Int32)) :=
  (P_X7_once I (4 : Int32)).bind fun q5 =>
  P_X7_readLoss_7 qc_fu q5 (0 : Int32)
set_option maxRecDepth 20000 in
theorem c_X7_readLoss {I : Nat → Nat → Int32} {J : Nat → Nat → Int64}   {q0 : (Nat → Nat → Int32)} (hP : P_X7_readLoss I = some q0) : ∀ l, qc_M l yX7_readLoss cX7_readLoss 2 none 8 172 0 0 [.ref 0] (I, J, shM) none (q0, J, shM) := by
  intro l
  refine qc_ent2 (by decide) (Nat.le_of_ble_eq_true rfl) ?_
  intro F hn0 cx hz
  have cx : qc_X F cX7_readLoss RX7 "readLoss" 8 0 0 172 := cx
  have L7 : ∀  (f : Nat) (I : (Nat → Nat → Int32)) (a1 : Int32), P_X7_readLoss_7 f I a1 = some q0 → qc_J F 0 0 7 [some (.ref 0), some (.int a1)] [] (I, J, shM) := by
    intro  f
    induction f with
    | zero => intro I a1 hP; cases hP
    | succ f ih =>
      intro I a1 hP
      rw [P_X7_readLoss_7] at hP
      refine qj_iload_n cx dX7_readLoss_7 rfl rfl ?_
      refine qj_iconst (v := (3 : Int32)) cx dX7_readLoss_8 (by decide) ?_
      refine qj_icmp_ge (tgt := 32) cx dX7_readLoss_9 (by decide) (fun c1 => ?_) (fun c1 => ?_)
      · have hP := qc_ifT hP c1
        exact qw_vret cx hz dX7_readLoss_32 (Nat.zero_le _) (Nat.zero_le _) (Option.some.inj hP) rfl
      · have hP := qc_ifF hP c1
        refine qj_aload_n cx dX7_readLoss_12 rfl rfl ?_
        refine qj_iconst (v := (4 : Int32)) cx dX7_readLoss_13 (by decide) ?_
        refine qj_iload_n cx dX7_readLoss_14 rfl rfl ?_
        refine qj_iadd cx dX7_readLoss_15 ?_
        refine qj_aload_n cx dX7_readLoss_16 rfl rfl ?_
        refine qj_iconst (v := (0 : Int32)) cx dX7_readLoss_17 (by decide) ?_
        refine qj_bipush (v := (99 : Int32)) cx dX7_readLoss_18 (by decide) ?_
        obtain ⟨q2, eq2, hP⟩ := Option.bind_eq_some_iff.mp hP
        refine qj_callV (As := [.int (0 : Int32), .int (99 : Int32)]) (st := [.int ((4 : Int32) + a1), .ref 0]) (t := 0) (h' := (q2.2, J, shM)) (r := some (.int q2.1)) cx dX7_readLoss_20 (c_X7_numeral (I := I) (J := J)  eq2) gc_RX7_165 qm_X7_numeral rfl rfl qc_cl7 rfl (Nat.le_of_ble_eq_true rfl) (by decide) (by decide) rfl (Nat.le_of_ble_eq_true rfl) (Nat.le_of_ble_eq_true rfl) hn0 rfl ?_
        obtain ⟨q3, eq3, hP⟩ := Option.bind_eq_some_iff.mp hP
        refine qj_callV (As := [.int ((4 : Int32) + a1), .int q2.1]) (st := []) (t := 0) (h' := (q3, J, shM)) (r := none) cx dX7_readLoss_23 (c_X7_reads (I := q2.2) (J := J)  eq3) gc_RX7_169 qm_X7_reads rfl rfl qc_cl7 rfl (Nat.le_of_ble_eq_true rfl) (by decide) (by decide) rfl (Nat.le_of_ble_eq_true rfl) (Nat.le_of_ble_eq_true rfl) hn0 rfl ?_
        obtain ⟨x4, ex4, hP⟩ := qc_letE hP
        refine qj_iinc (v := x4) (ls1 := [some (.ref 0), some (.int x4)]) cx dX7_readLoss_26 rfl (by rw [ex4]; rfl) rfl rfl ?_
        refine qj_goto (tgt := 7) cx dX7_readLoss_29 (by decide) ?_
        exact ih q3 x4 hP
  show qc_J F 0 0 0 [some (.ref 0), none] [] (I, J, shM)
  unfold P_X7_readLoss at hP
  refine qj_aload_n cx dX7_readLoss_0 rfl rfl ?_
  refine qj_iconst (v := (4 : Int32)) cx dX7_readLoss_1 (by decide) ?_
  obtain ⟨q5, eq5, hP⟩ := Option.bind_eq_some_iff.mp hP
  refine qj_callV (As := [.int (4 : Int32)]) (st := []) (t := 0) (h' := (q5, J, shM)) (r := none) cx dX7_readLoss_2 (c_X7_once (I := I) (J := J)  eq5) gc_RX7_162 qm_X7_once rfl rfl qc_cl7 rfl (Nat.le_of_ble_eq_true rfl) (by decide) (by decide) rfl (Nat.le_of_ble_eq_true rfl) (Nat.le_of_ble_eq_true rfl) hn0 rfl ?_
  refine qj_iconst (v := (0 : Int32)) cx dX7_readLoss_5 (by decide) ?_
  refine qj_istore_n (ls1 := [some (.ref 0), some (.int (0 : Int32))]) cx dX7_readLoss_6 rfl rfl rfl rfl ?_
  exact L7 qc_fu q5 (0 : Int32) hP
def P_X7_readUser_79  (I : (Nat → Nat → Int32)) (a1 : Int32) : Option ((Nat → Nat → Int32)) :=
  if I 0 21 = 0 then
  (if qc_in a1 12 then
  qc_let (qc_u2 I 4 a1.toNatClampNeg (I 0 20)) fun I2 =>
  (P_X7_token I2).bind fun q3 =>
  (P_X7_numeral q3 (0 : Int32) (2 : Int32)).bind fun q4 =>
  if qc_in a1 12 then
  qc_let (qc_u2 q4.2 5 a1.toNatClampNeg q4.1) fun I5 =>
  (P_X7_numeral I5 (0 : Int32) (30 : Int32)).bind fun q6 =>
  if qc_in a1 12 then
  qc_let (qc_u2 q6.2 6 a1.toNatClampNeg q6.1) fun I7 =>
  (P_X7_reading I7 (0 : Int32)).bind fun q8 =>
  (P_X7_numeral I7 (1 : Int32) q8).bind fun q9 =>
  if qc_in a1 12 then
  qc_let (qc_u2 q9.2 7 a1.toNatClampNeg q9.1) fun I10 =>
  if qc_in a1 12 then
  (P_X7_reading I10 (0 : Int32)).bind fun q12 =>
  (P_X7_numeral I10 (I10 7 a1.toNatClampNeg) q12).bind fun q13 =>
  if qc_in a1 12 then
  qc_let (qc_u2 q13.2 8 a1.toNatClampNeg q13.1) fun I14 =>
  if qc_in a1 12 then
  qc_let (qc_u2 I14 9 a1.toNatClampNeg (0 : Int32)) fun I15 =>
  if qc_in a1 12 then
  qc_let (qc_u2 I15 10 a1.toNatClampNeg (0 : Int32)) fun I16 =>
  (P_X7_reading I16 (7 : Int32)).bind fun q17 =>
  (P_X7_reads I16 (7 : Int32) (q17 + (1 : Int32))).bind fun q18 =>
  some q18
  else none
  else none
  else none
  else none
  else none
  else none
  else none
  else none)
  else
  some I
def P_X7_readUser_26  (I : (Nat → Nat → Int32)) (a1 : Int32) : Option ((Nat → Nat → Int32)) :=
  (P_X7_goOn I).bind fun q26 =>
  if q26 0 21 = 0 then
  (if q26 0 19 = (1 : Int32) then
  (P_X7_reading q26 (7 : Int32)).bind fun q29 =>
  (P_X7_namedAt q26 (6 : Int32) q29 (q26 0 20)).bind fun q30 =>
  if q30 = (-1 : Int32) then
  P_X7_readUser_79 q26 a1
  else
  (P_X7_wrong q26 (3 : Int32)).bind fun q32 =>
  P_X7_readUser_79 q32 a1
  else
  (P_X7_wrong q26 (1 : Int32)).bind fun q33 =>
  P_X7_readUser_79 q33 a1)
  else
  some q26
def P_X7_readUser (I : Nat → Nat → Int32) : Option ((Nat → Nat → Int32)) :=
  qc_let (qc_u2 I 0 14 (1 : Int32)) fun I34 =>
  (P_X7_reading I34 (7 : Int32)).bind fun q35 =>
  qc_let ((6 : Int32) + q35) fun x36 =>
  if x36 = (12 : Int32) then
  (P_X7_wrong I34 (2 : Int32)).bind fun q38 =>
  P_X7_readUser_26 q38 x36
  else
  P_X7_readUser_26 I34 x36
set_option maxRecDepth 20000 in
theorem c_X7_readUser {I : Nat → Nat → Int32} {J : Nat → Nat → Int64}   {q0 : (Nat → Nat → Int32)} (hP : P_X7_readUser I = some q0) : ∀ l, qc_M l yX7_readUser cX7_readUser 2 none 8 172 0 0 [.ref 0] (I, J, shM) none (q0, J, shM) := by
  intro l
  refine qc_ent2 (by decide) (Nat.le_of_ble_eq_true rfl) ?_
  intro F hn0 cx hz
  have cx : qc_X F cX7_readUser RX7 "readUser" 8 0 0 172 := cx
  have L79 : ∀  (I : (Nat → Nat → Int32)) (a1 : Int32), P_X7_readUser_79 I a1 = some q0 → qc_J F 0 0 79 [some (.ref 0), some (.int a1)] [] (I, J, shM) := by
    intro I a1 hP
    unfold P_X7_readUser_79 at hP
    refine qj_aload_n cx dX7_readUser_79 rfl rfl ?_
    refine qw_getI (j := 21) cx dX7_readUser_80 qc_cl7 rfl (Nat.le_of_ble_eq_true rfl) rfl ww_1113 ?_
    refine qj_if_eq (tgt := 87) cx dX7_readUser_83 (by decide) (fun c1 => ?_) (fun c1 => ?_)
    · have hP := qc_ifT hP c1
      refine qj_aload_n cx dX7_readUser_87 rfl rfl ?_
      refine qw_getR (j := 5) (t1 := 4) cx dX7_readUser_88 qc_cl7 rfl (Nat.le_of_ble_eq_true rfl) rfl ww_1097 rfl ?_
      refine qj_iload_n cx dX7_readUser_91 rfl rfl ?_
      refine qj_aload_n cx dX7_readUser_92 rfl rfl ?_
      refine qw_getI (j := 20) cx dX7_readUser_93 qc_cl7 rfl (Nat.le_of_ble_eq_true rfl) rfl ww_1112 ?_
      obtain ⟨c25, hP⟩ := qc_ck hP
      obtain ⟨I2, eI2, hP⟩ := qc_letE hP
      refine qw_iast cx dX7_readUser_96 rfl (Nat.le_of_ble_eq_true rfl) rfl c25 eI2 ?_
      refine qj_aload_n cx dX7_readUser_97 rfl rfl ?_
      obtain ⟨q3, eq3, hP⟩ := Option.bind_eq_some_iff.mp hP
      refine qj_callV (As := []) (st := []) (t := 0) (h' := (q3, J, shM)) (r := none) cx dX7_readUser_98 (c_X7_token (I := I2) (J := J)  eq3) gc_RX7_152 qm_X7_token rfl rfl qc_cl7 rfl (Nat.le_of_ble_eq_true rfl) (by decide) (by decide) rfl (Nat.le_of_ble_eq_true rfl) (Nat.le_of_ble_eq_true rfl) hn0 rfl ?_
      refine qj_aload_n cx dX7_readUser_101 rfl rfl ?_
      refine qw_getR (j := 6) (t1 := 5) cx dX7_readUser_102 qc_cl7 rfl (Nat.le_of_ble_eq_true rfl) rfl ww_1098 rfl ?_
      refine qj_iload_n cx dX7_readUser_105 rfl rfl ?_
      refine qj_aload_n cx dX7_readUser_106 rfl rfl ?_
      refine qj_iconst (v := (0 : Int32)) cx dX7_readUser_107 (by decide) ?_
      refine qj_iconst (v := (2 : Int32)) cx dX7_readUser_108 (by decide) ?_
      obtain ⟨q4, eq4, hP⟩ := Option.bind_eq_some_iff.mp hP
      refine qj_callV (As := [.int (0 : Int32), .int (2 : Int32)]) (st := [.int a1, .ref 5]) (t := 0) (h' := (q4.2, J, shM)) (r := some (.int q4.1)) cx dX7_readUser_109 (c_X7_numeral (I := q3) (J := J)  eq4) gc_RX7_165 qm_X7_numeral rfl rfl qc_cl7 rfl (Nat.le_of_ble_eq_true rfl) (by decide) (by decide) rfl (Nat.le_of_ble_eq_true rfl) (Nat.le_of_ble_eq_true rfl) hn0 rfl ?_
      obtain ⟨c24, hP⟩ := qc_ck hP
      obtain ⟨I5, eI5, hP⟩ := qc_letE hP
      refine qw_iast cx dX7_readUser_112 rfl (Nat.le_of_ble_eq_true rfl) rfl c24 eI5 ?_
      refine qj_aload_n cx dX7_readUser_113 rfl rfl ?_
      refine qw_getR (j := 7) (t1 := 6) cx dX7_readUser_114 qc_cl7 rfl (Nat.le_of_ble_eq_true rfl) rfl ww_1099 rfl ?_
      refine qj_iload_n cx dX7_readUser_117 rfl rfl ?_
      refine qj_aload_n cx dX7_readUser_118 rfl rfl ?_
      refine qj_iconst (v := (0 : Int32)) cx dX7_readUser_119 (by decide) ?_
      refine qj_bipush (v := (30 : Int32)) cx dX7_readUser_120 (by decide) ?_
      obtain ⟨q6, eq6, hP⟩ := Option.bind_eq_some_iff.mp hP
      refine qj_callV (As := [.int (0 : Int32), .int (30 : Int32)]) (st := [.int a1, .ref 6]) (t := 0) (h' := (q6.2, J, shM)) (r := some (.int q6.1)) cx dX7_readUser_122 (c_X7_numeral (I := I5) (J := J)  eq6) gc_RX7_165 qm_X7_numeral rfl rfl qc_cl7 rfl (Nat.le_of_ble_eq_true rfl) (by decide) (by decide) rfl (Nat.le_of_ble_eq_true rfl) (Nat.le_of_ble_eq_true rfl) hn0 rfl ?_
      obtain ⟨c23, hP⟩ := qc_ck hP
      obtain ⟨I7, eI7, hP⟩ := qc_letE hP
      refine qw_iast cx dX7_readUser_125 rfl (Nat.le_of_ble_eq_true rfl) rfl c23 eI7 ?_
      refine qj_aload_n cx dX7_readUser_126 rfl rfl ?_
      refine qw_getR (j := 8) (t1 := 7) cx dX7_readUser_127 qc_cl7 rfl (Nat.le_of_ble_eq_true rfl) rfl ww_1100 rfl ?_
      refine qj_iload_n cx dX7_readUser_130 rfl rfl ?_
      refine qj_aload_n cx dX7_readUser_131 rfl rfl ?_
      refine qj_iconst (v := (1 : Int32)) cx dX7_readUser_132 (by decide) ?_
      refine qj_aload_n cx dX7_readUser_133 rfl rfl ?_
      refine qj_iconst (v := (0 : Int32)) cx dX7_readUser_134 (by decide) ?_
      obtain ⟨q8, eq8, hP⟩ := Option.bind_eq_some_iff.mp hP
      refine qj_callV (As := [.int (0 : Int32)]) (st := [.int (1 : Int32), .ref 0, .int a1, .ref 7]) (t := 0) (h' := (I7, J, shM)) (r := some (.int q8)) cx dX7_readUser_135 (c_X7_reading (I := I7) (J := J)  eq8) gc_RX7_181 qm_X7_reading rfl rfl qc_cl7 rfl (Nat.le_of_ble_eq_true rfl) (by decide) (by decide) rfl (Nat.le_of_ble_eq_true rfl) (Nat.le_of_ble_eq_true rfl) hn0 rfl ?_
      obtain ⟨q9, eq9, hP⟩ := Option.bind_eq_some_iff.mp hP
      refine qj_callV (As := [.int (1 : Int32), .int q8]) (st := [.int a1, .ref 7]) (t := 0) (h' := (q9.2, J, shM)) (r := some (.int q9.1)) cx dX7_readUser_138 (c_X7_numeral (I := I7) (J := J)  eq9) gc_RX7_165 qm_X7_numeral rfl rfl qc_cl7 rfl (Nat.le_of_ble_eq_true rfl) (by decide) (by decide) rfl (Nat.le_of_ble_eq_true rfl) (Nat.le_of_ble_eq_true rfl) hn0 rfl ?_
      obtain ⟨c22, hP⟩ := qc_ck hP
      obtain ⟨I10, eI10, hP⟩ := qc_letE hP
      refine qw_iast cx dX7_readUser_141 rfl (Nat.le_of_ble_eq_true rfl) rfl c22 eI10 ?_
      refine qj_aload_n cx dX7_readUser_142 rfl rfl ?_
      refine qw_getR (j := 9) (t1 := 8) cx dX7_readUser_143 qc_cl7 rfl (Nat.le_of_ble_eq_true rfl) rfl ww_1101 rfl ?_
      refine qj_iload_n cx dX7_readUser_146 rfl rfl ?_
      refine qj_aload_n cx dX7_readUser_147 rfl rfl ?_
      refine qj_aload_n cx dX7_readUser_148 rfl rfl ?_
      refine qw_getR (j := 8) (t1 := 7) cx dX7_readUser_149 qc_cl7 rfl (Nat.le_of_ble_eq_true rfl) rfl ww_1100 rfl ?_
      refine qj_iload_n cx dX7_readUser_152 rfl rfl ?_
      obtain ⟨c11, hP⟩ := qc_ck hP
      refine qw_iald cx dX7_readUser_153 rfl (Nat.le_of_ble_eq_true rfl) rfl c11 ?_
      refine qj_aload_n cx dX7_readUser_154 rfl rfl ?_
      refine qj_iconst (v := (0 : Int32)) cx dX7_readUser_155 (by decide) ?_
      obtain ⟨q12, eq12, hP⟩ := Option.bind_eq_some_iff.mp hP
      refine qj_callV (As := [.int (0 : Int32)]) (st := [.int (I10 7 a1.toNatClampNeg), .ref 0, .int a1, .ref 8]) (t := 0) (h' := (I10, J, shM)) (r := some (.int q12)) cx dX7_readUser_156 (c_X7_reading (I := I10) (J := J)  eq12) gc_RX7_181 qm_X7_reading rfl rfl qc_cl7 rfl (Nat.le_of_ble_eq_true rfl) (by decide) (by decide) rfl (Nat.le_of_ble_eq_true rfl) (Nat.le_of_ble_eq_true rfl) hn0 rfl ?_
      obtain ⟨q13, eq13, hP⟩ := Option.bind_eq_some_iff.mp hP
      refine qj_callV (As := [.int (I10 7 a1.toNatClampNeg), .int q12]) (st := [.int a1, .ref 8]) (t := 0) (h' := (q13.2, J, shM)) (r := some (.int q13.1)) cx dX7_readUser_159 (c_X7_numeral (I := I10) (J := J)  eq13) gc_RX7_165 qm_X7_numeral rfl rfl qc_cl7 rfl (Nat.le_of_ble_eq_true rfl) (by decide) (by decide) rfl (Nat.le_of_ble_eq_true rfl) (Nat.le_of_ble_eq_true rfl) hn0 rfl ?_
      obtain ⟨c21, hP⟩ := qc_ck hP
      obtain ⟨I14, eI14, hP⟩ := qc_letE hP
      refine qw_iast cx dX7_readUser_162 rfl (Nat.le_of_ble_eq_true rfl) rfl c21 eI14 ?_
      refine qj_aload_n cx dX7_readUser_163 rfl rfl ?_
      refine qw_getR (j := 10) (t1 := 9) cx dX7_readUser_164 qc_cl7 rfl (Nat.le_of_ble_eq_true rfl) rfl ww_1102 rfl ?_
      refine qj_iload_n cx dX7_readUser_167 rfl rfl ?_
      refine qj_iconst (v := (0 : Int32)) cx dX7_readUser_168 (by decide) ?_
      obtain ⟨c20, hP⟩ := qc_ck hP
      obtain ⟨I15, eI15, hP⟩ := qc_letE hP
      refine qw_iast cx dX7_readUser_169 rfl (Nat.le_of_ble_eq_true rfl) rfl c20 eI15 ?_
      refine qj_aload_n cx dX7_readUser_170 rfl rfl ?_
      refine qw_getR (j := 11) (t1 := 10) cx dX7_readUser_171 qc_cl7 rfl (Nat.le_of_ble_eq_true rfl) rfl ww_1103 rfl ?_
      refine qj_iload_n cx dX7_readUser_174 rfl rfl ?_
      refine qj_iconst (v := (0 : Int32)) cx dX7_readUser_175 (by decide) ?_
      obtain ⟨c19, hP⟩ := qc_ck hP
      obtain ⟨I16, eI16, hP⟩ := qc_letE hP
      refine qw_iast cx dX7_readUser_176 rfl (Nat.le_of_ble_eq_true rfl) rfl c19 eI16 ?_
      refine qj_aload_n cx dX7_readUser_177 rfl rfl ?_
      refine qj_bipush (v := (7 : Int32)) cx dX7_readUser_178 (by decide) ?_
      refine qj_aload_n cx dX7_readUser_180 rfl rfl ?_
      refine qj_bipush (v := (7 : Int32)) cx dX7_readUser_181 (by decide) ?_
      obtain ⟨q17, eq17, hP⟩ := Option.bind_eq_some_iff.mp hP
      refine qj_callV (As := [.int (7 : Int32)]) (st := [.int (7 : Int32), .ref 0]) (t := 0) (h' := (I16, J, shM)) (r := some (.int q17)) cx dX7_readUser_183 (c_X7_reading (I := I16) (J := J)  eq17) gc_RX7_181 qm_X7_reading rfl rfl qc_cl7 rfl (Nat.le_of_ble_eq_true rfl) (by decide) (by decide) rfl (Nat.le_of_ble_eq_true rfl) (Nat.le_of_ble_eq_true rfl) hn0 rfl ?_
      refine qj_iconst (v := (1 : Int32)) cx dX7_readUser_186 (by decide) ?_
      refine qj_iadd cx dX7_readUser_187 ?_
      obtain ⟨q18, eq18, hP⟩ := Option.bind_eq_some_iff.mp hP
      refine qj_callV (As := [.int (7 : Int32), .int (q17 + (1 : Int32))]) (st := []) (t := 0) (h' := (q18, J, shM)) (r := none) cx dX7_readUser_188 (c_X7_reads (I := I16) (J := J)  eq18) gc_RX7_169 qm_X7_reads rfl rfl qc_cl7 rfl (Nat.le_of_ble_eq_true rfl) (by decide) (by decide) rfl (Nat.le_of_ble_eq_true rfl) (Nat.le_of_ble_eq_true rfl) hn0 rfl ?_
      exact qw_vret cx hz dX7_readUser_191 (Nat.zero_le _) (Nat.zero_le _) (Option.some.inj hP) rfl
    · have hP := qc_ifF hP c1
      exact qw_vret cx hz dX7_readUser_86 (Nat.zero_le _) (Nat.zero_le _) (Option.some.inj hP) rfl
  have L26 : ∀  (I : (Nat → Nat → Int32)) (a1 : Int32), P_X7_readUser_26 I a1 = some q0 → qc_J F 0 0 26 [some (.ref 0), some (.int a1)] [] (I, J, shM) := by
    intro I a1 hP
    unfold P_X7_readUser_26 at hP
    refine qj_aload_n cx dX7_readUser_26 rfl rfl ?_
    obtain ⟨q26, eq26, hP⟩ := Option.bind_eq_some_iff.mp hP
    refine qj_callV (As := []) (st := []) (t := 0) (h' := (q26, J, shM)) (r := none) cx dX7_readUser_27 (c_X7_goOn (I := I) (J := J)  eq26) gc_RX7_159 qm_X7_goOn rfl rfl qc_cl7 rfl (Nat.le_of_ble_eq_true rfl) (by decide) (by decide) rfl (Nat.le_of_ble_eq_true rfl) (Nat.le_of_ble_eq_true rfl) hn0 rfl ?_
    refine qj_aload_n cx dX7_readUser_30 rfl rfl ?_
    refine qw_getI (j := 21) cx dX7_readUser_31 qc_cl7 rfl (Nat.le_of_ble_eq_true rfl) rfl ww_1113 ?_
    refine qj_if_eq (tgt := 38) cx dX7_readUser_34 (by decide) (fun c27 => ?_) (fun c27 => ?_)
    · have hP := qc_ifT hP c27
      refine qj_aload_n cx dX7_readUser_38 rfl rfl ?_
      refine qw_getI (j := 19) cx dX7_readUser_39 qc_cl7 rfl (Nat.le_of_ble_eq_true rfl) rfl ww_1111 ?_
      refine qj_iconst (v := (1 : Int32)) cx dX7_readUser_42 (by decide) ?_
      refine qj_icmp_eq (tgt := 54) cx dX7_readUser_43 (by decide) (fun c28 => ?_) (fun c28 => ?_)
      · have hP := qc_ifT hP c28
        refine qj_aload_n cx dX7_readUser_54 rfl rfl ?_
        refine qj_bipush (v := (6 : Int32)) cx dX7_readUser_55 (by decide) ?_
        refine qj_aload_n cx dX7_readUser_57 rfl rfl ?_
        refine qj_bipush (v := (7 : Int32)) cx dX7_readUser_58 (by decide) ?_
        obtain ⟨q29, eq29, hP⟩ := Option.bind_eq_some_iff.mp hP
        refine qj_callV (As := [.int (7 : Int32)]) (st := [.int (6 : Int32), .ref 0]) (t := 0) (h' := (q26, J, shM)) (r := some (.int q29)) cx dX7_readUser_60 (c_X7_reading (I := q26) (J := J)  eq29) gc_RX7_181 qm_X7_reading rfl rfl qc_cl7 rfl (Nat.le_of_ble_eq_true rfl) (by decide) (by decide) rfl (Nat.le_of_ble_eq_true rfl) (Nat.le_of_ble_eq_true rfl) hn0 rfl ?_
        refine qj_aload_n cx dX7_readUser_63 rfl rfl ?_
        refine qw_getI (j := 20) cx dX7_readUser_64 qc_cl7 rfl (Nat.le_of_ble_eq_true rfl) rfl ww_1112 ?_
        obtain ⟨q30, eq30, hP⟩ := Option.bind_eq_some_iff.mp hP
        refine qj_callV (As := [.int (6 : Int32), .int q29, .int (q26 0 20)]) (st := []) (t := 0) (h' := (q26, J, shM)) (r := some (.int q30)) cx dX7_readUser_67 (c_X7_namedAt (I := q26) (J := J)  eq30) gc_RX7_185 qm_X7_namedAt rfl rfl qc_cl7 rfl (Nat.le_of_ble_eq_true rfl) (by decide) (by decide) rfl (Nat.le_of_ble_eq_true rfl) (Nat.le_of_ble_eq_true rfl) hn0 rfl ?_
        refine qj_iconst (v := (-1 : Int32)) cx dX7_readUser_70 (by decide) ?_
        refine qj_icmp_eq (tgt := 79) cx dX7_readUser_71 (by decide) (fun c31 => ?_) (fun c31 => ?_)
        · have hP := qc_ifT hP c31
          exact L79 q26 a1 hP
        · have hP := qc_ifF hP c31
          refine qj_aload_n cx dX7_readUser_74 rfl rfl ?_
          refine qj_iconst (v := (3 : Int32)) cx dX7_readUser_75 (by decide) ?_
          obtain ⟨q32, eq32, hP⟩ := Option.bind_eq_some_iff.mp hP
          refine qj_callV (As := [.int (3 : Int32)]) (st := []) (t := 0) (h' := (q32, J, shM)) (r := none) cx dX7_readUser_76 (c_X7_wrong (I := q26) (J := J)  eq32) gc_RX7_155 qm_X7_wrong rfl rfl qc_cl7 rfl (Nat.le_of_ble_eq_true rfl) (by decide) (by decide) rfl (Nat.le_of_ble_eq_true rfl) (Nat.le_of_ble_eq_true rfl) hn0 rfl ?_
          exact L79 q32 a1 hP
      · have hP := qc_ifF hP c28
        refine qj_aload_n cx dX7_readUser_46 rfl rfl ?_
        refine qj_iconst (v := (1 : Int32)) cx dX7_readUser_47 (by decide) ?_
        obtain ⟨q33, eq33, hP⟩ := Option.bind_eq_some_iff.mp hP
        refine qj_callV (As := [.int (1 : Int32)]) (st := []) (t := 0) (h' := (q33, J, shM)) (r := none) cx dX7_readUser_48 (c_X7_wrong (I := q26) (J := J)  eq33) gc_RX7_155 qm_X7_wrong rfl rfl qc_cl7 rfl (Nat.le_of_ble_eq_true rfl) (by decide) (by decide) rfl (Nat.le_of_ble_eq_true rfl) (Nat.le_of_ble_eq_true rfl) hn0 rfl ?_
        refine qj_goto (tgt := 79) cx dX7_readUser_51 (by decide) ?_
        exact L79 q33 a1 hP
    · have hP := qc_ifF hP c27
      exact qw_vret cx hz dX7_readUser_37 (Nat.zero_le _) (Nat.zero_le _) (Option.some.inj hP) rfl
  show qc_J F 0 0 0 [some (.ref 0), none] [] (I, J, shM)
  unfold P_X7_readUser at hP
  refine qj_aload_n cx dX7_readUser_0 rfl rfl ?_
  refine qj_iconst (v := (1 : Int32)) cx dX7_readUser_1 (by decide) ?_
  obtain ⟨I34, eI34, hP⟩ := qc_letE hP
  refine qw_putI (j := 14) cx dX7_readUser_2 qc_cl7 rfl (Nat.le_of_ble_eq_true rfl) rfl ww_1106 (by decide) (by decide) rfl eI34 ?_
  refine qj_bipush (v := (6 : Int32)) cx dX7_readUser_5 (by decide) ?_
  refine qj_aload_n cx dX7_readUser_7 rfl rfl ?_
  refine qj_bipush (v := (7 : Int32)) cx dX7_readUser_8 (by decide) ?_
  obtain ⟨q35, eq35, hP⟩ := Option.bind_eq_some_iff.mp hP
  refine qj_callV (As := [.int (7 : Int32)]) (st := [.int (6 : Int32)]) (t := 0) (h' := (I34, J, shM)) (r := some (.int q35)) cx dX7_readUser_10 (c_X7_reading (I := I34) (J := J)  eq35) gc_RX7_181 qm_X7_reading rfl rfl qc_cl7 rfl (Nat.le_of_ble_eq_true rfl) (by decide) (by decide) rfl (Nat.le_of_ble_eq_true rfl) (Nat.le_of_ble_eq_true rfl) hn0 rfl ?_
  refine qj_iadd cx dX7_readUser_13 ?_
  obtain ⟨x36, ex36, hP⟩ := qc_letE hP
  refine qw_top ex36 ?_
  refine qj_istore_n (ls1 := [some (.ref 0), some (.int x36)]) cx dX7_readUser_14 rfl rfl rfl rfl ?_
  refine qj_iload_n cx dX7_readUser_15 rfl rfl ?_
  refine qj_bipush (v := (12 : Int32)) cx dX7_readUser_16 (by decide) ?_
  refine qj_icmp_ne (tgt := 26) cx dX7_readUser_18 (by decide) (fun c37 => ?_) (fun c37 => ?_)
  · have hP := qc_ifF hP c37
    exact L26 I34 x36 hP
  · have hP := qc_ifT hP c37
    refine qj_aload_n cx dX7_readUser_21 rfl rfl ?_
    refine qj_iconst (v := (2 : Int32)) cx dX7_readUser_22 (by decide) ?_
    obtain ⟨q38, eq38, hP⟩ := Option.bind_eq_some_iff.mp hP
    refine qj_callV (As := [.int (2 : Int32)]) (st := []) (t := 0) (h' := (q38, J, shM)) (r := none) cx dX7_readUser_23 (c_X7_wrong (I := I34) (J := J)  eq38) gc_RX7_155 qm_X7_wrong rfl rfl qc_cl7 rfl (Nat.le_of_ble_eq_true rfl) (by decide) (by decide) rfl (Nat.le_of_ble_eq_true rfl) (Nat.le_of_ble_eq_true rfl) hn0 rfl ?_
    exact L26 q38 x36 hP
def P_X7_userOnce_88 (o : Nat) (I : (Nat → Nat → Int32)) (a2 : Int32) : Option (Int32 × (Nat → Nat → Int32)) :=
  (P_X7_goOn I).bind fun q1 =>
  (if a2 = (-1 : Int32) then
  some (0 : Int32)
  else
  some a2).bind fun v3 =>
  some (v3, q1)
def P_X7_userOnce_26 (o : Nat) (I : (Nat → Nat → Int32)) : Option (Int32 × (Nat → Nat → Int32)) :=
  (if I 0 21 = 0 then
  (P_X7_reading I (7 : Int32)).bind fun q6 =>
  (P_X7_namedAt I (6 : Int32) q6 (I 0 20)).bind fun q7 =>
  some q7
  else
  some (0 : Int32)).bind fun v5 =>
  if v5 = (-1 : Int32) then
  (P_X7_wrong I (4 : Int32)).bind fun q13 =>
  P_X7_userOnce_88 o q13 v5
  else
  if I 0 21 = 0 then
  (if qc_in ((6 : Int32) + v5) 12 then
  if I o ((6 : Int32) + v5).toNatClampNeg ≤ 0 then
  P_X7_userOnce_88 o I v5
  else
  (P_X7_wrong I (3 : Int32)).bind fun q12 =>
  P_X7_userOnce_88 o q12 v5
  else none)
  else
  P_X7_userOnce_88 o I v5
def P_X7_userOnce (I : Nat → Nat → Int32) (o : Nat) : Option (Int32 × (Nat → Nat → Int32)) :=
  (P_X7_goOn I).bind fun q14 =>
  if q14 0 21 = 0 then
  (if q14 0 19 = (1 : Int32) then
  P_X7_userOnce_26 o q14
  else
  (P_X7_wrong q14 (1 : Int32)).bind fun q17 =>
  P_X7_userOnce_26 o q17)
  else
  some ((0 : Int32), q14)
set_option maxRecDepth 20000 in
theorem c_X7_userOnce {I : Nat → Nat → Int32} {J : Nat → Nat → Int64} {o : Nat} (ho : kM o = 8 ∧ nM o = 12 ∧ o < 25)  {q0 : Int32 × (Nat → Nat → Int32)} (hP : P_X7_userOnce I o = some q0) : ∀ l, qc_M l yX7_userOnce cX7_userOnce 3 (some .int) 7 149 0 0 [.ref 0, .ref o] (I, J, shM) (some (.int q0.1)) (q0.2, J, shM) := by
  intro l
  refine qc_ent2 (by decide) (Nat.le_of_ble_eq_true rfl) ?_
  intro F hn0 cx hz
  have cx : qc_X F cX7_userOnce RX7 "userOnce" 7 0 0 149 := cx
  have L88 : ∀  (I : (Nat → Nat → Int32)) (a2 : Int32), P_X7_userOnce_88 o I a2 = some q0 → qc_J F 0 0 88 [some (.ref 0), none, some (.int a2)] [] (I, J, shM) := by
    intro I a2 hP
    unfold P_X7_userOnce_88 at hP
    refine qj_aload_n cx dX7_userOnce_88 rfl rfl ?_
    obtain ⟨q1, eq1, hP⟩ := Option.bind_eq_some_iff.mp hP
    refine qj_callV (As := []) (st := []) (t := 0) (h' := (q1, J, shM)) (r := none) cx dX7_userOnce_89 (c_X7_goOn (I := I) (J := J)  eq1) gc_RX7_159 qm_X7_goOn rfl rfl qc_cl7 rfl (Nat.le_of_ble_eq_true rfl) (by decide) (by decide) rfl (Nat.le_of_ble_eq_true rfl) (Nat.le_of_ble_eq_true rfl) hn0 rfl ?_
    refine qj_iload_n cx dX7_userOnce_92 rfl rfl ?_
    refine qj_iconst (v := (-1 : Int32)) cx dX7_userOnce_93 (by decide) ?_
    obtain ⟨v3, hv3, hP⟩ := Option.bind_eq_some_iff.mp hP
    have Kv3 : qc_J F 0 0 102 [some (.ref 0), none, some (.int a2)] [.int v3] (q1, J, shM) := by
      exact qw_iret cx hz dX7_userOnce_102 (Nat.zero_le _) (Nat.zero_le _) (congrArg (fun q => q.1) (Option.some.inj hP)) (congrArg (fun q => q.2) (Option.some.inj hP)) rfl
    refine qj_icmp_ne (tgt := 101) cx dX7_userOnce_94 (by decide) (fun c2 => ?_) (fun c2 => ?_)
    · have hv3 := qc_ifF hv3 c2
      refine qj_iload_n cx dX7_userOnce_101 rfl rfl ?_
      exact qw_top (Option.some.inj hv3).symm Kv3
    · have hv3 := qc_ifT hv3 c2
      refine qj_iconst (v := (0 : Int32)) cx dX7_userOnce_97 (by decide) ?_
      refine qj_goto (tgt := 102) cx dX7_userOnce_98 (by decide) ?_
      exact qw_top (Option.some.inj hv3).symm Kv3
  have L26 : ∀  (I : (Nat → Nat → Int32)), P_X7_userOnce_26 o I = some q0 → qc_J F 0 0 26 [some (.ref 0), some (.ref o), none] [] (I, J, shM) := by
    intro I hP
    unfold P_X7_userOnce_26 at hP
    refine qj_aload_n cx dX7_userOnce_26 rfl rfl ?_
    refine qw_getI (j := 21) cx dX7_userOnce_27 qc_cl7 rfl (Nat.le_of_ble_eq_true rfl) rfl ww_1113 ?_
    obtain ⟨v5, hv5, hP⟩ := Option.bind_eq_some_iff.mp hP
    have Kv5 : qc_J F 0 0 53 [some (.ref 0), some (.ref o), none] [.int v5] (I, J, shM) := by
      refine qj_istore_n (ls1 := [some (.ref 0), some (.ref o), some (.int v5)]) cx dX7_userOnce_53 rfl rfl rfl rfl ?_
      refine qj_iload_n cx dX7_userOnce_54 rfl rfl ?_
      refine qj_iconst (v := (-1 : Int32)) cx dX7_userOnce_55 (by decide) ?_
      refine qj_icmp_ne (tgt := 67) cx dX7_userOnce_56 (by decide) (fun c8 => ?_) (fun c8 => ?_)
      · have hP := qc_ifF hP c8
        refine qj_aload_n cx dX7_userOnce_67 rfl rfl ?_
        refine qw_getI (j := 21) cx dX7_userOnce_68 qc_cl7 rfl (Nat.le_of_ble_eq_true rfl) rfl ww_1113 ?_
        refine qj_if_ne (tgt := 88) cx dX7_userOnce_71 (by decide) (fun c9 => ?_) (fun c9 => ?_)
        · have hP := qc_ifF hP c9
          refine qw_sub (ls1 := [some (.ref 0), none, some (.int v5)]) rfl (qc_sb_ok ⟨rfl, rfl, trivial⟩) ?_
          exact L88 I v5 hP
        · have hP := qc_ifT hP c9
          refine qj_aload_n cx dX7_userOnce_74 rfl rfl ?_
          refine qj_bipush (v := (6 : Int32)) cx dX7_userOnce_75 (by decide) ?_
          refine qj_iload_n cx dX7_userOnce_77 rfl rfl ?_
          refine qj_iadd cx dX7_userOnce_78 ?_
          obtain ⟨c10, hP⟩ := qc_ck hP
          refine qw_iald cx dX7_userOnce_79 ho.1 ho.2.2 ho.2.1 c10 ?_
          refine qj_if_le (tgt := 88) cx dX7_userOnce_80 (by decide) (fun c11 => ?_) (fun c11 => ?_)
          · have hP := qc_ifT hP c11
            refine qw_sub (ls1 := [some (.ref 0), none, some (.int v5)]) rfl (qc_sb_ok ⟨rfl, rfl, trivial⟩) ?_
            exact L88 I v5 hP
          · have hP := qc_ifF hP c11
            refine qj_aload_n cx dX7_userOnce_83 rfl rfl ?_
            refine qj_iconst (v := (3 : Int32)) cx dX7_userOnce_84 (by decide) ?_
            obtain ⟨q12, eq12, hP⟩ := Option.bind_eq_some_iff.mp hP
            refine qj_callV (As := [.int (3 : Int32)]) (st := []) (t := 0) (h' := (q12, J, shM)) (r := none) cx dX7_userOnce_85 (c_X7_wrong (I := I) (J := J)  eq12) gc_RX7_155 qm_X7_wrong rfl rfl qc_cl7 rfl (Nat.le_of_ble_eq_true rfl) (by decide) (by decide) rfl (Nat.le_of_ble_eq_true rfl) (Nat.le_of_ble_eq_true rfl) hn0 rfl ?_
            refine qw_sub (ls1 := [some (.ref 0), none, some (.int v5)]) rfl (qc_sb_ok ⟨rfl, rfl, trivial⟩) ?_
            exact L88 q12 v5 hP
      · have hP := qc_ifT hP c8
        refine qj_aload_n cx dX7_userOnce_59 rfl rfl ?_
        refine qj_iconst (v := (4 : Int32)) cx dX7_userOnce_60 (by decide) ?_
        obtain ⟨q13, eq13, hP⟩ := Option.bind_eq_some_iff.mp hP
        refine qj_callV (As := [.int (4 : Int32)]) (st := []) (t := 0) (h' := (q13, J, shM)) (r := none) cx dX7_userOnce_61 (c_X7_wrong (I := I) (J := J)  eq13) gc_RX7_155 qm_X7_wrong rfl rfl qc_cl7 rfl (Nat.le_of_ble_eq_true rfl) (by decide) (by decide) rfl (Nat.le_of_ble_eq_true rfl) (Nat.le_of_ble_eq_true rfl) hn0 rfl ?_
        refine qj_goto (tgt := 88) cx dX7_userOnce_64 (by decide) ?_
        refine qw_sub (ls1 := [some (.ref 0), none, some (.int v5)]) rfl (qc_sb_ok ⟨rfl, rfl, trivial⟩) ?_
        exact L88 q13 v5 hP
    refine qj_if_ne (tgt := 52) cx dX7_userOnce_30 (by decide) (fun c4 => ?_) (fun c4 => ?_)
    · have hv5 := qc_ifF hv5 c4
      refine qj_iconst (v := (0 : Int32)) cx dX7_userOnce_52 (by decide) ?_
      exact qw_top (Option.some.inj hv5).symm Kv5
    · have hv5 := qc_ifT hv5 c4
      refine qj_aload_n cx dX7_userOnce_33 rfl rfl ?_
      refine qj_bipush (v := (6 : Int32)) cx dX7_userOnce_34 (by decide) ?_
      refine qj_aload_n cx dX7_userOnce_36 rfl rfl ?_
      refine qj_bipush (v := (7 : Int32)) cx dX7_userOnce_37 (by decide) ?_
      obtain ⟨q6, eq6, hv5⟩ := Option.bind_eq_some_iff.mp hv5
      refine qj_callV (As := [.int (7 : Int32)]) (st := [.int (6 : Int32), .ref 0]) (t := 0) (h' := (I, J, shM)) (r := some (.int q6)) cx dX7_userOnce_39 (c_X7_reading (I := I) (J := J)  eq6) gc_RX7_181 qm_X7_reading rfl rfl qc_cl7 rfl (Nat.le_of_ble_eq_true rfl) (by decide) (by decide) rfl (Nat.le_of_ble_eq_true rfl) (Nat.le_of_ble_eq_true rfl) hn0 rfl ?_
      refine qj_aload_n cx dX7_userOnce_42 rfl rfl ?_
      refine qw_getI (j := 20) cx dX7_userOnce_43 qc_cl7 rfl (Nat.le_of_ble_eq_true rfl) rfl ww_1112 ?_
      obtain ⟨q7, eq7, hv5⟩ := Option.bind_eq_some_iff.mp hv5
      refine qj_callV (As := [.int (6 : Int32), .int q6, .int (I 0 20)]) (st := []) (t := 0) (h' := (I, J, shM)) (r := some (.int q7)) cx dX7_userOnce_46 (c_X7_namedAt (I := I) (J := J)  eq7) gc_RX7_185 qm_X7_namedAt rfl rfl qc_cl7 rfl (Nat.le_of_ble_eq_true rfl) (by decide) (by decide) rfl (Nat.le_of_ble_eq_true rfl) (Nat.le_of_ble_eq_true rfl) hn0 rfl ?_
      refine qj_goto (tgt := 53) cx dX7_userOnce_49 (by decide) ?_
      exact qw_top (Option.some.inj hv5).symm Kv5
  show qc_J F 0 0 0 [some (.ref 0), some (.ref o), none] [] (I, J, shM)
  unfold P_X7_userOnce at hP
  refine qj_aload_n cx dX7_userOnce_0 rfl rfl ?_
  obtain ⟨q14, eq14, hP⟩ := Option.bind_eq_some_iff.mp hP
  refine qj_callV (As := []) (st := []) (t := 0) (h' := (q14, J, shM)) (r := none) cx dX7_userOnce_1 (c_X7_goOn (I := I) (J := J)  eq14) gc_RX7_159 qm_X7_goOn rfl rfl qc_cl7 rfl (Nat.le_of_ble_eq_true rfl) (by decide) (by decide) rfl (Nat.le_of_ble_eq_true rfl) (Nat.le_of_ble_eq_true rfl) hn0 rfl ?_
  refine qj_aload_n cx dX7_userOnce_4 rfl rfl ?_
  refine qw_getI (j := 21) cx dX7_userOnce_5 qc_cl7 rfl (Nat.le_of_ble_eq_true rfl) rfl ww_1113 ?_
  refine qj_if_eq (tgt := 13) cx dX7_userOnce_8 (by decide) (fun c15 => ?_) (fun c15 => ?_)
  · have hP := qc_ifT hP c15
    refine qj_aload_n cx dX7_userOnce_13 rfl rfl ?_
    refine qw_getI (j := 19) cx dX7_userOnce_14 qc_cl7 rfl (Nat.le_of_ble_eq_true rfl) rfl ww_1111 ?_
    refine qj_iconst (v := (1 : Int32)) cx dX7_userOnce_17 (by decide) ?_
    refine qj_icmp_eq (tgt := 26) cx dX7_userOnce_18 (by decide) (fun c16 => ?_) (fun c16 => ?_)
    · have hP := qc_ifT hP c16
      exact L26 q14 hP
    · have hP := qc_ifF hP c16
      refine qj_aload_n cx dX7_userOnce_21 rfl rfl ?_
      refine qj_iconst (v := (1 : Int32)) cx dX7_userOnce_22 (by decide) ?_
      obtain ⟨q17, eq17, hP⟩ := Option.bind_eq_some_iff.mp hP
      refine qj_callV (As := [.int (1 : Int32)]) (st := []) (t := 0) (h' := (q17, J, shM)) (r := none) cx dX7_userOnce_23 (c_X7_wrong (I := q14) (J := J)  eq17) gc_RX7_155 qm_X7_wrong rfl rfl qc_cl7 rfl (Nat.le_of_ble_eq_true rfl) (by decide) (by decide) rfl (Nat.le_of_ble_eq_true rfl) (Nat.le_of_ble_eq_true rfl) hn0 rfl ?_
      exact L26 q17 hP
  · have hP := qc_ifF hP c15
    refine qj_iconst (v := (0 : Int32)) cx dX7_userOnce_11 (by decide) ?_
    exact qw_iret cx hz dX7_userOnce_12 (Nat.zero_le _) (Nat.zero_le _) (congrArg (fun q => q.1) (Option.some.inj hP)) (congrArg (fun q => q.2) (Option.some.inj hP)) rfl
def P_X7_readFixed (I : Nat → Nat → Int32) : Option ((Nat → Nat → Int32)) :=
  qc_let (qc_u2 I 0 14 (1 : Int32)) fun I1 =>
  (P_X7_userOnce I1 9).bind fun q2 =>
  (P_X7_reading q2.2 (0 : Int32)).bind fun q3 =>
  (P_X7_numeral q2.2 (1 : Int32) q3).bind fun q4 =>
  if q4.2 0 21 = 0 then
  (if qc_in ((6 : Int32) + q2.1) 12 then
  qc_let (qc_u2 q4.2 9 ((6 : Int32) + q2.1).toNatClampNeg q4.1) fun I6 =>
  some I6
  else none)
  else
  some q4.2
set_option maxRecDepth 20000 in
theorem c_X7_readFixed {I : Nat → Nat → Int32} {J : Nat → Nat → Int64}   {q0 : (Nat → Nat → Int32)} (hP : P_X7_readFixed I = some q0) : ∀ l, qc_M l yX7_readFixed cX7_readFixed 3 none 8 172 0 0 [.ref 0] (I, J, shM) none (q0, J, shM) := by
  intro l
  refine qc_ent2 (by decide) (Nat.le_of_ble_eq_true rfl) ?_
  intro F hn0 cx hz
  have cx : qc_X F cX7_readFixed RX7 "readFixed" 8 0 0 172 := cx
  show qc_J F 0 0 0 [some (.ref 0), none, none] [] (I, J, shM)
  unfold P_X7_readFixed at hP
  refine qj_aload_n cx dX7_readFixed_0 rfl rfl ?_
  refine qj_iconst (v := (1 : Int32)) cx dX7_readFixed_1 (by decide) ?_
  obtain ⟨I1, eI1, hP⟩ := qc_letE hP
  refine qw_putI (j := 14) cx dX7_readFixed_2 qc_cl7 rfl (Nat.le_of_ble_eq_true rfl) rfl ww_1106 (by decide) (by decide) rfl eI1 ?_
  refine qj_aload_n cx dX7_readFixed_5 rfl rfl ?_
  refine qj_aload_n cx dX7_readFixed_6 rfl rfl ?_
  refine qw_getR (j := 10) (t1 := 9) cx dX7_readFixed_7 qc_cl7 rfl (Nat.le_of_ble_eq_true rfl) rfl ww_1102 rfl ?_
  obtain ⟨q2, eq2, hP⟩ := Option.bind_eq_some_iff.mp hP
  refine qj_callV (As := [.ref 9]) (st := []) (t := 0) (h' := (q2.2, J, shM)) (r := some (.int q2.1)) cx dX7_readFixed_10 (c_X7_userOnce (I := I1) (J := J) ⟨rfl, rfl, by decide⟩ eq2) gc_RX7_189 qm_X7_userOnce rfl rfl qc_cl7 rfl (Nat.le_of_ble_eq_true rfl) (by decide) (by decide) rfl (Nat.le_of_ble_eq_true rfl) (Nat.le_of_ble_eq_true rfl) hn0 rfl ?_
  refine qj_istore_n (ls1 := [some (.ref 0), some (.int q2.1), none]) cx dX7_readFixed_13 rfl rfl rfl rfl ?_
  refine qj_aload_n cx dX7_readFixed_14 rfl rfl ?_
  refine qj_iconst (v := (1 : Int32)) cx dX7_readFixed_15 (by decide) ?_
  refine qj_aload_n cx dX7_readFixed_16 rfl rfl ?_
  refine qj_iconst (v := (0 : Int32)) cx dX7_readFixed_17 (by decide) ?_
  obtain ⟨q3, eq3, hP⟩ := Option.bind_eq_some_iff.mp hP
  refine qj_callV (As := [.int (0 : Int32)]) (st := [.int (1 : Int32), .ref 0]) (t := 0) (h' := (q2.2, J, shM)) (r := some (.int q3)) cx dX7_readFixed_18 (c_X7_reading (I := q2.2) (J := J)  eq3) gc_RX7_181 qm_X7_reading rfl rfl qc_cl7 rfl (Nat.le_of_ble_eq_true rfl) (by decide) (by decide) rfl (Nat.le_of_ble_eq_true rfl) (Nat.le_of_ble_eq_true rfl) hn0 rfl ?_
  obtain ⟨q4, eq4, hP⟩ := Option.bind_eq_some_iff.mp hP
  refine qj_callV (As := [.int (1 : Int32), .int q3]) (st := []) (t := 0) (h' := (q4.2, J, shM)) (r := some (.int q4.1)) cx dX7_readFixed_21 (c_X7_numeral (I := q2.2) (J := J)  eq4) gc_RX7_165 qm_X7_numeral rfl rfl qc_cl7 rfl (Nat.le_of_ble_eq_true rfl) (by decide) (by decide) rfl (Nat.le_of_ble_eq_true rfl) (Nat.le_of_ble_eq_true rfl) hn0 rfl ?_
  refine qj_istore_n (ls1 := [some (.ref 0), some (.int q2.1), some (.int q4.1)]) cx dX7_readFixed_24 rfl rfl rfl rfl ?_
  refine qj_aload_n cx dX7_readFixed_25 rfl rfl ?_
  refine qw_getI (j := 21) cx dX7_readFixed_26 qc_cl7 rfl (Nat.le_of_ble_eq_true rfl) rfl ww_1113 ?_
  refine qj_if_ne (tgt := 42) cx dX7_readFixed_29 (by decide) (fun c5 => ?_) (fun c5 => ?_)
  · have hP := qc_ifF hP c5
    exact qw_vret cx hz dX7_readFixed_42 (Nat.zero_le _) (Nat.zero_le _) (Option.some.inj hP) rfl
  · have hP := qc_ifT hP c5
    refine qj_aload_n cx dX7_readFixed_32 rfl rfl ?_
    refine qw_getR (j := 10) (t1 := 9) cx dX7_readFixed_33 qc_cl7 rfl (Nat.le_of_ble_eq_true rfl) rfl ww_1102 rfl ?_
    refine qj_bipush (v := (6 : Int32)) cx dX7_readFixed_36 (by decide) ?_
    refine qj_iload_n cx dX7_readFixed_38 rfl rfl ?_
    refine qj_iadd cx dX7_readFixed_39 ?_
    refine qj_iload_n cx dX7_readFixed_40 rfl rfl ?_
    obtain ⟨c7, hP⟩ := qc_ck hP
    obtain ⟨I6, eI6, hP⟩ := qc_letE hP
    refine qw_iast cx dX7_readFixed_41 rfl (Nat.le_of_ble_eq_true rfl) rfl c7 eI6 ?_
    exact qw_vret cx hz dX7_readFixed_42 (Nat.zero_le _) (Nat.zero_le _) (Option.some.inj hP) rfl
def P_X7_readSlots (I : Nat → Nat → Int32) : Option ((Nat → Nat → Int32)) :=
  (P_X7_userOnce I 10).bind fun q1 =>
  (P_X7_numeral q1.2 (1 : Int32) (255 : Int32)).bind fun q2 =>
  if q2.2 0 21 = 0 then
  (if qc_in ((6 : Int32) + q1.1) 12 then
  qc_let (qc_u2 q2.2 10 ((6 : Int32) + q1.1).toNatClampNeg q2.1) fun I4 =>
  some I4
  else none)
  else
  some q2.2
set_option maxRecDepth 20000 in
theorem c_X7_readSlots {I : Nat → Nat → Int32} {J : Nat → Nat → Int64}   {q0 : (Nat → Nat → Int32)} (hP : P_X7_readSlots I = some q0) : ∀ l, qc_M l yX7_readSlots cX7_readSlots 3 none 8 172 0 0 [.ref 0] (I, J, shM) none (q0, J, shM) := by
  intro l
  refine qc_ent2 (by decide) (Nat.le_of_ble_eq_true rfl) ?_
  intro F hn0 cx hz
  have cx : qc_X F cX7_readSlots RX7 "readSlots" 8 0 0 172 := cx
  show qc_J F 0 0 0 [some (.ref 0), none, none] [] (I, J, shM)
  unfold P_X7_readSlots at hP
  refine qj_aload_n cx dX7_readSlots_0 rfl rfl ?_
  refine qj_aload_n cx dX7_readSlots_1 rfl rfl ?_
  refine qw_getR (j := 11) (t1 := 10) cx dX7_readSlots_2 qc_cl7 rfl (Nat.le_of_ble_eq_true rfl) rfl ww_1103 rfl ?_
  obtain ⟨q1, eq1, hP⟩ := Option.bind_eq_some_iff.mp hP
  refine qj_callV (As := [.ref 10]) (st := []) (t := 0) (h' := (q1.2, J, shM)) (r := some (.int q1.1)) cx dX7_readSlots_5 (c_X7_userOnce (I := I) (J := J) ⟨rfl, rfl, by decide⟩ eq1) gc_RX7_189 qm_X7_userOnce rfl rfl qc_cl7 rfl (Nat.le_of_ble_eq_true rfl) (by decide) (by decide) rfl (Nat.le_of_ble_eq_true rfl) (Nat.le_of_ble_eq_true rfl) hn0 rfl ?_
  refine qj_istore_n (ls1 := [some (.ref 0), some (.int q1.1), none]) cx dX7_readSlots_8 rfl rfl rfl rfl ?_
  refine qj_aload_n cx dX7_readSlots_9 rfl rfl ?_
  refine qj_iconst (v := (1 : Int32)) cx dX7_readSlots_10 (by decide) ?_
  refine qj_sipush (v := (255 : Int32)) cx dX7_readSlots_11 (by decide) ?_
  obtain ⟨q2, eq2, hP⟩ := Option.bind_eq_some_iff.mp hP
  refine qj_callV (As := [.int (1 : Int32), .int (255 : Int32)]) (st := []) (t := 0) (h' := (q2.2, J, shM)) (r := some (.int q2.1)) cx dX7_readSlots_14 (c_X7_numeral (I := q1.2) (J := J)  eq2) gc_RX7_165 qm_X7_numeral rfl rfl qc_cl7 rfl (Nat.le_of_ble_eq_true rfl) (by decide) (by decide) rfl (Nat.le_of_ble_eq_true rfl) (Nat.le_of_ble_eq_true rfl) hn0 rfl ?_
  refine qj_istore_n (ls1 := [some (.ref 0), some (.int q1.1), some (.int q2.1)]) cx dX7_readSlots_17 rfl rfl rfl rfl ?_
  refine qj_aload_n cx dX7_readSlots_18 rfl rfl ?_
  refine qw_getI (j := 21) cx dX7_readSlots_19 qc_cl7 rfl (Nat.le_of_ble_eq_true rfl) rfl ww_1113 ?_
  refine qj_if_ne (tgt := 35) cx dX7_readSlots_22 (by decide) (fun c3 => ?_) (fun c3 => ?_)
  · have hP := qc_ifF hP c3
    exact qw_vret cx hz dX7_readSlots_35 (Nat.zero_le _) (Nat.zero_le _) (Option.some.inj hP) rfl
  · have hP := qc_ifT hP c3
    refine qj_aload_n cx dX7_readSlots_25 rfl rfl ?_
    refine qw_getR (j := 11) (t1 := 10) cx dX7_readSlots_26 qc_cl7 rfl (Nat.le_of_ble_eq_true rfl) rfl ww_1103 rfl ?_
    refine qj_bipush (v := (6 : Int32)) cx dX7_readSlots_29 (by decide) ?_
    refine qj_iload_n cx dX7_readSlots_31 rfl rfl ?_
    refine qj_iadd cx dX7_readSlots_32 ?_
    refine qj_iload_n cx dX7_readSlots_33 rfl rfl ?_
    obtain ⟨c5, hP⟩ := qc_ck hP
    obtain ⟨I4, eI4, hP⟩ := qc_letE hP
    refine qw_iast cx dX7_readSlots_34 rfl (Nat.le_of_ble_eq_true rfl) rfl c5 eI4 ?_
    exact qw_vret cx hz dX7_readSlots_35 (Nat.zero_le _) (Nat.zero_le _) (Option.some.inj hP) rfl
def P_X7_readLink_105  (I : (Nat → Nat → Int32)) (a1 : Int32) (a2 : Int32) : Option ((Nat → Nat → Int32)) :=
  (P_X7_goOn I).bind fun q1 =>
  (P_X7_numeral q1 (0 : Int32) (99 : Int32)).bind fun q2 =>
  if q2.2 0 21 = 0 then
  (if qc_in (((9 : Int32) + ((3 : Int32) * a1)) + a2) 18 then
  qc_let (qc_u2 q2.2 11 (((9 : Int32) + ((3 : Int32) * a1)) + a2).toNatClampNeg q2.1) fun I4 =>
  if qc_in (((9 : Int32) + ((3 : Int32) * a2)) + a1) 18 then
  qc_let (qc_u2 I4 11 (((9 : Int32) + ((3 : Int32) * a2)) + a1).toNatClampNeg q2.1) fun I5 =>
  some I5
  else none
  else none)
  else
  some q2.2
def P_X7_readLink_59  (I : (Nat → Nat → Int32)) (a1 : Int32) : Option ((Nat → Nat → Int32)) :=
  (if I 0 21 = 0 then
  some (I 0 20)
  else
  some (0 : Int32)).bind fun v9 =>
  if I 0 21 = 0 then
  (if qc_in (((9 : Int32) + ((3 : Int32) * a1)) + v9) 18 then
  if I 11 (((9 : Int32) + ((3 : Int32) * a1)) + v9).toNatClampNeg = (-2 : Int32) then
  P_X7_readLink_105 I a1 v9
  else
  (P_X7_wrong I (3 : Int32)).bind fun q13 =>
  P_X7_readLink_105 q13 a1 v9
  else none)
  else
  P_X7_readLink_105 I a1 v9
def P_X7_readLink_54  (I : (Nat → Nat → Int32)) (a1 : Int32) : Option ((Nat → Nat → Int32)) :=
  (P_X7_wrong I (2 : Int32)).bind fun q14 =>
  P_X7_readLink_59 q14 a1
def P_X7_readLink_31  (I : (Nat → Nat → Int32)) (a1 : Int32) : Option ((Nat → Nat → Int32)) :=
  if I 0 21 = 0 then
  (if (2 : Int32) < I 0 20 then
  P_X7_readLink_54 I a1
  else
  if I 0 20 = a1 then
  P_X7_readLink_54 I a1
  else
  P_X7_readLink_59 I a1)
  else
  P_X7_readLink_59 I a1
def P_X7_readLink (I : Nat → Nat → Int32) : Option ((Nat → Nat → Int32)) :=
  (P_X7_goOn I).bind fun q18 =>
  (P_X7_numeral q18 (0 : Int32) (2 : Int32)).bind fun q19 =>
  if q19.2 0 21 = 0 then
  (if q19.2 0 19 = (2 : Int32) then
  P_X7_readLink_31 q19.2 q19.1
  else
  (P_X7_wrong q19.2 (1 : Int32)).bind fun q22 =>
  P_X7_readLink_31 q22 q19.1)
  else
  P_X7_readLink_31 q19.2 q19.1
set_option maxRecDepth 20000 in
theorem c_X7_readLink {I : Nat → Nat → Int32} {J : Nat → Nat → Int64}   {q0 : (Nat → Nat → Int32)} (hP : P_X7_readLink I = some q0) : ∀ l, qc_M l yX7_readLink cX7_readLink 4 none 8 172 0 0 [.ref 0] (I, J, shM) none (q0, J, shM) := by
  intro l
  refine qc_ent2 (by decide) (Nat.le_of_ble_eq_true rfl) ?_
  intro F hn0 cx hz
  have cx : qc_X F cX7_readLink RX7 "readLink" 8 0 0 172 := cx
  have L105 : ∀  (I : (Nat → Nat → Int32)) (a1 : Int32) (a2 : Int32), P_X7_readLink_105 I a1 a2 = some q0 → qc_J F 0 0 105 [some (.ref 0), some (.int a1), some (.int a2), none] [] (I, J, shM) := by
    intro I a1 a2 hP
    unfold P_X7_readLink_105 at hP
    refine qj_aload_n cx dX7_readLink_105 rfl rfl ?_
    obtain ⟨q1, eq1, hP⟩ := Option.bind_eq_some_iff.mp hP
    refine qj_callV (As := []) (st := []) (t := 0) (h' := (q1, J, shM)) (r := none) cx dX7_readLink_106 (c_X7_goOn (I := I) (J := J)  eq1) gc_RX7_159 qm_X7_goOn rfl rfl qc_cl7 rfl (Nat.le_of_ble_eq_true rfl) (by decide) (by decide) rfl (Nat.le_of_ble_eq_true rfl) (Nat.le_of_ble_eq_true rfl) hn0 rfl ?_
    refine qj_aload_n cx dX7_readLink_109 rfl rfl ?_
    refine qj_iconst (v := (0 : Int32)) cx dX7_readLink_110 (by decide) ?_
    refine qj_bipush (v := (99 : Int32)) cx dX7_readLink_111 (by decide) ?_
    obtain ⟨q2, eq2, hP⟩ := Option.bind_eq_some_iff.mp hP
    refine qj_callV (As := [.int (0 : Int32), .int (99 : Int32)]) (st := []) (t := 0) (h' := (q2.2, J, shM)) (r := some (.int q2.1)) cx dX7_readLink_113 (c_X7_numeral (I := q1) (J := J)  eq2) gc_RX7_165 qm_X7_numeral rfl rfl qc_cl7 rfl (Nat.le_of_ble_eq_true rfl) (by decide) (by decide) rfl (Nat.le_of_ble_eq_true rfl) (Nat.le_of_ble_eq_true rfl) hn0 rfl ?_
    refine qj_istore_n (ls1 := [some (.ref 0), some (.int a1), some (.int a2), some (.int q2.1)]) cx dX7_readLink_116 rfl rfl rfl rfl ?_
    refine qj_aload_n cx dX7_readLink_117 rfl rfl ?_
    refine qw_getI (j := 21) cx dX7_readLink_118 qc_cl7 rfl (Nat.le_of_ble_eq_true rfl) rfl ww_1113 ?_
    refine qj_if_eq (tgt := 125) cx dX7_readLink_121 (by decide) (fun c3 => ?_) (fun c3 => ?_)
    · have hP := qc_ifT hP c3
      refine qj_aload_n cx dX7_readLink_125 rfl rfl ?_
      refine qw_getR (j := 12) (t1 := 11) cx dX7_readLink_126 qc_cl7 rfl (Nat.le_of_ble_eq_true rfl) rfl ww_1104 rfl ?_
      refine qj_bipush (v := (9 : Int32)) cx dX7_readLink_129 (by decide) ?_
      refine qj_iconst (v := (3 : Int32)) cx dX7_readLink_131 (by decide) ?_
      refine qj_iload_n cx dX7_readLink_132 rfl rfl ?_
      refine qj_imul cx dX7_readLink_133 ?_
      refine qj_iadd cx dX7_readLink_134 ?_
      refine qj_iload_n cx dX7_readLink_135 rfl rfl ?_
      refine qj_iadd cx dX7_readLink_136 ?_
      refine qj_iload_n cx dX7_readLink_137 rfl rfl ?_
      obtain ⟨c7, hP⟩ := qc_ck hP
      obtain ⟨I4, eI4, hP⟩ := qc_letE hP
      refine qw_iast cx dX7_readLink_138 rfl (Nat.le_of_ble_eq_true rfl) rfl c7 eI4 ?_
      refine qj_aload_n cx dX7_readLink_139 rfl rfl ?_
      refine qw_getR (j := 12) (t1 := 11) cx dX7_readLink_140 qc_cl7 rfl (Nat.le_of_ble_eq_true rfl) rfl ww_1104 rfl ?_
      refine qj_bipush (v := (9 : Int32)) cx dX7_readLink_143 (by decide) ?_
      refine qj_iconst (v := (3 : Int32)) cx dX7_readLink_145 (by decide) ?_
      refine qj_iload_n cx dX7_readLink_146 rfl rfl ?_
      refine qj_imul cx dX7_readLink_147 ?_
      refine qj_iadd cx dX7_readLink_148 ?_
      refine qj_iload_n cx dX7_readLink_149 rfl rfl ?_
      refine qj_iadd cx dX7_readLink_150 ?_
      refine qj_iload_n cx dX7_readLink_151 rfl rfl ?_
      obtain ⟨c6, hP⟩ := qc_ck hP
      obtain ⟨I5, eI5, hP⟩ := qc_letE hP
      refine qw_iast cx dX7_readLink_152 rfl (Nat.le_of_ble_eq_true rfl) rfl c6 eI5 ?_
      exact qw_vret cx hz dX7_readLink_153 (Nat.zero_le _) (Nat.zero_le _) (Option.some.inj hP) rfl
    · have hP := qc_ifF hP c3
      exact qw_vret cx hz dX7_readLink_124 (Nat.zero_le _) (Nat.zero_le _) (Option.some.inj hP) rfl
  have L59 : ∀  (I : (Nat → Nat → Int32)) (a1 : Int32), P_X7_readLink_59 I a1 = some q0 → qc_J F 0 0 59 [some (.ref 0), some (.int a1), none, none] [] (I, J, shM) := by
    intro I a1 hP
    unfold P_X7_readLink_59 at hP
    refine qj_aload_n cx dX7_readLink_59 rfl rfl ?_
    refine qw_getI (j := 21) cx dX7_readLink_60 qc_cl7 rfl (Nat.le_of_ble_eq_true rfl) rfl ww_1113 ?_
    obtain ⟨v9, hv9, hP⟩ := Option.bind_eq_some_iff.mp hP
    have Kv9 : qc_J F 0 0 74 [some (.ref 0), some (.int a1), none, none] [.int v9] (I, J, shM) := by
      refine qj_istore_n (ls1 := [some (.ref 0), some (.int a1), some (.int v9), none]) cx dX7_readLink_74 rfl rfl rfl rfl ?_
      refine qj_aload_n cx dX7_readLink_75 rfl rfl ?_
      refine qw_getI (j := 21) cx dX7_readLink_76 qc_cl7 rfl (Nat.le_of_ble_eq_true rfl) rfl ww_1113 ?_
      refine qj_if_ne (tgt := 105) cx dX7_readLink_79 (by decide) (fun c10 => ?_) (fun c10 => ?_)
      · have hP := qc_ifF hP c10
        exact L105 I a1 v9 hP
      · have hP := qc_ifT hP c10
        refine qj_aload_n cx dX7_readLink_82 rfl rfl ?_
        refine qw_getR (j := 12) (t1 := 11) cx dX7_readLink_83 qc_cl7 rfl (Nat.le_of_ble_eq_true rfl) rfl ww_1104 rfl ?_
        refine qj_bipush (v := (9 : Int32)) cx dX7_readLink_86 (by decide) ?_
        refine qj_iconst (v := (3 : Int32)) cx dX7_readLink_88 (by decide) ?_
        refine qj_iload_n cx dX7_readLink_89 rfl rfl ?_
        refine qj_imul cx dX7_readLink_90 ?_
        refine qj_iadd cx dX7_readLink_91 ?_
        refine qj_iload_n cx dX7_readLink_92 rfl rfl ?_
        refine qj_iadd cx dX7_readLink_93 ?_
        obtain ⟨c11, hP⟩ := qc_ck hP
        refine qw_iald cx dX7_readLink_94 rfl (Nat.le_of_ble_eq_true rfl) rfl c11 ?_
        refine qj_bipush (v := (-2 : Int32)) cx dX7_readLink_95 (by decide) ?_
        refine qj_icmp_eq (tgt := 105) cx dX7_readLink_97 (by decide) (fun c12 => ?_) (fun c12 => ?_)
        · have hP := qc_ifT hP c12
          exact L105 I a1 v9 hP
        · have hP := qc_ifF hP c12
          refine qj_aload_n cx dX7_readLink_100 rfl rfl ?_
          refine qj_iconst (v := (3 : Int32)) cx dX7_readLink_101 (by decide) ?_
          obtain ⟨q13, eq13, hP⟩ := Option.bind_eq_some_iff.mp hP
          refine qj_callV (As := [.int (3 : Int32)]) (st := []) (t := 0) (h' := (q13, J, shM)) (r := none) cx dX7_readLink_102 (c_X7_wrong (I := I) (J := J)  eq13) gc_RX7_155 qm_X7_wrong rfl rfl qc_cl7 rfl (Nat.le_of_ble_eq_true rfl) (by decide) (by decide) rfl (Nat.le_of_ble_eq_true rfl) (Nat.le_of_ble_eq_true rfl) hn0 rfl ?_
          exact L105 q13 a1 v9 hP
    refine qj_if_ne (tgt := 73) cx dX7_readLink_63 (by decide) (fun c8 => ?_) (fun c8 => ?_)
    · have hv9 := qc_ifF hv9 c8
      refine qj_iconst (v := (0 : Int32)) cx dX7_readLink_73 (by decide) ?_
      exact qw_top (Option.some.inj hv9).symm Kv9
    · have hv9 := qc_ifT hv9 c8
      refine qj_aload_n cx dX7_readLink_66 rfl rfl ?_
      refine qw_getI (j := 20) cx dX7_readLink_67 qc_cl7 rfl (Nat.le_of_ble_eq_true rfl) rfl ww_1112 ?_
      refine qj_goto (tgt := 74) cx dX7_readLink_70 (by decide) ?_
      exact qw_top (Option.some.inj hv9).symm Kv9
  have L54 : ∀  (I : (Nat → Nat → Int32)) (a1 : Int32), P_X7_readLink_54 I a1 = some q0 → qc_J F 0 0 54 [some (.ref 0), some (.int a1), none, none] [] (I, J, shM) := by
    intro I a1 hP
    unfold P_X7_readLink_54 at hP
    refine qj_aload_n cx dX7_readLink_54 rfl rfl ?_
    refine qj_iconst (v := (2 : Int32)) cx dX7_readLink_55 (by decide) ?_
    obtain ⟨q14, eq14, hP⟩ := Option.bind_eq_some_iff.mp hP
    refine qj_callV (As := [.int (2 : Int32)]) (st := []) (t := 0) (h' := (q14, J, shM)) (r := none) cx dX7_readLink_56 (c_X7_wrong (I := I) (J := J)  eq14) gc_RX7_155 qm_X7_wrong rfl rfl qc_cl7 rfl (Nat.le_of_ble_eq_true rfl) (by decide) (by decide) rfl (Nat.le_of_ble_eq_true rfl) (Nat.le_of_ble_eq_true rfl) hn0 rfl ?_
    exact L59 q14 a1 hP
  have L31 : ∀  (I : (Nat → Nat → Int32)) (a1 : Int32), P_X7_readLink_31 I a1 = some q0 → qc_J F 0 0 31 [some (.ref 0), some (.int a1), none, none] [] (I, J, shM) := by
    intro I a1 hP
    unfold P_X7_readLink_31 at hP
    refine qj_aload_n cx dX7_readLink_31 rfl rfl ?_
    refine qw_getI (j := 21) cx dX7_readLink_32 qc_cl7 rfl (Nat.le_of_ble_eq_true rfl) rfl ww_1113 ?_
    refine qj_if_ne (tgt := 59) cx dX7_readLink_35 (by decide) (fun c15 => ?_) (fun c15 => ?_)
    · have hP := qc_ifF hP c15
      exact L59 I a1 hP
    · have hP := qc_ifT hP c15
      refine qj_aload_n cx dX7_readLink_38 rfl rfl ?_
      refine qw_getI (j := 20) cx dX7_readLink_39 qc_cl7 rfl (Nat.le_of_ble_eq_true rfl) rfl ww_1112 ?_
      refine qj_iconst (v := (2 : Int32)) cx dX7_readLink_42 (by decide) ?_
      refine qj_icmp_gt (tgt := 54) cx dX7_readLink_43 (by decide) (fun c16 => ?_) (fun c16 => ?_)
      · have hP := qc_ifT hP c16
        exact L54 I a1 hP
      · have hP := qc_ifF hP c16
        refine qj_aload_n cx dX7_readLink_46 rfl rfl ?_
        refine qw_getI (j := 20) cx dX7_readLink_47 qc_cl7 rfl (Nat.le_of_ble_eq_true rfl) rfl ww_1112 ?_
        refine qj_iload_n cx dX7_readLink_50 rfl rfl ?_
        refine qj_icmp_ne (tgt := 59) cx dX7_readLink_51 (by decide) (fun c17 => ?_) (fun c17 => ?_)
        · have hP := qc_ifF hP c17
          exact L59 I a1 hP
        · have hP := qc_ifT hP c17
          exact L54 I a1 hP
  show qc_J F 0 0 0 [some (.ref 0), none, none, none] [] (I, J, shM)
  unfold P_X7_readLink at hP
  refine qj_aload_n cx dX7_readLink_0 rfl rfl ?_
  obtain ⟨q18, eq18, hP⟩ := Option.bind_eq_some_iff.mp hP
  refine qj_callV (As := []) (st := []) (t := 0) (h' := (q18, J, shM)) (r := none) cx dX7_readLink_1 (c_X7_goOn (I := I) (J := J)  eq18) gc_RX7_159 qm_X7_goOn rfl rfl qc_cl7 rfl (Nat.le_of_ble_eq_true rfl) (by decide) (by decide) rfl (Nat.le_of_ble_eq_true rfl) (Nat.le_of_ble_eq_true rfl) hn0 rfl ?_
  refine qj_aload_n cx dX7_readLink_4 rfl rfl ?_
  refine qj_iconst (v := (0 : Int32)) cx dX7_readLink_5 (by decide) ?_
  refine qj_iconst (v := (2 : Int32)) cx dX7_readLink_6 (by decide) ?_
  obtain ⟨q19, eq19, hP⟩ := Option.bind_eq_some_iff.mp hP
  refine qj_callV (As := [.int (0 : Int32), .int (2 : Int32)]) (st := []) (t := 0) (h' := (q19.2, J, shM)) (r := some (.int q19.1)) cx dX7_readLink_7 (c_X7_numeral (I := q18) (J := J)  eq19) gc_RX7_165 qm_X7_numeral rfl rfl qc_cl7 rfl (Nat.le_of_ble_eq_true rfl) (by decide) (by decide) rfl (Nat.le_of_ble_eq_true rfl) (Nat.le_of_ble_eq_true rfl) hn0 rfl ?_
  refine qj_istore_n (ls1 := [some (.ref 0), some (.int q19.1), none, none]) cx dX7_readLink_10 rfl rfl rfl rfl ?_
  refine qj_aload_n cx dX7_readLink_11 rfl rfl ?_
  refine qw_getI (j := 21) cx dX7_readLink_12 qc_cl7 rfl (Nat.le_of_ble_eq_true rfl) rfl ww_1113 ?_
  refine qj_if_ne (tgt := 31) cx dX7_readLink_15 (by decide) (fun c20 => ?_) (fun c20 => ?_)
  · have hP := qc_ifF hP c20
    exact L31 q19.2 q19.1 hP
  · have hP := qc_ifT hP c20
    refine qj_aload_n cx dX7_readLink_18 rfl rfl ?_
    refine qw_getI (j := 19) cx dX7_readLink_19 qc_cl7 rfl (Nat.le_of_ble_eq_true rfl) rfl ww_1111 ?_
    refine qj_iconst (v := (2 : Int32)) cx dX7_readLink_22 (by decide) ?_
    refine qj_icmp_eq (tgt := 31) cx dX7_readLink_23 (by decide) (fun c21 => ?_) (fun c21 => ?_)
    · have hP := qc_ifT hP c21
      exact L31 q19.2 q19.1 hP
    · have hP := qc_ifF hP c21
      refine qj_aload_n cx dX7_readLink_26 rfl rfl ?_
      refine qj_iconst (v := (1 : Int32)) cx dX7_readLink_27 (by decide) ?_
      obtain ⟨q22, eq22, hP⟩ := Option.bind_eq_some_iff.mp hP
      refine qj_callV (As := [.int (1 : Int32)]) (st := []) (t := 0) (h' := (q22, J, shM)) (r := none) cx dX7_readLink_28 (c_X7_wrong (I := q19.2) (J := J)  eq22) gc_RX7_155 qm_X7_wrong rfl rfl qc_cl7 rfl (Nat.le_of_ble_eq_true rfl) (by decide) (by decide) rfl (Nat.le_of_ble_eq_true rfl) (Nat.le_of_ble_eq_true rfl) hn0 rfl ?_
      exact L31 q22 q19.1 hP
