def P_X7_thrown (I : Nat → Nat → Int32) : Option (Int32) :=
  some (I 0 0)
set_option maxRecDepth 20000 in
theorem c_X7_thrown {I : Nat → Nat → Int32} {J : Nat → Nat → Int64}   {q0 : Int32} (hP : P_X7_thrown I = some q0) : ∀ l, qc_M l yX7_thrown cX7_thrown 1 (some .int) 0 0 0 0 [.ref 0] (I, J, shM) (some (.int q0)) (I, J, shM) := by
  intro l
  refine qc_ent2 (by decide) (Nat.le_of_ble_eq_true rfl) ?_
  intro F hn0 cx hz
  have cx : qc_X F cX7_thrown RX7 "thrown" 0 0 0 0 := cx
  show qc_J F 0 0 0 [some (.ref 0)] [] (I, J, shM)
  unfold P_X7_thrown at hP
  refine qj_aload_n cx dX7_thrown_0 rfl rfl ?_
  refine qw_getI (j := 0) cx dX7_thrown_1 qc_cl7 rfl (Nat.le_of_ble_eq_true rfl) rfl ww_1092 ?_
  exact qw_iret cx hz dX7_thrown_4 (Nat.zero_le _) (Nat.zero_le _) (Option.some.inj hP) rfl rfl
def P_X7_feed_20  : Nat → (Nat → Nat → Int32) → Int32 → Int32 → Int32 → Int32 → Int32 → Int32 → Option (Int32 × (Nat → Nat → Int32))
  | 0, _, _, _, _, _, _, _ => none
  | f + 1, I, a1, a2, a3, a4, a5, a6 =>
  if (20 : Int32) ≤ a6 then
  qc_let (qc_u2 I 0 2 ((I 0 2) + (20 : Int32))) fun I2 =>
  some (I2 0 2, I2)
  else
  (if (4 : Int32) ≤ a6 then
  if (8 : Int32) ≤ a6 then
  (if (12 : Int32) ≤ a6 then
  (if (16 : Int32) ≤ a6 then
  some a5
  else
  some a4)
  else
  some a3)
  else
  some a2
  else
  some a1).bind fun v4 =>
  if qc_in ((I 0 2) + a6) 700 then
  qc_let (qc_u2 I 1 ((I 0 2) + a6).toNatClampNeg ((v4 >>> (((24 : Int32) - ((8 : Int32) * (a6 - a6 / (4 : Int32) * (4 : Int32)))) &&& 31)) &&& (255 : Int32))) fun I8 =>
  qc_let (a6 + (1 : Int32)) fun x9 =>
  P_X7_feed_20 f I8 a1 a2 a3 a4 a5 x9
  else none
def P_X7_feed (I : Nat → Nat → Int32) (a : Int32) (b : Int32) (c : Int32) (d : Int32) (e : Int32) : Option (Int32 × (Nat → Nat → Int32)) :=
  qc_let (qc_u2 I 0 0 (0 : Int32)) fun I11 =>
  if I11 0 2 ≤ (680 : Int32) then
  P_X7_feed_20 qc_fu I11 a b c d e (0 : Int32)
  else
  some ((-1 : Int32), I11)
set_option maxRecDepth 20000 in
theorem c_X7_feed {I : Nat → Nat → Int32} {J : Nat → Nat → Int64}  {a : Int32} {b : Int32} {c : Int32} {d : Int32} {e : Int32} {q0 : Int32 × (Nat → Nat → Int32)} (hP : P_X7_feed I a b c d e = some q0) : ∀ l, qc_M l yX7_feed cX7_feed 8 (some .int) 0 0 0 0 [.ref 0, .int a, .int b, .int c, .int d, .int e] (I, J, shM) (some (.int q0.1)) (q0.2, J, shM) := by
  intro l
  refine qc_ent2 (by decide) (Nat.le_of_ble_eq_true rfl) ?_
  intro F hn0 cx hz
  have cx : qc_X F cX7_feed RX7 "feed" 0 0 0 0 := cx
  have L20 : ∀  (f : Nat) (I : (Nat → Nat → Int32)) (a1 : Int32) (a2 : Int32) (a3 : Int32) (a4 : Int32) (a5 : Int32) (a6 : Int32), P_X7_feed_20 f I a1 a2 a3 a4 a5 a6 = some q0 → qc_J F 0 0 20 [some (.ref 0), some (.int a1), some (.int a2), some (.int a3), some (.int a4), some (.int a5), some (.int a6), none] [] (I, J, shM) := by
    intro  f
    induction f with
    | zero => intro I a1 a2 a3 a4 a5 a6 hP; cases hP
    | succ f ih =>
      intro I a1 a2 a3 a4 a5 a6 hP
      rw [P_X7_feed_20] at hP
      refine qj_iload cx dX7_feed_20 rfl ?_
      refine qj_bipush (v := (20 : Int32)) cx dX7_feed_22 (by decide) ?_
      refine qj_icmp_ge (tgt := 110) cx dX7_feed_24 (by decide) (fun c1 => ?_) (fun c1 => ?_)
      · have hP := qc_ifT hP c1
        refine qj_aload_n cx dX7_feed_110 rfl rfl ?_
        refine qj_dup cx dX7_feed_111 rfl ?_
        refine qw_getI (j := 2) cx dX7_feed_112 qc_cl7 rfl (Nat.le_of_ble_eq_true rfl) rfl ww_1094 ?_
        refine qj_bipush (v := (20 : Int32)) cx dX7_feed_115 (by decide) ?_
        refine qj_iadd cx dX7_feed_117 ?_
        obtain ⟨I2, eI2, hP⟩ := qc_letE hP
        refine qw_putI (j := 2) cx dX7_feed_118 qc_cl7 rfl (Nat.le_of_ble_eq_true rfl) rfl ww_1094 rfl rfl rfl eI2 ?_
        refine qj_aload_n cx dX7_feed_121 rfl rfl ?_
        refine qw_getI (j := 2) cx dX7_feed_122 qc_cl7 rfl (Nat.le_of_ble_eq_true rfl) rfl ww_1094 ?_
        exact qw_iret cx hz dX7_feed_125 (Nat.zero_le _) (Nat.zero_le _) (congrArg (fun q => q.1) (Option.some.inj hP)) (congrArg (fun q => q.2) (Option.some.inj hP)) rfl
      · have hP := qc_ifF hP c1
        refine qj_iload cx dX7_feed_27 rfl ?_
        refine qj_iconst (v := (4 : Int32)) cx dX7_feed_29 (by decide) ?_
        obtain ⟨v4, hv4, hP⟩ := Option.bind_eq_some_iff.mp hP
        have Kv4 : qc_J F 0 0 73 [some (.ref 0), some (.int a1), some (.int a2), some (.int a3), some (.int a4), some (.int a5), some (.int a6), none] [.int v4] (I, J, shM) := by
          refine qj_istore (ls1 := [some (.ref 0), some (.int a1), some (.int a2), some (.int a3), some (.int a4), some (.int a5), some (.int a6), some (.int v4)]) cx dX7_feed_73 rfl rfl rfl ?_
          refine qj_aload_n cx dX7_feed_75 rfl rfl ?_
          refine qw_getR (j := 1) (t1 := 1) cx dX7_feed_76 qc_cl7 rfl (Nat.le_of_ble_eq_true rfl) rfl ww_1093 rfl ?_
          refine qj_aload_n cx dX7_feed_79 rfl rfl ?_
          refine qw_getI (j := 2) cx dX7_feed_80 qc_cl7 rfl (Nat.le_of_ble_eq_true rfl) rfl ww_1094 ?_
          refine qj_iload cx dX7_feed_83 rfl ?_
          refine qj_iadd cx dX7_feed_85 ?_
          refine qj_iload cx dX7_feed_86 rfl ?_
          refine qj_bipush (v := (24 : Int32)) cx dX7_feed_88 (by decide) ?_
          refine qj_bipush (v := (8 : Int32)) cx dX7_feed_90 (by decide) ?_
          refine qj_iload cx dX7_feed_92 rfl ?_
          refine qj_iconst (v := (4 : Int32)) cx dX7_feed_94 (by decide) ?_
          refine qj_irem cx dX7_feed_95 (by decide) ?_
          refine qj_imul cx dX7_feed_96 ?_
          refine qj_isub cx dX7_feed_97 ?_
          refine qj_ishr cx dX7_feed_98 ?_
          refine qj_sipush (v := (255 : Int32)) cx dX7_feed_99 (by decide) ?_
          refine qj_iand cx dX7_feed_102 ?_
          obtain ⟨c10, hP⟩ := qc_ck hP
          obtain ⟨I8, eI8, hP⟩ := qc_letE hP
          refine qw_iast cx dX7_feed_103 rfl (Nat.le_of_ble_eq_true rfl) rfl c10 eI8 ?_
          obtain ⟨x9, ex9, hP⟩ := qc_letE hP
          refine qj_iinc (v := x9) (ls1 := [some (.ref 0), some (.int a1), some (.int a2), some (.int a3), some (.int a4), some (.int a5), some (.int x9), some (.int v4)]) cx dX7_feed_104 rfl (by rw [ex9]; rfl) rfl rfl ?_
          refine qj_goto (tgt := 20) cx dX7_feed_107 (by decide) ?_
          refine qw_sub (ls1 := [some (.ref 0), some (.int a1), some (.int a2), some (.int a3), some (.int a4), some (.int a5), some (.int x9), none]) rfl (qc_sb_ok ⟨rfl, rfl, rfl, rfl, rfl, rfl, rfl, trivial⟩) ?_
          exact ih I8 a1 a2 a3 a4 a5 x9 hP
        refine qj_icmp_ge (tgt := 37) cx dX7_feed_30 (by decide) (fun c3 => ?_) (fun c3 => ?_)
        · have hv4 := qc_ifT hv4 c3
          refine qj_iload cx dX7_feed_37 rfl ?_
          refine qj_bipush (v := (8 : Int32)) cx dX7_feed_39 (by decide) ?_
          refine qj_icmp_ge (tgt := 48) cx dX7_feed_41 (by decide) (fun c5 => ?_) (fun c5 => ?_)
          · have hv4 := qc_ifT hv4 c5
            refine qj_iload cx dX7_feed_48 rfl ?_
            refine qj_bipush (v := (12 : Int32)) cx dX7_feed_50 (by decide) ?_
            refine qj_icmp_ge (tgt := 59) cx dX7_feed_52 (by decide) (fun c6 => ?_) (fun c6 => ?_)
            · have hv4 := qc_ifT hv4 c6
              refine qj_iload cx dX7_feed_59 rfl ?_
              refine qj_bipush (v := (16 : Int32)) cx dX7_feed_61 (by decide) ?_
              refine qj_icmp_ge (tgt := 71) cx dX7_feed_63 (by decide) (fun c7 => ?_) (fun c7 => ?_)
              · have hv4 := qc_ifT hv4 c7
                refine qj_iload cx dX7_feed_71 rfl ?_
                exact qw_top (Option.some.inj hv4).symm Kv4
              · have hv4 := qc_ifF hv4 c7
                refine qj_iload cx dX7_feed_66 rfl ?_
                refine qj_goto (tgt := 73) cx dX7_feed_68 (by decide) ?_
                exact qw_top (Option.some.inj hv4).symm Kv4
            · have hv4 := qc_ifF hv4 c6
              refine qj_iload_n cx dX7_feed_55 rfl rfl ?_
              refine qj_goto (tgt := 73) cx dX7_feed_56 (by decide) ?_
              exact qw_top (Option.some.inj hv4).symm Kv4
          · have hv4 := qc_ifF hv4 c5
            refine qj_iload_n cx dX7_feed_44 rfl rfl ?_
            refine qj_goto (tgt := 73) cx dX7_feed_45 (by decide) ?_
            exact qw_top (Option.some.inj hv4).symm Kv4
        · have hv4 := qc_ifF hv4 c3
          refine qj_iload_n cx dX7_feed_33 rfl rfl ?_
          refine qj_goto (tgt := 73) cx dX7_feed_34 (by decide) ?_
          exact qw_top (Option.some.inj hv4).symm Kv4
  show qc_J F 0 0 0 [some (.ref 0), some (.int a), some (.int b), some (.int c), some (.int d), some (.int e), none, none] [] (I, J, shM)
  unfold P_X7_feed at hP
  refine qj_aload_n cx dX7_feed_0 rfl rfl ?_
  refine qj_iconst (v := (0 : Int32)) cx dX7_feed_1 (by decide) ?_
  obtain ⟨I11, eI11, hP⟩ := qc_letE hP
  refine qw_putI (j := 0) cx dX7_feed_2 qc_cl7 rfl (Nat.le_of_ble_eq_true rfl) rfl ww_1092 rfl rfl rfl eI11 ?_
  refine qj_aload_n cx dX7_feed_5 rfl rfl ?_
  refine qw_getI (j := 2) cx dX7_feed_6 qc_cl7 rfl (Nat.le_of_ble_eq_true rfl) rfl ww_1094 ?_
  refine qj_sipush (v := (680 : Int32)) cx dX7_feed_9 (by decide) ?_
  refine qj_icmp_le (tgt := 17) cx dX7_feed_12 (by decide) (fun c12 => ?_) (fun c12 => ?_)
  · have hP := qc_ifT hP c12
    refine qj_iconst (v := (0 : Int32)) cx dX7_feed_17 (by decide) ?_
    refine qj_istore (ls1 := [some (.ref 0), some (.int a), some (.int b), some (.int c), some (.int d), some (.int e), some (.int (0 : Int32)), none]) cx dX7_feed_18 rfl rfl rfl ?_
    exact L20 qc_fu I11 a b c d e (0 : Int32) hP
  · have hP := qc_ifF hP c12
    refine qj_iconst (v := (-1 : Int32)) cx dX7_feed_15 (by decide) ?_
    exact qw_iret cx hz dX7_feed_16 (Nat.zero_le _) (Nat.zero_le _) (congrArg (fun q => q.1) (Option.some.inj hP)) (congrArg (fun q => q.2) (Option.some.inj hP)) rfl
def P_X7_here (I : Nat → Nat → Int32) : Option (Int32) :=
  (if I 0 16 ≤ I 0 17 then
  some (-1 : Int32)
  else
  if qc_in (I 0 17) 700 then
  some (I 1 (I 0 17).toNatClampNeg)
  else none).bind fun v2 =>
  some v2
set_option maxRecDepth 20000 in
theorem c_X7_here {I : Nat → Nat → Int32} {J : Nat → Nat → Int64}   {q0 : Int32} (hP : P_X7_here I = some q0) : ∀ l, qc_M l yX7_here cX7_here 1 (some .int) 0 0 0 0 [.ref 0] (I, J, shM) (some (.int q0)) (I, J, shM) := by
  intro l
  refine qc_ent2 (by decide) (Nat.le_of_ble_eq_true rfl) ?_
  intro F hn0 cx hz
  have cx : qc_X F cX7_here RX7 "here" 0 0 0 0 := cx
  show qc_J F 0 0 0 [some (.ref 0)] [] (I, J, shM)
  unfold P_X7_here at hP
  refine qj_aload_n cx dX7_here_0 rfl rfl ?_
  refine qw_getI (j := 17) cx dX7_here_1 qc_cl7 rfl (Nat.le_of_ble_eq_true rfl) rfl ww_1109 ?_
  refine qj_aload_n cx dX7_here_4 rfl rfl ?_
  refine qw_getI (j := 16) cx dX7_here_5 qc_cl7 rfl (Nat.le_of_ble_eq_true rfl) rfl ww_1108 ?_
  obtain ⟨v2, hv2, hP⟩ := Option.bind_eq_some_iff.mp hP
  have Kv2 : qc_J F 0 0 24 [some (.ref 0)] [.int v2] (I, J, shM) := by
    exact qw_iret cx hz dX7_here_24 (Nat.zero_le _) (Nat.zero_le _) (Option.some.inj hP) rfl rfl
  refine qj_icmp_ge (tgt := 23) cx dX7_here_8 (by decide) (fun c1 => ?_) (fun c1 => ?_)
  · have hv2 := qc_ifT hv2 c1
    refine qj_iconst (v := (-1 : Int32)) cx dX7_here_23 (by decide) ?_
    exact qw_top (Option.some.inj hv2).symm Kv2
  · have hv2 := qc_ifF hv2 c1
    refine qj_aload_n cx dX7_here_11 rfl rfl ?_
    refine qw_getR (j := 1) (t1 := 1) cx dX7_here_12 qc_cl7 rfl (Nat.le_of_ble_eq_true rfl) rfl ww_1093 rfl ?_
    refine qj_aload_n cx dX7_here_15 rfl rfl ?_
    refine qw_getI (j := 17) cx dX7_here_16 qc_cl7 rfl (Nat.le_of_ble_eq_true rfl) rfl ww_1109 ?_
    obtain ⟨c3, hv2⟩ := qc_ck hv2
    refine qw_iald cx dX7_here_19 rfl (Nat.le_of_ble_eq_true rfl) rfl c3 ?_
    refine qj_goto (tgt := 24) cx dX7_here_20 (by decide) ?_
    exact qw_top (Option.some.inj hv2).symm Kv2
def P_X7_isSmall (a : Int32) : Option (Int32) :=
  (if a < (97 : Int32) then
  some (0 : Int32)
  else
  if (122 : Int32) < a then
  some (0 : Int32)
  else
  some (1 : Int32)).bind fun v2 =>
  if qc_bo v2 then some v2 else none
set_option maxRecDepth 20000 in
theorem c_X7_isSmall {I : Nat → Nat → Int32} {J : Nat → Nat → Int64} {S : qc_Sh} {a : Int32} {q0 : Int32} (hP : P_X7_isSmall a = some q0) : ∀ l, qc_M l yX7_isSmall cX7_isSmall 1 (some .boolean) 0 0 0 0 [.int a] (I, J, S) (some (.int q0)) (I, J, S) := by
  intro l
  refine qc_ent2 (by decide) (Nat.le_of_ble_eq_true rfl) ?_
  intro F hn0 cx hz
  have cx : qc_X F cX7_isSmall RX7 "isSmall" 0 0 0 0 := cx
  show qc_J F 0 0 0 [some (.int a)] [] (I, J, S)
  unfold P_X7_isSmall at hP
  refine qj_iload_n cx dX7_isSmall_0 rfl rfl ?_
  refine qj_bipush (v := (97 : Int32)) cx dX7_isSmall_1 (by decide) ?_
  obtain ⟨v2, hv2, hP⟩ := Option.bind_eq_some_iff.mp hP
  have Kv2 : qc_J F 0 0 17 [some (.int a)] [.int v2] (I, J, S) := by
    obtain ⟨c4, hP⟩ := qc_ck hP
    exact qw_zret cx hz dX7_isSmall_17 (qc_bo_n c4) (Nat.zero_le _) (Nat.zero_le _) (Option.some.inj hP) rfl rfl
  refine qj_icmp_lt (tgt := 16) cx dX7_isSmall_3 (by decide) (fun c1 => ?_) (fun c1 => ?_)
  · have hv2 := qc_ifT hv2 c1
    refine qj_iconst (v := (0 : Int32)) cx dX7_isSmall_16 (by decide) ?_
    exact qw_top (Option.some.inj hv2).symm Kv2
  · have hv2 := qc_ifF hv2 c1
    refine qj_iload_n cx dX7_isSmall_6 rfl rfl ?_
    refine qj_bipush (v := (122 : Int32)) cx dX7_isSmall_7 (by decide) ?_
    refine qj_icmp_gt (tgt := 16) cx dX7_isSmall_9 (by decide) (fun c3 => ?_) (fun c3 => ?_)
    · have hv2 := qc_ifT hv2 c3
      refine qj_iconst (v := (0 : Int32)) cx dX7_isSmall_16 (by decide) ?_
      exact qw_top (Option.some.inj hv2).symm Kv2
    · have hv2 := qc_ifF hv2 c3
      refine qj_iconst (v := (1 : Int32)) cx dX7_isSmall_12 (by decide) ?_
      refine qj_goto (tgt := 17) cx dX7_isSmall_13 (by decide) ?_
      exact qw_top (Option.some.inj hv2).symm Kv2
def P_X7_isDigit (a : Int32) : Option (Int32) :=
  (if a < (48 : Int32) then
  some (0 : Int32)
  else
  if (57 : Int32) < a then
  some (0 : Int32)
  else
  some (1 : Int32)).bind fun v2 =>
  if qc_bo v2 then some v2 else none
set_option maxRecDepth 20000 in
theorem c_X7_isDigit {I : Nat → Nat → Int32} {J : Nat → Nat → Int64} {S : qc_Sh} {a : Int32} {q0 : Int32} (hP : P_X7_isDigit a = some q0) : ∀ l, qc_M l yX7_isDigit cX7_isDigit 1 (some .boolean) 0 0 0 0 [.int a] (I, J, S) (some (.int q0)) (I, J, S) := by
  intro l
  refine qc_ent2 (by decide) (Nat.le_of_ble_eq_true rfl) ?_
  intro F hn0 cx hz
  have cx : qc_X F cX7_isDigit RX7 "isDigit" 0 0 0 0 := cx
  show qc_J F 0 0 0 [some (.int a)] [] (I, J, S)
  unfold P_X7_isDigit at hP
  refine qj_iload_n cx dX7_isDigit_0 rfl rfl ?_
  refine qj_bipush (v := (48 : Int32)) cx dX7_isDigit_1 (by decide) ?_
  obtain ⟨v2, hv2, hP⟩ := Option.bind_eq_some_iff.mp hP
  have Kv2 : qc_J F 0 0 17 [some (.int a)] [.int v2] (I, J, S) := by
    obtain ⟨c4, hP⟩ := qc_ck hP
    exact qw_zret cx hz dX7_isDigit_17 (qc_bo_n c4) (Nat.zero_le _) (Nat.zero_le _) (Option.some.inj hP) rfl rfl
  refine qj_icmp_lt (tgt := 16) cx dX7_isDigit_3 (by decide) (fun c1 => ?_) (fun c1 => ?_)
  · have hv2 := qc_ifT hv2 c1
    refine qj_iconst (v := (0 : Int32)) cx dX7_isDigit_16 (by decide) ?_
    exact qw_top (Option.some.inj hv2).symm Kv2
  · have hv2 := qc_ifF hv2 c1
    refine qj_iload_n cx dX7_isDigit_6 rfl rfl ?_
    refine qj_bipush (v := (57 : Int32)) cx dX7_isDigit_7 (by decide) ?_
    refine qj_icmp_gt (tgt := 16) cx dX7_isDigit_9 (by decide) (fun c3 => ?_) (fun c3 => ?_)
    · have hv2 := qc_ifT hv2 c3
      refine qj_iconst (v := (0 : Int32)) cx dX7_isDigit_16 (by decide) ?_
      exact qw_top (Option.some.inj hv2).symm Kv2
    · have hv2 := qc_ifF hv2 c3
      refine qj_iconst (v := (1 : Int32)) cx dX7_isDigit_12 (by decide) ?_
      refine qj_goto (tgt := 17) cx dX7_isDigit_13 (by decide) ?_
      exact qw_top (Option.some.inj hv2).symm Kv2
def P_X7_wordHere_97 (I : Nat → Nat → Int32) (k4 : Int32 → Int32 → Option (Int32)) : Nat → Int32 → Int32 → Option (Int32)
  | 0, _, _ => none
  | f + 1, a1, a2 =>
  if qc_in a2 62 then
  if qc_ch a2.toNatClampNeg = (32 : Int32) then
  qc_let (a2 + (1 : Int32)) fun x3 =>
  qc_let (a1 + (1 : Int32)) fun x4 =>
  k4 x4 x3
  else
  qc_let (a2 + (1 : Int32)) fun x5 =>
  P_X7_wordHere_97 I k4 f a1 x5
  else none
def P_X7_wordHere_69 (I : Nat → Nat → Int32) (k4 : Int32 → Int32 → Option (Int32)) (a1 : Int32) (a2 : Int32) (a3 : Int32) : Option (Int32) :=
  if qc_in (a2 + a3) 62 then
  if qc_ch (a2 + a3).toNatClampNeg = (32 : Int32) then
  (if (I 0 18) + a3 = I 0 17 then
  some a1
  else
  P_X7_wordHere_97 I k4 qc_fu a1 a2)
  else
  P_X7_wordHere_97 I k4 qc_fu a1 a2
  else none
def P_X7_wordHere_15 (I : Nat → Nat → Int32) (k4 : Int32 → Int32 → Option (Int32)) : Nat → Int32 → Int32 → Int32 → Option (Int32)
  | 0, _, _, _ => none
  | f + 1, a1, a2, a3 =>
  if qc_in (a2 + a3) 62 then
  if qc_ch (a2 + a3).toNatClampNeg = (32 : Int32) then
  P_X7_wordHere_69 I k4 a1 a2 a3
  else
  if I 0 17 ≤ (I 0 18) + a3 then
  P_X7_wordHere_69 I k4 a1 a2 a3
  else
  if qc_in ((I 0 18) + a3) 700 then
  if qc_in (a2 + a3) 62 then
  if I 1 ((I 0 18) + a3).toNatClampNeg = qc_ch (a2 + a3).toNatClampNeg then
  qc_let (a3 + (1 : Int32)) fun x15 =>
  P_X7_wordHere_15 I k4 f a1 a2 x15
  else
  P_X7_wordHere_69 I k4 a1 a2 a3
  else none
  else none
  else none
def P_X7_wordHere_4 (I : Nat → Nat → Int32) : Nat → Int32 → Int32 → Option (Int32)
  | 0, _, _ => none
  | f + 1, a1, a2 =>
  if (62 : Int32) ≤ a2 then
  some (-1 : Int32)
  else
  P_X7_wordHere_15 I (P_X7_wordHere_4 I f) qc_fu a1 a2 (0 : Int32)
def P_X7_wordHere (I : Nat → Nat → Int32) : Option (Int32) :=
  P_X7_wordHere_4 I qc_fu (0 : Int32) (0 : Int32)
set_option maxRecDepth 20000 in
theorem c_X7_wordHere {I : Nat → Nat → Int32} {J : Nat → Nat → Int64}   {q0 : Int32} (hP : P_X7_wordHere I = some q0) : ∀ l, qc_M l yX7_wordHere cX7_wordHere 4 (some .int) 4 85 0 0 [.ref 0] (I, J, shM) (some (.int q0)) (I, J, shM) := by
  intro l
  refine qc_ent2 (by decide) (Nat.le_of_ble_eq_true rfl) ?_
  intro F hn0 cx hz
  have cx : qc_X F cX7_wordHere RX7 "wordHere" 4 0 0 85 := cx
  have L97 : ∀ (k4 : Int32 → Int32 → Option (Int32)) (g4 : ∀ (a1 : Int32) (a2 : Int32), k4 a1 a2 = some q0 → qc_J F 0 0 4 [some (.ref 0), some (.int a1), some (.int a2), none] [] (I, J, shM)) (f : Nat) (a1 : Int32) (a2 : Int32), P_X7_wordHere_97 I k4 f a1 a2 = some q0 → qc_J F 0 0 97 [some (.ref 0), some (.int a1), some (.int a2), none] [] (I, J, shM) := by
    intro k4 g4 f
    induction f with
    | zero => intro a1 a2 hP; cases hP
    | succ f ih =>
      intro a1 a2 hP
      rw [P_X7_wordHere_97] at hP
      refine qj_ldct cx dX7_wordHere_97 (Nat.le_of_ble_eq_true rfl) ?_
      refine qj_iload_n cx dX7_wordHere_99 rfl rfl ?_
      obtain ⟨c1, hP⟩ := qc_ck hP
      refine qj_callT (As := [.int a2]) (st := []) (r := some (.int (qc_ch a2.toNatClampNeg))) cx dX7_wordHere_100 (qt_charAt (Nat.le_of_ble_eq_true rfl) c1) gt_142 gm_charAt rfl rfl (by decide) (by decide) rfl (Nat.le_of_ble_eq_true rfl) (Nat.le_of_ble_eq_true rfl) hn0 ?_
      refine qj_bipush (v := (32 : Int32)) cx dX7_wordHere_103 (by decide) ?_
      refine qj_icmp_eq (tgt := 114) cx dX7_wordHere_105 (by decide) (fun c2 => ?_) (fun c2 => ?_)
      · have hP := qc_ifT hP c2
        obtain ⟨x3, ex3, hP⟩ := qc_letE hP
        refine qj_iinc (v := x3) (ls1 := [some (.ref 0), some (.int a1), some (.int x3), none]) cx dX7_wordHere_114 rfl (by rw [ex3]; rfl) rfl rfl ?_
        obtain ⟨x4, ex4, hP⟩ := qc_letE hP
        refine qj_iinc (v := x4) (ls1 := [some (.ref 0), some (.int x4), some (.int x3), none]) cx dX7_wordHere_117 rfl (by rw [ex4]; rfl) rfl rfl ?_
        refine qj_goto (tgt := 4) cx dX7_wordHere_120 (by decide) ?_
        exact g4 x4 x3 hP
      · have hP := qc_ifF hP c2
        obtain ⟨x5, ex5, hP⟩ := qc_letE hP
        refine qj_iinc (v := x5) (ls1 := [some (.ref 0), some (.int a1), some (.int x5), none]) cx dX7_wordHere_108 rfl (by rw [ex5]; rfl) rfl rfl ?_
        refine qj_goto (tgt := 97) cx dX7_wordHere_111 (by decide) ?_
        exact ih a1 x5 hP
  have L69 : ∀ (k4 : Int32 → Int32 → Option (Int32)) (g4 : ∀ (a1 : Int32) (a2 : Int32), k4 a1 a2 = some q0 → qc_J F 0 0 4 [some (.ref 0), some (.int a1), some (.int a2), none] [] (I, J, shM)) (a1 : Int32) (a2 : Int32) (a3 : Int32), P_X7_wordHere_69 I k4 a1 a2 a3 = some q0 → qc_J F 0 0 69 [some (.ref 0), some (.int a1), some (.int a2), some (.int a3)] [] (I, J, shM) := by
    intro k4 g4 a1 a2 a3 hP
    unfold P_X7_wordHere_69 at hP
    refine qj_ldct cx dX7_wordHere_69 (Nat.le_of_ble_eq_true rfl) ?_
    refine qj_iload_n cx dX7_wordHere_71 rfl rfl ?_
    refine qj_iload_n cx dX7_wordHere_72 rfl rfl ?_
    refine qj_iadd cx dX7_wordHere_73 ?_
    obtain ⟨c6, hP⟩ := qc_ck hP
    refine qj_callT (As := [.int (a2 + a3)]) (st := []) (r := some (.int (qc_ch (a2 + a3).toNatClampNeg))) cx dX7_wordHere_74 (qt_charAt (Nat.le_of_ble_eq_true rfl) c6) gt_142 gm_charAt rfl rfl (by decide) (by decide) rfl (Nat.le_of_ble_eq_true rfl) (Nat.le_of_ble_eq_true rfl) hn0 ?_
    refine qj_bipush (v := (32 : Int32)) cx dX7_wordHere_77 (by decide) ?_
    refine qj_icmp_ne (tgt := 97) cx dX7_wordHere_79 (by decide) (fun c7 => ?_) (fun c7 => ?_)
    · have hP := qc_ifF hP c7
      refine qw_sub (ls1 := [some (.ref 0), some (.int a1), some (.int a2), none]) rfl (qc_sb_ok ⟨rfl, rfl, rfl, trivial⟩) ?_
      exact L97 k4 g4 qc_fu a1 a2 hP
    · have hP := qc_ifT hP c7
      refine qj_aload_n cx dX7_wordHere_82 rfl rfl ?_
      refine qw_getI (j := 18) cx dX7_wordHere_83 qc_cl7 rfl (Nat.le_of_ble_eq_true rfl) rfl ww_1110 ?_
      refine qj_iload_n cx dX7_wordHere_86 rfl rfl ?_
      refine qj_iadd cx dX7_wordHere_87 ?_
      refine qj_aload_n cx dX7_wordHere_88 rfl rfl ?_
      refine qw_getI (j := 17) cx dX7_wordHere_89 qc_cl7 rfl (Nat.le_of_ble_eq_true rfl) rfl ww_1109 ?_
      refine qj_icmp_ne (tgt := 97) cx dX7_wordHere_92 (by decide) (fun c8 => ?_) (fun c8 => ?_)
      · have hP := qc_ifF hP c8
        refine qw_sub (ls1 := [some (.ref 0), some (.int a1), some (.int a2), none]) rfl (qc_sb_ok ⟨rfl, rfl, rfl, trivial⟩) ?_
        exact L97 k4 g4 qc_fu a1 a2 hP
      · have hP := qc_ifT hP c8
        refine qj_iload_n cx dX7_wordHere_95 rfl rfl ?_
        exact qw_iret cx hz dX7_wordHere_96 (Nat.zero_le _) (Nat.zero_le _) (Option.some.inj hP) rfl rfl
  have L15 : ∀ (k4 : Int32 → Int32 → Option (Int32)) (g4 : ∀ (a1 : Int32) (a2 : Int32), k4 a1 a2 = some q0 → qc_J F 0 0 4 [some (.ref 0), some (.int a1), some (.int a2), none] [] (I, J, shM)) (f : Nat) (a1 : Int32) (a2 : Int32) (a3 : Int32), P_X7_wordHere_15 I k4 f a1 a2 a3 = some q0 → qc_J F 0 0 15 [some (.ref 0), some (.int a1), some (.int a2), some (.int a3)] [] (I, J, shM) := by
    intro k4 g4 f
    induction f with
    | zero => intro a1 a2 a3 hP; cases hP
    | succ f ih =>
      intro a1 a2 a3 hP
      rw [P_X7_wordHere_15] at hP
      refine qj_ldct cx dX7_wordHere_15 (Nat.le_of_ble_eq_true rfl) ?_
      refine qj_iload_n cx dX7_wordHere_17 rfl rfl ?_
      refine qj_iload_n cx dX7_wordHere_18 rfl rfl ?_
      refine qj_iadd cx dX7_wordHere_19 ?_
      obtain ⟨c9, hP⟩ := qc_ck hP
      refine qj_callT (As := [.int (a2 + a3)]) (st := []) (r := some (.int (qc_ch (a2 + a3).toNatClampNeg))) cx dX7_wordHere_20 (qt_charAt (Nat.le_of_ble_eq_true rfl) c9) gt_142 gm_charAt rfl rfl (by decide) (by decide) rfl (Nat.le_of_ble_eq_true rfl) (Nat.le_of_ble_eq_true rfl) hn0 ?_
      refine qj_bipush (v := (32 : Int32)) cx dX7_wordHere_23 (by decide) ?_
      refine qj_icmp_eq (tgt := 69) cx dX7_wordHere_25 (by decide) (fun c10 => ?_) (fun c10 => ?_)
      · have hP := qc_ifT hP c10
        exact L69 k4 g4 a1 a2 a3 hP
      · have hP := qc_ifF hP c10
        refine qj_aload_n cx dX7_wordHere_28 rfl rfl ?_
        refine qw_getI (j := 18) cx dX7_wordHere_29 qc_cl7 rfl (Nat.le_of_ble_eq_true rfl) rfl ww_1110 ?_
        refine qj_iload_n cx dX7_wordHere_32 rfl rfl ?_
        refine qj_iadd cx dX7_wordHere_33 ?_
        refine qj_aload_n cx dX7_wordHere_34 rfl rfl ?_
        refine qw_getI (j := 17) cx dX7_wordHere_35 qc_cl7 rfl (Nat.le_of_ble_eq_true rfl) rfl ww_1109 ?_
        refine qj_icmp_ge (tgt := 69) cx dX7_wordHere_38 (by decide) (fun c11 => ?_) (fun c11 => ?_)
        · have hP := qc_ifT hP c11
          exact L69 k4 g4 a1 a2 a3 hP
        · have hP := qc_ifF hP c11
          refine qj_aload_n cx dX7_wordHere_41 rfl rfl ?_
          refine qw_getR (j := 1) (t1 := 1) cx dX7_wordHere_42 qc_cl7 rfl (Nat.le_of_ble_eq_true rfl) rfl ww_1093 rfl ?_
          refine qj_aload_n cx dX7_wordHere_45 rfl rfl ?_
          refine qw_getI (j := 18) cx dX7_wordHere_46 qc_cl7 rfl (Nat.le_of_ble_eq_true rfl) rfl ww_1110 ?_
          refine qj_iload_n cx dX7_wordHere_49 rfl rfl ?_
          refine qj_iadd cx dX7_wordHere_50 ?_
          obtain ⟨c12, hP⟩ := qc_ck hP
          refine qw_iald cx dX7_wordHere_51 rfl (Nat.le_of_ble_eq_true rfl) rfl c12 ?_
          refine qj_ldct cx dX7_wordHere_52 (Nat.le_of_ble_eq_true rfl) ?_
          refine qj_iload_n cx dX7_wordHere_54 rfl rfl ?_
          refine qj_iload_n cx dX7_wordHere_55 rfl rfl ?_
          refine qj_iadd cx dX7_wordHere_56 ?_
          obtain ⟨c13, hP⟩ := qc_ck hP
          refine qj_callT (As := [.int (a2 + a3)]) (st := [.int (I 1 ((I 0 18) + a3).toNatClampNeg)]) (r := some (.int (qc_ch (a2 + a3).toNatClampNeg))) cx dX7_wordHere_57 (qt_charAt (Nat.le_of_ble_eq_true rfl) c13) gt_142 gm_charAt rfl rfl (by decide) (by decide) rfl (Nat.le_of_ble_eq_true rfl) (Nat.le_of_ble_eq_true rfl) hn0 ?_
          refine qj_icmp_ne (tgt := 69) cx dX7_wordHere_60 (by decide) (fun c14 => ?_) (fun c14 => ?_)
          · have hP := qc_ifF hP c14
            exact L69 k4 g4 a1 a2 a3 hP
          · have hP := qc_ifT hP c14
            obtain ⟨x15, ex15, hP⟩ := qc_letE hP
            refine qj_iinc (v := x15) (ls1 := [some (.ref 0), some (.int a1), some (.int a2), some (.int x15)]) cx dX7_wordHere_63 rfl (by rw [ex15]; rfl) rfl rfl ?_
            refine qj_goto (tgt := 15) cx dX7_wordHere_66 (by decide) ?_
            exact ih a1 a2 x15 hP
  have L4 : ∀  (f : Nat) (a1 : Int32) (a2 : Int32), P_X7_wordHere_4 I f a1 a2 = some q0 → qc_J F 0 0 4 [some (.ref 0), some (.int a1), some (.int a2), none] [] (I, J, shM) := by
    intro  f
    induction f with
    | zero => intro a1 a2 hP; cases hP
    | succ f ih =>
      intro a1 a2 hP
      rw [P_X7_wordHere_4] at hP
      refine qj_iload_n cx dX7_wordHere_4 rfl rfl ?_
      refine qj_ldct cx dX7_wordHere_5 (Nat.le_of_ble_eq_true rfl) ?_
      refine qj_callT (As := []) (st := [.int a2]) (r := some (.int (62 : Int32))) cx dX7_wordHere_7 (qt_length (Nat.le_of_ble_eq_true rfl)) gt_137 gm_length rfl rfl (by decide) (by decide) rfl (Nat.le_of_ble_eq_true rfl) (Nat.le_of_ble_eq_true rfl) hn0 ?_
      refine qj_icmp_ge (tgt := 123) cx dX7_wordHere_10 (by decide) (fun c16 => ?_) (fun c16 => ?_)
      · have hP := qc_ifT hP c16
        refine qj_iconst (v := (-1 : Int32)) cx dX7_wordHere_123 (by decide) ?_
        exact qw_iret cx hz dX7_wordHere_124 (Nat.zero_le _) (Nat.zero_le _) (Option.some.inj hP) rfl rfl
      · have hP := qc_ifF hP c16
        refine qj_iconst (v := (0 : Int32)) cx dX7_wordHere_13 (by decide) ?_
        refine qj_istore_n (ls1 := [some (.ref 0), some (.int a1), some (.int a2), some (.int (0 : Int32))]) cx dX7_wordHere_14 rfl rfl rfl rfl ?_
        exact L15 (P_X7_wordHere_4 I f) ih qc_fu a1 a2 (0 : Int32) hP
  show qc_J F 0 0 0 [some (.ref 0), none, none, none] [] (I, J, shM)
  unfold P_X7_wordHere at hP
  refine qj_iconst (v := (0 : Int32)) cx dX7_wordHere_0 (by decide) ?_
  refine qj_istore_n (ls1 := [some (.ref 0), some (.int (0 : Int32)), none, none]) cx dX7_wordHere_1 rfl rfl rfl rfl ?_
  refine qj_iconst (v := (0 : Int32)) cx dX7_wordHere_2 (by decide) ?_
  refine qj_istore_n (ls1 := [some (.ref 0), some (.int (0 : Int32)), some (.int (0 : Int32)), none]) cx dX7_wordHere_3 rfl rfl rfl rfl ?_
  exact L4 qc_fu (0 : Int32) (0 : Int32) hP
def P_X7_nameHere_7  : Nat → (Nat → Nat → Int32) → Int32 → Option ((Nat → Nat → Int32))
  | 0, _, _ => none
  | f + 1, I, a1 =>
  if (6 : Int32) ≤ a1 then
  some I
  else
  (if I 0 17 ≤ (I 0 18) + a1 then
  some (0 : Int32)
  else
  if qc_in ((I 0 18) + a1) 700 then
  some (((I 1 ((I 0 18) + a1).toNatClampNeg) - (97 : Int32)) + (1 : Int32))
  else none).bind fun v3 =>
  qc_let (qc_u2 I 0 20 (((I 0 20) <<< ((5 : Int32) &&& 31)) ||| v3)) fun I5 =>
  qc_let (a1 + (1 : Int32)) fun x6 =>
  P_X7_nameHere_7 f I5 x6
def P_X7_nameHere (I : Nat → Nat → Int32) : Option ((Nat → Nat → Int32)) :=
  qc_let (qc_u2 I 0 20 (0 : Int32)) fun I7 =>
  P_X7_nameHere_7 qc_fu I7 (0 : Int32)
set_option maxRecDepth 20000 in
theorem c_X7_nameHere {I : Nat → Nat → Int32} {J : Nat → Nat → Int64}   {q0 : (Nat → Nat → Int32)} (hP : P_X7_nameHere I = some q0) : ∀ l, qc_M l yX7_nameHere cX7_nameHere 2 none 0 0 0 0 [.ref 0] (I, J, shM) none (q0, J, shM) := by
  intro l
  refine qc_ent2 (by decide) (Nat.le_of_ble_eq_true rfl) ?_
  intro F hn0 cx hz
  have cx : qc_X F cX7_nameHere RX7 "nameHere" 0 0 0 0 := cx
  have L7 : ∀  (f : Nat) (I : (Nat → Nat → Int32)) (a1 : Int32), P_X7_nameHere_7 f I a1 = some q0 → qc_J F 0 0 7 [some (.ref 0), some (.int a1)] [] (I, J, shM) := by
    intro  f
    induction f with
    | zero => intro I a1 hP; cases hP
    | succ f ih =>
      intro I a1 hP
      rw [P_X7_nameHere_7] at hP
      refine qj_iload_n cx dX7_nameHere_7 rfl rfl ?_
      refine qj_bipush (v := (6 : Int32)) cx dX7_nameHere_8 (by decide) ?_
      refine qj_icmp_ge (tgt := 63) cx dX7_nameHere_10 (by decide) (fun c1 => ?_) (fun c1 => ?_)
      · have hP := qc_ifT hP c1
        exact qw_vret cx hz dX7_nameHere_63 (Nat.zero_le _) (Nat.zero_le _) (Option.some.inj hP) rfl
      · have hP := qc_ifF hP c1
        refine qj_aload_n cx dX7_nameHere_13 rfl rfl ?_
        refine qj_aload_n cx dX7_nameHere_14 rfl rfl ?_
        refine qw_getI (j := 20) cx dX7_nameHere_15 qc_cl7 rfl (Nat.le_of_ble_eq_true rfl) rfl ww_1112 ?_
        refine qj_iconst (v := (5 : Int32)) cx dX7_nameHere_18 (by decide) ?_
        refine qj_ishl cx dX7_nameHere_19 ?_
        refine qj_aload_n cx dX7_nameHere_20 rfl rfl ?_
        refine qw_getI (j := 18) cx dX7_nameHere_21 qc_cl7 rfl (Nat.le_of_ble_eq_true rfl) rfl ww_1110 ?_
        refine qj_iload_n cx dX7_nameHere_24 rfl rfl ?_
        refine qj_iadd cx dX7_nameHere_25 ?_
        refine qj_aload_n cx dX7_nameHere_26 rfl rfl ?_
        refine qw_getI (j := 17) cx dX7_nameHere_27 qc_cl7 rfl (Nat.le_of_ble_eq_true rfl) rfl ww_1109 ?_
        obtain ⟨v3, hv3, hP⟩ := Option.bind_eq_some_iff.mp hP
        have Kv3 : qc_J F 0 0 53 [some (.ref 0), some (.int a1)] [.int v3, .int ((I 0 20) <<< ((5 : Int32) &&& 31)), .ref 0] (I, J, shM) := by
          refine qj_ior cx dX7_nameHere_53 ?_
          obtain ⟨I5, eI5, hP⟩ := qc_letE hP
          refine qw_putI (j := 20) cx dX7_nameHere_54 qc_cl7 rfl (Nat.le_of_ble_eq_true rfl) rfl ww_1112 rfl rfl rfl eI5 ?_
          obtain ⟨x6, ex6, hP⟩ := qc_letE hP
          refine qj_iinc (v := x6) (ls1 := [some (.ref 0), some (.int x6)]) cx dX7_nameHere_57 rfl (by rw [ex6]; rfl) rfl rfl ?_
          refine qj_goto (tgt := 7) cx dX7_nameHere_60 (by decide) ?_
          exact ih I5 x6 hP
        refine qj_icmp_ge (tgt := 52) cx dX7_nameHere_30 (by decide) (fun c2 => ?_) (fun c2 => ?_)
        · have hv3 := qc_ifT hv3 c2
          refine qj_iconst (v := (0 : Int32)) cx dX7_nameHere_52 (by decide) ?_
          exact qw_top (Option.some.inj hv3).symm Kv3
        · have hv3 := qc_ifF hv3 c2
          refine qj_aload_n cx dX7_nameHere_33 rfl rfl ?_
          refine qw_getR (j := 1) (t1 := 1) cx dX7_nameHere_34 qc_cl7 rfl (Nat.le_of_ble_eq_true rfl) rfl ww_1093 rfl ?_
          refine qj_aload_n cx dX7_nameHere_37 rfl rfl ?_
          refine qw_getI (j := 18) cx dX7_nameHere_38 qc_cl7 rfl (Nat.le_of_ble_eq_true rfl) rfl ww_1110 ?_
          refine qj_iload_n cx dX7_nameHere_41 rfl rfl ?_
          refine qj_iadd cx dX7_nameHere_42 ?_
          obtain ⟨c4, hv3⟩ := qc_ck hv3
          refine qw_iald cx dX7_nameHere_43 rfl (Nat.le_of_ble_eq_true rfl) rfl c4 ?_
          refine qj_bipush (v := (97 : Int32)) cx dX7_nameHere_44 (by decide) ?_
          refine qj_isub cx dX7_nameHere_46 ?_
          refine qj_iconst (v := (1 : Int32)) cx dX7_nameHere_47 (by decide) ?_
          refine qj_iadd cx dX7_nameHere_48 ?_
          refine qj_goto (tgt := 53) cx dX7_nameHere_49 (by decide) ?_
          exact qw_top (Option.some.inj hv3).symm Kv3
  show qc_J F 0 0 0 [some (.ref 0), none] [] (I, J, shM)
  unfold P_X7_nameHere at hP
  refine qj_aload_n cx dX7_nameHere_0 rfl rfl ?_
  refine qj_iconst (v := (0 : Int32)) cx dX7_nameHere_1 (by decide) ?_
  obtain ⟨I7, eI7, hP⟩ := qc_letE hP
  refine qw_putI (j := 20) cx dX7_nameHere_2 qc_cl7 rfl (Nat.le_of_ble_eq_true rfl) rfl ww_1112 rfl rfl rfl eI7 ?_
  refine qj_iconst (v := (0 : Int32)) cx dX7_nameHere_5 (by decide) ?_
  refine qj_istore_n (ls1 := [some (.ref 0), some (.int (0 : Int32))]) cx dX7_nameHere_6 rfl rfl rfl rfl ?_
  exact L7 qc_fu I7 (0 : Int32) hP
def P_X7_wrong (I : Nat → Nat → Int32) (a : Int32) : Option ((Nat → Nat → Int32)) :=
  if I 0 21 = 0 then
  qc_let (qc_u2 I 0 21 a) fun I2 =>
  qc_let (qc_u2 I2 0 22 (I2 0 18)) fun I3 =>
  some I3
  else
  some I
set_option maxRecDepth 20000 in
theorem c_X7_wrong {I : Nat → Nat → Int32} {J : Nat → Nat → Int64}  {a : Int32} {q0 : (Nat → Nat → Int32)} (hP : P_X7_wrong I a = some q0) : ∀ l, qc_M l yX7_wrong cX7_wrong 2 none 0 0 0 0 [.ref 0, .int a] (I, J, shM) none (q0, J, shM) := by
  intro l
  refine qc_ent2 (by decide) (Nat.le_of_ble_eq_true rfl) ?_
  intro F hn0 cx hz
  have cx : qc_X F cX7_wrong RX7 "wrong" 0 0 0 0 := cx
  show qc_J F 0 0 0 [some (.ref 0), some (.int a)] [] (I, J, shM)
  unfold P_X7_wrong at hP
  refine qj_aload_n cx dX7_wrong_0 rfl rfl ?_
  refine qw_getI (j := 21) cx dX7_wrong_1 qc_cl7 rfl (Nat.le_of_ble_eq_true rfl) rfl ww_1113 ?_
  refine qj_if_eq (tgt := 8) cx dX7_wrong_4 (by decide) (fun c1 => ?_) (fun c1 => ?_)
  · have hP := qc_ifT hP c1
    refine qj_aload_n cx dX7_wrong_8 rfl rfl ?_
    refine qj_iload_n cx dX7_wrong_9 rfl rfl ?_
    obtain ⟨I2, eI2, hP⟩ := qc_letE hP
    refine qw_putI (j := 21) cx dX7_wrong_10 qc_cl7 rfl (Nat.le_of_ble_eq_true rfl) rfl ww_1113 rfl rfl rfl eI2 ?_
    refine qj_aload_n cx dX7_wrong_13 rfl rfl ?_
    refine qj_aload_n cx dX7_wrong_14 rfl rfl ?_
    refine qw_getI (j := 18) cx dX7_wrong_15 qc_cl7 rfl (Nat.le_of_ble_eq_true rfl) rfl ww_1110 ?_
    obtain ⟨I3, eI3, hP⟩ := qc_letE hP
    refine qw_putI (j := 22) cx dX7_wrong_18 qc_cl7 rfl (Nat.le_of_ble_eq_true rfl) rfl ww_1114 rfl rfl rfl eI3 ?_
    exact qw_vret cx hz dX7_wrong_21 (Nat.zero_le _) (Nat.zero_le _) (Option.some.inj hP) rfl
  · have hP := qc_ifF hP c1
    exact qw_vret cx hz dX7_wrong_7 (Nat.zero_le _) (Nat.zero_le _) (Option.some.inj hP) rfl
def P_X7_reading (I : Nat → Nat → Int32) (a : Int32) : Option (Int32) :=
  if qc_in ((10 : Int32) + a) 20 then
  some (I 2 ((10 : Int32) + a).toNatClampNeg)
  else none
set_option maxRecDepth 20000 in
theorem c_X7_reading {I : Nat → Nat → Int32} {J : Nat → Nat → Int64}  {a : Int32} {q0 : Int32} (hP : P_X7_reading I a = some q0) : ∀ l, qc_M l yX7_reading cX7_reading 2 (some .int) 0 0 0 0 [.ref 0, .int a] (I, J, shM) (some (.int q0)) (I, J, shM) := by
  intro l
  refine qc_ent2 (by decide) (Nat.le_of_ble_eq_true rfl) ?_
  intro F hn0 cx hz
  have cx : qc_X F cX7_reading RX7 "reading" 0 0 0 0 := cx
  show qc_J F 0 0 0 [some (.ref 0), some (.int a)] [] (I, J, shM)
  unfold P_X7_reading at hP
  refine qj_aload_n cx dX7_reading_0 rfl rfl ?_
  refine qw_getR (j := 3) (t1 := 2) cx dX7_reading_1 qc_cl7 rfl (Nat.le_of_ble_eq_true rfl) rfl ww_1095 rfl ?_
  refine qj_bipush (v := (10 : Int32)) cx dX7_reading_4 (by decide) ?_
  refine qj_iload_n cx dX7_reading_6 rfl rfl ?_
  refine qj_iadd cx dX7_reading_7 ?_
  obtain ⟨c1, hP⟩ := qc_ck hP
  refine qw_iald cx dX7_reading_8 rfl (Nat.le_of_ble_eq_true rfl) rfl c1 ?_
  exact qw_iret cx hz dX7_reading_9 (Nat.zero_le _) (Nat.zero_le _) (Option.some.inj hP) rfl rfl
def P_X7_reads (I : Nat → Nat → Int32) (a : Int32) (b : Int32) : Option ((Nat → Nat → Int32)) :=
  if qc_in ((10 : Int32) + a) 20 then
  qc_let (qc_u2 I 2 ((10 : Int32) + a).toNatClampNeg b) fun I1 =>
  some I1
  else none
set_option maxRecDepth 20000 in
theorem c_X7_reads {I : Nat → Nat → Int32} {J : Nat → Nat → Int64}  {a : Int32} {b : Int32} {q0 : (Nat → Nat → Int32)} (hP : P_X7_reads I a b = some q0) : ∀ l, qc_M l yX7_reads cX7_reads 3 none 0 0 0 0 [.ref 0, .int a, .int b] (I, J, shM) none (q0, J, shM) := by
  intro l
  refine qc_ent2 (by decide) (Nat.le_of_ble_eq_true rfl) ?_
  intro F hn0 cx hz
  have cx : qc_X F cX7_reads RX7 "reads" 0 0 0 0 := cx
  show qc_J F 0 0 0 [some (.ref 0), some (.int a), some (.int b)] [] (I, J, shM)
  unfold P_X7_reads at hP
  refine qj_aload_n cx dX7_reads_0 rfl rfl ?_
  refine qw_getR (j := 3) (t1 := 2) cx dX7_reads_1 qc_cl7 rfl (Nat.le_of_ble_eq_true rfl) rfl ww_1095 rfl ?_
  refine qj_bipush (v := (10 : Int32)) cx dX7_reads_4 (by decide) ?_
  refine qj_iload_n cx dX7_reads_6 rfl rfl ?_
  refine qj_iadd cx dX7_reads_7 ?_
  refine qj_iload_n cx dX7_reads_8 rfl rfl ?_
  obtain ⟨c2, hP⟩ := qc_ck hP
  obtain ⟨I1, eI1, hP⟩ := qc_letE hP
  refine qw_iast cx dX7_reads_9 rfl (Nat.le_of_ble_eq_true rfl) rfl c2 eI1 ?_
  exact qw_vret cx hz dX7_reads_10 (Nat.zero_le _) (Nat.zero_le _) (Option.some.inj hP) rfl
def P_X7_namedAt_3 (I : Nat → Nat → Int32) : Nat → Int32 → Int32 → Int32 → Int32 → Option (Int32)
  | 0, _, _, _, _ => none
  | f + 1, a1, a2, a3, a4 =>
  if a2 ≤ a4 then
  some (-1 : Int32)
  else
  if qc_in (a1 + a4) 12 then
  if I 4 (a1 + a4).toNatClampNeg = a3 then
  some a4
  else
  qc_let (a4 + (1 : Int32)) fun x4 =>
  P_X7_namedAt_3 I f a1 a2 a3 x4
  else none
def P_X7_namedAt (I : Nat → Nat → Int32) (a : Int32) (b : Int32) (c : Int32) : Option (Int32) :=
  P_X7_namedAt_3 I qc_fu a b c (0 : Int32)
set_option maxRecDepth 20000 in
theorem c_X7_namedAt {I : Nat → Nat → Int32} {J : Nat → Nat → Int64}  {a : Int32} {b : Int32} {c : Int32} {q0 : Int32} (hP : P_X7_namedAt I a b c = some q0) : ∀ l, qc_M l yX7_namedAt cX7_namedAt 5 (some .int) 0 0 0 0 [.ref 0, .int a, .int b, .int c] (I, J, shM) (some (.int q0)) (I, J, shM) := by
  intro l
  refine qc_ent2 (by decide) (Nat.le_of_ble_eq_true rfl) ?_
  intro F hn0 cx hz
  have cx : qc_X F cX7_namedAt RX7 "namedAt" 0 0 0 0 := cx
  have L3 : ∀  (f : Nat) (a1 : Int32) (a2 : Int32) (a3 : Int32) (a4 : Int32), P_X7_namedAt_3 I f a1 a2 a3 a4 = some q0 → qc_J F 0 0 3 [some (.ref 0), some (.int a1), some (.int a2), some (.int a3), some (.int a4)] [] (I, J, shM) := by
    intro  f
    induction f with
    | zero => intro a1 a2 a3 a4 hP; cases hP
    | succ f ih =>
      intro a1 a2 a3 a4 hP
      rw [P_X7_namedAt_3] at hP
      refine qj_iload cx dX7_namedAt_3 rfl ?_
      refine qj_iload_n cx dX7_namedAt_5 rfl rfl ?_
      refine qj_icmp_ge (tgt := 31) cx dX7_namedAt_6 (by decide) (fun c1 => ?_) (fun c1 => ?_)
      · have hP := qc_ifT hP c1
        refine qj_iconst (v := (-1 : Int32)) cx dX7_namedAt_31 (by decide) ?_
        exact qw_iret cx hz dX7_namedAt_32 (Nat.zero_le _) (Nat.zero_le _) (Option.some.inj hP) rfl rfl
      · have hP := qc_ifF hP c1
        refine qj_aload_n cx dX7_namedAt_9 rfl rfl ?_
        refine qw_getR (j := 5) (t1 := 4) cx dX7_namedAt_10 qc_cl7 rfl (Nat.le_of_ble_eq_true rfl) rfl ww_1097 rfl ?_
        refine qj_iload_n cx dX7_namedAt_13 rfl rfl ?_
        refine qj_iload cx dX7_namedAt_14 rfl ?_
        refine qj_iadd cx dX7_namedAt_16 ?_
        obtain ⟨c2, hP⟩ := qc_ck hP
        refine qw_iald cx dX7_namedAt_17 rfl (Nat.le_of_ble_eq_true rfl) rfl c2 ?_
        refine qj_iload_n cx dX7_namedAt_18 rfl rfl ?_
        refine qj_icmp_ne (tgt := 25) cx dX7_namedAt_19 (by decide) (fun c3 => ?_) (fun c3 => ?_)
        · have hP := qc_ifF hP c3
          obtain ⟨x4, ex4, hP⟩ := qc_letE hP
          refine qj_iinc (v := x4) (ls1 := [some (.ref 0), some (.int a1), some (.int a2), some (.int a3), some (.int x4)]) cx dX7_namedAt_25 rfl (by rw [ex4]; rfl) rfl rfl ?_
          refine qj_goto (tgt := 3) cx dX7_namedAt_28 (by decide) ?_
          exact ih a1 a2 a3 x4 hP
        · have hP := qc_ifT hP c3
          refine qj_iload cx dX7_namedAt_22 rfl ?_
          exact qw_iret cx hz dX7_namedAt_24 (Nat.zero_le _) (Nat.zero_le _) (Option.some.inj hP) rfl rfl
  show qc_J F 0 0 0 [some (.ref 0), some (.int a), some (.int b), some (.int c), none] [] (I, J, shM)
  unfold P_X7_namedAt at hP
  refine qj_iconst (v := (0 : Int32)) cx dX7_namedAt_0 (by decide) ?_
  refine qj_istore (ls1 := [some (.ref 0), some (.int a), some (.int b), some (.int c), some (.int (0 : Int32))]) cx dX7_namedAt_1 rfl rfl rfl ?_
  exact L3 qc_fu a b c (0 : Int32) hP
def P_X7_freshText_108  : Nat → (Nat → Nat → Int32) → Int32 → Option ((Nat → Nat → Int32))
  | 0, _, _ => none
  | f + 1, I, a1 =>
  if (61 : Int32) ≤ a1 then
  qc_let (qc_u2 I 0 14 (0 : Int32)) fun I2 =>
  some I2
  else
  if qc_in ((61 : Int32) + a1) 122 then
  qc_let (qc_u2 I 12 ((61 : Int32) + a1).toNatClampNeg (vp_nar .boolean (0 : Int32))) fun I3 =>
  qc_let (a1 + (1 : Int32)) fun x4 =>
  P_X7_freshText_108 f I3 x4
  else none
def P_X7_freshText_87  : Nat → (Nat → Nat → Int32) → Int32 → Option ((Nat → Nat → Int32))
  | 0, _, _ => none
  | f + 1, I, a1 =>
  if (11 : Int32) ≤ a1 then
  P_X7_freshText_108 qc_fu I (0 : Int32)
  else
  if qc_in a1 11 then
  qc_let (qc_u2 I 3 a1.toNatClampNeg (vp_nar .boolean (0 : Int32))) fun I7 =>
  qc_let (a1 + (1 : Int32)) fun x8 =>
  P_X7_freshText_87 f I7 x8
  else none
def P_X7_freshText_62  : Nat → (Nat → Nat → Int32) → Int32 → Option ((Nat → Nat → Int32))
  | 0, _, _ => none
  | f + 1, I, a1 =>
  if (9 : Int32) ≤ a1 then
  P_X7_freshText_87 qc_fu I (0 : Int32)
  else
  if qc_in ((9 : Int32) + a1) 18 then
  qc_let (qc_u2 I 11 ((9 : Int32) + a1).toNatClampNeg (-2 : Int32)) fun I11 =>
  qc_let (a1 + (1 : Int32)) fun x12 =>
  P_X7_freshText_62 f I11 x12
  else none
def P_X7_freshText_2  : Nat → (Nat → Nat → Int32) → Int32 → Option ((Nat → Nat → Int32))
  | 0, _, _ => none
  | f + 1, I, a1 =>
  if (10 : Int32) ≤ a1 then
  (P_X7_reads I (0 : Int32) (30 : Int32)).bind fun q15 =>
  (P_X7_reads q15 (2 : Int32) (1 : Int32)).bind fun q16 =>
  (P_X7_reads q16 (3 : Int32) (2 : Int32)).bind fun q17 =>
  (P_X7_reads q17 (4 : Int32) (5 : Int32)).bind fun q18 =>
  (P_X7_reads q18 (5 : Int32) (10 : Int32)).bind fun q19 =>
  (P_X7_reads q19 (6 : Int32) (20 : Int32)).bind fun q20 =>
  P_X7_freshText_62 qc_fu q20 (0 : Int32)
  else
  (P_X7_reads I a1 (0 : Int32)).bind fun q21 =>
  qc_let (a1 + (1 : Int32)) fun x22 =>
  P_X7_freshText_2 f q21 x22
def P_X7_freshText (I : Nat → Nat → Int32) : Option ((Nat → Nat → Int32)) :=
  P_X7_freshText_2 qc_fu I (0 : Int32)
set_option maxRecDepth 20000 in
theorem c_X7_freshText {I : Nat → Nat → Int32} {J : Nat → Nat → Int64}   {q0 : (Nat → Nat → Int32)} (hP : P_X7_freshText I = some q0) : ∀ l, qc_M l yX7_freshText cX7_freshText 2 none 1 22 0 0 [.ref 0] (I, J, shM) none (q0, J, shM) := by
  intro l
  refine qc_ent2 (by decide) (Nat.le_of_ble_eq_true rfl) ?_
  intro F hn0 cx hz
  have cx : qc_X F cX7_freshText RX7 "freshText" 1 0 0 22 := cx
  have L108 : ∀  (f : Nat) (I : (Nat → Nat → Int32)) (a1 : Int32), P_X7_freshText_108 f I a1 = some q0 → qc_J F 0 0 108 [some (.ref 0), some (.int a1)] [] (I, J, shM) := by
    intro  f
    induction f with
    | zero => intro I a1 hP; cases hP
    | succ f ih =>
      intro I a1 hP
      rw [P_X7_freshText_108] at hP
      refine qj_iload_n cx dX7_freshText_108 rfl rfl ?_
      refine qj_bipush (v := (61 : Int32)) cx dX7_freshText_109 (by decide) ?_
      refine qj_icmp_ge (tgt := 130) cx dX7_freshText_111 (by decide) (fun c1 => ?_) (fun c1 => ?_)
      · have hP := qc_ifT hP c1
        refine qj_aload_n cx dX7_freshText_130 rfl rfl ?_
        refine qj_iconst (v := (0 : Int32)) cx dX7_freshText_131 (by decide) ?_
        obtain ⟨I2, eI2, hP⟩ := qc_letE hP
        refine qw_putI (j := 14) cx dX7_freshText_132 qc_cl7 rfl (Nat.le_of_ble_eq_true rfl) rfl ww_1106 (by decide) (by decide) rfl eI2 ?_
        exact qw_vret cx hz dX7_freshText_135 (Nat.zero_le _) (Nat.zero_le _) (Option.some.inj hP) rfl
      · have hP := qc_ifF hP c1
        refine qj_aload_n cx dX7_freshText_114 rfl rfl ?_
        refine qw_getR (j := 13) (t1 := 12) cx dX7_freshText_115 qc_cl7 rfl (Nat.le_of_ble_eq_true rfl) rfl ww_1105 rfl ?_
        refine qj_bipush (v := (61 : Int32)) cx dX7_freshText_118 (by decide) ?_
        refine qj_iload_n cx dX7_freshText_120 rfl rfl ?_
        refine qj_iadd cx dX7_freshText_121 ?_
        refine qj_iconst (v := (0 : Int32)) cx dX7_freshText_122 (by decide) ?_
        obtain ⟨c5, hP⟩ := qc_ck hP
        obtain ⟨I3, eI3, hP⟩ := qc_letE hP
        refine qw_zast cx dX7_freshText_123 rfl (Nat.le_of_ble_eq_true rfl) rfl c5 eI3 ?_
        obtain ⟨x4, ex4, hP⟩ := qc_letE hP
        refine qj_iinc (v := x4) (ls1 := [some (.ref 0), some (.int x4)]) cx dX7_freshText_124 rfl (by rw [ex4]; rfl) rfl rfl ?_
        refine qj_goto (tgt := 108) cx dX7_freshText_127 (by decide) ?_
        exact ih I3 x4 hP
  have L87 : ∀  (f : Nat) (I : (Nat → Nat → Int32)) (a1 : Int32), P_X7_freshText_87 f I a1 = some q0 → qc_J F 0 0 87 [some (.ref 0), some (.int a1)] [] (I, J, shM) := by
    intro  f
    induction f with
    | zero => intro I a1 hP; cases hP
    | succ f ih =>
      intro I a1 hP
      rw [P_X7_freshText_87] at hP
      refine qj_iload_n cx dX7_freshText_87 rfl rfl ?_
      refine qj_bipush (v := (11 : Int32)) cx dX7_freshText_88 (by decide) ?_
      refine qj_icmp_ge (tgt := 106) cx dX7_freshText_90 (by decide) (fun c6 => ?_) (fun c6 => ?_)
      · have hP := qc_ifT hP c6
        refine qj_iconst (v := (0 : Int32)) cx dX7_freshText_106 (by decide) ?_
        refine qj_istore_n (ls1 := [some (.ref 0), some (.int (0 : Int32))]) cx dX7_freshText_107 rfl rfl rfl rfl ?_
        exact L108 qc_fu I (0 : Int32) hP
      · have hP := qc_ifF hP c6
        refine qj_aload_n cx dX7_freshText_93 rfl rfl ?_
        refine qw_getR (j := 4) (t1 := 3) cx dX7_freshText_94 qc_cl7 rfl (Nat.le_of_ble_eq_true rfl) rfl ww_1096 rfl ?_
        refine qj_iload_n cx dX7_freshText_97 rfl rfl ?_
        refine qj_iconst (v := (0 : Int32)) cx dX7_freshText_98 (by decide) ?_
        obtain ⟨c9, hP⟩ := qc_ck hP
        obtain ⟨I7, eI7, hP⟩ := qc_letE hP
        refine qw_zast cx dX7_freshText_99 rfl (Nat.le_of_ble_eq_true rfl) rfl c9 eI7 ?_
        obtain ⟨x8, ex8, hP⟩ := qc_letE hP
        refine qj_iinc (v := x8) (ls1 := [some (.ref 0), some (.int x8)]) cx dX7_freshText_100 rfl (by rw [ex8]; rfl) rfl rfl ?_
        refine qj_goto (tgt := 87) cx dX7_freshText_103 (by decide) ?_
        exact ih I7 x8 hP
  have L62 : ∀  (f : Nat) (I : (Nat → Nat → Int32)) (a1 : Int32), P_X7_freshText_62 f I a1 = some q0 → qc_J F 0 0 62 [some (.ref 0), some (.int a1)] [] (I, J, shM) := by
    intro  f
    induction f with
    | zero => intro I a1 hP; cases hP
    | succ f ih =>
      intro I a1 hP
      rw [P_X7_freshText_62] at hP
      refine qj_iload_n cx dX7_freshText_62 rfl rfl ?_
      refine qj_bipush (v := (9 : Int32)) cx dX7_freshText_63 (by decide) ?_
      refine qj_icmp_ge (tgt := 85) cx dX7_freshText_65 (by decide) (fun c10 => ?_) (fun c10 => ?_)
      · have hP := qc_ifT hP c10
        refine qj_iconst (v := (0 : Int32)) cx dX7_freshText_85 (by decide) ?_
        refine qj_istore_n (ls1 := [some (.ref 0), some (.int (0 : Int32))]) cx dX7_freshText_86 rfl rfl rfl rfl ?_
        exact L87 qc_fu I (0 : Int32) hP
      · have hP := qc_ifF hP c10
        refine qj_aload_n cx dX7_freshText_68 rfl rfl ?_
        refine qw_getR (j := 12) (t1 := 11) cx dX7_freshText_69 qc_cl7 rfl (Nat.le_of_ble_eq_true rfl) rfl ww_1104 rfl ?_
        refine qj_bipush (v := (9 : Int32)) cx dX7_freshText_72 (by decide) ?_
        refine qj_iload_n cx dX7_freshText_74 rfl rfl ?_
        refine qj_iadd cx dX7_freshText_75 ?_
        refine qj_bipush (v := (-2 : Int32)) cx dX7_freshText_76 (by decide) ?_
        obtain ⟨c13, hP⟩ := qc_ck hP
        obtain ⟨I11, eI11, hP⟩ := qc_letE hP
        refine qw_iast cx dX7_freshText_78 rfl (Nat.le_of_ble_eq_true rfl) rfl c13 eI11 ?_
        obtain ⟨x12, ex12, hP⟩ := qc_letE hP
        refine qj_iinc (v := x12) (ls1 := [some (.ref 0), some (.int x12)]) cx dX7_freshText_79 rfl (by rw [ex12]; rfl) rfl rfl ?_
        refine qj_goto (tgt := 62) cx dX7_freshText_82 (by decide) ?_
        exact ih I11 x12 hP
  have L2 : ∀  (f : Nat) (I : (Nat → Nat → Int32)) (a1 : Int32), P_X7_freshText_2 f I a1 = some q0 → qc_J F 0 0 2 [some (.ref 0), some (.int a1)] [] (I, J, shM) := by
    intro  f
    induction f with
    | zero => intro I a1 hP; cases hP
    | succ f ih =>
      intro I a1 hP
      rw [P_X7_freshText_2] at hP
      refine qj_iload_n cx dX7_freshText_2 rfl rfl ?_
      refine qj_bipush (v := (10 : Int32)) cx dX7_freshText_3 (by decide) ?_
      refine qj_icmp_ge (tgt := 20) cx dX7_freshText_5 (by decide) (fun c14 => ?_) (fun c14 => ?_)
      · have hP := qc_ifT hP c14
        refine qj_aload_n cx dX7_freshText_20 rfl rfl ?_
        refine qj_iconst (v := (0 : Int32)) cx dX7_freshText_21 (by decide) ?_
        refine qj_bipush (v := (30 : Int32)) cx dX7_freshText_22 (by decide) ?_
        obtain ⟨q15, eq15, hP⟩ := Option.bind_eq_some_iff.mp hP
        refine qj_callV (As := [.int (0 : Int32), .int (30 : Int32)]) (st := []) (t := 0) (h' := (q15, J, shM)) (r := none) cx dX7_freshText_24 (c_X7_reads (I := I) (J := J)  eq15) gc_RX7_169 qm_X7_reads rfl rfl qc_cl7 rfl (Nat.le_of_ble_eq_true rfl) (by decide) (by decide) rfl (Nat.le_of_ble_eq_true rfl) (Nat.le_of_ble_eq_true rfl) hn0 rfl ?_
        refine qj_aload_n cx dX7_freshText_27 rfl rfl ?_
        refine qj_iconst (v := (2 : Int32)) cx dX7_freshText_28 (by decide) ?_
        refine qj_iconst (v := (1 : Int32)) cx dX7_freshText_29 (by decide) ?_
        obtain ⟨q16, eq16, hP⟩ := Option.bind_eq_some_iff.mp hP
        refine qj_callV (As := [.int (2 : Int32), .int (1 : Int32)]) (st := []) (t := 0) (h' := (q16, J, shM)) (r := none) cx dX7_freshText_30 (c_X7_reads (I := q15) (J := J)  eq16) gc_RX7_169 qm_X7_reads rfl rfl qc_cl7 rfl (Nat.le_of_ble_eq_true rfl) (by decide) (by decide) rfl (Nat.le_of_ble_eq_true rfl) (Nat.le_of_ble_eq_true rfl) hn0 rfl ?_
        refine qj_aload_n cx dX7_freshText_33 rfl rfl ?_
        refine qj_iconst (v := (3 : Int32)) cx dX7_freshText_34 (by decide) ?_
        refine qj_iconst (v := (2 : Int32)) cx dX7_freshText_35 (by decide) ?_
        obtain ⟨q17, eq17, hP⟩ := Option.bind_eq_some_iff.mp hP
        refine qj_callV (As := [.int (3 : Int32), .int (2 : Int32)]) (st := []) (t := 0) (h' := (q17, J, shM)) (r := none) cx dX7_freshText_36 (c_X7_reads (I := q16) (J := J)  eq17) gc_RX7_169 qm_X7_reads rfl rfl qc_cl7 rfl (Nat.le_of_ble_eq_true rfl) (by decide) (by decide) rfl (Nat.le_of_ble_eq_true rfl) (Nat.le_of_ble_eq_true rfl) hn0 rfl ?_
        refine qj_aload_n cx dX7_freshText_39 rfl rfl ?_
        refine qj_iconst (v := (4 : Int32)) cx dX7_freshText_40 (by decide) ?_
        refine qj_iconst (v := (5 : Int32)) cx dX7_freshText_41 (by decide) ?_
        obtain ⟨q18, eq18, hP⟩ := Option.bind_eq_some_iff.mp hP
        refine qj_callV (As := [.int (4 : Int32), .int (5 : Int32)]) (st := []) (t := 0) (h' := (q18, J, shM)) (r := none) cx dX7_freshText_42 (c_X7_reads (I := q17) (J := J)  eq18) gc_RX7_169 qm_X7_reads rfl rfl qc_cl7 rfl (Nat.le_of_ble_eq_true rfl) (by decide) (by decide) rfl (Nat.le_of_ble_eq_true rfl) (Nat.le_of_ble_eq_true rfl) hn0 rfl ?_
        refine qj_aload_n cx dX7_freshText_45 rfl rfl ?_
        refine qj_iconst (v := (5 : Int32)) cx dX7_freshText_46 (by decide) ?_
        refine qj_bipush (v := (10 : Int32)) cx dX7_freshText_47 (by decide) ?_
        obtain ⟨q19, eq19, hP⟩ := Option.bind_eq_some_iff.mp hP
        refine qj_callV (As := [.int (5 : Int32), .int (10 : Int32)]) (st := []) (t := 0) (h' := (q19, J, shM)) (r := none) cx dX7_freshText_49 (c_X7_reads (I := q18) (J := J)  eq19) gc_RX7_169 qm_X7_reads rfl rfl qc_cl7 rfl (Nat.le_of_ble_eq_true rfl) (by decide) (by decide) rfl (Nat.le_of_ble_eq_true rfl) (Nat.le_of_ble_eq_true rfl) hn0 rfl ?_
        refine qj_aload_n cx dX7_freshText_52 rfl rfl ?_
        refine qj_bipush (v := (6 : Int32)) cx dX7_freshText_53 (by decide) ?_
        refine qj_bipush (v := (20 : Int32)) cx dX7_freshText_55 (by decide) ?_
        obtain ⟨q20, eq20, hP⟩ := Option.bind_eq_some_iff.mp hP
        refine qj_callV (As := [.int (6 : Int32), .int (20 : Int32)]) (st := []) (t := 0) (h' := (q20, J, shM)) (r := none) cx dX7_freshText_57 (c_X7_reads (I := q19) (J := J)  eq20) gc_RX7_169 qm_X7_reads rfl rfl qc_cl7 rfl (Nat.le_of_ble_eq_true rfl) (by decide) (by decide) rfl (Nat.le_of_ble_eq_true rfl) (Nat.le_of_ble_eq_true rfl) hn0 rfl ?_
        refine qj_iconst (v := (0 : Int32)) cx dX7_freshText_60 (by decide) ?_
        refine qj_istore_n (ls1 := [some (.ref 0), some (.int (0 : Int32))]) cx dX7_freshText_61 rfl rfl rfl rfl ?_
        exact L62 qc_fu q20 (0 : Int32) hP
      · have hP := qc_ifF hP c14
        refine qj_aload_n cx dX7_freshText_8 rfl rfl ?_
        refine qj_iload_n cx dX7_freshText_9 rfl rfl ?_
        refine qj_iconst (v := (0 : Int32)) cx dX7_freshText_10 (by decide) ?_
        obtain ⟨q21, eq21, hP⟩ := Option.bind_eq_some_iff.mp hP
        refine qj_callV (As := [.int a1, .int (0 : Int32)]) (st := []) (t := 0) (h' := (q21, J, shM)) (r := none) cx dX7_freshText_11 (c_X7_reads (I := I) (J := J)  eq21) gc_RX7_169 qm_X7_reads rfl rfl qc_cl7 rfl (Nat.le_of_ble_eq_true rfl) (by decide) (by decide) rfl (Nat.le_of_ble_eq_true rfl) (Nat.le_of_ble_eq_true rfl) hn0 rfl ?_
        obtain ⟨x22, ex22, hP⟩ := qc_letE hP
        refine qj_iinc (v := x22) (ls1 := [some (.ref 0), some (.int x22)]) cx dX7_freshText_14 rfl (by rw [ex22]; rfl) rfl rfl ?_
        refine qj_goto (tgt := 2) cx dX7_freshText_17 (by decide) ?_
        exact ih q21 x22 hP
  show qc_J F 0 0 0 [some (.ref 0), none] [] (I, J, shM)
  unfold P_X7_freshText at hP
  refine qj_iconst (v := (0 : Int32)) cx dX7_freshText_0 (by decide) ?_
  refine qj_istore_n (ls1 := [some (.ref 0), some (.int (0 : Int32))]) cx dX7_freshText_1 rfl rfl rfl rfl ?_
  exact L2 qc_fu I (0 : Int32) hP
def P_X7_takeText_175  : Nat → (Nat → Nat → Int32) → Int32 → Option ((Nat → Nat → Int32))
  | 0, _, _ => none
  | f + 1, I, a1 =>
  if (61 : Int32) ≤ a1 then
  some I
  else
  if qc_in ((61 : Int32) + a1) 122 then
  if qc_in a1 122 then
  qc_let (qc_u2 I 12 a1.toNatClampNeg (vp_nar .boolean (I 12 ((61 : Int32) + a1).toNatClampNeg))) fun I3 =>
  qc_let (a1 + (1 : Int32)) fun x4 =>
  P_X7_takeText_175 f I3 x4
  else none
  else none
def P_X7_takeText_146  : Nat → (Nat → Nat → Int32) → Int32 → Option ((Nat → Nat → Int32))
  | 0, _, _ => none
  | f + 1, I, a1 =>
  if (9 : Int32) ≤ a1 then
  P_X7_takeText_175 qc_fu I (0 : Int32)
  else
  if qc_in ((9 : Int32) + a1) 18 then
  if qc_in a1 18 then
  qc_let (qc_u2 I 11 a1.toNatClampNeg (I 11 ((9 : Int32) + a1).toNatClampNeg)) fun I8 =>
  qc_let (a1 + (1 : Int32)) fun x9 =>
  P_X7_takeText_146 f I8 x9
  else none
  else none
def P_X7_takeText_27  : Nat → (Nat → Nat → Int32) → Int32 → Option ((Nat → Nat → Int32))
  | 0, _, _ => none
  | f + 1, I, a1 =>
  if (6 : Int32) ≤ a1 then
  P_X7_takeText_146 qc_fu I (0 : Int32)
  else
  if qc_in ((6 : Int32) + a1) 12 then
  if qc_in a1 12 then
  qc_let (qc_u2 I 4 a1.toNatClampNeg (I 4 ((6 : Int32) + a1).toNatClampNeg)) fun I13 =>
  if qc_in ((6 : Int32) + a1) 12 then
  if qc_in a1 12 then
  qc_let (qc_u2 I13 5 a1.toNatClampNeg (I13 5 ((6 : Int32) + a1).toNatClampNeg)) fun I15 =>
  if qc_in ((6 : Int32) + a1) 12 then
  if qc_in a1 12 then
  qc_let (qc_u2 I15 6 a1.toNatClampNeg (I15 6 ((6 : Int32) + a1).toNatClampNeg)) fun I17 =>
  if qc_in ((6 : Int32) + a1) 12 then
  if qc_in a1 12 then
  qc_let (qc_u2 I17 7 a1.toNatClampNeg (I17 7 ((6 : Int32) + a1).toNatClampNeg)) fun I19 =>
  if qc_in ((6 : Int32) + a1) 12 then
  if qc_in a1 12 then
  qc_let (qc_u2 I19 8 a1.toNatClampNeg (I19 8 ((6 : Int32) + a1).toNatClampNeg)) fun I21 =>
  if qc_in ((6 : Int32) + a1) 12 then
  if qc_in a1 12 then
  qc_let (qc_u2 I21 9 a1.toNatClampNeg (I21 9 ((6 : Int32) + a1).toNatClampNeg)) fun I23 =>
  if qc_in ((6 : Int32) + a1) 12 then
  if qc_in a1 12 then
  qc_let (qc_u2 I23 10 a1.toNatClampNeg (I23 10 ((6 : Int32) + a1).toNatClampNeg)) fun I25 =>
  qc_let (a1 + (1 : Int32)) fun x26 =>
  P_X7_takeText_27 f I25 x26
  else none
  else none
  else none
  else none
  else none
  else none
  else none
  else none
  else none
  else none
  else none
  else none
  else none
  else none
def P_X7_takeText_2  : Nat → (Nat → Nat → Int32) → Int32 → Option ((Nat → Nat → Int32))
  | 0, _, _ => none
  | f + 1, I, a1 =>
  if (10 : Int32) ≤ a1 then
  P_X7_takeText_27 qc_fu I (0 : Int32)
  else
  (P_X7_reading I a1).bind fun q35 =>
  if qc_in a1 20 then
  qc_let (qc_u2 I 2 a1.toNatClampNeg q35) fun I36 =>
  qc_let (a1 + (1 : Int32)) fun x37 =>
  P_X7_takeText_2 f I36 x37
  else none
def P_X7_takeText (I : Nat → Nat → Int32) : Option ((Nat → Nat → Int32)) :=
  P_X7_takeText_2 qc_fu I (0 : Int32)
set_option maxRecDepth 20000 in
theorem c_X7_takeText {I : Nat → Nat → Int32} {J : Nat → Nat → Int64}   {q0 : (Nat → Nat → Int32)} (hP : P_X7_takeText I = some q0) : ∀ l, qc_M l yX7_takeText cX7_takeText 2 none 1 21 0 0 [.ref 0] (I, J, shM) none (q0, J, shM) := by
  intro l
  refine qc_ent2 (by decide) (Nat.le_of_ble_eq_true rfl) ?_
  intro F hn0 cx hz
  have cx : qc_X F cX7_takeText RX7 "takeText" 1 0 0 21 := cx
  have L175 : ∀  (f : Nat) (I : (Nat → Nat → Int32)) (a1 : Int32), P_X7_takeText_175 f I a1 = some q0 → qc_J F 0 0 175 [some (.ref 0), some (.int a1)] [] (I, J, shM) := by
    intro  f
    induction f with
    | zero => intro I a1 hP; cases hP
    | succ f ih =>
      intro I a1 hP
      rw [P_X7_takeText_175] at hP
      refine qj_iload_n cx dX7_takeText_175 rfl rfl ?_
      refine qj_bipush (v := (61 : Int32)) cx dX7_takeText_176 (by decide) ?_
      refine qj_icmp_ge (tgt := 202) cx dX7_takeText_178 (by decide) (fun c1 => ?_) (fun c1 => ?_)
      · have hP := qc_ifT hP c1
        exact qw_vret cx hz dX7_takeText_202 (Nat.zero_le _) (Nat.zero_le _) (Option.some.inj hP) rfl
      · have hP := qc_ifF hP c1
        refine qj_aload_n cx dX7_takeText_181 rfl rfl ?_
        refine qw_getR (j := 13) (t1 := 12) cx dX7_takeText_182 qc_cl7 rfl (Nat.le_of_ble_eq_true rfl) rfl ww_1105 rfl ?_
        refine qj_iload_n cx dX7_takeText_185 rfl rfl ?_
        refine qj_aload_n cx dX7_takeText_186 rfl rfl ?_
        refine qw_getR (j := 13) (t1 := 12) cx dX7_takeText_187 qc_cl7 rfl (Nat.le_of_ble_eq_true rfl) rfl ww_1105 rfl ?_
        refine qj_bipush (v := (61 : Int32)) cx dX7_takeText_190 (by decide) ?_
        refine qj_iload_n cx dX7_takeText_192 rfl rfl ?_
        refine qj_iadd cx dX7_takeText_193 ?_
        obtain ⟨c2, hP⟩ := qc_ck hP
        refine qw_zald cx dX7_takeText_194 rfl (Nat.le_of_ble_eq_true rfl) rfl c2 ?_
        obtain ⟨c5, hP⟩ := qc_ck hP
        obtain ⟨I3, eI3, hP⟩ := qc_letE hP
        refine qw_zast cx dX7_takeText_195 rfl (Nat.le_of_ble_eq_true rfl) rfl c5 eI3 ?_
        obtain ⟨x4, ex4, hP⟩ := qc_letE hP
        refine qj_iinc (v := x4) (ls1 := [some (.ref 0), some (.int x4)]) cx dX7_takeText_196 rfl (by rw [ex4]; rfl) rfl rfl ?_
        refine qj_goto (tgt := 175) cx dX7_takeText_199 (by decide) ?_
        exact ih I3 x4 hP
  have L146 : ∀  (f : Nat) (I : (Nat → Nat → Int32)) (a1 : Int32), P_X7_takeText_146 f I a1 = some q0 → qc_J F 0 0 146 [some (.ref 0), some (.int a1)] [] (I, J, shM) := by
    intro  f
    induction f with
    | zero => intro I a1 hP; cases hP
    | succ f ih =>
      intro I a1 hP
      rw [P_X7_takeText_146] at hP
      refine qj_iload_n cx dX7_takeText_146 rfl rfl ?_
      refine qj_bipush (v := (9 : Int32)) cx dX7_takeText_147 (by decide) ?_
      refine qj_icmp_ge (tgt := 173) cx dX7_takeText_149 (by decide) (fun c6 => ?_) (fun c6 => ?_)
      · have hP := qc_ifT hP c6
        refine qj_iconst (v := (0 : Int32)) cx dX7_takeText_173 (by decide) ?_
        refine qj_istore_n (ls1 := [some (.ref 0), some (.int (0 : Int32))]) cx dX7_takeText_174 rfl rfl rfl rfl ?_
        exact L175 qc_fu I (0 : Int32) hP
      · have hP := qc_ifF hP c6
        refine qj_aload_n cx dX7_takeText_152 rfl rfl ?_
        refine qw_getR (j := 12) (t1 := 11) cx dX7_takeText_153 qc_cl7 rfl (Nat.le_of_ble_eq_true rfl) rfl ww_1104 rfl ?_
        refine qj_iload_n cx dX7_takeText_156 rfl rfl ?_
        refine qj_aload_n cx dX7_takeText_157 rfl rfl ?_
        refine qw_getR (j := 12) (t1 := 11) cx dX7_takeText_158 qc_cl7 rfl (Nat.le_of_ble_eq_true rfl) rfl ww_1104 rfl ?_
        refine qj_bipush (v := (9 : Int32)) cx dX7_takeText_161 (by decide) ?_
        refine qj_iload_n cx dX7_takeText_163 rfl rfl ?_
        refine qj_iadd cx dX7_takeText_164 ?_
        obtain ⟨c7, hP⟩ := qc_ck hP
        refine qw_iald cx dX7_takeText_165 rfl (Nat.le_of_ble_eq_true rfl) rfl c7 ?_
        obtain ⟨c10, hP⟩ := qc_ck hP
        obtain ⟨I8, eI8, hP⟩ := qc_letE hP
        refine qw_iast cx dX7_takeText_166 rfl (Nat.le_of_ble_eq_true rfl) rfl c10 eI8 ?_
        obtain ⟨x9, ex9, hP⟩ := qc_letE hP
        refine qj_iinc (v := x9) (ls1 := [some (.ref 0), some (.int x9)]) cx dX7_takeText_167 rfl (by rw [ex9]; rfl) rfl rfl ?_
        refine qj_goto (tgt := 146) cx dX7_takeText_170 (by decide) ?_
        exact ih I8 x9 hP
  have L27 : ∀  (f : Nat) (I : (Nat → Nat → Int32)) (a1 : Int32), P_X7_takeText_27 f I a1 = some q0 → qc_J F 0 0 27 [some (.ref 0), some (.int a1)] [] (I, J, shM) := by
    intro  f
    induction f with
    | zero => intro I a1 hP; cases hP
    | succ f ih =>
      intro I a1 hP
      rw [P_X7_takeText_27] at hP
      refine qj_iload_n cx dX7_takeText_27 rfl rfl ?_
      refine qj_bipush (v := (6 : Int32)) cx dX7_takeText_28 (by decide) ?_
      refine qj_icmp_ge (tgt := 144) cx dX7_takeText_30 (by decide) (fun c11 => ?_) (fun c11 => ?_)
      · have hP := qc_ifT hP c11
        refine qj_iconst (v := (0 : Int32)) cx dX7_takeText_144 (by decide) ?_
        refine qj_istore_n (ls1 := [some (.ref 0), some (.int (0 : Int32))]) cx dX7_takeText_145 rfl rfl rfl rfl ?_
        exact L146 qc_fu I (0 : Int32) hP
      · have hP := qc_ifF hP c11
        refine qj_aload_n cx dX7_takeText_33 rfl rfl ?_
        refine qw_getR (j := 5) (t1 := 4) cx dX7_takeText_34 qc_cl7 rfl (Nat.le_of_ble_eq_true rfl) rfl ww_1097 rfl ?_
        refine qj_iload_n cx dX7_takeText_37 rfl rfl ?_
        refine qj_aload_n cx dX7_takeText_38 rfl rfl ?_
        refine qw_getR (j := 5) (t1 := 4) cx dX7_takeText_39 qc_cl7 rfl (Nat.le_of_ble_eq_true rfl) rfl ww_1097 rfl ?_
        refine qj_bipush (v := (6 : Int32)) cx dX7_takeText_42 (by decide) ?_
        refine qj_iload_n cx dX7_takeText_44 rfl rfl ?_
        refine qj_iadd cx dX7_takeText_45 ?_
        obtain ⟨c12, hP⟩ := qc_ck hP
        refine qw_iald cx dX7_takeText_46 rfl (Nat.le_of_ble_eq_true rfl) rfl c12 ?_
        obtain ⟨c33, hP⟩ := qc_ck hP
        obtain ⟨I13, eI13, hP⟩ := qc_letE hP
        refine qw_iast cx dX7_takeText_47 rfl (Nat.le_of_ble_eq_true rfl) rfl c33 eI13 ?_
        refine qj_aload_n cx dX7_takeText_48 rfl rfl ?_
        refine qw_getR (j := 6) (t1 := 5) cx dX7_takeText_49 qc_cl7 rfl (Nat.le_of_ble_eq_true rfl) rfl ww_1098 rfl ?_
        refine qj_iload_n cx dX7_takeText_52 rfl rfl ?_
        refine qj_aload_n cx dX7_takeText_53 rfl rfl ?_
        refine qw_getR (j := 6) (t1 := 5) cx dX7_takeText_54 qc_cl7 rfl (Nat.le_of_ble_eq_true rfl) rfl ww_1098 rfl ?_
        refine qj_bipush (v := (6 : Int32)) cx dX7_takeText_57 (by decide) ?_
        refine qj_iload_n cx dX7_takeText_59 rfl rfl ?_
        refine qj_iadd cx dX7_takeText_60 ?_
        obtain ⟨c14, hP⟩ := qc_ck hP
        refine qw_iald cx dX7_takeText_61 rfl (Nat.le_of_ble_eq_true rfl) rfl c14 ?_
        obtain ⟨c32, hP⟩ := qc_ck hP
        obtain ⟨I15, eI15, hP⟩ := qc_letE hP
        refine qw_iast cx dX7_takeText_62 rfl (Nat.le_of_ble_eq_true rfl) rfl c32 eI15 ?_
        refine qj_aload_n cx dX7_takeText_63 rfl rfl ?_
        refine qw_getR (j := 7) (t1 := 6) cx dX7_takeText_64 qc_cl7 rfl (Nat.le_of_ble_eq_true rfl) rfl ww_1099 rfl ?_
        refine qj_iload_n cx dX7_takeText_67 rfl rfl ?_
        refine qj_aload_n cx dX7_takeText_68 rfl rfl ?_
        refine qw_getR (j := 7) (t1 := 6) cx dX7_takeText_69 qc_cl7 rfl (Nat.le_of_ble_eq_true rfl) rfl ww_1099 rfl ?_
        refine qj_bipush (v := (6 : Int32)) cx dX7_takeText_72 (by decide) ?_
        refine qj_iload_n cx dX7_takeText_74 rfl rfl ?_
        refine qj_iadd cx dX7_takeText_75 ?_
        obtain ⟨c16, hP⟩ := qc_ck hP
        refine qw_iald cx dX7_takeText_76 rfl (Nat.le_of_ble_eq_true rfl) rfl c16 ?_
        obtain ⟨c31, hP⟩ := qc_ck hP
        obtain ⟨I17, eI17, hP⟩ := qc_letE hP
        refine qw_iast cx dX7_takeText_77 rfl (Nat.le_of_ble_eq_true rfl) rfl c31 eI17 ?_
        refine qj_aload_n cx dX7_takeText_78 rfl rfl ?_
        refine qw_getR (j := 8) (t1 := 7) cx dX7_takeText_79 qc_cl7 rfl (Nat.le_of_ble_eq_true rfl) rfl ww_1100 rfl ?_
        refine qj_iload_n cx dX7_takeText_82 rfl rfl ?_
        refine qj_aload_n cx dX7_takeText_83 rfl rfl ?_
        refine qw_getR (j := 8) (t1 := 7) cx dX7_takeText_84 qc_cl7 rfl (Nat.le_of_ble_eq_true rfl) rfl ww_1100 rfl ?_
        refine qj_bipush (v := (6 : Int32)) cx dX7_takeText_87 (by decide) ?_
        refine qj_iload_n cx dX7_takeText_89 rfl rfl ?_
        refine qj_iadd cx dX7_takeText_90 ?_
        obtain ⟨c18, hP⟩ := qc_ck hP
        refine qw_iald cx dX7_takeText_91 rfl (Nat.le_of_ble_eq_true rfl) rfl c18 ?_
        obtain ⟨c30, hP⟩ := qc_ck hP
        obtain ⟨I19, eI19, hP⟩ := qc_letE hP
        refine qw_iast cx dX7_takeText_92 rfl (Nat.le_of_ble_eq_true rfl) rfl c30 eI19 ?_
        refine qj_aload_n cx dX7_takeText_93 rfl rfl ?_
        refine qw_getR (j := 9) (t1 := 8) cx dX7_takeText_94 qc_cl7 rfl (Nat.le_of_ble_eq_true rfl) rfl ww_1101 rfl ?_
        refine qj_iload_n cx dX7_takeText_97 rfl rfl ?_
        refine qj_aload_n cx dX7_takeText_98 rfl rfl ?_
        refine qw_getR (j := 9) (t1 := 8) cx dX7_takeText_99 qc_cl7 rfl (Nat.le_of_ble_eq_true rfl) rfl ww_1101 rfl ?_
        refine qj_bipush (v := (6 : Int32)) cx dX7_takeText_102 (by decide) ?_
        refine qj_iload_n cx dX7_takeText_104 rfl rfl ?_
        refine qj_iadd cx dX7_takeText_105 ?_
        obtain ⟨c20, hP⟩ := qc_ck hP
        refine qw_iald cx dX7_takeText_106 rfl (Nat.le_of_ble_eq_true rfl) rfl c20 ?_
        obtain ⟨c29, hP⟩ := qc_ck hP
        obtain ⟨I21, eI21, hP⟩ := qc_letE hP
        refine qw_iast cx dX7_takeText_107 rfl (Nat.le_of_ble_eq_true rfl) rfl c29 eI21 ?_
        refine qj_aload_n cx dX7_takeText_108 rfl rfl ?_
        refine qw_getR (j := 10) (t1 := 9) cx dX7_takeText_109 qc_cl7 rfl (Nat.le_of_ble_eq_true rfl) rfl ww_1102 rfl ?_
        refine qj_iload_n cx dX7_takeText_112 rfl rfl ?_
        refine qj_aload_n cx dX7_takeText_113 rfl rfl ?_
        refine qw_getR (j := 10) (t1 := 9) cx dX7_takeText_114 qc_cl7 rfl (Nat.le_of_ble_eq_true rfl) rfl ww_1102 rfl ?_
        refine qj_bipush (v := (6 : Int32)) cx dX7_takeText_117 (by decide) ?_
        refine qj_iload_n cx dX7_takeText_119 rfl rfl ?_
        refine qj_iadd cx dX7_takeText_120 ?_
        obtain ⟨c22, hP⟩ := qc_ck hP
        refine qw_iald cx dX7_takeText_121 rfl (Nat.le_of_ble_eq_true rfl) rfl c22 ?_
        obtain ⟨c28, hP⟩ := qc_ck hP
        obtain ⟨I23, eI23, hP⟩ := qc_letE hP
        refine qw_iast cx dX7_takeText_122 rfl (Nat.le_of_ble_eq_true rfl) rfl c28 eI23 ?_
        refine qj_aload_n cx dX7_takeText_123 rfl rfl ?_
        refine qw_getR (j := 11) (t1 := 10) cx dX7_takeText_124 qc_cl7 rfl (Nat.le_of_ble_eq_true rfl) rfl ww_1103 rfl ?_
        refine qj_iload_n cx dX7_takeText_127 rfl rfl ?_
        refine qj_aload_n cx dX7_takeText_128 rfl rfl ?_
        refine qw_getR (j := 11) (t1 := 10) cx dX7_takeText_129 qc_cl7 rfl (Nat.le_of_ble_eq_true rfl) rfl ww_1103 rfl ?_
        refine qj_bipush (v := (6 : Int32)) cx dX7_takeText_132 (by decide) ?_
        refine qj_iload_n cx dX7_takeText_134 rfl rfl ?_
        refine qj_iadd cx dX7_takeText_135 ?_
        obtain ⟨c24, hP⟩ := qc_ck hP
        refine qw_iald cx dX7_takeText_136 rfl (Nat.le_of_ble_eq_true rfl) rfl c24 ?_
        obtain ⟨c27, hP⟩ := qc_ck hP
        obtain ⟨I25, eI25, hP⟩ := qc_letE hP
        refine qw_iast cx dX7_takeText_137 rfl (Nat.le_of_ble_eq_true rfl) rfl c27 eI25 ?_
        obtain ⟨x26, ex26, hP⟩ := qc_letE hP
        refine qj_iinc (v := x26) (ls1 := [some (.ref 0), some (.int x26)]) cx dX7_takeText_138 rfl (by rw [ex26]; rfl) rfl rfl ?_
        refine qj_goto (tgt := 27) cx dX7_takeText_141 (by decide) ?_
        exact ih I25 x26 hP
  have L2 : ∀  (f : Nat) (I : (Nat → Nat → Int32)) (a1 : Int32), P_X7_takeText_2 f I a1 = some q0 → qc_J F 0 0 2 [some (.ref 0), some (.int a1)] [] (I, J, shM) := by
    intro  f
    induction f with
    | zero => intro I a1 hP; cases hP
    | succ f ih =>
      intro I a1 hP
      rw [P_X7_takeText_2] at hP
      refine qj_iload_n cx dX7_takeText_2 rfl rfl ?_
      refine qj_bipush (v := (10 : Int32)) cx dX7_takeText_3 (by decide) ?_
      refine qj_icmp_ge (tgt := 25) cx dX7_takeText_5 (by decide) (fun c34 => ?_) (fun c34 => ?_)
      · have hP := qc_ifT hP c34
        refine qj_iconst (v := (0 : Int32)) cx dX7_takeText_25 (by decide) ?_
        refine qj_istore_n (ls1 := [some (.ref 0), some (.int (0 : Int32))]) cx dX7_takeText_26 rfl rfl rfl rfl ?_
        exact L27 qc_fu I (0 : Int32) hP
      · have hP := qc_ifF hP c34
        refine qj_aload_n cx dX7_takeText_8 rfl rfl ?_
        refine qw_getR (j := 3) (t1 := 2) cx dX7_takeText_9 qc_cl7 rfl (Nat.le_of_ble_eq_true rfl) rfl ww_1095 rfl ?_
        refine qj_iload_n cx dX7_takeText_12 rfl rfl ?_
        refine qj_aload_n cx dX7_takeText_13 rfl rfl ?_
        refine qj_iload_n cx dX7_takeText_14 rfl rfl ?_
        obtain ⟨q35, eq35, hP⟩ := Option.bind_eq_some_iff.mp hP
        refine qj_callV (As := [.int a1]) (st := [.int a1, .ref 2]) (t := 0) (h' := (I, J, shM)) (r := some (.int q35)) cx dX7_takeText_15 (c_X7_reading (I := I) (J := J)  eq35) gc_RX7_181 qm_X7_reading rfl rfl qc_cl7 rfl (Nat.le_of_ble_eq_true rfl) (by decide) (by decide) rfl (Nat.le_of_ble_eq_true rfl) (Nat.le_of_ble_eq_true rfl) hn0 rfl ?_
        obtain ⟨c38, hP⟩ := qc_ck hP
        obtain ⟨I36, eI36, hP⟩ := qc_letE hP
        refine qw_iast cx dX7_takeText_18 rfl (Nat.le_of_ble_eq_true rfl) rfl c38 eI36 ?_
        obtain ⟨x37, ex37, hP⟩ := qc_letE hP
        refine qj_iinc (v := x37) (ls1 := [some (.ref 0), some (.int x37)]) cx dX7_takeText_19 rfl (by rw [ex37]; rfl) rfl rfl ?_
        refine qj_goto (tgt := 2) cx dX7_takeText_22 (by decide) ?_
        exact ih I36 x37 hP
  show qc_J F 0 0 0 [some (.ref 0), none] [] (I, J, shM)
  unfold P_X7_takeText at hP
  refine qj_iconst (v := (0 : Int32)) cx dX7_takeText_0 (by decide) ?_
  refine qj_istore_n (ls1 := [some (.ref 0), some (.int (0 : Int32))]) cx dX7_takeText_1 rfl rfl rfl rfl ?_
  exact L2 qc_fu I (0 : Int32) hP
def P_X7_fault (I : Nat → Nat → Int32) (a : Int32) : Option (Int32 × (Nat → Nat → Int32)) :=
  qc_let (qc_u2 I 0 0 (0 : Int32)) fun I1 =>
  (if a = 0 then
  some (I1 0 23)
  else
  if a = (1 : Int32) then
  some (I1 0 24)
  else
  some (-1 : Int32)).bind fun v3 =>
  some (v3, I1)
set_option maxRecDepth 20000 in
theorem c_X7_fault {I : Nat → Nat → Int32} {J : Nat → Nat → Int64}  {a : Int32} {q0 : Int32 × (Nat → Nat → Int32)} (hP : P_X7_fault I a = some q0) : ∀ l, qc_M l yX7_fault cX7_fault 2 (some .int) 0 0 0 0 [.ref 0, .int a] (I, J, shM) (some (.int q0.1)) (q0.2, J, shM) := by
  intro l
  refine qc_ent2 (by decide) (Nat.le_of_ble_eq_true rfl) ?_
  intro F hn0 cx hz
  have cx : qc_X F cX7_fault RX7 "fault" 0 0 0 0 := cx
  show qc_J F 0 0 0 [some (.ref 0), some (.int a)] [] (I, J, shM)
  unfold P_X7_fault at hP
  refine qj_aload_n cx dX7_fault_0 rfl rfl ?_
  refine qj_iconst (v := (0 : Int32)) cx dX7_fault_1 (by decide) ?_
  obtain ⟨I1, eI1, hP⟩ := qc_letE hP
  refine qw_putI (j := 0) cx dX7_fault_2 qc_cl7 rfl (Nat.le_of_ble_eq_true rfl) rfl ww_1092 rfl rfl rfl eI1 ?_
  refine qj_iload_n cx dX7_fault_5 rfl rfl ?_
  obtain ⟨v3, hv3, hP⟩ := Option.bind_eq_some_iff.mp hP
  have Kv3 : qc_J F 0 0 29 [some (.ref 0), some (.int a)] [.int v3] (I1, J, shM) := by
    exact qw_iret cx hz dX7_fault_29 (Nat.zero_le _) (Nat.zero_le _) (congrArg (fun q => q.1) (Option.some.inj hP)) (congrArg (fun q => q.2) (Option.some.inj hP)) rfl
  refine qj_if_ne (tgt := 16) cx dX7_fault_6 (by decide) (fun c2 => ?_) (fun c2 => ?_)
  · have hv3 := qc_ifF hv3 c2
    refine qj_iload_n cx dX7_fault_16 rfl rfl ?_
    refine qj_iconst (v := (1 : Int32)) cx dX7_fault_17 (by decide) ?_
    refine qj_icmp_ne (tgt := 28) cx dX7_fault_18 (by decide) (fun c4 => ?_) (fun c4 => ?_)
    · have hv3 := qc_ifF hv3 c4
      refine qj_iconst (v := (-1 : Int32)) cx dX7_fault_28 (by decide) ?_
      exact qw_top (Option.some.inj hv3).symm Kv3
    · have hv3 := qc_ifT hv3 c4
      refine qj_aload_n cx dX7_fault_21 rfl rfl ?_
      refine qw_getI (j := 24) cx dX7_fault_22 qc_cl7 rfl (Nat.le_of_ble_eq_true rfl) rfl ww_1116 ?_
      refine qj_goto (tgt := 29) cx dX7_fault_25 (by decide) ?_
      exact qw_top (Option.some.inj hv3).symm Kv3
  · have hv3 := qc_ifT hv3 c2
    refine qj_aload_n cx dX7_fault_9 rfl rfl ?_
    refine qw_getI (j := 23) cx dX7_fault_10 qc_cl7 rfl (Nat.le_of_ble_eq_true rfl) rfl ww_1115 ?_
    refine qj_goto (tgt := 29) cx dX7_fault_13 (by decide) ?_
    exact qw_top (Option.some.inj hv3).symm Kv3
def P_X7_users (I : Nat → Nat → Int32) : Option (Int32) :=
  some (I 2 7)
set_option maxRecDepth 20000 in
theorem c_X7_users {I : Nat → Nat → Int32} {J : Nat → Nat → Int64}   {q0 : Int32} (hP : P_X7_users I = some q0) : ∀ l, qc_M l yX7_users cX7_users 1 (some .int) 0 0 0 0 [.ref 0] (I, J, shM) (some (.int q0)) (I, J, shM) := by
  intro l
  refine qc_ent2 (by decide) (Nat.le_of_ble_eq_true rfl) ?_
  intro F hn0 cx hz
  have cx : qc_X F cX7_users RX7 "users" 0 0 0 0 := cx
  show qc_J F 0 0 0 [some (.ref 0)] [] (I, J, shM)
  unfold P_X7_users at hP
  refine qj_aload_n cx dX7_users_0 rfl rfl ?_
  refine qw_getR (j := 3) (t1 := 2) cx dX7_users_1 qc_cl7 rfl (Nat.le_of_ble_eq_true rfl) rfl ww_1095 rfl ?_
  refine qj_bipush (v := (7 : Int32)) cx dX7_users_4 (by decide) ?_
  refine qw_iald cx dX7_users_6 rfl (Nat.le_of_ble_eq_true rfl) rfl (by decide) ?_
  exact qw_iret cx hz dX7_users_7 (Nat.zero_le _) (Nat.zero_le _) (Option.some.inj hP) rfl rfl
def P_X7_named (I : Nat → Nat → Int32) (a : Int32) : Option (Int32 × (Nat → Nat → Int32)) :=
  qc_let (qc_u2 I 0 0 (0 : Int32)) fun I1 =>
  (P_X7_users I1).bind fun q2 =>
  (P_X7_namedAt I1 (0 : Int32) q2 a).bind fun q3 =>
  some (q3, I1)
set_option maxRecDepth 20000 in
theorem c_X7_named {I : Nat → Nat → Int32} {J : Nat → Nat → Int64}  {a : Int32} {q0 : Int32 × (Nat → Nat → Int32)} (hP : P_X7_named I a = some q0) : ∀ l, qc_M l yX7_named cX7_named 2 (some .int) 1 24 0 0 [.ref 0, .int a] (I, J, shM) (some (.int q0.1)) (q0.2, J, shM) := by
  intro l
  refine qc_ent2 (by decide) (Nat.le_of_ble_eq_true rfl) ?_
  intro F hn0 cx hz
  have cx : qc_X F cX7_named RX7 "named" 1 0 0 24 := cx
  show qc_J F 0 0 0 [some (.ref 0), some (.int a)] [] (I, J, shM)
  unfold P_X7_named at hP
  refine qj_aload_n cx dX7_named_0 rfl rfl ?_
  refine qj_iconst (v := (0 : Int32)) cx dX7_named_1 (by decide) ?_
  obtain ⟨I1, eI1, hP⟩ := qc_letE hP
  refine qw_putI (j := 0) cx dX7_named_2 qc_cl7 rfl (Nat.le_of_ble_eq_true rfl) rfl ww_1092 rfl rfl rfl eI1 ?_
  refine qj_aload_n cx dX7_named_5 rfl rfl ?_
  refine qj_iconst (v := (0 : Int32)) cx dX7_named_6 (by decide) ?_
  refine qj_aload_n cx dX7_named_7 rfl rfl ?_
  obtain ⟨q2, eq2, hP⟩ := Option.bind_eq_some_iff.mp hP
  refine qj_callV (As := []) (st := [.int (0 : Int32), .ref 0]) (t := 0) (h' := (I1, J, shM)) (r := some (.int q2)) cx dX7_named_8 (c_X7_users (I := I1) (J := J)  eq2) gc_RX7_232 qm_X7_users rfl rfl qc_cl7 rfl (Nat.le_of_ble_eq_true rfl) (by decide) (by decide) rfl (Nat.le_of_ble_eq_true rfl) (Nat.le_of_ble_eq_true rfl) hn0 rfl ?_
  refine qj_iload_n cx dX7_named_11 rfl rfl ?_
  obtain ⟨q3, eq3, hP⟩ := Option.bind_eq_some_iff.mp hP
  refine qj_callV (As := [.int (0 : Int32), .int q2, .int a]) (st := []) (t := 0) (h' := (I1, J, shM)) (r := some (.int q3)) cx dX7_named_12 (c_X7_namedAt (I := I1) (J := J)  eq3) gc_RX7_185 qm_X7_namedAt rfl rfl qc_cl7 rfl (Nat.le_of_ble_eq_true rfl) (by decide) (by decide) rfl (Nat.le_of_ble_eq_true rfl) (Nat.le_of_ble_eq_true rfl) hn0 rfl ?_
  exact qw_iret cx hz dX7_named_15 (Nat.zero_le _) (Nat.zero_le _) (congrArg (fun q => q.1) (Option.some.inj hP)) (congrArg (fun q => q.2) (Option.some.inj hP)) rfl
def P_X7_asTold (I : Nat → Nat → Int32) : Option ((Nat → Nat → Int32)) :=
  qc_let (qc_u2 I 0 30 (I 2 0)) fun I1 =>
  qc_let (qc_u2 I1 0 31 (I1 2 1)) fun I2 =>
  qc_let (qc_u2 I2 0 32 (I2 2 2)) fun I3 =>
  qc_let (qc_u2 I3 0 33 (I3 2 3)) fun I4 =>
  some I4
set_option maxRecDepth 20000 in
theorem c_X7_asTold {I : Nat → Nat → Int32} {J : Nat → Nat → Int64}   {q0 : (Nat → Nat → Int32)} (hP : P_X7_asTold I = some q0) : ∀ l, qc_M l yX7_asTold cX7_asTold 1 none 0 0 0 0 [.ref 0] (I, J, shM) none (q0, J, shM) := by
  intro l
  refine qc_ent2 (by decide) (Nat.le_of_ble_eq_true rfl) ?_
  intro F hn0 cx hz
  have cx : qc_X F cX7_asTold RX7 "asTold" 0 0 0 0 := cx
  show qc_J F 0 0 0 [some (.ref 0)] [] (I, J, shM)
  unfold P_X7_asTold at hP
  refine qj_aload_n cx dX7_asTold_0 rfl rfl ?_
  refine qj_aload_n cx dX7_asTold_1 rfl rfl ?_
  refine qw_getR (j := 3) (t1 := 2) cx dX7_asTold_2 qc_cl7 rfl (Nat.le_of_ble_eq_true rfl) rfl ww_1095 rfl ?_
  refine qj_iconst (v := (0 : Int32)) cx dX7_asTold_5 (by decide) ?_
  refine qw_iald cx dX7_asTold_6 rfl (Nat.le_of_ble_eq_true rfl) rfl (by decide) ?_
  obtain ⟨I1, eI1, hP⟩ := qc_letE hP
  refine qw_putI (j := 30) cx dX7_asTold_7 qc_cl7 rfl (Nat.le_of_ble_eq_true rfl) rfl ww_1122 rfl rfl rfl eI1 ?_
  refine qj_aload_n cx dX7_asTold_10 rfl rfl ?_
  refine qj_aload_n cx dX7_asTold_11 rfl rfl ?_
  refine qw_getR (j := 3) (t1 := 2) cx dX7_asTold_12 qc_cl7 rfl (Nat.le_of_ble_eq_true rfl) rfl ww_1095 rfl ?_
  refine qj_iconst (v := (1 : Int32)) cx dX7_asTold_15 (by decide) ?_
  refine qw_iald cx dX7_asTold_16 rfl (Nat.le_of_ble_eq_true rfl) rfl (by decide) ?_
  obtain ⟨I2, eI2, hP⟩ := qc_letE hP
  refine qw_putI (j := 31) cx dX7_asTold_17 qc_cl7 rfl (Nat.le_of_ble_eq_true rfl) rfl ww_1123 rfl rfl rfl eI2 ?_
  refine qj_aload_n cx dX7_asTold_20 rfl rfl ?_
  refine qj_aload_n cx dX7_asTold_21 rfl rfl ?_
  refine qw_getR (j := 3) (t1 := 2) cx dX7_asTold_22 qc_cl7 rfl (Nat.le_of_ble_eq_true rfl) rfl ww_1095 rfl ?_
  refine qj_iconst (v := (2 : Int32)) cx dX7_asTold_25 (by decide) ?_
  refine qw_iald cx dX7_asTold_26 rfl (Nat.le_of_ble_eq_true rfl) rfl (by decide) ?_
  obtain ⟨I3, eI3, hP⟩ := qc_letE hP
  refine qw_putI (j := 32) cx dX7_asTold_27 qc_cl7 rfl (Nat.le_of_ble_eq_true rfl) rfl ww_1124 rfl rfl rfl eI3 ?_
  refine qj_aload_n cx dX7_asTold_30 rfl rfl ?_
  refine qj_aload_n cx dX7_asTold_31 rfl rfl ?_
  refine qw_getR (j := 3) (t1 := 2) cx dX7_asTold_32 qc_cl7 rfl (Nat.le_of_ble_eq_true rfl) rfl ww_1095 rfl ?_
  refine qj_iconst (v := (3 : Int32)) cx dX7_asTold_35 (by decide) ?_
  refine qw_iald cx dX7_asTold_36 rfl (Nat.le_of_ble_eq_true rfl) rfl (by decide) ?_
  obtain ⟨I4, eI4, hP⟩ := qc_letE hP
  refine qw_putI (j := 33) cx dX7_asTold_37 qc_cl7 rfl (Nat.le_of_ble_eq_true rfl) rfl ww_1125 rfl rfl rfl eI4 ?_
  exact qw_vret cx hz dX7_asTold_40 (Nat.zero_le _) (Nat.zero_le _) (Option.some.inj hP) rfl
def P_X7_lays_2  : Nat → (Nat → Nat → Int32) → Int32 → Int32 → Option ((Nat → Nat → Int32))
  | 0, _, _, _ => none
  | f + 1, I, a1, a2 =>
  if (79 : Int32) ≤ a2 then
  some I
  else
  if qc_in a2 79 then
  if qc_in (((79 : Int32) * a1) + a2) 1659 then
  qc_let (qc_u2 I 14 (((79 : Int32) * a1) + a2).toNatClampNeg (I 13 a2.toNatClampNeg)) fun I3 =>
  qc_let (a2 + (1 : Int32)) fun x4 =>
  P_X7_lays_2 f I3 a1 x4
  else none
  else none
def P_X7_lays (I : Nat → Nat → Int32) (a : Int32) : Option ((Nat → Nat → Int32)) :=
  P_X7_lays_2 qc_fu I a (0 : Int32)
set_option maxRecDepth 20000 in
theorem c_X7_lays {I : Nat → Nat → Int32} {J : Nat → Nat → Int64}  {a : Int32} {q0 : (Nat → Nat → Int32)} (hP : P_X7_lays I a = some q0) : ∀ l, qc_M l yX7_lays cX7_lays 3 none 0 0 0 0 [.ref 0, .int a] (I, J, shM) none (q0, J, shM) := by
  intro l
  refine qc_ent2 (by decide) (Nat.le_of_ble_eq_true rfl) ?_
  intro F hn0 cx hz
  have cx : qc_X F cX7_lays RX7 "lays" 0 0 0 0 := cx
  have L2 : ∀  (f : Nat) (I : (Nat → Nat → Int32)) (a1 : Int32) (a2 : Int32), P_X7_lays_2 f I a1 a2 = some q0 → qc_J F 0 0 2 [some (.ref 0), some (.int a1), some (.int a2)] [] (I, J, shM) := by
    intro  f
    induction f with
    | zero => intro I a1 a2 hP; cases hP
    | succ f ih =>
      intro I a1 a2 hP
      rw [P_X7_lays_2] at hP
      refine qj_iload_n cx dX7_lays_2 rfl rfl ?_
      refine qj_bipush (v := (79 : Int32)) cx dX7_lays_3 (by decide) ?_
      refine qj_icmp_ge (tgt := 31) cx dX7_lays_5 (by decide) (fun c1 => ?_) (fun c1 => ?_)
      · have hP := qc_ifT hP c1
        exact qw_vret cx hz dX7_lays_31 (Nat.zero_le _) (Nat.zero_le _) (Option.some.inj hP) rfl
      · have hP := qc_ifF hP c1
        refine qj_aload_n cx dX7_lays_8 rfl rfl ?_
        refine qw_getR (j := 26) (t1 := 14) cx dX7_lays_9 qc_cl7 rfl (Nat.le_of_ble_eq_true rfl) rfl ww_1118 rfl ?_
        refine qj_bipush (v := (79 : Int32)) cx dX7_lays_12 (by decide) ?_
        refine qj_iload_n cx dX7_lays_14 rfl rfl ?_
        refine qj_imul cx dX7_lays_15 ?_
        refine qj_iload_n cx dX7_lays_16 rfl rfl ?_
        refine qj_iadd cx dX7_lays_17 ?_
        refine qj_aload_n cx dX7_lays_18 rfl rfl ?_
        refine qw_getR (j := 25) (t1 := 13) cx dX7_lays_19 qc_cl7 rfl (Nat.le_of_ble_eq_true rfl) rfl ww_1117 rfl ?_
        refine qj_iload_n cx dX7_lays_22 rfl rfl ?_
        obtain ⟨c2, hP⟩ := qc_ck hP
        refine qw_iald cx dX7_lays_23 rfl (Nat.le_of_ble_eq_true rfl) rfl c2 ?_
        obtain ⟨c5, hP⟩ := qc_ck hP
        obtain ⟨I3, eI3, hP⟩ := qc_letE hP
        refine qw_iast cx dX7_lays_24 rfl (Nat.le_of_ble_eq_true rfl) rfl c5 eI3 ?_
        obtain ⟨x4, ex4, hP⟩ := qc_letE hP
        refine qj_iinc (v := x4) (ls1 := [some (.ref 0), some (.int a1), some (.int x4)]) cx dX7_lays_25 rfl (by rw [ex4]; rfl) rfl rfl ?_
        refine qj_goto (tgt := 2) cx dX7_lays_28 (by decide) ?_
        exact ih I3 a1 x4 hP
  show qc_J F 0 0 0 [some (.ref 0), some (.int a), none] [] (I, J, shM)
  unfold P_X7_lays at hP
  refine qj_iconst (v := (0 : Int32)) cx dX7_lays_0 (by decide) ?_
  refine qj_istore_n (ls1 := [some (.ref 0), some (.int a), some (.int (0 : Int32))]) cx dX7_lays_1 rfl rfl rfl rfl ?_
  exact L2 qc_fu I a (0 : Int32) hP
def P_X7_laysBack_2  : Nat → (Nat → Nat → Int32) → Int32 → Int32 → Option ((Nat → Nat → Int32))
  | 0, _, _, _ => none
  | f + 1, I, a1, a2 =>
  if (79 : Int32) ≤ a2 then
  some I
  else
  if qc_in (((79 : Int32) * a1) + a2) 1659 then
  if qc_in a2 79 then
  qc_let (qc_u2 I 13 a2.toNatClampNeg (I 14 (((79 : Int32) * a1) + a2).toNatClampNeg)) fun I3 =>
  qc_let (a2 + (1 : Int32)) fun x4 =>
  P_X7_laysBack_2 f I3 a1 x4
  else none
  else none
def P_X7_laysBack (I : Nat → Nat → Int32) (a : Int32) : Option ((Nat → Nat → Int32)) :=
  P_X7_laysBack_2 qc_fu I a (0 : Int32)
set_option maxRecDepth 20000 in
theorem c_X7_laysBack {I : Nat → Nat → Int32} {J : Nat → Nat → Int64}  {a : Int32} {q0 : (Nat → Nat → Int32)} (hP : P_X7_laysBack I a = some q0) : ∀ l, qc_M l yX7_laysBack cX7_laysBack 3 none 0 0 0 0 [.ref 0, .int a] (I, J, shM) none (q0, J, shM) := by
  intro l
  refine qc_ent2 (by decide) (Nat.le_of_ble_eq_true rfl) ?_
  intro F hn0 cx hz
  have cx : qc_X F cX7_laysBack RX7 "laysBack" 0 0 0 0 := cx
  have L2 : ∀  (f : Nat) (I : (Nat → Nat → Int32)) (a1 : Int32) (a2 : Int32), P_X7_laysBack_2 f I a1 a2 = some q0 → qc_J F 0 0 2 [some (.ref 0), some (.int a1), some (.int a2)] [] (I, J, shM) := by
    intro  f
    induction f with
    | zero => intro I a1 a2 hP; cases hP
    | succ f ih =>
      intro I a1 a2 hP
      rw [P_X7_laysBack_2] at hP
      refine qj_iload_n cx dX7_laysBack_2 rfl rfl ?_
      refine qj_bipush (v := (79 : Int32)) cx dX7_laysBack_3 (by decide) ?_
      refine qj_icmp_ge (tgt := 31) cx dX7_laysBack_5 (by decide) (fun c1 => ?_) (fun c1 => ?_)
      · have hP := qc_ifT hP c1
        exact qw_vret cx hz dX7_laysBack_31 (Nat.zero_le _) (Nat.zero_le _) (Option.some.inj hP) rfl
      · have hP := qc_ifF hP c1
        refine qj_aload_n cx dX7_laysBack_8 rfl rfl ?_
        refine qw_getR (j := 25) (t1 := 13) cx dX7_laysBack_9 qc_cl7 rfl (Nat.le_of_ble_eq_true rfl) rfl ww_1117 rfl ?_
        refine qj_iload_n cx dX7_laysBack_12 rfl rfl ?_
        refine qj_aload_n cx dX7_laysBack_13 rfl rfl ?_
        refine qw_getR (j := 26) (t1 := 14) cx dX7_laysBack_14 qc_cl7 rfl (Nat.le_of_ble_eq_true rfl) rfl ww_1118 rfl ?_
        refine qj_bipush (v := (79 : Int32)) cx dX7_laysBack_17 (by decide) ?_
        refine qj_iload_n cx dX7_laysBack_19 rfl rfl ?_
        refine qj_imul cx dX7_laysBack_20 ?_
        refine qj_iload_n cx dX7_laysBack_21 rfl rfl ?_
        refine qj_iadd cx dX7_laysBack_22 ?_
        obtain ⟨c2, hP⟩ := qc_ck hP
        refine qw_iald cx dX7_laysBack_23 rfl (Nat.le_of_ble_eq_true rfl) rfl c2 ?_
        obtain ⟨c5, hP⟩ := qc_ck hP
        obtain ⟨I3, eI3, hP⟩ := qc_letE hP
        refine qw_iast cx dX7_laysBack_24 rfl (Nat.le_of_ble_eq_true rfl) rfl c5 eI3 ?_
        obtain ⟨x4, ex4, hP⟩ := qc_letE hP
        refine qj_iinc (v := x4) (ls1 := [some (.ref 0), some (.int a1), some (.int x4)]) cx dX7_laysBack_25 rfl (by rw [ex4]; rfl) rfl rfl ?_
        refine qj_goto (tgt := 2) cx dX7_laysBack_28 (by decide) ?_
        exact ih I3 a1 x4 hP
  show qc_J F 0 0 0 [some (.ref 0), some (.int a), none] [] (I, J, shM)
  unfold P_X7_laysBack at hP
  refine qj_iconst (v := (0 : Int32)) cx dX7_laysBack_0 (by decide) ?_
  refine qj_istore_n (ls1 := [some (.ref 0), some (.int a), some (.int (0 : Int32))]) cx dX7_laysBack_1 rfl rfl rfl rfl ?_
  exact L2 qc_fu I a (0 : Int32) hP
def P_X7_goesAside_2  : Nat → (Nat → Nat → Int32) → Int32 → Option ((Nat → Nat → Int32))
  | 0, _, _ => none
  | f + 1, I, a1 =>
  if (79 : Int32) ≤ a1 then
  some I
  else
  if qc_in a1 79 then
  if qc_in a1 79 then
  qc_let (qc_u2 I 15 a1.toNatClampNeg (I 13 a1.toNatClampNeg)) fun I3 =>
  qc_let (a1 + (1 : Int32)) fun x4 =>
  P_X7_goesAside_2 f I3 x4
  else none
  else none
def P_X7_goesAside (I : Nat → Nat → Int32) : Option ((Nat → Nat → Int32)) :=
  P_X7_goesAside_2 qc_fu I (0 : Int32)
set_option maxRecDepth 20000 in
theorem c_X7_goesAside {I : Nat → Nat → Int32} {J : Nat → Nat → Int64}   {q0 : (Nat → Nat → Int32)} (hP : P_X7_goesAside I = some q0) : ∀ l, qc_M l yX7_goesAside cX7_goesAside 2 none 0 0 0 0 [.ref 0] (I, J, shM) none (q0, J, shM) := by
  intro l
  refine qc_ent2 (by decide) (Nat.le_of_ble_eq_true rfl) ?_
  intro F hn0 cx hz
  have cx : qc_X F cX7_goesAside RX7 "goesAside" 0 0 0 0 := cx
  have L2 : ∀  (f : Nat) (I : (Nat → Nat → Int32)) (a1 : Int32), P_X7_goesAside_2 f I a1 = some q0 → qc_J F 0 0 2 [some (.ref 0), some (.int a1)] [] (I, J, shM) := by
    intro  f
    induction f with
    | zero => intro I a1 hP; cases hP
    | succ f ih =>
      intro I a1 hP
      rw [P_X7_goesAside_2] at hP
      refine qj_iload_n cx dX7_goesAside_2 rfl rfl ?_
      refine qj_bipush (v := (79 : Int32)) cx dX7_goesAside_3 (by decide) ?_
      refine qj_icmp_ge (tgt := 26) cx dX7_goesAside_5 (by decide) (fun c1 => ?_) (fun c1 => ?_)
      · have hP := qc_ifT hP c1
        exact qw_vret cx hz dX7_goesAside_26 (Nat.zero_le _) (Nat.zero_le _) (Option.some.inj hP) rfl
      · have hP := qc_ifF hP c1
        refine qj_aload_n cx dX7_goesAside_8 rfl rfl ?_
        refine qw_getR (j := 27) (t1 := 15) cx dX7_goesAside_9 qc_cl7 rfl (Nat.le_of_ble_eq_true rfl) rfl ww_1119 rfl ?_
        refine qj_iload_n cx dX7_goesAside_12 rfl rfl ?_
        refine qj_aload_n cx dX7_goesAside_13 rfl rfl ?_
        refine qw_getR (j := 25) (t1 := 13) cx dX7_goesAside_14 qc_cl7 rfl (Nat.le_of_ble_eq_true rfl) rfl ww_1117 rfl ?_
        refine qj_iload_n cx dX7_goesAside_17 rfl rfl ?_
        obtain ⟨c2, hP⟩ := qc_ck hP
        refine qw_iald cx dX7_goesAside_18 rfl (Nat.le_of_ble_eq_true rfl) rfl c2 ?_
        obtain ⟨c5, hP⟩ := qc_ck hP
        obtain ⟨I3, eI3, hP⟩ := qc_letE hP
        refine qw_iast cx dX7_goesAside_19 rfl (Nat.le_of_ble_eq_true rfl) rfl c5 eI3 ?_
        obtain ⟨x4, ex4, hP⟩ := qc_letE hP
        refine qj_iinc (v := x4) (ls1 := [some (.ref 0), some (.int x4)]) cx dX7_goesAside_20 rfl (by rw [ex4]; rfl) rfl rfl ?_
        refine qj_goto (tgt := 2) cx dX7_goesAside_23 (by decide) ?_
        exact ih I3 x4 hP
  show qc_J F 0 0 0 [some (.ref 0), none] [] (I, J, shM)
  unfold P_X7_goesAside at hP
  refine qj_iconst (v := (0 : Int32)) cx dX7_goesAside_0 (by decide) ?_
  refine qj_istore_n (ls1 := [some (.ref 0), some (.int (0 : Int32))]) cx dX7_goesAside_1 rfl rfl rfl rfl ?_
  exact L2 qc_fu I (0 : Int32) hP
def P_X7_comesBack_2  : Nat → (Nat → Nat → Int32) → Int32 → Option ((Nat → Nat → Int32))
  | 0, _, _ => none
  | f + 1, I, a1 =>
  if (79 : Int32) ≤ a1 then
  (P_X7_asTold I).bind fun q2 =>
  some q2
  else
  if qc_in a1 79 then
  if qc_in a1 79 then
  qc_let (qc_u2 I 13 a1.toNatClampNeg (I 15 a1.toNatClampNeg)) fun I4 =>
  qc_let (a1 + (1 : Int32)) fun x5 =>
  P_X7_comesBack_2 f I4 x5
  else none
  else none
def P_X7_comesBack (I : Nat → Nat → Int32) : Option ((Nat → Nat → Int32)) :=
  P_X7_comesBack_2 qc_fu I (0 : Int32)
set_option maxRecDepth 20000 in
theorem c_X7_comesBack {I : Nat → Nat → Int32} {J : Nat → Nat → Int64}   {q0 : (Nat → Nat → Int32)} (hP : P_X7_comesBack I = some q0) : ∀ l, qc_M l yX7_comesBack cX7_comesBack 2 none 1 20 0 0 [.ref 0] (I, J, shM) none (q0, J, shM) := by
  intro l
  refine qc_ent2 (by decide) (Nat.le_of_ble_eq_true rfl) ?_
  intro F hn0 cx hz
  have cx : qc_X F cX7_comesBack RX7 "comesBack" 1 0 0 20 := cx
  have L2 : ∀  (f : Nat) (I : (Nat → Nat → Int32)) (a1 : Int32), P_X7_comesBack_2 f I a1 = some q0 → qc_J F 0 0 2 [some (.ref 0), some (.int a1)] [] (I, J, shM) := by
    intro  f
    induction f with
    | zero => intro I a1 hP; cases hP
    | succ f ih =>
      intro I a1 hP
      rw [P_X7_comesBack_2] at hP
      refine qj_iload_n cx dX7_comesBack_2 rfl rfl ?_
      refine qj_bipush (v := (79 : Int32)) cx dX7_comesBack_3 (by decide) ?_
      refine qj_icmp_ge (tgt := 26) cx dX7_comesBack_5 (by decide) (fun c1 => ?_) (fun c1 => ?_)
      · have hP := qc_ifT hP c1
        refine qj_aload_n cx dX7_comesBack_26 rfl rfl ?_
        obtain ⟨q2, eq2, hP⟩ := Option.bind_eq_some_iff.mp hP
        refine qj_callV (As := []) (st := []) (t := 0) (h' := (q2, J, shM)) (r := none) cx dX7_comesBack_27 (c_X7_asTold (I := I) (J := J)  eq2) gc_RX7_235 qm_X7_asTold rfl rfl qc_cl7 rfl (Nat.le_of_ble_eq_true rfl) (by decide) (by decide) rfl (Nat.le_of_ble_eq_true rfl) (Nat.le_of_ble_eq_true rfl) hn0 rfl ?_
        exact qw_vret cx hz dX7_comesBack_30 (Nat.zero_le _) (Nat.zero_le _) (Option.some.inj hP) rfl
      · have hP := qc_ifF hP c1
        refine qj_aload_n cx dX7_comesBack_8 rfl rfl ?_
        refine qw_getR (j := 25) (t1 := 13) cx dX7_comesBack_9 qc_cl7 rfl (Nat.le_of_ble_eq_true rfl) rfl ww_1117 rfl ?_
        refine qj_iload_n cx dX7_comesBack_12 rfl rfl ?_
        refine qj_aload_n cx dX7_comesBack_13 rfl rfl ?_
        refine qw_getR (j := 27) (t1 := 15) cx dX7_comesBack_14 qc_cl7 rfl (Nat.le_of_ble_eq_true rfl) rfl ww_1119 rfl ?_
        refine qj_iload_n cx dX7_comesBack_17 rfl rfl ?_
        obtain ⟨c3, hP⟩ := qc_ck hP
        refine qw_iald cx dX7_comesBack_18 rfl (Nat.le_of_ble_eq_true rfl) rfl c3 ?_
        obtain ⟨c6, hP⟩ := qc_ck hP
        obtain ⟨I4, eI4, hP⟩ := qc_letE hP
        refine qw_iast cx dX7_comesBack_19 rfl (Nat.le_of_ble_eq_true rfl) rfl c6 eI4 ?_
        obtain ⟨x5, ex5, hP⟩ := qc_letE hP
        refine qj_iinc (v := x5) (ls1 := [some (.ref 0), some (.int x5)]) cx dX7_comesBack_20 rfl (by rw [ex5]; rfl) rfl rfl ?_
        refine qj_goto (tgt := 2) cx dX7_comesBack_23 (by decide) ?_
        exact ih I4 x5 hP
  show qc_J F 0 0 0 [some (.ref 0), none] [] (I, J, shM)
  unfold P_X7_comesBack at hP
  refine qj_iconst (v := (0 : Int32)) cx dX7_comesBack_0 (by decide) ?_
  refine qj_istore_n (ls1 := [some (.ref 0), some (.int (0 : Int32))]) cx dX7_comesBack_1 rfl rfl rfl rfl ?_
  exact L2 qc_fu I (0 : Int32) hP
def P_X7_remembers_49  (I : (Nat → Nat → Int32)) : Option ((Nat → Nat → Int32)) :=
  (P_X7_lays I (I 0 28)).bind fun q1 =>
  qc_let (qc_u2 q1 0 28 ((q1 0 28) + (1 : Int32))) fun I2 =>
  some I2
def P_X7_remembers_11  : Nat → (Nat → Nat → Int32) → Int32 → Option ((Nat → Nat → Int32))
  | 0, _, _ => none
  | f + 1, I, a1 =>
  if (1501 : Int32) ≤ a1 then
  qc_let (qc_u2 I 0 28 ((I 0 28) - (1 : Int32))) fun I4 =>
  P_X7_remembers_49 I4
  else
  if qc_in ((79 : Int32) + a1) 1659 then
  if qc_in a1 1659 then
  qc_let (qc_u2 I 14 a1.toNatClampNeg (I 14 ((79 : Int32) + a1).toNatClampNeg)) fun I6 =>
  qc_let (a1 + (1 : Int32)) fun x7 =>
  P_X7_remembers_11 f I6 x7
  else none
  else none
def P_X7_remembers (I : Nat → Nat → Int32) : Option ((Nat → Nat → Int32)) :=
  if I 0 28 = (20 : Int32) then
  P_X7_remembers_11 qc_fu I (0 : Int32)
  else
  P_X7_remembers_49 I
set_option maxRecDepth 20000 in
theorem c_X7_remembers {I : Nat → Nat → Int32} {J : Nat → Nat → Int64}   {q0 : (Nat → Nat → Int32)} (hP : P_X7_remembers I = some q0) : ∀ l, qc_M l yX7_remembers cX7_remembers 2 none 1 22 0 0 [.ref 0] (I, J, shM) none (q0, J, shM) := by
  intro l
  refine qc_ent2 (by decide) (Nat.le_of_ble_eq_true rfl) ?_
  intro F hn0 cx hz
  have cx : qc_X F cX7_remembers RX7 "remembers" 1 0 0 22 := cx
  have L49 : ∀  (I : (Nat → Nat → Int32)), P_X7_remembers_49 I = some q0 → qc_J F 0 0 49 [some (.ref 0), none] [] (I, J, shM) := by
    intro I hP
    unfold P_X7_remembers_49 at hP
    refine qj_aload_n cx dX7_remembers_49 rfl rfl ?_
    refine qj_aload_n cx dX7_remembers_50 rfl rfl ?_
    refine qw_getI (j := 28) cx dX7_remembers_51 qc_cl7 rfl (Nat.le_of_ble_eq_true rfl) rfl ww_1120 ?_
    obtain ⟨q1, eq1, hP⟩ := Option.bind_eq_some_iff.mp hP
    refine qj_callV (As := [.int (I 0 28)]) (st := []) (t := 0) (h' := (q1, J, shM)) (r := none) cx dX7_remembers_54 (c_X7_lays (I := I) (J := J)  eq1) gc_RX7_250 qm_X7_lays rfl rfl qc_cl7 rfl (Nat.le_of_ble_eq_true rfl) (by decide) (by decide) rfl (Nat.le_of_ble_eq_true rfl) (Nat.le_of_ble_eq_true rfl) hn0 rfl ?_
    refine qj_aload_n cx dX7_remembers_57 rfl rfl ?_
    refine qj_dup cx dX7_remembers_58 rfl ?_
    refine qw_getI (j := 28) cx dX7_remembers_59 qc_cl7 rfl (Nat.le_of_ble_eq_true rfl) rfl ww_1120 ?_
    refine qj_iconst (v := (1 : Int32)) cx dX7_remembers_62 (by decide) ?_
    refine qj_iadd cx dX7_remembers_63 ?_
    obtain ⟨I2, eI2, hP⟩ := qc_letE hP
    refine qw_putI (j := 28) cx dX7_remembers_64 qc_cl7 rfl (Nat.le_of_ble_eq_true rfl) rfl ww_1120 rfl rfl rfl eI2 ?_
    exact qw_vret cx hz dX7_remembers_67 (Nat.zero_le _) (Nat.zero_le _) (Option.some.inj hP) rfl
  have L11 : ∀  (f : Nat) (I : (Nat → Nat → Int32)) (a1 : Int32), P_X7_remembers_11 f I a1 = some q0 → qc_J F 0 0 11 [some (.ref 0), some (.int a1)] [] (I, J, shM) := by
    intro  f
    induction f with
    | zero => intro I a1 hP; cases hP
    | succ f ih =>
      intro I a1 hP
      rw [P_X7_remembers_11] at hP
      refine qj_iload_n cx dX7_remembers_11 rfl rfl ?_
      refine qj_sipush (v := (1501 : Int32)) cx dX7_remembers_12 (by decide) ?_
      refine qj_icmp_ge (tgt := 39) cx dX7_remembers_15 (by decide) (fun c3 => ?_) (fun c3 => ?_)
      · have hP := qc_ifT hP c3
        refine qj_aload_n cx dX7_remembers_39 rfl rfl ?_
        refine qj_dup cx dX7_remembers_40 rfl ?_
        refine qw_getI (j := 28) cx dX7_remembers_41 qc_cl7 rfl (Nat.le_of_ble_eq_true rfl) rfl ww_1120 ?_
        refine qj_iconst (v := (1 : Int32)) cx dX7_remembers_44 (by decide) ?_
        refine qj_isub cx dX7_remembers_45 ?_
        obtain ⟨I4, eI4, hP⟩ := qc_letE hP
        refine qw_putI (j := 28) cx dX7_remembers_46 qc_cl7 rfl (Nat.le_of_ble_eq_true rfl) rfl ww_1120 rfl rfl rfl eI4 ?_
        refine qw_sub (ls1 := [some (.ref 0), none]) rfl (qc_sb_ok ⟨rfl, trivial⟩) ?_
        exact L49 I4 hP
      · have hP := qc_ifF hP c3
        refine qj_aload_n cx dX7_remembers_18 rfl rfl ?_
        refine qw_getR (j := 26) (t1 := 14) cx dX7_remembers_19 qc_cl7 rfl (Nat.le_of_ble_eq_true rfl) rfl ww_1118 rfl ?_
        refine qj_iload_n cx dX7_remembers_22 rfl rfl ?_
        refine qj_aload_n cx dX7_remembers_23 rfl rfl ?_
        refine qw_getR (j := 26) (t1 := 14) cx dX7_remembers_24 qc_cl7 rfl (Nat.le_of_ble_eq_true rfl) rfl ww_1118 rfl ?_
        refine qj_bipush (v := (79 : Int32)) cx dX7_remembers_27 (by decide) ?_
        refine qj_iload_n cx dX7_remembers_29 rfl rfl ?_
        refine qj_iadd cx dX7_remembers_30 ?_
        obtain ⟨c5, hP⟩ := qc_ck hP
        refine qw_iald cx dX7_remembers_31 rfl (Nat.le_of_ble_eq_true rfl) rfl c5 ?_
        obtain ⟨c8, hP⟩ := qc_ck hP
        obtain ⟨I6, eI6, hP⟩ := qc_letE hP
        refine qw_iast cx dX7_remembers_32 rfl (Nat.le_of_ble_eq_true rfl) rfl c8 eI6 ?_
        obtain ⟨x7, ex7, hP⟩ := qc_letE hP
        refine qj_iinc (v := x7) (ls1 := [some (.ref 0), some (.int x7)]) cx dX7_remembers_33 rfl (by rw [ex7]; rfl) rfl rfl ?_
        refine qj_goto (tgt := 11) cx dX7_remembers_36 (by decide) ?_
        exact ih I6 x7 hP
  show qc_J F 0 0 0 [some (.ref 0), none] [] (I, J, shM)
  unfold P_X7_remembers at hP
  refine qj_aload_n cx dX7_remembers_0 rfl rfl ?_
  refine qw_getI (j := 28) cx dX7_remembers_1 qc_cl7 rfl (Nat.le_of_ble_eq_true rfl) rfl ww_1120 ?_
  refine qj_bipush (v := (20 : Int32)) cx dX7_remembers_4 (by decide) ?_
  refine qj_icmp_ne (tgt := 49) cx dX7_remembers_6 (by decide) (fun c9 => ?_) (fun c9 => ?_)
  · have hP := qc_ifF hP c9
    exact L49 I hP
  · have hP := qc_ifT hP c9
    refine qj_iconst (v := (0 : Int32)) cx dX7_remembers_9 (by decide) ?_
    refine qj_istore_n (ls1 := [some (.ref 0), some (.int (0 : Int32))]) cx dX7_remembers_10 rfl rfl rfl rfl ?_
    exact L11 qc_fu I (0 : Int32) hP
def P_X7_undo (I : Nat → Nat → Int32) : Option (Int32 × (Nat → Nat → Int32)) :=
  qc_let (qc_u2 I 0 0 (0 : Int32)) fun I1 =>
  if I1 0 28 = 0 then
  some ((-1 : Int32), I1)
  else
  qc_let (qc_u2 I1 0 28 ((I1 0 28) - (1 : Int32))) fun I3 =>
  (P_X7_laysBack I3 (I3 0 28)).bind fun q4 =>
  some (q4 0 28, q4)
set_option maxRecDepth 20000 in
theorem c_X7_undo {I : Nat → Nat → Int32} {J : Nat → Nat → Int64}   {q0 : Int32 × (Nat → Nat → Int32)} (hP : P_X7_undo I = some q0) : ∀ l, qc_M l yX7_undo cX7_undo 1 (some .int) 1 22 0 0 [.ref 0] (I, J, shM) (some (.int q0.1)) (q0.2, J, shM) := by
  intro l
  refine qc_ent2 (by decide) (Nat.le_of_ble_eq_true rfl) ?_
  intro F hn0 cx hz
  have cx : qc_X F cX7_undo RX7 "undo" 1 0 0 22 := cx
  show qc_J F 0 0 0 [some (.ref 0)] [] (I, J, shM)
  unfold P_X7_undo at hP
  refine qj_aload_n cx dX7_undo_0 rfl rfl ?_
  refine qj_iconst (v := (0 : Int32)) cx dX7_undo_1 (by decide) ?_
  obtain ⟨I1, eI1, hP⟩ := qc_letE hP
  refine qw_putI (j := 0) cx dX7_undo_2 qc_cl7 rfl (Nat.le_of_ble_eq_true rfl) rfl ww_1092 rfl rfl rfl eI1 ?_
  refine qj_aload_n cx dX7_undo_5 rfl rfl ?_
  refine qw_getI (j := 28) cx dX7_undo_6 qc_cl7 rfl (Nat.le_of_ble_eq_true rfl) rfl ww_1120 ?_
  refine qj_if_ne (tgt := 14) cx dX7_undo_9 (by decide) (fun c2 => ?_) (fun c2 => ?_)
  · have hP := qc_ifF hP c2
    refine qj_aload_n cx dX7_undo_14 rfl rfl ?_
    refine qj_dup cx dX7_undo_15 rfl ?_
    refine qw_getI (j := 28) cx dX7_undo_16 qc_cl7 rfl (Nat.le_of_ble_eq_true rfl) rfl ww_1120 ?_
    refine qj_iconst (v := (1 : Int32)) cx dX7_undo_19 (by decide) ?_
    refine qj_isub cx dX7_undo_20 ?_
    obtain ⟨I3, eI3, hP⟩ := qc_letE hP
    refine qw_putI (j := 28) cx dX7_undo_21 qc_cl7 rfl (Nat.le_of_ble_eq_true rfl) rfl ww_1120 rfl rfl rfl eI3 ?_
    refine qj_aload_n cx dX7_undo_24 rfl rfl ?_
    refine qj_aload_n cx dX7_undo_25 rfl rfl ?_
    refine qw_getI (j := 28) cx dX7_undo_26 qc_cl7 rfl (Nat.le_of_ble_eq_true rfl) rfl ww_1120 ?_
    obtain ⟨q4, eq4, hP⟩ := Option.bind_eq_some_iff.mp hP
    refine qj_callV (As := [.int (I3 0 28)]) (st := []) (t := 0) (h' := (q4, J, shM)) (r := none) cx dX7_undo_29 (c_X7_laysBack (I := I3) (J := J)  eq4) gc_RX7_253 qm_X7_laysBack rfl rfl qc_cl7 rfl (Nat.le_of_ble_eq_true rfl) (by decide) (by decide) rfl (Nat.le_of_ble_eq_true rfl) (Nat.le_of_ble_eq_true rfl) hn0 rfl ?_
    refine qj_aload_n cx dX7_undo_32 rfl rfl ?_
    refine qw_getI (j := 28) cx dX7_undo_33 qc_cl7 rfl (Nat.le_of_ble_eq_true rfl) rfl ww_1120 ?_
    exact qw_iret cx hz dX7_undo_36 (Nat.zero_le _) (Nat.zero_le _) (congrArg (fun q => q.1) (Option.some.inj hP)) (congrArg (fun q => q.2) (Option.some.inj hP)) rfl
  · have hP := qc_ifT hP c2
    refine qj_iconst (v := (-1 : Int32)) cx dX7_undo_12 (by decide) ?_
    exact qw_iret cx hz dX7_undo_13 (Nat.zero_le _) (Nat.zero_le _) (congrArg (fun q => q.1) (Option.some.inj hP)) (congrArg (fun q => q.2) (Option.some.inj hP)) rfl
def P_X7_tuned_4 (I : Nat → Nat → Int32) : Nat → Int32 → Int32 → Option (Int32)
  | 0, _, _ => none
  | f + 1, a1, a2 =>
  (P_X7_users I).bind fun q1 =>
  if q1 ≤ a2 then
  some a1
  else
  if qc_in ((0 : Int32) + a2) 79 then
  (if I 13 ((0 : Int32) + a2).toNatClampNeg ≤ 0 then
  some (0 : Int32)
  else
  some (1 : Int32)).bind fun v5 =>
  qc_let (a1 + v5) fun x6 =>
  qc_let (a2 + (1 : Int32)) fun x7 =>
  P_X7_tuned_4 I f x6 x7
  else none
def P_X7_tuned (I : Nat → Nat → Int32) : Option (Int32) :=
  P_X7_tuned_4 I qc_fu (0 : Int32) (0 : Int32)
set_option maxRecDepth 20000 in
theorem c_X7_tuned {I : Nat → Nat → Int32} {J : Nat → Nat → Int64}   {q0 : Int32} (hP : P_X7_tuned I = some q0) : ∀ l, qc_M l yX7_tuned cX7_tuned 3 (some .int) 1 20 0 0 [.ref 0] (I, J, shM) (some (.int q0)) (I, J, shM) := by
  intro l
  refine qc_ent2 (by decide) (Nat.le_of_ble_eq_true rfl) ?_
  intro F hn0 cx hz
  have cx : qc_X F cX7_tuned RX7 "tuned" 1 0 0 20 := cx
  have L4 : ∀  (f : Nat) (a1 : Int32) (a2 : Int32), P_X7_tuned_4 I f a1 a2 = some q0 → qc_J F 0 0 4 [some (.ref 0), some (.int a1), some (.int a2)] [] (I, J, shM) := by
    intro  f
    induction f with
    | zero => intro a1 a2 hP; cases hP
    | succ f ih =>
      intro a1 a2 hP
      rw [P_X7_tuned_4] at hP
      refine qj_iload_n cx dX7_tuned_4 rfl rfl ?_
      refine qj_aload_n cx dX7_tuned_5 rfl rfl ?_
      obtain ⟨q1, eq1, hP⟩ := Option.bind_eq_some_iff.mp hP
      refine qj_callV (As := []) (st := [.int a2]) (t := 0) (h' := (I, J, shM)) (r := some (.int q1)) cx dX7_tuned_6 (c_X7_users (I := I) (J := J)  eq1) gc_RX7_232 qm_X7_users rfl rfl qc_cl7 rfl (Nat.le_of_ble_eq_true rfl) (by decide) (by decide) rfl (Nat.le_of_ble_eq_true rfl) (Nat.le_of_ble_eq_true rfl) hn0 rfl ?_
      refine qj_icmp_ge (tgt := 37) cx dX7_tuned_9 (by decide) (fun c2 => ?_) (fun c2 => ?_)
      · have hP := qc_ifT hP c2
        refine qj_iload_n cx dX7_tuned_37 rfl rfl ?_
        exact qw_iret cx hz dX7_tuned_38 (Nat.zero_le _) (Nat.zero_le _) (Option.some.inj hP) rfl rfl
      · have hP := qc_ifF hP c2
        refine qj_iload_n cx dX7_tuned_12 rfl rfl ?_
        refine qj_aload_n cx dX7_tuned_13 rfl rfl ?_
        refine qw_getR (j := 25) (t1 := 13) cx dX7_tuned_14 qc_cl7 rfl (Nat.le_of_ble_eq_true rfl) rfl ww_1117 rfl ?_
        refine qj_iconst (v := (0 : Int32)) cx dX7_tuned_17 (by decide) ?_
        refine qj_iload_n cx dX7_tuned_18 rfl rfl ?_
        refine qj_iadd cx dX7_tuned_19 ?_
        obtain ⟨c3, hP⟩ := qc_ck hP
        refine qw_iald cx dX7_tuned_20 rfl (Nat.le_of_ble_eq_true rfl) rfl c3 ?_
        obtain ⟨v5, hv5, hP⟩ := Option.bind_eq_some_iff.mp hP
        have Kv5 : qc_J F 0 0 29 [some (.ref 0), some (.int a1), some (.int a2)] [.int v5, .int a1] (I, J, shM) := by
          refine qj_iadd cx dX7_tuned_29 ?_
          obtain ⟨x6, ex6, hP⟩ := qc_letE hP
          refine qw_top ex6 ?_
          refine qj_istore_n (ls1 := [some (.ref 0), some (.int x6), some (.int a2)]) cx dX7_tuned_30 rfl rfl rfl rfl ?_
          obtain ⟨x7, ex7, hP⟩ := qc_letE hP
          refine qj_iinc (v := x7) (ls1 := [some (.ref 0), some (.int x6), some (.int x7)]) cx dX7_tuned_31 rfl (by rw [ex7]; rfl) rfl rfl ?_
          refine qj_goto (tgt := 4) cx dX7_tuned_34 (by decide) ?_
          exact ih x6 x7 hP
        refine qj_if_le (tgt := 28) cx dX7_tuned_21 (by decide) (fun c4 => ?_) (fun c4 => ?_)
        · have hv5 := qc_ifT hv5 c4
          refine qj_iconst (v := (0 : Int32)) cx dX7_tuned_28 (by decide) ?_
          exact qw_top (Option.some.inj hv5).symm Kv5
        · have hv5 := qc_ifF hv5 c4
          refine qj_iconst (v := (1 : Int32)) cx dX7_tuned_24 (by decide) ?_
          refine qj_goto (tgt := 29) cx dX7_tuned_25 (by decide) ?_
          exact qw_top (Option.some.inj hv5).symm Kv5
  show qc_J F 0 0 0 [some (.ref 0), none, none] [] (I, J, shM)
  unfold P_X7_tuned at hP
  refine qj_iconst (v := (0 : Int32)) cx dX7_tuned_0 (by decide) ?_
  refine qj_istore_n (ls1 := [some (.ref 0), some (.int (0 : Int32)), none]) cx dX7_tuned_1 rfl rfl rfl rfl ?_
  refine qj_iconst (v := (0 : Int32)) cx dX7_tuned_2 (by decide) ?_
  refine qj_istore_n (ls1 := [some (.ref 0), some (.int (0 : Int32)), some (.int (0 : Int32))]) cx dX7_tuned_3 rfl rfl rfl rfl ?_
  exact L4 qc_fu (0 : Int32) (0 : Int32) hP
def P_X7_keep (I : Nat → Nat → Int32) : Option (Int32 × (Nat → Nat → Int32)) :=
  qc_let (qc_u2 I 0 0 (0 : Int32)) fun I1 =>
  (P_X7_lays I1 (20 : Int32)).bind fun q2 =>
  qc_let (qc_u2 q2 0 29 (1 : Int32)) fun I3 =>
  (P_X7_tuned I3).bind fun q4 =>
  some (q4, I3)
set_option maxRecDepth 20000 in
theorem c_X7_keep {I : Nat → Nat → Int32} {J : Nat → Nat → Int64}   {q0 : Int32 × (Nat → Nat → Int32)} (hP : P_X7_keep I = some q0) : ∀ l, qc_M l yX7_keep cX7_keep 1 (some .int) 2 42 0 0 [.ref 0] (I, J, shM) (some (.int q0.1)) (q0.2, J, shM) := by
  intro l
  refine qc_ent2 (by decide) (Nat.le_of_ble_eq_true rfl) ?_
  intro F hn0 cx hz
  have cx : qc_X F cX7_keep RX7 "keep" 2 0 0 42 := cx
  show qc_J F 0 0 0 [some (.ref 0)] [] (I, J, shM)
  unfold P_X7_keep at hP
  refine qj_aload_n cx dX7_keep_0 rfl rfl ?_
  refine qj_iconst (v := (0 : Int32)) cx dX7_keep_1 (by decide) ?_
  obtain ⟨I1, eI1, hP⟩ := qc_letE hP
  refine qw_putI (j := 0) cx dX7_keep_2 qc_cl7 rfl (Nat.le_of_ble_eq_true rfl) rfl ww_1092 rfl rfl rfl eI1 ?_
  refine qj_aload_n cx dX7_keep_5 rfl rfl ?_
  refine qj_bipush (v := (20 : Int32)) cx dX7_keep_6 (by decide) ?_
  obtain ⟨q2, eq2, hP⟩ := Option.bind_eq_some_iff.mp hP
  refine qj_callV (As := [.int (20 : Int32)]) (st := []) (t := 0) (h' := (q2, J, shM)) (r := none) cx dX7_keep_8 (c_X7_lays (I := I1) (J := J)  eq2) gc_RX7_250 qm_X7_lays rfl rfl qc_cl7 rfl (Nat.le_of_ble_eq_true rfl) (by decide) (by decide) rfl (Nat.le_of_ble_eq_true rfl) (Nat.le_of_ble_eq_true rfl) hn0 rfl ?_
  refine qj_aload_n cx dX7_keep_11 rfl rfl ?_
  refine qj_iconst (v := (1 : Int32)) cx dX7_keep_12 (by decide) ?_
  obtain ⟨I3, eI3, hP⟩ := qc_letE hP
  refine qw_putI (j := 29) cx dX7_keep_13 qc_cl7 rfl (Nat.le_of_ble_eq_true rfl) rfl ww_1121 (by decide) (by decide) rfl eI3 ?_
  refine qj_aload_n cx dX7_keep_16 rfl rfl ?_
  obtain ⟨q4, eq4, hP⟩ := Option.bind_eq_some_iff.mp hP
  refine qj_callV (As := []) (st := []) (t := 0) (h' := (I3, J, shM)) (r := some (.int q4)) cx dX7_keep_17 (c_X7_tuned (I := I3) (J := J)  eq4) gc_RX7_256 qm_X7_tuned rfl rfl qc_cl7 rfl (Nat.le_of_ble_eq_true rfl) (by decide) (by decide) rfl (Nat.le_of_ble_eq_true rfl) (Nat.le_of_ble_eq_true rfl) hn0 rfl ?_
  exact qw_iret cx hz dX7_keep_20 (Nat.zero_le _) (Nat.zero_le _) (congrArg (fun q => q.1) (Option.some.inj hP)) (congrArg (fun q => q.2) (Option.some.inj hP)) rfl
def P_X7_back (I : Nat → Nat → Int32) : Option (Int32 × (Nat → Nat → Int32)) :=
  qc_let (qc_u2 I 0 0 (0 : Int32)) fun I1 =>
  if I1 0 29 = 0 then
  some ((-1 : Int32), I1)
  else
  (P_X7_laysBack I1 (20 : Int32)).bind fun q3 =>
  qc_let (qc_u2 q3 0 28 (0 : Int32)) fun I4 =>
  (P_X7_tuned I4).bind fun q5 =>
  some (q5, I4)
set_option maxRecDepth 20000 in
theorem c_X7_back {I : Nat → Nat → Int32} {J : Nat → Nat → Int64}   {q0 : Int32 × (Nat → Nat → Int32)} (hP : P_X7_back I = some q0) : ∀ l, qc_M l yX7_back cX7_back 1 (some .int) 2 42 0 0 [.ref 0] (I, J, shM) (some (.int q0.1)) (q0.2, J, shM) := by
  intro l
  refine qc_ent2 (by decide) (Nat.le_of_ble_eq_true rfl) ?_
  intro F hn0 cx hz
  have cx : qc_X F cX7_back RX7 "back" 2 0 0 42 := cx
  show qc_J F 0 0 0 [some (.ref 0)] [] (I, J, shM)
  unfold P_X7_back at hP
  refine qj_aload_n cx dX7_back_0 rfl rfl ?_
  refine qj_iconst (v := (0 : Int32)) cx dX7_back_1 (by decide) ?_
  obtain ⟨I1, eI1, hP⟩ := qc_letE hP
  refine qw_putI (j := 0) cx dX7_back_2 qc_cl7 rfl (Nat.le_of_ble_eq_true rfl) rfl ww_1092 rfl rfl rfl eI1 ?_
  refine qj_aload_n cx dX7_back_5 rfl rfl ?_
  refine qw_getI (j := 29) cx dX7_back_6 qc_cl7 rfl (Nat.le_of_ble_eq_true rfl) rfl ww_1121 ?_
  refine qj_if_ne (tgt := 14) cx dX7_back_9 (by decide) (fun c2 => ?_) (fun c2 => ?_)
  · have hP := qc_ifF hP c2
    refine qj_aload_n cx dX7_back_14 rfl rfl ?_
    refine qj_bipush (v := (20 : Int32)) cx dX7_back_15 (by decide) ?_
    obtain ⟨q3, eq3, hP⟩ := Option.bind_eq_some_iff.mp hP
    refine qj_callV (As := [.int (20 : Int32)]) (st := []) (t := 0) (h' := (q3, J, shM)) (r := none) cx dX7_back_17 (c_X7_laysBack (I := I1) (J := J)  eq3) gc_RX7_253 qm_X7_laysBack rfl rfl qc_cl7 rfl (Nat.le_of_ble_eq_true rfl) (by decide) (by decide) rfl (Nat.le_of_ble_eq_true rfl) (Nat.le_of_ble_eq_true rfl) hn0 rfl ?_
    refine qj_aload_n cx dX7_back_20 rfl rfl ?_
    refine qj_iconst (v := (0 : Int32)) cx dX7_back_21 (by decide) ?_
    obtain ⟨I4, eI4, hP⟩ := qc_letE hP
    refine qw_putI (j := 28) cx dX7_back_22 qc_cl7 rfl (Nat.le_of_ble_eq_true rfl) rfl ww_1120 rfl rfl rfl eI4 ?_
    refine qj_aload_n cx dX7_back_25 rfl rfl ?_
    obtain ⟨q5, eq5, hP⟩ := Option.bind_eq_some_iff.mp hP
    refine qj_callV (As := []) (st := []) (t := 0) (h' := (I4, J, shM)) (r := some (.int q5)) cx dX7_back_26 (c_X7_tuned (I := I4) (J := J)  eq5) gc_RX7_256 qm_X7_tuned rfl rfl qc_cl7 rfl (Nat.le_of_ble_eq_true rfl) (by decide) (by decide) rfl (Nat.le_of_ble_eq_true rfl) (Nat.le_of_ble_eq_true rfl) hn0 rfl ?_
    exact qw_iret cx hz dX7_back_29 (Nat.zero_le _) (Nat.zero_le _) (congrArg (fun q => q.1) (Option.some.inj hP)) (congrArg (fun q => q.2) (Option.some.inj hP)) rfl
  · have hP := qc_ifT hP c2
    refine qj_iconst (v := (-1 : Int32)) cx dX7_back_12 (by decide) ?_
    exact qw_iret cx hz dX7_back_13 (Nat.zero_le _) (Nat.zero_le _) (congrArg (fun q => q.1) (Option.some.inj hP)) (congrArg (fun q => q.2) (Option.some.inj hP)) rfl
def P_X7_isUser (I : Nat → Nat → Int32) (a : Int32) : Option (Int32) :=
  (if a < 0 then
  some (0 : Int32)
  else
  (P_X7_users I).bind fun q3 =>
  if q3 ≤ a then
  some (0 : Int32)
  else
  some (1 : Int32)).bind fun v2 =>
  if qc_bo v2 then some v2 else none
set_option maxRecDepth 20000 in
theorem c_X7_isUser {I : Nat → Nat → Int32} {J : Nat → Nat → Int64}  {a : Int32} {q0 : Int32} (hP : P_X7_isUser I a = some q0) : ∀ l, qc_M l yX7_isUser cX7_isUser 2 (some .boolean) 1 20 0 0 [.ref 0, .int a] (I, J, shM) (some (.int q0)) (I, J, shM) := by
  intro l
  refine qc_ent2 (by decide) (Nat.le_of_ble_eq_true rfl) ?_
  intro F hn0 cx hz
  have cx : qc_X F cX7_isUser RX7 "isUser" 1 0 0 20 := cx
  show qc_J F 0 0 0 [some (.ref 0), some (.int a)] [] (I, J, shM)
  unfold P_X7_isUser at hP
  refine qj_iload_n cx dX7_isUser_0 rfl rfl ?_
  obtain ⟨v2, hv2, hP⟩ := Option.bind_eq_some_iff.mp hP
  have Kv2 : qc_J F 0 0 17 [some (.ref 0), some (.int a)] [.int v2] (I, J, shM) := by
    obtain ⟨c5, hP⟩ := qc_ck hP
    exact qw_zret cx hz dX7_isUser_17 (qc_bo_n c5) (Nat.zero_le _) (Nat.zero_le _) (Option.some.inj hP) rfl rfl
  refine qj_if_lt (tgt := 16) cx dX7_isUser_1 (by decide) (fun c1 => ?_) (fun c1 => ?_)
  · have hv2 := qc_ifT hv2 c1
    refine qj_iconst (v := (0 : Int32)) cx dX7_isUser_16 (by decide) ?_
    exact qw_top (Option.some.inj hv2).symm Kv2
  · have hv2 := qc_ifF hv2 c1
    refine qj_iload_n cx dX7_isUser_4 rfl rfl ?_
    refine qj_aload_n cx dX7_isUser_5 rfl rfl ?_
    obtain ⟨q3, eq3, hv2⟩ := Option.bind_eq_some_iff.mp hv2
    refine qj_callV (As := []) (st := [.int a]) (t := 0) (h' := (I, J, shM)) (r := some (.int q3)) cx dX7_isUser_6 (c_X7_users (I := I) (J := J)  eq3) gc_RX7_232 qm_X7_users rfl rfl qc_cl7 rfl (Nat.le_of_ble_eq_true rfl) (by decide) (by decide) rfl (Nat.le_of_ble_eq_true rfl) (Nat.le_of_ble_eq_true rfl) hn0 rfl ?_
    refine qj_icmp_ge (tgt := 16) cx dX7_isUser_9 (by decide) (fun c4 => ?_) (fun c4 => ?_)
    · have hv2 := qc_ifT hv2 c4
      refine qj_iconst (v := (0 : Int32)) cx dX7_isUser_16 (by decide) ?_
      exact qw_top (Option.some.inj hv2).symm Kv2
    · have hv2 := qc_ifF hv2 c4
      refine qj_iconst (v := (1 : Int32)) cx dX7_isUser_12 (by decide) ?_
      refine qj_goto (tgt := 17) cx dX7_isUser_13 (by decide) ?_
      exact qw_top (Option.some.inj hv2).symm Kv2
def P_X7_isChannel (I : Nat → Nat → Int32) (a : Int32) : Option (Int32) :=
  (if a < (1 : Int32) then
  some (0 : Int32)
  else
  if I 2 0 < a then
  some (0 : Int32)
  else
  some (1 : Int32)).bind fun v2 =>
  if qc_bo v2 then some v2 else none
set_option maxRecDepth 20000 in
theorem c_X7_isChannel {I : Nat → Nat → Int32} {J : Nat → Nat → Int64}  {a : Int32} {q0 : Int32} (hP : P_X7_isChannel I a = some q0) : ∀ l, qc_M l yX7_isChannel cX7_isChannel 2 (some .boolean) 0 0 0 0 [.ref 0, .int a] (I, J, shM) (some (.int q0)) (I, J, shM) := by
  intro l
  refine qc_ent2 (by decide) (Nat.le_of_ble_eq_true rfl) ?_
  intro F hn0 cx hz
  have cx : qc_X F cX7_isChannel RX7 "isChannel" 0 0 0 0 := cx
  show qc_J F 0 0 0 [some (.ref 0), some (.int a)] [] (I, J, shM)
  unfold P_X7_isChannel at hP
  refine qj_iload_n cx dX7_isChannel_0 rfl rfl ?_
  refine qj_iconst (v := (1 : Int32)) cx dX7_isChannel_1 (by decide) ?_
  obtain ⟨v2, hv2, hP⟩ := Option.bind_eq_some_iff.mp hP
  have Kv2 : qc_J F 0 0 20 [some (.ref 0), some (.int a)] [.int v2] (I, J, shM) := by
    obtain ⟨c4, hP⟩ := qc_ck hP
    exact qw_zret cx hz dX7_isChannel_20 (qc_bo_n c4) (Nat.zero_le _) (Nat.zero_le _) (Option.some.inj hP) rfl rfl
  refine qj_icmp_lt (tgt := 19) cx dX7_isChannel_2 (by decide) (fun c1 => ?_) (fun c1 => ?_)
  · have hv2 := qc_ifT hv2 c1
    refine qj_iconst (v := (0 : Int32)) cx dX7_isChannel_19 (by decide) ?_
    exact qw_top (Option.some.inj hv2).symm Kv2
  · have hv2 := qc_ifF hv2 c1
    refine qj_iload_n cx dX7_isChannel_5 rfl rfl ?_
    refine qj_aload_n cx dX7_isChannel_6 rfl rfl ?_
    refine qw_getR (j := 3) (t1 := 2) cx dX7_isChannel_7 qc_cl7 rfl (Nat.le_of_ble_eq_true rfl) rfl ww_1095 rfl ?_
    refine qj_iconst (v := (0 : Int32)) cx dX7_isChannel_10 (by decide) ?_
    refine qw_iald cx dX7_isChannel_11 rfl (Nat.le_of_ble_eq_true rfl) rfl (by decide) ?_
    refine qj_icmp_gt (tgt := 19) cx dX7_isChannel_12 (by decide) (fun c3 => ?_) (fun c3 => ?_)
    · have hv2 := qc_ifT hv2 c3
      refine qj_iconst (v := (0 : Int32)) cx dX7_isChannel_19 (by decide) ?_
      exact qw_top (Option.some.inj hv2).symm Kv2
    · have hv2 := qc_ifF hv2 c3
      refine qj_iconst (v := (1 : Int32)) cx dX7_isChannel_15 (by decide) ?_
      refine qj_goto (tgt := 20) cx dX7_isChannel_16 (by decide) ?_
      exact qw_top (Option.some.inj hv2).symm Kv2
def P_X7_tune_27  (I : (Nat → Nat → Int32)) (a1 : Int32) (a2 : Int32) : Option (Int32 × (Nat → Nat → Int32)) :=
  if qc_in ((0 : Int32) + a1) 79 then
  qc_let (I 13 ((0 : Int32) + a1).toNatClampNeg) fun x2 =>
  (P_X7_remembers I).bind fun q3 =>
  if qc_in ((0 : Int32) + a1) 79 then
  qc_let (qc_u2 q3 13 ((0 : Int32) + a1).toNatClampNeg a2) fun I4 =>
  some (x2, I4)
  else none
  else none
def P_X7_tune (I : Nat → Nat → Int32) (a : Int32) (b : Int32) : Option (Int32 × (Nat → Nat → Int32)) :=
  qc_let (qc_u2 I 0 0 (0 : Int32)) fun I6 =>
  (P_X7_isUser I6 a).bind fun q7 =>
  if q7 = 0 then
  some ((-1 : Int32), I6)
  else
  if b = 0 then
  P_X7_tune_27 I6 a b
  else
  (P_X7_isChannel I6 b).bind fun q10 =>
  if q10 = 0 then
  some ((-1 : Int32), I6)
  else
  P_X7_tune_27 I6 a b
set_option maxRecDepth 20000 in
theorem c_X7_tune {I : Nat → Nat → Int32} {J : Nat → Nat → Int64}  {a : Int32} {b : Int32} {q0 : Int32 × (Nat → Nat → Int32)} (hP : P_X7_tune I a b = some q0) : ∀ l, qc_M l yX7_tune cX7_tune 4 (some .int) 2 43 0 0 [.ref 0, .int a, .int b] (I, J, shM) (some (.int q0.1)) (q0.2, J, shM) := by
  intro l
  refine qc_ent2 (by decide) (Nat.le_of_ble_eq_true rfl) ?_
  intro F hn0 cx hz
  have cx : qc_X F cX7_tune RX7 "tune" 2 0 0 43 := cx
  have L27 : ∀  (I : (Nat → Nat → Int32)) (a1 : Int32) (a2 : Int32), P_X7_tune_27 I a1 a2 = some q0 → qc_J F 0 0 27 [some (.ref 0), some (.int a1), some (.int a2), none] [] (I, J, shM) := by
    intro I a1 a2 hP
    unfold P_X7_tune_27 at hP
    refine qj_aload_n cx dX7_tune_27 rfl rfl ?_
    refine qw_getR (j := 25) (t1 := 13) cx dX7_tune_28 qc_cl7 rfl (Nat.le_of_ble_eq_true rfl) rfl ww_1117 rfl ?_
    refine qj_iconst (v := (0 : Int32)) cx dX7_tune_31 (by decide) ?_
    refine qj_iload_n cx dX7_tune_32 rfl rfl ?_
    refine qj_iadd cx dX7_tune_33 ?_
    obtain ⟨c1, hP⟩ := qc_ck hP
    refine qw_iald cx dX7_tune_34 rfl (Nat.le_of_ble_eq_true rfl) rfl c1 ?_
    obtain ⟨x2, ex2, hP⟩ := qc_letE hP
    refine qw_top ex2 ?_
    refine qj_istore_n (ls1 := [some (.ref 0), some (.int a1), some (.int a2), some (.int x2)]) cx dX7_tune_35 rfl rfl rfl rfl ?_
    refine qj_aload_n cx dX7_tune_36 rfl rfl ?_
    obtain ⟨q3, eq3, hP⟩ := Option.bind_eq_some_iff.mp hP
    refine qj_callV (As := []) (st := []) (t := 0) (h' := (q3, J, shM)) (r := none) cx dX7_tune_37 (c_X7_remembers (I := I) (J := J)  eq3) gc_RX7_265 qm_X7_remembers rfl rfl qc_cl7 rfl (Nat.le_of_ble_eq_true rfl) (by decide) (by decide) rfl (Nat.le_of_ble_eq_true rfl) (Nat.le_of_ble_eq_true rfl) hn0 rfl ?_
    refine qj_aload_n cx dX7_tune_40 rfl rfl ?_
    refine qw_getR (j := 25) (t1 := 13) cx dX7_tune_41 qc_cl7 rfl (Nat.le_of_ble_eq_true rfl) rfl ww_1117 rfl ?_
    refine qj_iconst (v := (0 : Int32)) cx dX7_tune_44 (by decide) ?_
    refine qj_iload_n cx dX7_tune_45 rfl rfl ?_
    refine qj_iadd cx dX7_tune_46 ?_
    refine qj_iload_n cx dX7_tune_47 rfl rfl ?_
    obtain ⟨c5, hP⟩ := qc_ck hP
    obtain ⟨I4, eI4, hP⟩ := qc_letE hP
    refine qw_iast cx dX7_tune_48 rfl (Nat.le_of_ble_eq_true rfl) rfl c5 eI4 ?_
    refine qj_iload_n cx dX7_tune_49 rfl rfl ?_
    exact qw_iret cx hz dX7_tune_50 (Nat.zero_le _) (Nat.zero_le _) (congrArg (fun q => q.1) (Option.some.inj hP)) (congrArg (fun q => q.2) (Option.some.inj hP)) rfl
  show qc_J F 0 0 0 [some (.ref 0), some (.int a), some (.int b), none] [] (I, J, shM)
  unfold P_X7_tune at hP
  refine qj_aload_n cx dX7_tune_0 rfl rfl ?_
  refine qj_iconst (v := (0 : Int32)) cx dX7_tune_1 (by decide) ?_
  obtain ⟨I6, eI6, hP⟩ := qc_letE hP
  refine qw_putI (j := 0) cx dX7_tune_2 qc_cl7 rfl (Nat.le_of_ble_eq_true rfl) rfl ww_1092 rfl rfl rfl eI6 ?_
  refine qj_aload_n cx dX7_tune_5 rfl rfl ?_
  refine qj_iload_n cx dX7_tune_6 rfl rfl ?_
  obtain ⟨q7, eq7, hP⟩ := Option.bind_eq_some_iff.mp hP
  refine qj_callV (As := [.int a]) (st := []) (t := 0) (h' := (I6, J, shM)) (r := some (.int q7)) cx dX7_tune_7 (c_X7_isUser (I := I6) (J := J)  eq7) gc_RX7_259 qm_X7_isUser rfl rfl qc_cl7 rfl (Nat.le_of_ble_eq_true rfl) (by decide) (by decide) rfl (Nat.le_of_ble_eq_true rfl) (Nat.le_of_ble_eq_true rfl) hn0 rfl ?_
  refine qj_if_eq (tgt := 25) cx dX7_tune_10 (by decide) (fun c8 => ?_) (fun c8 => ?_)
  · have hP := qc_ifT hP c8
    refine qj_iconst (v := (-1 : Int32)) cx dX7_tune_25 (by decide) ?_
    exact qw_iret cx hz dX7_tune_26 (Nat.zero_le _) (Nat.zero_le _) (congrArg (fun q => q.1) (Option.some.inj hP)) (congrArg (fun q => q.2) (Option.some.inj hP)) rfl
  · have hP := qc_ifF hP c8
    refine qj_iload_n cx dX7_tune_13 rfl rfl ?_
    refine qj_if_eq (tgt := 27) cx dX7_tune_14 (by decide) (fun c9 => ?_) (fun c9 => ?_)
    · have hP := qc_ifT hP c9
      exact L27 I6 a b hP
    · have hP := qc_ifF hP c9
      refine qj_aload_n cx dX7_tune_17 rfl rfl ?_
      refine qj_iload_n cx dX7_tune_18 rfl rfl ?_
      obtain ⟨q10, eq10, hP⟩ := Option.bind_eq_some_iff.mp hP
      refine qj_callV (As := [.int b]) (st := []) (t := 0) (h' := (I6, J, shM)) (r := some (.int q10)) cx dX7_tune_19 (c_X7_isChannel (I := I6) (J := J)  eq10) gc_RX7_262 qm_X7_isChannel rfl rfl qc_cl7 rfl (Nat.le_of_ble_eq_true rfl) (by decide) (by decide) rfl (Nat.le_of_ble_eq_true rfl) (Nat.le_of_ble_eq_true rfl) hn0 rfl ?_
      refine qj_if_ne (tgt := 27) cx dX7_tune_22 (by decide) (fun c11 => ?_) (fun c11 => ?_)
      · have hP := qc_ifF hP c11
        exact L27 I6 a b hP
      · have hP := qc_ifT hP c11
        refine qj_iconst (v := (-1 : Int32)) cx dX7_tune_25 (by decide) ?_
        exact qw_iret cx hz dX7_tune_26 (Nat.zero_le _) (Nat.zero_le _) (congrArg (fun q => q.1) (Option.some.inj hP)) (congrArg (fun q => q.2) (Option.some.inj hP)) rfl
def P_X7_block (I : Nat → Nat → Int32) (a : Int32) : Option (Int32 × (Nat → Nat → Int32)) :=
  qc_let (qc_u2 I 0 0 (0 : Int32)) fun I1 =>
  (P_X7_isChannel I1 a).bind fun q2 =>
  if q2 = 0 then
  some ((-1 : Int32), I1)
  else
  (P_X7_remembers I1).bind fun q4 =>
  if qc_in ((12 : Int32) + a) 79 then
  if qc_in ((12 : Int32) + a) 79 then
  qc_let (qc_u2 q4 13 ((12 : Int32) + a).toNatClampNeg ((1 : Int32) - (q4 13 ((12 : Int32) + a).toNatClampNeg))) fun I6 =>
  if qc_in ((12 : Int32) + a) 79 then
  some (I6 13 ((12 : Int32) + a).toNatClampNeg, I6)
  else none
  else none
  else none
set_option maxRecDepth 20000 in
theorem c_X7_block {I : Nat → Nat → Int32} {J : Nat → Nat → Int64}  {a : Int32} {q0 : Int32 × (Nat → Nat → Int32)} (hP : P_X7_block I a = some q0) : ∀ l, qc_M l yX7_block cX7_block 2 (some .int) 2 43 0 0 [.ref 0, .int a] (I, J, shM) (some (.int q0.1)) (q0.2, J, shM) := by
  intro l
  refine qc_ent2 (by decide) (Nat.le_of_ble_eq_true rfl) ?_
  intro F hn0 cx hz
  have cx : qc_X F cX7_block RX7 "block" 2 0 0 43 := cx
  show qc_J F 0 0 0 [some (.ref 0), some (.int a)] [] (I, J, shM)
  unfold P_X7_block at hP
  refine qj_aload_n cx dX7_block_0 rfl rfl ?_
  refine qj_iconst (v := (0 : Int32)) cx dX7_block_1 (by decide) ?_
  obtain ⟨I1, eI1, hP⟩ := qc_letE hP
  refine qw_putI (j := 0) cx dX7_block_2 qc_cl7 rfl (Nat.le_of_ble_eq_true rfl) rfl ww_1092 rfl rfl rfl eI1 ?_
  refine qj_aload_n cx dX7_block_5 rfl rfl ?_
  refine qj_iload_n cx dX7_block_6 rfl rfl ?_
  obtain ⟨q2, eq2, hP⟩ := Option.bind_eq_some_iff.mp hP
  refine qj_callV (As := [.int a]) (st := []) (t := 0) (h' := (I1, J, shM)) (r := some (.int q2)) cx dX7_block_7 (c_X7_isChannel (I := I1) (J := J)  eq2) gc_RX7_262 qm_X7_isChannel rfl rfl qc_cl7 rfl (Nat.le_of_ble_eq_true rfl) (by decide) (by decide) rfl (Nat.le_of_ble_eq_true rfl) (Nat.le_of_ble_eq_true rfl) hn0 rfl ?_
  refine qj_if_ne (tgt := 15) cx dX7_block_10 (by decide) (fun c3 => ?_) (fun c3 => ?_)
  · have hP := qc_ifF hP c3
    refine qj_aload_n cx dX7_block_15 rfl rfl ?_
    obtain ⟨q4, eq4, hP⟩ := Option.bind_eq_some_iff.mp hP
    refine qj_callV (As := []) (st := []) (t := 0) (h' := (q4, J, shM)) (r := none) cx dX7_block_16 (c_X7_remembers (I := I1) (J := J)  eq4) gc_RX7_265 qm_X7_remembers rfl rfl qc_cl7 rfl (Nat.le_of_ble_eq_true rfl) (by decide) (by decide) rfl (Nat.le_of_ble_eq_true rfl) (Nat.le_of_ble_eq_true rfl) hn0 rfl ?_
    refine qj_aload_n cx dX7_block_19 rfl rfl ?_
    refine qw_getR (j := 25) (t1 := 13) cx dX7_block_20 qc_cl7 rfl (Nat.le_of_ble_eq_true rfl) rfl ww_1117 rfl ?_
    refine qj_bipush (v := (12 : Int32)) cx dX7_block_23 (by decide) ?_
    refine qj_iload_n cx dX7_block_25 rfl rfl ?_
    refine qj_iadd cx dX7_block_26 ?_
    refine qj_iconst (v := (1 : Int32)) cx dX7_block_27 (by decide) ?_
    refine qj_aload_n cx dX7_block_28 rfl rfl ?_
    refine qw_getR (j := 25) (t1 := 13) cx dX7_block_29 qc_cl7 rfl (Nat.le_of_ble_eq_true rfl) rfl ww_1117 rfl ?_
    refine qj_bipush (v := (12 : Int32)) cx dX7_block_32 (by decide) ?_
    refine qj_iload_n cx dX7_block_34 rfl rfl ?_
    refine qj_iadd cx dX7_block_35 ?_
    obtain ⟨c5, hP⟩ := qc_ck hP
    refine qw_iald cx dX7_block_36 rfl (Nat.le_of_ble_eq_true rfl) rfl c5 ?_
    refine qj_isub cx dX7_block_37 ?_
    obtain ⟨c8, hP⟩ := qc_ck hP
    obtain ⟨I6, eI6, hP⟩ := qc_letE hP
    refine qw_iast cx dX7_block_38 rfl (Nat.le_of_ble_eq_true rfl) rfl c8 eI6 ?_
    refine qj_aload_n cx dX7_block_39 rfl rfl ?_
    refine qw_getR (j := 25) (t1 := 13) cx dX7_block_40 qc_cl7 rfl (Nat.le_of_ble_eq_true rfl) rfl ww_1117 rfl ?_
    refine qj_bipush (v := (12 : Int32)) cx dX7_block_43 (by decide) ?_
    refine qj_iload_n cx dX7_block_45 rfl rfl ?_
    refine qj_iadd cx dX7_block_46 ?_
    obtain ⟨c7, hP⟩ := qc_ck hP
    refine qw_iald cx dX7_block_47 rfl (Nat.le_of_ble_eq_true rfl) rfl c7 ?_
    exact qw_iret cx hz dX7_block_48 (Nat.zero_le _) (Nat.zero_le _) (congrArg (fun q => q.1) (Option.some.inj hP)) (congrArg (fun q => q.2) (Option.some.inj hP)) rfl
  · have hP := qc_ifT hP c3
    refine qj_iconst (v := (-1 : Int32)) cx dX7_block_13 (by decide) ?_
    exact qw_iret cx hz dX7_block_14 (Nat.zero_le _) (Nat.zero_le _) (congrArg (fun q => q.1) (Option.some.inj hP)) (congrArg (fun q => q.2) (Option.some.inj hP)) rfl
def P_X7_power (I : Nat → Nat → Int32) (a : Int32) (b : Int32) : Option (Int32 × (Nat → Nat → Int32)) :=
  qc_let (qc_u2 I 0 0 (0 : Int32)) fun I1 =>
  (P_X7_isUser I1 a).bind fun q2 =>
  if q2 = 0 then
  some ((-1 : Int32), I1)
  else
  if b < 0 then
  some ((-1 : Int32), I1)
  else
  if b ≤ (30 : Int32) then
  (if qc_in ((6 : Int32) + a) 79 then
  qc_let (I1 13 ((6 : Int32) + a).toNatClampNeg) fun x7 =>
  (P_X7_remembers I1).bind fun q8 =>
  if qc_in ((6 : Int32) + a) 79 then
  qc_let (qc_u2 q8 13 ((6 : Int32) + a).toNatClampNeg b) fun I9 =>
  some (x7, I9)
  else none
  else none)
  else
  some ((-1 : Int32), I1)
set_option maxRecDepth 20000 in
theorem c_X7_power {I : Nat → Nat → Int32} {J : Nat → Nat → Int64}  {a : Int32} {b : Int32} {q0 : Int32 × (Nat → Nat → Int32)} (hP : P_X7_power I a b = some q0) : ∀ l, qc_M l yX7_power cX7_power 4 (some .int) 2 43 0 0 [.ref 0, .int a, .int b] (I, J, shM) (some (.int q0.1)) (q0.2, J, shM) := by
  intro l
  refine qc_ent2 (by decide) (Nat.le_of_ble_eq_true rfl) ?_
  intro F hn0 cx hz
  have cx : qc_X F cX7_power RX7 "power" 2 0 0 43 := cx
  show qc_J F 0 0 0 [some (.ref 0), some (.int a), some (.int b), none] [] (I, J, shM)
  unfold P_X7_power at hP
  refine qj_aload_n cx dX7_power_0 rfl rfl ?_
  refine qj_iconst (v := (0 : Int32)) cx dX7_power_1 (by decide) ?_
  obtain ⟨I1, eI1, hP⟩ := qc_letE hP
  refine qw_putI (j := 0) cx dX7_power_2 qc_cl7 rfl (Nat.le_of_ble_eq_true rfl) rfl ww_1092 rfl rfl rfl eI1 ?_
  refine qj_aload_n cx dX7_power_5 rfl rfl ?_
  refine qj_iload_n cx dX7_power_6 rfl rfl ?_
  obtain ⟨q2, eq2, hP⟩ := Option.bind_eq_some_iff.mp hP
  refine qj_callV (As := [.int a]) (st := []) (t := 0) (h' := (I1, J, shM)) (r := some (.int q2)) cx dX7_power_7 (c_X7_isUser (I := I1) (J := J)  eq2) gc_RX7_259 qm_X7_isUser rfl rfl qc_cl7 rfl (Nat.le_of_ble_eq_true rfl) (by decide) (by decide) rfl (Nat.le_of_ble_eq_true rfl) (Nat.le_of_ble_eq_true rfl) hn0 rfl ?_
  refine qj_if_eq (tgt := 23) cx dX7_power_10 (by decide) (fun c3 => ?_) (fun c3 => ?_)
  · have hP := qc_ifT hP c3
    refine qj_iconst (v := (-1 : Int32)) cx dX7_power_23 (by decide) ?_
    exact qw_iret cx hz dX7_power_24 (Nat.zero_le _) (Nat.zero_le _) (congrArg (fun q => q.1) (Option.some.inj hP)) (congrArg (fun q => q.2) (Option.some.inj hP)) rfl
  · have hP := qc_ifF hP c3
    refine qj_iload_n cx dX7_power_13 rfl rfl ?_
    refine qj_if_lt (tgt := 23) cx dX7_power_14 (by decide) (fun c4 => ?_) (fun c4 => ?_)
    · have hP := qc_ifT hP c4
      refine qj_iconst (v := (-1 : Int32)) cx dX7_power_23 (by decide) ?_
      exact qw_iret cx hz dX7_power_24 (Nat.zero_le _) (Nat.zero_le _) (congrArg (fun q => q.1) (Option.some.inj hP)) (congrArg (fun q => q.2) (Option.some.inj hP)) rfl
    · have hP := qc_ifF hP c4
      refine qj_iload_n cx dX7_power_17 rfl rfl ?_
      refine qj_bipush (v := (30 : Int32)) cx dX7_power_18 (by decide) ?_
      refine qj_icmp_le (tgt := 25) cx dX7_power_20 (by decide) (fun c5 => ?_) (fun c5 => ?_)
      · have hP := qc_ifT hP c5
        refine qj_aload_n cx dX7_power_25 rfl rfl ?_
        refine qw_getR (j := 25) (t1 := 13) cx dX7_power_26 qc_cl7 rfl (Nat.le_of_ble_eq_true rfl) rfl ww_1117 rfl ?_
        refine qj_bipush (v := (6 : Int32)) cx dX7_power_29 (by decide) ?_
        refine qj_iload_n cx dX7_power_31 rfl rfl ?_
        refine qj_iadd cx dX7_power_32 ?_
        obtain ⟨c6, hP⟩ := qc_ck hP
        refine qw_iald cx dX7_power_33 rfl (Nat.le_of_ble_eq_true rfl) rfl c6 ?_
        obtain ⟨x7, ex7, hP⟩ := qc_letE hP
        refine qw_top ex7 ?_
        refine qj_istore_n (ls1 := [some (.ref 0), some (.int a), some (.int b), some (.int x7)]) cx dX7_power_34 rfl rfl rfl rfl ?_
        refine qj_aload_n cx dX7_power_35 rfl rfl ?_
        obtain ⟨q8, eq8, hP⟩ := Option.bind_eq_some_iff.mp hP
        refine qj_callV (As := []) (st := []) (t := 0) (h' := (q8, J, shM)) (r := none) cx dX7_power_36 (c_X7_remembers (I := I1) (J := J)  eq8) gc_RX7_265 qm_X7_remembers rfl rfl qc_cl7 rfl (Nat.le_of_ble_eq_true rfl) (by decide) (by decide) rfl (Nat.le_of_ble_eq_true rfl) (Nat.le_of_ble_eq_true rfl) hn0 rfl ?_
        refine qj_aload_n cx dX7_power_39 rfl rfl ?_
        refine qw_getR (j := 25) (t1 := 13) cx dX7_power_40 qc_cl7 rfl (Nat.le_of_ble_eq_true rfl) rfl ww_1117 rfl ?_
        refine qj_bipush (v := (6 : Int32)) cx dX7_power_43 (by decide) ?_
        refine qj_iload_n cx dX7_power_45 rfl rfl ?_
        refine qj_iadd cx dX7_power_46 ?_
        refine qj_iload_n cx dX7_power_47 rfl rfl ?_
        obtain ⟨c10, hP⟩ := qc_ck hP
        obtain ⟨I9, eI9, hP⟩ := qc_letE hP
        refine qw_iast cx dX7_power_48 rfl (Nat.le_of_ble_eq_true rfl) rfl c10 eI9 ?_
        refine qj_iload_n cx dX7_power_49 rfl rfl ?_
        exact qw_iret cx hz dX7_power_50 (Nat.zero_le _) (Nat.zero_le _) (congrArg (fun q => q.1) (Option.some.inj hP)) (congrArg (fun q => q.2) (Option.some.inj hP)) rfl
      · have hP := qc_ifF hP c5
        refine qj_iconst (v := (-1 : Int32)) cx dX7_power_23 (by decide) ?_
        exact qw_iret cx hz dX7_power_24 (Nat.zero_le _) (Nat.zero_le _) (congrArg (fun q => q.1) (Option.some.inj hP)) (congrArg (fun q => q.2) (Option.some.inj hP)) rfl
def P_X7_slots (I : Nat → Nat → Int32) (a : Int32) (b : Int32) : Option (Int32 × (Nat → Nat → Int32)) :=
  qc_let (qc_u2 I 0 0 (0 : Int32)) fun I1 =>
  (P_X7_isUser I1 a).bind fun q2 =>
  if q2 = 0 then
  some ((-1 : Int32), I1)
  else
  if b < (1 : Int32) then
  some ((-1 : Int32), I1)
  else
  if b ≤ (255 : Int32) then
  (if qc_in ((73 : Int32) + a) 79 then
  qc_let (I1 13 ((73 : Int32) + a).toNatClampNeg) fun x7 =>
  (P_X7_remembers I1).bind fun q8 =>
  if qc_in ((73 : Int32) + a) 79 then
  qc_let (qc_u2 q8 13 ((73 : Int32) + a).toNatClampNeg b) fun I9 =>
  some (x7, I9)
  else none
  else none)
  else
  some ((-1 : Int32), I1)
set_option maxRecDepth 20000 in
theorem c_X7_slots {I : Nat → Nat → Int32} {J : Nat → Nat → Int64}  {a : Int32} {b : Int32} {q0 : Int32 × (Nat → Nat → Int32)} (hP : P_X7_slots I a b = some q0) : ∀ l, qc_M l yX7_slots cX7_slots 4 (some .int) 2 43 0 0 [.ref 0, .int a, .int b] (I, J, shM) (some (.int q0.1)) (q0.2, J, shM) := by
  intro l
  refine qc_ent2 (by decide) (Nat.le_of_ble_eq_true rfl) ?_
  intro F hn0 cx hz
  have cx : qc_X F cX7_slots RX7 "slots" 2 0 0 43 := cx
  show qc_J F 0 0 0 [some (.ref 0), some (.int a), some (.int b), none] [] (I, J, shM)
  unfold P_X7_slots at hP
  refine qj_aload_n cx dX7_slots_0 rfl rfl ?_
  refine qj_iconst (v := (0 : Int32)) cx dX7_slots_1 (by decide) ?_
  obtain ⟨I1, eI1, hP⟩ := qc_letE hP
  refine qw_putI (j := 0) cx dX7_slots_2 qc_cl7 rfl (Nat.le_of_ble_eq_true rfl) rfl ww_1092 rfl rfl rfl eI1 ?_
  refine qj_aload_n cx dX7_slots_5 rfl rfl ?_
  refine qj_iload_n cx dX7_slots_6 rfl rfl ?_
  obtain ⟨q2, eq2, hP⟩ := Option.bind_eq_some_iff.mp hP
  refine qj_callV (As := [.int a]) (st := []) (t := 0) (h' := (I1, J, shM)) (r := some (.int q2)) cx dX7_slots_7 (c_X7_isUser (I := I1) (J := J)  eq2) gc_RX7_259 qm_X7_isUser rfl rfl qc_cl7 rfl (Nat.le_of_ble_eq_true rfl) (by decide) (by decide) rfl (Nat.le_of_ble_eq_true rfl) (Nat.le_of_ble_eq_true rfl) hn0 rfl ?_
  refine qj_if_eq (tgt := 25) cx dX7_slots_10 (by decide) (fun c3 => ?_) (fun c3 => ?_)
  · have hP := qc_ifT hP c3
    refine qj_iconst (v := (-1 : Int32)) cx dX7_slots_25 (by decide) ?_
    exact qw_iret cx hz dX7_slots_26 (Nat.zero_le _) (Nat.zero_le _) (congrArg (fun q => q.1) (Option.some.inj hP)) (congrArg (fun q => q.2) (Option.some.inj hP)) rfl
  · have hP := qc_ifF hP c3
    refine qj_iload_n cx dX7_slots_13 rfl rfl ?_
    refine qj_iconst (v := (1 : Int32)) cx dX7_slots_14 (by decide) ?_
    refine qj_icmp_lt (tgt := 25) cx dX7_slots_15 (by decide) (fun c4 => ?_) (fun c4 => ?_)
    · have hP := qc_ifT hP c4
      refine qj_iconst (v := (-1 : Int32)) cx dX7_slots_25 (by decide) ?_
      exact qw_iret cx hz dX7_slots_26 (Nat.zero_le _) (Nat.zero_le _) (congrArg (fun q => q.1) (Option.some.inj hP)) (congrArg (fun q => q.2) (Option.some.inj hP)) rfl
    · have hP := qc_ifF hP c4
      refine qj_iload_n cx dX7_slots_18 rfl rfl ?_
      refine qj_sipush (v := (255 : Int32)) cx dX7_slots_19 (by decide) ?_
      refine qj_icmp_le (tgt := 27) cx dX7_slots_22 (by decide) (fun c5 => ?_) (fun c5 => ?_)
      · have hP := qc_ifT hP c5
        refine qj_aload_n cx dX7_slots_27 rfl rfl ?_
        refine qw_getR (j := 25) (t1 := 13) cx dX7_slots_28 qc_cl7 rfl (Nat.le_of_ble_eq_true rfl) rfl ww_1117 rfl ?_
        refine qj_bipush (v := (73 : Int32)) cx dX7_slots_31 (by decide) ?_
        refine qj_iload_n cx dX7_slots_33 rfl rfl ?_
        refine qj_iadd cx dX7_slots_34 ?_
        obtain ⟨c6, hP⟩ := qc_ck hP
        refine qw_iald cx dX7_slots_35 rfl (Nat.le_of_ble_eq_true rfl) rfl c6 ?_
        obtain ⟨x7, ex7, hP⟩ := qc_letE hP
        refine qw_top ex7 ?_
        refine qj_istore_n (ls1 := [some (.ref 0), some (.int a), some (.int b), some (.int x7)]) cx dX7_slots_36 rfl rfl rfl rfl ?_
        refine qj_aload_n cx dX7_slots_37 rfl rfl ?_
        obtain ⟨q8, eq8, hP⟩ := Option.bind_eq_some_iff.mp hP
        refine qj_callV (As := []) (st := []) (t := 0) (h' := (q8, J, shM)) (r := none) cx dX7_slots_38 (c_X7_remembers (I := I1) (J := J)  eq8) gc_RX7_265 qm_X7_remembers rfl rfl qc_cl7 rfl (Nat.le_of_ble_eq_true rfl) (by decide) (by decide) rfl (Nat.le_of_ble_eq_true rfl) (Nat.le_of_ble_eq_true rfl) hn0 rfl ?_
        refine qj_aload_n cx dX7_slots_41 rfl rfl ?_
        refine qw_getR (j := 25) (t1 := 13) cx dX7_slots_42 qc_cl7 rfl (Nat.le_of_ble_eq_true rfl) rfl ww_1117 rfl ?_
        refine qj_bipush (v := (73 : Int32)) cx dX7_slots_45 (by decide) ?_
        refine qj_iload_n cx dX7_slots_47 rfl rfl ?_
        refine qj_iadd cx dX7_slots_48 ?_
        refine qj_iload_n cx dX7_slots_49 rfl rfl ?_
        obtain ⟨c10, hP⟩ := qc_ck hP
        obtain ⟨I9, eI9, hP⟩ := qc_letE hP
        refine qw_iast cx dX7_slots_50 rfl (Nat.le_of_ble_eq_true rfl) rfl c10 eI9 ?_
        refine qj_iload_n cx dX7_slots_51 rfl rfl ?_
        exact qw_iret cx hz dX7_slots_52 (Nat.zero_le _) (Nat.zero_le _) (congrArg (fun q => q.1) (Option.some.inj hP)) (congrArg (fun q => q.2) (Option.some.inj hP)) rfl
      · have hP := qc_ifF hP c5
        refine qj_iconst (v := (-1 : Int32)) cx dX7_slots_25 (by decide) ?_
        exact qw_iret cx hz dX7_slots_26 (Nat.zero_le _) (Nat.zero_le _) (congrArg (fun q => q.1) (Option.some.inj hP)) (congrArg (fun q => q.2) (Option.some.inj hP)) rfl
def P_X7_bitOf (a : Int32) : Option (Int32) :=
  (if (2 : Int32) ≤ a then
  if (4 : Int32) ≤ a then
  some (4 : Int32)
  else
  some (2 : Int32)
  else
  some (1 : Int32)).bind fun v2 =>
  some v2
set_option maxRecDepth 20000 in
theorem c_X7_bitOf {I : Nat → Nat → Int32} {J : Nat → Nat → Int64} {S : qc_Sh} {a : Int32} {q0 : Int32} (hP : P_X7_bitOf a = some q0) : ∀ l, qc_M l yX7_bitOf cX7_bitOf 1 (some .int) 0 0 0 0 [.int a] (I, J, S) (some (.int q0)) (I, J, S) := by
  intro l
  refine qc_ent2 (by decide) (Nat.le_of_ble_eq_true rfl) ?_
  intro F hn0 cx hz
  have cx : qc_X F cX7_bitOf RX7 "bitOf" 0 0 0 0 := cx
  show qc_J F 0 0 0 [some (.int a)] [] (I, J, S)
  unfold P_X7_bitOf at hP
  refine qj_iload_n cx dX7_bitOf_0 rfl rfl ?_
  refine qj_iconst (v := (2 : Int32)) cx dX7_bitOf_1 (by decide) ?_
  obtain ⟨v2, hv2, hP⟩ := Option.bind_eq_some_iff.mp hP
  have Kv2 : qc_J F 0 0 19 [some (.int a)] [.int v2] (I, J, S) := by
    exact qw_iret cx hz dX7_bitOf_19 (Nat.zero_le _) (Nat.zero_le _) (Option.some.inj hP) rfl rfl
  refine qj_icmp_ge (tgt := 9) cx dX7_bitOf_2 (by decide) (fun c1 => ?_) (fun c1 => ?_)
  · have hv2 := qc_ifT hv2 c1
    refine qj_iload_n cx dX7_bitOf_9 rfl rfl ?_
    refine qj_iconst (v := (4 : Int32)) cx dX7_bitOf_10 (by decide) ?_
    refine qj_icmp_ge (tgt := 18) cx dX7_bitOf_11 (by decide) (fun c3 => ?_) (fun c3 => ?_)
    · have hv2 := qc_ifT hv2 c3
      refine qj_iconst (v := (4 : Int32)) cx dX7_bitOf_18 (by decide) ?_
      exact qw_top (Option.some.inj hv2).symm Kv2
    · have hv2 := qc_ifF hv2 c3
      refine qj_iconst (v := (2 : Int32)) cx dX7_bitOf_14 (by decide) ?_
      refine qj_goto (tgt := 19) cx dX7_bitOf_15 (by decide) ?_
      exact qw_top (Option.some.inj hv2).symm Kv2
  · have hv2 := qc_ifF hv2 c1
    refine qj_iconst (v := (1 : Int32)) cx dX7_bitOf_5 (by decide) ?_
    refine qj_goto (tgt := 19) cx dX7_bitOf_6 (by decide) ?_
    exact qw_top (Option.some.inj hv2).symm Kv2
def P_X7_lossOf (I : Nat → Nat → Int32) (a : Int32) : Option (Int32) :=
  if qc_in ((4 : Int32) + (a / (2 : Int32))) 20 then
  some (I 2 ((4 : Int32) + (a / (2 : Int32))).toNatClampNeg)
  else none
set_option maxRecDepth 20000 in
theorem c_X7_lossOf {I : Nat → Nat → Int32} {J : Nat → Nat → Int64}  {a : Int32} {q0 : Int32} (hP : P_X7_lossOf I a = some q0) : ∀ l, qc_M l yX7_lossOf cX7_lossOf 2 (some .int) 0 0 0 0 [.ref 0, .int a] (I, J, shM) (some (.int q0)) (I, J, shM) := by
  intro l
  refine qc_ent2 (by decide) (Nat.le_of_ble_eq_true rfl) ?_
  intro F hn0 cx hz
  have cx : qc_X F cX7_lossOf RX7 "lossOf" 0 0 0 0 := cx
  show qc_J F 0 0 0 [some (.ref 0), some (.int a)] [] (I, J, shM)
  unfold P_X7_lossOf at hP
  refine qj_aload_n cx dX7_lossOf_0 rfl rfl ?_
  refine qw_getR (j := 3) (t1 := 2) cx dX7_lossOf_1 qc_cl7 rfl (Nat.le_of_ble_eq_true rfl) rfl ww_1095 rfl ?_
  refine qj_iconst (v := (4 : Int32)) cx dX7_lossOf_4 (by decide) ?_
  refine qj_iload_n cx dX7_lossOf_5 rfl rfl ?_
  refine qj_iconst (v := (2 : Int32)) cx dX7_lossOf_6 (by decide) ?_
  refine qj_idiv cx dX7_lossOf_7 (by decide) ?_
  refine qj_iadd cx dX7_lossOf_8 ?_
  obtain ⟨c1, hP⟩ := qc_ck hP
  refine qw_iald cx dX7_lossOf_9 rfl (Nat.le_of_ble_eq_true rfl) rfl c1 ?_
  exact qw_iret cx hz dX7_lossOf_10 (Nat.zero_le _) (Nat.zero_le _) (Option.some.inj hP) rfl rfl
def P_X7_isThere (I : Nat → Nat → Int32) (a : Int32) (b : Int32) : Option (Int32) :=
  if qc_in a 12 then
  (if I 5 a.toNatClampNeg = b then
  if qc_in ((0 : Int32) + a) 79 then
  if I 13 ((0 : Int32) + a).toNatClampNeg ≤ 0 then
  some (0 : Int32)
  else
  some (1 : Int32)
  else none
  else
  some (0 : Int32)).bind fun v3 =>
  if qc_bo v3 then some v3 else none
  else none
set_option maxRecDepth 20000 in
theorem c_X7_isThere {I : Nat → Nat → Int32} {J : Nat → Nat → Int64}  {a : Int32} {b : Int32} {q0 : Int32} (hP : P_X7_isThere I a b = some q0) : ∀ l, qc_M l yX7_isThere cX7_isThere 3 (some .boolean) 0 0 0 0 [.ref 0, .int a, .int b] (I, J, shM) (some (.int q0)) (I, J, shM) := by
  intro l
  refine qc_ent2 (by decide) (Nat.le_of_ble_eq_true rfl) ?_
  intro F hn0 cx hz
  have cx : qc_X F cX7_isThere RX7 "isThere" 0 0 0 0 := cx
  show qc_J F 0 0 0 [some (.ref 0), some (.int a), some (.int b)] [] (I, J, shM)
  unfold P_X7_isThere at hP
  refine qj_aload_n cx dX7_isThere_0 rfl rfl ?_
  refine qw_getR (j := 6) (t1 := 5) cx dX7_isThere_1 qc_cl7 rfl (Nat.le_of_ble_eq_true rfl) rfl ww_1098 rfl ?_
  refine qj_iload_n cx dX7_isThere_4 rfl rfl ?_
  obtain ⟨c1, hP⟩ := qc_ck hP
  refine qw_iald cx dX7_isThere_5 rfl (Nat.le_of_ble_eq_true rfl) rfl c1 ?_
  refine qj_iload_n cx dX7_isThere_6 rfl rfl ?_
  obtain ⟨v3, hv3, hP⟩ := Option.bind_eq_some_iff.mp hP
  have Kv3 : qc_J F 0 0 26 [some (.ref 0), some (.int a), some (.int b)] [.int v3] (I, J, shM) := by
    obtain ⟨c6, hP⟩ := qc_ck hP
    exact qw_zret cx hz dX7_isThere_26 (qc_bo_n c6) (Nat.zero_le _) (Nat.zero_le _) (Option.some.inj hP) rfl rfl
  refine qj_icmp_ne (tgt := 25) cx dX7_isThere_7 (by decide) (fun c2 => ?_) (fun c2 => ?_)
  · have hv3 := qc_ifF hv3 c2
    refine qj_iconst (v := (0 : Int32)) cx dX7_isThere_25 (by decide) ?_
    exact qw_top (Option.some.inj hv3).symm Kv3
  · have hv3 := qc_ifT hv3 c2
    refine qj_aload_n cx dX7_isThere_10 rfl rfl ?_
    refine qw_getR (j := 25) (t1 := 13) cx dX7_isThere_11 qc_cl7 rfl (Nat.le_of_ble_eq_true rfl) rfl ww_1117 rfl ?_
    refine qj_iconst (v := (0 : Int32)) cx dX7_isThere_14 (by decide) ?_
    refine qj_iload_n cx dX7_isThere_15 rfl rfl ?_
    refine qj_iadd cx dX7_isThere_16 ?_
    obtain ⟨c4, hv3⟩ := qc_ck hv3
    refine qw_iald cx dX7_isThere_17 rfl (Nat.le_of_ble_eq_true rfl) rfl c4 ?_
    refine qj_if_le (tgt := 25) cx dX7_isThere_18 (by decide) (fun c5 => ?_) (fun c5 => ?_)
    · have hv3 := qc_ifT hv3 c5
      refine qj_iconst (v := (0 : Int32)) cx dX7_isThere_25 (by decide) ?_
      exact qw_top (Option.some.inj hv3).symm Kv3
    · have hv3 := qc_ifF hv3 c5
      refine qj_iconst (v := (1 : Int32)) cx dX7_isThere_21 (by decide) ?_
      refine qj_goto (tgt := 26) cx dX7_isThere_22 (by decide) ?_
      exact qw_top (Option.some.inj hv3).symm Kv3
def P_X7_timesA (a : Int32) : Option (Int32) :=
  (if a = (2 : Int32) then
  some (2 : Int32)
  else
  if a = (5 : Int32) then
  some (2 : Int32)
  else
  if a = (4 : Int32) then
  some (3 : Int32)
  else
  some (1 : Int32)).bind fun v2 =>
  some v2
set_option maxRecDepth 20000 in
theorem c_X7_timesA {I : Nat → Nat → Int32} {J : Nat → Nat → Int64} {S : qc_Sh} {a : Int32} {q0 : Int32} (hP : P_X7_timesA a = some q0) : ∀ l, qc_M l yX7_timesA cX7_timesA 1 (some .int) 0 0 0 0 [.int a] (I, J, S) (some (.int q0)) (I, J, S) := by
  intro l
  refine qc_ent2 (by decide) (Nat.le_of_ble_eq_true rfl) ?_
  intro F hn0 cx hz
  have cx : qc_X F cX7_timesA RX7 "timesA" 0 0 0 0 := cx
  show qc_J F 0 0 0 [some (.int a)] [] (I, J, S)
  unfold P_X7_timesA at hP
  refine qj_iload_n cx dX7_timesA_0 rfl rfl ?_
  refine qj_iconst (v := (2 : Int32)) cx dX7_timesA_1 (by decide) ?_
  obtain ⟨v2, hv2, hP⟩ := Option.bind_eq_some_iff.mp hP
  have Kv2 : qc_J F 0 0 24 [some (.int a)] [.int v2] (I, J, S) := by
    exact qw_iret cx hz dX7_timesA_24 (Nat.zero_le _) (Nat.zero_le _) (Option.some.inj hP) rfl rfl
  refine qj_icmp_eq (tgt := 10) cx dX7_timesA_2 (by decide) (fun c1 => ?_) (fun c1 => ?_)
  · have hv2 := qc_ifT hv2 c1
    refine qj_iconst (v := (2 : Int32)) cx dX7_timesA_10 (by decide) ?_
    refine qj_goto (tgt := 24) cx dX7_timesA_11 (by decide) ?_
    exact qw_top (Option.some.inj hv2).symm Kv2
  · have hv2 := qc_ifF hv2 c1
    refine qj_iload_n cx dX7_timesA_5 rfl rfl ?_
    refine qj_iconst (v := (5 : Int32)) cx dX7_timesA_6 (by decide) ?_
    refine qj_icmp_ne (tgt := 14) cx dX7_timesA_7 (by decide) (fun c3 => ?_) (fun c3 => ?_)
    · have hv2 := qc_ifF hv2 c3
      refine qj_iload_n cx dX7_timesA_14 rfl rfl ?_
      refine qj_iconst (v := (4 : Int32)) cx dX7_timesA_15 (by decide) ?_
      refine qj_icmp_ne (tgt := 23) cx dX7_timesA_16 (by decide) (fun c4 => ?_) (fun c4 => ?_)
      · have hv2 := qc_ifF hv2 c4
        refine qj_iconst (v := (1 : Int32)) cx dX7_timesA_23 (by decide) ?_
        exact qw_top (Option.some.inj hv2).symm Kv2
      · have hv2 := qc_ifT hv2 c4
        refine qj_iconst (v := (3 : Int32)) cx dX7_timesA_19 (by decide) ?_
        refine qj_goto (tgt := 24) cx dX7_timesA_20 (by decide) ?_
        exact qw_top (Option.some.inj hv2).symm Kv2
    · have hv2 := qc_ifT hv2 c3
      refine qj_iconst (v := (2 : Int32)) cx dX7_timesA_10 (by decide) ?_
      refine qj_goto (tgt := 24) cx dX7_timesA_11 (by decide) ?_
      exact qw_top (Option.some.inj hv2).symm Kv2
