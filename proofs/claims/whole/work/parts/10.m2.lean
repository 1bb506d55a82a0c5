def P_X7_timesB (a : Int32) : Option (Int32) :=
  (if a = 0 then
  some (1 : Int32)
  else
  if a = (3 : Int32) then
  some (1 : Int32)
  else
  if a = (5 : Int32) then
  some (1 : Int32)
  else
  if a = (4 : Int32) then
  some (-2 : Int32)
  else
  some (-1 : Int32)).bind fun v2 =>
  some v2
set_option maxRecDepth 20000 in
theorem c_X7_timesB {I : Nat → Nat → Int32} {J : Nat → Nat → Int64} {S : qc_Sh} {a : Int32} {q0 : Int32} (hP : P_X7_timesB a = some q0) : ∀ l, qc_M l yX7_timesB cX7_timesB 1 (some .int) 0 0 0 0 [.int a] (I, J, S) (some (.int q0)) (I, J, S) := by
  intro l
  refine qc_ent2 (by decide) (Nat.le_of_ble_eq_true rfl) ?_
  intro F hn0 cx hz
  have cx : qc_X F cX7_timesB RX7 "timesB" 0 0 0 0 := cx
  show qc_J F 0 0 0 [some (.int a)] [] (I, J, S)
  unfold P_X7_timesB at hP
  refine qj_iload_n cx dX7_timesB_0 rfl rfl ?_
  obtain ⟨v2, hv2, hP⟩ := Option.bind_eq_some_iff.mp hP
  have Kv2 : qc_J F 0 0 29 [some (.int a)] [.int v2] (I, J, S) := by
    exact qw_iret cx hz dX7_timesB_29 (Nat.zero_le _) (Nat.zero_le _) (Option.some.inj hP) rfl rfl
  refine qj_if_eq (tgt := 14) cx dX7_timesB_1 (by decide) (fun c1 => ?_) (fun c1 => ?_)
  · have hv2 := qc_ifT hv2 c1
    refine qj_iconst (v := (1 : Int32)) cx dX7_timesB_14 (by decide) ?_
    refine qj_goto (tgt := 29) cx dX7_timesB_15 (by decide) ?_
    exact qw_top (Option.some.inj hv2).symm Kv2
  · have hv2 := qc_ifF hv2 c1
    refine qj_iload_n cx dX7_timesB_4 rfl rfl ?_
    refine qj_iconst (v := (3 : Int32)) cx dX7_timesB_5 (by decide) ?_
    refine qj_icmp_eq (tgt := 14) cx dX7_timesB_6 (by decide) (fun c3 => ?_) (fun c3 => ?_)
    · have hv2 := qc_ifT hv2 c3
      refine qj_iconst (v := (1 : Int32)) cx dX7_timesB_14 (by decide) ?_
      refine qj_goto (tgt := 29) cx dX7_timesB_15 (by decide) ?_
      exact qw_top (Option.some.inj hv2).symm Kv2
    · have hv2 := qc_ifF hv2 c3
      refine qj_iload_n cx dX7_timesB_9 rfl rfl ?_
      refine qj_iconst (v := (5 : Int32)) cx dX7_timesB_10 (by decide) ?_
      refine qj_icmp_ne (tgt := 18) cx dX7_timesB_11 (by decide) (fun c4 => ?_) (fun c4 => ?_)
      · have hv2 := qc_ifF hv2 c4
        refine qj_iload_n cx dX7_timesB_18 rfl rfl ?_
        refine qj_iconst (v := (4 : Int32)) cx dX7_timesB_19 (by decide) ?_
        refine qj_icmp_ne (tgt := 28) cx dX7_timesB_20 (by decide) (fun c5 => ?_) (fun c5 => ?_)
        · have hv2 := qc_ifF hv2 c5
          refine qj_iconst (v := (-1 : Int32)) cx dX7_timesB_28 (by decide) ?_
          exact qw_top (Option.some.inj hv2).symm Kv2
        · have hv2 := qc_ifT hv2 c5
          refine qj_bipush (v := (-2 : Int32)) cx dX7_timesB_23 (by decide) ?_
          refine qj_goto (tgt := 29) cx dX7_timesB_25 (by decide) ?_
          exact qw_top (Option.some.inj hv2).symm Kv2
      · have hv2 := qc_ifT hv2 c4
        refine qj_iconst (v := (1 : Int32)) cx dX7_timesB_14 (by decide) ?_
        refine qj_goto (tgt := 29) cx dX7_timesB_15 (by decide) ?_
        exact qw_top (Option.some.inj hv2).symm Kv2
def P_X7_timesC (a : Int32) : Option (Int32) :=
  (if a = (3 : Int32) then
  some (-1 : Int32)
  else
  if a = (5 : Int32) then
  some (-2 : Int32)
  else
  some (0 : Int32)).bind fun v2 =>
  some v2
set_option maxRecDepth 20000 in
theorem c_X7_timesC {I : Nat → Nat → Int32} {J : Nat → Nat → Int64} {S : qc_Sh} {a : Int32} {q0 : Int32} (hP : P_X7_timesC a = some q0) : ∀ l, qc_M l yX7_timesC cX7_timesC 1 (some .int) 0 0 0 0 [.int a] (I, J, S) (some (.int q0)) (I, J, S) := by
  intro l
  refine qc_ent2 (by decide) (Nat.le_of_ble_eq_true rfl) ?_
  intro F hn0 cx hz
  have cx : qc_X F cX7_timesC RX7 "timesC" 0 0 0 0 := cx
  show qc_J F 0 0 0 [some (.int a)] [] (I, J, S)
  unfold P_X7_timesC at hP
  refine qj_iload_n cx dX7_timesC_0 rfl rfl ?_
  refine qj_iconst (v := (3 : Int32)) cx dX7_timesC_1 (by decide) ?_
  obtain ⟨v2, hv2, hP⟩ := Option.bind_eq_some_iff.mp hP
  have Kv2 : qc_J F 0 0 20 [some (.int a)] [.int v2] (I, J, S) := by
    exact qw_iret cx hz dX7_timesC_20 (Nat.zero_le _) (Nat.zero_le _) (Option.some.inj hP) rfl rfl
  refine qj_icmp_ne (tgt := 9) cx dX7_timesC_2 (by decide) (fun c1 => ?_) (fun c1 => ?_)
  · have hv2 := qc_ifF hv2 c1
    refine qj_iload_n cx dX7_timesC_9 rfl rfl ?_
    refine qj_iconst (v := (5 : Int32)) cx dX7_timesC_10 (by decide) ?_
    refine qj_icmp_ne (tgt := 19) cx dX7_timesC_11 (by decide) (fun c3 => ?_) (fun c3 => ?_)
    · have hv2 := qc_ifF hv2 c3
      refine qj_iconst (v := (0 : Int32)) cx dX7_timesC_19 (by decide) ?_
      exact qw_top (Option.some.inj hv2).symm Kv2
    · have hv2 := qc_ifT hv2 c3
      refine qj_bipush (v := (-2 : Int32)) cx dX7_timesC_14 (by decide) ?_
      refine qj_goto (tgt := 20) cx dX7_timesC_16 (by decide) ?_
      exact qw_top (Option.some.inj hv2).symm Kv2
  · have hv2 := qc_ifT hv2 c1
    refine qj_iconst (v := (-1 : Int32)) cx dX7_timesC_5 (by decide) ?_
    refine qj_goto (tgt := 20) cx dX7_timesC_6 (by decide) ?_
    exact qw_top (Option.some.inj hv2).symm Kv2
def P_X7_without (a : Int32) : Option (Int32) :=
  (if 0 ≤ a then
  some a
  else
  some (-a)).bind fun v2 =>
  some v2
set_option maxRecDepth 20000 in
theorem c_X7_without {I : Nat → Nat → Int32} {J : Nat → Nat → Int64} {S : qc_Sh} {a : Int32} {q0 : Int32} (hP : P_X7_without a = some q0) : ∀ l, qc_M l yX7_without cX7_without 1 (some .int) 0 0 0 0 [.int a] (I, J, S) (some (.int q0)) (I, J, S) := by
  intro l
  refine qc_ent2 (by decide) (Nat.le_of_ble_eq_true rfl) ?_
  intro F hn0 cx hz
  have cx : qc_X F cX7_without RX7 "without" 0 0 0 0 := cx
  show qc_J F 0 0 0 [some (.int a)] [] (I, J, S)
  unfold P_X7_without at hP
  refine qj_iload_n cx dX7_without_0 rfl rfl ?_
  obtain ⟨v2, hv2, hP⟩ := Option.bind_eq_some_iff.mp hP
  have Kv2 : qc_J F 0 0 10 [some (.int a)] [.int v2] (I, J, S) := by
    exact qw_iret cx hz dX7_without_10 (Nat.zero_le _) (Nat.zero_le _) (Option.some.inj hP) rfl rfl
  refine qj_if_ge (tgt := 9) cx dX7_without_1 (by decide) (fun c1 => ?_) (fun c1 => ?_)
  · have hv2 := qc_ifT hv2 c1
    refine qj_iload_n cx dX7_without_9 rfl rfl ?_
    exact qw_top (Option.some.inj hv2).symm Kv2
  · have hv2 := qc_ifF hv2 c1
    refine qj_iload_n cx dX7_without_4 rfl rfl ?_
    refine qj_ineg cx dX7_without_5 ?_
    refine qj_goto (tgt := 10) cx dX7_without_6 (by decide) ?_
    exact qw_top (Option.some.inj hv2).symm Kv2
def P_X7_adds_112  (I : (Nat → Nat → Int32)) (a1 : Int32) (a2 : Int32) (a3 : Int32) (a4 : Int32) (a5 : Int32) (a6 : Int32) : Option ((Nat → Nat → Int32)) :=
  if qc_in ((73 : Int32) + a2) 79 then
  if qc_in ((73 : Int32) + a3) 79 then
  (if a4 = (-2 : Int32) then
  some (255 : Int32)
  else
  if qc_in ((73 : Int32) + a4) 79 then
  some (I 13 ((73 : Int32) + a4).toNatClampNeg)
  else none).bind fun v4 =>
  qc_let (((I 13 ((73 : Int32) + a2).toNatClampNeg) &&& (I 13 ((73 : Int32) + a3).toNatClampNeg)) &&& v4) fun x6 =>
  if a5 < (1 : Int32) then
  some I
  else
  if I 0 30 < a5 then
  some I
  else
  if x6 = 0 then
  some I
  else
  if qc_in (I 0 41) 300 then
  qc_let (qc_u2 I 22 (I 0 41).toNatClampNeg x6) fun I10 =>
  if qc_in (I10 0 41) 300 then
  qc_let (qc_u2 I10 16 (I10 0 41).toNatClampNeg a1) fun I11 =>
  if qc_in (I11 0 41) 300 then
  qc_let (qc_u2 I11 17 (I11 0 41).toNatClampNeg a2) fun I12 =>
  if qc_in (I12 0 41) 300 then
  qc_let (qc_u2 I12 18 (I12 0 41).toNatClampNeg a3) fun I13 =>
  if qc_in (I13 0 41) 300 then
  qc_let (qc_u2 I13 19 (I13 0 41).toNatClampNeg a4) fun I14 =>
  if qc_in (I14 0 41) 300 then
  qc_let (qc_u2 I14 20 (I14 0 41).toNatClampNeg a5) fun I15 =>
  (P_X7_lossOf I15 a1).bind fun q16 =>
  if qc_in (I15 0 41) 300 then
  qc_let (qc_u2 I15 21 (I15 0 41).toNatClampNeg (a6 - q16)) fun I17 =>
  qc_let (qc_u2 I17 0 41 ((I17 0 41) + (1 : Int32))) fun I18 =>
  some I18
  else none
  else none
  else none
  else none
  else none
  else none
  else none
  else none
  else none
def P_X7_adds (I : Nat → Nat → Int32) (a : Int32) (b : Int32) (c : Int32) (d : Int32) : Option ((Nat → Nat → Int32)) :=
  (P_X7_timesA a).bind fun q26 =>
  if qc_in ((0 : Int32) + b) 79 then
  (P_X7_timesB a).bind fun q28 =>
  if qc_in ((0 : Int32) + c) 79 then
  qc_let ((q26 * (I 13 ((0 : Int32) + b).toNatClampNeg)) + (q28 * (I 13 ((0 : Int32) + c).toNatClampNeg))) fun x30 =>
  (P_X7_timesA a).bind fun q31 =>
  if qc_in ((6 : Int32) + b) 79 then
  (P_X7_timesB a).bind fun q33 =>
  (P_X7_without q33).bind fun q34 =>
  if qc_in ((6 : Int32) + c) 79 then
  qc_let ((q31 * (I 13 ((6 : Int32) + b).toNatClampNeg)) + (q34 * (I 13 ((6 : Int32) + c).toNatClampNeg))) fun x36 =>
  if d = (-2 : Int32) then
  P_X7_adds_112 I a b c d x30 x36
  else
  (P_X7_timesC a).bind fun q38 =>
  if qc_in ((0 : Int32) + d) 79 then
  qc_let (x30 + (q38 * (I 13 ((0 : Int32) + d).toNatClampNeg))) fun x40 =>
  (P_X7_timesC a).bind fun q41 =>
  (P_X7_without q41).bind fun q42 =>
  if qc_in ((6 : Int32) + d) 79 then
  qc_let (x36 + (q42 * (I 13 ((6 : Int32) + d).toNatClampNeg))) fun x44 =>
  P_X7_adds_112 I a b c d x40 x44
  else none
  else none
  else none
  else none
  else none
  else none
set_option maxRecDepth 20000 in
theorem c_X7_adds {I : Nat → Nat → Int32} {J : Nat → Nat → Int64}  {a : Int32} {b : Int32} {c : Int32} {d : Int32} {q0 : (Nat → Nat → Int32)} (hP : P_X7_adds I a b c d = some q0) : ∀ l, qc_M l yX7_adds cX7_adds 8 none 1 21 0 0 [.ref 0, .int a, .int b, .int c, .int d] (I, J, shM) none (q0, J, shM) := by
  intro l
  refine qc_ent2 (by decide) (Nat.le_of_ble_eq_true rfl) ?_
  intro F hn0 cx hz
  have cx : qc_X F cX7_adds RX7 "adds" 1 0 0 21 := cx
  have L112 : ∀  (I : (Nat → Nat → Int32)) (a1 : Int32) (a2 : Int32) (a3 : Int32) (a4 : Int32) (a5 : Int32) (a6 : Int32), P_X7_adds_112 I a1 a2 a3 a4 a5 a6 = some q0 → qc_J F 0 0 112 [some (.ref 0), some (.int a1), some (.int a2), some (.int a3), some (.int a4), some (.int a5), some (.int a6), none] [] (I, J, shM) := by
    intro I a1 a2 a3 a4 a5 a6 hP
    unfold P_X7_adds_112 at hP
    refine qj_aload_n cx dX7_adds_112 rfl rfl ?_
    refine qw_getR (j := 25) (t1 := 13) cx dX7_adds_113 qc_cl7 rfl (Nat.le_of_ble_eq_true rfl) rfl ww_1117 rfl ?_
    refine qj_bipush (v := (73 : Int32)) cx dX7_adds_116 (by decide) ?_
    refine qj_iload_n cx dX7_adds_118 rfl rfl ?_
    refine qj_iadd cx dX7_adds_119 ?_
    obtain ⟨c1, hP⟩ := qc_ck hP
    refine qw_iald cx dX7_adds_120 rfl (Nat.le_of_ble_eq_true rfl) rfl c1 ?_
    refine qj_aload_n cx dX7_adds_121 rfl rfl ?_
    refine qw_getR (j := 25) (t1 := 13) cx dX7_adds_122 qc_cl7 rfl (Nat.le_of_ble_eq_true rfl) rfl ww_1117 rfl ?_
    refine qj_bipush (v := (73 : Int32)) cx dX7_adds_125 (by decide) ?_
    refine qj_iload_n cx dX7_adds_127 rfl rfl ?_
    refine qj_iadd cx dX7_adds_128 ?_
    obtain ⟨c2, hP⟩ := qc_ck hP
    refine qw_iald cx dX7_adds_129 rfl (Nat.le_of_ble_eq_true rfl) rfl c2 ?_
    refine qj_iand cx dX7_adds_130 ?_
    refine qj_iload cx dX7_adds_131 rfl ?_
    refine qj_bipush (v := (-2 : Int32)) cx dX7_adds_133 (by decide) ?_
    obtain ⟨v4, hv4, hP⟩ := Option.bind_eq_some_iff.mp hP
    have Kv4 : qc_J F 0 0 154 [some (.ref 0), some (.int a1), some (.int a2), some (.int a3), some (.int a4), some (.int a5), some (.int a6), none] [.int v4, .int ((I 13 ((73 : Int32) + a2).toNatClampNeg) &&& (I 13 ((73 : Int32) + a3).toNatClampNeg))] (I, J, shM) := by
      refine qj_iand cx dX7_adds_154 ?_
      obtain ⟨x6, ex6, hP⟩ := qc_letE hP
      refine qw_top ex6 ?_
      refine qj_istore (ls1 := [some (.ref 0), some (.int a1), some (.int a2), some (.int a3), some (.int a4), some (.int a5), some (.int a6), some (.int x6)]) cx dX7_adds_155 rfl rfl rfl ?_
      refine qj_iload cx dX7_adds_157 rfl ?_
      refine qj_iconst (v := (1 : Int32)) cx dX7_adds_159 (by decide) ?_
      refine qj_icmp_lt (tgt := 177) cx dX7_adds_160 (by decide) (fun c7 => ?_) (fun c7 => ?_)
      · have hP := qc_ifT hP c7
        exact qw_vret cx hz dX7_adds_177 (Nat.zero_le _) (Nat.zero_le _) (Option.some.inj hP) rfl
      · have hP := qc_ifF hP c7
        refine qj_iload cx dX7_adds_163 rfl ?_
        refine qj_aload_n cx dX7_adds_165 rfl rfl ?_
        refine qw_getI (j := 30) cx dX7_adds_166 qc_cl7 rfl (Nat.le_of_ble_eq_true rfl) rfl ww_1122 ?_
        refine qj_icmp_gt (tgt := 177) cx dX7_adds_169 (by decide) (fun c8 => ?_) (fun c8 => ?_)
        · have hP := qc_ifT hP c8
          exact qw_vret cx hz dX7_adds_177 (Nat.zero_le _) (Nat.zero_le _) (Option.some.inj hP) rfl
        · have hP := qc_ifF hP c8
          refine qj_iload cx dX7_adds_172 rfl ?_
          refine qj_if_ne (tgt := 178) cx dX7_adds_174 (by decide) (fun c9 => ?_) (fun c9 => ?_)
          · have hP := qc_ifF hP c9
            refine qj_aload_n cx dX7_adds_178 rfl rfl ?_
            refine qw_getR (j := 40) (t1 := 22) cx dX7_adds_179 qc_cl7 rfl (Nat.le_of_ble_eq_true rfl) rfl ww_1132 rfl ?_
            refine qj_aload_n cx dX7_adds_182 rfl rfl ?_
            refine qw_getI (j := 41) cx dX7_adds_183 qc_cl7 rfl (Nat.le_of_ble_eq_true rfl) rfl ww_1133 ?_
            refine qj_iload cx dX7_adds_186 rfl ?_
            obtain ⟨c25, hP⟩ := qc_ck hP
            obtain ⟨I10, eI10, hP⟩ := qc_letE hP
            refine qw_iast cx dX7_adds_188 rfl (Nat.le_of_ble_eq_true rfl) rfl c25 eI10 ?_
            refine qj_aload_n cx dX7_adds_189 rfl rfl ?_
            refine qw_getR (j := 34) (t1 := 16) cx dX7_adds_190 qc_cl7 rfl (Nat.le_of_ble_eq_true rfl) rfl ww_1126 rfl ?_
            refine qj_aload_n cx dX7_adds_193 rfl rfl ?_
            refine qw_getI (j := 41) cx dX7_adds_194 qc_cl7 rfl (Nat.le_of_ble_eq_true rfl) rfl ww_1133 ?_
            refine qj_iload_n cx dX7_adds_197 rfl rfl ?_
            obtain ⟨c24, hP⟩ := qc_ck hP
            obtain ⟨I11, eI11, hP⟩ := qc_letE hP
            refine qw_iast cx dX7_adds_198 rfl (Nat.le_of_ble_eq_true rfl) rfl c24 eI11 ?_
            refine qj_aload_n cx dX7_adds_199 rfl rfl ?_
            refine qw_getR (j := 35) (t1 := 17) cx dX7_adds_200 qc_cl7 rfl (Nat.le_of_ble_eq_true rfl) rfl ww_1127 rfl ?_
            refine qj_aload_n cx dX7_adds_203 rfl rfl ?_
            refine qw_getI (j := 41) cx dX7_adds_204 qc_cl7 rfl (Nat.le_of_ble_eq_true rfl) rfl ww_1133 ?_
            refine qj_iload_n cx dX7_adds_207 rfl rfl ?_
            obtain ⟨c23, hP⟩ := qc_ck hP
            obtain ⟨I12, eI12, hP⟩ := qc_letE hP
            refine qw_iast cx dX7_adds_208 rfl (Nat.le_of_ble_eq_true rfl) rfl c23 eI12 ?_
            refine qj_aload_n cx dX7_adds_209 rfl rfl ?_
            refine qw_getR (j := 36) (t1 := 18) cx dX7_adds_210 qc_cl7 rfl (Nat.le_of_ble_eq_true rfl) rfl ww_1128 rfl ?_
            refine qj_aload_n cx dX7_adds_213 rfl rfl ?_
            refine qw_getI (j := 41) cx dX7_adds_214 qc_cl7 rfl (Nat.le_of_ble_eq_true rfl) rfl ww_1133 ?_
            refine qj_iload_n cx dX7_adds_217 rfl rfl ?_
            obtain ⟨c22, hP⟩ := qc_ck hP
            obtain ⟨I13, eI13, hP⟩ := qc_letE hP
            refine qw_iast cx dX7_adds_218 rfl (Nat.le_of_ble_eq_true rfl) rfl c22 eI13 ?_
            refine qj_aload_n cx dX7_adds_219 rfl rfl ?_
            refine qw_getR (j := 37) (t1 := 19) cx dX7_adds_220 qc_cl7 rfl (Nat.le_of_ble_eq_true rfl) rfl ww_1129 rfl ?_
            refine qj_aload_n cx dX7_adds_223 rfl rfl ?_
            refine qw_getI (j := 41) cx dX7_adds_224 qc_cl7 rfl (Nat.le_of_ble_eq_true rfl) rfl ww_1133 ?_
            refine qj_iload cx dX7_adds_227 rfl ?_
            obtain ⟨c21, hP⟩ := qc_ck hP
            obtain ⟨I14, eI14, hP⟩ := qc_letE hP
            refine qw_iast cx dX7_adds_229 rfl (Nat.le_of_ble_eq_true rfl) rfl c21 eI14 ?_
            refine qj_aload_n cx dX7_adds_230 rfl rfl ?_
            refine qw_getR (j := 38) (t1 := 20) cx dX7_adds_231 qc_cl7 rfl (Nat.le_of_ble_eq_true rfl) rfl ww_1130 rfl ?_
            refine qj_aload_n cx dX7_adds_234 rfl rfl ?_
            refine qw_getI (j := 41) cx dX7_adds_235 qc_cl7 rfl (Nat.le_of_ble_eq_true rfl) rfl ww_1133 ?_
            refine qj_iload cx dX7_adds_238 rfl ?_
            obtain ⟨c20, hP⟩ := qc_ck hP
            obtain ⟨I15, eI15, hP⟩ := qc_letE hP
            refine qw_iast cx dX7_adds_240 rfl (Nat.le_of_ble_eq_true rfl) rfl c20 eI15 ?_
            refine qj_aload_n cx dX7_adds_241 rfl rfl ?_
            refine qw_getR (j := 39) (t1 := 21) cx dX7_adds_242 qc_cl7 rfl (Nat.le_of_ble_eq_true rfl) rfl ww_1131 rfl ?_
            refine qj_aload_n cx dX7_adds_245 rfl rfl ?_
            refine qw_getI (j := 41) cx dX7_adds_246 qc_cl7 rfl (Nat.le_of_ble_eq_true rfl) rfl ww_1133 ?_
            refine qj_iload cx dX7_adds_249 rfl ?_
            refine qj_aload_n cx dX7_adds_251 rfl rfl ?_
            refine qj_iload_n cx dX7_adds_252 rfl rfl ?_
            obtain ⟨q16, eq16, hP⟩ := Option.bind_eq_some_iff.mp hP
            refine qj_callV (As := [.int a1]) (st := [.int a6, .int (I15 0 41), .ref 21]) (t := 0) (h' := (I15, J, shM)) (r := some (.int q16)) cx dX7_adds_253 (c_X7_lossOf (I := I15) (J := J)  eq16) gc_RX7_283 qm_X7_lossOf rfl rfl qc_cl7 rfl (Nat.le_of_ble_eq_true rfl) (by decide) (by decide) rfl (Nat.le_of_ble_eq_true rfl) (Nat.le_of_ble_eq_true rfl) hn0 rfl ?_
            refine qj_isub cx dX7_adds_256 ?_
            obtain ⟨c19, hP⟩ := qc_ck hP
            obtain ⟨I17, eI17, hP⟩ := qc_letE hP
            refine qw_iast cx dX7_adds_257 rfl (Nat.le_of_ble_eq_true rfl) rfl c19 eI17 ?_
            refine qj_aload_n cx dX7_adds_258 rfl rfl ?_
            refine qj_dup cx dX7_adds_259 rfl ?_
            refine qw_getI (j := 41) cx dX7_adds_260 qc_cl7 rfl (Nat.le_of_ble_eq_true rfl) rfl ww_1133 ?_
            refine qj_iconst (v := (1 : Int32)) cx dX7_adds_263 (by decide) ?_
            refine qj_iadd cx dX7_adds_264 ?_
            obtain ⟨I18, eI18, hP⟩ := qc_letE hP
            refine qw_putI (j := 41) cx dX7_adds_265 qc_cl7 rfl (Nat.le_of_ble_eq_true rfl) rfl ww_1133 rfl rfl rfl eI18 ?_
            exact qw_vret cx hz dX7_adds_268 (Nat.zero_le _) (Nat.zero_le _) (Option.some.inj hP) rfl
          · have hP := qc_ifT hP c9
            exact qw_vret cx hz dX7_adds_177 (Nat.zero_le _) (Nat.zero_le _) (Option.some.inj hP) rfl
    refine qj_icmp_ne (tgt := 144) cx dX7_adds_135 (by decide) (fun c3 => ?_) (fun c3 => ?_)
    · have hv4 := qc_ifF hv4 c3
      refine qj_aload_n cx dX7_adds_144 rfl rfl ?_
      refine qw_getR (j := 25) (t1 := 13) cx dX7_adds_145 qc_cl7 rfl (Nat.le_of_ble_eq_true rfl) rfl ww_1117 rfl ?_
      refine qj_bipush (v := (73 : Int32)) cx dX7_adds_148 (by decide) ?_
      refine qj_iload cx dX7_adds_150 rfl ?_
      refine qj_iadd cx dX7_adds_152 ?_
      obtain ⟨c5, hv4⟩ := qc_ck hv4
      refine qw_iald cx dX7_adds_153 rfl (Nat.le_of_ble_eq_true rfl) rfl c5 ?_
      exact qw_top (Option.some.inj hv4).symm Kv4
    · have hv4 := qc_ifT hv4 c3
      refine qj_sipush (v := (255 : Int32)) cx dX7_adds_138 (by decide) ?_
      refine qj_goto (tgt := 154) cx dX7_adds_141 (by decide) ?_
      exact qw_top (Option.some.inj hv4).symm Kv4
  show qc_J F 0 0 0 [some (.ref 0), some (.int a), some (.int b), some (.int c), some (.int d), none, none, none] [] (I, J, shM)
  unfold P_X7_adds at hP
  refine qj_iload_n cx dX7_adds_0 rfl rfl ?_
  obtain ⟨q26, eq26, hP⟩ := Option.bind_eq_some_iff.mp hP
  refine qj_callS (As := [.int a]) (st := []) (h' := (I, J, shM)) (r := some (.int q26)) cx dX7_adds_1 (c_X7_timesA (S := shM) (I := I) (J := J) eq26) gc_RX7_268 qm_X7_timesA rfl (by decide) (by decide) rfl (Nat.le_of_ble_eq_true rfl) (Nat.le_of_ble_eq_true rfl) hn0 rfl ?_
  refine qj_aload_n cx dX7_adds_4 rfl rfl ?_
  refine qw_getR (j := 25) (t1 := 13) cx dX7_adds_5 qc_cl7 rfl (Nat.le_of_ble_eq_true rfl) rfl ww_1117 rfl ?_
  refine qj_iconst (v := (0 : Int32)) cx dX7_adds_8 (by decide) ?_
  refine qj_iload_n cx dX7_adds_9 rfl rfl ?_
  refine qj_iadd cx dX7_adds_10 ?_
  obtain ⟨c27, hP⟩ := qc_ck hP
  refine qw_iald cx dX7_adds_11 rfl (Nat.le_of_ble_eq_true rfl) rfl c27 ?_
  refine qj_imul cx dX7_adds_12 ?_
  refine qj_iload_n cx dX7_adds_13 rfl rfl ?_
  obtain ⟨q28, eq28, hP⟩ := Option.bind_eq_some_iff.mp hP
  refine qj_callS (As := [.int a]) (st := [.int (q26 * (I 13 ((0 : Int32) + b).toNatClampNeg))]) (h' := (I, J, shM)) (r := some (.int q28)) cx dX7_adds_14 (c_X7_timesB (S := shM) (I := I) (J := J) eq28) gc_RX7_271 qm_X7_timesB rfl (by decide) (by decide) rfl (Nat.le_of_ble_eq_true rfl) (Nat.le_of_ble_eq_true rfl) hn0 rfl ?_
  refine qj_aload_n cx dX7_adds_17 rfl rfl ?_
  refine qw_getR (j := 25) (t1 := 13) cx dX7_adds_18 qc_cl7 rfl (Nat.le_of_ble_eq_true rfl) rfl ww_1117 rfl ?_
  refine qj_iconst (v := (0 : Int32)) cx dX7_adds_21 (by decide) ?_
  refine qj_iload_n cx dX7_adds_22 rfl rfl ?_
  refine qj_iadd cx dX7_adds_23 ?_
  obtain ⟨c29, hP⟩ := qc_ck hP
  refine qw_iald cx dX7_adds_24 rfl (Nat.le_of_ble_eq_true rfl) rfl c29 ?_
  refine qj_imul cx dX7_adds_25 ?_
  refine qj_iadd cx dX7_adds_26 ?_
  obtain ⟨x30, ex30, hP⟩ := qc_letE hP
  refine qw_top ex30 ?_
  refine qj_istore (ls1 := [some (.ref 0), some (.int a), some (.int b), some (.int c), some (.int d), some (.int x30), none, none]) cx dX7_adds_27 rfl rfl rfl ?_
  refine qj_iload_n cx dX7_adds_29 rfl rfl ?_
  obtain ⟨q31, eq31, hP⟩ := Option.bind_eq_some_iff.mp hP
  refine qj_callS (As := [.int a]) (st := []) (h' := (I, J, shM)) (r := some (.int q31)) cx dX7_adds_30 (c_X7_timesA (S := shM) (I := I) (J := J) eq31) gc_RX7_268 qm_X7_timesA rfl (by decide) (by decide) rfl (Nat.le_of_ble_eq_true rfl) (Nat.le_of_ble_eq_true rfl) hn0 rfl ?_
  refine qj_aload_n cx dX7_adds_33 rfl rfl ?_
  refine qw_getR (j := 25) (t1 := 13) cx dX7_adds_34 qc_cl7 rfl (Nat.le_of_ble_eq_true rfl) rfl ww_1117 rfl ?_
  refine qj_bipush (v := (6 : Int32)) cx dX7_adds_37 (by decide) ?_
  refine qj_iload_n cx dX7_adds_39 rfl rfl ?_
  refine qj_iadd cx dX7_adds_40 ?_
  obtain ⟨c32, hP⟩ := qc_ck hP
  refine qw_iald cx dX7_adds_41 rfl (Nat.le_of_ble_eq_true rfl) rfl c32 ?_
  refine qj_imul cx dX7_adds_42 ?_
  refine qj_iload_n cx dX7_adds_43 rfl rfl ?_
  obtain ⟨q33, eq33, hP⟩ := Option.bind_eq_some_iff.mp hP
  refine qj_callS (As := [.int a]) (st := [.int (q31 * (I 13 ((6 : Int32) + b).toNatClampNeg))]) (h' := (I, J, shM)) (r := some (.int q33)) cx dX7_adds_44 (c_X7_timesB (S := shM) (I := I) (J := J) eq33) gc_RX7_271 qm_X7_timesB rfl (by decide) (by decide) rfl (Nat.le_of_ble_eq_true rfl) (Nat.le_of_ble_eq_true rfl) hn0 rfl ?_
  obtain ⟨q34, eq34, hP⟩ := Option.bind_eq_some_iff.mp hP
  refine qj_callS (As := [.int q33]) (st := [.int (q31 * (I 13 ((6 : Int32) + b).toNatClampNeg))]) (h' := (I, J, shM)) (r := some (.int q34)) cx dX7_adds_47 (c_X7_without (S := shM) (I := I) (J := J) eq34) gc_RX7_274 qm_X7_without rfl (by decide) (by decide) rfl (Nat.le_of_ble_eq_true rfl) (Nat.le_of_ble_eq_true rfl) hn0 rfl ?_
  refine qj_aload_n cx dX7_adds_50 rfl rfl ?_
  refine qw_getR (j := 25) (t1 := 13) cx dX7_adds_51 qc_cl7 rfl (Nat.le_of_ble_eq_true rfl) rfl ww_1117 rfl ?_
  refine qj_bipush (v := (6 : Int32)) cx dX7_adds_54 (by decide) ?_
  refine qj_iload_n cx dX7_adds_56 rfl rfl ?_
  refine qj_iadd cx dX7_adds_57 ?_
  obtain ⟨c35, hP⟩ := qc_ck hP
  refine qw_iald cx dX7_adds_58 rfl (Nat.le_of_ble_eq_true rfl) rfl c35 ?_
  refine qj_imul cx dX7_adds_59 ?_
  refine qj_iadd cx dX7_adds_60 ?_
  obtain ⟨x36, ex36, hP⟩ := qc_letE hP
  refine qw_top ex36 ?_
  refine qj_istore (ls1 := [some (.ref 0), some (.int a), some (.int b), some (.int c), some (.int d), some (.int x30), some (.int x36), none]) cx dX7_adds_61 rfl rfl rfl ?_
  refine qj_iload cx dX7_adds_63 rfl ?_
  refine qj_bipush (v := (-2 : Int32)) cx dX7_adds_65 (by decide) ?_
  refine qj_icmp_eq (tgt := 112) cx dX7_adds_67 (by decide) (fun c37 => ?_) (fun c37 => ?_)
  · have hP := qc_ifT hP c37
    exact L112 I a b c d x30 x36 hP
  · have hP := qc_ifF hP c37
    refine qj_iload cx dX7_adds_70 rfl ?_
    refine qj_iload_n cx dX7_adds_72 rfl rfl ?_
    obtain ⟨q38, eq38, hP⟩ := Option.bind_eq_some_iff.mp hP
    refine qj_callS (As := [.int a]) (st := [.int x30]) (h' := (I, J, shM)) (r := some (.int q38)) cx dX7_adds_73 (c_X7_timesC (S := shM) (I := I) (J := J) eq38) gc_RX7_277 qm_X7_timesC rfl (by decide) (by decide) rfl (Nat.le_of_ble_eq_true rfl) (Nat.le_of_ble_eq_true rfl) hn0 rfl ?_
    refine qj_aload_n cx dX7_adds_76 rfl rfl ?_
    refine qw_getR (j := 25) (t1 := 13) cx dX7_adds_77 qc_cl7 rfl (Nat.le_of_ble_eq_true rfl) rfl ww_1117 rfl ?_
    refine qj_iconst (v := (0 : Int32)) cx dX7_adds_80 (by decide) ?_
    refine qj_iload cx dX7_adds_81 rfl ?_
    refine qj_iadd cx dX7_adds_83 ?_
    obtain ⟨c39, hP⟩ := qc_ck hP
    refine qw_iald cx dX7_adds_84 rfl (Nat.le_of_ble_eq_true rfl) rfl c39 ?_
    refine qj_imul cx dX7_adds_85 ?_
    refine qj_iadd cx dX7_adds_86 ?_
    obtain ⟨x40, ex40, hP⟩ := qc_letE hP
    refine qw_top ex40 ?_
    refine qj_istore (ls1 := [some (.ref 0), some (.int a), some (.int b), some (.int c), some (.int d), some (.int x40), some (.int x36), none]) cx dX7_adds_87 rfl rfl rfl ?_
    refine qj_iload cx dX7_adds_89 rfl ?_
    refine qj_iload_n cx dX7_adds_91 rfl rfl ?_
    obtain ⟨q41, eq41, hP⟩ := Option.bind_eq_some_iff.mp hP
    refine qj_callS (As := [.int a]) (st := [.int x36]) (h' := (I, J, shM)) (r := some (.int q41)) cx dX7_adds_92 (c_X7_timesC (S := shM) (I := I) (J := J) eq41) gc_RX7_277 qm_X7_timesC rfl (by decide) (by decide) rfl (Nat.le_of_ble_eq_true rfl) (Nat.le_of_ble_eq_true rfl) hn0 rfl ?_
    obtain ⟨q42, eq42, hP⟩ := Option.bind_eq_some_iff.mp hP
    refine qj_callS (As := [.int q41]) (st := [.int x36]) (h' := (I, J, shM)) (r := some (.int q42)) cx dX7_adds_95 (c_X7_without (S := shM) (I := I) (J := J) eq42) gc_RX7_274 qm_X7_without rfl (by decide) (by decide) rfl (Nat.le_of_ble_eq_true rfl) (Nat.le_of_ble_eq_true rfl) hn0 rfl ?_
    refine qj_aload_n cx dX7_adds_98 rfl rfl ?_
    refine qw_getR (j := 25) (t1 := 13) cx dX7_adds_99 qc_cl7 rfl (Nat.le_of_ble_eq_true rfl) rfl ww_1117 rfl ?_
    refine qj_bipush (v := (6 : Int32)) cx dX7_adds_102 (by decide) ?_
    refine qj_iload cx dX7_adds_104 rfl ?_
    refine qj_iadd cx dX7_adds_106 ?_
    obtain ⟨c43, hP⟩ := qc_ck hP
    refine qw_iald cx dX7_adds_107 rfl (Nat.le_of_ble_eq_true rfl) rfl c43 ?_
    refine qj_imul cx dX7_adds_108 ?_
    refine qj_iadd cx dX7_adds_109 ?_
    obtain ⟨x44, ex44, hP⟩ := qc_letE hP
    refine qw_top ex44 ?_
    refine qj_istore (ls1 := [some (.ref 0), some (.int a), some (.int b), some (.int c), some (.int d), some (.int x40), some (.int x44), none]) cx dX7_adds_110 rfl rfl rfl ?_
    exact L112 I a b c d x40 x44 hP
def P_X7_laysSort_151 (k2 : (Nat → Nat → Int32) → Int32 → Int32 → Int32 → Option ((Nat → Nat → Int32))) (k13 : (Nat → Nat → Int32) → Int32 → Int32 → Int32 → Int32 → Option ((Nat → Nat → Int32))) (I : (Nat → Nat → Int32)) (a1 : Int32) (a2 : Int32) (a3 : Int32) (a4 : Int32) : Option ((Nat → Nat → Int32)) :=
  qc_let (a4 + (1 : Int32)) fun x1 =>
  k13 I a1 a2 a3 x1
def P_X7_laysSort_145 (k2 : (Nat → Nat → Int32) → Int32 → Int32 → Int32 → Option ((Nat → Nat → Int32))) (k13 : (Nat → Nat → Int32) → Int32 → Int32 → Int32 → Int32 → Option ((Nat → Nat → Int32))) (k103 : (Nat → Nat → Int32) → Int32 → Int32 → Int32 → Int32 → Int32 → Option ((Nat → Nat → Int32))) (I : (Nat → Nat → Int32)) (a1 : Int32) (a2 : Int32) (a3 : Int32) (a4 : Int32) (a6 : Int32) : Option ((Nat → Nat → Int32)) :=
  qc_let (a6 + (1 : Int32)) fun x2 =>
  k103 I a1 a2 a3 a4 x2
def P_X7_laysSort_103 (k2 : (Nat → Nat → Int32) → Int32 → Int32 → Int32 → Option ((Nat → Nat → Int32))) (k13 : (Nat → Nat → Int32) → Int32 → Int32 → Int32 → Int32 → Option ((Nat → Nat → Int32))) : Nat → (Nat → Nat → Int32) → Int32 → Int32 → Int32 → Int32 → Int32 → Option ((Nat → Nat → Int32))
  | 0, _, _, _, _, _, _ => none
  | f + 1, I, a1, a2, a3, a4, a6 =>
  (P_X7_users I).bind fun q3 =>
  if q3 ≤ a6 then
  P_X7_laysSort_151 k2 k13 I a1 a2 a3 a4
  else
  (P_X7_isThere I a6 a1).bind fun q5 =>
  if q5 = 0 then
  P_X7_laysSort_145 k2 k13 (P_X7_laysSort_103 k2 k13 f) I a1 a2 a3 a4 a6
  else
  if a6 = a3 then
  P_X7_laysSort_145 k2 k13 (P_X7_laysSort_103 k2 k13 f) I a1 a2 a3 a4 a6
  else
  if a6 = a4 then
  P_X7_laysSort_145 k2 k13 (P_X7_laysSort_103 k2 k13 f) I a1 a2 a3 a4 a6
  else
  (P_X7_adds I a2 a3 a4 a6).bind fun q9 =>
  P_X7_laysSort_145 k2 k13 (P_X7_laysSort_103 k2 k13 f) q9 a1 a2 a3 a4 a6
def P_X7_laysSort_100 (k2 : (Nat → Nat → Int32) → Int32 → Int32 → Int32 → Option ((Nat → Nat → Int32))) (k13 : (Nat → Nat → Int32) → Int32 → Int32 → Int32 → Int32 → Option ((Nat → Nat → Int32))) (I : (Nat → Nat → Int32)) (a1 : Int32) (a2 : Int32) (a3 : Int32) (a4 : Int32) : Option ((Nat → Nat → Int32)) :=
  P_X7_laysSort_103 k2 k13 qc_fu I a1 a2 a3 a4 (0 : Int32)
def P_X7_laysSort_77 (k2 : (Nat → Nat → Int32) → Int32 → Int32 → Int32 → Option ((Nat → Nat → Int32))) (k13 : (Nat → Nat → Int32) → Int32 → Int32 → Int32 → Int32 → Option ((Nat → Nat → Int32))) (I : (Nat → Nat → Int32)) (a1 : Int32) (a2 : Int32) (a3 : Int32) (a4 : Int32) : Option ((Nat → Nat → Int32)) :=
  if a2 = (3 : Int32) then
  P_X7_laysSort_100 k2 k13 I a1 a2 a3 a4
  else
  if a2 = (5 : Int32) then
  P_X7_laysSort_100 k2 k13 I a1 a2 a3 a4
  else
  (P_X7_adds I a2 a3 a4 (-2 : Int32)).bind fun q12 =>
  P_X7_laysSort_151 k2 k13 q12 a1 a2 a3 a4
def P_X7_laysSort_13 (k2 : (Nat → Nat → Int32) → Int32 → Int32 → Int32 → Option ((Nat → Nat → Int32))) : Nat → (Nat → Nat → Int32) → Int32 → Int32 → Int32 → Int32 → Option ((Nat → Nat → Int32))
  | 0, _, _, _, _, _ => none
  | f + 1, I, a1, a2, a3, a4 =>
  (P_X7_users I).bind fun q13 =>
  if q13 ≤ a4 then
  qc_let (a3 + (1 : Int32)) fun x15 =>
  k2 I a1 a2 x15
  else
  (if a2 = 0 then
  some (1 : Int32)
  else
  if a2 = (3 : Int32) then
  some (1 : Int32)
  else
  some (0 : Int32)).bind fun v17 =>
  (P_X7_isThere I a3 a1).bind fun q19 =>
  if q19 = 0 then
  P_X7_laysSort_151 k2 (P_X7_laysSort_13 k2 f) I a1 a2 a3 a4
  else
  (P_X7_isThere I a4 a1).bind fun q21 =>
  if q21 = 0 then
  P_X7_laysSort_151 k2 (P_X7_laysSort_13 k2 f) I a1 a2 a3 a4
  else
  if a3 = a4 then
  P_X7_laysSort_151 k2 (P_X7_laysSort_13 k2 f) I a1 a2 a3 a4
  else
  if v17 = 0 then
  P_X7_laysSort_77 k2 (P_X7_laysSort_13 k2 f) I a1 a2 a3 a4
  else
  if a3 ≤ a4 then
  P_X7_laysSort_77 k2 (P_X7_laysSort_13 k2 f) I a1 a2 a3 a4
  else
  P_X7_laysSort_151 k2 (P_X7_laysSort_13 k2 f) I a1 a2 a3 a4
def P_X7_laysSort_2  : Nat → (Nat → Nat → Int32) → Int32 → Int32 → Int32 → Option ((Nat → Nat → Int32))
  | 0, _, _, _, _ => none
  | f + 1, I, a1, a2, a3 =>
  (P_X7_users I).bind fun q26 =>
  if q26 ≤ a3 then
  some I
  else
  P_X7_laysSort_13 (P_X7_laysSort_2 f) qc_fu I a1 a2 a3 (0 : Int32)
def P_X7_laysSort (I : Nat → Nat → Int32) (a : Int32) (b : Int32) : Option ((Nat → Nat → Int32)) :=
  P_X7_laysSort_2 qc_fu I a b (0 : Int32)
set_option maxRecDepth 20000 in
theorem c_X7_laysSort {I : Nat → Nat → Int32} {J : Nat → Nat → Int64}  {a : Int32} {b : Int32} {q0 : (Nat → Nat → Int32)} (hP : P_X7_laysSort I a b = some q0) : ∀ l, qc_M l yX7_laysSort cX7_laysSort 7 none 2 48 0 0 [.ref 0, .int a, .int b] (I, J, shM) none (q0, J, shM) := by
  intro l
  refine qc_ent2 (by decide) (Nat.le_of_ble_eq_true rfl) ?_
  intro F hn0 cx hz
  have cx : qc_X F cX7_laysSort RX7 "laysSort" 2 0 0 48 := cx
  have L151 : ∀ (k2 : (Nat → Nat → Int32) → Int32 → Int32 → Int32 → Option ((Nat → Nat → Int32))) (g2 : ∀ (I : Nat → Nat → Int32) (a1 : Int32) (a2 : Int32) (a3 : Int32), k2 I a1 a2 a3 = some q0 → qc_J F 0 0 2 [some (.ref 0), some (.int a1), some (.int a2), some (.int a3), none, none, none] [] (I, J, shM)) (k13 : (Nat → Nat → Int32) → Int32 → Int32 → Int32 → Int32 → Option ((Nat → Nat → Int32))) (g13 : ∀ (I : Nat → Nat → Int32) (a1 : Int32) (a2 : Int32) (a3 : Int32) (a4 : Int32), k13 I a1 a2 a3 a4 = some q0 → qc_J F 0 0 13 [some (.ref 0), some (.int a1), some (.int a2), some (.int a3), some (.int a4), none, none] [] (I, J, shM)) (I : (Nat → Nat → Int32)) (a1 : Int32) (a2 : Int32) (a3 : Int32) (a4 : Int32), P_X7_laysSort_151 k2 k13 I a1 a2 a3 a4 = some q0 → qc_J F 0 0 151 [some (.ref 0), some (.int a1), some (.int a2), some (.int a3), some (.int a4), none, none] [] (I, J, shM) := by
    intro k2 g2 k13 g13 I a1 a2 a3 a4 hP
    unfold P_X7_laysSort_151 at hP
    obtain ⟨x1, ex1, hP⟩ := qc_letE hP
    refine qj_iinc (v := x1) (ls1 := [some (.ref 0), some (.int a1), some (.int a2), some (.int a3), some (.int x1), none, none]) cx dX7_laysSort_151 rfl (by rw [ex1]; rfl) rfl rfl ?_
    refine qj_goto (tgt := 13) cx dX7_laysSort_154 (by decide) ?_
    exact g13 I a1 a2 a3 x1 hP
  have L145 : ∀ (k2 : (Nat → Nat → Int32) → Int32 → Int32 → Int32 → Option ((Nat → Nat → Int32))) (g2 : ∀ (I : Nat → Nat → Int32) (a1 : Int32) (a2 : Int32) (a3 : Int32), k2 I a1 a2 a3 = some q0 → qc_J F 0 0 2 [some (.ref 0), some (.int a1), some (.int a2), some (.int a3), none, none, none] [] (I, J, shM)) (k13 : (Nat → Nat → Int32) → Int32 → Int32 → Int32 → Int32 → Option ((Nat → Nat → Int32))) (g13 : ∀ (I : Nat → Nat → Int32) (a1 : Int32) (a2 : Int32) (a3 : Int32) (a4 : Int32), k13 I a1 a2 a3 a4 = some q0 → qc_J F 0 0 13 [some (.ref 0), some (.int a1), some (.int a2), some (.int a3), some (.int a4), none, none] [] (I, J, shM)) (k103 : (Nat → Nat → Int32) → Int32 → Int32 → Int32 → Int32 → Int32 → Option ((Nat → Nat → Int32))) (g103 : ∀ (I : Nat → Nat → Int32) (a1 : Int32) (a2 : Int32) (a3 : Int32) (a4 : Int32) (a6 : Int32), k103 I a1 a2 a3 a4 a6 = some q0 → qc_J F 0 0 103 [some (.ref 0), some (.int a1), some (.int a2), some (.int a3), some (.int a4), none, some (.int a6)] [] (I, J, shM)) (I : (Nat → Nat → Int32)) (a1 : Int32) (a2 : Int32) (a3 : Int32) (a4 : Int32) (a6 : Int32), P_X7_laysSort_145 k2 k13 k103 I a1 a2 a3 a4 a6 = some q0 → qc_J F 0 0 145 [some (.ref 0), some (.int a1), some (.int a2), some (.int a3), some (.int a4), none, some (.int a6)] [] (I, J, shM) := by
    intro k2 g2 k13 g13 k103 g103 I a1 a2 a3 a4 a6 hP
    unfold P_X7_laysSort_145 at hP
    obtain ⟨x2, ex2, hP⟩ := qc_letE hP
    refine qj_iinc (v := x2) (ls1 := [some (.ref 0), some (.int a1), some (.int a2), some (.int a3), some (.int a4), none, some (.int x2)]) cx dX7_laysSort_145 rfl (by rw [ex2]; rfl) rfl rfl ?_
    refine qj_goto (tgt := 103) cx dX7_laysSort_148 (by decide) ?_
    exact g103 I a1 a2 a3 a4 x2 hP
  have L103 : ∀ (k2 : (Nat → Nat → Int32) → Int32 → Int32 → Int32 → Option ((Nat → Nat → Int32))) (g2 : ∀ (I : Nat → Nat → Int32) (a1 : Int32) (a2 : Int32) (a3 : Int32), k2 I a1 a2 a3 = some q0 → qc_J F 0 0 2 [some (.ref 0), some (.int a1), some (.int a2), some (.int a3), none, none, none] [] (I, J, shM)) (k13 : (Nat → Nat → Int32) → Int32 → Int32 → Int32 → Int32 → Option ((Nat → Nat → Int32))) (g13 : ∀ (I : Nat → Nat → Int32) (a1 : Int32) (a2 : Int32) (a3 : Int32) (a4 : Int32), k13 I a1 a2 a3 a4 = some q0 → qc_J F 0 0 13 [some (.ref 0), some (.int a1), some (.int a2), some (.int a3), some (.int a4), none, none] [] (I, J, shM)) (f : Nat) (I : (Nat → Nat → Int32)) (a1 : Int32) (a2 : Int32) (a3 : Int32) (a4 : Int32) (a6 : Int32), P_X7_laysSort_103 k2 k13 f I a1 a2 a3 a4 a6 = some q0 → qc_J F 0 0 103 [some (.ref 0), some (.int a1), some (.int a2), some (.int a3), some (.int a4), none, some (.int a6)] [] (I, J, shM) := by
    intro k2 g2 k13 g13 f
    induction f with
    | zero => intro I a1 a2 a3 a4 a6 hP; cases hP
    | succ f ih =>
      intro I a1 a2 a3 a4 a6 hP
      rw [P_X7_laysSort_103] at hP
      refine qj_iload cx dX7_laysSort_103 rfl ?_
      refine qj_aload_n cx dX7_laysSort_105 rfl rfl ?_
      obtain ⟨q3, eq3, hP⟩ := Option.bind_eq_some_iff.mp hP
      refine qj_callV (As := []) (st := [.int a6]) (t := 0) (h' := (I, J, shM)) (r := some (.int q3)) cx dX7_laysSort_106 (c_X7_users (I := I) (J := J)  eq3) gc_RX7_232 qm_X7_users rfl rfl qc_cl7 rfl (Nat.le_of_ble_eq_true rfl) (by decide) (by decide) rfl (Nat.le_of_ble_eq_true rfl) (Nat.le_of_ble_eq_true rfl) hn0 rfl ?_
      refine qj_icmp_ge (tgt := 151) cx dX7_laysSort_109 (by decide) (fun c4 => ?_) (fun c4 => ?_)
      · have hP := qc_ifT hP c4
        refine qw_sub (ls1 := [some (.ref 0), some (.int a1), some (.int a2), some (.int a3), some (.int a4), none, none]) rfl (qc_sb_ok ⟨rfl, rfl, rfl, rfl, rfl, trivial⟩) ?_
        exact L151 k2 g2 k13 g13 I a1 a2 a3 a4 hP
      · have hP := qc_ifF hP c4
        refine qj_aload_n cx dX7_laysSort_112 rfl rfl ?_
        refine qj_iload cx dX7_laysSort_113 rfl ?_
        refine qj_iload_n cx dX7_laysSort_115 rfl rfl ?_
        obtain ⟨q5, eq5, hP⟩ := Option.bind_eq_some_iff.mp hP
        refine qj_callV (As := [.int a6, .int a1]) (st := []) (t := 0) (h' := (I, J, shM)) (r := some (.int q5)) cx dX7_laysSort_116 (c_X7_isThere (I := I) (J := J)  eq5) gc_RX7_292 qm_X7_isThere rfl rfl qc_cl7 rfl (Nat.le_of_ble_eq_true rfl) (by decide) (by decide) rfl (Nat.le_of_ble_eq_true rfl) (Nat.le_of_ble_eq_true rfl) hn0 rfl ?_
        refine qj_if_eq (tgt := 145) cx dX7_laysSort_119 (by decide) (fun c6 => ?_) (fun c6 => ?_)
        · have hP := qc_ifT hP c6
          exact L145 k2 g2 k13 g13 (P_X7_laysSort_103 k2 k13 f) ih I a1 a2 a3 a4 a6 hP
        · have hP := qc_ifF hP c6
          refine qj_iload cx dX7_laysSort_122 rfl ?_
          refine qj_iload_n cx dX7_laysSort_124 rfl rfl ?_
          refine qj_icmp_eq (tgt := 145) cx dX7_laysSort_125 (by decide) (fun c7 => ?_) (fun c7 => ?_)
          · have hP := qc_ifT hP c7
            exact L145 k2 g2 k13 g13 (P_X7_laysSort_103 k2 k13 f) ih I a1 a2 a3 a4 a6 hP
          · have hP := qc_ifF hP c7
            refine qj_iload cx dX7_laysSort_128 rfl ?_
            refine qj_iload cx dX7_laysSort_130 rfl ?_
            refine qj_icmp_eq (tgt := 145) cx dX7_laysSort_132 (by decide) (fun c8 => ?_) (fun c8 => ?_)
            · have hP := qc_ifT hP c8
              exact L145 k2 g2 k13 g13 (P_X7_laysSort_103 k2 k13 f) ih I a1 a2 a3 a4 a6 hP
            · have hP := qc_ifF hP c8
              refine qj_aload_n cx dX7_laysSort_135 rfl rfl ?_
              refine qj_iload_n cx dX7_laysSort_136 rfl rfl ?_
              refine qj_iload_n cx dX7_laysSort_137 rfl rfl ?_
              refine qj_iload cx dX7_laysSort_138 rfl ?_
              refine qj_iload cx dX7_laysSort_140 rfl ?_
              obtain ⟨q9, eq9, hP⟩ := Option.bind_eq_some_iff.mp hP
              refine qj_callV (As := [.int a2, .int a3, .int a4, .int a6]) (st := []) (t := 0) (h' := (q9, J, shM)) (r := none) cx dX7_laysSort_142 (c_X7_adds (I := I) (J := J)  eq9) gc_RX7_296 qm_X7_adds rfl rfl qc_cl7 rfl (Nat.le_of_ble_eq_true rfl) (by decide) (by decide) rfl (Nat.le_of_ble_eq_true rfl) (Nat.le_of_ble_eq_true rfl) hn0 rfl ?_
              exact L145 k2 g2 k13 g13 (P_X7_laysSort_103 k2 k13 f) ih q9 a1 a2 a3 a4 a6 hP
  have L100 : ∀ (k2 : (Nat → Nat → Int32) → Int32 → Int32 → Int32 → Option ((Nat → Nat → Int32))) (g2 : ∀ (I : Nat → Nat → Int32) (a1 : Int32) (a2 : Int32) (a3 : Int32), k2 I a1 a2 a3 = some q0 → qc_J F 0 0 2 [some (.ref 0), some (.int a1), some (.int a2), some (.int a3), none, none, none] [] (I, J, shM)) (k13 : (Nat → Nat → Int32) → Int32 → Int32 → Int32 → Int32 → Option ((Nat → Nat → Int32))) (g13 : ∀ (I : Nat → Nat → Int32) (a1 : Int32) (a2 : Int32) (a3 : Int32) (a4 : Int32), k13 I a1 a2 a3 a4 = some q0 → qc_J F 0 0 13 [some (.ref 0), some (.int a1), some (.int a2), some (.int a3), some (.int a4), none, none] [] (I, J, shM)) (I : (Nat → Nat → Int32)) (a1 : Int32) (a2 : Int32) (a3 : Int32) (a4 : Int32), P_X7_laysSort_100 k2 k13 I a1 a2 a3 a4 = some q0 → qc_J F 0 0 100 [some (.ref 0), some (.int a1), some (.int a2), some (.int a3), some (.int a4), none, none] [] (I, J, shM) := by
    intro k2 g2 k13 g13 I a1 a2 a3 a4 hP
    unfold P_X7_laysSort_100 at hP
    refine qj_iconst (v := (0 : Int32)) cx dX7_laysSort_100 (by decide) ?_
    refine qj_istore (ls1 := [some (.ref 0), some (.int a1), some (.int a2), some (.int a3), some (.int a4), none, some (.int (0 : Int32))]) cx dX7_laysSort_101 rfl rfl rfl ?_
    exact L103 k2 g2 k13 g13 qc_fu I a1 a2 a3 a4 (0 : Int32) hP
  have L77 : ∀ (k2 : (Nat → Nat → Int32) → Int32 → Int32 → Int32 → Option ((Nat → Nat → Int32))) (g2 : ∀ (I : Nat → Nat → Int32) (a1 : Int32) (a2 : Int32) (a3 : Int32), k2 I a1 a2 a3 = some q0 → qc_J F 0 0 2 [some (.ref 0), some (.int a1), some (.int a2), some (.int a3), none, none, none] [] (I, J, shM)) (k13 : (Nat → Nat → Int32) → Int32 → Int32 → Int32 → Int32 → Option ((Nat → Nat → Int32))) (g13 : ∀ (I : Nat → Nat → Int32) (a1 : Int32) (a2 : Int32) (a3 : Int32) (a4 : Int32), k13 I a1 a2 a3 a4 = some q0 → qc_J F 0 0 13 [some (.ref 0), some (.int a1), some (.int a2), some (.int a3), some (.int a4), none, none] [] (I, J, shM)) (I : (Nat → Nat → Int32)) (a1 : Int32) (a2 : Int32) (a3 : Int32) (a4 : Int32), P_X7_laysSort_77 k2 k13 I a1 a2 a3 a4 = some q0 → qc_J F 0 0 77 [some (.ref 0), some (.int a1), some (.int a2), some (.int a3), some (.int a4), none, none] [] (I, J, shM) := by
    intro k2 g2 k13 g13 I a1 a2 a3 a4 hP
    unfold P_X7_laysSort_77 at hP
    refine qj_iload_n cx dX7_laysSort_77 rfl rfl ?_
    refine qj_iconst (v := (3 : Int32)) cx dX7_laysSort_78 (by decide) ?_
    refine qj_icmp_eq (tgt := 100) cx dX7_laysSort_79 (by decide) (fun c10 => ?_) (fun c10 => ?_)
    · have hP := qc_ifT hP c10
      exact L100 k2 g2 k13 g13 I a1 a2 a3 a4 hP
    · have hP := qc_ifF hP c10
      refine qj_iload_n cx dX7_laysSort_82 rfl rfl ?_
      refine qj_iconst (v := (5 : Int32)) cx dX7_laysSort_83 (by decide) ?_
      refine qj_icmp_eq (tgt := 100) cx dX7_laysSort_84 (by decide) (fun c11 => ?_) (fun c11 => ?_)
      · have hP := qc_ifT hP c11
        exact L100 k2 g2 k13 g13 I a1 a2 a3 a4 hP
      · have hP := qc_ifF hP c11
        refine qj_aload_n cx dX7_laysSort_87 rfl rfl ?_
        refine qj_iload_n cx dX7_laysSort_88 rfl rfl ?_
        refine qj_iload_n cx dX7_laysSort_89 rfl rfl ?_
        refine qj_iload cx dX7_laysSort_90 rfl ?_
        refine qj_bipush (v := (-2 : Int32)) cx dX7_laysSort_92 (by decide) ?_
        obtain ⟨q12, eq12, hP⟩ := Option.bind_eq_some_iff.mp hP
        refine qj_callV (As := [.int a2, .int a3, .int a4, .int (-2 : Int32)]) (st := []) (t := 0) (h' := (q12, J, shM)) (r := none) cx dX7_laysSort_94 (c_X7_adds (I := I) (J := J)  eq12) gc_RX7_296 qm_X7_adds rfl rfl qc_cl7 rfl (Nat.le_of_ble_eq_true rfl) (by decide) (by decide) rfl (Nat.le_of_ble_eq_true rfl) (Nat.le_of_ble_eq_true rfl) hn0 rfl ?_
        refine qj_goto (tgt := 151) cx dX7_laysSort_97 (by decide) ?_
        exact L151 k2 g2 k13 g13 q12 a1 a2 a3 a4 hP
  have L13 : ∀ (k2 : (Nat → Nat → Int32) → Int32 → Int32 → Int32 → Option ((Nat → Nat → Int32))) (g2 : ∀ (I : Nat → Nat → Int32) (a1 : Int32) (a2 : Int32) (a3 : Int32), k2 I a1 a2 a3 = some q0 → qc_J F 0 0 2 [some (.ref 0), some (.int a1), some (.int a2), some (.int a3), none, none, none] [] (I, J, shM)) (f : Nat) (I : (Nat → Nat → Int32)) (a1 : Int32) (a2 : Int32) (a3 : Int32) (a4 : Int32), P_X7_laysSort_13 k2 f I a1 a2 a3 a4 = some q0 → qc_J F 0 0 13 [some (.ref 0), some (.int a1), some (.int a2), some (.int a3), some (.int a4), none, none] [] (I, J, shM) := by
    intro k2 g2 f
    induction f with
    | zero => intro I a1 a2 a3 a4 hP; cases hP
    | succ f ih =>
      intro I a1 a2 a3 a4 hP
      rw [P_X7_laysSort_13] at hP
      refine qj_iload cx dX7_laysSort_13 rfl ?_
      refine qj_aload_n cx dX7_laysSort_15 rfl rfl ?_
      obtain ⟨q13, eq13, hP⟩ := Option.bind_eq_some_iff.mp hP
      refine qj_callV (As := []) (st := [.int a4]) (t := 0) (h' := (I, J, shM)) (r := some (.int q13)) cx dX7_laysSort_16 (c_X7_users (I := I) (J := J)  eq13) gc_RX7_232 qm_X7_users rfl rfl qc_cl7 rfl (Nat.le_of_ble_eq_true rfl) (by decide) (by decide) rfl (Nat.le_of_ble_eq_true rfl) (Nat.le_of_ble_eq_true rfl) hn0 rfl ?_
      refine qj_icmp_ge (tgt := 157) cx dX7_laysSort_19 (by decide) (fun c14 => ?_) (fun c14 => ?_)
      · have hP := qc_ifT hP c14
        obtain ⟨x15, ex15, hP⟩ := qc_letE hP
        refine qj_iinc (v := x15) (ls1 := [some (.ref 0), some (.int a1), some (.int a2), some (.int x15), some (.int a4), none, none]) cx dX7_laysSort_157 rfl (by rw [ex15]; rfl) rfl rfl ?_
        refine qj_goto (tgt := 2) cx dX7_laysSort_160 (by decide) ?_
        refine qw_sub (ls1 := [some (.ref 0), some (.int a1), some (.int a2), some (.int x15), none, none, none]) rfl (qc_sb_ok ⟨rfl, rfl, rfl, rfl, trivial⟩) ?_
        exact g2 I a1 a2 x15 hP
      · have hP := qc_ifF hP c14
        refine qj_iload_n cx dX7_laysSort_22 rfl rfl ?_
        obtain ⟨v17, hv17, hP⟩ := Option.bind_eq_some_iff.mp hP
        have Kv17 : qc_J F 0 0 36 [some (.ref 0), some (.int a1), some (.int a2), some (.int a3), some (.int a4), none, none] [.int v17] (I, J, shM) := by
          refine qj_istore (ls1 := [some (.ref 0), some (.int a1), some (.int a2), some (.int a3), some (.int a4), some (.int v17), none]) cx dX7_laysSort_36 rfl rfl rfl ?_
          refine qj_aload_n cx dX7_laysSort_38 rfl rfl ?_
          refine qj_iload_n cx dX7_laysSort_39 rfl rfl ?_
          refine qj_iload_n cx dX7_laysSort_40 rfl rfl ?_
          obtain ⟨q19, eq19, hP⟩ := Option.bind_eq_some_iff.mp hP
          refine qj_callV (As := [.int a3, .int a1]) (st := []) (t := 0) (h' := (I, J, shM)) (r := some (.int q19)) cx dX7_laysSort_41 (c_X7_isThere (I := I) (J := J)  eq19) gc_RX7_292 qm_X7_isThere rfl rfl qc_cl7 rfl (Nat.le_of_ble_eq_true rfl) (by decide) (by decide) rfl (Nat.le_of_ble_eq_true rfl) (Nat.le_of_ble_eq_true rfl) hn0 rfl ?_
          refine qj_if_eq (tgt := 151) cx dX7_laysSort_44 (by decide) (fun c20 => ?_) (fun c20 => ?_)
          · have hP := qc_ifT hP c20
            refine qw_sub (ls1 := [some (.ref 0), some (.int a1), some (.int a2), some (.int a3), some (.int a4), none, none]) rfl (qc_sb_ok ⟨rfl, rfl, rfl, rfl, rfl, trivial⟩) ?_
            exact L151 k2 g2 (P_X7_laysSort_13 k2 f) ih I a1 a2 a3 a4 hP
          · have hP := qc_ifF hP c20
            refine qj_aload_n cx dX7_laysSort_47 rfl rfl ?_
            refine qj_iload cx dX7_laysSort_48 rfl ?_
            refine qj_iload_n cx dX7_laysSort_50 rfl rfl ?_
            obtain ⟨q21, eq21, hP⟩ := Option.bind_eq_some_iff.mp hP
            refine qj_callV (As := [.int a4, .int a1]) (st := []) (t := 0) (h' := (I, J, shM)) (r := some (.int q21)) cx dX7_laysSort_51 (c_X7_isThere (I := I) (J := J)  eq21) gc_RX7_292 qm_X7_isThere rfl rfl qc_cl7 rfl (Nat.le_of_ble_eq_true rfl) (by decide) (by decide) rfl (Nat.le_of_ble_eq_true rfl) (Nat.le_of_ble_eq_true rfl) hn0 rfl ?_
            refine qj_if_eq (tgt := 151) cx dX7_laysSort_54 (by decide) (fun c22 => ?_) (fun c22 => ?_)
            · have hP := qc_ifT hP c22
              refine qw_sub (ls1 := [some (.ref 0), some (.int a1), some (.int a2), some (.int a3), some (.int a4), none, none]) rfl (qc_sb_ok ⟨rfl, rfl, rfl, rfl, rfl, trivial⟩) ?_
              exact L151 k2 g2 (P_X7_laysSort_13 k2 f) ih I a1 a2 a3 a4 hP
            · have hP := qc_ifF hP c22
              refine qj_iload_n cx dX7_laysSort_57 rfl rfl ?_
              refine qj_iload cx dX7_laysSort_58 rfl ?_
              refine qj_icmp_eq (tgt := 151) cx dX7_laysSort_60 (by decide) (fun c23 => ?_) (fun c23 => ?_)
              · have hP := qc_ifT hP c23
                refine qw_sub (ls1 := [some (.ref 0), some (.int a1), some (.int a2), some (.int a3), some (.int a4), none, none]) rfl (qc_sb_ok ⟨rfl, rfl, rfl, rfl, rfl, trivial⟩) ?_
                exact L151 k2 g2 (P_X7_laysSort_13 k2 f) ih I a1 a2 a3 a4 hP
              · have hP := qc_ifF hP c23
                refine qj_iload cx dX7_laysSort_63 rfl ?_
                refine qj_if_eq (tgt := 77) cx dX7_laysSort_65 (by decide) (fun c24 => ?_) (fun c24 => ?_)
                · have hP := qc_ifT hP c24
                  refine qw_sub (ls1 := [some (.ref 0), some (.int a1), some (.int a2), some (.int a3), some (.int a4), none, none]) rfl (qc_sb_ok ⟨rfl, rfl, rfl, rfl, rfl, trivial⟩) ?_
                  exact L77 k2 g2 (P_X7_laysSort_13 k2 f) ih I a1 a2 a3 a4 hP
                · have hP := qc_ifF hP c24
                  refine qj_iload_n cx dX7_laysSort_68 rfl rfl ?_
                  refine qj_iload cx dX7_laysSort_69 rfl ?_
                  refine qj_icmp_le (tgt := 77) cx dX7_laysSort_71 (by decide) (fun c25 => ?_) (fun c25 => ?_)
                  · have hP := qc_ifT hP c25
                    refine qw_sub (ls1 := [some (.ref 0), some (.int a1), some (.int a2), some (.int a3), some (.int a4), none, none]) rfl (qc_sb_ok ⟨rfl, rfl, rfl, rfl, rfl, trivial⟩) ?_
                    exact L77 k2 g2 (P_X7_laysSort_13 k2 f) ih I a1 a2 a3 a4 hP
                  · have hP := qc_ifF hP c25
                    refine qj_goto (tgt := 151) cx dX7_laysSort_74 (by decide) ?_
                    refine qw_sub (ls1 := [some (.ref 0), some (.int a1), some (.int a2), some (.int a3), some (.int a4), none, none]) rfl (qc_sb_ok ⟨rfl, rfl, rfl, rfl, rfl, trivial⟩) ?_
                    exact L151 k2 g2 (P_X7_laysSort_13 k2 f) ih I a1 a2 a3 a4 hP
        refine qj_if_eq (tgt := 31) cx dX7_laysSort_23 (by decide) (fun c16 => ?_) (fun c16 => ?_)
        · have hv17 := qc_ifT hv17 c16
          refine qj_iconst (v := (1 : Int32)) cx dX7_laysSort_31 (by decide) ?_
          refine qj_goto (tgt := 36) cx dX7_laysSort_32 (by decide) ?_
          exact qw_top (Option.some.inj hv17).symm Kv17
        · have hv17 := qc_ifF hv17 c16
          refine qj_iload_n cx dX7_laysSort_26 rfl rfl ?_
          refine qj_iconst (v := (3 : Int32)) cx dX7_laysSort_27 (by decide) ?_
          refine qj_icmp_ne (tgt := 35) cx dX7_laysSort_28 (by decide) (fun c18 => ?_) (fun c18 => ?_)
          · have hv17 := qc_ifF hv17 c18
            refine qj_iconst (v := (0 : Int32)) cx dX7_laysSort_35 (by decide) ?_
            exact qw_top (Option.some.inj hv17).symm Kv17
          · have hv17 := qc_ifT hv17 c18
            refine qj_iconst (v := (1 : Int32)) cx dX7_laysSort_31 (by decide) ?_
            refine qj_goto (tgt := 36) cx dX7_laysSort_32 (by decide) ?_
            exact qw_top (Option.some.inj hv17).symm Kv17
  have L2 : ∀  (f : Nat) (I : (Nat → Nat → Int32)) (a1 : Int32) (a2 : Int32) (a3 : Int32), P_X7_laysSort_2 f I a1 a2 a3 = some q0 → qc_J F 0 0 2 [some (.ref 0), some (.int a1), some (.int a2), some (.int a3), none, none, none] [] (I, J, shM) := by
    intro  f
    induction f with
    | zero => intro I a1 a2 a3 hP; cases hP
    | succ f ih =>
      intro I a1 a2 a3 hP
      rw [P_X7_laysSort_2] at hP
      refine qj_iload_n cx dX7_laysSort_2 rfl rfl ?_
      refine qj_aload_n cx dX7_laysSort_3 rfl rfl ?_
      obtain ⟨q26, eq26, hP⟩ := Option.bind_eq_some_iff.mp hP
      refine qj_callV (As := []) (st := [.int a3]) (t := 0) (h' := (I, J, shM)) (r := some (.int q26)) cx dX7_laysSort_4 (c_X7_users (I := I) (J := J)  eq26) gc_RX7_232 qm_X7_users rfl rfl qc_cl7 rfl (Nat.le_of_ble_eq_true rfl) (by decide) (by decide) rfl (Nat.le_of_ble_eq_true rfl) (Nat.le_of_ble_eq_true rfl) hn0 rfl ?_
      refine qj_icmp_ge (tgt := 163) cx dX7_laysSort_7 (by decide) (fun c27 => ?_) (fun c27 => ?_)
      · have hP := qc_ifT hP c27
        exact qw_vret cx hz dX7_laysSort_163 (Nat.zero_le _) (Nat.zero_le _) (Option.some.inj hP) rfl
      · have hP := qc_ifF hP c27
        refine qj_iconst (v := (0 : Int32)) cx dX7_laysSort_10 (by decide) ?_
        refine qj_istore (ls1 := [some (.ref 0), some (.int a1), some (.int a2), some (.int a3), some (.int (0 : Int32)), none, none]) cx dX7_laysSort_11 rfl rfl rfl ?_
        exact L13 (P_X7_laysSort_2 f) ih qc_fu I a1 a2 a3 (0 : Int32) hP
  show qc_J F 0 0 0 [some (.ref 0), some (.int a), some (.int b), none, none, none, none] [] (I, J, shM)
  unfold P_X7_laysSort at hP
  refine qj_iconst (v := (0 : Int32)) cx dX7_laysSort_0 (by decide) ?_
  refine qj_istore_n (ls1 := [some (.ref 0), some (.int a), some (.int b), some (.int (0 : Int32)), none, none, none]) cx dX7_laysSort_1 rfl rfl rfl rfl ?_
  exact L2 qc_fu I a b (0 : Int32) hP
def P_X7_isIn (I : Nat → Nat → Int32) (a : Int32) (b : Int32) : Option (Int32) :=
  if qc_in a 300 then
  (if I 17 a.toNatClampNeg = b then
  some (1 : Int32)
  else
  if qc_in a 300 then
  if I 18 a.toNatClampNeg = b then
  some (1 : Int32)
  else
  if qc_in a 300 then
  if I 19 a.toNatClampNeg = b then
  some (1 : Int32)
  else
  some (0 : Int32)
  else none
  else none).bind fun v3 =>
  if qc_bo v3 then some v3 else none
  else none
set_option maxRecDepth 20000 in
theorem c_X7_isIn {I : Nat → Nat → Int32} {J : Nat → Nat → Int64}  {a : Int32} {b : Int32} {q0 : Int32} (hP : P_X7_isIn I a b = some q0) : ∀ l, qc_M l yX7_isIn cX7_isIn 3 (some .boolean) 0 0 0 0 [.ref 0, .int a, .int b] (I, J, shM) (some (.int q0)) (I, J, shM) := by
  intro l
  refine qc_ent2 (by decide) (Nat.le_of_ble_eq_true rfl) ?_
  intro F hn0 cx hz
  have cx : qc_X F cX7_isIn RX7 "isIn" 0 0 0 0 := cx
  show qc_J F 0 0 0 [some (.ref 0), some (.int a), some (.int b)] [] (I, J, shM)
  unfold P_X7_isIn at hP
  refine qj_aload_n cx dX7_isIn_0 rfl rfl ?_
  refine qw_getR (j := 35) (t1 := 17) cx dX7_isIn_1 qc_cl7 rfl (Nat.le_of_ble_eq_true rfl) rfl ww_1127 rfl ?_
  refine qj_iload_n cx dX7_isIn_4 rfl rfl ?_
  obtain ⟨c1, hP⟩ := qc_ck hP
  refine qw_iald cx dX7_isIn_5 rfl (Nat.le_of_ble_eq_true rfl) rfl c1 ?_
  refine qj_iload_n cx dX7_isIn_6 rfl rfl ?_
  obtain ⟨v3, hv3, hP⟩ := Option.bind_eq_some_iff.mp hP
  have Kv3 : qc_J F 0 0 35 [some (.ref 0), some (.int a), some (.int b)] [.int v3] (I, J, shM) := by
    obtain ⟨c8, hP⟩ := qc_ck hP
    exact qw_zret cx hz dX7_isIn_35 (qc_bo_n c8) (Nat.zero_le _) (Nat.zero_le _) (Option.some.inj hP) rfl rfl
  refine qj_icmp_eq (tgt := 30) cx dX7_isIn_7 (by decide) (fun c2 => ?_) (fun c2 => ?_)
  · have hv3 := qc_ifT hv3 c2
    refine qj_iconst (v := (1 : Int32)) cx dX7_isIn_30 (by decide) ?_
    refine qj_goto (tgt := 35) cx dX7_isIn_31 (by decide) ?_
    exact qw_top (Option.some.inj hv3).symm Kv3
  · have hv3 := qc_ifF hv3 c2
    refine qj_aload_n cx dX7_isIn_10 rfl rfl ?_
    refine qw_getR (j := 36) (t1 := 18) cx dX7_isIn_11 qc_cl7 rfl (Nat.le_of_ble_eq_true rfl) rfl ww_1128 rfl ?_
    refine qj_iload_n cx dX7_isIn_14 rfl rfl ?_
    obtain ⟨c4, hv3⟩ := qc_ck hv3
    refine qw_iald cx dX7_isIn_15 rfl (Nat.le_of_ble_eq_true rfl) rfl c4 ?_
    refine qj_iload_n cx dX7_isIn_16 rfl rfl ?_
    refine qj_icmp_eq (tgt := 30) cx dX7_isIn_17 (by decide) (fun c5 => ?_) (fun c5 => ?_)
    · have hv3 := qc_ifT hv3 c5
      refine qj_iconst (v := (1 : Int32)) cx dX7_isIn_30 (by decide) ?_
      refine qj_goto (tgt := 35) cx dX7_isIn_31 (by decide) ?_
      exact qw_top (Option.some.inj hv3).symm Kv3
    · have hv3 := qc_ifF hv3 c5
      refine qj_aload_n cx dX7_isIn_20 rfl rfl ?_
      refine qw_getR (j := 37) (t1 := 19) cx dX7_isIn_21 qc_cl7 rfl (Nat.le_of_ble_eq_true rfl) rfl ww_1129 rfl ?_
      refine qj_iload_n cx dX7_isIn_24 rfl rfl ?_
      obtain ⟨c6, hv3⟩ := qc_ck hv3
      refine qw_iald cx dX7_isIn_25 rfl (Nat.le_of_ble_eq_true rfl) rfl c6 ?_
      refine qj_iload_n cx dX7_isIn_26 rfl rfl ?_
      refine qj_icmp_ne (tgt := 34) cx dX7_isIn_27 (by decide) (fun c7 => ?_) (fun c7 => ?_)
      · have hv3 := qc_ifF hv3 c7
        refine qj_iconst (v := (0 : Int32)) cx dX7_isIn_34 (by decide) ?_
        exact qw_top (Option.some.inj hv3).symm Kv3
      · have hv3 := qc_ifT hv3 c7
        refine qj_iconst (v := (1 : Int32)) cx dX7_isIn_30 (by decide) ?_
        refine qj_goto (tgt := 35) cx dX7_isIn_31 (by decide) ?_
        exact qw_top (Option.some.inj hv3).symm Kv3
def P_X7_mayHit (I : Nat → Nat → Int32) (a : Int32) (b : Int32) : Option (Int32) :=
  if qc_in a 300 then
  if I 21 a.toNatClampNeg < 0 then
  some (0 : Int32)
  else
  if qc_in ((0 : Int32) + b) 79 then
  if I 13 ((0 : Int32) + b).toNatClampNeg = 0 then
  some (0 : Int32)
  else
  (P_X7_isIn I a b).bind fun q5 =>
  if q5 = 0 then
  (if qc_in a 300 then
  if qc_in ((73 : Int32) + b) 79 then
  if (I 22 a.toNatClampNeg) &&& (I 13 ((73 : Int32) + b).toNatClampNeg) = 0 then
  some (0 : Int32)
  else
  if qc_in a 300 then
  if qc_in (I 17 a.toNatClampNeg) 12 then
  qc_let (I 5 (I 17 a.toNatClampNeg).toNatClampNeg) fun x12 =>
  if qc_in b 12 then
  if I 5 b.toNatClampNeg = x12 then
  some (1 : Int32)
  else
  if qc_in b 12 then
  if qc_in (((3 : Int32) * x12) + (I 5 b.toNatClampNeg)) 18 then
  qc_let (I 11 (((3 : Int32) * x12) + (I 5 b.toNatClampNeg)).toNatClampNeg) fun x17 =>
  (if x17 = (-2 : Int32) then
  some (0 : Int32)
  else
  if qc_in a 300 then
  if I 21 a.toNatClampNeg < x17 then
  some (0 : Int32)
  else
  some (1 : Int32)
  else none).bind fun v19 =>
  if qc_bo v19 then some v19 else none
  else none
  else none
  else none
  else none
  else none
  else none
  else none)
  else
  some (0 : Int32)
  else none
  else none
set_option maxRecDepth 20000 in
theorem c_X7_mayHit {I : Nat → Nat → Int32} {J : Nat → Nat → Int64}  {a : Int32} {b : Int32} {q0 : Int32} (hP : P_X7_mayHit I a b = some q0) : ∀ l, qc_M l yX7_mayHit cX7_mayHit 5 (some .boolean) 1 22 0 0 [.ref 0, .int a, .int b] (I, J, shM) (some (.int q0)) (I, J, shM) := by
  intro l
  refine qc_ent2 (by decide) (Nat.le_of_ble_eq_true rfl) ?_
  intro F hn0 cx hz
  have cx : qc_X F cX7_mayHit RX7 "mayHit" 1 0 0 22 := cx
  show qc_J F 0 0 0 [some (.ref 0), some (.int a), some (.int b), none, none] [] (I, J, shM)
  unfold P_X7_mayHit at hP
  refine qj_aload_n cx dX7_mayHit_0 rfl rfl ?_
  refine qw_getR (j := 39) (t1 := 21) cx dX7_mayHit_1 qc_cl7 rfl (Nat.le_of_ble_eq_true rfl) rfl ww_1131 rfl ?_
  refine qj_iload_n cx dX7_mayHit_4 rfl rfl ?_
  obtain ⟨c1, hP⟩ := qc_ck hP
  refine qw_iald cx dX7_mayHit_5 rfl (Nat.le_of_ble_eq_true rfl) rfl c1 ?_
  refine qj_if_lt (tgt := 48) cx dX7_mayHit_6 (by decide) (fun c2 => ?_) (fun c2 => ?_)
  · have hP := qc_ifT hP c2
    refine qj_iconst (v := (0 : Int32)) cx dX7_mayHit_48 (by decide) ?_
    exact qw_zret cx hz dX7_mayHit_49 (by decide) (Nat.zero_le _) (Nat.zero_le _) (Option.some.inj hP) rfl rfl
  · have hP := qc_ifF hP c2
    refine qj_aload_n cx dX7_mayHit_9 rfl rfl ?_
    refine qw_getR (j := 25) (t1 := 13) cx dX7_mayHit_10 qc_cl7 rfl (Nat.le_of_ble_eq_true rfl) rfl ww_1117 rfl ?_
    refine qj_iconst (v := (0 : Int32)) cx dX7_mayHit_13 (by decide) ?_
    refine qj_iload_n cx dX7_mayHit_14 rfl rfl ?_
    refine qj_iadd cx dX7_mayHit_15 ?_
    obtain ⟨c3, hP⟩ := qc_ck hP
    refine qw_iald cx dX7_mayHit_16 rfl (Nat.le_of_ble_eq_true rfl) rfl c3 ?_
    refine qj_if_eq (tgt := 48) cx dX7_mayHit_17 (by decide) (fun c4 => ?_) (fun c4 => ?_)
    · have hP := qc_ifT hP c4
      refine qj_iconst (v := (0 : Int32)) cx dX7_mayHit_48 (by decide) ?_
      exact qw_zret cx hz dX7_mayHit_49 (by decide) (Nat.zero_le _) (Nat.zero_le _) (Option.some.inj hP) rfl rfl
    · have hP := qc_ifF hP c4
      refine qj_aload_n cx dX7_mayHit_20 rfl rfl ?_
      refine qj_iload_n cx dX7_mayHit_21 rfl rfl ?_
      refine qj_iload_n cx dX7_mayHit_22 rfl rfl ?_
      obtain ⟨q5, eq5, hP⟩ := Option.bind_eq_some_iff.mp hP
      refine qj_callV (As := [.int a, .int b]) (st := []) (t := 0) (h' := (I, J, shM)) (r := some (.int q5)) cx dX7_mayHit_23 (c_X7_isIn (I := I) (J := J)  eq5) gc_RX7_302 qm_X7_isIn rfl rfl qc_cl7 rfl (Nat.le_of_ble_eq_true rfl) (by decide) (by decide) rfl (Nat.le_of_ble_eq_true rfl) (Nat.le_of_ble_eq_true rfl) hn0 rfl ?_
      refine qj_if_ne (tgt := 48) cx dX7_mayHit_26 (by decide) (fun c6 => ?_) (fun c6 => ?_)
      · have hP := qc_ifF hP c6
        refine qj_iconst (v := (0 : Int32)) cx dX7_mayHit_48 (by decide) ?_
        exact qw_zret cx hz dX7_mayHit_49 (by decide) (Nat.zero_le _) (Nat.zero_le _) (Option.some.inj hP) rfl rfl
      · have hP := qc_ifT hP c6
        refine qj_aload_n cx dX7_mayHit_29 rfl rfl ?_
        refine qw_getR (j := 40) (t1 := 22) cx dX7_mayHit_30 qc_cl7 rfl (Nat.le_of_ble_eq_true rfl) rfl ww_1132 rfl ?_
        refine qj_iload_n cx dX7_mayHit_33 rfl rfl ?_
        obtain ⟨c7, hP⟩ := qc_ck hP
        refine qw_iald cx dX7_mayHit_34 rfl (Nat.le_of_ble_eq_true rfl) rfl c7 ?_
        refine qj_aload_n cx dX7_mayHit_35 rfl rfl ?_
        refine qw_getR (j := 25) (t1 := 13) cx dX7_mayHit_36 qc_cl7 rfl (Nat.le_of_ble_eq_true rfl) rfl ww_1117 rfl ?_
        refine qj_bipush (v := (73 : Int32)) cx dX7_mayHit_39 (by decide) ?_
        refine qj_iload_n cx dX7_mayHit_41 rfl rfl ?_
        refine qj_iadd cx dX7_mayHit_42 ?_
        obtain ⟨c8, hP⟩ := qc_ck hP
        refine qw_iald cx dX7_mayHit_43 rfl (Nat.le_of_ble_eq_true rfl) rfl c8 ?_
        refine qj_iand cx dX7_mayHit_44 ?_
        refine qj_if_ne (tgt := 50) cx dX7_mayHit_45 (by decide) (fun c9 => ?_) (fun c9 => ?_)
        · have hP := qc_ifF hP c9
          refine qj_aload_n cx dX7_mayHit_50 rfl rfl ?_
          refine qw_getR (j := 6) (t1 := 5) cx dX7_mayHit_51 qc_cl7 rfl (Nat.le_of_ble_eq_true rfl) rfl ww_1098 rfl ?_
          refine qj_aload_n cx dX7_mayHit_54 rfl rfl ?_
          refine qw_getR (j := 35) (t1 := 17) cx dX7_mayHit_55 qc_cl7 rfl (Nat.le_of_ble_eq_true rfl) rfl ww_1127 rfl ?_
          refine qj_iload_n cx dX7_mayHit_58 rfl rfl ?_
          obtain ⟨c10, hP⟩ := qc_ck hP
          refine qw_iald cx dX7_mayHit_59 rfl (Nat.le_of_ble_eq_true rfl) rfl c10 ?_
          obtain ⟨c11, hP⟩ := qc_ck hP
          refine qw_iald cx dX7_mayHit_60 rfl (Nat.le_of_ble_eq_true rfl) rfl c11 ?_
          obtain ⟨x12, ex12, hP⟩ := qc_letE hP
          refine qw_top ex12 ?_
          refine qj_istore_n (ls1 := [some (.ref 0), some (.int a), some (.int b), some (.int x12), none]) cx dX7_mayHit_61 rfl rfl rfl rfl ?_
          refine qj_aload_n cx dX7_mayHit_62 rfl rfl ?_
          refine qw_getR (j := 6) (t1 := 5) cx dX7_mayHit_63 qc_cl7 rfl (Nat.le_of_ble_eq_true rfl) rfl ww_1098 rfl ?_
          refine qj_iload_n cx dX7_mayHit_66 rfl rfl ?_
          obtain ⟨c13, hP⟩ := qc_ck hP
          refine qw_iald cx dX7_mayHit_67 rfl (Nat.le_of_ble_eq_true rfl) rfl c13 ?_
          refine qj_iload_n cx dX7_mayHit_68 rfl rfl ?_
          refine qj_icmp_ne (tgt := 74) cx dX7_mayHit_69 (by decide) (fun c14 => ?_) (fun c14 => ?_)
          · have hP := qc_ifF hP c14
            refine qj_aload_n cx dX7_mayHit_74 rfl rfl ?_
            refine qw_getR (j := 12) (t1 := 11) cx dX7_mayHit_75 qc_cl7 rfl (Nat.le_of_ble_eq_true rfl) rfl ww_1104 rfl ?_
            refine qj_iconst (v := (3 : Int32)) cx dX7_mayHit_78 (by decide) ?_
            refine qj_iload_n cx dX7_mayHit_79 rfl rfl ?_
            refine qj_imul cx dX7_mayHit_80 ?_
            refine qj_aload_n cx dX7_mayHit_81 rfl rfl ?_
            refine qw_getR (j := 6) (t1 := 5) cx dX7_mayHit_82 qc_cl7 rfl (Nat.le_of_ble_eq_true rfl) rfl ww_1098 rfl ?_
            refine qj_iload_n cx dX7_mayHit_85 rfl rfl ?_
            obtain ⟨c15, hP⟩ := qc_ck hP
            refine qw_iald cx dX7_mayHit_86 rfl (Nat.le_of_ble_eq_true rfl) rfl c15 ?_
            refine qj_iadd cx dX7_mayHit_87 ?_
            obtain ⟨c16, hP⟩ := qc_ck hP
            refine qw_iald cx dX7_mayHit_88 rfl (Nat.le_of_ble_eq_true rfl) rfl c16 ?_
            obtain ⟨x17, ex17, hP⟩ := qc_letE hP
            refine qw_top ex17 ?_
            refine qj_istore (ls1 := [some (.ref 0), some (.int a), some (.int b), some (.int x12), some (.int x17)]) cx dX7_mayHit_89 rfl rfl rfl ?_
            refine qj_iload cx dX7_mayHit_91 rfl ?_
            refine qj_bipush (v := (-2 : Int32)) cx dX7_mayHit_93 (by decide) ?_
            obtain ⟨v19, hv19, hP⟩ := Option.bind_eq_some_iff.mp hP
            have Kv19 : qc_J F 0 0 114 [some (.ref 0), some (.int a), some (.int b), some (.int x12), some (.int x17)] [.int v19] (I, J, shM) := by
              obtain ⟨c22, hP⟩ := qc_ck hP
              exact qw_zret cx hz dX7_mayHit_114 (qc_bo_n c22) (Nat.zero_le _) (Nat.zero_le _) (Option.some.inj hP) rfl rfl
            refine qj_icmp_eq (tgt := 113) cx dX7_mayHit_95 (by decide) (fun c18 => ?_) (fun c18 => ?_)
            · have hv19 := qc_ifT hv19 c18
              refine qj_iconst (v := (0 : Int32)) cx dX7_mayHit_113 (by decide) ?_
              exact qw_top (Option.some.inj hv19).symm Kv19
            · have hv19 := qc_ifF hv19 c18
              refine qj_aload_n cx dX7_mayHit_98 rfl rfl ?_
              refine qw_getR (j := 39) (t1 := 21) cx dX7_mayHit_99 qc_cl7 rfl (Nat.le_of_ble_eq_true rfl) rfl ww_1131 rfl ?_
              refine qj_iload_n cx dX7_mayHit_102 rfl rfl ?_
              obtain ⟨c20, hv19⟩ := qc_ck hv19
              refine qw_iald cx dX7_mayHit_103 rfl (Nat.le_of_ble_eq_true rfl) rfl c20 ?_
              refine qj_iload cx dX7_mayHit_104 rfl ?_
              refine qj_icmp_lt (tgt := 113) cx dX7_mayHit_106 (by decide) (fun c21 => ?_) (fun c21 => ?_)
              · have hv19 := qc_ifT hv19 c21
                refine qj_iconst (v := (0 : Int32)) cx dX7_mayHit_113 (by decide) ?_
                exact qw_top (Option.some.inj hv19).symm Kv19
              · have hv19 := qc_ifF hv19 c21
                refine qj_iconst (v := (1 : Int32)) cx dX7_mayHit_109 (by decide) ?_
                refine qj_goto (tgt := 114) cx dX7_mayHit_110 (by decide) ?_
                exact qw_top (Option.some.inj hv19).symm Kv19
          · have hP := qc_ifT hP c14
            refine qj_iconst (v := (1 : Int32)) cx dX7_mayHit_72 (by decide) ?_
            exact qw_zret cx hz dX7_mayHit_73 (by decide) (Nat.zero_le _) (Nat.zero_le _) (Option.some.inj hP) rfl rfl
        · have hP := qc_ifT hP c9
          refine qj_iconst (v := (0 : Int32)) cx dX7_mayHit_48 (by decide) ?_
          exact qw_zret cx hz dX7_mayHit_49 (by decide) (Nat.zero_le _) (Nat.zero_le _) (Option.some.inj hP) rfl rfl
def P_X7_bits_4  : Nat → Int32 → Int32 → Option (Int32)
  | 0, _, _ => none
  | f + 1, a1, a2 =>
  if a2 = 0 then
  some a1
  else
  qc_let (a1 + (1 : Int32)) fun x2 =>
  qc_let (a2 &&& (a2 - (1 : Int32))) fun x3 =>
  P_X7_bits_4 f x2 x3
def P_X7_bits (a : Int32) : Option (Int32) :=
  P_X7_bits_4 qc_fu (0 : Int32) a
set_option maxRecDepth 20000 in
theorem c_X7_bits {I : Nat → Nat → Int32} {J : Nat → Nat → Int64} {S : qc_Sh} {a : Int32} {q0 : Int32} (hP : P_X7_bits a = some q0) : ∀ l, qc_M l yX7_bits cX7_bits 3 (some .int) 0 0 0 0 [.int a] (I, J, S) (some (.int q0)) (I, J, S) := by
  intro l
  refine qc_ent2 (by decide) (Nat.le_of_ble_eq_true rfl) ?_
  intro F hn0 cx hz
  have cx : qc_X F cX7_bits RX7 "bits" 0 0 0 0 := cx
  have L4 : ∀  (f : Nat) (a1 : Int32) (a2 : Int32), P_X7_bits_4 f a1 a2 = some q0 → qc_J F 0 0 4 [none, some (.int a1), some (.int a2)] [] (I, J, S) := by
    intro  f
    induction f with
    | zero => intro a1 a2 hP; cases hP
    | succ f ih =>
      intro a1 a2 hP
      rw [P_X7_bits_4] at hP
      refine qj_iload_n cx dX7_bits_4 rfl rfl ?_
      refine qj_if_eq (tgt := 20) cx dX7_bits_5 (by decide) (fun c1 => ?_) (fun c1 => ?_)
      · have hP := qc_ifT hP c1
        refine qj_iload_n cx dX7_bits_20 rfl rfl ?_
        exact qw_iret cx hz dX7_bits_21 (Nat.zero_le _) (Nat.zero_le _) (Option.some.inj hP) rfl rfl
      · have hP := qc_ifF hP c1
        obtain ⟨x2, ex2, hP⟩ := qc_letE hP
        refine qj_iinc (v := x2) (ls1 := [none, some (.int x2), some (.int a2)]) cx dX7_bits_8 rfl (by rw [ex2]; rfl) rfl rfl ?_
        refine qj_iload_n cx dX7_bits_11 rfl rfl ?_
        refine qj_iload_n cx dX7_bits_12 rfl rfl ?_
        refine qj_iconst (v := (1 : Int32)) cx dX7_bits_13 (by decide) ?_
        refine qj_isub cx dX7_bits_14 ?_
        refine qj_iand cx dX7_bits_15 ?_
        obtain ⟨x3, ex3, hP⟩ := qc_letE hP
        refine qw_top ex3 ?_
        refine qj_istore_n (ls1 := [none, some (.int x2), some (.int x3)]) cx dX7_bits_16 rfl rfl rfl rfl ?_
        refine qj_goto (tgt := 4) cx dX7_bits_17 (by decide) ?_
        exact ih x2 x3 hP
  show qc_J F 0 0 0 [some (.int a), none, none] [] (I, J, S)
  unfold P_X7_bits at hP
  refine qj_iconst (v := (0 : Int32)) cx dX7_bits_0 (by decide) ?_
  refine qj_istore_n (ls1 := [some (.int a), some (.int (0 : Int32)), none]) cx dX7_bits_1 rfl rfl rfl rfl ?_
  refine qj_iload_n cx dX7_bits_2 rfl rfl ?_
  refine qj_istore_n (ls1 := [some (.int a), some (.int (0 : Int32)), some (.int a)]) cx dX7_bits_3 rfl rfl rfl rfl ?_
  refine qw_sub (ls1 := [none, some (.int (0 : Int32)), some (.int a)]) rfl (qc_sb_ok ⟨rfl, rfl, trivial⟩) ?_
  exact L4 qc_fu (0 : Int32) a hP
def P_X7_crowd (I : Nat → Nat → Int32) (a : Int32) (b : Int32) : Option (Int32) :=
  (if a = b then
  some (0 : Int32)
  else
  if qc_in a 12 then
  if qc_in b 12 then
  if I 5 a.toNatClampNeg = I 5 b.toNatClampNeg then
  (if qc_in ((73 : Int32) + a) 79 then
  if qc_in ((73 : Int32) + b) 79 then
  if (I 13 ((73 : Int32) + a).toNatClampNeg) &&& (I 13 ((73 : Int32) + b).toNatClampNeg) = 0 then
  some (0 : Int32)
  else
  if qc_in ((0 : Int32) + a) 79 then
  if I 13 ((0 : Int32) + a).toNatClampNeg ≤ 0 then
  some (0 : Int32)
  else
  if qc_in ((0 : Int32) + b) 79 then
  if I 13 ((0 : Int32) + b).toNatClampNeg ≤ 0 then
  some (0 : Int32)
  else
  if qc_in ((0 : Int32) + a) 79 then
  if qc_in ((0 : Int32) + b) 79 then
  (P_X7_without ((I 13 ((0 : Int32) + a).toNatClampNeg) - (I 13 ((0 : Int32) + b).toNatClampNeg))).bind fun q15 =>
  if I 0 32 ≤ q15 then
  some (0 : Int32)
  else
  some (1 : Int32)
  else none
  else none
  else none
  else none
  else none
  else none)
  else
  some (0 : Int32)
  else none
  else none).bind fun v2 =>
  if qc_bo v2 then some v2 else none
set_option maxRecDepth 20000 in
theorem c_X7_crowd {I : Nat → Nat → Int32} {J : Nat → Nat → Int64}  {a : Int32} {b : Int32} {q0 : Int32} (hP : P_X7_crowd I a b = some q0) : ∀ l, qc_M l yX7_crowd cX7_crowd 3 (some .boolean) 1 20 0 0 [.ref 0, .int a, .int b] (I, J, shM) (some (.int q0)) (I, J, shM) := by
  intro l
  refine qc_ent2 (by decide) (Nat.le_of_ble_eq_true rfl) ?_
  intro F hn0 cx hz
  have cx : qc_X F cX7_crowd RX7 "crowd" 1 0 0 20 := cx
  show qc_J F 0 0 0 [some (.ref 0), some (.int a), some (.int b)] [] (I, J, shM)
  unfold P_X7_crowd at hP
  refine qj_iload_n cx dX7_crowd_0 rfl rfl ?_
  refine qj_iload_n cx dX7_crowd_1 rfl rfl ?_
  obtain ⟨v2, hv2, hP⟩ := Option.bind_eq_some_iff.mp hP
  have Kv2 : qc_J F 0 0 96 [some (.ref 0), some (.int a), some (.int b)] [.int v2] (I, J, shM) := by
    obtain ⟨c17, hP⟩ := qc_ck hP
    exact qw_zret cx hz dX7_crowd_96 (qc_bo_n c17) (Nat.zero_le _) (Nat.zero_le _) (Option.some.inj hP) rfl rfl
  refine qj_icmp_eq (tgt := 95) cx dX7_crowd_2 (by decide) (fun c1 => ?_) (fun c1 => ?_)
  · have hv2 := qc_ifT hv2 c1
    refine qj_iconst (v := (0 : Int32)) cx dX7_crowd_95 (by decide) ?_
    exact qw_top (Option.some.inj hv2).symm Kv2
  · have hv2 := qc_ifF hv2 c1
    refine qj_aload_n cx dX7_crowd_5 rfl rfl ?_
    refine qw_getR (j := 6) (t1 := 5) cx dX7_crowd_6 qc_cl7 rfl (Nat.le_of_ble_eq_true rfl) rfl ww_1098 rfl ?_
    refine qj_iload_n cx dX7_crowd_9 rfl rfl ?_
    obtain ⟨c3, hv2⟩ := qc_ck hv2
    refine qw_iald cx dX7_crowd_10 rfl (Nat.le_of_ble_eq_true rfl) rfl c3 ?_
    refine qj_aload_n cx dX7_crowd_11 rfl rfl ?_
    refine qw_getR (j := 6) (t1 := 5) cx dX7_crowd_12 qc_cl7 rfl (Nat.le_of_ble_eq_true rfl) rfl ww_1098 rfl ?_
    refine qj_iload_n cx dX7_crowd_15 rfl rfl ?_
    obtain ⟨c4, hv2⟩ := qc_ck hv2
    refine qw_iald cx dX7_crowd_16 rfl (Nat.le_of_ble_eq_true rfl) rfl c4 ?_
    refine qj_icmp_ne (tgt := 95) cx dX7_crowd_17 (by decide) (fun c5 => ?_) (fun c5 => ?_)
    · have hv2 := qc_ifF hv2 c5
      refine qj_iconst (v := (0 : Int32)) cx dX7_crowd_95 (by decide) ?_
      exact qw_top (Option.some.inj hv2).symm Kv2
    · have hv2 := qc_ifT hv2 c5
      refine qj_aload_n cx dX7_crowd_20 rfl rfl ?_
      refine qw_getR (j := 25) (t1 := 13) cx dX7_crowd_21 qc_cl7 rfl (Nat.le_of_ble_eq_true rfl) rfl ww_1117 rfl ?_
      refine qj_bipush (v := (73 : Int32)) cx dX7_crowd_24 (by decide) ?_
      refine qj_iload_n cx dX7_crowd_26 rfl rfl ?_
      refine qj_iadd cx dX7_crowd_27 ?_
      obtain ⟨c6, hv2⟩ := qc_ck hv2
      refine qw_iald cx dX7_crowd_28 rfl (Nat.le_of_ble_eq_true rfl) rfl c6 ?_
      refine qj_aload_n cx dX7_crowd_29 rfl rfl ?_
      refine qw_getR (j := 25) (t1 := 13) cx dX7_crowd_30 qc_cl7 rfl (Nat.le_of_ble_eq_true rfl) rfl ww_1117 rfl ?_
      refine qj_bipush (v := (73 : Int32)) cx dX7_crowd_33 (by decide) ?_
      refine qj_iload_n cx dX7_crowd_35 rfl rfl ?_
      refine qj_iadd cx dX7_crowd_36 ?_
      obtain ⟨c7, hv2⟩ := qc_ck hv2
      refine qw_iald cx dX7_crowd_37 rfl (Nat.le_of_ble_eq_true rfl) rfl c7 ?_
      refine qj_iand cx dX7_crowd_38 ?_
      refine qj_if_eq (tgt := 95) cx dX7_crowd_39 (by decide) (fun c8 => ?_) (fun c8 => ?_)
      · have hv2 := qc_ifT hv2 c8
        refine qj_iconst (v := (0 : Int32)) cx dX7_crowd_95 (by decide) ?_
        exact qw_top (Option.some.inj hv2).symm Kv2
      · have hv2 := qc_ifF hv2 c8
        refine qj_aload_n cx dX7_crowd_42 rfl rfl ?_
        refine qw_getR (j := 25) (t1 := 13) cx dX7_crowd_43 qc_cl7 rfl (Nat.le_of_ble_eq_true rfl) rfl ww_1117 rfl ?_
        refine qj_iconst (v := (0 : Int32)) cx dX7_crowd_46 (by decide) ?_
        refine qj_iload_n cx dX7_crowd_47 rfl rfl ?_
        refine qj_iadd cx dX7_crowd_48 ?_
        obtain ⟨c9, hv2⟩ := qc_ck hv2
        refine qw_iald cx dX7_crowd_49 rfl (Nat.le_of_ble_eq_true rfl) rfl c9 ?_
        refine qj_if_le (tgt := 95) cx dX7_crowd_50 (by decide) (fun c10 => ?_) (fun c10 => ?_)
        · have hv2 := qc_ifT hv2 c10
          refine qj_iconst (v := (0 : Int32)) cx dX7_crowd_95 (by decide) ?_
          exact qw_top (Option.some.inj hv2).symm Kv2
        · have hv2 := qc_ifF hv2 c10
          refine qj_aload_n cx dX7_crowd_53 rfl rfl ?_
          refine qw_getR (j := 25) (t1 := 13) cx dX7_crowd_54 qc_cl7 rfl (Nat.le_of_ble_eq_true rfl) rfl ww_1117 rfl ?_
          refine qj_iconst (v := (0 : Int32)) cx dX7_crowd_57 (by decide) ?_
          refine qj_iload_n cx dX7_crowd_58 rfl rfl ?_
          refine qj_iadd cx dX7_crowd_59 ?_
          obtain ⟨c11, hv2⟩ := qc_ck hv2
          refine qw_iald cx dX7_crowd_60 rfl (Nat.le_of_ble_eq_true rfl) rfl c11 ?_
          refine qj_if_le (tgt := 95) cx dX7_crowd_61 (by decide) (fun c12 => ?_) (fun c12 => ?_)
          · have hv2 := qc_ifT hv2 c12
            refine qj_iconst (v := (0 : Int32)) cx dX7_crowd_95 (by decide) ?_
            exact qw_top (Option.some.inj hv2).symm Kv2
          · have hv2 := qc_ifF hv2 c12
            refine qj_aload_n cx dX7_crowd_64 rfl rfl ?_
            refine qw_getR (j := 25) (t1 := 13) cx dX7_crowd_65 qc_cl7 rfl (Nat.le_of_ble_eq_true rfl) rfl ww_1117 rfl ?_
            refine qj_iconst (v := (0 : Int32)) cx dX7_crowd_68 (by decide) ?_
            refine qj_iload_n cx dX7_crowd_69 rfl rfl ?_
            refine qj_iadd cx dX7_crowd_70 ?_
            obtain ⟨c13, hv2⟩ := qc_ck hv2
            refine qw_iald cx dX7_crowd_71 rfl (Nat.le_of_ble_eq_true rfl) rfl c13 ?_
            refine qj_aload_n cx dX7_crowd_72 rfl rfl ?_
            refine qw_getR (j := 25) (t1 := 13) cx dX7_crowd_73 qc_cl7 rfl (Nat.le_of_ble_eq_true rfl) rfl ww_1117 rfl ?_
            refine qj_iconst (v := (0 : Int32)) cx dX7_crowd_76 (by decide) ?_
            refine qj_iload_n cx dX7_crowd_77 rfl rfl ?_
            refine qj_iadd cx dX7_crowd_78 ?_
            obtain ⟨c14, hv2⟩ := qc_ck hv2
            refine qw_iald cx dX7_crowd_79 rfl (Nat.le_of_ble_eq_true rfl) rfl c14 ?_
            refine qj_isub cx dX7_crowd_80 ?_
            obtain ⟨q15, eq15, hv2⟩ := Option.bind_eq_some_iff.mp hv2
            refine qj_callS (As := [.int ((I 13 ((0 : Int32) + a).toNatClampNeg) - (I 13 ((0 : Int32) + b).toNatClampNeg))]) (st := []) (h' := (I, J, shM)) (r := some (.int q15)) cx dX7_crowd_81 (c_X7_without (S := shM) (I := I) (J := J) eq15) gc_RX7_274 qm_X7_without rfl (by decide) (by decide) rfl (Nat.le_of_ble_eq_true rfl) (Nat.le_of_ble_eq_true rfl) hn0 rfl ?_
            refine qj_aload_n cx dX7_crowd_84 rfl rfl ?_
            refine qw_getI (j := 32) cx dX7_crowd_85 qc_cl7 rfl (Nat.le_of_ble_eq_true rfl) rfl ww_1124 ?_
            refine qj_icmp_ge (tgt := 95) cx dX7_crowd_88 (by decide) (fun c16 => ?_) (fun c16 => ?_)
            · have hv2 := qc_ifT hv2 c16
              refine qj_iconst (v := (0 : Int32)) cx dX7_crowd_95 (by decide) ?_
              exact qw_top (Option.some.inj hv2).symm Kv2
            · have hv2 := qc_ifF hv2 c16
              refine qj_iconst (v := (1 : Int32)) cx dX7_crowd_91 (by decide) ?_
              refine qj_goto (tgt := 96) cx dX7_crowd_92 (by decide) ?_
              exact qw_top (Option.some.inj hv2).symm Kv2
def P_X7_crowdsOf_27 (I : Nat → Nat → Int32) (k4 : Int32 → Int32 → Int32 → Option (Int32)) (a1 : Int32) (a2 : Int32) (a3 : Int32) : Option (Int32) :=
  qc_let (a3 + (1 : Int32)) fun x1 =>
  k4 a1 a2 x1
def P_X7_crowdsOf_4 (I : Nat → Nat → Int32) : Nat → Int32 → Int32 → Int32 → Option (Int32)
  | 0, _, _, _ => none
  | f + 1, a1, a2, a3 =>
  (P_X7_users I).bind fun q2 =>
  if q2 ≤ a3 then
  some a2
  else
  (P_X7_crowd I a1 a3).bind fun q4 =>
  if q4 = 0 then
  P_X7_crowdsOf_27 I (P_X7_crowdsOf_4 I f) a1 a2 a3
  else
  qc_let (a2 ||| ((1 : Int32) <<< (a3 &&& 31))) fun x6 =>
  P_X7_crowdsOf_27 I (P_X7_crowdsOf_4 I f) a1 x6 a3
def P_X7_crowdsOf (I : Nat → Nat → Int32) (a : Int32) : Option (Int32) :=
  P_X7_crowdsOf_4 I qc_fu a (0 : Int32) (0 : Int32)
set_option maxRecDepth 20000 in
theorem c_X7_crowdsOf {I : Nat → Nat → Int32} {J : Nat → Nat → Int64}  {a : Int32} {q0 : Int32} (hP : P_X7_crowdsOf I a = some q0) : ∀ l, qc_M l yX7_crowdsOf cX7_crowdsOf 4 (some .int) 2 42 0 0 [.ref 0, .int a] (I, J, shM) (some (.int q0)) (I, J, shM) := by
  intro l
  refine qc_ent2 (by decide) (Nat.le_of_ble_eq_true rfl) ?_
  intro F hn0 cx hz
  have cx : qc_X F cX7_crowdsOf RX7 "crowdsOf" 2 0 0 42 := cx
  have L27 : ∀ (k4 : Int32 → Int32 → Int32 → Option (Int32)) (g4 : ∀ (a1 : Int32) (a2 : Int32) (a3 : Int32), k4 a1 a2 a3 = some q0 → qc_J F 0 0 4 [some (.ref 0), some (.int a1), some (.int a2), some (.int a3)] [] (I, J, shM)) (a1 : Int32) (a2 : Int32) (a3 : Int32), P_X7_crowdsOf_27 I k4 a1 a2 a3 = some q0 → qc_J F 0 0 27 [some (.ref 0), some (.int a1), some (.int a2), some (.int a3)] [] (I, J, shM) := by
    intro k4 g4 a1 a2 a3 hP
    unfold P_X7_crowdsOf_27 at hP
    obtain ⟨x1, ex1, hP⟩ := qc_letE hP
    refine qj_iinc (v := x1) (ls1 := [some (.ref 0), some (.int a1), some (.int a2), some (.int x1)]) cx dX7_crowdsOf_27 rfl (by rw [ex1]; rfl) rfl rfl ?_
    refine qj_goto (tgt := 4) cx dX7_crowdsOf_30 (by decide) ?_
    exact g4 a1 a2 x1 hP
  have L4 : ∀  (f : Nat) (a1 : Int32) (a2 : Int32) (a3 : Int32), P_X7_crowdsOf_4 I f a1 a2 a3 = some q0 → qc_J F 0 0 4 [some (.ref 0), some (.int a1), some (.int a2), some (.int a3)] [] (I, J, shM) := by
    intro  f
    induction f with
    | zero => intro a1 a2 a3 hP; cases hP
    | succ f ih =>
      intro a1 a2 a3 hP
      rw [P_X7_crowdsOf_4] at hP
      refine qj_iload_n cx dX7_crowdsOf_4 rfl rfl ?_
      refine qj_aload_n cx dX7_crowdsOf_5 rfl rfl ?_
      obtain ⟨q2, eq2, hP⟩ := Option.bind_eq_some_iff.mp hP
      refine qj_callV (As := []) (st := [.int a3]) (t := 0) (h' := (I, J, shM)) (r := some (.int q2)) cx dX7_crowdsOf_6 (c_X7_users (I := I) (J := J)  eq2) gc_RX7_232 qm_X7_users rfl rfl qc_cl7 rfl (Nat.le_of_ble_eq_true rfl) (by decide) (by decide) rfl (Nat.le_of_ble_eq_true rfl) (Nat.le_of_ble_eq_true rfl) hn0 rfl ?_
      refine qj_icmp_ge (tgt := 33) cx dX7_crowdsOf_9 (by decide) (fun c3 => ?_) (fun c3 => ?_)
      · have hP := qc_ifT hP c3
        refine qj_iload_n cx dX7_crowdsOf_33 rfl rfl ?_
        exact qw_iret cx hz dX7_crowdsOf_34 (Nat.zero_le _) (Nat.zero_le _) (Option.some.inj hP) rfl rfl
      · have hP := qc_ifF hP c3
        refine qj_aload_n cx dX7_crowdsOf_12 rfl rfl ?_
        refine qj_iload_n cx dX7_crowdsOf_13 rfl rfl ?_
        refine qj_iload_n cx dX7_crowdsOf_14 rfl rfl ?_
        obtain ⟨q4, eq4, hP⟩ := Option.bind_eq_some_iff.mp hP
        refine qj_callV (As := [.int a1, .int a3]) (st := []) (t := 0) (h' := (I, J, shM)) (r := some (.int q4)) cx dX7_crowdsOf_15 (c_X7_crowd (I := I) (J := J)  eq4) gc_RX7_314 qm_X7_crowd rfl rfl qc_cl7 rfl (Nat.le_of_ble_eq_true rfl) (by decide) (by decide) rfl (Nat.le_of_ble_eq_true rfl) (Nat.le_of_ble_eq_true rfl) hn0 rfl ?_
        refine qj_if_eq (tgt := 27) cx dX7_crowdsOf_18 (by decide) (fun c5 => ?_) (fun c5 => ?_)
        · have hP := qc_ifT hP c5
          exact L27 (P_X7_crowdsOf_4 I f) ih a1 a2 a3 hP
        · have hP := qc_ifF hP c5
          refine qj_iload_n cx dX7_crowdsOf_21 rfl rfl ?_
          refine qj_iconst (v := (1 : Int32)) cx dX7_crowdsOf_22 (by decide) ?_
          refine qj_iload_n cx dX7_crowdsOf_23 rfl rfl ?_
          refine qj_ishl cx dX7_crowdsOf_24 ?_
          refine qj_ior cx dX7_crowdsOf_25 ?_
          obtain ⟨x6, ex6, hP⟩ := qc_letE hP
          refine qw_top ex6 ?_
          refine qj_istore_n (ls1 := [some (.ref 0), some (.int a1), some (.int x6), some (.int a3)]) cx dX7_crowdsOf_26 rfl rfl rfl rfl ?_
          exact L27 (P_X7_crowdsOf_4 I f) ih a1 x6 a3 hP
  show qc_J F 0 0 0 [some (.ref 0), some (.int a), none, none] [] (I, J, shM)
  unfold P_X7_crowdsOf at hP
  refine qj_iconst (v := (0 : Int32)) cx dX7_crowdsOf_0 (by decide) ?_
  refine qj_istore_n (ls1 := [some (.ref 0), some (.int a), some (.int (0 : Int32)), none]) cx dX7_crowdsOf_1 rfl rfl rfl rfl ?_
  refine qj_iconst (v := (0 : Int32)) cx dX7_crowdsOf_2 (by decide) ?_
  refine qj_istore_n (ls1 := [some (.ref 0), some (.int a), some (.int (0 : Int32)), some (.int (0 : Int32))]) cx dX7_crowdsOf_3 rfl rfl rfl rfl ?_
  exact L4 qc_fu a (0 : Int32) (0 : Int32) hP
def P_X7_allCrowds_4 (I : Nat → Nat → Int32) : Nat → Int32 → Int32 → Option (Int32)
  | 0, _, _ => none
  | f + 1, a1, a2 =>
  (P_X7_users I).bind fun q1 =>
  if q1 ≤ a2 then
  some (a1 / (2 : Int32))
  else
  (P_X7_crowdsOf I a2).bind fun q3 =>
  (P_X7_bits q3).bind fun q4 =>
  qc_let (a1 + q4) fun x5 =>
  qc_let (a2 + (1 : Int32)) fun x6 =>
  P_X7_allCrowds_4 I f x5 x6
def P_X7_allCrowds (I : Nat → Nat → Int32) : Option (Int32) :=
  P_X7_allCrowds_4 I qc_fu (0 : Int32) (0 : Int32)
set_option maxRecDepth 20000 in
theorem c_X7_allCrowds {I : Nat → Nat → Int32} {J : Nat → Nat → Int64}   {q0 : Int32} (hP : P_X7_allCrowds I = some q0) : ∀ l, qc_M l yX7_allCrowds cX7_allCrowds 3 (some .int) 3 65 0 0 [.ref 0] (I, J, shM) (some (.int q0)) (I, J, shM) := by
  intro l
  refine qc_ent2 (by decide) (Nat.le_of_ble_eq_true rfl) ?_
  intro F hn0 cx hz
  have cx : qc_X F cX7_allCrowds RX7 "allCrowds" 3 0 0 65 := cx
  have L4 : ∀  (f : Nat) (a1 : Int32) (a2 : Int32), P_X7_allCrowds_4 I f a1 a2 = some q0 → qc_J F 0 0 4 [some (.ref 0), some (.int a1), some (.int a2)] [] (I, J, shM) := by
    intro  f
    induction f with
    | zero => intro a1 a2 hP; cases hP
    | succ f ih =>
      intro a1 a2 hP
      rw [P_X7_allCrowds_4] at hP
      refine qj_iload_n cx dX7_allCrowds_4 rfl rfl ?_
      refine qj_aload_n cx dX7_allCrowds_5 rfl rfl ?_
      obtain ⟨q1, eq1, hP⟩ := Option.bind_eq_some_iff.mp hP
      refine qj_callV (As := []) (st := [.int a2]) (t := 0) (h' := (I, J, shM)) (r := some (.int q1)) cx dX7_allCrowds_6 (c_X7_users (I := I) (J := J)  eq1) gc_RX7_232 qm_X7_users rfl rfl qc_cl7 rfl (Nat.le_of_ble_eq_true rfl) (by decide) (by decide) rfl (Nat.le_of_ble_eq_true rfl) (Nat.le_of_ble_eq_true rfl) hn0 rfl ?_
      refine qj_icmp_ge (tgt := 29) cx dX7_allCrowds_9 (by decide) (fun c2 => ?_) (fun c2 => ?_)
      · have hP := qc_ifT hP c2
        refine qj_iload_n cx dX7_allCrowds_29 rfl rfl ?_
        refine qj_iconst (v := (2 : Int32)) cx dX7_allCrowds_30 (by decide) ?_
        refine qj_idiv cx dX7_allCrowds_31 (by decide) ?_
        exact qw_iret cx hz dX7_allCrowds_32 (Nat.zero_le _) (Nat.zero_le _) (Option.some.inj hP) rfl rfl
      · have hP := qc_ifF hP c2
        refine qj_iload_n cx dX7_allCrowds_12 rfl rfl ?_
        refine qj_aload_n cx dX7_allCrowds_13 rfl rfl ?_
        refine qj_iload_n cx dX7_allCrowds_14 rfl rfl ?_
        obtain ⟨q3, eq3, hP⟩ := Option.bind_eq_some_iff.mp hP
        refine qj_callV (As := [.int a2]) (st := [.int a1]) (t := 0) (h' := (I, J, shM)) (r := some (.int q3)) cx dX7_allCrowds_15 (c_X7_crowdsOf (I := I) (J := J)  eq3) gc_RX7_317 qm_X7_crowdsOf rfl rfl qc_cl7 rfl (Nat.le_of_ble_eq_true rfl) (by decide) (by decide) rfl (Nat.le_of_ble_eq_true rfl) (Nat.le_of_ble_eq_true rfl) hn0 rfl ?_
        obtain ⟨q4, eq4, hP⟩ := Option.bind_eq_some_iff.mp hP
        refine qj_callS (As := [.int q3]) (st := [.int a1]) (h' := (I, J, shM)) (r := some (.int q4)) cx dX7_allCrowds_18 (c_X7_bits (S := shM) (I := I) (J := J) eq4) gc_RX7_311 qm_X7_bits rfl (by decide) (by decide) rfl (Nat.le_of_ble_eq_true rfl) (Nat.le_of_ble_eq_true rfl) hn0 rfl ?_
        refine qj_iadd cx dX7_allCrowds_21 ?_
        obtain ⟨x5, ex5, hP⟩ := qc_letE hP
        refine qw_top ex5 ?_
        refine qj_istore_n (ls1 := [some (.ref 0), some (.int x5), some (.int a2)]) cx dX7_allCrowds_22 rfl rfl rfl rfl ?_
        obtain ⟨x6, ex6, hP⟩ := qc_letE hP
        refine qj_iinc (v := x6) (ls1 := [some (.ref 0), some (.int x5), some (.int x6)]) cx dX7_allCrowds_23 rfl (by rw [ex6]; rfl) rfl rfl ?_
        refine qj_goto (tgt := 4) cx dX7_allCrowds_26 (by decide) ?_
        exact ih x5 x6 hP
  show qc_J F 0 0 0 [some (.ref 0), none, none] [] (I, J, shM)
  unfold P_X7_allCrowds at hP
  refine qj_iconst (v := (0 : Int32)) cx dX7_allCrowds_0 (by decide) ?_
  refine qj_istore_n (ls1 := [some (.ref 0), some (.int (0 : Int32)), none]) cx dX7_allCrowds_1 rfl rfl rfl rfl ?_
  refine qj_iconst (v := (0 : Int32)) cx dX7_allCrowds_2 (by decide) ?_
  refine qj_istore_n (ls1 := [some (.ref 0), some (.int (0 : Int32)), some (.int (0 : Int32))]) cx dX7_allCrowds_3 rfl rfl rfl rfl ?_
  exact L4 qc_fu (0 : Int32) (0 : Int32) hP
def P_X7_highOf (I : Nat → Nat → Int32) (a : Int32) : Option (Int32) :=
  if qc_in a 12 then
  (if I 0 30 ≤ I 8 a.toNatClampNeg then
  some (I 0 30)
  else
  if qc_in a 12 then
  some (I 8 a.toNatClampNeg)
  else none).bind fun v3 =>
  some v3
  else none
set_option maxRecDepth 20000 in
theorem c_X7_highOf {I : Nat → Nat → Int32} {J : Nat → Nat → Int64}  {a : Int32} {q0 : Int32} (hP : P_X7_highOf I a = some q0) : ∀ l, qc_M l yX7_highOf cX7_highOf 2 (some .int) 0 0 0 0 [.ref 0, .int a] (I, J, shM) (some (.int q0)) (I, J, shM) := by
  intro l
  refine qc_ent2 (by decide) (Nat.le_of_ble_eq_true rfl) ?_
  intro F hn0 cx hz
  have cx : qc_X F cX7_highOf RX7 "highOf" 0 0 0 0 := cx
  show qc_J F 0 0 0 [some (.ref 0), some (.int a)] [] (I, J, shM)
  unfold P_X7_highOf at hP
  refine qj_aload_n cx dX7_highOf_0 rfl rfl ?_
  refine qw_getR (j := 9) (t1 := 8) cx dX7_highOf_1 qc_cl7 rfl (Nat.le_of_ble_eq_true rfl) rfl ww_1101 rfl ?_
  refine qj_iload_n cx dX7_highOf_4 rfl rfl ?_
  obtain ⟨c1, hP⟩ := qc_ck hP
  refine qw_iald cx dX7_highOf_5 rfl (Nat.le_of_ble_eq_true rfl) rfl c1 ?_
  refine qj_aload_n cx dX7_highOf_6 rfl rfl ?_
  refine qw_getI (j := 30) cx dX7_highOf_7 qc_cl7 rfl (Nat.le_of_ble_eq_true rfl) rfl ww_1122 ?_
  obtain ⟨v3, hv3, hP⟩ := Option.bind_eq_some_iff.mp hP
  have Kv3 : qc_J F 0 0 26 [some (.ref 0), some (.int a)] [.int v3] (I, J, shM) := by
    exact qw_iret cx hz dX7_highOf_26 (Nat.zero_le _) (Nat.zero_le _) (Option.some.inj hP) rfl rfl
  refine qj_icmp_ge (tgt := 22) cx dX7_highOf_10 (by decide) (fun c2 => ?_) (fun c2 => ?_)
  · have hv3 := qc_ifT hv3 c2
    refine qj_aload_n cx dX7_highOf_22 rfl rfl ?_
    refine qw_getI (j := 30) cx dX7_highOf_23 qc_cl7 rfl (Nat.le_of_ble_eq_true rfl) rfl ww_1122 ?_
    exact qw_top (Option.some.inj hv3).symm Kv3
  · have hv3 := qc_ifF hv3 c2
    refine qj_aload_n cx dX7_highOf_13 rfl rfl ?_
    refine qw_getR (j := 9) (t1 := 8) cx dX7_highOf_14 qc_cl7 rfl (Nat.le_of_ble_eq_true rfl) rfl ww_1101 rfl ?_
    refine qj_iload_n cx dX7_highOf_17 rfl rfl ?_
    obtain ⟨c4, hv3⟩ := qc_ck hv3
    refine qw_iald cx dX7_highOf_18 rfl (Nat.le_of_ble_eq_true rfl) rfl c4 ?_
    refine qj_goto (tgt := 26) cx dX7_highOf_19 (by decide) ?_
    exact qw_top (Option.some.inj hv3).symm Kv3
def P_X7_isRight (I : Nat → Nat → Int32) (a : Int32) : Option (Int32) :=
  if qc_in ((0 : Int32) + a) 79 then
  qc_let (I 13 ((0 : Int32) + a).toNatClampNeg) fun x2 =>
  if qc_in a 12 then
  (if x2 < I 7 a.toNatClampNeg then
  some (0 : Int32)
  else
  (P_X7_highOf I a).bind fun q6 =>
  if q6 < x2 then
  some (0 : Int32)
  else
  if qc_in ((12 : Int32) + x2) 79 then
  if I 13 ((12 : Int32) + x2).toNatClampNeg = 0 then
  some (1 : Int32)
  else
  some (0 : Int32)
  else none).bind fun v5 =>
  if qc_bo v5 then some v5 else none
  else none
  else none
set_option maxRecDepth 20000 in
theorem c_X7_isRight {I : Nat → Nat → Int32} {J : Nat → Nat → Int64}  {a : Int32} {q0 : Int32} (hP : P_X7_isRight I a = some q0) : ∀ l, qc_M l yX7_isRight cX7_isRight 3 (some .boolean) 1 21 0 0 [.ref 0, .int a] (I, J, shM) (some (.int q0)) (I, J, shM) := by
  intro l
  refine qc_ent2 (by decide) (Nat.le_of_ble_eq_true rfl) ?_
  intro F hn0 cx hz
  have cx : qc_X F cX7_isRight RX7 "isRight" 1 0 0 21 := cx
  show qc_J F 0 0 0 [some (.ref 0), some (.int a), none] [] (I, J, shM)
  unfold P_X7_isRight at hP
  refine qj_aload_n cx dX7_isRight_0 rfl rfl ?_
  refine qw_getR (j := 25) (t1 := 13) cx dX7_isRight_1 qc_cl7 rfl (Nat.le_of_ble_eq_true rfl) rfl ww_1117 rfl ?_
  refine qj_iconst (v := (0 : Int32)) cx dX7_isRight_4 (by decide) ?_
  refine qj_iload_n cx dX7_isRight_5 rfl rfl ?_
  refine qj_iadd cx dX7_isRight_6 ?_
  obtain ⟨c1, hP⟩ := qc_ck hP
  refine qw_iald cx dX7_isRight_7 rfl (Nat.le_of_ble_eq_true rfl) rfl c1 ?_
  obtain ⟨x2, ex2, hP⟩ := qc_letE hP
  refine qw_top ex2 ?_
  refine qj_istore_n (ls1 := [some (.ref 0), some (.int a), some (.int x2)]) cx dX7_isRight_8 rfl rfl rfl rfl ?_
  refine qj_iload_n cx dX7_isRight_9 rfl rfl ?_
  refine qj_aload_n cx dX7_isRight_10 rfl rfl ?_
  refine qw_getR (j := 8) (t1 := 7) cx dX7_isRight_11 qc_cl7 rfl (Nat.le_of_ble_eq_true rfl) rfl ww_1100 rfl ?_
  refine qj_iload_n cx dX7_isRight_14 rfl rfl ?_
  obtain ⟨c3, hP⟩ := qc_ck hP
  refine qw_iald cx dX7_isRight_15 rfl (Nat.le_of_ble_eq_true rfl) rfl c3 ?_
  obtain ⟨v5, hv5, hP⟩ := Option.bind_eq_some_iff.mp hP
  have Kv5 : qc_J F 0 0 45 [some (.ref 0), some (.int a), some (.int x2)] [.int v5] (I, J, shM) := by
    obtain ⟨c10, hP⟩ := qc_ck hP
    exact qw_zret cx hz dX7_isRight_45 (qc_bo_n c10) (Nat.zero_le _) (Nat.zero_le _) (Option.some.inj hP) rfl rfl
  refine qj_icmp_lt (tgt := 44) cx dX7_isRight_16 (by decide) (fun c4 => ?_) (fun c4 => ?_)
  · have hv5 := qc_ifT hv5 c4
    refine qj_iconst (v := (0 : Int32)) cx dX7_isRight_44 (by decide) ?_
    exact qw_top (Option.some.inj hv5).symm Kv5
  · have hv5 := qc_ifF hv5 c4
    refine qj_iload_n cx dX7_isRight_19 rfl rfl ?_
    refine qj_aload_n cx dX7_isRight_20 rfl rfl ?_
    refine qj_iload_n cx dX7_isRight_21 rfl rfl ?_
    obtain ⟨q6, eq6, hv5⟩ := Option.bind_eq_some_iff.mp hv5
    refine qj_callV (As := [.int a]) (st := [.int x2]) (t := 0) (h' := (I, J, shM)) (r := some (.int q6)) cx dX7_isRight_22 (c_X7_highOf (I := I) (J := J)  eq6) gc_RX7_320 qm_X7_highOf rfl rfl qc_cl7 rfl (Nat.le_of_ble_eq_true rfl) (by decide) (by decide) rfl (Nat.le_of_ble_eq_true rfl) (Nat.le_of_ble_eq_true rfl) hn0 rfl ?_
    refine qj_icmp_gt (tgt := 44) cx dX7_isRight_25 (by decide) (fun c7 => ?_) (fun c7 => ?_)
    · have hv5 := qc_ifT hv5 c7
      refine qj_iconst (v := (0 : Int32)) cx dX7_isRight_44 (by decide) ?_
      exact qw_top (Option.some.inj hv5).symm Kv5
    · have hv5 := qc_ifF hv5 c7
      refine qj_aload_n cx dX7_isRight_28 rfl rfl ?_
      refine qw_getR (j := 25) (t1 := 13) cx dX7_isRight_29 qc_cl7 rfl (Nat.le_of_ble_eq_true rfl) rfl ww_1117 rfl ?_
      refine qj_bipush (v := (12 : Int32)) cx dX7_isRight_32 (by decide) ?_
      refine qj_iload_n cx dX7_isRight_34 rfl rfl ?_
      refine qj_iadd cx dX7_isRight_35 ?_
      obtain ⟨c8, hv5⟩ := qc_ck hv5
      refine qw_iald cx dX7_isRight_36 rfl (Nat.le_of_ble_eq_true rfl) rfl c8 ?_
      refine qj_if_ne (tgt := 44) cx dX7_isRight_37 (by decide) (fun c9 => ?_) (fun c9 => ?_)
      · have hv5 := qc_ifF hv5 c9
        refine qj_iconst (v := (0 : Int32)) cx dX7_isRight_44 (by decide) ?_
        exact qw_top (Option.some.inj hv5).symm Kv5
      · have hv5 := qc_ifT hv5 c9
        refine qj_iconst (v := (1 : Int32)) cx dX7_isRight_40 (by decide) ?_
        refine qj_goto (tgt := 45) cx dX7_isRight_41 (by decide) ?_
        exact qw_top (Option.some.inj hv5).symm Kv5
def P_X7_clears_28 (k2 : (Nat → Nat → Int32) → Int32 → Int32 → Option ((Nat → Nat → Int32))) (I : (Nat → Nat → Int32)) (a1 : Int32) (a2 : Int32) : Option ((Nat → Nat → Int32)) :=
  qc_let (a2 + (1 : Int32)) fun x1 =>
  k2 I a1 x1
def P_X7_clears_2  : Nat → (Nat → Nat → Int32) → Int32 → Int32 → Option ((Nat → Nat → Int32))
  | 0, _, _, _ => none
  | f + 1, I, a1, a2 =>
  (P_X7_users I).bind fun q2 =>
  if q2 ≤ a2 then
  some I
  else
  if (a1 >>> (a2 &&& 31)) &&& (1 : Int32) = (1 : Int32) then
  (if qc_in ((0 : Int32) + a2) 79 then
  qc_let (qc_u2 I 13 ((0 : Int32) + a2).toNatClampNeg (0 : Int32)) fun I5 =>
  P_X7_clears_28 (P_X7_clears_2 f) I5 a1 a2
  else none)
  else
  P_X7_clears_28 (P_X7_clears_2 f) I a1 a2
def P_X7_clears (I : Nat → Nat → Int32) (a : Int32) : Option ((Nat → Nat → Int32)) :=
  P_X7_clears_2 qc_fu I a (0 : Int32)
set_option maxRecDepth 20000 in
theorem c_X7_clears {I : Nat → Nat → Int32} {J : Nat → Nat → Int64}  {a : Int32} {q0 : (Nat → Nat → Int32)} (hP : P_X7_clears I a = some q0) : ∀ l, qc_M l yX7_clears cX7_clears 3 none 1 20 0 0 [.ref 0, .int a] (I, J, shM) none (q0, J, shM) := by
  intro l
  refine qc_ent2 (by decide) (Nat.le_of_ble_eq_true rfl) ?_
  intro F hn0 cx hz
  have cx : qc_X F cX7_clears RX7 "clears" 1 0 0 20 := cx
  have L28 : ∀ (k2 : (Nat → Nat → Int32) → Int32 → Int32 → Option ((Nat → Nat → Int32))) (g2 : ∀ (I : Nat → Nat → Int32) (a1 : Int32) (a2 : Int32), k2 I a1 a2 = some q0 → qc_J F 0 0 2 [some (.ref 0), some (.int a1), some (.int a2)] [] (I, J, shM)) (I : (Nat → Nat → Int32)) (a1 : Int32) (a2 : Int32), P_X7_clears_28 k2 I a1 a2 = some q0 → qc_J F 0 0 28 [some (.ref 0), some (.int a1), some (.int a2)] [] (I, J, shM) := by
    intro k2 g2 I a1 a2 hP
    unfold P_X7_clears_28 at hP
    obtain ⟨x1, ex1, hP⟩ := qc_letE hP
    refine qj_iinc (v := x1) (ls1 := [some (.ref 0), some (.int a1), some (.int x1)]) cx dX7_clears_28 rfl (by rw [ex1]; rfl) rfl rfl ?_
    refine qj_goto (tgt := 2) cx dX7_clears_31 (by decide) ?_
    exact g2 I a1 x1 hP
  have L2 : ∀  (f : Nat) (I : (Nat → Nat → Int32)) (a1 : Int32) (a2 : Int32), P_X7_clears_2 f I a1 a2 = some q0 → qc_J F 0 0 2 [some (.ref 0), some (.int a1), some (.int a2)] [] (I, J, shM) := by
    intro  f
    induction f with
    | zero => intro I a1 a2 hP; cases hP
    | succ f ih =>
      intro I a1 a2 hP
      rw [P_X7_clears_2] at hP
      refine qj_iload_n cx dX7_clears_2 rfl rfl ?_
      refine qj_aload_n cx dX7_clears_3 rfl rfl ?_
      obtain ⟨q2, eq2, hP⟩ := Option.bind_eq_some_iff.mp hP
      refine qj_callV (As := []) (st := [.int a2]) (t := 0) (h' := (I, J, shM)) (r := some (.int q2)) cx dX7_clears_4 (c_X7_users (I := I) (J := J)  eq2) gc_RX7_232 qm_X7_users rfl rfl qc_cl7 rfl (Nat.le_of_ble_eq_true rfl) (by decide) (by decide) rfl (Nat.le_of_ble_eq_true rfl) (Nat.le_of_ble_eq_true rfl) hn0 rfl ?_
      refine qj_icmp_ge (tgt := 34) cx dX7_clears_7 (by decide) (fun c3 => ?_) (fun c3 => ?_)
      · have hP := qc_ifT hP c3
        exact qw_vret cx hz dX7_clears_34 (Nat.zero_le _) (Nat.zero_le _) (Option.some.inj hP) rfl
      · have hP := qc_ifF hP c3
        refine qj_iload_n cx dX7_clears_10 rfl rfl ?_
        refine qj_iload_n cx dX7_clears_11 rfl rfl ?_
        refine qj_ishr cx dX7_clears_12 ?_
        refine qj_iconst (v := (1 : Int32)) cx dX7_clears_13 (by decide) ?_
        refine qj_iand cx dX7_clears_14 ?_
        refine qj_iconst (v := (1 : Int32)) cx dX7_clears_15 (by decide) ?_
        refine qj_icmp_ne (tgt := 28) cx dX7_clears_16 (by decide) (fun c4 => ?_) (fun c4 => ?_)
        · have hP := qc_ifF hP c4
          exact L28 (P_X7_clears_2 f) ih I a1 a2 hP
        · have hP := qc_ifT hP c4
          refine qj_aload_n cx dX7_clears_19 rfl rfl ?_
          refine qw_getR (j := 25) (t1 := 13) cx dX7_clears_20 qc_cl7 rfl (Nat.le_of_ble_eq_true rfl) rfl ww_1117 rfl ?_
          refine qj_iconst (v := (0 : Int32)) cx dX7_clears_23 (by decide) ?_
          refine qj_iload_n cx dX7_clears_24 rfl rfl ?_
          refine qj_iadd cx dX7_clears_25 ?_
          refine qj_iconst (v := (0 : Int32)) cx dX7_clears_26 (by decide) ?_
          obtain ⟨c6, hP⟩ := qc_ck hP
          obtain ⟨I5, eI5, hP⟩ := qc_letE hP
          refine qw_iast cx dX7_clears_27 rfl (Nat.le_of_ble_eq_true rfl) rfl c6 eI5 ?_
          exact L28 (P_X7_clears_2 f) ih I5 a1 a2 hP
  show qc_J F 0 0 0 [some (.ref 0), some (.int a), none] [] (I, J, shM)
  unfold P_X7_clears at hP
  refine qj_iconst (v := (0 : Int32)) cx dX7_clears_0 (by decide) ?_
  refine qj_istore_n (ls1 := [some (.ref 0), some (.int a), some (.int (0 : Int32))]) cx dX7_clears_1 rfl rfl rfl rfl ?_
  exact L2 qc_fu I a (0 : Int32) hP
def P_X7_nextOf_4  : Nat → Int32 → Int32 → Option (Int32)
  | 0, _, _ => none
  | f + 1, a1, a3 =>
  if (6 : Int32) ≤ a3 then
  some a3
  else
  if (a1 >>> (a3 &&& 31)) &&& (1 : Int32) = 0 then
  qc_let (a3 + (1 : Int32)) fun x3 =>
  P_X7_nextOf_4 f a1 x3
  else
  some a3
def P_X7_nextOf (a : Int32) (b : Int32) : Option (Int32) :=
  qc_let (b + (1 : Int32)) fun x4 =>
  P_X7_nextOf_4 qc_fu a x4
set_option maxRecDepth 20000 in
theorem c_X7_nextOf {I : Nat → Nat → Int32} {J : Nat → Nat → Int64}  {a : Int32} {b : Int32} {q0 : Int32} (hP : P_X7_nextOf a b = some q0) : ∀ l, qc_M l yX7_nextOf cX7_nextOf 4 (some .int) 0 0 0 0 [.ref 0, .int a, .int b] (I, J, shM) (some (.int q0)) (I, J, shM) := by
  intro l
  refine qc_ent2 (by decide) (Nat.le_of_ble_eq_true rfl) ?_
  intro F hn0 cx hz
  have cx : qc_X F cX7_nextOf RX7 "nextOf" 0 0 0 0 := cx
  have L4 : ∀  (f : Nat) (a1 : Int32) (a3 : Int32), P_X7_nextOf_4 f a1 a3 = some q0 → qc_J F 0 0 4 [none, some (.int a1), none, some (.int a3)] [] (I, J, shM) := by
    intro  f
    induction f with
    | zero => intro a1 a3 hP; cases hP
    | succ f ih =>
      intro a1 a3 hP
      rw [P_X7_nextOf_4] at hP
      refine qj_iload_n cx dX7_nextOf_4 rfl rfl ?_
      refine qj_bipush (v := (6 : Int32)) cx dX7_nextOf_5 (by decide) ?_
      refine qj_icmp_ge (tgt := 24) cx dX7_nextOf_7 (by decide) (fun c1 => ?_) (fun c1 => ?_)
      · have hP := qc_ifT hP c1
        refine qj_iload_n cx dX7_nextOf_24 rfl rfl ?_
        exact qw_iret cx hz dX7_nextOf_25 (Nat.zero_le _) (Nat.zero_le _) (Option.some.inj hP) rfl rfl
      · have hP := qc_ifF hP c1
        refine qj_iload_n cx dX7_nextOf_10 rfl rfl ?_
        refine qj_iload_n cx dX7_nextOf_11 rfl rfl ?_
        refine qj_ishr cx dX7_nextOf_12 ?_
        refine qj_iconst (v := (1 : Int32)) cx dX7_nextOf_13 (by decide) ?_
        refine qj_iand cx dX7_nextOf_14 ?_
        refine qj_if_ne (tgt := 24) cx dX7_nextOf_15 (by decide) (fun c2 => ?_) (fun c2 => ?_)
        · have hP := qc_ifF hP c2
          refine qj_iload_n cx dX7_nextOf_24 rfl rfl ?_
          exact qw_iret cx hz dX7_nextOf_25 (Nat.zero_le _) (Nat.zero_le _) (Option.some.inj hP) rfl rfl
        · have hP := qc_ifT hP c2
          obtain ⟨x3, ex3, hP⟩ := qc_letE hP
          refine qj_iinc (v := x3) (ls1 := [none, some (.int a1), none, some (.int x3)]) cx dX7_nextOf_18 rfl (by rw [ex3]; rfl) rfl rfl ?_
          refine qj_goto (tgt := 4) cx dX7_nextOf_21 (by decide) ?_
          exact ih a1 x3 hP
  show qc_J F 0 0 0 [some (.ref 0), some (.int a), some (.int b), none] [] (I, J, shM)
  unfold P_X7_nextOf at hP
  refine qj_iload_n cx dX7_nextOf_0 rfl rfl ?_
  refine qj_iconst (v := (1 : Int32)) cx dX7_nextOf_1 (by decide) ?_
  refine qj_iadd cx dX7_nextOf_2 ?_
  obtain ⟨x4, ex4, hP⟩ := qc_letE hP
  refine qw_top ex4 ?_
  refine qj_istore_n (ls1 := [some (.ref 0), some (.int a), some (.int b), some (.int x4)]) cx dX7_nextOf_3 rfl rfl rfl rfl ?_
  refine qw_sub (ls1 := [none, some (.int a), none, some (.int x4)]) rfl (qc_sb_ok ⟨rfl, rfl, trivial⟩) ?_
  exact L4 qc_fu a x4 hP
def P_X7_aheadOf_4  : Nat → Int32 → Int32 → Option (Int32)
  | 0, _, _ => none
  | f + 1, a1, a3 =>
  if a3 < 0 then
  some a3
  else
  if (a1 >>> (a3 &&& 31)) &&& (1 : Int32) = 0 then
  qc_let (a3 + (-1 : Int32)) fun x3 =>
  P_X7_aheadOf_4 f a1 x3
  else
  some a3
def P_X7_aheadOf (a : Int32) (b : Int32) : Option (Int32) :=
  qc_let (b - (1 : Int32)) fun x4 =>
  P_X7_aheadOf_4 qc_fu a x4
set_option maxRecDepth 20000 in
theorem c_X7_aheadOf {I : Nat → Nat → Int32} {J : Nat → Nat → Int64}  {a : Int32} {b : Int32} {q0 : Int32} (hP : P_X7_aheadOf a b = some q0) : ∀ l, qc_M l yX7_aheadOf cX7_aheadOf 4 (some .int) 0 0 0 0 [.ref 0, .int a, .int b] (I, J, shM) (some (.int q0)) (I, J, shM) := by
  intro l
  refine qc_ent2 (by decide) (Nat.le_of_ble_eq_true rfl) ?_
  intro F hn0 cx hz
  have cx : qc_X F cX7_aheadOf RX7 "aheadOf" 0 0 0 0 := cx
  have L4 : ∀  (f : Nat) (a1 : Int32) (a3 : Int32), P_X7_aheadOf_4 f a1 a3 = some q0 → qc_J F 0 0 4 [none, some (.int a1), none, some (.int a3)] [] (I, J, shM) := by
    intro  f
    induction f with
    | zero => intro a1 a3 hP; cases hP
    | succ f ih =>
      intro a1 a3 hP
      rw [P_X7_aheadOf_4] at hP
      refine qj_iload_n cx dX7_aheadOf_4 rfl rfl ?_
      refine qj_if_lt (tgt := 22) cx dX7_aheadOf_5 (by decide) (fun c1 => ?_) (fun c1 => ?_)
      · have hP := qc_ifT hP c1
        refine qj_iload_n cx dX7_aheadOf_22 rfl rfl ?_
        exact qw_iret cx hz dX7_aheadOf_23 (Nat.zero_le _) (Nat.zero_le _) (Option.some.inj hP) rfl rfl
      · have hP := qc_ifF hP c1
        refine qj_iload_n cx dX7_aheadOf_8 rfl rfl ?_
        refine qj_iload_n cx dX7_aheadOf_9 rfl rfl ?_
        refine qj_ishr cx dX7_aheadOf_10 ?_
        refine qj_iconst (v := (1 : Int32)) cx dX7_aheadOf_11 (by decide) ?_
        refine qj_iand cx dX7_aheadOf_12 ?_
        refine qj_if_ne (tgt := 22) cx dX7_aheadOf_13 (by decide) (fun c2 => ?_) (fun c2 => ?_)
        · have hP := qc_ifF hP c2
          refine qj_iload_n cx dX7_aheadOf_22 rfl rfl ?_
          exact qw_iret cx hz dX7_aheadOf_23 (Nat.zero_le _) (Nat.zero_le _) (Option.some.inj hP) rfl rfl
        · have hP := qc_ifT hP c2
          obtain ⟨x3, ex3, hP⟩ := qc_letE hP
          refine qj_iinc (v := x3) (ls1 := [none, some (.int a1), none, some (.int x3)]) cx dX7_aheadOf_16 rfl (by rw [ex3]; rfl) rfl rfl ?_
          refine qj_goto (tgt := 4) cx dX7_aheadOf_19 (by decide) ?_
          exact ih a1 x3 hP
  show qc_J F 0 0 0 [some (.ref 0), some (.int a), some (.int b), none] [] (I, J, shM)
  unfold P_X7_aheadOf at hP
  refine qj_iload_n cx dX7_aheadOf_0 rfl rfl ?_
  refine qj_iconst (v := (1 : Int32)) cx dX7_aheadOf_1 (by decide) ?_
  refine qj_isub cx dX7_aheadOf_2 ?_
  obtain ⟨x4, ex4, hP⟩ := qc_letE hP
  refine qw_top ex4 ?_
  refine qj_istore_n (ls1 := [some (.ref 0), some (.int a), some (.int b), some (.int x4)]) cx dX7_aheadOf_3 rfl rfl rfl rfl ?_
  refine qw_sub (ls1 := [none, some (.int a), none, some (.int x4)]) rfl (qc_sb_ok ⟨rfl, rfl, trivial⟩) ?_
  exact L4 qc_fu a x4 hP
def P_X7_withoutChannels_29 (I : Nat → Nat → Int32) (k4 : Int32 → Int32 → Option (Int32)) (a1 : Int32) (a2 : Int32) : Option (Int32) :=
  qc_let (a2 + (1 : Int32)) fun x1 =>
  k4 a1 x1
def P_X7_withoutChannels_4 (I : Nat → Nat → Int32) : Nat → Int32 → Int32 → Option (Int32)
  | 0, _, _ => none
  | f + 1, a1, a2 =>
  (P_X7_users I).bind fun q2 =>
  if q2 ≤ a2 then
  some a1
  else
  if qc_in ((0 : Int32) + a2) 79 then
  if I 13 ((0 : Int32) + a2).toNatClampNeg = 0 then
  qc_let (a1 ||| ((1 : Int32) <<< (a2 &&& 31))) fun x6 =>
  P_X7_withoutChannels_29 I (P_X7_withoutChannels_4 I f) x6 a2
  else
  P_X7_withoutChannels_29 I (P_X7_withoutChannels_4 I f) a1 a2
  else none
def P_X7_withoutChannels (I : Nat → Nat → Int32) : Option (Int32) :=
  P_X7_withoutChannels_4 I qc_fu (0 : Int32) (0 : Int32)
set_option maxRecDepth 20000 in
theorem c_X7_withoutChannels {I : Nat → Nat → Int32} {J : Nat → Nat → Int64}   {q0 : Int32} (hP : P_X7_withoutChannels I = some q0) : ∀ l, qc_M l yX7_withoutChannels cX7_withoutChannels 3 (some .int) 1 20 0 0 [.ref 0] (I, J, shM) (some (.int q0)) (I, J, shM) := by
  intro l
  refine qc_ent2 (by decide) (Nat.le_of_ble_eq_true rfl) ?_
  intro F hn0 cx hz
  have cx : qc_X F cX7_withoutChannels RX7 "withoutChannels" 1 0 0 20 := cx
  have L29 : ∀ (k4 : Int32 → Int32 → Option (Int32)) (g4 : ∀ (a1 : Int32) (a2 : Int32), k4 a1 a2 = some q0 → qc_J F 0 0 4 [some (.ref 0), some (.int a1), some (.int a2)] [] (I, J, shM)) (a1 : Int32) (a2 : Int32), P_X7_withoutChannels_29 I k4 a1 a2 = some q0 → qc_J F 0 0 29 [some (.ref 0), some (.int a1), some (.int a2)] [] (I, J, shM) := by
    intro k4 g4 a1 a2 hP
    unfold P_X7_withoutChannels_29 at hP
    obtain ⟨x1, ex1, hP⟩ := qc_letE hP
    refine qj_iinc (v := x1) (ls1 := [some (.ref 0), some (.int a1), some (.int x1)]) cx dX7_withoutChannels_29 rfl (by rw [ex1]; rfl) rfl rfl ?_
    refine qj_goto (tgt := 4) cx dX7_withoutChannels_32 (by decide) ?_
    exact g4 a1 x1 hP
  have L4 : ∀  (f : Nat) (a1 : Int32) (a2 : Int32), P_X7_withoutChannels_4 I f a1 a2 = some q0 → qc_J F 0 0 4 [some (.ref 0), some (.int a1), some (.int a2)] [] (I, J, shM) := by
    intro  f
    induction f with
    | zero => intro a1 a2 hP; cases hP
    | succ f ih =>
      intro a1 a2 hP
      rw [P_X7_withoutChannels_4] at hP
      refine qj_iload_n cx dX7_withoutChannels_4 rfl rfl ?_
      refine qj_aload_n cx dX7_withoutChannels_5 rfl rfl ?_
      obtain ⟨q2, eq2, hP⟩ := Option.bind_eq_some_iff.mp hP
      refine qj_callV (As := []) (st := [.int a2]) (t := 0) (h' := (I, J, shM)) (r := some (.int q2)) cx dX7_withoutChannels_6 (c_X7_users (I := I) (J := J)  eq2) gc_RX7_232 qm_X7_users rfl rfl qc_cl7 rfl (Nat.le_of_ble_eq_true rfl) (by decide) (by decide) rfl (Nat.le_of_ble_eq_true rfl) (Nat.le_of_ble_eq_true rfl) hn0 rfl ?_
      refine qj_icmp_ge (tgt := 35) cx dX7_withoutChannels_9 (by decide) (fun c3 => ?_) (fun c3 => ?_)
      · have hP := qc_ifT hP c3
        refine qj_iload_n cx dX7_withoutChannels_35 rfl rfl ?_
        exact qw_iret cx hz dX7_withoutChannels_36 (Nat.zero_le _) (Nat.zero_le _) (Option.some.inj hP) rfl rfl
      · have hP := qc_ifF hP c3
        refine qj_aload_n cx dX7_withoutChannels_12 rfl rfl ?_
        refine qw_getR (j := 25) (t1 := 13) cx dX7_withoutChannels_13 qc_cl7 rfl (Nat.le_of_ble_eq_true rfl) rfl ww_1117 rfl ?_
        refine qj_iconst (v := (0 : Int32)) cx dX7_withoutChannels_16 (by decide) ?_
        refine qj_iload_n cx dX7_withoutChannels_17 rfl rfl ?_
        refine qj_iadd cx dX7_withoutChannels_18 ?_
        obtain ⟨c4, hP⟩ := qc_ck hP
        refine qw_iald cx dX7_withoutChannels_19 rfl (Nat.le_of_ble_eq_true rfl) rfl c4 ?_
        refine qj_if_ne (tgt := 29) cx dX7_withoutChannels_20 (by decide) (fun c5 => ?_) (fun c5 => ?_)
        · have hP := qc_ifF hP c5
          exact L29 (P_X7_withoutChannels_4 I f) ih a1 a2 hP
        · have hP := qc_ifT hP c5
          refine qj_iload_n cx dX7_withoutChannels_23 rfl rfl ?_
          refine qj_iconst (v := (1 : Int32)) cx dX7_withoutChannels_24 (by decide) ?_
          refine qj_iload_n cx dX7_withoutChannels_25 rfl rfl ?_
          refine qj_ishl cx dX7_withoutChannels_26 ?_
          refine qj_ior cx dX7_withoutChannels_27 ?_
          obtain ⟨x6, ex6, hP⟩ := qc_letE hP
          refine qw_top ex6 ?_
          refine qj_istore_n (ls1 := [some (.ref 0), some (.int x6), some (.int a2)]) cx dX7_withoutChannels_28 rfl rfl rfl rfl ?_
          exact L29 (P_X7_withoutChannels_4 I f) ih x6 a2 hP
  show qc_J F 0 0 0 [some (.ref 0), none, none] [] (I, J, shM)
  unfold P_X7_withoutChannels at hP
  refine qj_iconst (v := (0 : Int32)) cx dX7_withoutChannels_0 (by decide) ?_
  refine qj_istore_n (ls1 := [some (.ref 0), some (.int (0 : Int32)), none]) cx dX7_withoutChannels_1 rfl rfl rfl rfl ?_
  refine qj_iconst (v := (0 : Int32)) cx dX7_withoutChannels_2 (by decide) ?_
  refine qj_istore_n (ls1 := [some (.ref 0), some (.int (0 : Int32)), some (.int (0 : Int32))]) cx dX7_withoutChannels_3 rfl rfl rfl rfl ?_
  exact L4 qc_fu (0 : Int32) (0 : Int32) hP
def P_X7_swapsIn_2  : Nat → (Nat → Nat → Int32) → Int32 → Option ((Nat → Nat → Int32))
  | 0, _, _ => none
  | f + 1, I, a1 =>
  if (79 : Int32) ≤ a1 then
  (P_X7_remembers I).bind fun q2 =>
  (P_X7_comesBack q2).bind fun q3 =>
  some q3
  else
  if qc_in a1 79 then
  qc_let (I 13 a1.toNatClampNeg) fun x5 =>
  if qc_in a1 79 then
  if qc_in a1 79 then
  qc_let (qc_u2 I 13 a1.toNatClampNeg (I 15 a1.toNatClampNeg)) fun I7 =>
  if qc_in a1 79 then
  qc_let (qc_u2 I7 15 a1.toNatClampNeg x5) fun I8 =>
  qc_let (a1 + (1 : Int32)) fun x9 =>
  P_X7_swapsIn_2 f I8 x9
  else none
  else none
  else none
  else none
def P_X7_swapsIn (I : Nat → Nat → Int32) : Option ((Nat → Nat → Int32)) :=
  P_X7_swapsIn_2 qc_fu I (0 : Int32)
set_option maxRecDepth 20000 in
theorem c_X7_swapsIn {I : Nat → Nat → Int32} {J : Nat → Nat → Int64}   {q0 : (Nat → Nat → Int32)} (hP : P_X7_swapsIn I = some q0) : ∀ l, qc_M l yX7_swapsIn cX7_swapsIn 3 none 2 43 0 0 [.ref 0] (I, J, shM) none (q0, J, shM) := by
  intro l
  refine qc_ent2 (by decide) (Nat.le_of_ble_eq_true rfl) ?_
  intro F hn0 cx hz
  have cx : qc_X F cX7_swapsIn RX7 "swapsIn" 2 0 0 43 := cx
  have L2 : ∀  (f : Nat) (I : (Nat → Nat → Int32)) (a1 : Int32), P_X7_swapsIn_2 f I a1 = some q0 → qc_J F 0 0 2 [some (.ref 0), some (.int a1), none] [] (I, J, shM) := by
    intro  f
    induction f with
    | zero => intro I a1 hP; cases hP
    | succ f ih =>
      intro I a1 hP
      rw [P_X7_swapsIn_2] at hP
      refine qj_iload_n cx dX7_swapsIn_2 rfl rfl ?_
      refine qj_bipush (v := (79 : Int32)) cx dX7_swapsIn_3 (by decide) ?_
      refine qj_icmp_ge (tgt := 40) cx dX7_swapsIn_5 (by decide) (fun c1 => ?_) (fun c1 => ?_)
      · have hP := qc_ifT hP c1
        refine qj_aload_n cx dX7_swapsIn_40 rfl rfl ?_
        obtain ⟨q2, eq2, hP⟩ := Option.bind_eq_some_iff.mp hP
        refine qj_callV (As := []) (st := []) (t := 0) (h' := (q2, J, shM)) (r := none) cx dX7_swapsIn_41 (c_X7_remembers (I := I) (J := J)  eq2) gc_RX7_265 qm_X7_remembers rfl rfl qc_cl7 rfl (Nat.le_of_ble_eq_true rfl) (by decide) (by decide) rfl (Nat.le_of_ble_eq_true rfl) (Nat.le_of_ble_eq_true rfl) hn0 rfl ?_
        refine qj_aload_n cx dX7_swapsIn_44 rfl rfl ?_
        obtain ⟨q3, eq3, hP⟩ := Option.bind_eq_some_iff.mp hP
        refine qj_callV (As := []) (st := []) (t := 0) (h' := (q3, J, shM)) (r := none) cx dX7_swapsIn_45 (c_X7_comesBack (I := q2) (J := J)  eq3) gc_RX7_357 qm_X7_comesBack rfl rfl qc_cl7 rfl (Nat.le_of_ble_eq_true rfl) (by decide) (by decide) rfl (Nat.le_of_ble_eq_true rfl) (Nat.le_of_ble_eq_true rfl) hn0 rfl ?_
        exact qw_vret cx hz dX7_swapsIn_48 (Nat.zero_le _) (Nat.zero_le _) (Option.some.inj hP) rfl
      · have hP := qc_ifF hP c1
        refine qj_aload_n cx dX7_swapsIn_8 rfl rfl ?_
        refine qw_getR (j := 25) (t1 := 13) cx dX7_swapsIn_9 qc_cl7 rfl (Nat.le_of_ble_eq_true rfl) rfl ww_1117 rfl ?_
        refine qj_iload_n cx dX7_swapsIn_12 rfl rfl ?_
        obtain ⟨c4, hP⟩ := qc_ck hP
        refine qw_iald cx dX7_swapsIn_13 rfl (Nat.le_of_ble_eq_true rfl) rfl c4 ?_
        obtain ⟨x5, ex5, hP⟩ := qc_letE hP
        refine qw_top ex5 ?_
        refine qj_istore_n (ls1 := [some (.ref 0), some (.int a1), some (.int x5)]) cx dX7_swapsIn_14 rfl rfl rfl rfl ?_
        refine qj_aload_n cx dX7_swapsIn_15 rfl rfl ?_
        refine qw_getR (j := 25) (t1 := 13) cx dX7_swapsIn_16 qc_cl7 rfl (Nat.le_of_ble_eq_true rfl) rfl ww_1117 rfl ?_
        refine qj_iload_n cx dX7_swapsIn_19 rfl rfl ?_
        refine qj_aload_n cx dX7_swapsIn_20 rfl rfl ?_
        refine qw_getR (j := 27) (t1 := 15) cx dX7_swapsIn_21 qc_cl7 rfl (Nat.le_of_ble_eq_true rfl) rfl ww_1119 rfl ?_
        refine qj_iload_n cx dX7_swapsIn_24 rfl rfl ?_
        obtain ⟨c6, hP⟩ := qc_ck hP
        refine qw_iald cx dX7_swapsIn_25 rfl (Nat.le_of_ble_eq_true rfl) rfl c6 ?_
        obtain ⟨c11, hP⟩ := qc_ck hP
        obtain ⟨I7, eI7, hP⟩ := qc_letE hP
        refine qw_iast cx dX7_swapsIn_26 rfl (Nat.le_of_ble_eq_true rfl) rfl c11 eI7 ?_
        refine qj_aload_n cx dX7_swapsIn_27 rfl rfl ?_
        refine qw_getR (j := 27) (t1 := 15) cx dX7_swapsIn_28 qc_cl7 rfl (Nat.le_of_ble_eq_true rfl) rfl ww_1119 rfl ?_
        refine qj_iload_n cx dX7_swapsIn_31 rfl rfl ?_
        refine qj_iload_n cx dX7_swapsIn_32 rfl rfl ?_
        obtain ⟨c10, hP⟩ := qc_ck hP
        obtain ⟨I8, eI8, hP⟩ := qc_letE hP
        refine qw_iast cx dX7_swapsIn_33 rfl (Nat.le_of_ble_eq_true rfl) rfl c10 eI8 ?_
        obtain ⟨x9, ex9, hP⟩ := qc_letE hP
        refine qj_iinc (v := x9) (ls1 := [some (.ref 0), some (.int x9), some (.int x5)]) cx dX7_swapsIn_34 rfl (by rw [ex9]; rfl) rfl rfl ?_
        refine qj_goto (tgt := 2) cx dX7_swapsIn_37 (by decide) ?_
        refine qw_sub (ls1 := [some (.ref 0), some (.int x9), none]) rfl (qc_sb_ok ⟨rfl, rfl, trivial⟩) ?_
        exact ih I8 x9 hP
  show qc_J F 0 0 0 [some (.ref 0), none, none] [] (I, J, shM)
  unfold P_X7_swapsIn at hP
  refine qj_iconst (v := (0 : Int32)) cx dX7_swapsIn_0 (by decide) ?_
  refine qj_istore_n (ls1 := [some (.ref 0), some (.int (0 : Int32)), none]) cx dX7_swapsIn_1 rfl rfl rfl rfl ?_
  exact L2 qc_fu I (0 : Int32) hP
def P_X7_sumOf (I : Nat → Nat → Int32) (a : Int32) (b : Int32) (c : Int32) (d : Int32) : Option (Int32) :=
  (P_X7_timesA a).bind fun q1 =>
  if qc_in b 8 then
  (P_X7_timesB a).bind fun q3 =>
  if qc_in c 8 then
  (if d = (-2 : Int32) then
  some (0 : Int32)
  else
  (P_X7_timesC a).bind fun q7 =>
  if qc_in d 8 then
  some (q7 * (I 23 d.toNatClampNeg))
  else none).bind fun v6 =>
  some (((q1 * (I 23 b.toNatClampNeg)) + (q3 * (I 23 c.toNatClampNeg))) + v6)
  else none
  else none
set_option maxRecDepth 20000 in
theorem c_X7_sumOf {I : Nat → Nat → Int32} {J : Nat → Nat → Int64}  {a : Int32} {b : Int32} {c : Int32} {d : Int32} {q0 : Int32} (hP : P_X7_sumOf I a b c d = some q0) : ∀ l, qc_M l yX7_sumOf cX7_sumOf 5 (some .int) 1 20 0 0 [.ref 0, .int a, .int b, .int c, .int d] (I, J, shM) (some (.int q0)) (I, J, shM) := by
  intro l
  refine qc_ent2 (by decide) (Nat.le_of_ble_eq_true rfl) ?_
  intro F hn0 cx hz
  have cx : qc_X F cX7_sumOf RX7 "sumOf" 1 0 0 20 := cx
  show qc_J F 0 0 0 [some (.ref 0), some (.int a), some (.int b), some (.int c), some (.int d)] [] (I, J, shM)
  unfold P_X7_sumOf at hP
  refine qj_iload_n cx dX7_sumOf_0 rfl rfl ?_
  obtain ⟨q1, eq1, hP⟩ := Option.bind_eq_some_iff.mp hP
  refine qj_callS (As := [.int a]) (st := []) (h' := (I, J, shM)) (r := some (.int q1)) cx dX7_sumOf_1 (c_X7_timesA (S := shM) (I := I) (J := J) eq1) gc_RX7_268 qm_X7_timesA rfl (by decide) (by decide) rfl (Nat.le_of_ble_eq_true rfl) (Nat.le_of_ble_eq_true rfl) hn0 rfl ?_
  refine qj_aload_n cx dX7_sumOf_4 rfl rfl ?_
  refine qw_getR (j := 43) (t1 := 23) cx dX7_sumOf_5 qc_cl7 rfl (Nat.le_of_ble_eq_true rfl) rfl ww_1135 rfl ?_
  refine qj_iload_n cx dX7_sumOf_8 rfl rfl ?_
  obtain ⟨c2, hP⟩ := qc_ck hP
  refine qw_iald cx dX7_sumOf_9 rfl (Nat.le_of_ble_eq_true rfl) rfl c2 ?_
  refine qj_imul cx dX7_sumOf_10 ?_
  refine qj_iload_n cx dX7_sumOf_11 rfl rfl ?_
  obtain ⟨q3, eq3, hP⟩ := Option.bind_eq_some_iff.mp hP
  refine qj_callS (As := [.int a]) (st := [.int (q1 * (I 23 b.toNatClampNeg))]) (h' := (I, J, shM)) (r := some (.int q3)) cx dX7_sumOf_12 (c_X7_timesB (S := shM) (I := I) (J := J) eq3) gc_RX7_271 qm_X7_timesB rfl (by decide) (by decide) rfl (Nat.le_of_ble_eq_true rfl) (Nat.le_of_ble_eq_true rfl) hn0 rfl ?_
  refine qj_aload_n cx dX7_sumOf_15 rfl rfl ?_
  refine qw_getR (j := 43) (t1 := 23) cx dX7_sumOf_16 qc_cl7 rfl (Nat.le_of_ble_eq_true rfl) rfl ww_1135 rfl ?_
  refine qj_iload_n cx dX7_sumOf_19 rfl rfl ?_
  obtain ⟨c4, hP⟩ := qc_ck hP
  refine qw_iald cx dX7_sumOf_20 rfl (Nat.le_of_ble_eq_true rfl) rfl c4 ?_
  refine qj_imul cx dX7_sumOf_21 ?_
  refine qj_iadd cx dX7_sumOf_22 ?_
  refine qj_iload cx dX7_sumOf_23 rfl ?_
  refine qj_bipush (v := (-2 : Int32)) cx dX7_sumOf_25 (by decide) ?_
  obtain ⟨v6, hv6, hP⟩ := Option.bind_eq_some_iff.mp hP
  have Kv6 : qc_J F 0 0 46 [some (.ref 0), some (.int a), some (.int b), some (.int c), some (.int d)] [.int v6, .int ((q1 * (I 23 b.toNatClampNeg)) + (q3 * (I 23 c.toNatClampNeg)))] (I, J, shM) := by
    refine qj_iadd cx dX7_sumOf_46 ?_
    exact qw_iret cx hz dX7_sumOf_47 (Nat.zero_le _) (Nat.zero_le _) (Option.some.inj hP) rfl rfl
  refine qj_icmp_ne (tgt := 34) cx dX7_sumOf_27 (by decide) (fun c5 => ?_) (fun c5 => ?_)
  · have hv6 := qc_ifF hv6 c5
    refine qj_iload_n cx dX7_sumOf_34 rfl rfl ?_
    obtain ⟨q7, eq7, hv6⟩ := Option.bind_eq_some_iff.mp hv6
    refine qj_callS (As := [.int a]) (st := [.int ((q1 * (I 23 b.toNatClampNeg)) + (q3 * (I 23 c.toNatClampNeg)))]) (h' := (I, J, shM)) (r := some (.int q7)) cx dX7_sumOf_35 (c_X7_timesC (S := shM) (I := I) (J := J) eq7) gc_RX7_277 qm_X7_timesC rfl (by decide) (by decide) rfl (Nat.le_of_ble_eq_true rfl) (Nat.le_of_ble_eq_true rfl) hn0 rfl ?_
    refine qj_aload_n cx dX7_sumOf_38 rfl rfl ?_
    refine qw_getR (j := 43) (t1 := 23) cx dX7_sumOf_39 qc_cl7 rfl (Nat.le_of_ble_eq_true rfl) rfl ww_1135 rfl ?_
    refine qj_iload cx dX7_sumOf_42 rfl ?_
    obtain ⟨c8, hv6⟩ := qc_ck hv6
    refine qw_iald cx dX7_sumOf_44 rfl (Nat.le_of_ble_eq_true rfl) rfl c8 ?_
    refine qj_imul cx dX7_sumOf_45 ?_
    exact qw_top (Option.some.inj hv6).symm Kv6
  · have hv6 := qc_ifT hv6 c5
    refine qj_iconst (v := (0 : Int32)) cx dX7_sumOf_30 (by decide) ?_
    refine qj_goto (tgt := 46) cx dX7_sumOf_31 (by decide) ?_
    exact qw_top (Option.some.inj hv6).symm Kv6
def P_X7_hitsRow_61 (I : Nat → Nat → Int32) (k16 : Int32 → Int32 → Int32 → Int32 → Int32 → Int32 → Int32 → Option (Int32)) (a1 : Int32) (a2 : Int32) (a3 : Int32) (a4 : Int32) (a5 : Int32) (a6 : Int32) (a7 : Int32) : Option (Int32) :=
  qc_let (a7 + (1 : Int32)) fun x1 =>
  k16 a1 a2 a3 a4 a5 a6 x1
def P_X7_hitsRow_16 (I : Nat → Nat → Int32) : Nat → Int32 → Int32 → Int32 → Int32 → Int32 → Int32 → Int32 → Option (Int32)
  | 0, _, _, _, _, _, _, _ => none
  | f + 1, a1, a2, a3, a4, a5, a6, a7 =>
  if a2 ≤ a7 then
  some (0 : Int32)
  else
  if a7 = a3 then
  P_X7_hitsRow_61 I (P_X7_hitsRow_16 I f) a1 a2 a3 a4 a5 a6 a7
  else
  if a7 = a4 then
  P_X7_hitsRow_61 I (P_X7_hitsRow_16 I f) a1 a2 a3 a4 a5 a6 a7
  else
  if a7 = a5 then
  P_X7_hitsRow_61 I (P_X7_hitsRow_16 I f) a1 a2 a3 a4 a5 a6 a7
  else
  if qc_in a7 8 then
  (P_X7_without ((I 23 a7.toNatClampNeg) - a1)).bind fun q7 =>
  if a6 < q7 then
  P_X7_hitsRow_61 I (P_X7_hitsRow_16 I f) a1 a2 a3 a4 a5 a6 a7
  else
  some (1 : Int32)
  else none
def P_X7_hitsRow (I : Nat → Nat → Int32) (a : Int32) (b : Int32) (c : Int32) (d : Int32) (e : Int32) (f : Int32) : Option (Int32) :=
  if a < (1 : Int32) then
  some (0 : Int32)
  else
  if a ≤ (60 : Int32) then
  P_X7_hitsRow_16 I qc_fu a b c d e f (0 : Int32)
  else
  some (0 : Int32)
set_option maxRecDepth 20000 in
theorem c_X7_hitsRow {I : Nat → Nat → Int32} {J : Nat → Nat → Int64}  {a : Int32} {b : Int32} {c : Int32} {d : Int32} {e : Int32} {f : Int32} {q0 : Int32} (hP : P_X7_hitsRow I a b c d e f = some q0) : ∀ l, qc_M l yX7_hitsRow cX7_hitsRow 8 (some .boolean) 1 20 0 0 [.ref 0, .int a, .int b, .int c, .int d, .int e, .int f] (I, J, shM) (some (.int q0)) (I, J, shM) := by
  intro l
  refine qc_ent2 (by decide) (Nat.le_of_ble_eq_true rfl) ?_
  intro F hn0 cx hz
  have cx : qc_X F cX7_hitsRow RX7 "hitsRow" 1 0 0 20 := cx
  have L61 : ∀ (k16 : Int32 → Int32 → Int32 → Int32 → Int32 → Int32 → Int32 → Option (Int32)) (g16 : ∀ (a1 : Int32) (a2 : Int32) (a3 : Int32) (a4 : Int32) (a5 : Int32) (a6 : Int32) (a7 : Int32), k16 a1 a2 a3 a4 a5 a6 a7 = some q0 → qc_J F 0 0 16 [some (.ref 0), some (.int a1), some (.int a2), some (.int a3), some (.int a4), some (.int a5), some (.int a6), some (.int a7)] [] (I, J, shM)) (a1 : Int32) (a2 : Int32) (a3 : Int32) (a4 : Int32) (a5 : Int32) (a6 : Int32) (a7 : Int32), P_X7_hitsRow_61 I k16 a1 a2 a3 a4 a5 a6 a7 = some q0 → qc_J F 0 0 61 [some (.ref 0), some (.int a1), some (.int a2), some (.int a3), some (.int a4), some (.int a5), some (.int a6), some (.int a7)] [] (I, J, shM) := by
    intro k16 g16 a1 a2 a3 a4 a5 a6 a7 hP
    unfold P_X7_hitsRow_61 at hP
    obtain ⟨x1, ex1, hP⟩ := qc_letE hP
    refine qj_iinc (v := x1) (ls1 := [some (.ref 0), some (.int a1), some (.int a2), some (.int a3), some (.int a4), some (.int a5), some (.int a6), some (.int x1)]) cx dX7_hitsRow_61 rfl (by rw [ex1]; rfl) rfl rfl ?_
    refine qj_goto (tgt := 16) cx dX7_hitsRow_64 (by decide) ?_
    exact g16 a1 a2 a3 a4 a5 a6 x1 hP
  have L16 : ∀  (f : Nat) (a1 : Int32) (a2 : Int32) (a3 : Int32) (a4 : Int32) (a5 : Int32) (a6 : Int32) (a7 : Int32), P_X7_hitsRow_16 I f a1 a2 a3 a4 a5 a6 a7 = some q0 → qc_J F 0 0 16 [some (.ref 0), some (.int a1), some (.int a2), some (.int a3), some (.int a4), some (.int a5), some (.int a6), some (.int a7)] [] (I, J, shM) := by
    intro  f
    induction f with
    | zero => intro a1 a2 a3 a4 a5 a6 a7 hP; cases hP
    | succ f ih =>
      intro a1 a2 a3 a4 a5 a6 a7 hP
      rw [P_X7_hitsRow_16] at hP
      refine qj_iload cx dX7_hitsRow_16 rfl ?_
      refine qj_iload_n cx dX7_hitsRow_18 rfl rfl ?_
      refine qj_icmp_ge (tgt := 67) cx dX7_hitsRow_19 (by decide) (fun c2 => ?_) (fun c2 => ?_)
      · have hP := qc_ifT hP c2
        refine qj_iconst (v := (0 : Int32)) cx dX7_hitsRow_67 (by decide) ?_
        exact qw_zret cx hz dX7_hitsRow_68 (by decide) (Nat.zero_le _) (Nat.zero_le _) (Option.some.inj hP) rfl rfl
      · have hP := qc_ifF hP c2
        refine qj_iload cx dX7_hitsRow_22 rfl ?_
        refine qj_iload_n cx dX7_hitsRow_24 rfl rfl ?_
        refine qj_icmp_eq (tgt := 61) cx dX7_hitsRow_25 (by decide) (fun c3 => ?_) (fun c3 => ?_)
        · have hP := qc_ifT hP c3
          exact L61 (P_X7_hitsRow_16 I f) ih a1 a2 a3 a4 a5 a6 a7 hP
        · have hP := qc_ifF hP c3
          refine qj_iload cx dX7_hitsRow_28 rfl ?_
          refine qj_iload cx dX7_hitsRow_30 rfl ?_
          refine qj_icmp_eq (tgt := 61) cx dX7_hitsRow_32 (by decide) (fun c4 => ?_) (fun c4 => ?_)
          · have hP := qc_ifT hP c4
            exact L61 (P_X7_hitsRow_16 I f) ih a1 a2 a3 a4 a5 a6 a7 hP
          · have hP := qc_ifF hP c4
            refine qj_iload cx dX7_hitsRow_35 rfl ?_
            refine qj_iload cx dX7_hitsRow_37 rfl ?_
            refine qj_icmp_eq (tgt := 61) cx dX7_hitsRow_39 (by decide) (fun c5 => ?_) (fun c5 => ?_)
            · have hP := qc_ifT hP c5
              exact L61 (P_X7_hitsRow_16 I f) ih a1 a2 a3 a4 a5 a6 a7 hP
            · have hP := qc_ifF hP c5
              refine qj_aload_n cx dX7_hitsRow_42 rfl rfl ?_
              refine qw_getR (j := 43) (t1 := 23) cx dX7_hitsRow_43 qc_cl7 rfl (Nat.le_of_ble_eq_true rfl) rfl ww_1135 rfl ?_
              refine qj_iload cx dX7_hitsRow_46 rfl ?_
              obtain ⟨c6, hP⟩ := qc_ck hP
              refine qw_iald cx dX7_hitsRow_48 rfl (Nat.le_of_ble_eq_true rfl) rfl c6 ?_
              refine qj_iload_n cx dX7_hitsRow_49 rfl rfl ?_
              refine qj_isub cx dX7_hitsRow_50 ?_
              obtain ⟨q7, eq7, hP⟩ := Option.bind_eq_some_iff.mp hP
              refine qj_callS (As := [.int ((I 23 a7.toNatClampNeg) - a1)]) (st := []) (h' := (I, J, shM)) (r := some (.int q7)) cx dX7_hitsRow_51 (c_X7_without (S := shM) (I := I) (J := J) eq7) gc_RX7_274 qm_X7_without rfl (by decide) (by decide) rfl (Nat.le_of_ble_eq_true rfl) (Nat.le_of_ble_eq_true rfl) hn0 rfl ?_
              refine qj_iload cx dX7_hitsRow_54 rfl ?_
              refine qj_icmp_gt (tgt := 61) cx dX7_hitsRow_56 (by decide) (fun c8 => ?_) (fun c8 => ?_)
              · have hP := qc_ifT hP c8
                exact L61 (P_X7_hitsRow_16 I f) ih a1 a2 a3 a4 a5 a6 a7 hP
              · have hP := qc_ifF hP c8
                refine qj_iconst (v := (1 : Int32)) cx dX7_hitsRow_59 (by decide) ?_
                exact qw_zret cx hz dX7_hitsRow_60 (by decide) (Nat.zero_le _) (Nat.zero_le _) (Option.some.inj hP) rfl rfl
  show qc_J F 0 0 0 [some (.ref 0), some (.int a), some (.int b), some (.int c), some (.int d), some (.int e), some (.int f), none] [] (I, J, shM)
  unfold P_X7_hitsRow at hP
  refine qj_iload_n cx dX7_hitsRow_0 rfl rfl ?_
  refine qj_iconst (v := (1 : Int32)) cx dX7_hitsRow_1 (by decide) ?_
  refine qj_icmp_lt (tgt := 11) cx dX7_hitsRow_2 (by decide) (fun c9 => ?_) (fun c9 => ?_)
  · have hP := qc_ifT hP c9
    refine qj_iconst (v := (0 : Int32)) cx dX7_hitsRow_11 (by decide) ?_
    exact qw_zret cx hz dX7_hitsRow_12 (by decide) (Nat.zero_le _) (Nat.zero_le _) (Option.some.inj hP) rfl rfl
  · have hP := qc_ifF hP c9
    refine qj_iload_n cx dX7_hitsRow_5 rfl rfl ?_
    refine qj_bipush (v := (60 : Int32)) cx dX7_hitsRow_6 (by decide) ?_
    refine qj_icmp_le (tgt := 13) cx dX7_hitsRow_8 (by decide) (fun c10 => ?_) (fun c10 => ?_)
    · have hP := qc_ifT hP c10
      refine qj_iconst (v := (0 : Int32)) cx dX7_hitsRow_13 (by decide) ?_
      refine qj_istore (ls1 := [some (.ref 0), some (.int a), some (.int b), some (.int c), some (.int d), some (.int e), some (.int f), some (.int (0 : Int32))]) cx dX7_hitsRow_14 rfl rfl rfl ?_
      exact L16 qc_fu a b c d e f (0 : Int32) hP
    · have hP := qc_ifF hP c10
      refine qj_iconst (v := (0 : Int32)) cx dX7_hitsRow_11 (by decide) ?_
      exact qw_zret cx hz dX7_hitsRow_12 (by decide) (Nat.zero_le _) (Nat.zero_le _) (Option.some.inj hP) rfl rfl
def P_X7_isRowClean_223 (I : Nat → Nat → Int32) (k3 : Int32 → Int32 → Int32 → Int32 → Int32 → Option (Int32)) (k12 : Int32 → Int32 → Int32 → Int32 → Int32 → Int32 → Option (Int32)) (a1 : Int32) (a2 : Int32) (a3 : Int32) (a4 : Int32) (a5 : Int32) (a6 : Int32) : Option (Int32) :=
  qc_let (a6 + (1 : Int32)) fun x1 =>
  k12 a1 a2 a3 a4 a5 x1
def P_X7_isRowClean_217 (I : Nat → Nat → Int32) (k3 : Int32 → Int32 → Int32 → Int32 → Int32 → Option (Int32)) (k12 : Int32 → Int32 → Int32 → Int32 → Int32 → Int32 → Option (Int32)) (k56 : Int32 → Int32 → Int32 → Int32 → Int32 → Int32 → Int32 → Option (Int32)) (a1 : Int32) (a2 : Int32) (a3 : Int32) (a4 : Int32) (a5 : Int32) (a6 : Int32) (a7 : Int32) : Option (Int32) :=
  qc_let (a7 + (1 : Int32)) fun x2 =>
  k56 a1 a2 a3 a4 a5 a6 x2
def P_X7_isRowClean_211 (I : Nat → Nat → Int32) (k3 : Int32 → Int32 → Int32 → Int32 → Int32 → Option (Int32)) (k12 : Int32 → Int32 → Int32 → Int32 → Int32 → Int32 → Option (Int32)) (k56 : Int32 → Int32 → Int32 → Int32 → Int32 → Int32 → Int32 → Option (Int32)) (k150 : Int32 → Int32 → Int32 → Int32 → Int32 → Int32 → Int32 → Int32 → Option (Int32)) (a1 : Int32) (a2 : Int32) (a3 : Int32) (a4 : Int32) (a5 : Int32) (a6 : Int32) (a7 : Int32) (a9 : Int32) : Option (Int32) :=
  qc_let (a9 + (1 : Int32)) fun x3 =>
  k150 a1 a2 a3 a4 a5 a6 a7 x3
def P_X7_isRowClean_168 (I : Nat → Nat → Int32) (k3 : Int32 → Int32 → Int32 → Int32 → Int32 → Option (Int32)) (k12 : Int32 → Int32 → Int32 → Int32 → Int32 → Int32 → Option (Int32)) (k56 : Int32 → Int32 → Int32 → Int32 → Int32 → Int32 → Int32 → Option (Int32)) (k150 : Int32 → Int32 → Int32 → Int32 → Int32 → Int32 → Int32 → Int32 → Option (Int32)) (a1 : Int32) (a2 : Int32) (a3 : Int32) (a4 : Int32) (a5 : Int32) (a6 : Int32) (a7 : Int32) (a9 : Int32) : Option (Int32) :=
  if a9 = a5 then
  P_X7_isRowClean_211 I k3 k12 k56 k150 a1 a2 a3 a4 a5 a6 a7 a9
  else
  if a9 = a6 then
  P_X7_isRowClean_211 I k3 k12 k56 k150 a1 a2 a3 a4 a5 a6 a7 a9
  else
  (P_X7_sumOf I a7 a5 a6 a9).bind fun q6 =>
  (P_X7_hitsRow I q6 a1 a5 a6 a9 a3).bind fun q7 =>
  if q7 = 0 then
  P_X7_isRowClean_211 I k3 k12 k56 k150 a1 a2 a3 a4 a5 a6 a7 a9
  else
  some (0 : Int32)
def P_X7_isRowClean_150 (I : Nat → Nat → Int32) (k3 : Int32 → Int32 → Int32 → Int32 → Int32 → Option (Int32)) (k12 : Int32 → Int32 → Int32 → Int32 → Int32 → Int32 → Option (Int32)) (k56 : Int32 → Int32 → Int32 → Int32 → Int32 → Int32 → Int32 → Option (Int32)) : Nat → Int32 → Int32 → Int32 → Int32 → Int32 → Int32 → Int32 → Int32 → Option (Int32)
  | 0, _, _, _, _, _, _, _, _ => none
  | f + 1, a1, a2, a3, a4, a5, a6, a7, a9 =>
  if a1 ≤ a9 then
  P_X7_isRowClean_217 I k3 k12 k56 a1 a2 a3 a4 a5 a6 a7
  else
  if a7 = (3 : Int32) then
  P_X7_isRowClean_168 I k3 k12 k56 (P_X7_isRowClean_150 I k3 k12 k56 f) a1 a2 a3 a4 a5 a6 a7 a9
  else
  if a7 = (5 : Int32) then
  P_X7_isRowClean_168 I k3 k12 k56 (P_X7_isRowClean_150 I k3 k12 k56 f) a1 a2 a3 a4 a5 a6 a7 a9
  else
  P_X7_isRowClean_217 I k3 k12 k56 a1 a2 a3 a4 a5 a6 a7
def P_X7_isRowClean_147 (I : Nat → Nat → Int32) (k3 : Int32 → Int32 → Int32 → Int32 → Int32 → Option (Int32)) (k12 : Int32 → Int32 → Int32 → Int32 → Int32 → Int32 → Option (Int32)) (k56 : Int32 → Int32 → Int32 → Int32 → Int32 → Int32 → Int32 → Option (Int32)) (a1 : Int32) (a2 : Int32) (a3 : Int32) (a4 : Int32) (a5 : Int32) (a6 : Int32) (a7 : Int32) : Option (Int32) :=
  P_X7_isRowClean_150 I k3 k12 k56 qc_fu a1 a2 a3 a4 a5 a6 a7 (0 : Int32)
def P_X7_isRowClean_106 (I : Nat → Nat → Int32) (k3 : Int32 → Int32 → Int32 → Int32 → Int32 → Option (Int32)) (k12 : Int32 → Int32 → Int32 → Int32 → Int32 → Int32 → Option (Int32)) (k56 : Int32 → Int32 → Int32 → Int32 → Int32 → Int32 → Int32 → Option (Int32)) (a1 : Int32) (a2 : Int32) (a3 : Int32) (a4 : Int32) (a5 : Int32) (a6 : Int32) (a7 : Int32) : Option (Int32) :=
  if a7 = (3 : Int32) then
  P_X7_isRowClean_147 I k3 k12 k56 a1 a2 a3 a4 a5 a6 a7
  else
  if a7 = (5 : Int32) then
  P_X7_isRowClean_147 I k3 k12 k56 a1 a2 a3 a4 a5 a6 a7
  else
  (P_X7_sumOf I a7 a5 a6 (-2 : Int32)).bind fun q14 =>
  (P_X7_hitsRow I q14 a1 a5 a6 (-2 : Int32) a3).bind fun q15 =>
  if q15 = 0 then
  P_X7_isRowClean_147 I k3 k12 k56 a1 a2 a3 a4 a5 a6 a7
  else
  some (0 : Int32)
def P_X7_isRowClean_56 (I : Nat → Nat → Int32) (k3 : Int32 → Int32 → Int32 → Int32 → Int32 → Option (Int32)) (k12 : Int32 → Int32 → Int32 → Int32 → Int32 → Int32 → Option (Int32)) : Nat → Int32 → Int32 → Int32 → Int32 → Int32 → Int32 → Int32 → Option (Int32)
  | 0, _, _, _, _, _, _, _ => none
  | f + 1, a1, a2, a3, a4, a5, a6, a7 =>
  if (6 : Int32) ≤ a7 then
  P_X7_isRowClean_223 I k3 k12 a1 a2 a3 a4 a5 a6
  else
  (if a7 = 0 then
  some (1 : Int32)
  else
  if a7 = (3 : Int32) then
  some (1 : Int32)
  else
  some (0 : Int32)).bind fun v19 =>
  (P_X7_bitOf a7).bind fun q21 =>
  if a2 &&& q21 = 0 then
  P_X7_isRowClean_217 I k3 k12 (P_X7_isRowClean_56 I k3 k12 f) a1 a2 a3 a4 a5 a6 a7
  else
  if v19 = 0 then
  P_X7_isRowClean_106 I k3 k12 (P_X7_isRowClean_56 I k3 k12 f) a1 a2 a3 a4 a5 a6 a7
  else
  if a5 ≤ a6 then
  P_X7_isRowClean_106 I k3 k12 (P_X7_isRowClean_56 I k3 k12 f) a1 a2 a3 a4 a5 a6 a7
  else
  P_X7_isRowClean_217 I k3 k12 (P_X7_isRowClean_56 I k3 k12 f) a1 a2 a3 a4 a5 a6 a7
def P_X7_isRowClean_12 (I : Nat → Nat → Int32) (k3 : Int32 → Int32 → Int32 → Int32 → Int32 → Option (Int32)) : Nat → Int32 → Int32 → Int32 → Int32 → Int32 → Int32 → Option (Int32)
  | 0, _, _, _, _, _, _ => none
  | f + 1, a1, a2, a3, a4, a5, a6 =>
  if a1 ≤ a6 then
  qc_let (a5 + (1 : Int32)) fun x26 =>
  k3 a1 a2 a3 a4 x26
  else
  if a5 = a6 then
  P_X7_isRowClean_223 I k3 (P_X7_isRowClean_12 I k3 f) a1 a2 a3 a4 a5 a6
  else
  if qc_in a5 8 then
  if qc_in a6 8 then
  (P_X7_without ((I 23 a5.toNatClampNeg) - (I 23 a6.toNatClampNeg))).bind fun q30 =>
  if a4 ≤ q30 then
  P_X7_isRowClean_56 I k3 (P_X7_isRowClean_12 I k3 f) qc_fu a1 a2 a3 a4 a5 a6 (0 : Int32)
  else
  some (0 : Int32)
  else none
  else none
def P_X7_isRowClean_3 (I : Nat → Nat → Int32) : Nat → Int32 → Int32 → Int32 → Int32 → Int32 → Option (Int32)
  | 0, _, _, _, _, _ => none
  | f + 1, a1, a2, a3, a4, a5 =>
  if a1 ≤ a5 then
  some (1 : Int32)
  else
  P_X7_isRowClean_12 I (P_X7_isRowClean_3 I f) qc_fu a1 a2 a3 a4 a5 (0 : Int32)
def P_X7_isRowClean (I : Nat → Nat → Int32) (a : Int32) (b : Int32) (c : Int32) (d : Int32) : Option (Int32) :=
  P_X7_isRowClean_3 I qc_fu a b c d (0 : Int32)
set_option maxRecDepth 20000 in
theorem c_X7_isRowClean {I : Nat → Nat → Int32} {J : Nat → Nat → Int64}  {a : Int32} {b : Int32} {c : Int32} {d : Int32} {q0 : Int32} (hP : P_X7_isRowClean I a b c d = some q0) : ∀ l, qc_M l yX7_isRowClean cX7_isRowClean 10 (some .boolean) 2 47 0 0 [.ref 0, .int a, .int b, .int c, .int d] (I, J, shM) (some (.int q0)) (I, J, shM) := by
  intro l
  refine qc_ent2 (by decide) (Nat.le_of_ble_eq_true rfl) ?_
  intro F hn0 cx hz
  have cx : qc_X F cX7_isRowClean RX7 "isRowClean" 2 0 0 47 := cx
  have L223 : ∀ (k3 : Int32 → Int32 → Int32 → Int32 → Int32 → Option (Int32)) (g3 : ∀ (a1 : Int32) (a2 : Int32) (a3 : Int32) (a4 : Int32) (a5 : Int32), k3 a1 a2 a3 a4 a5 = some q0 → qc_J F 0 0 3 [some (.ref 0), some (.int a1), some (.int a2), some (.int a3), some (.int a4), some (.int a5), none, none, none, none] [] (I, J, shM)) (k12 : Int32 → Int32 → Int32 → Int32 → Int32 → Int32 → Option (Int32)) (g12 : ∀ (a1 : Int32) (a2 : Int32) (a3 : Int32) (a4 : Int32) (a5 : Int32) (a6 : Int32), k12 a1 a2 a3 a4 a5 a6 = some q0 → qc_J F 0 0 12 [some (.ref 0), some (.int a1), some (.int a2), some (.int a3), some (.int a4), some (.int a5), some (.int a6), none, none, none] [] (I, J, shM)) (a1 : Int32) (a2 : Int32) (a3 : Int32) (a4 : Int32) (a5 : Int32) (a6 : Int32), P_X7_isRowClean_223 I k3 k12 a1 a2 a3 a4 a5 a6 = some q0 → qc_J F 0 0 223 [some (.ref 0), some (.int a1), some (.int a2), some (.int a3), some (.int a4), some (.int a5), some (.int a6), none, none, none] [] (I, J, shM) := by
    intro k3 g3 k12 g12 a1 a2 a3 a4 a5 a6 hP
    unfold P_X7_isRowClean_223 at hP
    obtain ⟨x1, ex1, hP⟩ := qc_letE hP
    refine qj_iinc (v := x1) (ls1 := [some (.ref 0), some (.int a1), some (.int a2), some (.int a3), some (.int a4), some (.int a5), some (.int x1), none, none, none]) cx dX7_isRowClean_223 rfl (by rw [ex1]; rfl) rfl rfl ?_
    refine qj_goto (tgt := 12) cx dX7_isRowClean_226 (by decide) ?_
    exact g12 a1 a2 a3 a4 a5 x1 hP
  have L217 : ∀ (k3 : Int32 → Int32 → Int32 → Int32 → Int32 → Option (Int32)) (g3 : ∀ (a1 : Int32) (a2 : Int32) (a3 : Int32) (a4 : Int32) (a5 : Int32), k3 a1 a2 a3 a4 a5 = some q0 → qc_J F 0 0 3 [some (.ref 0), some (.int a1), some (.int a2), some (.int a3), some (.int a4), some (.int a5), none, none, none, none] [] (I, J, shM)) (k12 : Int32 → Int32 → Int32 → Int32 → Int32 → Int32 → Option (Int32)) (g12 : ∀ (a1 : Int32) (a2 : Int32) (a3 : Int32) (a4 : Int32) (a5 : Int32) (a6 : Int32), k12 a1 a2 a3 a4 a5 a6 = some q0 → qc_J F 0 0 12 [some (.ref 0), some (.int a1), some (.int a2), some (.int a3), some (.int a4), some (.int a5), some (.int a6), none, none, none] [] (I, J, shM)) (k56 : Int32 → Int32 → Int32 → Int32 → Int32 → Int32 → Int32 → Option (Int32)) (g56 : ∀ (a1 : Int32) (a2 : Int32) (a3 : Int32) (a4 : Int32) (a5 : Int32) (a6 : Int32) (a7 : Int32), k56 a1 a2 a3 a4 a5 a6 a7 = some q0 → qc_J F 0 0 56 [some (.ref 0), some (.int a1), some (.int a2), some (.int a3), some (.int a4), some (.int a5), some (.int a6), some (.int a7), none, none] [] (I, J, shM)) (a1 : Int32) (a2 : Int32) (a3 : Int32) (a4 : Int32) (a5 : Int32) (a6 : Int32) (a7 : Int32), P_X7_isRowClean_217 I k3 k12 k56 a1 a2 a3 a4 a5 a6 a7 = some q0 → qc_J F 0 0 217 [some (.ref 0), some (.int a1), some (.int a2), some (.int a3), some (.int a4), some (.int a5), some (.int a6), some (.int a7), none, none] [] (I, J, shM) := by
    intro k3 g3 k12 g12 k56 g56 a1 a2 a3 a4 a5 a6 a7 hP
    unfold P_X7_isRowClean_217 at hP
    obtain ⟨x2, ex2, hP⟩ := qc_letE hP
    refine qj_iinc (v := x2) (ls1 := [some (.ref 0), some (.int a1), some (.int a2), some (.int a3), some (.int a4), some (.int a5), some (.int a6), some (.int x2), none, none]) cx dX7_isRowClean_217 rfl (by rw [ex2]; rfl) rfl rfl ?_
    refine qj_goto (tgt := 56) cx dX7_isRowClean_220 (by decide) ?_
    exact g56 a1 a2 a3 a4 a5 a6 x2 hP
  have L211 : ∀ (k3 : Int32 → Int32 → Int32 → Int32 → Int32 → Option (Int32)) (g3 : ∀ (a1 : Int32) (a2 : Int32) (a3 : Int32) (a4 : Int32) (a5 : Int32), k3 a1 a2 a3 a4 a5 = some q0 → qc_J F 0 0 3 [some (.ref 0), some (.int a1), some (.int a2), some (.int a3), some (.int a4), some (.int a5), none, none, none, none] [] (I, J, shM)) (k12 : Int32 → Int32 → Int32 → Int32 → Int32 → Int32 → Option (Int32)) (g12 : ∀ (a1 : Int32) (a2 : Int32) (a3 : Int32) (a4 : Int32) (a5 : Int32) (a6 : Int32), k12 a1 a2 a3 a4 a5 a6 = some q0 → qc_J F 0 0 12 [some (.ref 0), some (.int a1), some (.int a2), some (.int a3), some (.int a4), some (.int a5), some (.int a6), none, none, none] [] (I, J, shM)) (k56 : Int32 → Int32 → Int32 → Int32 → Int32 → Int32 → Int32 → Option (Int32)) (g56 : ∀ (a1 : Int32) (a2 : Int32) (a3 : Int32) (a4 : Int32) (a5 : Int32) (a6 : Int32) (a7 : Int32), k56 a1 a2 a3 a4 a5 a6 a7 = some q0 → qc_J F 0 0 56 [some (.ref 0), some (.int a1), some (.int a2), some (.int a3), some (.int a4), some (.int a5), some (.int a6), some (.int a7), none, none] [] (I, J, shM)) (k150 : Int32 → Int32 → Int32 → Int32 → Int32 → Int32 → Int32 → Int32 → Option (Int32)) (g150 : ∀ (a1 : Int32) (a2 : Int32) (a3 : Int32) (a4 : Int32) (a5 : Int32) (a6 : Int32) (a7 : Int32) (a9 : Int32), k150 a1 a2 a3 a4 a5 a6 a7 a9 = some q0 → qc_J F 0 0 150 [some (.ref 0), some (.int a1), some (.int a2), some (.int a3), some (.int a4), some (.int a5), some (.int a6), some (.int a7), none, some (.int a9)] [] (I, J, shM)) (a1 : Int32) (a2 : Int32) (a3 : Int32) (a4 : Int32) (a5 : Int32) (a6 : Int32) (a7 : Int32) (a9 : Int32), P_X7_isRowClean_211 I k3 k12 k56 k150 a1 a2 a3 a4 a5 a6 a7 a9 = some q0 → qc_J F 0 0 211 [some (.ref 0), some (.int a1), some (.int a2), some (.int a3), some (.int a4), some (.int a5), some (.int a6), some (.int a7), none, some (.int a9)] [] (I, J, shM) := by
    intro k3 g3 k12 g12 k56 g56 k150 g150 a1 a2 a3 a4 a5 a6 a7 a9 hP
    unfold P_X7_isRowClean_211 at hP
    obtain ⟨x3, ex3, hP⟩ := qc_letE hP
    refine qj_iinc (v := x3) (ls1 := [some (.ref 0), some (.int a1), some (.int a2), some (.int a3), some (.int a4), some (.int a5), some (.int a6), some (.int a7), none, some (.int x3)]) cx dX7_isRowClean_211 rfl (by rw [ex3]; rfl) rfl rfl ?_
    refine qj_goto (tgt := 150) cx dX7_isRowClean_214 (by decide) ?_
    exact g150 a1 a2 a3 a4 a5 a6 a7 x3 hP
  have L168 : ∀ (k3 : Int32 → Int32 → Int32 → Int32 → Int32 → Option (Int32)) (g3 : ∀ (a1 : Int32) (a2 : Int32) (a3 : Int32) (a4 : Int32) (a5 : Int32), k3 a1 a2 a3 a4 a5 = some q0 → qc_J F 0 0 3 [some (.ref 0), some (.int a1), some (.int a2), some (.int a3), some (.int a4), some (.int a5), none, none, none, none] [] (I, J, shM)) (k12 : Int32 → Int32 → Int32 → Int32 → Int32 → Int32 → Option (Int32)) (g12 : ∀ (a1 : Int32) (a2 : Int32) (a3 : Int32) (a4 : Int32) (a5 : Int32) (a6 : Int32), k12 a1 a2 a3 a4 a5 a6 = some q0 → qc_J F 0 0 12 [some (.ref 0), some (.int a1), some (.int a2), some (.int a3), some (.int a4), some (.int a5), some (.int a6), none, none, none] [] (I, J, shM)) (k56 : Int32 → Int32 → Int32 → Int32 → Int32 → Int32 → Int32 → Option (Int32)) (g56 : ∀ (a1 : Int32) (a2 : Int32) (a3 : Int32) (a4 : Int32) (a5 : Int32) (a6 : Int32) (a7 : Int32), k56 a1 a2 a3 a4 a5 a6 a7 = some q0 → qc_J F 0 0 56 [some (.ref 0), some (.int a1), some (.int a2), some (.int a3), some (.int a4), some (.int a5), some (.int a6), some (.int a7), none, none] [] (I, J, shM)) (k150 : Int32 → Int32 → Int32 → Int32 → Int32 → Int32 → Int32 → Int32 → Option (Int32)) (g150 : ∀ (a1 : Int32) (a2 : Int32) (a3 : Int32) (a4 : Int32) (a5 : Int32) (a6 : Int32) (a7 : Int32) (a9 : Int32), k150 a1 a2 a3 a4 a5 a6 a7 a9 = some q0 → qc_J F 0 0 150 [some (.ref 0), some (.int a1), some (.int a2), some (.int a3), some (.int a4), some (.int a5), some (.int a6), some (.int a7), none, some (.int a9)] [] (I, J, shM)) (a1 : Int32) (a2 : Int32) (a3 : Int32) (a4 : Int32) (a5 : Int32) (a6 : Int32) (a7 : Int32) (a9 : Int32), P_X7_isRowClean_168 I k3 k12 k56 k150 a1 a2 a3 a4 a5 a6 a7 a9 = some q0 → qc_J F 0 0 168 [some (.ref 0), some (.int a1), some (.int a2), some (.int a3), some (.int a4), some (.int a5), some (.int a6), some (.int a7), none, some (.int a9)] [] (I, J, shM) := by
    intro k3 g3 k12 g12 k56 g56 k150 g150 a1 a2 a3 a4 a5 a6 a7 a9 hP
    unfold P_X7_isRowClean_168 at hP
    refine qj_iload cx dX7_isRowClean_168 rfl ?_
    refine qj_iload cx dX7_isRowClean_170 rfl ?_
    refine qj_icmp_eq (tgt := 211) cx dX7_isRowClean_172 (by decide) (fun c4 => ?_) (fun c4 => ?_)
    · have hP := qc_ifT hP c4
      exact L211 k3 g3 k12 g12 k56 g56 k150 g150 a1 a2 a3 a4 a5 a6 a7 a9 hP
    · have hP := qc_ifF hP c4
      refine qj_iload cx dX7_isRowClean_175 rfl ?_
      refine qj_iload cx dX7_isRowClean_177 rfl ?_
      refine qj_icmp_eq (tgt := 211) cx dX7_isRowClean_179 (by decide) (fun c5 => ?_) (fun c5 => ?_)
      · have hP := qc_ifT hP c5
        exact L211 k3 g3 k12 g12 k56 g56 k150 g150 a1 a2 a3 a4 a5 a6 a7 a9 hP
      · have hP := qc_ifF hP c5
        refine qj_aload_n cx dX7_isRowClean_182 rfl rfl ?_
        refine qj_aload_n cx dX7_isRowClean_183 rfl rfl ?_
        refine qj_iload cx dX7_isRowClean_184 rfl ?_
        refine qj_iload cx dX7_isRowClean_186 rfl ?_
        refine qj_iload cx dX7_isRowClean_188 rfl ?_
        refine qj_iload cx dX7_isRowClean_190 rfl ?_
        obtain ⟨q6, eq6, hP⟩ := Option.bind_eq_some_iff.mp hP
        refine qj_callV (As := [.int a7, .int a5, .int a6, .int a9]) (st := [.ref 0]) (t := 0) (h' := (I, J, shM)) (r := some (.int q6)) cx dX7_isRowClean_192 (c_X7_sumOf (I := I) (J := J)  eq6) gc_RX7_366 qm_X7_sumOf rfl rfl qc_cl7 rfl (Nat.le_of_ble_eq_true rfl) (by decide) (by decide) rfl (Nat.le_of_ble_eq_true rfl) (Nat.le_of_ble_eq_true rfl) hn0 rfl ?_
        refine qj_iload_n cx dX7_isRowClean_195 rfl rfl ?_
        refine qj_iload cx dX7_isRowClean_196 rfl ?_
        refine qj_iload cx dX7_isRowClean_198 rfl ?_
        refine qj_iload cx dX7_isRowClean_200 rfl ?_
        refine qj_iload_n cx dX7_isRowClean_202 rfl rfl ?_
        obtain ⟨q7, eq7, hP⟩ := Option.bind_eq_some_iff.mp hP
        refine qj_callV (As := [.int q6, .int a1, .int a5, .int a6, .int a9, .int a3]) (st := []) (t := 0) (h' := (I, J, shM)) (r := some (.int q7)) cx dX7_isRowClean_203 (c_X7_hitsRow (I := I) (J := J)  eq7) gc_RX7_370 qm_X7_hitsRow rfl rfl qc_cl7 rfl (Nat.le_of_ble_eq_true rfl) (by decide) (by decide) rfl (Nat.le_of_ble_eq_true rfl) (Nat.le_of_ble_eq_true rfl) hn0 rfl ?_
        refine qj_if_eq (tgt := 211) cx dX7_isRowClean_206 (by decide) (fun c8 => ?_) (fun c8 => ?_)
        · have hP := qc_ifT hP c8
          exact L211 k3 g3 k12 g12 k56 g56 k150 g150 a1 a2 a3 a4 a5 a6 a7 a9 hP
        · have hP := qc_ifF hP c8
          refine qj_iconst (v := (0 : Int32)) cx dX7_isRowClean_209 (by decide) ?_
          exact qw_zret cx hz dX7_isRowClean_210 (by decide) (Nat.zero_le _) (Nat.zero_le _) (Option.some.inj hP) rfl rfl
  have L150 : ∀ (k3 : Int32 → Int32 → Int32 → Int32 → Int32 → Option (Int32)) (g3 : ∀ (a1 : Int32) (a2 : Int32) (a3 : Int32) (a4 : Int32) (a5 : Int32), k3 a1 a2 a3 a4 a5 = some q0 → qc_J F 0 0 3 [some (.ref 0), some (.int a1), some (.int a2), some (.int a3), some (.int a4), some (.int a5), none, none, none, none] [] (I, J, shM)) (k12 : Int32 → Int32 → Int32 → Int32 → Int32 → Int32 → Option (Int32)) (g12 : ∀ (a1 : Int32) (a2 : Int32) (a3 : Int32) (a4 : Int32) (a5 : Int32) (a6 : Int32), k12 a1 a2 a3 a4 a5 a6 = some q0 → qc_J F 0 0 12 [some (.ref 0), some (.int a1), some (.int a2), some (.int a3), some (.int a4), some (.int a5), some (.int a6), none, none, none] [] (I, J, shM)) (k56 : Int32 → Int32 → Int32 → Int32 → Int32 → Int32 → Int32 → Option (Int32)) (g56 : ∀ (a1 : Int32) (a2 : Int32) (a3 : Int32) (a4 : Int32) (a5 : Int32) (a6 : Int32) (a7 : Int32), k56 a1 a2 a3 a4 a5 a6 a7 = some q0 → qc_J F 0 0 56 [some (.ref 0), some (.int a1), some (.int a2), some (.int a3), some (.int a4), some (.int a5), some (.int a6), some (.int a7), none, none] [] (I, J, shM)) (f : Nat) (a1 : Int32) (a2 : Int32) (a3 : Int32) (a4 : Int32) (a5 : Int32) (a6 : Int32) (a7 : Int32) (a9 : Int32), P_X7_isRowClean_150 I k3 k12 k56 f a1 a2 a3 a4 a5 a6 a7 a9 = some q0 → qc_J F 0 0 150 [some (.ref 0), some (.int a1), some (.int a2), some (.int a3), some (.int a4), some (.int a5), some (.int a6), some (.int a7), none, some (.int a9)] [] (I, J, shM) := by
    intro k3 g3 k12 g12 k56 g56 f
    induction f with
    | zero => intro a1 a2 a3 a4 a5 a6 a7 a9 hP; cases hP
    | succ f ih =>
      intro a1 a2 a3 a4 a5 a6 a7 a9 hP
      rw [P_X7_isRowClean_150] at hP
      refine qj_iload cx dX7_isRowClean_150 rfl ?_
      refine qj_iload_n cx dX7_isRowClean_152 rfl rfl ?_
      refine qj_icmp_ge (tgt := 217) cx dX7_isRowClean_153 (by decide) (fun c9 => ?_) (fun c9 => ?_)
      · have hP := qc_ifT hP c9
        refine qw_sub (ls1 := [some (.ref 0), some (.int a1), some (.int a2), some (.int a3), some (.int a4), some (.int a5), some (.int a6), some (.int a7), none, none]) rfl (qc_sb_ok ⟨rfl, rfl, rfl, rfl, rfl, rfl, rfl, rfl, trivial⟩) ?_
        exact L217 k3 g3 k12 g12 k56 g56 a1 a2 a3 a4 a5 a6 a7 hP
      · have hP := qc_ifF hP c9
        refine qj_iload cx dX7_isRowClean_156 rfl ?_
        refine qj_iconst (v := (3 : Int32)) cx dX7_isRowClean_158 (by decide) ?_
        refine qj_icmp_eq (tgt := 168) cx dX7_isRowClean_159 (by decide) (fun c10 => ?_) (fun c10 => ?_)
        · have hP := qc_ifT hP c10
          exact L168 k3 g3 k12 g12 k56 g56 (P_X7_isRowClean_150 I k3 k12 k56 f) ih a1 a2 a3 a4 a5 a6 a7 a9 hP
        · have hP := qc_ifF hP c10
          refine qj_iload cx dX7_isRowClean_162 rfl ?_
          refine qj_iconst (v := (5 : Int32)) cx dX7_isRowClean_164 (by decide) ?_
          refine qj_icmp_ne (tgt := 217) cx dX7_isRowClean_165 (by decide) (fun c11 => ?_) (fun c11 => ?_)
          · have hP := qc_ifF hP c11
            refine qw_sub (ls1 := [some (.ref 0), some (.int a1), some (.int a2), some (.int a3), some (.int a4), some (.int a5), some (.int a6), some (.int a7), none, none]) rfl (qc_sb_ok ⟨rfl, rfl, rfl, rfl, rfl, rfl, rfl, rfl, trivial⟩) ?_
            exact L217 k3 g3 k12 g12 k56 g56 a1 a2 a3 a4 a5 a6 a7 hP
          · have hP := qc_ifT hP c11
            exact L168 k3 g3 k12 g12 k56 g56 (P_X7_isRowClean_150 I k3 k12 k56 f) ih a1 a2 a3 a4 a5 a6 a7 a9 hP
  have L147 : ∀ (k3 : Int32 → Int32 → Int32 → Int32 → Int32 → Option (Int32)) (g3 : ∀ (a1 : Int32) (a2 : Int32) (a3 : Int32) (a4 : Int32) (a5 : Int32), k3 a1 a2 a3 a4 a5 = some q0 → qc_J F 0 0 3 [some (.ref 0), some (.int a1), some (.int a2), some (.int a3), some (.int a4), some (.int a5), none, none, none, none] [] (I, J, shM)) (k12 : Int32 → Int32 → Int32 → Int32 → Int32 → Int32 → Option (Int32)) (g12 : ∀ (a1 : Int32) (a2 : Int32) (a3 : Int32) (a4 : Int32) (a5 : Int32) (a6 : Int32), k12 a1 a2 a3 a4 a5 a6 = some q0 → qc_J F 0 0 12 [some (.ref 0), some (.int a1), some (.int a2), some (.int a3), some (.int a4), some (.int a5), some (.int a6), none, none, none] [] (I, J, shM)) (k56 : Int32 → Int32 → Int32 → Int32 → Int32 → Int32 → Int32 → Option (Int32)) (g56 : ∀ (a1 : Int32) (a2 : Int32) (a3 : Int32) (a4 : Int32) (a5 : Int32) (a6 : Int32) (a7 : Int32), k56 a1 a2 a3 a4 a5 a6 a7 = some q0 → qc_J F 0 0 56 [some (.ref 0), some (.int a1), some (.int a2), some (.int a3), some (.int a4), some (.int a5), some (.int a6), some (.int a7), none, none] [] (I, J, shM)) (a1 : Int32) (a2 : Int32) (a3 : Int32) (a4 : Int32) (a5 : Int32) (a6 : Int32) (a7 : Int32), P_X7_isRowClean_147 I k3 k12 k56 a1 a2 a3 a4 a5 a6 a7 = some q0 → qc_J F 0 0 147 [some (.ref 0), some (.int a1), some (.int a2), some (.int a3), some (.int a4), some (.int a5), some (.int a6), some (.int a7), none, none] [] (I, J, shM) := by
    intro k3 g3 k12 g12 k56 g56 a1 a2 a3 a4 a5 a6 a7 hP
    unfold P_X7_isRowClean_147 at hP
    refine qj_iconst (v := (0 : Int32)) cx dX7_isRowClean_147 (by decide) ?_
    refine qj_istore (ls1 := [some (.ref 0), some (.int a1), some (.int a2), some (.int a3), some (.int a4), some (.int a5), some (.int a6), some (.int a7), none, some (.int (0 : Int32))]) cx dX7_isRowClean_148 rfl rfl rfl ?_
    exact L150 k3 g3 k12 g12 k56 g56 qc_fu a1 a2 a3 a4 a5 a6 a7 (0 : Int32) hP
  have L106 : ∀ (k3 : Int32 → Int32 → Int32 → Int32 → Int32 → Option (Int32)) (g3 : ∀ (a1 : Int32) (a2 : Int32) (a3 : Int32) (a4 : Int32) (a5 : Int32), k3 a1 a2 a3 a4 a5 = some q0 → qc_J F 0 0 3 [some (.ref 0), some (.int a1), some (.int a2), some (.int a3), some (.int a4), some (.int a5), none, none, none, none] [] (I, J, shM)) (k12 : Int32 → Int32 → Int32 → Int32 → Int32 → Int32 → Option (Int32)) (g12 : ∀ (a1 : Int32) (a2 : Int32) (a3 : Int32) (a4 : Int32) (a5 : Int32) (a6 : Int32), k12 a1 a2 a3 a4 a5 a6 = some q0 → qc_J F 0 0 12 [some (.ref 0), some (.int a1), some (.int a2), some (.int a3), some (.int a4), some (.int a5), some (.int a6), none, none, none] [] (I, J, shM)) (k56 : Int32 → Int32 → Int32 → Int32 → Int32 → Int32 → Int32 → Option (Int32)) (g56 : ∀ (a1 : Int32) (a2 : Int32) (a3 : Int32) (a4 : Int32) (a5 : Int32) (a6 : Int32) (a7 : Int32), k56 a1 a2 a3 a4 a5 a6 a7 = some q0 → qc_J F 0 0 56 [some (.ref 0), some (.int a1), some (.int a2), some (.int a3), some (.int a4), some (.int a5), some (.int a6), some (.int a7), none, none] [] (I, J, shM)) (a1 : Int32) (a2 : Int32) (a3 : Int32) (a4 : Int32) (a5 : Int32) (a6 : Int32) (a7 : Int32), P_X7_isRowClean_106 I k3 k12 k56 a1 a2 a3 a4 a5 a6 a7 = some q0 → qc_J F 0 0 106 [some (.ref 0), some (.int a1), some (.int a2), some (.int a3), some (.int a4), some (.int a5), some (.int a6), some (.int a7), none, none] [] (I, J, shM) := by
    intro k3 g3 k12 g12 k56 g56 a1 a2 a3 a4 a5 a6 a7 hP
    unfold P_X7_isRowClean_106 at hP
    refine qj_iload cx dX7_isRowClean_106 rfl ?_
    refine qj_iconst (v := (3 : Int32)) cx dX7_isRowClean_108 (by decide) ?_
    refine qj_icmp_eq (tgt := 147) cx dX7_isRowClean_109 (by decide) (fun c12 => ?_) (fun c12 => ?_)
    · have hP := qc_ifT hP c12
      exact L147 k3 g3 k12 g12 k56 g56 a1 a2 a3 a4 a5 a6 a7 hP
    · have hP := qc_ifF hP c12
      refine qj_iload cx dX7_isRowClean_112 rfl ?_
      refine qj_iconst (v := (5 : Int32)) cx dX7_isRowClean_114 (by decide) ?_
      refine qj_icmp_eq (tgt := 147) cx dX7_isRowClean_115 (by decide) (fun c13 => ?_) (fun c13 => ?_)
      · have hP := qc_ifT hP c13
        exact L147 k3 g3 k12 g12 k56 g56 a1 a2 a3 a4 a5 a6 a7 hP
      · have hP := qc_ifF hP c13
        refine qj_aload_n cx dX7_isRowClean_118 rfl rfl ?_
        refine qj_aload_n cx dX7_isRowClean_119 rfl rfl ?_
        refine qj_iload cx dX7_isRowClean_120 rfl ?_
        refine qj_iload cx dX7_isRowClean_122 rfl ?_
        refine qj_iload cx dX7_isRowClean_124 rfl ?_
        refine qj_bipush (v := (-2 : Int32)) cx dX7_isRowClean_126 (by decide) ?_
        obtain ⟨q14, eq14, hP⟩ := Option.bind_eq_some_iff.mp hP
        refine qj_callV (As := [.int a7, .int a5, .int a6, .int (-2 : Int32)]) (st := [.ref 0]) (t := 0) (h' := (I, J, shM)) (r := some (.int q14)) cx dX7_isRowClean_128 (c_X7_sumOf (I := I) (J := J)  eq14) gc_RX7_366 qm_X7_sumOf rfl rfl qc_cl7 rfl (Nat.le_of_ble_eq_true rfl) (by decide) (by decide) rfl (Nat.le_of_ble_eq_true rfl) (Nat.le_of_ble_eq_true rfl) hn0 rfl ?_
        refine qj_iload_n cx dX7_isRowClean_131 rfl rfl ?_
        refine qj_iload cx dX7_isRowClean_132 rfl ?_
        refine qj_iload cx dX7_isRowClean_134 rfl ?_
        refine qj_bipush (v := (-2 : Int32)) cx dX7_isRowClean_136 (by decide) ?_
        refine qj_iload_n cx dX7_isRowClean_138 rfl rfl ?_
        obtain ⟨q15, eq15, hP⟩ := Option.bind_eq_some_iff.mp hP
        refine qj_callV (As := [.int q14, .int a1, .int a5, .int a6, .int (-2 : Int32), .int a3]) (st := []) (t := 0) (h' := (I, J, shM)) (r := some (.int q15)) cx dX7_isRowClean_139 (c_X7_hitsRow (I := I) (J := J)  eq15) gc_RX7_370 qm_X7_hitsRow rfl rfl qc_cl7 rfl (Nat.le_of_ble_eq_true rfl) (by decide) (by decide) rfl (Nat.le_of_ble_eq_true rfl) (Nat.le_of_ble_eq_true rfl) hn0 rfl ?_
        refine qj_if_eq (tgt := 147) cx dX7_isRowClean_142 (by decide) (fun c16 => ?_) (fun c16 => ?_)
        · have hP := qc_ifT hP c16
          exact L147 k3 g3 k12 g12 k56 g56 a1 a2 a3 a4 a5 a6 a7 hP
        · have hP := qc_ifF hP c16
          refine qj_iconst (v := (0 : Int32)) cx dX7_isRowClean_145 (by decide) ?_
          exact qw_zret cx hz dX7_isRowClean_146 (by decide) (Nat.zero_le _) (Nat.zero_le _) (Option.some.inj hP) rfl rfl
  have L56 : ∀ (k3 : Int32 → Int32 → Int32 → Int32 → Int32 → Option (Int32)) (g3 : ∀ (a1 : Int32) (a2 : Int32) (a3 : Int32) (a4 : Int32) (a5 : Int32), k3 a1 a2 a3 a4 a5 = some q0 → qc_J F 0 0 3 [some (.ref 0), some (.int a1), some (.int a2), some (.int a3), some (.int a4), some (.int a5), none, none, none, none] [] (I, J, shM)) (k12 : Int32 → Int32 → Int32 → Int32 → Int32 → Int32 → Option (Int32)) (g12 : ∀ (a1 : Int32) (a2 : Int32) (a3 : Int32) (a4 : Int32) (a5 : Int32) (a6 : Int32), k12 a1 a2 a3 a4 a5 a6 = some q0 → qc_J F 0 0 12 [some (.ref 0), some (.int a1), some (.int a2), some (.int a3), some (.int a4), some (.int a5), some (.int a6), none, none, none] [] (I, J, shM)) (f : Nat) (a1 : Int32) (a2 : Int32) (a3 : Int32) (a4 : Int32) (a5 : Int32) (a6 : Int32) (a7 : Int32), P_X7_isRowClean_56 I k3 k12 f a1 a2 a3 a4 a5 a6 a7 = some q0 → qc_J F 0 0 56 [some (.ref 0), some (.int a1), some (.int a2), some (.int a3), some (.int a4), some (.int a5), some (.int a6), some (.int a7), none, none] [] (I, J, shM) := by
    intro k3 g3 k12 g12 f
    induction f with
    | zero => intro a1 a2 a3 a4 a5 a6 a7 hP; cases hP
    | succ f ih =>
      intro a1 a2 a3 a4 a5 a6 a7 hP
      rw [P_X7_isRowClean_56] at hP
      refine qj_iload cx dX7_isRowClean_56 rfl ?_
      refine qj_bipush (v := (6 : Int32)) cx dX7_isRowClean_58 (by decide) ?_
      refine qj_icmp_ge (tgt := 223) cx dX7_isRowClean_60 (by decide) (fun c17 => ?_) (fun c17 => ?_)
      · have hP := qc_ifT hP c17
        refine qw_sub (ls1 := [some (.ref 0), some (.int a1), some (.int a2), some (.int a3), some (.int a4), some (.int a5), some (.int a6), none, none, none]) rfl (qc_sb_ok ⟨rfl, rfl, rfl, rfl, rfl, rfl, rfl, trivial⟩) ?_
        exact L223 k3 g3 k12 g12 a1 a2 a3 a4 a5 a6 hP
      · have hP := qc_ifF hP c17
        refine qj_iload cx dX7_isRowClean_63 rfl ?_
        obtain ⟨v19, hv19, hP⟩ := Option.bind_eq_some_iff.mp hP
        have Kv19 : qc_J F 0 0 79 [some (.ref 0), some (.int a1), some (.int a2), some (.int a3), some (.int a4), some (.int a5), some (.int a6), some (.int a7), none, none] [.int v19] (I, J, shM) := by
          refine qj_istore (ls1 := [some (.ref 0), some (.int a1), some (.int a2), some (.int a3), some (.int a4), some (.int a5), some (.int a6), some (.int a7), some (.int v19), none]) cx dX7_isRowClean_79 rfl rfl rfl ?_
          refine qj_iload_n cx dX7_isRowClean_81 rfl rfl ?_
          refine qj_iload cx dX7_isRowClean_82 rfl ?_
          obtain ⟨q21, eq21, hP⟩ := Option.bind_eq_some_iff.mp hP
          refine qj_callS (As := [.int a7]) (st := [.int a2]) (h' := (I, J, shM)) (r := some (.int q21)) cx dX7_isRowClean_84 (c_X7_bitOf (S := shM) (I := I) (J := J) eq21) gc_RX7_286 qm_X7_bitOf rfl (by decide) (by decide) rfl (Nat.le_of_ble_eq_true rfl) (Nat.le_of_ble_eq_true rfl) hn0 rfl ?_
          refine qj_iand cx dX7_isRowClean_87 ?_
          refine qj_if_eq (tgt := 217) cx dX7_isRowClean_88 (by decide) (fun c22 => ?_) (fun c22 => ?_)
          · have hP := qc_ifT hP c22
            refine qw_sub (ls1 := [some (.ref 0), some (.int a1), some (.int a2), some (.int a3), some (.int a4), some (.int a5), some (.int a6), some (.int a7), none, none]) rfl (qc_sb_ok ⟨rfl, rfl, rfl, rfl, rfl, rfl, rfl, rfl, trivial⟩) ?_
            exact L217 k3 g3 k12 g12 (P_X7_isRowClean_56 I k3 k12 f) ih a1 a2 a3 a4 a5 a6 a7 hP
          · have hP := qc_ifF hP c22
            refine qj_iload cx dX7_isRowClean_91 rfl ?_
            refine qj_if_eq (tgt := 106) cx dX7_isRowClean_93 (by decide) (fun c23 => ?_) (fun c23 => ?_)
            · have hP := qc_ifT hP c23
              refine qw_sub (ls1 := [some (.ref 0), some (.int a1), some (.int a2), some (.int a3), some (.int a4), some (.int a5), some (.int a6), some (.int a7), none, none]) rfl (qc_sb_ok ⟨rfl, rfl, rfl, rfl, rfl, rfl, rfl, rfl, trivial⟩) ?_
              exact L106 k3 g3 k12 g12 (P_X7_isRowClean_56 I k3 k12 f) ih a1 a2 a3 a4 a5 a6 a7 hP
            · have hP := qc_ifF hP c23
              refine qj_iload cx dX7_isRowClean_96 rfl ?_
              refine qj_iload cx dX7_isRowClean_98 rfl ?_
              refine qj_icmp_le (tgt := 106) cx dX7_isRowClean_100 (by decide) (fun c24 => ?_) (fun c24 => ?_)
              · have hP := qc_ifT hP c24
                refine qw_sub (ls1 := [some (.ref 0), some (.int a1), some (.int a2), some (.int a3), some (.int a4), some (.int a5), some (.int a6), some (.int a7), none, none]) rfl (qc_sb_ok ⟨rfl, rfl, rfl, rfl, rfl, rfl, rfl, rfl, trivial⟩) ?_
                exact L106 k3 g3 k12 g12 (P_X7_isRowClean_56 I k3 k12 f) ih a1 a2 a3 a4 a5 a6 a7 hP
              · have hP := qc_ifF hP c24
                refine qj_goto (tgt := 217) cx dX7_isRowClean_103 (by decide) ?_
                refine qw_sub (ls1 := [some (.ref 0), some (.int a1), some (.int a2), some (.int a3), some (.int a4), some (.int a5), some (.int a6), some (.int a7), none, none]) rfl (qc_sb_ok ⟨rfl, rfl, rfl, rfl, rfl, rfl, rfl, rfl, trivial⟩) ?_
                exact L217 k3 g3 k12 g12 (P_X7_isRowClean_56 I k3 k12 f) ih a1 a2 a3 a4 a5 a6 a7 hP
        refine qj_if_eq (tgt := 74) cx dX7_isRowClean_65 (by decide) (fun c18 => ?_) (fun c18 => ?_)
        · have hv19 := qc_ifT hv19 c18
          refine qj_iconst (v := (1 : Int32)) cx dX7_isRowClean_74 (by decide) ?_
          refine qj_goto (tgt := 79) cx dX7_isRowClean_75 (by decide) ?_
          exact qw_top (Option.some.inj hv19).symm Kv19
        · have hv19 := qc_ifF hv19 c18
          refine qj_iload cx dX7_isRowClean_68 rfl ?_
          refine qj_iconst (v := (3 : Int32)) cx dX7_isRowClean_70 (by decide) ?_
          refine qj_icmp_ne (tgt := 78) cx dX7_isRowClean_71 (by decide) (fun c20 => ?_) (fun c20 => ?_)
          · have hv19 := qc_ifF hv19 c20
            refine qj_iconst (v := (0 : Int32)) cx dX7_isRowClean_78 (by decide) ?_
            exact qw_top (Option.some.inj hv19).symm Kv19
          · have hv19 := qc_ifT hv19 c20
            refine qj_iconst (v := (1 : Int32)) cx dX7_isRowClean_74 (by decide) ?_
            refine qj_goto (tgt := 79) cx dX7_isRowClean_75 (by decide) ?_
            exact qw_top (Option.some.inj hv19).symm Kv19
  have L12 : ∀ (k3 : Int32 → Int32 → Int32 → Int32 → Int32 → Option (Int32)) (g3 : ∀ (a1 : Int32) (a2 : Int32) (a3 : Int32) (a4 : Int32) (a5 : Int32), k3 a1 a2 a3 a4 a5 = some q0 → qc_J F 0 0 3 [some (.ref 0), some (.int a1), some (.int a2), some (.int a3), some (.int a4), some (.int a5), none, none, none, none] [] (I, J, shM)) (f : Nat) (a1 : Int32) (a2 : Int32) (a3 : Int32) (a4 : Int32) (a5 : Int32) (a6 : Int32), P_X7_isRowClean_12 I k3 f a1 a2 a3 a4 a5 a6 = some q0 → qc_J F 0 0 12 [some (.ref 0), some (.int a1), some (.int a2), some (.int a3), some (.int a4), some (.int a5), some (.int a6), none, none, none] [] (I, J, shM) := by
    intro k3 g3 f
    induction f with
    | zero => intro a1 a2 a3 a4 a5 a6 hP; cases hP
    | succ f ih =>
      intro a1 a2 a3 a4 a5 a6 hP
      rw [P_X7_isRowClean_12] at hP
      refine qj_iload cx dX7_isRowClean_12 rfl ?_
      refine qj_iload_n cx dX7_isRowClean_14 rfl rfl ?_
      refine qj_icmp_ge (tgt := 229) cx dX7_isRowClean_15 (by decide) (fun c25 => ?_) (fun c25 => ?_)
      · have hP := qc_ifT hP c25
        obtain ⟨x26, ex26, hP⟩ := qc_letE hP
        refine qj_iinc (v := x26) (ls1 := [some (.ref 0), some (.int a1), some (.int a2), some (.int a3), some (.int a4), some (.int x26), some (.int a6), none, none, none]) cx dX7_isRowClean_229 rfl (by rw [ex26]; rfl) rfl rfl ?_
        refine qj_goto (tgt := 3) cx dX7_isRowClean_232 (by decide) ?_
        refine qw_sub (ls1 := [some (.ref 0), some (.int a1), some (.int a2), some (.int a3), some (.int a4), some (.int x26), none, none, none, none]) rfl (qc_sb_ok ⟨rfl, rfl, rfl, rfl, rfl, rfl, trivial⟩) ?_
        exact g3 a1 a2 a3 a4 x26 hP
      · have hP := qc_ifF hP c25
        refine qj_iload cx dX7_isRowClean_18 rfl ?_
        refine qj_iload cx dX7_isRowClean_20 rfl ?_
        refine qj_icmp_ne (tgt := 28) cx dX7_isRowClean_22 (by decide) (fun c27 => ?_) (fun c27 => ?_)
        · have hP := qc_ifF hP c27
          refine qj_aload_n cx dX7_isRowClean_28 rfl rfl ?_
          refine qw_getR (j := 43) (t1 := 23) cx dX7_isRowClean_29 qc_cl7 rfl (Nat.le_of_ble_eq_true rfl) rfl ww_1135 rfl ?_
          refine qj_iload cx dX7_isRowClean_32 rfl ?_
          obtain ⟨c28, hP⟩ := qc_ck hP
          refine qw_iald cx dX7_isRowClean_34 rfl (Nat.le_of_ble_eq_true rfl) rfl c28 ?_
          refine qj_aload_n cx dX7_isRowClean_35 rfl rfl ?_
          refine qw_getR (j := 43) (t1 := 23) cx dX7_isRowClean_36 qc_cl7 rfl (Nat.le_of_ble_eq_true rfl) rfl ww_1135 rfl ?_
          refine qj_iload cx dX7_isRowClean_39 rfl ?_
          obtain ⟨c29, hP⟩ := qc_ck hP
          refine qw_iald cx dX7_isRowClean_41 rfl (Nat.le_of_ble_eq_true rfl) rfl c29 ?_
          refine qj_isub cx dX7_isRowClean_42 ?_
          obtain ⟨q30, eq30, hP⟩ := Option.bind_eq_some_iff.mp hP
          refine qj_callS (As := [.int ((I 23 a5.toNatClampNeg) - (I 23 a6.toNatClampNeg))]) (st := []) (h' := (I, J, shM)) (r := some (.int q30)) cx dX7_isRowClean_43 (c_X7_without (S := shM) (I := I) (J := J) eq30) gc_RX7_274 qm_X7_without rfl (by decide) (by decide) rfl (Nat.le_of_ble_eq_true rfl) (Nat.le_of_ble_eq_true rfl) hn0 rfl ?_
          refine qj_iload cx dX7_isRowClean_46 rfl ?_
          refine qj_icmp_ge (tgt := 53) cx dX7_isRowClean_48 (by decide) (fun c31 => ?_) (fun c31 => ?_)
          · have hP := qc_ifT hP c31
            refine qj_iconst (v := (0 : Int32)) cx dX7_isRowClean_53 (by decide) ?_
            refine qj_istore (ls1 := [some (.ref 0), some (.int a1), some (.int a2), some (.int a3), some (.int a4), some (.int a5), some (.int a6), some (.int (0 : Int32)), none, none]) cx dX7_isRowClean_54 rfl rfl rfl ?_
            exact L56 k3 g3 (P_X7_isRowClean_12 I k3 f) ih qc_fu a1 a2 a3 a4 a5 a6 (0 : Int32) hP
          · have hP := qc_ifF hP c31
            refine qj_iconst (v := (0 : Int32)) cx dX7_isRowClean_51 (by decide) ?_
            exact qw_zret cx hz dX7_isRowClean_52 (by decide) (Nat.zero_le _) (Nat.zero_le _) (Option.some.inj hP) rfl rfl
        · have hP := qc_ifT hP c27
          refine qj_goto (tgt := 223) cx dX7_isRowClean_25 (by decide) ?_
          exact L223 k3 g3 (P_X7_isRowClean_12 I k3 f) ih a1 a2 a3 a4 a5 a6 hP
  have L3 : ∀  (f : Nat) (a1 : Int32) (a2 : Int32) (a3 : Int32) (a4 : Int32) (a5 : Int32), P_X7_isRowClean_3 I f a1 a2 a3 a4 a5 = some q0 → qc_J F 0 0 3 [some (.ref 0), some (.int a1), some (.int a2), some (.int a3), some (.int a4), some (.int a5), none, none, none, none] [] (I, J, shM) := by
    intro  f
    induction f with
    | zero => intro a1 a2 a3 a4 a5 hP; cases hP
    | succ f ih =>
      intro a1 a2 a3 a4 a5 hP
      rw [P_X7_isRowClean_3] at hP
      refine qj_iload cx dX7_isRowClean_3 rfl ?_
      refine qj_iload_n cx dX7_isRowClean_5 rfl rfl ?_
      refine qj_icmp_ge (tgt := 235) cx dX7_isRowClean_6 (by decide) (fun c32 => ?_) (fun c32 => ?_)
      · have hP := qc_ifT hP c32
        refine qj_iconst (v := (1 : Int32)) cx dX7_isRowClean_235 (by decide) ?_
        exact qw_zret cx hz dX7_isRowClean_236 (by decide) (Nat.zero_le _) (Nat.zero_le _) (Option.some.inj hP) rfl rfl
      · have hP := qc_ifF hP c32
        refine qj_iconst (v := (0 : Int32)) cx dX7_isRowClean_9 (by decide) ?_
        refine qj_istore (ls1 := [some (.ref 0), some (.int a1), some (.int a2), some (.int a3), some (.int a4), some (.int a5), some (.int (0 : Int32)), none, none, none]) cx dX7_isRowClean_10 rfl rfl rfl ?_
        exact L12 (P_X7_isRowClean_3 I f) ih qc_fu a1 a2 a3 a4 a5 (0 : Int32) hP
  show qc_J F 0 0 0 [some (.ref 0), some (.int a), some (.int b), some (.int c), some (.int d), none, none, none, none, none] [] (I, J, shM)
  unfold P_X7_isRowClean at hP
  refine qj_iconst (v := (0 : Int32)) cx dX7_isRowClean_0 (by decide) ?_
  refine qj_istore (ls1 := [some (.ref 0), some (.int a), some (.int b), some (.int c), some (.int d), some (.int (0 : Int32)), none, none, none, none]) cx dX7_isRowClean_1 rfl rfl rfl ?_
  exact L3 qc_fu a b c d (0 : Int32) hP
def P_X7_grown_127 (k62 : (Nat → Nat → Int32) → Int32 → Int32 → Int32 → Int32 → Int32 → Option (Int32 × (Nat → Nat → Int32))) (I : (Nat → Nat → Int32)) (a1 : Int32) (a2 : Int32) (a3 : Int32) (a4 : Int32) (a5 : Int32) : Option (Int32 × (Nat → Nat → Int32)) :=
  if qc_in a5 8 then
  if I 23 a5.toNatClampNeg ≤ (60 : Int32) then
  qc_let (a5 + (1 : Int32)) fun x3 =>
  k62 I a1 a2 a3 a4 x3
  else
  some ((-2 : Int32), I)
  else none
def P_X7_grown_87 (k62 : (Nat → Nat → Int32) → Int32 → Int32 → Int32 → Int32 → Int32 → Option (Int32 × (Nat → Nat → Int32))) : Nat → (Nat → Nat → Int32) → Int32 → Int32 → Int32 → Int32 → Int32 → Option (Int32 × (Nat → Nat → Int32))
  | 0, _, _, _, _, _, _ => none
  | f + 1, I, a1, a2, a3, a4, a5 =>
  if qc_in a5 8 then
  if (60 : Int32) < I 23 a5.toNatClampNeg then
  P_X7_grown_127 k62 I a1 a2 a3 a4 a5
  else
  (P_X7_isRowClean I (a5 + (1 : Int32)) a1 a2 a3).bind fun q6 =>
  if q6 = 0 then
  (if qc_in a5 8 then
  if qc_in a5 8 then
  qc_let (qc_u2 I 23 a5.toNatClampNeg ((I 23 a5.toNatClampNeg) + (1 : Int32))) fun I9 =>
  P_X7_grown_87 k62 f I9 a1 a2 a3 a4 a5
  else none
  else none)
  else
  P_X7_grown_127 k62 I a1 a2 a3 a4 a5
  else none
def P_X7_grown_62  : Nat → (Nat → Nat → Int32) → Int32 → Int32 → Int32 → Int32 → Int32 → Option (Int32 × (Nat → Nat → Int32))
  | 0, _, _, _, _, _, _ => none
  | f + 1, I, a1, a2, a3, a4, a5 =>
  if a4 < a5 then
  (if qc_in a4 8 then
  some (I 23 a4.toNatClampNeg, I)
  else none)
  else
  if qc_in (a5 - (1 : Int32)) 8 then
  if qc_in a5 8 then
  qc_let (qc_u2 I 23 a5.toNatClampNeg ((I 23 (a5 - (1 : Int32)).toNatClampNeg) + (1 : Int32))) fun I14 =>
  P_X7_grown_87 (P_X7_grown_62 f) qc_fu I14 a1 a2 a3 a4 a5
  else none
  else none
def P_X7_grown (I : Nat → Nat → Int32) (a : Int32) (b : Int32) (c : Int32) (d : Int32) : Option (Int32 × (Nat → Nat → Int32)) :=
  qc_let (qc_u2 I 0 0 (0 : Int32)) fun I16 =>
  if a < 0 then
  some ((-1 : Int32), I16)
  else
  if (7 : Int32) < a then
  some ((-1 : Int32), I16)
  else
  if b < 0 then
  some ((-1 : Int32), I16)
  else
  if (5 : Int32) < b then
  some ((-1 : Int32), I16)
  else
  if c < (1 : Int32) then
  some ((-1 : Int32), I16)
  else
  if (20 : Int32) < c then
  some ((-1 : Int32), I16)
  else
  if 0 ≤ d then
  (if d < (8 : Int32) then
  qc_let (qc_u2 I16 23 0 (1 : Int32)) fun I25 =>
  P_X7_grown_62 qc_fu I25 a b c d (1 : Int32)
  else
  some ((-2 : Int32), I16))
  else
  some ((-1 : Int32), I16)
set_option maxRecDepth 20000 in
theorem c_X7_grown {I : Nat → Nat → Int32} {J : Nat → Nat → Int64}  {a : Int32} {b : Int32} {c : Int32} {d : Int32} {q0 : Int32 × (Nat → Nat → Int32)} (hP : P_X7_grown I a b c d = some q0) : ∀ l, qc_M l yX7_grown cX7_grown 6 (some .int) 3 76 0 0 [.ref 0, .int a, .int b, .int c, .int d] (I, J, shM) (some (.int q0.1)) (q0.2, J, shM) := by
  intro l
  refine qc_ent2 (by decide) (Nat.le_of_ble_eq_true rfl) ?_
  intro F hn0 cx hz
  have cx : qc_X F cX7_grown RX7 "grown" 3 0 0 76 := cx
  have L127 : ∀ (k62 : (Nat → Nat → Int32) → Int32 → Int32 → Int32 → Int32 → Int32 → Option (Int32 × (Nat → Nat → Int32))) (g62 : ∀ (I : Nat → Nat → Int32) (a1 : Int32) (a2 : Int32) (a3 : Int32) (a4 : Int32) (a5 : Int32), k62 I a1 a2 a3 a4 a5 = some q0 → qc_J F 0 0 62 [some (.ref 0), some (.int a1), some (.int a2), some (.int a3), some (.int a4), some (.int a5)] [] (I, J, shM)) (I : (Nat → Nat → Int32)) (a1 : Int32) (a2 : Int32) (a3 : Int32) (a4 : Int32) (a5 : Int32), P_X7_grown_127 k62 I a1 a2 a3 a4 a5 = some q0 → qc_J F 0 0 127 [some (.ref 0), some (.int a1), some (.int a2), some (.int a3), some (.int a4), some (.int a5)] [] (I, J, shM) := by
    intro k62 g62 I a1 a2 a3 a4 a5 hP
    unfold P_X7_grown_127 at hP
    refine qj_aload_n cx dX7_grown_127 rfl rfl ?_
    refine qw_getR (j := 43) (t1 := 23) cx dX7_grown_128 qc_cl7 rfl (Nat.le_of_ble_eq_true rfl) rfl ww_1135 rfl ?_
    refine qj_iload cx dX7_grown_131 rfl ?_
    obtain ⟨c1, hP⟩ := qc_ck hP
    refine qw_iald cx dX7_grown_133 rfl (Nat.le_of_ble_eq_true rfl) rfl c1 ?_
    refine qj_bipush (v := (60 : Int32)) cx dX7_grown_134 (by decide) ?_
    refine qj_icmp_le (tgt := 142) cx dX7_grown_136 (by decide) (fun c2 => ?_) (fun c2 => ?_)
    · have hP := qc_ifT hP c2
      obtain ⟨x3, ex3, hP⟩ := qc_letE hP
      refine qj_iinc (v := x3) (ls1 := [some (.ref 0), some (.int a1), some (.int a2), some (.int a3), some (.int a4), some (.int x3)]) cx dX7_grown_142 rfl (by rw [ex3]; rfl) rfl rfl ?_
      refine qj_goto (tgt := 62) cx dX7_grown_145 (by decide) ?_
      exact g62 I a1 a2 a3 a4 x3 hP
    · have hP := qc_ifF hP c2
      refine qj_bipush (v := (-2 : Int32)) cx dX7_grown_139 (by decide) ?_
      exact qw_iret cx hz dX7_grown_141 (Nat.zero_le _) (Nat.zero_le _) (congrArg (fun q => q.1) (Option.some.inj hP)) (congrArg (fun q => q.2) (Option.some.inj hP)) rfl
  have L87 : ∀ (k62 : (Nat → Nat → Int32) → Int32 → Int32 → Int32 → Int32 → Int32 → Option (Int32 × (Nat → Nat → Int32))) (g62 : ∀ (I : Nat → Nat → Int32) (a1 : Int32) (a2 : Int32) (a3 : Int32) (a4 : Int32) (a5 : Int32), k62 I a1 a2 a3 a4 a5 = some q0 → qc_J F 0 0 62 [some (.ref 0), some (.int a1), some (.int a2), some (.int a3), some (.int a4), some (.int a5)] [] (I, J, shM)) (f : Nat) (I : (Nat → Nat → Int32)) (a1 : Int32) (a2 : Int32) (a3 : Int32) (a4 : Int32) (a5 : Int32), P_X7_grown_87 k62 f I a1 a2 a3 a4 a5 = some q0 → qc_J F 0 0 87 [some (.ref 0), some (.int a1), some (.int a2), some (.int a3), some (.int a4), some (.int a5)] [] (I, J, shM) := by
    intro k62 g62 f
    induction f with
    | zero => intro I a1 a2 a3 a4 a5 hP; cases hP
    | succ f ih =>
      intro I a1 a2 a3 a4 a5 hP
      rw [P_X7_grown_87] at hP
      refine qj_aload_n cx dX7_grown_87 rfl rfl ?_
      refine qw_getR (j := 43) (t1 := 23) cx dX7_grown_88 qc_cl7 rfl (Nat.le_of_ble_eq_true rfl) rfl ww_1135 rfl ?_
      refine qj_iload cx dX7_grown_91 rfl ?_
      obtain ⟨c4, hP⟩ := qc_ck hP
      refine qw_iald cx dX7_grown_93 rfl (Nat.le_of_ble_eq_true rfl) rfl c4 ?_
      refine qj_bipush (v := (60 : Int32)) cx dX7_grown_94 (by decide) ?_
      refine qj_icmp_gt (tgt := 127) cx dX7_grown_96 (by decide) (fun c5 => ?_) (fun c5 => ?_)
      · have hP := qc_ifT hP c5
        exact L127 k62 g62 I a1 a2 a3 a4 a5 hP
      · have hP := qc_ifF hP c5
        refine qj_aload_n cx dX7_grown_99 rfl rfl ?_
        refine qj_iload cx dX7_grown_100 rfl ?_
        refine qj_iconst (v := (1 : Int32)) cx dX7_grown_102 (by decide) ?_
        refine qj_iadd cx dX7_grown_103 ?_
        refine qj_iload_n cx dX7_grown_104 rfl rfl ?_
        refine qj_iload_n cx dX7_grown_105 rfl rfl ?_
        refine qj_iload_n cx dX7_grown_106 rfl rfl ?_
        obtain ⟨q6, eq6, hP⟩ := Option.bind_eq_some_iff.mp hP
        refine qj_callV (As := [.int (a5 + (1 : Int32)), .int a1, .int a2, .int a3]) (st := []) (t := 0) (h' := (I, J, shM)) (r := some (.int q6)) cx dX7_grown_107 (c_X7_isRowClean (I := I) (J := J)  eq6) gc_RX7_374 qm_X7_isRowClean rfl rfl qc_cl7 rfl (Nat.le_of_ble_eq_true rfl) (by decide) (by decide) rfl (Nat.le_of_ble_eq_true rfl) (Nat.le_of_ble_eq_true rfl) hn0 rfl ?_
        refine qj_if_ne (tgt := 127) cx dX7_grown_110 (by decide) (fun c7 => ?_) (fun c7 => ?_)
        · have hP := qc_ifF hP c7
          exact L127 k62 g62 I a1 a2 a3 a4 a5 hP
        · have hP := qc_ifT hP c7
          refine qj_aload_n cx dX7_grown_113 rfl rfl ?_
          refine qw_getR (j := 43) (t1 := 23) cx dX7_grown_114 qc_cl7 rfl (Nat.le_of_ble_eq_true rfl) rfl ww_1135 rfl ?_
          refine qj_iload cx dX7_grown_117 rfl ?_
          refine qj_dup2 cx dX7_grown_119 rfl rfl ?_
          obtain ⟨c8, hP⟩ := qc_ck hP
          refine qw_iald cx dX7_grown_120 rfl (Nat.le_of_ble_eq_true rfl) rfl c8 ?_
          refine qj_iconst (v := (1 : Int32)) cx dX7_grown_121 (by decide) ?_
          refine qj_iadd cx dX7_grown_122 ?_
          obtain ⟨c10, hP⟩ := qc_ck hP
          obtain ⟨I9, eI9, hP⟩ := qc_letE hP
          refine qw_iast cx dX7_grown_123 rfl (Nat.le_of_ble_eq_true rfl) rfl c10 eI9 ?_
          refine qj_goto (tgt := 87) cx dX7_grown_124 (by decide) ?_
          exact ih I9 a1 a2 a3 a4 a5 hP
  have L62 : ∀  (f : Nat) (I : (Nat → Nat → Int32)) (a1 : Int32) (a2 : Int32) (a3 : Int32) (a4 : Int32) (a5 : Int32), P_X7_grown_62 f I a1 a2 a3 a4 a5 = some q0 → qc_J F 0 0 62 [some (.ref 0), some (.int a1), some (.int a2), some (.int a3), some (.int a4), some (.int a5)] [] (I, J, shM) := by
    intro  f
    induction f with
    | zero => intro I a1 a2 a3 a4 a5 hP; cases hP
    | succ f ih =>
      intro I a1 a2 a3 a4 a5 hP
      rw [P_X7_grown_62] at hP
      refine qj_iload cx dX7_grown_62 rfl ?_
      refine qj_iload cx dX7_grown_64 rfl ?_
      refine qj_icmp_gt (tgt := 148) cx dX7_grown_66 (by decide) (fun c11 => ?_) (fun c11 => ?_)
      · have hP := qc_ifT hP c11
        refine qj_aload_n cx dX7_grown_148 rfl rfl ?_
        refine qw_getR (j := 43) (t1 := 23) cx dX7_grown_149 qc_cl7 rfl (Nat.le_of_ble_eq_true rfl) rfl ww_1135 rfl ?_
        refine qj_iload cx dX7_grown_152 rfl ?_
        obtain ⟨c12, hP⟩ := qc_ck hP
        refine qw_iald cx dX7_grown_154 rfl (Nat.le_of_ble_eq_true rfl) rfl c12 ?_
        exact qw_iret cx hz dX7_grown_155 (Nat.zero_le _) (Nat.zero_le _) (congrArg (fun q => q.1) (Option.some.inj hP)) (congrArg (fun q => q.2) (Option.some.inj hP)) rfl
      · have hP := qc_ifF hP c11
        refine qj_aload_n cx dX7_grown_69 rfl rfl ?_
        refine qw_getR (j := 43) (t1 := 23) cx dX7_grown_70 qc_cl7 rfl (Nat.le_of_ble_eq_true rfl) rfl ww_1135 rfl ?_
        refine qj_iload cx dX7_grown_73 rfl ?_
        refine qj_aload_n cx dX7_grown_75 rfl rfl ?_
        refine qw_getR (j := 43) (t1 := 23) cx dX7_grown_76 qc_cl7 rfl (Nat.le_of_ble_eq_true rfl) rfl ww_1135 rfl ?_
        refine qj_iload cx dX7_grown_79 rfl ?_
        refine qj_iconst (v := (1 : Int32)) cx dX7_grown_81 (by decide) ?_
        refine qj_isub cx dX7_grown_82 ?_
        obtain ⟨c13, hP⟩ := qc_ck hP
        refine qw_iald cx dX7_grown_83 rfl (Nat.le_of_ble_eq_true rfl) rfl c13 ?_
        refine qj_iconst (v := (1 : Int32)) cx dX7_grown_84 (by decide) ?_
        refine qj_iadd cx dX7_grown_85 ?_
        obtain ⟨c15, hP⟩ := qc_ck hP
        obtain ⟨I14, eI14, hP⟩ := qc_letE hP
        refine qw_iast cx dX7_grown_86 rfl (Nat.le_of_ble_eq_true rfl) rfl c15 eI14 ?_
        exact L87 (P_X7_grown_62 f) ih qc_fu I14 a1 a2 a3 a4 a5 hP
  show qc_J F 0 0 0 [some (.ref 0), some (.int a), some (.int b), some (.int c), some (.int d), none] [] (I, J, shM)
  unfold P_X7_grown at hP
  refine qj_aload_n cx dX7_grown_0 rfl rfl ?_
  refine qj_iconst (v := (0 : Int32)) cx dX7_grown_1 (by decide) ?_
  obtain ⟨I16, eI16, hP⟩ := qc_letE hP
  refine qw_putI (j := 0) cx dX7_grown_2 qc_cl7 rfl (Nat.le_of_ble_eq_true rfl) rfl ww_1092 rfl rfl rfl eI16 ?_
  refine qj_iload_n cx dX7_grown_5 rfl rfl ?_
  refine qj_if_lt (tgt := 40) cx dX7_grown_6 (by decide) (fun c17 => ?_) (fun c17 => ?_)
  · have hP := qc_ifT hP c17
    refine qj_iconst (v := (-1 : Int32)) cx dX7_grown_40 (by decide) ?_
    exact qw_iret cx hz dX7_grown_41 (Nat.zero_le _) (Nat.zero_le _) (congrArg (fun q => q.1) (Option.some.inj hP)) (congrArg (fun q => q.2) (Option.some.inj hP)) rfl
  · have hP := qc_ifF hP c17
    refine qj_iload_n cx dX7_grown_9 rfl rfl ?_
    refine qj_bipush (v := (7 : Int32)) cx dX7_grown_10 (by decide) ?_
    refine qj_icmp_gt (tgt := 40) cx dX7_grown_12 (by decide) (fun c18 => ?_) (fun c18 => ?_)
    · have hP := qc_ifT hP c18
      refine qj_iconst (v := (-1 : Int32)) cx dX7_grown_40 (by decide) ?_
      exact qw_iret cx hz dX7_grown_41 (Nat.zero_le _) (Nat.zero_le _) (congrArg (fun q => q.1) (Option.some.inj hP)) (congrArg (fun q => q.2) (Option.some.inj hP)) rfl
    · have hP := qc_ifF hP c18
      refine qj_iload_n cx dX7_grown_15 rfl rfl ?_
      refine qj_if_lt (tgt := 40) cx dX7_grown_16 (by decide) (fun c19 => ?_) (fun c19 => ?_)
      · have hP := qc_ifT hP c19
        refine qj_iconst (v := (-1 : Int32)) cx dX7_grown_40 (by decide) ?_
        exact qw_iret cx hz dX7_grown_41 (Nat.zero_le _) (Nat.zero_le _) (congrArg (fun q => q.1) (Option.some.inj hP)) (congrArg (fun q => q.2) (Option.some.inj hP)) rfl
      · have hP := qc_ifF hP c19
        refine qj_iload_n cx dX7_grown_19 rfl rfl ?_
        refine qj_iconst (v := (5 : Int32)) cx dX7_grown_20 (by decide) ?_
        refine qj_icmp_gt (tgt := 40) cx dX7_grown_21 (by decide) (fun c20 => ?_) (fun c20 => ?_)
        · have hP := qc_ifT hP c20
          refine qj_iconst (v := (-1 : Int32)) cx dX7_grown_40 (by decide) ?_
          exact qw_iret cx hz dX7_grown_41 (Nat.zero_le _) (Nat.zero_le _) (congrArg (fun q => q.1) (Option.some.inj hP)) (congrArg (fun q => q.2) (Option.some.inj hP)) rfl
        · have hP := qc_ifF hP c20
          refine qj_iload_n cx dX7_grown_24 rfl rfl ?_
          refine qj_iconst (v := (1 : Int32)) cx dX7_grown_25 (by decide) ?_
          refine qj_icmp_lt (tgt := 40) cx dX7_grown_26 (by decide) (fun c21 => ?_) (fun c21 => ?_)
          · have hP := qc_ifT hP c21
            refine qj_iconst (v := (-1 : Int32)) cx dX7_grown_40 (by decide) ?_
            exact qw_iret cx hz dX7_grown_41 (Nat.zero_le _) (Nat.zero_le _) (congrArg (fun q => q.1) (Option.some.inj hP)) (congrArg (fun q => q.2) (Option.some.inj hP)) rfl
          · have hP := qc_ifF hP c21
            refine qj_iload_n cx dX7_grown_29 rfl rfl ?_
            refine qj_bipush (v := (20 : Int32)) cx dX7_grown_30 (by decide) ?_
            refine qj_icmp_gt (tgt := 40) cx dX7_grown_32 (by decide) (fun c22 => ?_) (fun c22 => ?_)
            · have hP := qc_ifT hP c22
              refine qj_iconst (v := (-1 : Int32)) cx dX7_grown_40 (by decide) ?_
              exact qw_iret cx hz dX7_grown_41 (Nat.zero_le _) (Nat.zero_le _) (congrArg (fun q => q.1) (Option.some.inj hP)) (congrArg (fun q => q.2) (Option.some.inj hP)) rfl
            · have hP := qc_ifF hP c22
              refine qj_iload cx dX7_grown_35 rfl ?_
              refine qj_if_ge (tgt := 42) cx dX7_grown_37 (by decide) (fun c23 => ?_) (fun c23 => ?_)
              · have hP := qc_ifT hP c23
                refine qj_iload cx dX7_grown_42 rfl ?_
                refine qj_bipush (v := (8 : Int32)) cx dX7_grown_44 (by decide) ?_
                refine qj_icmp_lt (tgt := 52) cx dX7_grown_46 (by decide) (fun c24 => ?_) (fun c24 => ?_)
                · have hP := qc_ifT hP c24
                  refine qj_aload_n cx dX7_grown_52 rfl rfl ?_
                  refine qw_getR (j := 43) (t1 := 23) cx dX7_grown_53 qc_cl7 rfl (Nat.le_of_ble_eq_true rfl) rfl ww_1135 rfl ?_
                  refine qj_iconst (v := (0 : Int32)) cx dX7_grown_56 (by decide) ?_
                  refine qj_iconst (v := (1 : Int32)) cx dX7_grown_57 (by decide) ?_
                  obtain ⟨I25, eI25, hP⟩ := qc_letE hP
                  refine qw_iast cx dX7_grown_58 rfl (Nat.le_of_ble_eq_true rfl) rfl (by decide) eI25 ?_
                  refine qj_iconst (v := (1 : Int32)) cx dX7_grown_59 (by decide) ?_
                  refine qj_istore (ls1 := [some (.ref 0), some (.int a), some (.int b), some (.int c), some (.int d), some (.int (1 : Int32))]) cx dX7_grown_60 rfl rfl rfl ?_
                  exact L62 qc_fu I25 a b c d (1 : Int32) hP
                · have hP := qc_ifF hP c24
                  refine qj_bipush (v := (-2 : Int32)) cx dX7_grown_49 (by decide) ?_
                  exact qw_iret cx hz dX7_grown_51 (Nat.zero_le _) (Nat.zero_le _) (congrArg (fun q => q.1) (Option.some.inj hP)) (congrArg (fun q => q.2) (Option.some.inj hP)) rfl
              · have hP := qc_ifF hP c23
                refine qj_iconst (v := (-1 : Int32)) cx dX7_grown_40 (by decide) ?_
                exact qw_iret cx hz dX7_grown_41 (Nat.zero_le _) (Nat.zero_le _) (congrArg (fun q => q.1) (Option.some.inj hP)) (congrArg (fun q => q.2) (Option.some.inj hP)) rfl
