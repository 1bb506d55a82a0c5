def P_X1_take (I : Nat → Nat → Int32) (J : Nat → Nat → Int64) (q : Nat) (p : Nat) : Option ((Nat → Nat → Int32) × (Nat → Nat → Int64)) :=
  qc_let (qc_u I (q + 1 + 0) (va_cpy (I (p + 1 + 6)) (I (q + 1 + 0)) 0 0 6)) fun I1 =>
  qc_let (qc_u I1 (q + 1 + 1) (va_cpy (I1 (p + 1 + 7)) (I1 (q + 1 + 1)) 0 0 6)) fun I2 =>
  qc_let (qc_u I2 (q + 1 + 2) (va_cpy (I2 (p + 1 + 8)) (I2 (q + 1 + 2)) 0 0 6)) fun I3 =>
  qc_let (qc_u2 J q 3 (J p 6)) fun J4 =>
  some (I3, J4)
set_option maxRecDepth 20000 in
theorem c_X1_take {I : Nat → Nat → Int32} {J : Nat → Nat → Int64} {w : Nat → Nat} {n : Nat} (hn : 121 ≤ n) (hn1 : n ≤ 200) {q : Nat} (hq : qc_im n q) {p : Nat} (hp : qc_sc n p)  {q0 : (Nat → Nat → Int32) × (Nat → Nat → Int64)} (hP : P_X1_take I J q p = some q0) : ∀ l, qc_M l yX1_take cX1_take 2 none 1 26 0 0 [.ref q, .ref p] (I, J, (rX w, kX, nX, n)) none (q0.1, q0.2, (rX w, kX, nX, n)) := by
  intro l
  refine qc_ent2 (by decide) (Nat.le_of_ble_eq_true rfl) ?_
  intro F hn0 cx hz
  have cx : qc_X F cX1_take RX1 "take" 1 0 0 26 := cx
  show qc_J F 0 0 0 [some (.ref q), some (.ref p)] [] (I, J, (rX w, kX, nX, n))
  unfold P_X1_take at hP
  refine qj_aload_n cx dX1_take_0 rfl rfl ?_
  refine qw_getR (j := 13) (t1 := (p + 1 + 6)) cx dX1_take_1 qc_cl4 hp.2.1 (qc_ltp0 hp.1) rfl ww_195 ((hp.2.2 6 (by decide)).2.2 _) ?_
  refine qj_iconst (v := (0 : Int32)) cx dX1_take_4 (by decide) ?_
  refine qj_aload_n cx dX1_take_5 rfl rfl ?_
  refine qw_getR (j := 0) (t1 := (q + 1 + 0)) cx dX1_take_6 qc_cl1 hq.2.1 (qc_ltp0 hq.1) rfl ww_307 ((hq.2.2 0 (by decide)).2.2 _) ?_
  refine qj_iconst (v := (0 : Int32)) cx dX1_take_9 (by decide) ?_
  refine qj_bipush (v := (6 : Int32)) cx dX1_take_10 (by decide) ?_
  obtain ⟨I1, eI1, hP⟩ := qc_letE hP
  refine qw_copy (sp1 := 0) (dp1 := 0) (m1 := 6) cx dX1_take_12 ww_541 ww_543 ww_542 ww_124 (hp.2.2 6 (by decide)).1 (qc_ltp hp.1 (by decide)) (hp.2.2 6 (by decide)).2.1 (hq.2.2 0 (by decide)).1 (qc_ltq hq.1 (by decide)) (hq.2.2 0 (by decide)).2.1 ⟨by decide, rfl⟩ ⟨by decide, rfl⟩ ⟨by decide, rfl⟩ (by decide) (by decide) (Nat.le_of_ble_eq_true rfl) eI1 ?_
  refine qj_aload_n cx dX1_take_15 rfl rfl ?_
  refine qw_getR (j := 14) (t1 := (p + 1 + 7)) cx dX1_take_16 qc_cl4 hp.2.1 (qc_ltp0 hp.1) rfl ww_201 ((hp.2.2 7 (by decide)).2.2 _) ?_
  refine qj_iconst (v := (0 : Int32)) cx dX1_take_19 (by decide) ?_
  refine qj_aload_n cx dX1_take_20 rfl rfl ?_
  refine qw_getR (j := 1) (t1 := (q + 1 + 1)) cx dX1_take_21 qc_cl1 hq.2.1 (qc_ltp0 hq.1) rfl ww_308 ((hq.2.2 1 (by decide)).2.2 _) ?_
  refine qj_iconst (v := (0 : Int32)) cx dX1_take_24 (by decide) ?_
  refine qj_bipush (v := (6 : Int32)) cx dX1_take_25 (by decide) ?_
  obtain ⟨I2, eI2, hP⟩ := qc_letE hP
  refine qw_copy (sp1 := 0) (dp1 := 0) (m1 := 6) cx dX1_take_27 ww_541 ww_543 ww_542 ww_124 (hp.2.2 7 (by decide)).1 (qc_ltp hp.1 (by decide)) (hp.2.2 7 (by decide)).2.1 (hq.2.2 1 (by decide)).1 (qc_ltq hq.1 (by decide)) (hq.2.2 1 (by decide)).2.1 ⟨by decide, rfl⟩ ⟨by decide, rfl⟩ ⟨by decide, rfl⟩ (by decide) (by decide) (Nat.le_of_ble_eq_true rfl) eI2 ?_
  refine qj_aload_n cx dX1_take_30 rfl rfl ?_
  refine qw_getR (j := 15) (t1 := (p + 1 + 8)) cx dX1_take_31 qc_cl4 hp.2.1 (qc_ltp0 hp.1) rfl ww_206 ((hp.2.2 8 (by decide)).2.2 _) ?_
  refine qj_iconst (v := (0 : Int32)) cx dX1_take_34 (by decide) ?_
  refine qj_aload_n cx dX1_take_35 rfl rfl ?_
  refine qw_getR (j := 2) (t1 := (q + 1 + 2)) cx dX1_take_36 qc_cl1 hq.2.1 (qc_ltp0 hq.1) rfl ww_309 ((hq.2.2 2 (by decide)).2.2 _) ?_
  refine qj_iconst (v := (0 : Int32)) cx dX1_take_39 (by decide) ?_
  refine qj_bipush (v := (6 : Int32)) cx dX1_take_40 (by decide) ?_
  obtain ⟨I3, eI3, hP⟩ := qc_letE hP
  refine qw_copy (sp1 := 0) (dp1 := 0) (m1 := 6) cx dX1_take_42 ww_541 ww_543 ww_542 ww_124 (hp.2.2 8 (by decide)).1 (qc_ltp hp.1 (by decide)) (hp.2.2 8 (by decide)).2.1 (hq.2.2 2 (by decide)).1 (qc_ltq hq.1 (by decide)) (hq.2.2 2 (by decide)).2.1 ⟨by decide, rfl⟩ ⟨by decide, rfl⟩ ⟨by decide, rfl⟩ (by decide) (by decide) (Nat.le_of_ble_eq_true rfl) eI3 ?_
  refine qj_aload_n cx dX1_take_45 rfl rfl ?_
  refine qj_aload_n cx dX1_take_46 rfl rfl ?_
  refine qw_getJ (j := 6) cx dX1_take_47 qc_cl4 hp.2.1 (qc_ltp0 hp.1) rfl ww_170 ?_
  obtain ⟨J4, eJ4, hP⟩ := qc_letE hP
  refine qw_putJ (j := 3) cx dX1_take_50 qc_cl1 hq.2.1 (qc_ltp0 hq.1) rfl ww_310 rfl rfl rfl eJ4 ?_
  exact qw_vret cx hz dX1_take_53 (Nat.zero_le _) (Nat.zero_le _) (congrArg (fun q => q.1) (Option.some.inj hP)) (congrArg (fun q => q.2) (Option.some.inj hP))
def P_X1_giveTo (I : Nat → Nat → Int32) (J : Nat → Nat → Int64) (q : Nat) (p : Nat) : Option ((Nat → Nat → Int32) × (Nat → Nat → Int64)) :=
  qc_let (qc_u I (p + 1 + 6) (va_cpy (I (q + 1 + 0)) (I (p + 1 + 6)) 0 0 6)) fun I1 =>
  qc_let (qc_u I1 (p + 1 + 7) (va_cpy (I1 (q + 1 + 1)) (I1 (p + 1 + 7)) 0 0 6)) fun I2 =>
  qc_let (qc_u I2 (p + 1 + 8) (va_cpy (I2 (q + 1 + 2)) (I2 (p + 1 + 8)) 0 0 6)) fun I3 =>
  qc_let (qc_u2 J p 6 (J q 3)) fun J4 =>
  some (I3, J4)
set_option maxRecDepth 20000 in
theorem c_X1_giveTo {I : Nat → Nat → Int32} {J : Nat → Nat → Int64} {w : Nat → Nat} {n : Nat} (hn : 121 ≤ n) (hn1 : n ≤ 200) {q : Nat} (hq : qc_im n q) {p : Nat} (hp : qc_sc n p)  {q0 : (Nat → Nat → Int32) × (Nat → Nat → Int64)} (hP : P_X1_giveTo I J q p = some q0) : ∀ l, qc_M l yX1_giveTo cX1_giveTo 2 none 1 26 0 0 [.ref q, .ref p] (I, J, (rX w, kX, nX, n)) none (q0.1, q0.2, (rX w, kX, nX, n)) := by
  intro l
  refine qc_ent2 (by decide) (Nat.le_of_ble_eq_true rfl) ?_
  intro F hn0 cx hz
  have cx : qc_X F cX1_giveTo RX1 "giveTo" 1 0 0 26 := cx
  show qc_J F 0 0 0 [some (.ref q), some (.ref p)] [] (I, J, (rX w, kX, nX, n))
  unfold P_X1_giveTo at hP
  refine qj_aload_n cx dX1_giveTo_0 rfl rfl ?_
  refine qw_getR (j := 0) (t1 := (q + 1 + 0)) cx dX1_giveTo_1 qc_cl1 hq.2.1 (qc_ltp0 hq.1) rfl ww_307 ((hq.2.2 0 (by decide)).2.2 _) ?_
  refine qj_iconst (v := (0 : Int32)) cx dX1_giveTo_4 (by decide) ?_
  refine qj_aload_n cx dX1_giveTo_5 rfl rfl ?_
  refine qw_getR (j := 13) (t1 := (p + 1 + 6)) cx dX1_giveTo_6 qc_cl4 hp.2.1 (qc_ltp0 hp.1) rfl ww_195 ((hp.2.2 6 (by decide)).2.2 _) ?_
  refine qj_iconst (v := (0 : Int32)) cx dX1_giveTo_9 (by decide) ?_
  refine qj_bipush (v := (6 : Int32)) cx dX1_giveTo_10 (by decide) ?_
  obtain ⟨I1, eI1, hP⟩ := qc_letE hP
  refine qw_copy (sp1 := 0) (dp1 := 0) (m1 := 6) cx dX1_giveTo_12 ww_541 ww_543 ww_542 ww_124 (hq.2.2 0 (by decide)).1 (qc_ltq hq.1 (by decide)) (hq.2.2 0 (by decide)).2.1 (hp.2.2 6 (by decide)).1 (qc_ltp hp.1 (by decide)) (hp.2.2 6 (by decide)).2.1 ⟨by decide, rfl⟩ ⟨by decide, rfl⟩ ⟨by decide, rfl⟩ (by decide) (by decide) (Nat.le_of_ble_eq_true rfl) eI1 ?_
  refine qj_aload_n cx dX1_giveTo_15 rfl rfl ?_
  refine qw_getR (j := 1) (t1 := (q + 1 + 1)) cx dX1_giveTo_16 qc_cl1 hq.2.1 (qc_ltp0 hq.1) rfl ww_308 ((hq.2.2 1 (by decide)).2.2 _) ?_
  refine qj_iconst (v := (0 : Int32)) cx dX1_giveTo_19 (by decide) ?_
  refine qj_aload_n cx dX1_giveTo_20 rfl rfl ?_
  refine qw_getR (j := 14) (t1 := (p + 1 + 7)) cx dX1_giveTo_21 qc_cl4 hp.2.1 (qc_ltp0 hp.1) rfl ww_201 ((hp.2.2 7 (by decide)).2.2 _) ?_
  refine qj_iconst (v := (0 : Int32)) cx dX1_giveTo_24 (by decide) ?_
  refine qj_bipush (v := (6 : Int32)) cx dX1_giveTo_25 (by decide) ?_
  obtain ⟨I2, eI2, hP⟩ := qc_letE hP
  refine qw_copy (sp1 := 0) (dp1 := 0) (m1 := 6) cx dX1_giveTo_27 ww_541 ww_543 ww_542 ww_124 (hq.2.2 1 (by decide)).1 (qc_ltq hq.1 (by decide)) (hq.2.2 1 (by decide)).2.1 (hp.2.2 7 (by decide)).1 (qc_ltp hp.1 (by decide)) (hp.2.2 7 (by decide)).2.1 ⟨by decide, rfl⟩ ⟨by decide, rfl⟩ ⟨by decide, rfl⟩ (by decide) (by decide) (Nat.le_of_ble_eq_true rfl) eI2 ?_
  refine qj_aload_n cx dX1_giveTo_30 rfl rfl ?_
  refine qw_getR (j := 2) (t1 := (q + 1 + 2)) cx dX1_giveTo_31 qc_cl1 hq.2.1 (qc_ltp0 hq.1) rfl ww_309 ((hq.2.2 2 (by decide)).2.2 _) ?_
  refine qj_iconst (v := (0 : Int32)) cx dX1_giveTo_34 (by decide) ?_
  refine qj_aload_n cx dX1_giveTo_35 rfl rfl ?_
  refine qw_getR (j := 15) (t1 := (p + 1 + 8)) cx dX1_giveTo_36 qc_cl4 hp.2.1 (qc_ltp0 hp.1) rfl ww_206 ((hp.2.2 8 (by decide)).2.2 _) ?_
  refine qj_iconst (v := (0 : Int32)) cx dX1_giveTo_39 (by decide) ?_
  refine qj_bipush (v := (6 : Int32)) cx dX1_giveTo_40 (by decide) ?_
  obtain ⟨I3, eI3, hP⟩ := qc_letE hP
  refine qw_copy (sp1 := 0) (dp1 := 0) (m1 := 6) cx dX1_giveTo_42 ww_541 ww_543 ww_542 ww_124 (hq.2.2 2 (by decide)).1 (qc_ltq hq.1 (by decide)) (hq.2.2 2 (by decide)).2.1 (hp.2.2 8 (by decide)).1 (qc_ltp hp.1 (by decide)) (hp.2.2 8 (by decide)).2.1 ⟨by decide, rfl⟩ ⟨by decide, rfl⟩ ⟨by decide, rfl⟩ (by decide) (by decide) (Nat.le_of_ble_eq_true rfl) eI3 ?_
  refine qj_aload_n cx dX1_giveTo_45 rfl rfl ?_
  refine qj_aload_n cx dX1_giveTo_46 rfl rfl ?_
  refine qw_getJ (j := 3) cx dX1_giveTo_47 qc_cl1 hq.2.1 (qc_ltp0 hq.1) rfl ww_310 ?_
  obtain ⟨J4, eJ4, hP⟩ := qc_letE hP
  refine qw_putJ (j := 6) cx dX1_giveTo_50 qc_cl4 hp.2.1 (qc_ltp0 hp.1) rfl ww_170 rfl rfl rfl eJ4 ?_
  exact qw_vret cx hz dX1_giveTo_53 (Nat.zero_le _) (Nat.zero_le _) (congrArg (fun q => q.1) (Option.some.inj hP)) (congrArg (fun q => q.2) (Option.some.inj hP))
def P_X2_gatherCrew_63 (p : Nat) (k7 : (Nat → Nat → Int32) → Int32 → Int32 → Option ((Nat → Nat → Int32))) (I : (Nat → Nat → Int32)) (a2 : Int32) (a3 : Int32) : Option ((Nat → Nat → Int32)) :=
  qc_let (a3 + (1 : Int32)) fun x1 =>
  k7 I a2 x1
def P_X2_gatherCrew_7 (p : Nat) : Nat → (Nat → Nat → Int32) → Int32 → Int32 → Option ((Nat → Nat → Int32))
  | 0, _, _, _ => none
  | f + 1, I, a2, a3 =>
  if I p 0 ≤ a3 then
  some I
  else
  if (8 : Int32) ≤ I 22 4 then
  some I
  else
  if qc_in a3 8 then
  if I (p + 1 + 6) a3.toNatClampNeg ≤ 0 then
  P_X2_gatherCrew_63 p (P_X2_gatherCrew_7 p f) I a2 a3
  else
  if qc_in a3 8 then
  if I (p + 1 + 3) a3.toNatClampNeg = a2 then
  (if qc_in (I 22 4) 8 then
  qc_let (qc_u2 I 32 (I 22 4).toNatClampNeg a3) fun I8 =>
  qc_let (qc_u2 I8 22 4 ((I8 22 4) + (1 : Int32))) fun I9 =>
  P_X2_gatherCrew_63 p (P_X2_gatherCrew_7 p f) I9 a2 a3
  else none)
  else
  P_X2_gatherCrew_63 p (P_X2_gatherCrew_7 p f) I a2 a3
  else none
  else none
def P_X2_gatherCrew (I : Nat → Nat → Int32) (p : Nat) (a : Int32) : Option ((Nat → Nat → Int32)) :=
  qc_let (qc_u2 I 22 4 (0 : Int32)) fun I11 =>
  P_X2_gatherCrew_7 p qc_fu I11 a (0 : Int32)
set_option maxRecDepth 20000 in
theorem c_X2_gatherCrew {I : Nat → Nat → Int32} {J : Nat → Nat → Int64} {w : Nat → Nat} {n : Nat} (hn : 121 ≤ n) (hn1 : n ≤ 200) {p : Nat} (hp : qc_sc n p) {a : Int32} {q0 : (Nat → Nat → Int32)} (hP : P_X2_gatherCrew I p a = some q0) : ∀ l, qc_M l yX2_gatherCrew cX2_gatherCrew 4 none 0 0 0 0 [.ref 22, .ref p, .int a] (I, J, (rX w, kX, nX, n)) none (q0, J, (rX w, kX, nX, n)) := by
  intro l
  refine qc_ent2 (by decide) (Nat.le_of_ble_eq_true rfl) ?_
  intro F hn0 cx hz
  have cx : qc_X F cX2_gatherCrew RX2 "gatherCrew" 0 0 0 0 := cx
  have L63 : ∀ (k7 : (Nat → Nat → Int32) → Int32 → Int32 → Option ((Nat → Nat → Int32))) (g7 : ∀ (I : Nat → Nat → Int32) (a2 : Int32) (a3 : Int32), k7 I a2 a3 = some q0 → qc_J F 0 0 7 [some (.ref 22), some (.ref p), some (.int a2), some (.int a3)] [] (I, J, (rX w, kX, nX, n))) (I : (Nat → Nat → Int32)) (a2 : Int32) (a3 : Int32), P_X2_gatherCrew_63 p k7 I a2 a3 = some q0 → qc_J F 0 0 63 [some (.ref 22), some (.ref p), some (.int a2), some (.int a3)] [] (I, J, (rX w, kX, nX, n)) := by
    intro k7 g7 I a2 a3 hP
    unfold P_X2_gatherCrew_63 at hP
    obtain ⟨x1, ex1, hP⟩ := qc_letE hP
    refine qj_iinc (v := x1) (ls1 := [some (.ref 22), some (.ref p), some (.int a2), some (.int x1)]) cx dX2_gatherCrew_63 rfl (by rw [ex1]; rfl) rfl rfl ?_
    refine qj_goto (tgt := 7) cx dX2_gatherCrew_66 (by decide) ?_
    exact g7 I a2 x1 hP
  have L7 : ∀  (f : Nat) (I : (Nat → Nat → Int32)) (a2 : Int32) (a3 : Int32), P_X2_gatherCrew_7 p f I a2 a3 = some q0 → qc_J F 0 0 7 [some (.ref 22), some (.ref p), some (.int a2), some (.int a3)] [] (I, J, (rX w, kX, nX, n)) := by
    intro  f
    induction f with
    | zero => intro I a2 a3 hP; cases hP
    | succ f ih =>
      intro I a2 a3 hP
      rw [P_X2_gatherCrew_7] at hP
      refine qj_iload_n cx dX2_gatherCrew_7 rfl rfl ?_
      refine qj_aload_n cx dX2_gatherCrew_8 rfl rfl ?_
      refine qw_getI (j := 0) cx dX2_gatherCrew_9 qc_cl4 hp.2.1 (qc_ltp0 hp.1) rfl ww_149 ?_
      refine qj_icmp_ge (tgt := 69) cx dX2_gatherCrew_12 (by decide) (fun c2 => ?_) (fun c2 => ?_)
      · have hP := qc_ifT hP c2
        exact qw_vret cx hz dX2_gatherCrew_69 (Nat.zero_le _) (Nat.zero_le _) (Option.some.inj hP) rfl
      · have hP := qc_ifF hP c2
        refine qj_aload_n cx dX2_gatherCrew_15 rfl rfl ?_
        refine qw_getI (j := 4) cx dX2_gatherCrew_16 qc_cl2 rfl (Nat.lt_of_lt_of_le (by decide) hn) rfl ww_259 ?_
        refine qj_bipush (v := (8 : Int32)) cx dX2_gatherCrew_19 (by decide) ?_
        refine qj_icmp_ge (tgt := 69) cx dX2_gatherCrew_21 (by decide) (fun c3 => ?_) (fun c3 => ?_)
        · have hP := qc_ifT hP c3
          exact qw_vret cx hz dX2_gatherCrew_69 (Nat.zero_le _) (Nat.zero_le _) (Option.some.inj hP) rfl
        · have hP := qc_ifF hP c3
          refine qj_aload_n cx dX2_gatherCrew_24 rfl rfl ?_
          refine qw_getR (j := 13) (t1 := (p + 1 + 6)) cx dX2_gatherCrew_25 qc_cl4 hp.2.1 (qc_ltp0 hp.1) rfl ww_197 ((hp.2.2 6 (by decide)).2.2 _) ?_
          refine qj_iload_n cx dX2_gatherCrew_28 rfl rfl ?_
          obtain ⟨c4, hP⟩ := qc_ck hP
          refine qw_iald (n1 := 8) cx dX2_gatherCrew_29 (hp.2.2 6 (by decide)).1 (qc_ltp hp.1 (by decide)) (hp.2.2 6 (by decide)).2.1 c4 ?_
          refine qj_if_le (tgt := 63) cx dX2_gatherCrew_30 (by decide) (fun c5 => ?_) (fun c5 => ?_)
          · have hP := qc_ifT hP c5
            exact L63 (P_X2_gatherCrew_7 p f) ih I a2 a3 hP
          · have hP := qc_ifF hP c5
            refine qj_aload_n cx dX2_gatherCrew_33 rfl rfl ?_
            refine qw_getR (j := 10) (t1 := (p + 1 + 3)) cx dX2_gatherCrew_34 qc_cl4 hp.2.1 (qc_ltp0 hp.1) rfl ww_183 ((hp.2.2 3 (by decide)).2.2 _) ?_
            refine qj_iload_n cx dX2_gatherCrew_37 rfl rfl ?_
            obtain ⟨c6, hP⟩ := qc_ck hP
            refine qw_iald (n1 := 8) cx dX2_gatherCrew_38 (hp.2.2 3 (by decide)).1 (qc_ltp hp.1 (by decide)) (hp.2.2 3 (by decide)).2.1 c6 ?_
            refine qj_iload_n cx dX2_gatherCrew_39 rfl rfl ?_
            refine qj_icmp_ne (tgt := 63) cx dX2_gatherCrew_40 (by decide) (fun c7 => ?_) (fun c7 => ?_)
            · have hP := qc_ifF hP c7
              exact L63 (P_X2_gatherCrew_7 p f) ih I a2 a3 hP
            · have hP := qc_ifT hP c7
              refine qj_aload_n cx dX2_gatherCrew_43 rfl rfl ?_
              refine qw_getR (j := 3) (t1 := 32) cx dX2_gatherCrew_44 qc_cl2 rfl (Nat.lt_of_lt_of_le (by decide) hn) rfl ww_258 rfl ?_
              refine qj_aload_n cx dX2_gatherCrew_47 rfl rfl ?_
              refine qw_getI (j := 4) cx dX2_gatherCrew_48 qc_cl2 rfl (Nat.lt_of_lt_of_le (by decide) hn) rfl ww_259 ?_
              refine qj_iload_n cx dX2_gatherCrew_51 rfl rfl ?_
              obtain ⟨c10, hP⟩ := qc_ck hP
              obtain ⟨I8, eI8, hP⟩ := qc_letE hP
              refine qw_iast (n1 := 8) cx dX2_gatherCrew_52 rfl (Nat.lt_of_lt_of_le (by decide) hn) rfl c10 eI8 ?_
              refine qj_aload_n cx dX2_gatherCrew_53 rfl rfl ?_
              refine qj_dup cx dX2_gatherCrew_54 rfl ?_
              refine qw_getI (j := 4) cx dX2_gatherCrew_55 qc_cl2 rfl (Nat.lt_of_lt_of_le (by decide) hn) rfl ww_259 ?_
              refine qj_iconst (v := (1 : Int32)) cx dX2_gatherCrew_58 (by decide) ?_
              refine qj_iadd cx dX2_gatherCrew_59 ?_
              obtain ⟨I9, eI9, hP⟩ := qc_letE hP
              refine qw_putI (j := 4) cx dX2_gatherCrew_60 qc_cl2 rfl (Nat.lt_of_lt_of_le (by decide) hn) rfl ww_259 rfl rfl rfl eI9 ?_
              exact L63 (P_X2_gatherCrew_7 p f) ih I9 a2 a3 hP
  show qc_J F 0 0 0 [some (.ref 22), some (.ref p), some (.int a), none] [] (I, J, (rX w, kX, nX, n))
  unfold P_X2_gatherCrew at hP
  refine qj_aload_n cx dX2_gatherCrew_0 rfl rfl ?_
  refine qj_iconst (v := (0 : Int32)) cx dX2_gatherCrew_1 (by decide) ?_
  obtain ⟨I11, eI11, hP⟩ := qc_letE hP
  refine qw_putI (j := 4) cx dX2_gatherCrew_2 qc_cl2 rfl (Nat.lt_of_lt_of_le (by decide) hn) rfl ww_259 rfl rfl rfl eI11 ?_
  refine qj_iconst (v := (0 : Int32)) cx dX2_gatherCrew_5 (by decide) ?_
  refine qj_istore_n (ls1 := [some (.ref 22), some (.ref p), some (.int a), some (.int (0 : Int32))]) cx dX2_gatherCrew_6 rfl rfl rfl rfl ?_
  exact L7 qc_fu I11 a (0 : Int32) hP
def P_X2_levelOf (I : Nat → Nat → Int32) (p : Nat) (a : Int32) (b : Int32) (c : Int32) (d : Int32) : Option (Int32) :=
  if qc_in a 6 then
  if qc_in b 8 then
  if qc_in a 6 then
  if qc_in c 8 then
  (if 0 ≤ d then
  if qc_in a 6 then
  if qc_in d 8 then
  some (((qc_sv 4).getD a.toNatClampNeg 0) * (I (p + 1 + 7) d.toNatClampNeg))
  else none
  else none
  else
  some (0 : Int32)).bind fun v6 =>
  qc_let (((((qc_sv 0).getD a.toNatClampNeg 0) * (I (p + 1 + 7) b.toNatClampNeg)) + (((qc_sv 3).getD a.toNatClampNeg 0) * (I (p + 1 + 7) c.toNatClampNeg))) + v6) fun x9 =>
  if qc_in a 6 then
  if qc_in ((qc_sv 5).getD a.toNatClampNeg 0) 3 then
  some (x9 - (I (p + 1 + 0) ((qc_sv 5).getD a.toNatClampNeg 0).toNatClampNeg))
  else none
  else none
  else none
  else none
  else none
  else none
set_option maxRecDepth 20000 in
theorem c_X2_levelOf {I : Nat → Nat → Int32} {J : Nat → Nat → Int64} {w : Nat → Nat} {n : Nat} (hn : 121 ≤ n) (hn1 : n ≤ 200) {p : Nat} (hp : qc_sc n p) {a : Int32} {b : Int32} {c : Int32} {d : Int32} {q0 : Int32} (hP : P_X2_levelOf I p a b c d = some q0) : ∀ l, qc_M l yX2_levelOf cX2_levelOf 7 (some .int) 0 0 0 0 [.ref 22, .ref p, .int a, .int b, .int c, .int d] (I, J, (rX w, kX, nX, n)) (some (.int q0)) (I, J, (rX w, kX, nX, n)) := by
  intro l
  refine qc_ent2 (by decide) (Nat.le_of_ble_eq_true rfl) ?_
  intro F hn0 cx hz
  have cx : qc_X F cX2_levelOf RX2 "levelOf" 0 0 0 0 := cx
  show qc_J F 0 0 0 [some (.ref 22), some (.ref p), some (.int a), some (.int b), some (.int c), some (.int d), none] [] (I, J, (rX w, kX, nX, n))
  unfold P_X2_levelOf at hP
  refine qj_gets (i := 0) (ref := "") (host := "QuietChannels") cx dX2_levelOf_0 (by decide) (List.mem_of_getElem? (i := 1) rfl) (Nat.le_trans hn1 (by decide)) ?_
  refine qj_iload_n cx dX2_levelOf_3 rfl rfl ?_
  obtain ⟨c1, hP⟩ := qc_ck hP
  refine qw_tald (i := 0) cx dX2_levelOf_4 (by decide) (Nat.le_trans hn1 (by decide)) c1 ?_
  refine qj_aload_n cx dX2_levelOf_5 rfl rfl ?_
  refine qw_getR (j := 14) (t1 := (p + 1 + 7)) cx dX2_levelOf_6 qc_cl4 hp.2.1 (qc_ltp0 hp.1) rfl ww_203 ((hp.2.2 7 (by decide)).2.2 _) ?_
  refine qj_iload_n cx dX2_levelOf_9 rfl rfl ?_
  obtain ⟨c2, hP⟩ := qc_ck hP
  refine qw_iald (n1 := 8) cx dX2_levelOf_10 (hp.2.2 7 (by decide)).1 (qc_ltp hp.1 (by decide)) (hp.2.2 7 (by decide)).2.1 c2 ?_
  refine qj_imul cx dX2_levelOf_11 ?_
  refine qj_gets (i := 3) (ref := "") (host := "QuietChannels") cx dX2_levelOf_12 (by decide) (List.mem_of_getElem? (i := 4) rfl) (Nat.le_trans hn1 (by decide)) ?_
  refine qj_iload_n cx dX2_levelOf_15 rfl rfl ?_
  obtain ⟨c3, hP⟩ := qc_ck hP
  refine qw_tald (i := 3) cx dX2_levelOf_16 (by decide) (Nat.le_trans hn1 (by decide)) c3 ?_
  refine qj_aload_n cx dX2_levelOf_17 rfl rfl ?_
  refine qw_getR (j := 14) (t1 := (p + 1 + 7)) cx dX2_levelOf_18 qc_cl4 hp.2.1 (qc_ltp0 hp.1) rfl ww_203 ((hp.2.2 7 (by decide)).2.2 _) ?_
  refine qj_iload cx dX2_levelOf_21 rfl ?_
  obtain ⟨c4, hP⟩ := qc_ck hP
  refine qw_iald (n1 := 8) cx dX2_levelOf_23 (hp.2.2 7 (by decide)).1 (qc_ltp hp.1 (by decide)) (hp.2.2 7 (by decide)).2.1 c4 ?_
  refine qj_imul cx dX2_levelOf_24 ?_
  refine qj_iadd cx dX2_levelOf_25 ?_
  refine qj_iload cx dX2_levelOf_26 rfl ?_
  obtain ⟨v6, hv6, hP⟩ := Option.bind_eq_some_iff.mp hP
  have Kv6 : qc_J F 0 0 48 [some (.ref 22), some (.ref p), some (.int a), some (.int b), some (.int c), some (.int d), none] [.int v6, .int ((((qc_sv 0).getD a.toNatClampNeg 0) * (I (p + 1 + 7) b.toNatClampNeg)) + (((qc_sv 3).getD a.toNatClampNeg 0) * (I (p + 1 + 7) c.toNatClampNeg)))] (I, J, (rX w, kX, nX, n)) := by
    refine qj_iadd cx dX2_levelOf_48 ?_
    obtain ⟨x9, ex9, hP⟩ := qc_letE hP
    refine qw_top ex9 ?_
    refine qj_istore (ls1 := [some (.ref 22), some (.ref p), some (.int a), some (.int b), some (.int c), some (.int d), some (.int x9)]) cx dX2_levelOf_49 rfl rfl rfl ?_
    refine qj_iload cx dX2_levelOf_51 rfl ?_
    refine qj_aload_n cx dX2_levelOf_53 rfl rfl ?_
    refine qw_getR (j := 7) (t1 := (p + 1 + 0)) cx dX2_levelOf_54 qc_cl4 hp.2.1 (qc_ltp0 hp.1) rfl ww_175 ((hp.2.2 0 (by decide)).2.2 _) ?_
    refine qj_gets (i := 5) (ref := "") (host := "QuietChannels") cx dX2_levelOf_57 (by decide) (List.mem_of_getElem? (i := 6) rfl) (Nat.le_trans hn1 (by decide)) ?_
    refine qj_iload_n cx dX2_levelOf_60 rfl rfl ?_
    obtain ⟨c10, hP⟩ := qc_ck hP
    refine qw_tald (i := 5) cx dX2_levelOf_61 (by decide) (Nat.le_trans hn1 (by decide)) c10 ?_
    obtain ⟨c11, hP⟩ := qc_ck hP
    refine qw_iald (n1 := 3) cx dX2_levelOf_62 (hp.2.2 0 (by decide)).1 (qc_ltp hp.1 (by decide)) (hp.2.2 0 (by decide)).2.1 c11 ?_
    refine qj_isub cx dX2_levelOf_63 ?_
    exact qw_iret cx hz dX2_levelOf_64 (Nat.zero_le _) (Nat.zero_le _) (Option.some.inj hP) rfl rfl
  refine qj_if_ge (tgt := 35) cx dX2_levelOf_28 (by decide) (fun c5 => ?_) (fun c5 => ?_)
  · have hv6 := qc_ifT hv6 c5
    refine qj_gets (i := 4) (ref := "") (host := "QuietChannels") cx dX2_levelOf_35 (by decide) (List.mem_of_getElem? (i := 5) rfl) (Nat.le_trans hn1 (by decide)) ?_
    refine qj_iload_n cx dX2_levelOf_38 rfl rfl ?_
    obtain ⟨c7, hv6⟩ := qc_ck hv6
    refine qw_tald (i := 4) cx dX2_levelOf_39 (by decide) (Nat.le_trans hn1 (by decide)) c7 ?_
    refine qj_aload_n cx dX2_levelOf_40 rfl rfl ?_
    refine qw_getR (j := 14) (t1 := (p + 1 + 7)) cx dX2_levelOf_41 qc_cl4 hp.2.1 (qc_ltp0 hp.1) rfl ww_203 ((hp.2.2 7 (by decide)).2.2 _) ?_
    refine qj_iload cx dX2_levelOf_44 rfl ?_
    obtain ⟨c8, hv6⟩ := qc_ck hv6
    refine qw_iald (n1 := 8) cx dX2_levelOf_46 (hp.2.2 7 (by decide)).1 (qc_ltp hp.1 (by decide)) (hp.2.2 7 (by decide)).2.1 c8 ?_
    refine qj_imul cx dX2_levelOf_47 ?_
    exact qw_top (Option.some.inj hv6).symm Kv6
  · have hv6 := qc_ifF hv6 c5
    refine qj_iconst (v := (0 : Int32)) cx dX2_levelOf_31 (by decide) ?_
    refine qj_goto (tgt := 48) cx dX2_levelOf_32 (by decide) ?_
    exact qw_top (Option.some.inj hv6).symm Kv6
def P_X2_mayStrike (I : Nat → Nat → Int32) (p : Nat) (a : Int32) (b : Int32) : Option (Int32) :=
  if qc_in a 700 then
  qc_let (I 25 a.toNatClampNeg) fun x2 =>
  if x2 = b then
  some (0 : Int32)
  else
  if qc_in a 700 then
  if I 26 a.toNatClampNeg = b then
  some (0 : Int32)
  else
  if qc_in a 700 then
  if I 27 a.toNatClampNeg = b then
  some (0 : Int32)
  else
  if qc_in b 8 then
  if I (p + 1 + 6) b.toNatClampNeg = 0 then
  some (0 : Int32)
  else
  if qc_in a 700 then
  if qc_in b 8 then
  (if (I 31 a.toNatClampNeg) &&& (I (p + 1 + 8) b.toNatClampNeg) = 0 then
  some (0 : Int32)
  else
  if qc_in a 700 then
  if qc_in x2 8 then
  if qc_in b 8 then
  if qc_in (((I (p + 1 + 3) x2.toNatClampNeg) * (3 : Int32)) + (I (p + 1 + 3) b.toNatClampNeg)) 9 then
  if I 29 a.toNatClampNeg < I (p + 1 + 1) (((I (p + 1 + 3) x2.toNatClampNeg) * (3 : Int32)) + (I (p + 1 + 3) b.toNatClampNeg)).toNatClampNeg then
  some (0 : Int32)
  else
  some (1 : Int32)
  else none
  else none
  else none
  else none).bind fun v13 =>
  if qc_bo v13 then some v13 else none
  else none
  else none
  else none
  else none
  else none
  else none
set_option maxRecDepth 20000 in
theorem c_X2_mayStrike {I : Nat → Nat → Int32} {J : Nat → Nat → Int64} {w : Nat → Nat} {n : Nat} (hn : 121 ≤ n) (hn1 : n ≤ 200) {p : Nat} (hp : qc_sc n p) {a : Int32} {b : Int32} {q0 : Int32} (hP : P_X2_mayStrike I p a b = some q0) : ∀ l, qc_M l yX2_mayStrike cX2_mayStrike 5 (some .boolean) 0 0 0 0 [.ref 22, .ref p, .int a, .int b] (I, J, (rX w, kX, nX, n)) (some (.int q0)) (I, J, (rX w, kX, nX, n)) := by
  intro l
  refine qc_ent2 (by decide) (Nat.le_of_ble_eq_true rfl) ?_
  intro F hn0 cx hz
  have cx : qc_X F cX2_mayStrike RX2 "mayStrike" 0 0 0 0 := cx
  show qc_J F 0 0 0 [some (.ref 22), some (.ref p), some (.int a), some (.int b), none] [] (I, J, (rX w, kX, nX, n))
  unfold P_X2_mayStrike at hP
  refine qj_aload_n cx dX2_mayStrike_0 rfl rfl ?_
  refine qw_getR (j := 0) (t1 := 23) cx dX2_mayStrike_1 qc_cl2 rfl (Nat.lt_of_lt_of_le (by decide) hn) rfl ww_252 rfl ?_
  refine qj_iconst (v := (1 : Int32)) cx dX2_mayStrike_4 (by decide) ?_
  refine qw_aald (n1 := 8) (t1 := 25) cx dX2_mayStrike_5 rfl (Or.inr ⟨rfl, rfl⟩) (Nat.lt_of_lt_of_le (by decide) hn) rfl (by decide) rfl ?_
  refine qj_iload_n cx dX2_mayStrike_6 rfl rfl ?_
  obtain ⟨c1, hP⟩ := qc_ck hP
  refine qw_iald (n1 := 700) cx dX2_mayStrike_7 rfl (Nat.lt_of_lt_of_le (by decide) hn) rfl c1 ?_
  obtain ⟨x2, ex2, hP⟩ := qc_letE hP
  refine qw_top ex2 ?_
  refine qj_istore (ls1 := [some (.ref 22), some (.ref p), some (.int a), some (.int b), some (.int x2)]) cx dX2_mayStrike_8 rfl rfl rfl ?_
  refine qj_iload cx dX2_mayStrike_10 rfl ?_
  refine qj_iload_n cx dX2_mayStrike_12 rfl rfl ?_
  refine qj_icmp_eq (tgt := 49) cx dX2_mayStrike_13 (by decide) (fun c3 => ?_) (fun c3 => ?_)
  · have hP := qc_ifT hP c3
    refine qj_iconst (v := (0 : Int32)) cx dX2_mayStrike_49 (by decide) ?_
    exact qw_zret cx hz dX2_mayStrike_50 (by decide) (Nat.zero_le _) (Nat.zero_le _) (Option.some.inj hP) rfl rfl
  · have hP := qc_ifF hP c3
    refine qj_aload_n cx dX2_mayStrike_16 rfl rfl ?_
    refine qw_getR (j := 0) (t1 := 23) cx dX2_mayStrike_17 qc_cl2 rfl (Nat.lt_of_lt_of_le (by decide) hn) rfl ww_252 rfl ?_
    refine qj_iconst (v := (2 : Int32)) cx dX2_mayStrike_20 (by decide) ?_
    refine qw_aald (n1 := 8) (t1 := 26) cx dX2_mayStrike_21 rfl (Or.inr ⟨rfl, rfl⟩) (Nat.lt_of_lt_of_le (by decide) hn) rfl (by decide) rfl ?_
    refine qj_iload_n cx dX2_mayStrike_22 rfl rfl ?_
    obtain ⟨c4, hP⟩ := qc_ck hP
    refine qw_iald (n1 := 700) cx dX2_mayStrike_23 rfl (Nat.lt_of_lt_of_le (by decide) hn) rfl c4 ?_
    refine qj_iload_n cx dX2_mayStrike_24 rfl rfl ?_
    refine qj_icmp_eq (tgt := 49) cx dX2_mayStrike_25 (by decide) (fun c5 => ?_) (fun c5 => ?_)
    · have hP := qc_ifT hP c5
      refine qj_iconst (v := (0 : Int32)) cx dX2_mayStrike_49 (by decide) ?_
      exact qw_zret cx hz dX2_mayStrike_50 (by decide) (Nat.zero_le _) (Nat.zero_le _) (Option.some.inj hP) rfl rfl
    · have hP := qc_ifF hP c5
      refine qj_aload_n cx dX2_mayStrike_28 rfl rfl ?_
      refine qw_getR (j := 0) (t1 := 23) cx dX2_mayStrike_29 qc_cl2 rfl (Nat.lt_of_lt_of_le (by decide) hn) rfl ww_252 rfl ?_
      refine qj_iconst (v := (3 : Int32)) cx dX2_mayStrike_32 (by decide) ?_
      refine qw_aald (n1 := 8) (t1 := 27) cx dX2_mayStrike_33 rfl (Or.inr ⟨rfl, rfl⟩) (Nat.lt_of_lt_of_le (by decide) hn) rfl (by decide) rfl ?_
      refine qj_iload_n cx dX2_mayStrike_34 rfl rfl ?_
      obtain ⟨c6, hP⟩ := qc_ck hP
      refine qw_iald (n1 := 700) cx dX2_mayStrike_35 rfl (Nat.lt_of_lt_of_le (by decide) hn) rfl c6 ?_
      refine qj_iload_n cx dX2_mayStrike_36 rfl rfl ?_
      refine qj_icmp_eq (tgt := 49) cx dX2_mayStrike_37 (by decide) (fun c7 => ?_) (fun c7 => ?_)
      · have hP := qc_ifT hP c7
        refine qj_iconst (v := (0 : Int32)) cx dX2_mayStrike_49 (by decide) ?_
        exact qw_zret cx hz dX2_mayStrike_50 (by decide) (Nat.zero_le _) (Nat.zero_le _) (Option.some.inj hP) rfl rfl
      · have hP := qc_ifF hP c7
        refine qj_aload_n cx dX2_mayStrike_40 rfl rfl ?_
        refine qw_getR (j := 13) (t1 := (p + 1 + 6)) cx dX2_mayStrike_41 qc_cl4 hp.2.1 (qc_ltp0 hp.1) rfl ww_197 ((hp.2.2 6 (by decide)).2.2 _) ?_
        refine qj_iload_n cx dX2_mayStrike_44 rfl rfl ?_
        obtain ⟨c8, hP⟩ := qc_ck hP
        refine qw_iald (n1 := 8) cx dX2_mayStrike_45 (hp.2.2 6 (by decide)).1 (qc_ltp hp.1 (by decide)) (hp.2.2 6 (by decide)).2.1 c8 ?_
        refine qj_if_ne (tgt := 51) cx dX2_mayStrike_46 (by decide) (fun c9 => ?_) (fun c9 => ?_)
        · have hP := qc_ifF hP c9
          refine qj_aload_n cx dX2_mayStrike_51 rfl rfl ?_
          refine qw_getR (j := 0) (t1 := 23) cx dX2_mayStrike_52 qc_cl2 rfl (Nat.lt_of_lt_of_le (by decide) hn) rfl ww_252 rfl ?_
          refine qj_bipush (v := (7 : Int32)) cx dX2_mayStrike_55 (by decide) ?_
          refine qw_aald (n1 := 8) (t1 := 31) cx dX2_mayStrike_57 rfl (Or.inr ⟨rfl, rfl⟩) (Nat.lt_of_lt_of_le (by decide) hn) rfl (by decide) rfl ?_
          refine qj_iload_n cx dX2_mayStrike_58 rfl rfl ?_
          obtain ⟨c10, hP⟩ := qc_ck hP
          refine qw_iald (n1 := 700) cx dX2_mayStrike_59 rfl (Nat.lt_of_lt_of_le (by decide) hn) rfl c10 ?_
          refine qj_aload_n cx dX2_mayStrike_60 rfl rfl ?_
          refine qw_getR (j := 15) (t1 := (p + 1 + 8)) cx dX2_mayStrike_61 qc_cl4 hp.2.1 (qc_ltp0 hp.1) rfl ww_207 ((hp.2.2 8 (by decide)).2.2 _) ?_
          refine qj_iload_n cx dX2_mayStrike_64 rfl rfl ?_
          obtain ⟨c11, hP⟩ := qc_ck hP
          refine qw_iald (n1 := 8) cx dX2_mayStrike_65 (hp.2.2 8 (by decide)).1 (qc_ltp hp.1 (by decide)) (hp.2.2 8 (by decide)).2.1 c11 ?_
          refine qj_iand cx dX2_mayStrike_66 ?_
          obtain ⟨v13, hv13, hP⟩ := Option.bind_eq_some_iff.mp hP
          have Kv13 : qc_J F 0 0 107 [some (.ref 22), some (.ref p), some (.int a), some (.int b), some (.int x2)] [.int v13] (I, J, (rX w, kX, nX, n)) := by
            obtain ⟨c19, hP⟩ := qc_ck hP
            exact qw_zret cx hz dX2_mayStrike_107 (qc_bo_n c19) (Nat.zero_le _) (Nat.zero_le _) (Option.some.inj hP) rfl rfl
          refine qj_if_eq (tgt := 106) cx dX2_mayStrike_67 (by decide) (fun c12 => ?_) (fun c12 => ?_)
          · have hv13 := qc_ifT hv13 c12
            refine qj_iconst (v := (0 : Int32)) cx dX2_mayStrike_106 (by decide) ?_
            exact qw_top (Option.some.inj hv13).symm Kv13
          · have hv13 := qc_ifF hv13 c12
            refine qj_aload_n cx dX2_mayStrike_70 rfl rfl ?_
            refine qw_getR (j := 0) (t1 := 23) cx dX2_mayStrike_71 qc_cl2 rfl (Nat.lt_of_lt_of_le (by decide) hn) rfl ww_252 rfl ?_
            refine qj_iconst (v := (5 : Int32)) cx dX2_mayStrike_74 (by decide) ?_
            refine qw_aald (n1 := 8) (t1 := 29) cx dX2_mayStrike_75 rfl (Or.inr ⟨rfl, rfl⟩) (Nat.lt_of_lt_of_le (by decide) hn) rfl (by decide) rfl ?_
            refine qj_iload_n cx dX2_mayStrike_76 rfl rfl ?_
            obtain ⟨c14, hv13⟩ := qc_ck hv13
            refine qw_iald (n1 := 700) cx dX2_mayStrike_77 rfl (Nat.lt_of_lt_of_le (by decide) hn) rfl c14 ?_
            refine qj_aload_n cx dX2_mayStrike_78 rfl rfl ?_
            refine qw_getR (j := 8) (t1 := (p + 1 + 1)) cx dX2_mayStrike_79 qc_cl4 hp.2.1 (qc_ltp0 hp.1) rfl ww_177 ((hp.2.2 1 (by decide)).2.2 _) ?_
            refine qj_aload_n cx dX2_mayStrike_82 rfl rfl ?_
            refine qw_getR (j := 10) (t1 := (p + 1 + 3)) cx dX2_mayStrike_83 qc_cl4 hp.2.1 (qc_ltp0 hp.1) rfl ww_183 ((hp.2.2 3 (by decide)).2.2 _) ?_
            refine qj_iload cx dX2_mayStrike_86 rfl ?_
            obtain ⟨c15, hv13⟩ := qc_ck hv13
            refine qw_iald (n1 := 8) cx dX2_mayStrike_88 (hp.2.2 3 (by decide)).1 (qc_ltp hp.1 (by decide)) (hp.2.2 3 (by decide)).2.1 c15 ?_
            refine qj_iconst (v := (3 : Int32)) cx dX2_mayStrike_89 (by decide) ?_
            refine qj_imul cx dX2_mayStrike_90 ?_
            refine qj_aload_n cx dX2_mayStrike_91 rfl rfl ?_
            refine qw_getR (j := 10) (t1 := (p + 1 + 3)) cx dX2_mayStrike_92 qc_cl4 hp.2.1 (qc_ltp0 hp.1) rfl ww_183 ((hp.2.2 3 (by decide)).2.2 _) ?_
            refine qj_iload_n cx dX2_mayStrike_95 rfl rfl ?_
            obtain ⟨c16, hv13⟩ := qc_ck hv13
            refine qw_iald (n1 := 8) cx dX2_mayStrike_96 (hp.2.2 3 (by decide)).1 (qc_ltp hp.1 (by decide)) (hp.2.2 3 (by decide)).2.1 c16 ?_
            refine qj_iadd cx dX2_mayStrike_97 ?_
            obtain ⟨c17, hv13⟩ := qc_ck hv13
            refine qw_iald (n1 := 9) cx dX2_mayStrike_98 (hp.2.2 1 (by decide)).1 (qc_ltp hp.1 (by decide)) (hp.2.2 1 (by decide)).2.1 c17 ?_
            refine qj_icmp_lt (tgt := 106) cx dX2_mayStrike_99 (by decide) (fun c18 => ?_) (fun c18 => ?_)
            · have hv13 := qc_ifT hv13 c18
              refine qj_iconst (v := (0 : Int32)) cx dX2_mayStrike_106 (by decide) ?_
              exact qw_top (Option.some.inj hv13).symm Kv13
            · have hv13 := qc_ifF hv13 c18
              refine qj_iconst (v := (1 : Int32)) cx dX2_mayStrike_102 (by decide) ?_
              refine qj_goto (tgt := 107) cx dX2_mayStrike_103 (by decide) ?_
              exact qw_top (Option.some.inj hv13).symm Kv13
        · have hP := qc_ifT hP c9
          refine qj_iconst (v := (0 : Int32)) cx dX2_mayStrike_49 (by decide) ?_
          exact qw_zret cx hz dX2_mayStrike_50 (by decide) (Nat.zero_le _) (Nat.zero_le _) (Option.some.inj hP) rfl rfl
def P_X2_isIn (I : Nat → Nat → Int32) (a : Int32) (b : Int32) : Option (Int32) :=
  if qc_in a 700 then
  (if I 25 a.toNatClampNeg = b then
  some (1 : Int32)
  else
  if qc_in a 700 then
  if I 26 a.toNatClampNeg = b then
  some (1 : Int32)
  else
  if qc_in a 700 then
  if I 27 a.toNatClampNeg = b then
  some (1 : Int32)
  else
  some (0 : Int32)
  else none
  else none).bind fun v3 =>
  if qc_bo v3 then some v3 else none
  else none
set_option maxRecDepth 20000 in
theorem c_X2_isIn {I : Nat → Nat → Int32} {J : Nat → Nat → Int64} {w : Nat → Nat} {n : Nat} (hn : 121 ≤ n) (hn1 : n ≤ 200) {a : Int32} {b : Int32} {q0 : Int32} (hP : P_X2_isIn I a b = some q0) : ∀ l, qc_M l yX2_isIn cX2_isIn 3 (some .boolean) 0 0 0 0 [.ref 22, .int a, .int b] (I, J, (rX w, kX, nX, n)) (some (.int q0)) (I, J, (rX w, kX, nX, n)) := by
  intro l
  refine qc_ent2 (by decide) (Nat.le_of_ble_eq_true rfl) ?_
  intro F hn0 cx hz
  have cx : qc_X F cX2_isIn RX2 "isIn" 0 0 0 0 := cx
  show qc_J F 0 0 0 [some (.ref 22), some (.int a), some (.int b)] [] (I, J, (rX w, kX, nX, n))
  unfold P_X2_isIn at hP
  refine qj_aload_n cx dX2_isIn_0 rfl rfl ?_
  refine qw_getR (j := 0) (t1 := 23) cx dX2_isIn_1 qc_cl2 rfl (Nat.lt_of_lt_of_le (by decide) hn) rfl ww_252 rfl ?_
  refine qj_iconst (v := (1 : Int32)) cx dX2_isIn_4 (by decide) ?_
  refine qw_aald (n1 := 8) (t1 := 25) cx dX2_isIn_5 rfl (Or.inr ⟨rfl, rfl⟩) (Nat.lt_of_lt_of_le (by decide) hn) rfl (by decide) rfl ?_
  refine qj_iload_n cx dX2_isIn_6 rfl rfl ?_
  obtain ⟨c1, hP⟩ := qc_ck hP
  refine qw_iald (n1 := 700) cx dX2_isIn_7 rfl (Nat.lt_of_lt_of_le (by decide) hn) rfl c1 ?_
  refine qj_iload_n cx dX2_isIn_8 rfl rfl ?_
  obtain ⟨v3, hv3, hP⟩ := Option.bind_eq_some_iff.mp hP
  have Kv3 : qc_J F 0 0 41 [some (.ref 22), some (.int a), some (.int b)] [.int v3] (I, J, (rX w, kX, nX, n)) := by
    obtain ⟨c8, hP⟩ := qc_ck hP
    exact qw_zret cx hz dX2_isIn_41 (qc_bo_n c8) (Nat.zero_le _) (Nat.zero_le _) (Option.some.inj hP) rfl rfl
  refine qj_icmp_eq (tgt := 36) cx dX2_isIn_9 (by decide) (fun c2 => ?_) (fun c2 => ?_)
  · have hv3 := qc_ifT hv3 c2
    refine qj_iconst (v := (1 : Int32)) cx dX2_isIn_36 (by decide) ?_
    refine qj_goto (tgt := 41) cx dX2_isIn_37 (by decide) ?_
    exact qw_top (Option.some.inj hv3).symm Kv3
  · have hv3 := qc_ifF hv3 c2
    refine qj_aload_n cx dX2_isIn_12 rfl rfl ?_
    refine qw_getR (j := 0) (t1 := 23) cx dX2_isIn_13 qc_cl2 rfl (Nat.lt_of_lt_of_le (by decide) hn) rfl ww_252 rfl ?_
    refine qj_iconst (v := (2 : Int32)) cx dX2_isIn_16 (by decide) ?_
    refine qw_aald (n1 := 8) (t1 := 26) cx dX2_isIn_17 rfl (Or.inr ⟨rfl, rfl⟩) (Nat.lt_of_lt_of_le (by decide) hn) rfl (by decide) rfl ?_
    refine qj_iload_n cx dX2_isIn_18 rfl rfl ?_
    obtain ⟨c4, hv3⟩ := qc_ck hv3
    refine qw_iald (n1 := 700) cx dX2_isIn_19 rfl (Nat.lt_of_lt_of_le (by decide) hn) rfl c4 ?_
    refine qj_iload_n cx dX2_isIn_20 rfl rfl ?_
    refine qj_icmp_eq (tgt := 36) cx dX2_isIn_21 (by decide) (fun c5 => ?_) (fun c5 => ?_)
    · have hv3 := qc_ifT hv3 c5
      refine qj_iconst (v := (1 : Int32)) cx dX2_isIn_36 (by decide) ?_
      refine qj_goto (tgt := 41) cx dX2_isIn_37 (by decide) ?_
      exact qw_top (Option.some.inj hv3).symm Kv3
    · have hv3 := qc_ifF hv3 c5
      refine qj_aload_n cx dX2_isIn_24 rfl rfl ?_
      refine qw_getR (j := 0) (t1 := 23) cx dX2_isIn_25 qc_cl2 rfl (Nat.lt_of_lt_of_le (by decide) hn) rfl ww_252 rfl ?_
      refine qj_iconst (v := (3 : Int32)) cx dX2_isIn_28 (by decide) ?_
      refine qw_aald (n1 := 8) (t1 := 27) cx dX2_isIn_29 rfl (Or.inr ⟨rfl, rfl⟩) (Nat.lt_of_lt_of_le (by decide) hn) rfl (by decide) rfl ?_
      refine qj_iload_n cx dX2_isIn_30 rfl rfl ?_
      obtain ⟨c6, hv3⟩ := qc_ck hv3
      refine qw_iald (n1 := 700) cx dX2_isIn_31 rfl (Nat.lt_of_lt_of_le (by decide) hn) rfl c6 ?_
      refine qj_iload_n cx dX2_isIn_32 rfl rfl ?_
      refine qj_icmp_ne (tgt := 40) cx dX2_isIn_33 (by decide) (fun c7 => ?_) (fun c7 => ?_)
      · have hv3 := qc_ifF hv3 c7
        refine qj_iconst (v := (0 : Int32)) cx dX2_isIn_40 (by decide) ?_
        exact qw_top (Option.some.inj hv3).symm Kv3
      · have hv3 := qc_ifT hv3 c7
        refine qj_iconst (v := (1 : Int32)) cx dX2_isIn_36 (by decide) ?_
        refine qj_goto (tgt := 41) cx dX2_isIn_37 (by decide) ?_
        exact qw_top (Option.some.inj hv3).symm Kv3
def P_X2_strikesUser (I : Nat → Nat → Int32) (a : Int32) (b : Int32) : Option (Int32) :=
  if qc_in a 700 then
  (if ((I 30 a.toNatClampNeg) >>> (b &&& 31)) &&& (1 : Int32) = 0 then
  some (0 : Int32)
  else
  some (1 : Int32)).bind fun v3 =>
  if qc_bo v3 then some v3 else none
  else none
set_option maxRecDepth 20000 in
theorem c_X2_strikesUser {I : Nat → Nat → Int32} {J : Nat → Nat → Int64} {w : Nat → Nat} {n : Nat} (hn : 121 ≤ n) (hn1 : n ≤ 200) {a : Int32} {b : Int32} {q0 : Int32} (hP : P_X2_strikesUser I a b = some q0) : ∀ l, qc_M l yX2_strikesUser cX2_strikesUser 3 (some .boolean) 0 0 0 0 [.ref 22, .int a, .int b] (I, J, (rX w, kX, nX, n)) (some (.int q0)) (I, J, (rX w, kX, nX, n)) := by
  intro l
  refine qc_ent2 (by decide) (Nat.le_of_ble_eq_true rfl) ?_
  intro F hn0 cx hz
  have cx : qc_X F cX2_strikesUser RX2 "strikesUser" 0 0 0 0 := cx
  show qc_J F 0 0 0 [some (.ref 22), some (.int a), some (.int b)] [] (I, J, (rX w, kX, nX, n))
  unfold P_X2_strikesUser at hP
  refine qj_aload_n cx dX2_strikesUser_0 rfl rfl ?_
  refine qw_getR (j := 0) (t1 := 23) cx dX2_strikesUser_1 qc_cl2 rfl (Nat.lt_of_lt_of_le (by decide) hn) rfl ww_252 rfl ?_
  refine qj_bipush (v := (6 : Int32)) cx dX2_strikesUser_4 (by decide) ?_
  refine qw_aald (n1 := 8) (t1 := 30) cx dX2_strikesUser_6 rfl (Or.inr ⟨rfl, rfl⟩) (Nat.lt_of_lt_of_le (by decide) hn) rfl (by decide) rfl ?_
  refine qj_iload_n cx dX2_strikesUser_7 rfl rfl ?_
  obtain ⟨c1, hP⟩ := qc_ck hP
  refine qw_iald (n1 := 700) cx dX2_strikesUser_8 rfl (Nat.lt_of_lt_of_le (by decide) hn) rfl c1 ?_
  refine qj_iload_n cx dX2_strikesUser_9 rfl rfl ?_
  refine qj_ishr cx dX2_strikesUser_10 ?_
  refine qj_iconst (v := (1 : Int32)) cx dX2_strikesUser_11 (by decide) ?_
  refine qj_iand cx dX2_strikesUser_12 ?_
  obtain ⟨v3, hv3, hP⟩ := Option.bind_eq_some_iff.mp hP
  have Kv3 : qc_J F 0 0 21 [some (.ref 22), some (.int a), some (.int b)] [.int v3] (I, J, (rX w, kX, nX, n)) := by
    obtain ⟨c4, hP⟩ := qc_ck hP
    exact qw_zret cx hz dX2_strikesUser_21 (qc_bo_n c4) (Nat.zero_le _) (Nat.zero_le _) (Option.some.inj hP) rfl rfl
  refine qj_if_eq (tgt := 20) cx dX2_strikesUser_13 (by decide) (fun c2 => ?_) (fun c2 => ?_)
  · have hv3 := qc_ifT hv3 c2
    refine qj_iconst (v := (0 : Int32)) cx dX2_strikesUser_20 (by decide) ?_
    exact qw_top (Option.some.inj hv3).symm Kv3
  · have hv3 := qc_ifF hv3 c2
    refine qj_iconst (v := (1 : Int32)) cx dX2_strikesUser_16 (by decide) ?_
    refine qj_goto (tgt := 21) cx dX2_strikesUser_17 (by decide) ?_
    exact qw_top (Option.some.inj hv3).symm Kv3
def P_X2_strikesOn_24 (I : Nat → Nat → Int32) (k4 : Int32 → Int32 → Int32 → Option (Int32)) (a1 : Int32) (a2 : Int32) (a3 : Int32) : Option (Int32) :=
  qc_let (a3 + (1 : Int32)) fun x1 =>
  k4 a1 a2 x1
def P_X2_strikesOn_4 (I : Nat → Nat → Int32) : Nat → Int32 → Int32 → Int32 → Option (Int32)
  | 0, _, _, _ => none
  | f + 1, a1, a2, a3 =>
  if I 22 1 ≤ a3 then
  some a2
  else
  (P_X2_strikesUser I a3 a1).bind fun q3 =>
  if q3 = 0 then
  P_X2_strikesOn_24 I (P_X2_strikesOn_4 I f) a1 a2 a3
  else
  qc_let (a2 + (1 : Int32)) fun x5 =>
  P_X2_strikesOn_24 I (P_X2_strikesOn_4 I f) a1 x5 a3
def P_X2_strikesOn (I : Nat → Nat → Int32) (a : Int32) : Option (Int32) :=
  P_X2_strikesOn_4 I qc_fu a (0 : Int32) (0 : Int32)
set_option maxRecDepth 20000 in
theorem c_X2_strikesOn {I : Nat → Nat → Int32} {J : Nat → Nat → Int64} {w : Nat → Nat} {n : Nat} (hn : 121 ≤ n) (hn1 : n ≤ 200) {a : Int32} {q0 : Int32} (hP : P_X2_strikesOn I a = some q0) : ∀ l, qc_M l yX2_strikesOn cX2_strikesOn 4 (some .int) 1 22 0 0 [.ref 22, .int a] (I, J, (rX w, kX, nX, n)) (some (.int q0)) (I, J, (rX w, kX, nX, n)) := by
  intro l
  refine qc_ent2 (by decide) (Nat.le_of_ble_eq_true rfl) ?_
  intro F hn0 cx hz
  have cx : qc_X F cX2_strikesOn RX2 "strikesOn" 1 0 0 22 := cx
  have L24 : ∀ (k4 : Int32 → Int32 → Int32 → Option (Int32)) (g4 : ∀ (a1 : Int32) (a2 : Int32) (a3 : Int32), k4 a1 a2 a3 = some q0 → qc_J F 0 0 4 [some (.ref 22), some (.int a1), some (.int a2), some (.int a3)] [] (I, J, (rX w, kX, nX, n))) (a1 : Int32) (a2 : Int32) (a3 : Int32), P_X2_strikesOn_24 I k4 a1 a2 a3 = some q0 → qc_J F 0 0 24 [some (.ref 22), some (.int a1), some (.int a2), some (.int a3)] [] (I, J, (rX w, kX, nX, n)) := by
    intro k4 g4 a1 a2 a3 hP
    unfold P_X2_strikesOn_24 at hP
    obtain ⟨x1, ex1, hP⟩ := qc_letE hP
    refine qj_iinc (v := x1) (ls1 := [some (.ref 22), some (.int a1), some (.int a2), some (.int x1)]) cx dX2_strikesOn_24 rfl (by rw [ex1]; rfl) rfl rfl ?_
    refine qj_goto (tgt := 4) cx dX2_strikesOn_27 (by decide) ?_
    exact g4 a1 a2 x1 hP
  have L4 : ∀  (f : Nat) (a1 : Int32) (a2 : Int32) (a3 : Int32), P_X2_strikesOn_4 I f a1 a2 a3 = some q0 → qc_J F 0 0 4 [some (.ref 22), some (.int a1), some (.int a2), some (.int a3)] [] (I, J, (rX w, kX, nX, n)) := by
    intro  f
    induction f with
    | zero => intro a1 a2 a3 hP; cases hP
    | succ f ih =>
      intro a1 a2 a3 hP
      rw [P_X2_strikesOn_4] at hP
      refine qj_iload_n cx dX2_strikesOn_4 rfl rfl ?_
      refine qj_aload_n cx dX2_strikesOn_5 rfl rfl ?_
      refine qw_getI (j := 1) cx dX2_strikesOn_6 qc_cl2 rfl (Nat.lt_of_lt_of_le (by decide) hn) rfl ww_254 ?_
      refine qj_icmp_ge (tgt := 30) cx dX2_strikesOn_9 (by decide) (fun c2 => ?_) (fun c2 => ?_)
      · have hP := qc_ifT hP c2
        refine qj_iload_n cx dX2_strikesOn_30 rfl rfl ?_
        exact qw_iret cx hz dX2_strikesOn_31 (Nat.zero_le _) (Nat.zero_le _) (Option.some.inj hP) rfl rfl
      · have hP := qc_ifF hP c2
        refine qj_aload_n cx dX2_strikesOn_12 rfl rfl ?_
        refine qj_iload_n cx dX2_strikesOn_13 rfl rfl ?_
        refine qj_iload_n cx dX2_strikesOn_14 rfl rfl ?_
        obtain ⟨q3, eq3, hP⟩ := Option.bind_eq_some_iff.mp hP
        refine qj_callV (As := [.int a3, .int a1]) (st := []) (t := 22) (h' := (I, J, (rX w, kX, nX, n))) (r := some (.int q3)) cx dX2_strikesOn_15 (c_X2_strikesUser (I := I) (J := J) (w := w) hn hn1 eq3) gc_RX2_139 qm_X2_strikesUser rfl rfl qc_cl2 rfl (Nat.lt_of_lt_of_le (by decide) hn) (by decide) (by decide) rfl (Nat.le_of_ble_eq_true rfl) (Nat.le_trans hn1 (by decide)) hn0 rfl ?_
        refine qj_if_eq (tgt := 24) cx dX2_strikesOn_18 (by decide) (fun c4 => ?_) (fun c4 => ?_)
        · have hP := qc_ifT hP c4
          exact L24 (P_X2_strikesOn_4 I f) ih a1 a2 a3 hP
        · have hP := qc_ifF hP c4
          obtain ⟨x5, ex5, hP⟩ := qc_letE hP
          refine qj_iinc (v := x5) (ls1 := [some (.ref 22), some (.int a1), some (.int x5), some (.int a3)]) cx dX2_strikesOn_21 rfl (by rw [ex5]; rfl) rfl rfl ?_
          exact L24 (P_X2_strikesOn_4 I f) ih a1 x5 a3 hP
  show qc_J F 0 0 0 [some (.ref 22), some (.int a), none, none] [] (I, J, (rX w, kX, nX, n))
  unfold P_X2_strikesOn at hP
  refine qj_iconst (v := (0 : Int32)) cx dX2_strikesOn_0 (by decide) ?_
  refine qj_istore_n (ls1 := [some (.ref 22), some (.int a), some (.int (0 : Int32)), none]) cx dX2_strikesOn_1 rfl rfl rfl rfl ?_
  refine qj_iconst (v := (0 : Int32)) cx dX2_strikesOn_2 (by decide) ?_
  refine qj_istore_n (ls1 := [some (.ref 22), some (.int a), some (.int (0 : Int32)), some (.int (0 : Int32))]) cx dX2_strikesOn_3 rfl rfl rfl rfl ?_
  exact L4 qc_fu a (0 : Int32) (0 : Int32) hP
def P_X2_placeOfStrikeOn_35 (I : Nat → Nat → Int32) (k5 : Int32 → Int32 → Int32 → Int32 → Option (Int32)) (a1 : Int32) (a2 : Int32) (a3 : Int32) (a4 : Int32) : Option (Int32) :=
  qc_let (a4 + (1 : Int32)) fun x1 =>
  k5 a1 a2 a3 x1
def P_X2_placeOfStrikeOn_5 (I : Nat → Nat → Int32) : Nat → Int32 → Int32 → Int32 → Int32 → Option (Int32)
  | 0, _, _, _, _ => none
  | f + 1, a1, a2, a3, a4 =>
  if I 22 1 ≤ a4 then
  some (-2 : Int32)
  else
  (P_X2_strikesUser I a4 a1).bind fun q3 =>
  if q3 = 0 then
  P_X2_placeOfStrikeOn_35 I (P_X2_placeOfStrikeOn_5 I f) a1 a2 a3 a4
  else
  if a3 = a2 then
  some a4
  else
  qc_let (a3 + (1 : Int32)) fun x6 =>
  P_X2_placeOfStrikeOn_35 I (P_X2_placeOfStrikeOn_5 I f) a1 a2 x6 a4
def P_X2_placeOfStrikeOn (I : Nat → Nat → Int32) (a : Int32) (b : Int32) : Option (Int32) :=
  P_X2_placeOfStrikeOn_5 I qc_fu a b (0 : Int32) (0 : Int32)
set_option maxRecDepth 20000 in
theorem c_X2_placeOfStrikeOn {I : Nat → Nat → Int32} {J : Nat → Nat → Int64} {w : Nat → Nat} {n : Nat} (hn : 121 ≤ n) (hn1 : n ≤ 200) {a : Int32} {b : Int32} {q0 : Int32} (hP : P_X2_placeOfStrikeOn I a b = some q0) : ∀ l, qc_M l yX2_placeOfStrikeOn cX2_placeOfStrikeOn 5 (some .int) 1 22 0 0 [.ref 22, .int a, .int b] (I, J, (rX w, kX, nX, n)) (some (.int q0)) (I, J, (rX w, kX, nX, n)) := by
  intro l
  refine qc_ent2 (by decide) (Nat.le_of_ble_eq_true rfl) ?_
  intro F hn0 cx hz
  have cx : qc_X F cX2_placeOfStrikeOn RX2 "placeOfStrikeOn" 1 0 0 22 := cx
  have L35 : ∀ (k5 : Int32 → Int32 → Int32 → Int32 → Option (Int32)) (g5 : ∀ (a1 : Int32) (a2 : Int32) (a3 : Int32) (a4 : Int32), k5 a1 a2 a3 a4 = some q0 → qc_J F 0 0 5 [some (.ref 22), some (.int a1), some (.int a2), some (.int a3), some (.int a4)] [] (I, J, (rX w, kX, nX, n))) (a1 : Int32) (a2 : Int32) (a3 : Int32) (a4 : Int32), P_X2_placeOfStrikeOn_35 I k5 a1 a2 a3 a4 = some q0 → qc_J F 0 0 35 [some (.ref 22), some (.int a1), some (.int a2), some (.int a3), some (.int a4)] [] (I, J, (rX w, kX, nX, n)) := by
    intro k5 g5 a1 a2 a3 a4 hP
    unfold P_X2_placeOfStrikeOn_35 at hP
    obtain ⟨x1, ex1, hP⟩ := qc_letE hP
    refine qj_iinc (v := x1) (ls1 := [some (.ref 22), some (.int a1), some (.int a2), some (.int a3), some (.int x1)]) cx dX2_placeOfStrikeOn_35 rfl (by rw [ex1]; rfl) rfl rfl ?_
    refine qj_goto (tgt := 5) cx dX2_placeOfStrikeOn_38 (by decide) ?_
    exact g5 a1 a2 a3 x1 hP
  have L5 : ∀  (f : Nat) (a1 : Int32) (a2 : Int32) (a3 : Int32) (a4 : Int32), P_X2_placeOfStrikeOn_5 I f a1 a2 a3 a4 = some q0 → qc_J F 0 0 5 [some (.ref 22), some (.int a1), some (.int a2), some (.int a3), some (.int a4)] [] (I, J, (rX w, kX, nX, n)) := by
    intro  f
    induction f with
    | zero => intro a1 a2 a3 a4 hP; cases hP
    | succ f ih =>
      intro a1 a2 a3 a4 hP
      rw [P_X2_placeOfStrikeOn_5] at hP
      refine qj_iload cx dX2_placeOfStrikeOn_5 rfl ?_
      refine qj_aload_n cx dX2_placeOfStrikeOn_7 rfl rfl ?_
      refine qw_getI (j := 1) cx dX2_placeOfStrikeOn_8 qc_cl2 rfl (Nat.lt_of_lt_of_le (by decide) hn) rfl ww_254 ?_
      refine qj_icmp_ge (tgt := 41) cx dX2_placeOfStrikeOn_11 (by decide) (fun c2 => ?_) (fun c2 => ?_)
      · have hP := qc_ifT hP c2
        refine qj_bipush (v := (-2 : Int32)) cx dX2_placeOfStrikeOn_41 (by decide) ?_
        exact qw_iret cx hz dX2_placeOfStrikeOn_43 (Nat.zero_le _) (Nat.zero_le _) (Option.some.inj hP) rfl rfl
      · have hP := qc_ifF hP c2
        refine qj_aload_n cx dX2_placeOfStrikeOn_14 rfl rfl ?_
        refine qj_iload cx dX2_placeOfStrikeOn_15 rfl ?_
        refine qj_iload_n cx dX2_placeOfStrikeOn_17 rfl rfl ?_
        obtain ⟨q3, eq3, hP⟩ := Option.bind_eq_some_iff.mp hP
        refine qj_callV (As := [.int a4, .int a1]) (st := []) (t := 22) (h' := (I, J, (rX w, kX, nX, n))) (r := some (.int q3)) cx dX2_placeOfStrikeOn_18 (c_X2_strikesUser (I := I) (J := J) (w := w) hn hn1 eq3) gc_RX2_139 qm_X2_strikesUser rfl rfl qc_cl2 rfl (Nat.lt_of_lt_of_le (by decide) hn) (by decide) (by decide) rfl (Nat.le_of_ble_eq_true rfl) (Nat.le_trans hn1 (by decide)) hn0 rfl ?_
        refine qj_if_eq (tgt := 35) cx dX2_placeOfStrikeOn_21 (by decide) (fun c4 => ?_) (fun c4 => ?_)
        · have hP := qc_ifT hP c4
          exact L35 (P_X2_placeOfStrikeOn_5 I f) ih a1 a2 a3 a4 hP
        · have hP := qc_ifF hP c4
          refine qj_iload_n cx dX2_placeOfStrikeOn_24 rfl rfl ?_
          refine qj_iload_n cx dX2_placeOfStrikeOn_25 rfl rfl ?_
          refine qj_icmp_ne (tgt := 32) cx dX2_placeOfStrikeOn_26 (by decide) (fun c5 => ?_) (fun c5 => ?_)
          · have hP := qc_ifF hP c5
            obtain ⟨x6, ex6, hP⟩ := qc_letE hP
            refine qj_iinc (v := x6) (ls1 := [some (.ref 22), some (.int a1), some (.int a2), some (.int x6), some (.int a4)]) cx dX2_placeOfStrikeOn_32 rfl (by rw [ex6]; rfl) rfl rfl ?_
            exact L35 (P_X2_placeOfStrikeOn_5 I f) ih a1 a2 x6 a4 hP
          · have hP := qc_ifT hP c5
            refine qj_iload cx dX2_placeOfStrikeOn_29 rfl ?_
            exact qw_iret cx hz dX2_placeOfStrikeOn_31 (Nat.zero_le _) (Nat.zero_le _) (Option.some.inj hP) rfl rfl
  show qc_J F 0 0 0 [some (.ref 22), some (.int a), some (.int b), none, none] [] (I, J, (rX w, kX, nX, n))
  unfold P_X2_placeOfStrikeOn at hP
  refine qj_iconst (v := (0 : Int32)) cx dX2_placeOfStrikeOn_0 (by decide) ?_
  refine qj_istore_n (ls1 := [some (.ref 22), some (.int a), some (.int b), some (.int (0 : Int32)), none]) cx dX2_placeOfStrikeOn_1 rfl rfl rfl rfl ?_
  refine qj_iconst (v := (0 : Int32)) cx dX2_placeOfStrikeOn_2 (by decide) ?_
  refine qj_istore (ls1 := [some (.ref 22), some (.int a), some (.int b), some (.int (0 : Int32)), some (.int (0 : Int32))]) cx dX2_placeOfStrikeOn_3 rfl rfl rfl ?_
  exact L5 qc_fu a b (0 : Int32) (0 : Int32) hP
def P_X2_placeOfLoudest_50 (I : Nat → Nat → Int32) (k5 : Int32 → Int32 → Option (Int32)) (a1 : Int32) (a2 : Int32) : Option (Int32) :=
  qc_let (a2 + (1 : Int32)) fun x1 =>
  k5 a1 x1
def P_X2_placeOfLoudest_48 (I : Nat → Nat → Int32) (k5 : Int32 → Int32 → Option (Int32)) (a2 : Int32) : Option (Int32) :=
  P_X2_placeOfLoudest_50 I k5 a2 a2
def P_X2_placeOfLoudest_5 (I : Nat → Nat → Int32) : Nat → Int32 → Int32 → Option (Int32)
  | 0, _, _ => none
  | f + 1, a1, a2 =>
  if I 22 1 ≤ a2 then
  some a1
  else
  if qc_in a2 700 then
  if I 30 a2.toNatClampNeg = 0 then
  P_X2_placeOfLoudest_50 I (P_X2_placeOfLoudest_5 I f) a1 a2
  else
  if a1 < 0 then
  P_X2_placeOfLoudest_48 I (P_X2_placeOfLoudest_5 I f) a2
  else
  if qc_in a2 700 then
  if qc_in a1 700 then
  if I 29 a2.toNatClampNeg ≤ I 29 a1.toNatClampNeg then
  P_X2_placeOfLoudest_50 I (P_X2_placeOfLoudest_5 I f) a1 a2
  else
  P_X2_placeOfLoudest_48 I (P_X2_placeOfLoudest_5 I f) a2
  else none
  else none
  else none
def P_X2_placeOfLoudest (I : Nat → Nat → Int32) : Option (Int32) :=
  P_X2_placeOfLoudest_5 I qc_fu (-2 : Int32) (0 : Int32)
set_option maxRecDepth 20000 in
theorem c_X2_placeOfLoudest {I : Nat → Nat → Int32} {J : Nat → Nat → Int64} {w : Nat → Nat} {n : Nat} (hn : 121 ≤ n) (hn1 : n ≤ 200)  {q0 : Int32} (hP : P_X2_placeOfLoudest I = some q0) : ∀ l, qc_M l yX2_placeOfLoudest cX2_placeOfLoudest 3 (some .int) 0 0 0 0 [.ref 22] (I, J, (rX w, kX, nX, n)) (some (.int q0)) (I, J, (rX w, kX, nX, n)) := by
  intro l
  refine qc_ent2 (by decide) (Nat.le_of_ble_eq_true rfl) ?_
  intro F hn0 cx hz
  have cx : qc_X F cX2_placeOfLoudest RX2 "placeOfLoudest" 0 0 0 0 := cx
  have L50 : ∀ (k5 : Int32 → Int32 → Option (Int32)) (g5 : ∀ (a1 : Int32) (a2 : Int32), k5 a1 a2 = some q0 → qc_J F 0 0 5 [some (.ref 22), some (.int a1), some (.int a2)] [] (I, J, (rX w, kX, nX, n))) (a1 : Int32) (a2 : Int32), P_X2_placeOfLoudest_50 I k5 a1 a2 = some q0 → qc_J F 0 0 50 [some (.ref 22), some (.int a1), some (.int a2)] [] (I, J, (rX w, kX, nX, n)) := by
    intro k5 g5 a1 a2 hP
    unfold P_X2_placeOfLoudest_50 at hP
    obtain ⟨x1, ex1, hP⟩ := qc_letE hP
    refine qj_iinc (v := x1) (ls1 := [some (.ref 22), some (.int a1), some (.int x1)]) cx dX2_placeOfLoudest_50 rfl (by rw [ex1]; rfl) rfl rfl ?_
    refine qj_goto (tgt := 5) cx dX2_placeOfLoudest_53 (by decide) ?_
    exact g5 a1 x1 hP
  have L48 : ∀ (k5 : Int32 → Int32 → Option (Int32)) (g5 : ∀ (a1 : Int32) (a2 : Int32), k5 a1 a2 = some q0 → qc_J F 0 0 5 [some (.ref 22), some (.int a1), some (.int a2)] [] (I, J, (rX w, kX, nX, n))) (a2 : Int32), P_X2_placeOfLoudest_48 I k5 a2 = some q0 → qc_J F 0 0 48 [some (.ref 22), none, some (.int a2)] [] (I, J, (rX w, kX, nX, n)) := by
    intro k5 g5 a2 hP
    unfold P_X2_placeOfLoudest_48 at hP
    refine qj_iload_n cx dX2_placeOfLoudest_48 rfl rfl ?_
    refine qj_istore_n (ls1 := [some (.ref 22), some (.int a2), some (.int a2)]) cx dX2_placeOfLoudest_49 rfl rfl rfl rfl ?_
    exact L50 k5 g5 a2 a2 hP
  have L5 : ∀  (f : Nat) (a1 : Int32) (a2 : Int32), P_X2_placeOfLoudest_5 I f a1 a2 = some q0 → qc_J F 0 0 5 [some (.ref 22), some (.int a1), some (.int a2)] [] (I, J, (rX w, kX, nX, n)) := by
    intro  f
    induction f with
    | zero => intro a1 a2 hP; cases hP
    | succ f ih =>
      intro a1 a2 hP
      rw [P_X2_placeOfLoudest_5] at hP
      refine qj_iload_n cx dX2_placeOfLoudest_5 rfl rfl ?_
      refine qj_aload_n cx dX2_placeOfLoudest_6 rfl rfl ?_
      refine qw_getI (j := 1) cx dX2_placeOfLoudest_7 qc_cl2 rfl (Nat.lt_of_lt_of_le (by decide) hn) rfl ww_254 ?_
      refine qj_icmp_ge (tgt := 56) cx dX2_placeOfLoudest_10 (by decide) (fun c2 => ?_) (fun c2 => ?_)
      · have hP := qc_ifT hP c2
        refine qj_iload_n cx dX2_placeOfLoudest_56 rfl rfl ?_
        exact qw_iret cx hz dX2_placeOfLoudest_57 (Nat.zero_le _) (Nat.zero_le _) (Option.some.inj hP) rfl rfl
      · have hP := qc_ifF hP c2
        refine qj_aload_n cx dX2_placeOfLoudest_13 rfl rfl ?_
        refine qw_getR (j := 0) (t1 := 23) cx dX2_placeOfLoudest_14 qc_cl2 rfl (Nat.lt_of_lt_of_le (by decide) hn) rfl ww_252 rfl ?_
        refine qj_bipush (v := (6 : Int32)) cx dX2_placeOfLoudest_17 (by decide) ?_
        refine qw_aald (n1 := 8) (t1 := 30) cx dX2_placeOfLoudest_19 rfl (Or.inr ⟨rfl, rfl⟩) (Nat.lt_of_lt_of_le (by decide) hn) rfl (by decide) rfl ?_
        refine qj_iload_n cx dX2_placeOfLoudest_20 rfl rfl ?_
        obtain ⟨c3, hP⟩ := qc_ck hP
        refine qw_iald (n1 := 700) cx dX2_placeOfLoudest_21 rfl (Nat.lt_of_lt_of_le (by decide) hn) rfl c3 ?_
        refine qj_if_eq (tgt := 50) cx dX2_placeOfLoudest_22 (by decide) (fun c4 => ?_) (fun c4 => ?_)
        · have hP := qc_ifT hP c4
          exact L50 (P_X2_placeOfLoudest_5 I f) ih a1 a2 hP
        · have hP := qc_ifF hP c4
          refine qj_iload_n cx dX2_placeOfLoudest_25 rfl rfl ?_
          refine qj_if_lt (tgt := 48) cx dX2_placeOfLoudest_26 (by decide) (fun c5 => ?_) (fun c5 => ?_)
          · have hP := qc_ifT hP c5
            refine qw_sub (ls1 := [some (.ref 22), none, some (.int a2)]) rfl (qc_sb_ok ⟨rfl, rfl, trivial⟩) ?_
            exact L48 (P_X2_placeOfLoudest_5 I f) ih a2 hP
          · have hP := qc_ifF hP c5
            refine qj_aload_n cx dX2_placeOfLoudest_29 rfl rfl ?_
            refine qw_getR (j := 0) (t1 := 23) cx dX2_placeOfLoudest_30 qc_cl2 rfl (Nat.lt_of_lt_of_le (by decide) hn) rfl ww_252 rfl ?_
            refine qj_iconst (v := (5 : Int32)) cx dX2_placeOfLoudest_33 (by decide) ?_
            refine qw_aald (n1 := 8) (t1 := 29) cx dX2_placeOfLoudest_34 rfl (Or.inr ⟨rfl, rfl⟩) (Nat.lt_of_lt_of_le (by decide) hn) rfl (by decide) rfl ?_
            refine qj_iload_n cx dX2_placeOfLoudest_35 rfl rfl ?_
            obtain ⟨c6, hP⟩ := qc_ck hP
            refine qw_iald (n1 := 700) cx dX2_placeOfLoudest_36 rfl (Nat.lt_of_lt_of_le (by decide) hn) rfl c6 ?_
            refine qj_aload_n cx dX2_placeOfLoudest_37 rfl rfl ?_
            refine qw_getR (j := 0) (t1 := 23) cx dX2_placeOfLoudest_38 qc_cl2 rfl (Nat.lt_of_lt_of_le (by decide) hn) rfl ww_252 rfl ?_
            refine qj_iconst (v := (5 : Int32)) cx dX2_placeOfLoudest_41 (by decide) ?_
            refine qw_aald (n1 := 8) (t1 := 29) cx dX2_placeOfLoudest_42 rfl (Or.inr ⟨rfl, rfl⟩) (Nat.lt_of_lt_of_le (by decide) hn) rfl (by decide) rfl ?_
            refine qj_iload_n cx dX2_placeOfLoudest_43 rfl rfl ?_
            obtain ⟨c7, hP⟩ := qc_ck hP
            refine qw_iald (n1 := 700) cx dX2_placeOfLoudest_44 rfl (Nat.lt_of_lt_of_le (by decide) hn) rfl c7 ?_
            refine qj_icmp_le (tgt := 50) cx dX2_placeOfLoudest_45 (by decide) (fun c8 => ?_) (fun c8 => ?_)
            · have hP := qc_ifT hP c8
              exact L50 (P_X2_placeOfLoudest_5 I f) ih a1 a2 hP
            · have hP := qc_ifF hP c8
              refine qw_sub (ls1 := [some (.ref 22), none, some (.int a2)]) rfl (qc_sb_ok ⟨rfl, rfl, trivial⟩) ?_
              exact L48 (P_X2_placeOfLoudest_5 I f) ih a2 hP
  show qc_J F 0 0 0 [some (.ref 22), none, none] [] (I, J, (rX w, kX, nX, n))
  unfold P_X2_placeOfLoudest at hP
  refine qj_bipush (v := (-2 : Int32)) cx dX2_placeOfLoudest_0 (by decide) ?_
  refine qj_istore_n (ls1 := [some (.ref 22), some (.int (-2 : Int32)), none]) cx dX2_placeOfLoudest_2 rfl rfl rfl rfl ?_
  refine qj_iconst (v := (0 : Int32)) cx dX2_placeOfLoudest_3 (by decide) ?_
  refine qj_istore_n (ls1 := [some (.ref 22), some (.int (-2 : Int32)), some (.int (0 : Int32))]) cx dX2_placeOfLoudest_4 rfl rfl rfl rfl ?_
  exact L5 qc_fu (-2 : Int32) (0 : Int32) hP
def P_X2_slotsOfStrikesOn_33 (I : Nat → Nat → Int32) (k4 : Int32 → Int32 → Int32 → Option (Int32)) (a1 : Int32) (a2 : Int32) (a3 : Int32) : Option (Int32) :=
  qc_let (a3 + (1 : Int32)) fun x1 =>
  k4 a1 a2 x1
def P_X2_slotsOfStrikesOn_4 (I : Nat → Nat → Int32) : Nat → Int32 → Int32 → Int32 → Option (Int32)
  | 0, _, _, _ => none
  | f + 1, a1, a2, a3 =>
  if I 22 1 ≤ a3 then
  some a2
  else
  (P_X2_strikesUser I a3 a1).bind fun q3 =>
  if q3 = 0 then
  P_X2_slotsOfStrikesOn_33 I (P_X2_slotsOfStrikesOn_4 I f) a1 a2 a3
  else
  if qc_in a3 700 then
  qc_let (a2 ||| (I 31 a3.toNatClampNeg)) fun x6 =>
  P_X2_slotsOfStrikesOn_33 I (P_X2_slotsOfStrikesOn_4 I f) a1 x6 a3
  else none
def P_X2_slotsOfStrikesOn (I : Nat → Nat → Int32) (a : Int32) : Option (Int32) :=
  P_X2_slotsOfStrikesOn_4 I qc_fu a (0 : Int32) (0 : Int32)
set_option maxRecDepth 20000 in
theorem c_X2_slotsOfStrikesOn {I : Nat → Nat → Int32} {J : Nat → Nat → Int64} {w : Nat → Nat} {n : Nat} (hn : 121 ≤ n) (hn1 : n ≤ 200) {a : Int32} {q0 : Int32} (hP : P_X2_slotsOfStrikesOn I a = some q0) : ∀ l, qc_M l yX2_slotsOfStrikesOn cX2_slotsOfStrikesOn 4 (some .int) 1 22 0 0 [.ref 22, .int a] (I, J, (rX w, kX, nX, n)) (some (.int q0)) (I, J, (rX w, kX, nX, n)) := by
  intro l
  refine qc_ent2 (by decide) (Nat.le_of_ble_eq_true rfl) ?_
  intro F hn0 cx hz
  have cx : qc_X F cX2_slotsOfStrikesOn RX2 "slotsOfStrikesOn" 1 0 0 22 := cx
  have L33 : ∀ (k4 : Int32 → Int32 → Int32 → Option (Int32)) (g4 : ∀ (a1 : Int32) (a2 : Int32) (a3 : Int32), k4 a1 a2 a3 = some q0 → qc_J F 0 0 4 [some (.ref 22), some (.int a1), some (.int a2), some (.int a3)] [] (I, J, (rX w, kX, nX, n))) (a1 : Int32) (a2 : Int32) (a3 : Int32), P_X2_slotsOfStrikesOn_33 I k4 a1 a2 a3 = some q0 → qc_J F 0 0 33 [some (.ref 22), some (.int a1), some (.int a2), some (.int a3)] [] (I, J, (rX w, kX, nX, n)) := by
    intro k4 g4 a1 a2 a3 hP
    unfold P_X2_slotsOfStrikesOn_33 at hP
    obtain ⟨x1, ex1, hP⟩ := qc_letE hP
    refine qj_iinc (v := x1) (ls1 := [some (.ref 22), some (.int a1), some (.int a2), some (.int x1)]) cx dX2_slotsOfStrikesOn_33 rfl (by rw [ex1]; rfl) rfl rfl ?_
    refine qj_goto (tgt := 4) cx dX2_slotsOfStrikesOn_36 (by decide) ?_
    exact g4 a1 a2 x1 hP
  have L4 : ∀  (f : Nat) (a1 : Int32) (a2 : Int32) (a3 : Int32), P_X2_slotsOfStrikesOn_4 I f a1 a2 a3 = some q0 → qc_J F 0 0 4 [some (.ref 22), some (.int a1), some (.int a2), some (.int a3)] [] (I, J, (rX w, kX, nX, n)) := by
    intro  f
    induction f with
    | zero => intro a1 a2 a3 hP; cases hP
    | succ f ih =>
      intro a1 a2 a3 hP
      rw [P_X2_slotsOfStrikesOn_4] at hP
      refine qj_iload_n cx dX2_slotsOfStrikesOn_4 rfl rfl ?_
      refine qj_aload_n cx dX2_slotsOfStrikesOn_5 rfl rfl ?_
      refine qw_getI (j := 1) cx dX2_slotsOfStrikesOn_6 qc_cl2 rfl (Nat.lt_of_lt_of_le (by decide) hn) rfl ww_254 ?_
      refine qj_icmp_ge (tgt := 39) cx dX2_slotsOfStrikesOn_9 (by decide) (fun c2 => ?_) (fun c2 => ?_)
      · have hP := qc_ifT hP c2
        refine qj_iload_n cx dX2_slotsOfStrikesOn_39 rfl rfl ?_
        exact qw_iret cx hz dX2_slotsOfStrikesOn_40 (Nat.zero_le _) (Nat.zero_le _) (Option.some.inj hP) rfl rfl
      · have hP := qc_ifF hP c2
        refine qj_aload_n cx dX2_slotsOfStrikesOn_12 rfl rfl ?_
        refine qj_iload_n cx dX2_slotsOfStrikesOn_13 rfl rfl ?_
        refine qj_iload_n cx dX2_slotsOfStrikesOn_14 rfl rfl ?_
        obtain ⟨q3, eq3, hP⟩ := Option.bind_eq_some_iff.mp hP
        refine qj_callV (As := [.int a3, .int a1]) (st := []) (t := 22) (h' := (I, J, (rX w, kX, nX, n))) (r := some (.int q3)) cx dX2_slotsOfStrikesOn_15 (c_X2_strikesUser (I := I) (J := J) (w := w) hn hn1 eq3) gc_RX2_139 qm_X2_strikesUser rfl rfl qc_cl2 rfl (Nat.lt_of_lt_of_le (by decide) hn) (by decide) (by decide) rfl (Nat.le_of_ble_eq_true rfl) (Nat.le_trans hn1 (by decide)) hn0 rfl ?_
        refine qj_if_eq (tgt := 33) cx dX2_slotsOfStrikesOn_18 (by decide) (fun c4 => ?_) (fun c4 => ?_)
        · have hP := qc_ifT hP c4
          exact L33 (P_X2_slotsOfStrikesOn_4 I f) ih a1 a2 a3 hP
        · have hP := qc_ifF hP c4
          refine qj_iload_n cx dX2_slotsOfStrikesOn_21 rfl rfl ?_
          refine qj_aload_n cx dX2_slotsOfStrikesOn_22 rfl rfl ?_
          refine qw_getR (j := 0) (t1 := 23) cx dX2_slotsOfStrikesOn_23 qc_cl2 rfl (Nat.lt_of_lt_of_le (by decide) hn) rfl ww_252 rfl ?_
          refine qj_bipush (v := (7 : Int32)) cx dX2_slotsOfStrikesOn_26 (by decide) ?_
          refine qw_aald (n1 := 8) (t1 := 31) cx dX2_slotsOfStrikesOn_28 rfl (Or.inr ⟨rfl, rfl⟩) (Nat.lt_of_lt_of_le (by decide) hn) rfl (by decide) rfl ?_
          refine qj_iload_n cx dX2_slotsOfStrikesOn_29 rfl rfl ?_
          obtain ⟨c5, hP⟩ := qc_ck hP
          refine qw_iald (n1 := 700) cx dX2_slotsOfStrikesOn_30 rfl (Nat.lt_of_lt_of_le (by decide) hn) rfl c5 ?_
          refine qj_ior cx dX2_slotsOfStrikesOn_31 ?_
          obtain ⟨x6, ex6, hP⟩ := qc_letE hP
          refine qw_top ex6 ?_
          refine qj_istore_n (ls1 := [some (.ref 22), some (.int a1), some (.int x6), some (.int a3)]) cx dX2_slotsOfStrikesOn_32 rfl rfl rfl rfl ?_
          exact L33 (P_X2_slotsOfStrikesOn_4 I f) ih a1 x6 a3 hP
  show qc_J F 0 0 0 [some (.ref 22), some (.int a), none, none] [] (I, J, (rX w, kX, nX, n))
  unfold P_X2_slotsOfStrikesOn at hP
  refine qj_iconst (v := (0 : Int32)) cx dX2_slotsOfStrikesOn_0 (by decide) ?_
  refine qj_istore_n (ls1 := [some (.ref 22), some (.int a), some (.int (0 : Int32)), none]) cx dX2_slotsOfStrikesOn_1 rfl rfl rfl rfl ?_
  refine qj_iconst (v := (0 : Int32)) cx dX2_slotsOfStrikesOn_2 (by decide) ?_
  refine qj_istore_n (ls1 := [some (.ref 22), some (.int a), some (.int (0 : Int32)), some (.int (0 : Int32))]) cx dX2_slotsOfStrikesOn_3 rfl rfl rfl rfl ?_
  exact L4 qc_fu a (0 : Int32) (0 : Int32) hP
def P_X2_nearestDistance_60 (I : Nat → Nat → Int32) (p : Nat) (k6 : Int32 → Int32 → Int32 → Option (Int32)) (a2 : Int32) (a3 : Int32) (a4 : Int32) : Option (Int32) :=
  qc_let (a4 + (1 : Int32)) fun x1 =>
  k6 a2 a3 x1
def P_X2_nearestDistance_57 (I : Nat → Nat → Int32) (p : Nat) (k6 : Int32 → Int32 → Int32 → Option (Int32)) (a2 : Int32) (a4 : Int32) (a5 : Int32) : Option (Int32) :=
  P_X2_nearestDistance_60 I p k6 a2 a5 a4
def P_X2_nearestDistance_6 (I : Nat → Nat → Int32) (p : Nat) : Nat → Int32 → Int32 → Int32 → Option (Int32)
  | 0, _, _, _ => none
  | f + 1, a2, a3, a4 =>
  if I 22 1 ≤ a4 then
  some a3
  else
  (P_X2_mayStrike I p a4 a2).bind fun q3 =>
  if q3 = 0 then
  P_X2_nearestDistance_60 I p (P_X2_nearestDistance_6 I p f) a2 a3 a4
  else
  if qc_in a4 700 then
  if qc_in a2 8 then
  qc_let (if 0 ≤ (I 28 a4.toNatClampNeg) - (I (p + 1 + 6) a2.toNatClampNeg) then ((I 28 a4.toNatClampNeg) - (I (p + 1 + 6) a2.toNatClampNeg)) else 0 - ((I 28 a4.toNatClampNeg) - (I (p + 1 + 6) a2.toNatClampNeg))) fun x7 =>
  if a3 < 0 then
  P_X2_nearestDistance_57 I p (P_X2_nearestDistance_6 I p f) a2 a4 x7
  else
  if a3 ≤ x7 then
  P_X2_nearestDistance_60 I p (P_X2_nearestDistance_6 I p f) a2 a3 a4
  else
  P_X2_nearestDistance_57 I p (P_X2_nearestDistance_6 I p f) a2 a4 x7
  else none
  else none
def P_X2_nearestDistance (I : Nat → Nat → Int32) (p : Nat) (a : Int32) : Option (Int32) :=
  P_X2_nearestDistance_6 I p qc_fu a (-2 : Int32) (0 : Int32)
set_option maxRecDepth 20000 in
theorem c_X2_nearestDistance {I : Nat → Nat → Int32} {J : Nat → Nat → Int64} {w : Nat → Nat} {n : Nat} (hn : 121 ≤ n) (hn1 : n ≤ 200) {p : Nat} (hp : qc_sc n p) {a : Int32} {q0 : Int32} (hP : P_X2_nearestDistance I p a = some q0) : ∀ l, qc_M l yX2_nearestDistance cX2_nearestDistance 6 (some .int) 1 24 0 0 [.ref 22, .ref p, .int a] (I, J, (rX w, kX, nX, n)) (some (.int q0)) (I, J, (rX w, kX, nX, n)) := by
  intro l
  refine qc_ent2 (by decide) (Nat.le_of_ble_eq_true rfl) ?_
  intro F hn0 cx hz
  have cx : qc_X F cX2_nearestDistance RX2 "nearestDistance" 1 0 0 24 := cx
  have L60 : ∀ (k6 : Int32 → Int32 → Int32 → Option (Int32)) (g6 : ∀ (a2 : Int32) (a3 : Int32) (a4 : Int32), k6 a2 a3 a4 = some q0 → qc_J F 0 0 6 [some (.ref 22), some (.ref p), some (.int a2), some (.int a3), some (.int a4), none] [] (I, J, (rX w, kX, nX, n))) (a2 : Int32) (a3 : Int32) (a4 : Int32), P_X2_nearestDistance_60 I p k6 a2 a3 a4 = some q0 → qc_J F 0 0 60 [some (.ref 22), some (.ref p), some (.int a2), some (.int a3), some (.int a4), none] [] (I, J, (rX w, kX, nX, n)) := by
    intro k6 g6 a2 a3 a4 hP
    unfold P_X2_nearestDistance_60 at hP
    obtain ⟨x1, ex1, hP⟩ := qc_letE hP
    refine qj_iinc (v := x1) (ls1 := [some (.ref 22), some (.ref p), some (.int a2), some (.int a3), some (.int x1), none]) cx dX2_nearestDistance_60 rfl (by rw [ex1]; rfl) rfl rfl ?_
    refine qj_goto (tgt := 6) cx dX2_nearestDistance_63 (by decide) ?_
    exact g6 a2 a3 x1 hP
  have L57 : ∀ (k6 : Int32 → Int32 → Int32 → Option (Int32)) (g6 : ∀ (a2 : Int32) (a3 : Int32) (a4 : Int32), k6 a2 a3 a4 = some q0 → qc_J F 0 0 6 [some (.ref 22), some (.ref p), some (.int a2), some (.int a3), some (.int a4), none] [] (I, J, (rX w, kX, nX, n))) (a2 : Int32) (a4 : Int32) (a5 : Int32), P_X2_nearestDistance_57 I p k6 a2 a4 a5 = some q0 → qc_J F 0 0 57 [some (.ref 22), some (.ref p), some (.int a2), none, some (.int a4), some (.int a5)] [] (I, J, (rX w, kX, nX, n)) := by
    intro k6 g6 a2 a4 a5 hP
    unfold P_X2_nearestDistance_57 at hP
    refine qj_iload cx dX2_nearestDistance_57 rfl ?_
    refine qj_istore_n (ls1 := [some (.ref 22), some (.ref p), some (.int a2), some (.int a5), some (.int a4), some (.int a5)]) cx dX2_nearestDistance_59 rfl rfl rfl rfl ?_
    refine qw_sub (ls1 := [some (.ref 22), some (.ref p), some (.int a2), some (.int a5), some (.int a4), none]) rfl (qc_sb_ok ⟨rfl, rfl, rfl, rfl, rfl, trivial⟩) ?_
    exact L60 k6 g6 a2 a5 a4 hP
  have L6 : ∀  (f : Nat) (a2 : Int32) (a3 : Int32) (a4 : Int32), P_X2_nearestDistance_6 I p f a2 a3 a4 = some q0 → qc_J F 0 0 6 [some (.ref 22), some (.ref p), some (.int a2), some (.int a3), some (.int a4), none] [] (I, J, (rX w, kX, nX, n)) := by
    intro  f
    induction f with
    | zero => intro a2 a3 a4 hP; cases hP
    | succ f ih =>
      intro a2 a3 a4 hP
      rw [P_X2_nearestDistance_6] at hP
      refine qj_iload cx dX2_nearestDistance_6 rfl ?_
      refine qj_aload_n cx dX2_nearestDistance_8 rfl rfl ?_
      refine qw_getI (j := 1) cx dX2_nearestDistance_9 qc_cl2 rfl (Nat.lt_of_lt_of_le (by decide) hn) rfl ww_254 ?_
      refine qj_icmp_ge (tgt := 66) cx dX2_nearestDistance_12 (by decide) (fun c2 => ?_) (fun c2 => ?_)
      · have hP := qc_ifT hP c2
        refine qj_iload_n cx dX2_nearestDistance_66 rfl rfl ?_
        exact qw_iret cx hz dX2_nearestDistance_67 (Nat.zero_le _) (Nat.zero_le _) (Option.some.inj hP) rfl rfl
      · have hP := qc_ifF hP c2
        refine qj_aload_n cx dX2_nearestDistance_15 rfl rfl ?_
        refine qj_aload_n cx dX2_nearestDistance_16 rfl rfl ?_
        refine qj_iload cx dX2_nearestDistance_17 rfl ?_
        refine qj_iload_n cx dX2_nearestDistance_19 rfl rfl ?_
        obtain ⟨q3, eq3, hP⟩ := Option.bind_eq_some_iff.mp hP
        refine qj_callV (As := [.ref p, .int a4, .int a2]) (st := []) (t := 22) (h' := (I, J, (rX w, kX, nX, n))) (r := some (.int q3)) cx dX2_nearestDistance_20 (c_X2_mayStrike (I := I) (J := J) (w := w) hn hn1 hp eq3) gc_RX2_108 qm_X2_mayStrike rfl rfl qc_cl2 rfl (Nat.lt_of_lt_of_le (by decide) hn) (by decide) (by decide) rfl (Nat.le_of_ble_eq_true rfl) (Nat.le_trans hn1 (by decide)) hn0 rfl ?_
        refine qj_if_eq (tgt := 60) cx dX2_nearestDistance_23 (by decide) (fun c4 => ?_) (fun c4 => ?_)
        · have hP := qc_ifT hP c4
          exact L60 (P_X2_nearestDistance_6 I p f) ih a2 a3 a4 hP
        · have hP := qc_ifF hP c4
          refine qj_aload_n cx dX2_nearestDistance_26 rfl rfl ?_
          refine qw_getR (j := 0) (t1 := 23) cx dX2_nearestDistance_27 qc_cl2 rfl (Nat.lt_of_lt_of_le (by decide) hn) rfl ww_252 rfl ?_
          refine qj_iconst (v := (4 : Int32)) cx dX2_nearestDistance_30 (by decide) ?_
          refine qw_aald (n1 := 8) (t1 := 28) cx dX2_nearestDistance_31 rfl (Or.inr ⟨rfl, rfl⟩) (Nat.lt_of_lt_of_le (by decide) hn) rfl (by decide) rfl ?_
          refine qj_iload cx dX2_nearestDistance_32 rfl ?_
          obtain ⟨c5, hP⟩ := qc_ck hP
          refine qw_iald (n1 := 700) cx dX2_nearestDistance_34 rfl (Nat.lt_of_lt_of_le (by decide) hn) rfl c5 ?_
          refine qj_aload_n cx dX2_nearestDistance_35 rfl rfl ?_
          refine qw_getR (j := 13) (t1 := (p + 1 + 6)) cx dX2_nearestDistance_36 qc_cl4 hp.2.1 (qc_ltp0 hp.1) rfl ww_197 ((hp.2.2 6 (by decide)).2.2 _) ?_
          refine qj_iload_n cx dX2_nearestDistance_39 rfl rfl ?_
          obtain ⟨c6, hP⟩ := qc_ck hP
          refine qw_iald (n1 := 8) cx dX2_nearestDistance_40 (hp.2.2 6 (by decide)).1 (qc_ltp hp.1 (by decide)) (hp.2.2 6 (by decide)).2.1 c6 ?_
          refine qj_isub cx dX2_nearestDistance_41 ?_
          refine qj_abs (y := 0) cx dX2_nearestDistance_42 ww_668 ww_619 ww_125 ww_620 (by decide) (Nat.le_of_ble_eq_true rfl) (Nat.zero_le _) (Nat.zero_le _) ?_
          obtain ⟨x7, ex7, hP⟩ := qc_letE hP
          refine qw_top ex7 ?_
          refine qj_istore (ls1 := [some (.ref 22), some (.ref p), some (.int a2), some (.int a3), some (.int a4), some (.int x7)]) cx dX2_nearestDistance_45 rfl rfl rfl ?_
          refine qj_iload_n cx dX2_nearestDistance_47 rfl rfl ?_
          refine qj_if_lt (tgt := 57) cx dX2_nearestDistance_48 (by decide) (fun c8 => ?_) (fun c8 => ?_)
          · have hP := qc_ifT hP c8
            refine qw_sub (ls1 := [some (.ref 22), some (.ref p), some (.int a2), none, some (.int a4), some (.int x7)]) rfl (qc_sb_ok ⟨rfl, rfl, rfl, rfl, rfl, trivial⟩) ?_
            exact L57 (P_X2_nearestDistance_6 I p f) ih a2 a4 x7 hP
          · have hP := qc_ifF hP c8
            refine qj_iload cx dX2_nearestDistance_51 rfl ?_
            refine qj_iload_n cx dX2_nearestDistance_53 rfl rfl ?_
            refine qj_icmp_ge (tgt := 60) cx dX2_nearestDistance_54 (by decide) (fun c9 => ?_) (fun c9 => ?_)
            · have hP := qc_ifT hP c9
              refine qw_sub (ls1 := [some (.ref 22), some (.ref p), some (.int a2), some (.int a3), some (.int a4), none]) rfl (qc_sb_ok ⟨rfl, rfl, rfl, rfl, rfl, trivial⟩) ?_
              exact L60 (P_X2_nearestDistance_6 I p f) ih a2 a3 a4 hP
            · have hP := qc_ifF hP c9
              refine qw_sub (ls1 := [some (.ref 22), some (.ref p), some (.int a2), none, some (.int a4), some (.int x7)]) rfl (qc_sb_ok ⟨rfl, rfl, rfl, rfl, rfl, trivial⟩) ?_
              exact L57 (P_X2_nearestDistance_6 I p f) ih a2 a4 x7 hP
  show qc_J F 0 0 0 [some (.ref 22), some (.ref p), some (.int a), none, none, none] [] (I, J, (rX w, kX, nX, n))
  unfold P_X2_nearestDistance at hP
  refine qj_bipush (v := (-2 : Int32)) cx dX2_nearestDistance_0 (by decide) ?_
  refine qj_istore_n (ls1 := [some (.ref 22), some (.ref p), some (.int a), some (.int (-2 : Int32)), none, none]) cx dX2_nearestDistance_2 rfl rfl rfl rfl ?_
  refine qj_iconst (v := (0 : Int32)) cx dX2_nearestDistance_3 (by decide) ?_
  refine qj_istore (ls1 := [some (.ref 22), some (.ref p), some (.int a), some (.int (-2 : Int32)), some (.int (0 : Int32)), none]) cx dX2_nearestDistance_4 rfl rfl rfl ?_
  exact L6 qc_fu a (-2 : Int32) (0 : Int32) hP
def P_X3_fail (I : Nat → Nat → Int32) (a : Int32) : Option ((Nat → Nat → Int32)) :=
  if I 121 7 = 0 then
  qc_let (qc_u2 I 121 7 a) fun I2 =>
  qc_let (qc_u2 I2 121 8 (I2 121 5)) fun I3 =>
  some I3
  else
  some I
set_option maxRecDepth 20000 in
theorem c_X3_fail {I : Nat → Nat → Int32} {J : Nat → Nat → Int64} {w : Nat → Nat} {n : Nat} (hn : 121 ≤ n) (hn1 : n ≤ 200) (hn2 : 132 ≤ n) {a : Int32} {q0 : (Nat → Nat → Int32)} (hP : P_X3_fail I a = some q0) : ∀ l, qc_M l yX3_fail cX3_fail 2 none 0 0 0 0 [.ref 121, .int a] (I, J, (rX w, kX, nX, n)) none (q0, J, (rX w, kX, nX, n)) := by
  intro l
  refine qc_ent2 (by decide) (Nat.le_of_ble_eq_true rfl) ?_
  intro F hn0 cx hz
  have cx : qc_X F cX3_fail RX3 "fail" 0 0 0 0 := cx
  show qc_J F 0 0 0 [some (.ref 121), some (.int a)] [] (I, J, (rX w, kX, nX, n))
  unfold P_X3_fail at hP
  refine qj_aload_n cx dX3_fail_0 rfl rfl ?_
  refine qw_getI (j := 7) cx dX3_fail_1 qc_cl3 rfl (Nat.lt_of_lt_of_le (by decide) hn2) rfl ww_392 ?_
  refine qj_if_ne (tgt := 20) cx dX3_fail_4 (by decide) (fun c1 => ?_) (fun c1 => ?_)
  · have hP := qc_ifF hP c1
    exact qw_vret cx hz dX3_fail_20 (Nat.zero_le _) (Nat.zero_le _) (Option.some.inj hP) rfl
  · have hP := qc_ifT hP c1
    refine qj_aload_n cx dX3_fail_7 rfl rfl ?_
    refine qj_iload_n cx dX3_fail_8 rfl rfl ?_
    obtain ⟨I2, eI2, hP⟩ := qc_letE hP
    refine qw_putI (j := 7) cx dX3_fail_9 qc_cl3 rfl (Nat.lt_of_lt_of_le (by decide) hn2) rfl ww_392 rfl rfl rfl eI2 ?_
    refine qj_aload_n cx dX3_fail_12 rfl rfl ?_
    refine qj_aload_n cx dX3_fail_13 rfl rfl ?_
    refine qw_getI (j := 5) cx dX3_fail_14 qc_cl3 rfl (Nat.lt_of_lt_of_le (by decide) hn2) rfl ww_390 ?_
    obtain ⟨I3, eI3, hP⟩ := qc_letE hP
    refine qw_putI (j := 8) cx dX3_fail_17 qc_cl3 rfl (Nat.lt_of_lt_of_le (by decide) hn2) rfl ww_394 rfl rfl rfl eI3 ?_
    exact qw_vret cx hz dX3_fail_20 (Nat.zero_le _) (Nat.zero_le _) (Option.some.inj hP) rfl
def P_X3_tellOnce (I : Nat → Nat → Int32) (a : Int32) : Option ((Nat → Nat → Int32)) :=
  if (I 121 11) &&& a = 0 then
  qc_let (qc_u2 I 121 11 ((I 121 11) ||| a)) fun I2 =>
  some I2
  else
  (P_X3_fail I (3 : Int32)).bind fun q3 =>
  qc_let (qc_u2 q3 121 11 ((q3 121 11) ||| a)) fun I4 =>
  some I4
set_option maxRecDepth 20000 in
theorem c_X3_tellOnce {I : Nat → Nat → Int32} {J : Nat → Nat → Int64} {w : Nat → Nat} {n : Nat} (hn : 121 ≤ n) (hn1 : n ≤ 200) (hn2 : 132 ≤ n) {a : Int32} {q0 : (Nat → Nat → Int32)} (hP : P_X3_tellOnce I a = some q0) : ∀ l, qc_M l yX3_tellOnce cX3_tellOnce 2 none 1 21 0 0 [.ref 121, .int a] (I, J, (rX w, kX, nX, n)) none (q0, J, (rX w, kX, nX, n)) := by
  intro l
  refine qc_ent2 (by decide) (Nat.le_of_ble_eq_true rfl) ?_
  intro F hn0 cx hz
  have cx : qc_X F cX3_tellOnce RX3 "tellOnce" 1 0 0 21 := cx
  show qc_J F 0 0 0 [some (.ref 121), some (.int a)] [] (I, J, (rX w, kX, nX, n))
  unfold P_X3_tellOnce at hP
  refine qj_aload_n cx dX3_tellOnce_0 rfl rfl ?_
  refine qw_getI (j := 11) cx dX3_tellOnce_1 qc_cl3 rfl (Nat.lt_of_lt_of_le (by decide) hn2) rfl ww_399 ?_
  refine qj_iload_n cx dX3_tellOnce_4 rfl rfl ?_
  refine qj_iand cx dX3_tellOnce_5 ?_
  refine qj_if_eq (tgt := 14) cx dX3_tellOnce_6 (by decide) (fun c1 => ?_) (fun c1 => ?_)
  · have hP := qc_ifT hP c1
    refine qj_aload_n cx dX3_tellOnce_14 rfl rfl ?_
    refine qj_dup cx dX3_tellOnce_15 rfl ?_
    refine qw_getI (j := 11) cx dX3_tellOnce_16 qc_cl3 rfl (Nat.lt_of_lt_of_le (by decide) hn2) rfl ww_399 ?_
    refine qj_iload_n cx dX3_tellOnce_19 rfl rfl ?_
    refine qj_ior cx dX3_tellOnce_20 ?_
    obtain ⟨I2, eI2, hP⟩ := qc_letE hP
    refine qw_putI (j := 11) cx dX3_tellOnce_21 qc_cl3 rfl (Nat.lt_of_lt_of_le (by decide) hn2) rfl ww_399 rfl rfl rfl eI2 ?_
    exact qw_vret cx hz dX3_tellOnce_24 (Nat.zero_le _) (Nat.zero_le _) (Option.some.inj hP) rfl
  · have hP := qc_ifF hP c1
    refine qj_aload_n cx dX3_tellOnce_9 rfl rfl ?_
    refine qj_iconst (v := (3 : Int32)) cx dX3_tellOnce_10 (by decide) ?_
    obtain ⟨q3, eq3, hP⟩ := Option.bind_eq_some_iff.mp hP
    refine qj_callV (As := [.int (3 : Int32)]) (st := []) (t := 121) (h' := (q3, J, (rX w, kX, nX, n))) (r := none) cx dX3_tellOnce_11 (c_X3_fail (I := I) (J := J) (w := w) hn hn1 hn2 eq3) gc_RX3_110 qm_X3_fail rfl rfl qc_cl3 rfl (Nat.lt_of_lt_of_le (by decide) hn2) (by decide) (by decide) rfl (Nat.le_of_ble_eq_true rfl) (Nat.le_trans hn1 (by decide)) hn0 rfl ?_
    refine qj_aload_n cx dX3_tellOnce_14 rfl rfl ?_
    refine qj_dup cx dX3_tellOnce_15 rfl ?_
    refine qw_getI (j := 11) cx dX3_tellOnce_16 qc_cl3 rfl (Nat.lt_of_lt_of_le (by decide) hn2) rfl ww_399 ?_
    refine qj_iload_n cx dX3_tellOnce_19 rfl rfl ?_
    refine qj_ior cx dX3_tellOnce_20 ?_
    obtain ⟨I4, eI4, hP⟩ := qc_letE hP
    refine qw_putI (j := 11) cx dX3_tellOnce_21 qc_cl3 rfl (Nat.lt_of_lt_of_le (by decide) hn2) rfl ww_399 rfl rfl rfl eI4 ?_
    exact qw_vret cx hz dX3_tellOnce_24 (Nat.zero_le _) (Nat.zero_le _) (Option.some.inj hP) rfl
def P_X3_isOfLanguage (a : Int32) : Option (Int32) :=
  if a = (68620288 : Int32) then
  some (1 : Int32)
  else if a = (80186720 : Int32) then
  some (1 : Int32)
  else if a = (211555456 : Int32) then
  some (1 : Int32)
  else if a = (256952448 : Int32) then
  some (1 : Int32)
  else if a = (412560384 : Int32) then
  some (1 : Int32)
  else if a = (419023872 : Int32) then
  some (1 : Int32)
  else if a = (522327635 : Int32) then
  some (1 : Int32)
  else if a = (642945024 : Int32) then
  some (1 : Int32)
  else if a = (650629728 : Int32) then
  some (1 : Int32)
  else if a = (654347424 : Int32) then
  some (1 : Int32)
  else if a = (724748288 : Int32) then
  some (1 : Int32)
  else 
  some (0 : Int32)
set_option maxRecDepth 20000 in
theorem c_X3_isOfLanguage {I : Nat → Nat → Int32} {J : Nat → Nat → Int64} {S : qc_Sh} {a : Int32} {q0 : Int32} (hP : P_X3_isOfLanguage a = some q0) : ∀ l, qc_M l yX3_isOfLanguage cX3_isOfLanguage 1 (some .boolean) 0 0 0 0 [.int a] (I, J, S) (some (.int q0)) (I, J, S) := by
  intro l
  refine qc_ent2 (by decide) (Nat.le_of_ble_eq_true rfl) ?_
  intro F hn0 cx hz
  have cx : qc_X F cX3_isOfLanguage RX3 "isOfLanguage" 0 0 0 0 := cx
  show qc_J F 0 0 0 [some (.int a)] [] (I, J, S)
  unfold P_X3_isOfLanguage at hP
  refine qj_iload_n cx dX3_isOfLanguage_0 rfl rfl ?_
  by_cases c1 : a = (68620288 : Int32)
  · have hP := qc_ifT hP c1
    refine qj_lookup (off := 99) (tgt := 100) cx dX3_isOfLanguage_1 (by decide) (by rw [c1]; decide) (by decide) ?_
    refine qj_iconst (v := (1 : Int32)) cx dX3_isOfLanguage_100 (by decide) ?_
    exact qw_zret cx hz dX3_isOfLanguage_101 (by decide) (Nat.zero_le _) (Nat.zero_le _) (Option.some.inj hP) rfl rfl
  have hP := qc_ifF hP c1
  by_cases c2 : a = (80186720 : Int32)
  · have hP := qc_ifT hP c2
    refine qj_lookup (off := 99) (tgt := 100) cx dX3_isOfLanguage_1 (by decide) (by rw [c2]; decide) (by decide) ?_
    refine qj_iconst (v := (1 : Int32)) cx dX3_isOfLanguage_100 (by decide) ?_
    exact qw_zret cx hz dX3_isOfLanguage_101 (by decide) (Nat.zero_le _) (Nat.zero_le _) (Option.some.inj hP) rfl rfl
  have hP := qc_ifF hP c2
  by_cases c3 : a = (211555456 : Int32)
  · have hP := qc_ifT hP c3
    refine qj_lookup (off := 99) (tgt := 100) cx dX3_isOfLanguage_1 (by decide) (by rw [c3]; decide) (by decide) ?_
    refine qj_iconst (v := (1 : Int32)) cx dX3_isOfLanguage_100 (by decide) ?_
    exact qw_zret cx hz dX3_isOfLanguage_101 (by decide) (Nat.zero_le _) (Nat.zero_le _) (Option.some.inj hP) rfl rfl
  have hP := qc_ifF hP c3
  by_cases c4 : a = (256952448 : Int32)
  · have hP := qc_ifT hP c4
    refine qj_lookup (off := 99) (tgt := 100) cx dX3_isOfLanguage_1 (by decide) (by rw [c4]; decide) (by decide) ?_
    refine qj_iconst (v := (1 : Int32)) cx dX3_isOfLanguage_100 (by decide) ?_
    exact qw_zret cx hz dX3_isOfLanguage_101 (by decide) (Nat.zero_le _) (Nat.zero_le _) (Option.some.inj hP) rfl rfl
  have hP := qc_ifF hP c4
  by_cases c5 : a = (412560384 : Int32)
  · have hP := qc_ifT hP c5
    refine qj_lookup (off := 99) (tgt := 100) cx dX3_isOfLanguage_1 (by decide) (by rw [c5]; decide) (by decide) ?_
    refine qj_iconst (v := (1 : Int32)) cx dX3_isOfLanguage_100 (by decide) ?_
    exact qw_zret cx hz dX3_isOfLanguage_101 (by decide) (Nat.zero_le _) (Nat.zero_le _) (Option.some.inj hP) rfl rfl
  have hP := qc_ifF hP c5
  by_cases c6 : a = (419023872 : Int32)
  · have hP := qc_ifT hP c6
    refine qj_lookup (off := 99) (tgt := 100) cx dX3_isOfLanguage_1 (by decide) (by rw [c6]; decide) (by decide) ?_
    refine qj_iconst (v := (1 : Int32)) cx dX3_isOfLanguage_100 (by decide) ?_
    exact qw_zret cx hz dX3_isOfLanguage_101 (by decide) (Nat.zero_le _) (Nat.zero_le _) (Option.some.inj hP) rfl rfl
  have hP := qc_ifF hP c6
  by_cases c7 : a = (522327635 : Int32)
  · have hP := qc_ifT hP c7
    refine qj_lookup (off := 99) (tgt := 100) cx dX3_isOfLanguage_1 (by decide) (by rw [c7]; decide) (by decide) ?_
    refine qj_iconst (v := (1 : Int32)) cx dX3_isOfLanguage_100 (by decide) ?_
    exact qw_zret cx hz dX3_isOfLanguage_101 (by decide) (Nat.zero_le _) (Nat.zero_le _) (Option.some.inj hP) rfl rfl
  have hP := qc_ifF hP c7
  by_cases c8 : a = (642945024 : Int32)
  · have hP := qc_ifT hP c8
    refine qj_lookup (off := 99) (tgt := 100) cx dX3_isOfLanguage_1 (by decide) (by rw [c8]; decide) (by decide) ?_
    refine qj_iconst (v := (1 : Int32)) cx dX3_isOfLanguage_100 (by decide) ?_
    exact qw_zret cx hz dX3_isOfLanguage_101 (by decide) (Nat.zero_le _) (Nat.zero_le _) (Option.some.inj hP) rfl rfl
  have hP := qc_ifF hP c8
  by_cases c9 : a = (650629728 : Int32)
  · have hP := qc_ifT hP c9
    refine qj_lookup (off := 99) (tgt := 100) cx dX3_isOfLanguage_1 (by decide) (by rw [c9]; decide) (by decide) ?_
    refine qj_iconst (v := (1 : Int32)) cx dX3_isOfLanguage_100 (by decide) ?_
    exact qw_zret cx hz dX3_isOfLanguage_101 (by decide) (Nat.zero_le _) (Nat.zero_le _) (Option.some.inj hP) rfl rfl
  have hP := qc_ifF hP c9
  by_cases c10 : a = (654347424 : Int32)
  · have hP := qc_ifT hP c10
    refine qj_lookup (off := 99) (tgt := 100) cx dX3_isOfLanguage_1 (by decide) (by rw [c10]; decide) (by decide) ?_
    refine qj_iconst (v := (1 : Int32)) cx dX3_isOfLanguage_100 (by decide) ?_
    exact qw_zret cx hz dX3_isOfLanguage_101 (by decide) (Nat.zero_le _) (Nat.zero_le _) (Option.some.inj hP) rfl rfl
  have hP := qc_ifF hP c10
  by_cases c11 : a = (724748288 : Int32)
  · have hP := qc_ifT hP c11
    refine qj_lookup (off := 99) (tgt := 100) cx dX3_isOfLanguage_1 (by decide) (by rw [c11]; decide) (by decide) ?_
    refine qj_iconst (v := (1 : Int32)) cx dX3_isOfLanguage_100 (by decide) ?_
    exact qw_zret cx hz dX3_isOfLanguage_101 (by decide) (Nat.zero_le _) (Nat.zero_le _) (Option.some.inj hP) rfl rfl
  have hP := qc_ifF hP c11
  refine qj_lookup (off := 101) (tgt := 102) cx dX3_isOfLanguage_1 (by decide) (by rw [lv_osw c1 (by decide)]; rw [lv_osw c2 (by decide)]; rw [lv_osw c3 (by decide)]; rw [lv_osw c4 (by decide)]; rw [lv_osw c5 (by decide)]; rw [lv_osw c6 (by decide)]; rw [lv_osw c7 (by decide)]; rw [lv_osw c8 (by decide)]; rw [lv_osw c9 (by decide)]; rw [lv_osw c10 (by decide)]; rw [lv_osw c11 (by decide)]; rfl) (by decide) ?_
  refine qj_iconst (v := (0 : Int32)) cx dX3_isOfLanguage_102 (by decide) ?_
  exact qw_zret cx hz dX3_isOfLanguage_103 (by decide) (Nat.zero_le _) (Nat.zero_le _) (Option.some.inj hP) rfl rfl
def P_X3_readLetters_91  (I : (Nat → Nat → Int32)) (a1 : Int32) : Option ((Nat → Nat → Int32)) :=
  (if (6 : Int32) < a1 then
  some (4 : Int32)
  else
  some (1 : Int32)).bind fun v2 =>
  qc_let (qc_u2 I 121 4 v2) fun I3 =>
  some I3
def P_X3_readLetters_75 (k2 : (Nat → Nat → Int32) → Int32 → Option ((Nat → Nat → Int32))) (I : (Nat → Nat → Int32)) (a1 : Int32) : Option ((Nat → Nat → Int32)) :=
  qc_let (a1 + (1 : Int32)) fun x4 =>
  qc_let (qc_u2 I 121 3 ((I 121 3) + (1 : Int32))) fun I5 =>
  k2 I5 x4
def P_X3_readLetters_2  : Nat → (Nat → Nat → Int32) → Int32 → Option ((Nat → Nat → Int32))
  | 0, _, _ => none
  | f + 1, I, a1 =>
  if I 121 1 ≤ I 121 3 then
  P_X3_readLetters_91 I a1
  else
  if qc_in (I 121 3) 700 then
  if I 1 (I 121 3).toNatClampNeg < (97 : Int32) then
  P_X3_readLetters_91 I a1
  else
  if qc_in (I 121 3) 700 then
  if (122 : Int32) < I 1 (I 121 3).toNatClampNeg then
  P_X3_readLetters_91 I a1
  else
  if (6 : Int32) ≤ a1 then
  P_X3_readLetters_75 (P_X3_readLetters_2 f) I a1
  else
  if qc_in (I 121 3) 700 then
  qc_let (qc_u2 I 121 6 ((I 121 6) ||| (((I 1 (I 121 3).toNatClampNeg) - (96 : Int32)) <<< (((25 : Int32) - ((5 : Int32) * a1)) &&& 31)))) fun I13 =>
  P_X3_readLetters_75 (P_X3_readLetters_2 f) I13 a1
  else none
  else none
  else none
def P_X3_readLetters (I : Nat → Nat → Int32) : Option ((Nat → Nat → Int32)) :=
  P_X3_readLetters_2 qc_fu I (0 : Int32)
set_option maxRecDepth 20000 in
theorem c_X3_readLetters {I : Nat → Nat → Int32} {J : Nat → Nat → Int64} {w : Nat → Nat} {n : Nat} (hn : 121 ≤ n) (hn1 : n ≤ 200) (hn2 : 132 ≤ n)  {q0 : (Nat → Nat → Int32)} (hP : P_X3_readLetters I = some q0) : ∀ l, qc_M l yX3_readLetters cX3_readLetters 2 none 0 0 0 0 [.ref 121] (I, J, (rX w, kX, nX, n)) none (q0, J, (rX w, kX, nX, n)) := by
  intro l
  refine qc_ent2 (by decide) (Nat.le_of_ble_eq_true rfl) ?_
  intro F hn0 cx hz
  have cx : qc_X F cX3_readLetters RX3 "readLetters" 0 0 0 0 := cx
  have L91 : ∀  (I : (Nat → Nat → Int32)) (a1 : Int32), P_X3_readLetters_91 I a1 = some q0 → qc_J F 0 0 91 [some (.ref 121), some (.int a1)] [] (I, J, (rX w, kX, nX, n)) := by
    intro I a1 hP
    unfold P_X3_readLetters_91 at hP
    refine qj_aload_n cx dX3_readLetters_91 rfl rfl ?_
    refine qj_iload_n cx dX3_readLetters_92 rfl rfl ?_
    refine qj_bipush (v := (6 : Int32)) cx dX3_readLetters_93 (by decide) ?_
    obtain ⟨v2, hv2, hP⟩ := Option.bind_eq_some_iff.mp hP
    have Kv2 : qc_J F 0 0 103 [some (.ref 121), some (.int a1)] [.int v2, .ref 121] (I, J, (rX w, kX, nX, n)) := by
      obtain ⟨I3, eI3, hP⟩ := qc_letE hP
      refine qw_putI (j := 4) cx dX3_readLetters_103 qc_cl3 rfl (Nat.lt_of_lt_of_le (by decide) hn2) rfl ww_389 rfl rfl rfl eI3 ?_
      exact qw_vret cx hz dX3_readLetters_106 (Nat.zero_le _) (Nat.zero_le _) (Option.some.inj hP) rfl
    refine qj_icmp_gt (tgt := 102) cx dX3_readLetters_95 (by decide) (fun c1 => ?_) (fun c1 => ?_)
    · have hv2 := qc_ifT hv2 c1
      refine qj_iconst (v := (4 : Int32)) cx dX3_readLetters_102 (by decide) ?_
      exact qw_top (Option.some.inj hv2).symm Kv2
    · have hv2 := qc_ifF hv2 c1
      refine qj_iconst (v := (1 : Int32)) cx dX3_readLetters_98 (by decide) ?_
      refine qj_goto (tgt := 103) cx dX3_readLetters_99 (by decide) ?_
      exact qw_top (Option.some.inj hv2).symm Kv2
  have L75 : ∀ (k2 : (Nat → Nat → Int32) → Int32 → Option ((Nat → Nat → Int32))) (g2 : ∀ (I : Nat → Nat → Int32) (a1 : Int32), k2 I a1 = some q0 → qc_J F 0 0 2 [some (.ref 121), some (.int a1)] [] (I, J, (rX w, kX, nX, n))) (I : (Nat → Nat → Int32)) (a1 : Int32), P_X3_readLetters_75 k2 I a1 = some q0 → qc_J F 0 0 75 [some (.ref 121), some (.int a1)] [] (I, J, (rX w, kX, nX, n)) := by
    intro k2 g2 I a1 hP
    unfold P_X3_readLetters_75 at hP
    obtain ⟨x4, ex4, hP⟩ := qc_letE hP
    refine qj_iinc (v := x4) (ls1 := [some (.ref 121), some (.int x4)]) cx dX3_readLetters_75 rfl (by rw [ex4]; rfl) rfl rfl ?_
    refine qj_aload_n cx dX3_readLetters_78 rfl rfl ?_
    refine qj_dup cx dX3_readLetters_79 rfl ?_
    refine qw_getI (j := 3) cx dX3_readLetters_80 qc_cl3 rfl (Nat.lt_of_lt_of_le (by decide) hn2) rfl ww_388 ?_
    refine qj_iconst (v := (1 : Int32)) cx dX3_readLetters_83 (by decide) ?_
    refine qj_iadd cx dX3_readLetters_84 ?_
    obtain ⟨I5, eI5, hP⟩ := qc_letE hP
    refine qw_putI (j := 3) cx dX3_readLetters_85 qc_cl3 rfl (Nat.lt_of_lt_of_le (by decide) hn2) rfl ww_388 rfl rfl rfl eI5 ?_
    refine qj_goto (tgt := 2) cx dX3_readLetters_88 (by decide) ?_
    exact g2 I5 x4 hP
  have L2 : ∀  (f : Nat) (I : (Nat → Nat → Int32)) (a1 : Int32), P_X3_readLetters_2 f I a1 = some q0 → qc_J F 0 0 2 [some (.ref 121), some (.int a1)] [] (I, J, (rX w, kX, nX, n)) := by
    intro  f
    induction f with
    | zero => intro I a1 hP; cases hP
    | succ f ih =>
      intro I a1 hP
      rw [P_X3_readLetters_2] at hP
      refine qj_aload_n cx dX3_readLetters_2 rfl rfl ?_
      refine qw_getI (j := 3) cx dX3_readLetters_3 qc_cl3 rfl (Nat.lt_of_lt_of_le (by decide) hn2) rfl ww_388 ?_
      refine qj_aload_n cx dX3_readLetters_6 rfl rfl ?_
      refine qw_getI (j := 1) cx dX3_readLetters_7 qc_cl3 rfl (Nat.lt_of_lt_of_le (by decide) hn2) rfl ww_385 ?_
      refine qj_icmp_ge (tgt := 91) cx dX3_readLetters_10 (by decide) (fun c6 => ?_) (fun c6 => ?_)
      · have hP := qc_ifT hP c6
        exact L91 I a1 hP
      · have hP := qc_ifF hP c6
        refine qj_aload_n cx dX3_readLetters_13 rfl rfl ?_
        refine qw_getR (j := 0) (t1 := 1) cx dX3_readLetters_14 qc_cl3 rfl (Nat.lt_of_lt_of_le (by decide) hn2) rfl ww_384 rfl ?_
        refine qj_aload_n cx dX3_readLetters_17 rfl rfl ?_
        refine qw_getI (j := 3) cx dX3_readLetters_18 qc_cl3 rfl (Nat.lt_of_lt_of_le (by decide) hn2) rfl ww_388 ?_
        obtain ⟨c7, hP⟩ := qc_ck hP
        refine qw_iald (n1 := 700) cx dX3_readLetters_21 rfl (Nat.lt_of_lt_of_le (by decide) hn) rfl c7 ?_
        refine qj_bipush (v := (97 : Int32)) cx dX3_readLetters_22 (by decide) ?_
        refine qj_icmp_lt (tgt := 91) cx dX3_readLetters_24 (by decide) (fun c8 => ?_) (fun c8 => ?_)
        · have hP := qc_ifT hP c8
          exact L91 I a1 hP
        · have hP := qc_ifF hP c8
          refine qj_aload_n cx dX3_readLetters_27 rfl rfl ?_
          refine qw_getR (j := 0) (t1 := 1) cx dX3_readLetters_28 qc_cl3 rfl (Nat.lt_of_lt_of_le (by decide) hn2) rfl ww_384 rfl ?_
          refine qj_aload_n cx dX3_readLetters_31 rfl rfl ?_
          refine qw_getI (j := 3) cx dX3_readLetters_32 qc_cl3 rfl (Nat.lt_of_lt_of_le (by decide) hn2) rfl ww_388 ?_
          obtain ⟨c9, hP⟩ := qc_ck hP
          refine qw_iald (n1 := 700) cx dX3_readLetters_35 rfl (Nat.lt_of_lt_of_le (by decide) hn) rfl c9 ?_
          refine qj_bipush (v := (122 : Int32)) cx dX3_readLetters_36 (by decide) ?_
          refine qj_icmp_gt (tgt := 91) cx dX3_readLetters_38 (by decide) (fun c10 => ?_) (fun c10 => ?_)
          · have hP := qc_ifT hP c10
            exact L91 I a1 hP
          · have hP := qc_ifF hP c10
            refine qj_iload_n cx dX3_readLetters_41 rfl rfl ?_
            refine qj_bipush (v := (6 : Int32)) cx dX3_readLetters_42 (by decide) ?_
            refine qj_icmp_ge (tgt := 75) cx dX3_readLetters_44 (by decide) (fun c11 => ?_) (fun c11 => ?_)
            · have hP := qc_ifT hP c11
              exact L75 (P_X3_readLetters_2 f) ih I a1 hP
            · have hP := qc_ifF hP c11
              refine qj_aload_n cx dX3_readLetters_47 rfl rfl ?_
              refine qj_dup cx dX3_readLetters_48 rfl ?_
              refine qw_getI (j := 6) cx dX3_readLetters_49 qc_cl3 rfl (Nat.lt_of_lt_of_le (by decide) hn2) rfl ww_391 ?_
              refine qj_aload_n cx dX3_readLetters_52 rfl rfl ?_
              refine qw_getR (j := 0) (t1 := 1) cx dX3_readLetters_53 qc_cl3 rfl (Nat.lt_of_lt_of_le (by decide) hn2) rfl ww_384 rfl ?_
              refine qj_aload_n cx dX3_readLetters_56 rfl rfl ?_
              refine qw_getI (j := 3) cx dX3_readLetters_57 qc_cl3 rfl (Nat.lt_of_lt_of_le (by decide) hn2) rfl ww_388 ?_
              obtain ⟨c12, hP⟩ := qc_ck hP
              refine qw_iald (n1 := 700) cx dX3_readLetters_60 rfl (Nat.lt_of_lt_of_le (by decide) hn) rfl c12 ?_
              refine qj_bipush (v := (96 : Int32)) cx dX3_readLetters_61 (by decide) ?_
              refine qj_isub cx dX3_readLetters_63 ?_
              refine qj_bipush (v := (25 : Int32)) cx dX3_readLetters_64 (by decide) ?_
              refine qj_iconst (v := (5 : Int32)) cx dX3_readLetters_66 (by decide) ?_
              refine qj_iload_n cx dX3_readLetters_67 rfl rfl ?_
              refine qj_imul cx dX3_readLetters_68 ?_
              refine qj_isub cx dX3_readLetters_69 ?_
              refine qj_ishl cx dX3_readLetters_70 ?_
              refine qj_ior cx dX3_readLetters_71 ?_
              obtain ⟨I13, eI13, hP⟩ := qc_letE hP
              refine qw_putI (j := 6) cx dX3_readLetters_72 qc_cl3 rfl (Nat.lt_of_lt_of_le (by decide) hn2) rfl ww_391 rfl rfl rfl eI13 ?_
              exact L75 (P_X3_readLetters_2 f) ih I13 a1 hP
  show qc_J F 0 0 0 [some (.ref 121), none] [] (I, J, (rX w, kX, nX, n))
  unfold P_X3_readLetters at hP
  refine qj_iconst (v := (0 : Int32)) cx dX3_readLetters_0 (by decide) ?_
  refine qj_istore_n (ls1 := [some (.ref 121), some (.int (0 : Int32))]) cx dX3_readLetters_1 rfl rfl rfl rfl ?_
  exact L2 qc_fu I (0 : Int32) hP
def P_X3_readDigits_72 (k0 : (Nat → Nat → Int32) → Option ((Nat → Nat → Int32))) (I : (Nat → Nat → Int32)) : Option ((Nat → Nat → Int32)) :=
  qc_let (qc_u2 I 121 3 ((I 121 3) + (1 : Int32))) fun I1 =>
  k0 I1
def P_X3_readDigits_0  : Nat → (Nat → Nat → Int32) → Option ((Nat → Nat → Int32))
  | 0, _ => none
  | f + 1, I =>
  if I 121 1 ≤ I 121 3 then
  qc_let (qc_u2 I 121 4 (2 : Int32)) fun I3 =>
  some I3
  else
  if qc_in (I 121 3) 700 then
  if I 1 (I 121 3).toNatClampNeg < (48 : Int32) then
  qc_let (qc_u2 I 121 4 (2 : Int32)) fun I6 =>
  some I6
  else
  if qc_in (I 121 3) 700 then
  if (57 : Int32) < I 1 (I 121 3).toNatClampNeg then
  qc_let (qc_u2 I 121 4 (2 : Int32)) fun I9 =>
  some I9
  else
  if (1000000 : Int32) ≤ I 121 6 then
  P_X3_readDigits_72 (P_X3_readDigits_0 f) I
  else
  if qc_in (I 121 3) 700 then
  qc_let (qc_u2 I 121 6 (((I 121 6) * (10 : Int32)) + ((I 1 (I 121 3).toNatClampNeg) - (48 : Int32)))) fun I12 =>
  P_X3_readDigits_72 (P_X3_readDigits_0 f) I12
  else none
  else none
  else none
def P_X3_readDigits (I : Nat → Nat → Int32) : Option ((Nat → Nat → Int32)) :=
  P_X3_readDigits_0 qc_fu I
set_option maxRecDepth 20000 in
theorem c_X3_readDigits {I : Nat → Nat → Int32} {J : Nat → Nat → Int64} {w : Nat → Nat} {n : Nat} (hn : 121 ≤ n) (hn1 : n ≤ 200) (hn2 : 132 ≤ n)  {q0 : (Nat → Nat → Int32)} (hP : P_X3_readDigits I = some q0) : ∀ l, qc_M l yX3_readDigits cX3_readDigits 1 none 0 0 0 0 [.ref 121] (I, J, (rX w, kX, nX, n)) none (q0, J, (rX w, kX, nX, n)) := by
  intro l
  refine qc_ent2 (by decide) (Nat.le_of_ble_eq_true rfl) ?_
  intro F hn0 cx hz
  have cx : qc_X F cX3_readDigits RX3 "readDigits" 0 0 0 0 := cx
  have L72 : ∀ (k0 : (Nat → Nat → Int32) → Option ((Nat → Nat → Int32))) (g0 : ∀ (I : Nat → Nat → Int32), k0 I = some q0 → qc_J F 0 0 0 [some (.ref 121)] [] (I, J, (rX w, kX, nX, n))) (I : (Nat → Nat → Int32)), P_X3_readDigits_72 k0 I = some q0 → qc_J F 0 0 72 [some (.ref 121)] [] (I, J, (rX w, kX, nX, n)) := by
    intro k0 g0 I hP
    unfold P_X3_readDigits_72 at hP
    refine qj_aload_n cx dX3_readDigits_72 rfl rfl ?_
    refine qj_dup cx dX3_readDigits_73 rfl ?_
    refine qw_getI (j := 3) cx dX3_readDigits_74 qc_cl3 rfl (Nat.lt_of_lt_of_le (by decide) hn2) rfl ww_388 ?_
    refine qj_iconst (v := (1 : Int32)) cx dX3_readDigits_77 (by decide) ?_
    refine qj_iadd cx dX3_readDigits_78 ?_
    obtain ⟨I1, eI1, hP⟩ := qc_letE hP
    refine qw_putI (j := 3) cx dX3_readDigits_79 qc_cl3 rfl (Nat.lt_of_lt_of_le (by decide) hn2) rfl ww_388 rfl rfl rfl eI1 ?_
    refine qj_goto (tgt := 0) cx dX3_readDigits_82 (by decide) ?_
    exact g0 I1 hP
  have L0 : ∀  (f : Nat) (I : (Nat → Nat → Int32)), P_X3_readDigits_0 f I = some q0 → qc_J F 0 0 0 [some (.ref 121)] [] (I, J, (rX w, kX, nX, n)) := by
    intro  f
    induction f with
    | zero => intro I hP; cases hP
    | succ f ih =>
      intro I hP
      rw [P_X3_readDigits_0] at hP
      refine qj_aload_n cx dX3_readDigits_0 rfl rfl ?_
      refine qw_getI (j := 3) cx dX3_readDigits_1 qc_cl3 rfl (Nat.lt_of_lt_of_le (by decide) hn2) rfl ww_388 ?_
      refine qj_aload_n cx dX3_readDigits_4 rfl rfl ?_
      refine qw_getI (j := 1) cx dX3_readDigits_5 qc_cl3 rfl (Nat.lt_of_lt_of_le (by decide) hn2) rfl ww_385 ?_
      refine qj_icmp_ge (tgt := 85) cx dX3_readDigits_8 (by decide) (fun c2 => ?_) (fun c2 => ?_)
      · have hP := qc_ifT hP c2
        refine qj_aload_n cx dX3_readDigits_85 rfl rfl ?_
        refine qj_iconst (v := (2 : Int32)) cx dX3_readDigits_86 (by decide) ?_
        obtain ⟨I3, eI3, hP⟩ := qc_letE hP
        refine qw_putI (j := 4) cx dX3_readDigits_87 qc_cl3 rfl (Nat.lt_of_lt_of_le (by decide) hn2) rfl ww_389 rfl rfl rfl eI3 ?_
        exact qw_vret cx hz dX3_readDigits_90 (Nat.zero_le _) (Nat.zero_le _) (Option.some.inj hP) rfl
      · have hP := qc_ifF hP c2
        refine qj_aload_n cx dX3_readDigits_11 rfl rfl ?_
        refine qw_getR (j := 0) (t1 := 1) cx dX3_readDigits_12 qc_cl3 rfl (Nat.lt_of_lt_of_le (by decide) hn2) rfl ww_384 rfl ?_
        refine qj_aload_n cx dX3_readDigits_15 rfl rfl ?_
        refine qw_getI (j := 3) cx dX3_readDigits_16 qc_cl3 rfl (Nat.lt_of_lt_of_le (by decide) hn2) rfl ww_388 ?_
        obtain ⟨c4, hP⟩ := qc_ck hP
        refine qw_iald (n1 := 700) cx dX3_readDigits_19 rfl (Nat.lt_of_lt_of_le (by decide) hn) rfl c4 ?_
        refine qj_bipush (v := (48 : Int32)) cx dX3_readDigits_20 (by decide) ?_
        refine qj_icmp_lt (tgt := 85) cx dX3_readDigits_22 (by decide) (fun c5 => ?_) (fun c5 => ?_)
        · have hP := qc_ifT hP c5
          refine qj_aload_n cx dX3_readDigits_85 rfl rfl ?_
          refine qj_iconst (v := (2 : Int32)) cx dX3_readDigits_86 (by decide) ?_
          obtain ⟨I6, eI6, hP⟩ := qc_letE hP
          refine qw_putI (j := 4) cx dX3_readDigits_87 qc_cl3 rfl (Nat.lt_of_lt_of_le (by decide) hn2) rfl ww_389 rfl rfl rfl eI6 ?_
          exact qw_vret cx hz dX3_readDigits_90 (Nat.zero_le _) (Nat.zero_le _) (Option.some.inj hP) rfl
        · have hP := qc_ifF hP c5
          refine qj_aload_n cx dX3_readDigits_25 rfl rfl ?_
          refine qw_getR (j := 0) (t1 := 1) cx dX3_readDigits_26 qc_cl3 rfl (Nat.lt_of_lt_of_le (by decide) hn2) rfl ww_384 rfl ?_
          refine qj_aload_n cx dX3_readDigits_29 rfl rfl ?_
          refine qw_getI (j := 3) cx dX3_readDigits_30 qc_cl3 rfl (Nat.lt_of_lt_of_le (by decide) hn2) rfl ww_388 ?_
          obtain ⟨c7, hP⟩ := qc_ck hP
          refine qw_iald (n1 := 700) cx dX3_readDigits_33 rfl (Nat.lt_of_lt_of_le (by decide) hn) rfl c7 ?_
          refine qj_bipush (v := (57 : Int32)) cx dX3_readDigits_34 (by decide) ?_
          refine qj_icmp_gt (tgt := 85) cx dX3_readDigits_36 (by decide) (fun c8 => ?_) (fun c8 => ?_)
          · have hP := qc_ifT hP c8
            refine qj_aload_n cx dX3_readDigits_85 rfl rfl ?_
            refine qj_iconst (v := (2 : Int32)) cx dX3_readDigits_86 (by decide) ?_
            obtain ⟨I9, eI9, hP⟩ := qc_letE hP
            refine qw_putI (j := 4) cx dX3_readDigits_87 qc_cl3 rfl (Nat.lt_of_lt_of_le (by decide) hn2) rfl ww_389 rfl rfl rfl eI9 ?_
            exact qw_vret cx hz dX3_readDigits_90 (Nat.zero_le _) (Nat.zero_le _) (Option.some.inj hP) rfl
          · have hP := qc_ifF hP c8
            refine qj_aload_n cx dX3_readDigits_39 rfl rfl ?_
            refine qw_getI (j := 6) cx dX3_readDigits_40 qc_cl3 rfl (Nat.lt_of_lt_of_le (by decide) hn2) rfl ww_391 ?_
            refine qj_ldc cx dX3_readDigits_43 ww_447 ?_
            refine qj_icmp_ge (tgt := 72) cx dX3_readDigits_45 (by decide) (fun c10 => ?_) (fun c10 => ?_)
            · have hP := qc_ifT hP c10
              exact L72 (P_X3_readDigits_0 f) ih I hP
            · have hP := qc_ifF hP c10
              refine qj_aload_n cx dX3_readDigits_48 rfl rfl ?_
              refine qj_aload_n cx dX3_readDigits_49 rfl rfl ?_
              refine qw_getI (j := 6) cx dX3_readDigits_50 qc_cl3 rfl (Nat.lt_of_lt_of_le (by decide) hn2) rfl ww_391 ?_
              refine qj_bipush (v := (10 : Int32)) cx dX3_readDigits_53 (by decide) ?_
              refine qj_imul cx dX3_readDigits_55 ?_
              refine qj_aload_n cx dX3_readDigits_56 rfl rfl ?_
              refine qw_getR (j := 0) (t1 := 1) cx dX3_readDigits_57 qc_cl3 rfl (Nat.lt_of_lt_of_le (by decide) hn2) rfl ww_384 rfl ?_
              refine qj_aload_n cx dX3_readDigits_60 rfl rfl ?_
              refine qw_getI (j := 3) cx dX3_readDigits_61 qc_cl3 rfl (Nat.lt_of_lt_of_le (by decide) hn2) rfl ww_388 ?_
              obtain ⟨c11, hP⟩ := qc_ck hP
              refine qw_iald (n1 := 700) cx dX3_readDigits_64 rfl (Nat.lt_of_lt_of_le (by decide) hn) rfl c11 ?_
              refine qj_bipush (v := (48 : Int32)) cx dX3_readDigits_65 (by decide) ?_
              refine qj_isub cx dX3_readDigits_67 ?_
              refine qj_iadd cx dX3_readDigits_68 ?_
              obtain ⟨I12, eI12, hP⟩ := qc_letE hP
              refine qw_putI (j := 6) cx dX3_readDigits_69 qc_cl3 rfl (Nat.lt_of_lt_of_le (by decide) hn2) rfl ww_391 rfl rfl rfl eI12 ?_
              exact L72 (P_X3_readDigits_0 f) ih I12 hP
  show qc_J F 0 0 0 [some (.ref 121)] [] (I, J, (rX w, kX, nX, n))
  unfold P_X3_readDigits at hP
  exact L0 qc_fu I hP
def P_X4_copyChannels (I : Nat → Nat → Int32) (p : Nat) (r : Nat) : Option ((Nat → Nat → Int32)) :=
  qc_let (qc_u I (p + 1 + 6) (va_cpy (I (r + 1 + 6)) (I (p + 1 + 6)) 0 0 8)) fun I1 =>
  some I1
set_option maxRecDepth 20000 in
theorem c_X4_copyChannels {I : Nat → Nat → Int32} {J : Nat → Nat → Int64} {w : Nat → Nat} {n : Nat} (hn : 121 ≤ n) (hn1 : n ≤ 200) {p : Nat} (hp : qc_sc n p) {r : Nat} (hr : qc_sc n r)  {q0 : (Nat → Nat → Int32)} (hP : P_X4_copyChannels I p r = some q0) : ∀ l, qc_M l yX4_copyChannels cX4_copyChannels 2 none 1 26 0 0 [.ref p, .ref r] (I, J, (rX w, kX, nX, n)) none (q0, J, (rX w, kX, nX, n)) := by
  intro l
  refine qc_ent2 (by decide) (Nat.le_of_ble_eq_true rfl) ?_
  intro F hn0 cx hz
  have cx : qc_X F cX4_copyChannels RX4 "copyChannels" 1 0 0 26 := cx
  show qc_J F 0 0 0 [some (.ref p), some (.ref r)] [] (I, J, (rX w, kX, nX, n))
  unfold P_X4_copyChannels at hP
  refine qj_aload_n cx dX4_copyChannels_0 rfl rfl ?_
  refine qw_getR (j := 13) (t1 := (r + 1 + 6)) cx dX4_copyChannels_1 qc_cl4 hr.2.1 (qc_ltp0 hr.1) rfl ww_194 ((hr.2.2 6 (by decide)).2.2 _) ?_
  refine qj_iconst (v := (0 : Int32)) cx dX4_copyChannels_4 (by decide) ?_
  refine qj_aload_n cx dX4_copyChannels_5 rfl rfl ?_
  refine qw_getR (j := 13) (t1 := (p + 1 + 6)) cx dX4_copyChannels_6 qc_cl4 hp.2.1 (qc_ltp0 hp.1) rfl ww_194 ((hp.2.2 6 (by decide)).2.2 _) ?_
  refine qj_iconst (v := (0 : Int32)) cx dX4_copyChannels_9 (by decide) ?_
  refine qj_bipush (v := (8 : Int32)) cx dX4_copyChannels_10 (by decide) ?_
  obtain ⟨I1, eI1, hP⟩ := qc_letE hP
  refine qw_copy (sp1 := 0) (dp1 := 0) (m1 := 8) cx dX4_copyChannels_12 ww_572 ww_543 ww_542 ww_124 (hr.2.2 6 (by decide)).1 (qc_ltp hr.1 (by decide)) (hr.2.2 6 (by decide)).2.1 (hp.2.2 6 (by decide)).1 (qc_ltp hp.1 (by decide)) (hp.2.2 6 (by decide)).2.1 ⟨by decide, rfl⟩ ⟨by decide, rfl⟩ ⟨by decide, rfl⟩ (by decide) (by decide) (Nat.le_of_ble_eq_true rfl) eI1 ?_
  exact qw_vret cx hz dX4_copyChannels_15 (Nat.zero_le _) (Nat.zero_le _) (Option.some.inj hP) rfl
def P_X4_narrowTo_35 (p : Nat) : Nat → (Nat → Nat → Int32) → (Nat → Nat → Int64) → Int32 → Int32 → Option ((Nat → Nat → Int32) × (Nat → Nat → Int64))
  | 0, _, _, _, _ => none
  | f + 1, I, J, a1, a2 =>
  if I p 0 ≤ a2 then
  some (I, J)
  else
  if qc_in a2 8 then
  if qc_in a2 8 then
  qc_let (qc_u2 I (p + 1 + 5) a2.toNatClampNeg (if a1 < I (p + 1 + 5) a2.toNatClampNeg then a1 else I (p + 1 + 5) a2.toNatClampNeg)) fun I3 =>
  qc_let (a2 + (1 : Int32)) fun x4 =>
  P_X4_narrowTo_35 p f I3 J a1 x4
  else none
  else none
def P_X4_narrowTo_9 (p : Nat) : Nat → (Nat → Nat → Int32) → (Nat → Nat → Int64) → Int32 → Int32 → Option ((Nat → Nat → Int32) × (Nat → Nat → Int64))
  | 0, _, _, _, _ => none
  | f + 1, I, J, a1, a2 =>
  if (60 : Int32) < a2 then
  P_X4_narrowTo_35 p qc_fu I J a1 (0 : Int32)
  else
  qc_let (qc_u2 J p 6 ((J p 6) ||| ((1 : Int64) <<< (a2.toInt64 &&& 63)))) fun J7 =>
  qc_let (a2 + (1 : Int32)) fun x8 =>
  P_X4_narrowTo_9 p f I J7 a1 x8
def P_X4_narrowTo (I : Nat → Nat → Int32) (J : Nat → Nat → Int64) (p : Nat) (a : Int32) : Option ((Nat → Nat → Int32) × (Nat → Nat → Int64)) :=
  qc_let (qc_u2 I p 1 a) fun I9 =>
  qc_let (a + (1 : Int32)) fun x10 =>
  P_X4_narrowTo_9 p qc_fu I9 J a x10
set_option maxRecDepth 20000 in
theorem c_X4_narrowTo {I : Nat → Nat → Int32} {J : Nat → Nat → Int64} {w : Nat → Nat} {n : Nat} (hn : 121 ≤ n) (hn1 : n ≤ 200) {p : Nat} (hp : qc_sc n p) {a : Int32} {q0 : (Nat → Nat → Int32) × (Nat → Nat → Int64)} (hP : P_X4_narrowTo I J p a = some q0) : ∀ l, qc_M l yX4_narrowTo cX4_narrowTo 3 none 1 21 0 0 [.ref p, .int a] (I, J, (rX w, kX, nX, n)) none (q0.1, q0.2, (rX w, kX, nX, n)) := by
  intro l
  refine qc_ent2 (by decide) (Nat.le_of_ble_eq_true rfl) ?_
  intro F hn0 cx hz
  have cx : qc_X F cX4_narrowTo RX4 "narrowTo" 1 0 0 21 := cx
  have L35 : ∀  (f : Nat) (I : (Nat → Nat → Int32)) (J : (Nat → Nat → Int64)) (a1 : Int32) (a2 : Int32), P_X4_narrowTo_35 p f I J a1 a2 = some q0 → qc_J F 0 0 35 [some (.ref p), some (.int a1), some (.int a2)] [] (I, J, (rX w, kX, nX, n)) := by
    intro  f
    induction f with
    | zero => intro I J a1 a2 hP; cases hP
    | succ f ih =>
      intro I J a1 a2 hP
      rw [P_X4_narrowTo_35] at hP
      refine qj_iload_n cx dX4_narrowTo_35 rfl rfl ?_
      refine qj_aload_n cx dX4_narrowTo_36 rfl rfl ?_
      refine qw_getI (j := 0) cx dX4_narrowTo_37 qc_cl4 hp.2.1 (qc_ltp0 hp.1) rfl ww_147 ?_
      refine qj_icmp_ge (tgt := 65) cx dX4_narrowTo_40 (by decide) (fun c1 => ?_) (fun c1 => ?_)
      · have hP := qc_ifT hP c1
        exact qw_vret cx hz dX4_narrowTo_65 (Nat.zero_le _) (Nat.zero_le _) (congrArg (fun q => q.1) (Option.some.inj hP)) (congrArg (fun q => q.2) (Option.some.inj hP))
      · have hP := qc_ifF hP c1
        refine qj_aload_n cx dX4_narrowTo_43 rfl rfl ?_
        refine qw_getR (j := 12) (t1 := (p + 1 + 5)) cx dX4_narrowTo_44 qc_cl4 hp.2.1 (qc_ltp0 hp.1) rfl ww_190 ((hp.2.2 5 (by decide)).2.2 _) ?_
        refine qj_iload_n cx dX4_narrowTo_47 rfl rfl ?_
        refine qj_aload_n cx dX4_narrowTo_48 rfl rfl ?_
        refine qw_getR (j := 12) (t1 := (p + 1 + 5)) cx dX4_narrowTo_49 qc_cl4 hp.2.1 (qc_ltp0 hp.1) rfl ww_190 ((hp.2.2 5 (by decide)).2.2 _) ?_
        refine qj_iload_n cx dX4_narrowTo_52 rfl rfl ?_
        obtain ⟨c2, hP⟩ := qc_ck hP
        refine qw_iald (n1 := 8) cx dX4_narrowTo_53 (hp.2.2 5 (by decide)).1 (qc_ltp hp.1 (by decide)) (hp.2.2 5 (by decide)).2.1 c2 ?_
        refine qj_iload_n cx dX4_narrowTo_54 rfl rfl ?_
        refine qj_min cx dX4_narrowTo_55 ww_632 ww_633 ww_125 ww_634 (by decide) (Nat.le_of_ble_eq_true rfl) (Nat.zero_le _) (Nat.zero_le _) ?_
        obtain ⟨c5, hP⟩ := qc_ck hP
        obtain ⟨I3, eI3, hP⟩ := qc_letE hP
        refine qw_iast (n1 := 8) cx dX4_narrowTo_58 (hp.2.2 5 (by decide)).1 (qc_ltp hp.1 (by decide)) (hp.2.2 5 (by decide)).2.1 c5 eI3 ?_
        obtain ⟨x4, ex4, hP⟩ := qc_letE hP
        refine qj_iinc (v := x4) (ls1 := [some (.ref p), some (.int a1), some (.int x4)]) cx dX4_narrowTo_59 rfl (by rw [ex4]; rfl) rfl rfl ?_
        refine qj_goto (tgt := 35) cx dX4_narrowTo_62 (by decide) ?_
        exact ih I3 J a1 x4 hP
  have L9 : ∀  (f : Nat) (I : (Nat → Nat → Int32)) (J : (Nat → Nat → Int64)) (a1 : Int32) (a2 : Int32), P_X4_narrowTo_9 p f I J a1 a2 = some q0 → qc_J F 0 0 9 [some (.ref p), some (.int a1), some (.int a2)] [] (I, J, (rX w, kX, nX, n)) := by
    intro  f
    induction f with
    | zero => intro I J a1 a2 hP; cases hP
    | succ f ih =>
      intro I J a1 a2 hP
      rw [P_X4_narrowTo_9] at hP
      refine qj_iload_n cx dX4_narrowTo_9 rfl rfl ?_
      refine qj_bipush (v := (60 : Int32)) cx dX4_narrowTo_10 (by decide) ?_
      refine qj_icmp_gt (tgt := 33) cx dX4_narrowTo_12 (by decide) (fun c6 => ?_) (fun c6 => ?_)
      · have hP := qc_ifT hP c6
        refine qj_iconst (v := (0 : Int32)) cx dX4_narrowTo_33 (by decide) ?_
        refine qj_istore_n (ls1 := [some (.ref p), some (.int a1), some (.int (0 : Int32))]) cx dX4_narrowTo_34 rfl rfl rfl rfl ?_
        exact L35 qc_fu I J a1 (0 : Int32) hP
      · have hP := qc_ifF hP c6
        refine qj_aload_n cx dX4_narrowTo_15 rfl rfl ?_
        refine qj_dup cx dX4_narrowTo_16 rfl ?_
        refine qw_getJ (j := 6) cx dX4_narrowTo_17 qc_cl4 hp.2.1 (qc_ltp0 hp.1) rfl ww_169 ?_
        refine qj_lconst (v := (1 : Int64)) cx dX4_narrowTo_20 (by decide) ?_
        refine qj_iload_n cx dX4_narrowTo_21 rfl rfl ?_
        refine qj_lshl cx dX4_narrowTo_22 ?_
        refine qj_lor cx dX4_narrowTo_23 ?_
        obtain ⟨J7, eJ7, hP⟩ := qc_letE hP
        refine qw_putJ (j := 6) cx dX4_narrowTo_24 qc_cl4 hp.2.1 (qc_ltp0 hp.1) rfl ww_169 rfl rfl rfl eJ7 ?_
        obtain ⟨x8, ex8, hP⟩ := qc_letE hP
        refine qj_iinc (v := x8) (ls1 := [some (.ref p), some (.int a1), some (.int x8)]) cx dX4_narrowTo_27 rfl (by rw [ex8]; rfl) rfl rfl ?_
        refine qj_goto (tgt := 9) cx dX4_narrowTo_30 (by decide) ?_
        exact ih I J7 a1 x8 hP
  show qc_J F 0 0 0 [some (.ref p), some (.int a), none] [] (I, J, (rX w, kX, nX, n))
  unfold P_X4_narrowTo at hP
  refine qj_aload_n cx dX4_narrowTo_0 rfl rfl ?_
  refine qj_iload_n cx dX4_narrowTo_1 rfl rfl ?_
  obtain ⟨I9, eI9, hP⟩ := qc_letE hP
  refine qw_putI (j := 1) cx dX4_narrowTo_2 qc_cl4 hp.2.1 (qc_ltp0 hp.1) rfl ww_152 rfl rfl rfl eI9 ?_
  refine qj_iload_n cx dX4_narrowTo_5 rfl rfl ?_
  refine qj_iconst (v := (1 : Int32)) cx dX4_narrowTo_6 (by decide) ?_
  refine qj_iadd cx dX4_narrowTo_7 ?_
  obtain ⟨x10, ex10, hP⟩ := qc_letE hP
  refine qw_top ex10 ?_
  refine qj_istore_n (ls1 := [some (.ref p), some (.int a), some (.int x10)]) cx dX4_narrowTo_8 rfl rfl rfl rfl ?_
  exact L9 qc_fu I9 J a x10 hP
def P_X4_greatestLow_4 (I : Nat → Nat → Int32) (p : Nat) : Nat → Int32 → Int32 → Option (Int32)
  | 0, _, _ => none
  | f + 1, a1, a2 =>
  if I p 0 ≤ a2 then
  some a1
  else
  if qc_in a2 8 then
  qc_let (if a1 < I (p + 1 + 4) a2.toNatClampNeg then I (p + 1 + 4) a2.toNatClampNeg else a1) fun x3 =>
  qc_let (a2 + (1 : Int32)) fun x4 =>
  P_X4_greatestLow_4 I p f x3 x4
  else none
def P_X4_greatestLow (I : Nat → Nat → Int32) (p : Nat) : Option (Int32) :=
  P_X4_greatestLow_4 I p qc_fu (0 : Int32) (0 : Int32)
set_option maxRecDepth 20000 in
theorem c_X4_greatestLow {I : Nat → Nat → Int32} {J : Nat → Nat → Int64} {w : Nat → Nat} {n : Nat} (hn : 121 ≤ n) (hn1 : n ≤ 200) {p : Nat} (hp : qc_sc n p)  {q0 : Int32} (hP : P_X4_greatestLow I p = some q0) : ∀ l, qc_M l yX4_greatestLow cX4_greatestLow 3 (some .int) 1 21 0 0 [.ref p] (I, J, (rX w, kX, nX, n)) (some (.int q0)) (I, J, (rX w, kX, nX, n)) := by
  intro l
  refine qc_ent2 (by decide) (Nat.le_of_ble_eq_true rfl) ?_
  intro F hn0 cx hz
  have cx : qc_X F cX4_greatestLow RX4 "greatestLow" 1 0 0 21 := cx
  have L4 : ∀  (f : Nat) (a1 : Int32) (a2 : Int32), P_X4_greatestLow_4 I p f a1 a2 = some q0 → qc_J F 0 0 4 [some (.ref p), some (.int a1), some (.int a2)] [] (I, J, (rX w, kX, nX, n)) := by
    intro  f
    induction f with
    | zero => intro a1 a2 hP; cases hP
    | succ f ih =>
      intro a1 a2 hP
      rw [P_X4_greatestLow_4] at hP
      refine qj_iload_n cx dX4_greatestLow_4 rfl rfl ?_
      refine qj_aload_n cx dX4_greatestLow_5 rfl rfl ?_
      refine qw_getI (j := 0) cx dX4_greatestLow_6 qc_cl4 hp.2.1 (qc_ltp0 hp.1) rfl ww_147 ?_
      refine qj_icmp_ge (tgt := 29) cx dX4_greatestLow_9 (by decide) (fun c1 => ?_) (fun c1 => ?_)
      · have hP := qc_ifT hP c1
        refine qj_iload_n cx dX4_greatestLow_29 rfl rfl ?_
        exact qw_iret cx hz dX4_greatestLow_30 (Nat.zero_le _) (Nat.zero_le _) (Option.some.inj hP) rfl rfl
      · have hP := qc_ifF hP c1
        refine qj_iload_n cx dX4_greatestLow_12 rfl rfl ?_
        refine qj_aload_n cx dX4_greatestLow_13 rfl rfl ?_
        refine qw_getR (j := 11) (t1 := (p + 1 + 4)) cx dX4_greatestLow_14 qc_cl4 hp.2.1 (qc_ltp0 hp.1) rfl ww_186 ((hp.2.2 4 (by decide)).2.2 _) ?_
        refine qj_iload_n cx dX4_greatestLow_17 rfl rfl ?_
        obtain ⟨c2, hP⟩ := qc_ck hP
        refine qw_iald (n1 := 8) cx dX4_greatestLow_18 (hp.2.2 4 (by decide)).1 (qc_ltp hp.1 (by decide)) (hp.2.2 4 (by decide)).2.1 c2 ?_
        refine qj_max cx dX4_greatestLow_19 ww_629 ww_630 ww_125 ww_631 (by decide) (Nat.le_of_ble_eq_true rfl) (Nat.zero_le _) (Nat.zero_le _) ?_
        obtain ⟨x3, ex3, hP⟩ := qc_letE hP
        refine qw_top ex3 ?_
        refine qj_istore_n (ls1 := [some (.ref p), some (.int x3), some (.int a2)]) cx dX4_greatestLow_22 rfl rfl rfl rfl ?_
        obtain ⟨x4, ex4, hP⟩ := qc_letE hP
        refine qj_iinc (v := x4) (ls1 := [some (.ref p), some (.int x3), some (.int x4)]) cx dX4_greatestLow_23 rfl (by rw [ex4]; rfl) rfl rfl ?_
        refine qj_goto (tgt := 4) cx dX4_greatestLow_26 (by decide) ?_
        exact ih x3 x4 hP
  show qc_J F 0 0 0 [some (.ref p), none, none] [] (I, J, (rX w, kX, nX, n))
  unfold P_X4_greatestLow at hP
  refine qj_iconst (v := (0 : Int32)) cx dX4_greatestLow_0 (by decide) ?_
  refine qj_istore_n (ls1 := [some (.ref p), some (.int (0 : Int32)), none]) cx dX4_greatestLow_1 rfl rfl rfl rfl ?_
  refine qj_iconst (v := (0 : Int32)) cx dX4_greatestLow_2 (by decide) ?_
  refine qj_istore_n (ls1 := [some (.ref p), some (.int (0 : Int32)), some (.int (0 : Int32))]) cx dX4_greatestLow_3 rfl rfl rfl rfl ?_
  exact L4 qc_fu (0 : Int32) (0 : Int32) hP
def P_X4_beginRow_57 (p : Nat) : Nat → (Nat → Nat → Int32) → (Nat → Nat → Int64) → Int32 → Option ((Nat → Nat → Int32) × (Nat → Nat → Int64))
  | 0, _, _, _ => none
  | f + 1, I, J, a4 =>
  if (8 : Int32) ≤ a4 then
  some (I, J)
  else
  if qc_in a4 8 then
  qc_let (qc_u2 I (p + 1 + 3) a4.toNatClampNeg (0 : Int32)) fun I2 =>
  if qc_in a4 8 then
  qc_let (qc_u2 I2 (p + 1 + 4) a4.toNatClampNeg (1 : Int32)) fun I3 =>
  if qc_in a4 8 then
  qc_let (qc_u2 I3 (p + 1 + 5) a4.toNatClampNeg (60 : Int32)) fun I4 =>
  if qc_in a4 8 then
  qc_let (qc_u2 I4 (p + 1 + 6) a4.toNatClampNeg (0 : Int32)) fun I5 =>
  if qc_in a4 8 then
  qc_let (qc_u2 I5 (p + 1 + 7) a4.toNatClampNeg (0 : Int32)) fun I6 =>
  if qc_in a4 8 then
  qc_let (qc_u2 I6 (p + 1 + 8) a4.toNatClampNeg (255 : Int32)) fun I7 =>
  qc_let (a4 + (1 : Int32)) fun x8 =>
  P_X4_beginRow_57 p f I7 J x8
  else none
  else none
  else none
  else none
  else none
  else none
def P_X4_beginRow_34 (p : Nat) : Nat → (Nat → Nat → Int32) → (Nat → Nat → Int64) → Int32 → Option ((Nat → Nat → Int32) × (Nat → Nat → Int64))
  | 0, _, _, _ => none
  | f + 1, I, J, a4 =>
  if (3 : Int32) ≤ a4 then
  P_X4_beginRow_57 p qc_fu I J (0 : Int32)
  else
  if qc_in a4 3 then
  qc_let (qc_u2 I (p + 1 + 0) a4.toNatClampNeg (0 : Int32)) fun I16 =>
  qc_let (a4 + (1 : Int32)) fun x17 =>
  P_X4_beginRow_34 p f I16 J x17
  else none
def P_X4_beginRow (I : Nat → Nat → Int32) (J : Nat → Nat → Int64) (p : Nat) (a : Int32) (b : Int32) (c : Int32) : Option ((Nat → Nat → Int32) × (Nat → Nat → Int64)) :=
  qc_let (qc_u2 I p 0 (0 : Int32)) fun I19 =>
  qc_let (qc_u2 I19 p 1 (60 : Int32)) fun I20 =>
  qc_let (qc_u2 I20 p 2 b) fun I21 =>
  qc_let (qc_u2 I21 p 3 c) fun I22 =>
  qc_let (qc_u2 I22 p 4 a) fun I23 =>
  qc_let (qc_u2 J p 6 (0 : Int64)) fun J24 =>
  P_X4_beginRow_34 p qc_fu I23 J24 (0 : Int32)
set_option maxRecDepth 20000 in
theorem c_X4_beginRow {I : Nat → Nat → Int32} {J : Nat → Nat → Int64} {w : Nat → Nat} {n : Nat} (hn : 121 ≤ n) (hn1 : n ≤ 200) {p : Nat} (hp : qc_sc n p) {a : Int32} {b : Int32} {c : Int32} {q0 : (Nat → Nat → Int32) × (Nat → Nat → Int64)} (hP : P_X4_beginRow I J p a b c = some q0) : ∀ l, qc_M l yX4_beginRow cX4_beginRow 5 none 0 0 0 0 [.ref p, .int a, .int b, .int c] (I, J, (rX w, kX, nX, n)) none (q0.1, q0.2, (rX w, kX, nX, n)) := by
  intro l
  refine qc_ent2 (by decide) (Nat.le_of_ble_eq_true rfl) ?_
  intro F hn0 cx hz
  have cx : qc_X F cX4_beginRow RX4 "beginRow" 0 0 0 0 := cx
  have L57 : ∀  (f : Nat) (I : (Nat → Nat → Int32)) (J : (Nat → Nat → Int64)) (a4 : Int32), P_X4_beginRow_57 p f I J a4 = some q0 → qc_J F 0 0 57 [some (.ref p), none, none, none, some (.int a4)] [] (I, J, (rX w, kX, nX, n)) := by
    intro  f
    induction f with
    | zero => intro I J a4 hP; cases hP
    | succ f ih =>
      intro I J a4 hP
      rw [P_X4_beginRow_57] at hP
      refine qj_iload cx dX4_beginRow_57 rfl ?_
      refine qj_bipush (v := (8 : Int32)) cx dX4_beginRow_59 (by decide) ?_
      refine qj_icmp_ge (tgt := 121) cx dX4_beginRow_61 (by decide) (fun c1 => ?_) (fun c1 => ?_)
      · have hP := qc_ifT hP c1
        exact qw_vret cx hz dX4_beginRow_121 (Nat.zero_le _) (Nat.zero_le _) (congrArg (fun q => q.1) (Option.some.inj hP)) (congrArg (fun q => q.2) (Option.some.inj hP))
      · have hP := qc_ifF hP c1
        refine qj_aload_n cx dX4_beginRow_64 rfl rfl ?_
        refine qw_getR (j := 10) (t1 := (p + 1 + 3)) cx dX4_beginRow_65 qc_cl4 hp.2.1 (qc_ltp0 hp.1) rfl ww_182 ((hp.2.2 3 (by decide)).2.2 _) ?_
        refine qj_iload cx dX4_beginRow_68 rfl ?_
        refine qj_iconst (v := (0 : Int32)) cx dX4_beginRow_70 (by decide) ?_
        obtain ⟨c14, hP⟩ := qc_ck hP
        obtain ⟨I2, eI2, hP⟩ := qc_letE hP
        refine qw_iast (n1 := 8) cx dX4_beginRow_71 (hp.2.2 3 (by decide)).1 (qc_ltp hp.1 (by decide)) (hp.2.2 3 (by decide)).2.1 c14 eI2 ?_
        refine qj_aload_n cx dX4_beginRow_72 rfl rfl ?_
        refine qw_getR (j := 11) (t1 := (p + 1 + 4)) cx dX4_beginRow_73 qc_cl4 hp.2.1 (qc_ltp0 hp.1) rfl ww_186 ((hp.2.2 4 (by decide)).2.2 _) ?_
        refine qj_iload cx dX4_beginRow_76 rfl ?_
        refine qj_iconst (v := (1 : Int32)) cx dX4_beginRow_78 (by decide) ?_
        obtain ⟨c13, hP⟩ := qc_ck hP
        obtain ⟨I3, eI3, hP⟩ := qc_letE hP
        refine qw_iast (n1 := 8) cx dX4_beginRow_79 (hp.2.2 4 (by decide)).1 (qc_ltp hp.1 (by decide)) (hp.2.2 4 (by decide)).2.1 c13 eI3 ?_
        refine qj_aload_n cx dX4_beginRow_80 rfl rfl ?_
        refine qw_getR (j := 12) (t1 := (p + 1 + 5)) cx dX4_beginRow_81 qc_cl4 hp.2.1 (qc_ltp0 hp.1) rfl ww_190 ((hp.2.2 5 (by decide)).2.2 _) ?_
        refine qj_iload cx dX4_beginRow_84 rfl ?_
        refine qj_bipush (v := (60 : Int32)) cx dX4_beginRow_86 (by decide) ?_
        obtain ⟨c12, hP⟩ := qc_ck hP
        obtain ⟨I4, eI4, hP⟩ := qc_letE hP
        refine qw_iast (n1 := 8) cx dX4_beginRow_88 (hp.2.2 5 (by decide)).1 (qc_ltp hp.1 (by decide)) (hp.2.2 5 (by decide)).2.1 c12 eI4 ?_
        refine qj_aload_n cx dX4_beginRow_89 rfl rfl ?_
        refine qw_getR (j := 13) (t1 := (p + 1 + 6)) cx dX4_beginRow_90 qc_cl4 hp.2.1 (qc_ltp0 hp.1) rfl ww_194 ((hp.2.2 6 (by decide)).2.2 _) ?_
        refine qj_iload cx dX4_beginRow_93 rfl ?_
        refine qj_iconst (v := (0 : Int32)) cx dX4_beginRow_95 (by decide) ?_
        obtain ⟨c11, hP⟩ := qc_ck hP
        obtain ⟨I5, eI5, hP⟩ := qc_letE hP
        refine qw_iast (n1 := 8) cx dX4_beginRow_96 (hp.2.2 6 (by decide)).1 (qc_ltp hp.1 (by decide)) (hp.2.2 6 (by decide)).2.1 c11 eI5 ?_
        refine qj_aload_n cx dX4_beginRow_97 rfl rfl ?_
        refine qw_getR (j := 14) (t1 := (p + 1 + 7)) cx dX4_beginRow_98 qc_cl4 hp.2.1 (qc_ltp0 hp.1) rfl ww_200 ((hp.2.2 7 (by decide)).2.2 _) ?_
        refine qj_iload cx dX4_beginRow_101 rfl ?_
        refine qj_iconst (v := (0 : Int32)) cx dX4_beginRow_103 (by decide) ?_
        obtain ⟨c10, hP⟩ := qc_ck hP
        obtain ⟨I6, eI6, hP⟩ := qc_letE hP
        refine qw_iast (n1 := 8) cx dX4_beginRow_104 (hp.2.2 7 (by decide)).1 (qc_ltp hp.1 (by decide)) (hp.2.2 7 (by decide)).2.1 c10 eI6 ?_
        refine qj_aload_n cx dX4_beginRow_105 rfl rfl ?_
        refine qw_getR (j := 15) (t1 := (p + 1 + 8)) cx dX4_beginRow_106 qc_cl4 hp.2.1 (qc_ltp0 hp.1) rfl ww_205 ((hp.2.2 8 (by decide)).2.2 _) ?_
        refine qj_iload cx dX4_beginRow_109 rfl ?_
        refine qj_sipush (v := (255 : Int32)) cx dX4_beginRow_111 (by decide) ?_
        obtain ⟨c9, hP⟩ := qc_ck hP
        obtain ⟨I7, eI7, hP⟩ := qc_letE hP
        refine qw_iast (n1 := 8) cx dX4_beginRow_114 (hp.2.2 8 (by decide)).1 (qc_ltp hp.1 (by decide)) (hp.2.2 8 (by decide)).2.1 c9 eI7 ?_
        obtain ⟨x8, ex8, hP⟩ := qc_letE hP
        refine qj_iinc (v := x8) (ls1 := [some (.ref p), none, none, none, some (.int x8)]) cx dX4_beginRow_115 rfl (by rw [ex8]; rfl) rfl rfl ?_
        refine qj_goto (tgt := 57) cx dX4_beginRow_118 (by decide) ?_
        exact ih I7 J x8 hP
  have L34 : ∀  (f : Nat) (I : (Nat → Nat → Int32)) (J : (Nat → Nat → Int64)) (a4 : Int32), P_X4_beginRow_34 p f I J a4 = some q0 → qc_J F 0 0 34 [some (.ref p), none, none, none, some (.int a4)] [] (I, J, (rX w, kX, nX, n)) := by
    intro  f
    induction f with
    | zero => intro I J a4 hP; cases hP
    | succ f ih =>
      intro I J a4 hP
      rw [P_X4_beginRow_34] at hP
      refine qj_iload cx dX4_beginRow_34 rfl ?_
      refine qj_iconst (v := (3 : Int32)) cx dX4_beginRow_36 (by decide) ?_
      refine qj_icmp_ge (tgt := 54) cx dX4_beginRow_37 (by decide) (fun c15 => ?_) (fun c15 => ?_)
      · have hP := qc_ifT hP c15
        refine qj_iconst (v := (0 : Int32)) cx dX4_beginRow_54 (by decide) ?_
        refine qj_istore (ls1 := [some (.ref p), none, none, none, some (.int (0 : Int32))]) cx dX4_beginRow_55 rfl rfl rfl ?_
        exact L57 qc_fu I J (0 : Int32) hP
      · have hP := qc_ifF hP c15
        refine qj_aload_n cx dX4_beginRow_40 rfl rfl ?_
        refine qw_getR (j := 7) (t1 := (p + 1 + 0)) cx dX4_beginRow_41 qc_cl4 hp.2.1 (qc_ltp0 hp.1) rfl ww_173 ((hp.2.2 0 (by decide)).2.2 _) ?_
        refine qj_iload cx dX4_beginRow_44 rfl ?_
        refine qj_iconst (v := (0 : Int32)) cx dX4_beginRow_46 (by decide) ?_
        obtain ⟨c18, hP⟩ := qc_ck hP
        obtain ⟨I16, eI16, hP⟩ := qc_letE hP
        refine qw_iast (n1 := 3) cx dX4_beginRow_47 (hp.2.2 0 (by decide)).1 (qc_ltp hp.1 (by decide)) (hp.2.2 0 (by decide)).2.1 c18 eI16 ?_
        obtain ⟨x17, ex17, hP⟩ := qc_letE hP
        refine qj_iinc (v := x17) (ls1 := [some (.ref p), none, none, none, some (.int x17)]) cx dX4_beginRow_48 rfl (by rw [ex17]; rfl) rfl rfl ?_
        refine qj_goto (tgt := 34) cx dX4_beginRow_51 (by decide) ?_
        exact ih I16 J x17 hP
  show qc_J F 0 0 0 [some (.ref p), some (.int a), some (.int b), some (.int c), none] [] (I, J, (rX w, kX, nX, n))
  unfold P_X4_beginRow at hP
  refine qj_aload_n cx dX4_beginRow_0 rfl rfl ?_
  refine qj_iconst (v := (0 : Int32)) cx dX4_beginRow_1 (by decide) ?_
  obtain ⟨I19, eI19, hP⟩ := qc_letE hP
  refine qw_putI (j := 0) cx dX4_beginRow_2 qc_cl4 hp.2.1 (qc_ltp0 hp.1) rfl ww_147 rfl rfl rfl eI19 ?_
  refine qj_aload_n cx dX4_beginRow_5 rfl rfl ?_
  refine qj_bipush (v := (60 : Int32)) cx dX4_beginRow_6 (by decide) ?_
  obtain ⟨I20, eI20, hP⟩ := qc_letE hP
  refine qw_putI (j := 1) cx dX4_beginRow_8 qc_cl4 hp.2.1 (qc_ltp0 hp.1) rfl ww_152 rfl rfl rfl eI20 ?_
  refine qj_aload_n cx dX4_beginRow_11 rfl rfl ?_
  refine qj_iload_n cx dX4_beginRow_12 rfl rfl ?_
  obtain ⟨I21, eI21, hP⟩ := qc_letE hP
  refine qw_putI (j := 2) cx dX4_beginRow_13 qc_cl4 hp.2.1 (qc_ltp0 hp.1) rfl ww_156 rfl rfl rfl eI21 ?_
  refine qj_aload_n cx dX4_beginRow_16 rfl rfl ?_
  refine qj_iload_n cx dX4_beginRow_17 rfl rfl ?_
  obtain ⟨I22, eI22, hP⟩ := qc_letE hP
  refine qw_putI (j := 3) cx dX4_beginRow_18 qc_cl4 hp.2.1 (qc_ltp0 hp.1) rfl ww_160 rfl rfl rfl eI22 ?_
  refine qj_aload_n cx dX4_beginRow_21 rfl rfl ?_
  refine qj_iload_n cx dX4_beginRow_22 rfl rfl ?_
  obtain ⟨I23, eI23, hP⟩ := qc_letE hP
  refine qw_putI (j := 4) cx dX4_beginRow_23 qc_cl4 hp.2.1 (qc_ltp0 hp.1) rfl ww_163 rfl rfl rfl eI23 ?_
  refine qj_aload_n cx dX4_beginRow_26 rfl rfl ?_
  refine qj_lconst (v := (0 : Int64)) cx dX4_beginRow_27 (by decide) ?_
  obtain ⟨J24, eJ24, hP⟩ := qc_letE hP
  refine qw_putJ (j := 6) cx dX4_beginRow_28 qc_cl4 hp.2.1 (qc_ltp0 hp.1) rfl ww_169 rfl rfl rfl eJ24 ?_
  refine qj_iconst (v := (0 : Int32)) cx dX4_beginRow_31 (by decide) ?_
  refine qj_istore (ls1 := [some (.ref p), some (.int a), some (.int b), some (.int c), some (.int (0 : Int32))]) cx dX4_beginRow_32 rfl rfl rfl ?_
  refine qw_sub (ls1 := [some (.ref p), none, none, none, some (.int (0 : Int32))]) rfl (qc_sb_ok ⟨rfl, rfl, trivial⟩) ?_
  exact L34 qc_fu I23 J24 (0 : Int32) hP
def P_X4_isUser (I : Nat → Nat → Int32) (p : Nat) (a : Int32) : Option (Int32) :=
  (if a < 0 then
  some (0 : Int32)
  else
  if I p 0 ≤ a then
  some (0 : Int32)
  else
  some (1 : Int32)).bind fun v2 =>
  if qc_bo v2 then some v2 else none
set_option maxRecDepth 20000 in
theorem c_X4_isUser {I : Nat → Nat → Int32} {J : Nat → Nat → Int64} {w : Nat → Nat} {n : Nat} (hn : 121 ≤ n) (hn1 : n ≤ 200) {p : Nat} (hp : qc_sc n p) {a : Int32} {q0 : Int32} (hP : P_X4_isUser I p a = some q0) : ∀ l, qc_M l yX4_isUser cX4_isUser 2 (some .boolean) 0 0 0 0 [.ref p, .int a] (I, J, (rX w, kX, nX, n)) (some (.int q0)) (I, J, (rX w, kX, nX, n)) := by
  intro l
  refine qc_ent2 (by decide) (Nat.le_of_ble_eq_true rfl) ?_
  intro F hn0 cx hz
  have cx : qc_X F cX4_isUser RX4 "isUser" 0 0 0 0 := cx
  show qc_J F 0 0 0 [some (.ref p), some (.int a)] [] (I, J, (rX w, kX, nX, n))
  unfold P_X4_isUser at hP
  refine qj_iload_n cx dX4_isUser_0 rfl rfl ?_
  obtain ⟨v2, hv2, hP⟩ := Option.bind_eq_some_iff.mp hP
  have Kv2 : qc_J F 0 0 17 [some (.ref p), some (.int a)] [.int v2] (I, J, (rX w, kX, nX, n)) := by
    obtain ⟨c4, hP⟩ := qc_ck hP
    exact qw_zret cx hz dX4_isUser_17 (qc_bo_n c4) (Nat.zero_le _) (Nat.zero_le _) (Option.some.inj hP) rfl rfl
  refine qj_if_lt (tgt := 16) cx dX4_isUser_1 (by decide) (fun c1 => ?_) (fun c1 => ?_)
  · have hv2 := qc_ifT hv2 c1
    refine qj_iconst (v := (0 : Int32)) cx dX4_isUser_16 (by decide) ?_
    exact qw_top (Option.some.inj hv2).symm Kv2
  · have hv2 := qc_ifF hv2 c1
    refine qj_iload_n cx dX4_isUser_4 rfl rfl ?_
    refine qj_aload_n cx dX4_isUser_5 rfl rfl ?_
    refine qw_getI (j := 0) cx dX4_isUser_6 qc_cl4 hp.2.1 (qc_ltp0 hp.1) rfl ww_147 ?_
    refine qj_icmp_ge (tgt := 16) cx dX4_isUser_9 (by decide) (fun c3 => ?_) (fun c3 => ?_)
    · have hv2 := qc_ifT hv2 c3
      refine qj_iconst (v := (0 : Int32)) cx dX4_isUser_16 (by decide) ?_
      exact qw_top (Option.some.inj hv2).symm Kv2
    · have hv2 := qc_ifF hv2 c3
      refine qj_iconst (v := (1 : Int32)) cx dX4_isUser_12 (by decide) ?_
      refine qj_goto (tgt := 17) cx dX4_isUser_13 (by decide) ?_
      exact qw_top (Option.some.inj hv2).symm Kv2
def P_X4_isChannel (I : Nat → Nat → Int32) (p : Nat) (a : Int32) : Option (Int32) :=
  (if a < (1 : Int32) then
  some (0 : Int32)
  else
  if I p 1 < a then
  some (0 : Int32)
  else
  some (1 : Int32)).bind fun v2 =>
  if qc_bo v2 then some v2 else none
set_option maxRecDepth 20000 in
theorem c_X4_isChannel {I : Nat → Nat → Int32} {J : Nat → Nat → Int64} {w : Nat → Nat} {n : Nat} (hn : 121 ≤ n) (hn1 : n ≤ 200) {p : Nat} (hp : qc_sc n p) {a : Int32} {q0 : Int32} (hP : P_X4_isChannel I p a = some q0) : ∀ l, qc_M l yX4_isChannel cX4_isChannel 2 (some .boolean) 0 0 0 0 [.ref p, .int a] (I, J, (rX w, kX, nX, n)) (some (.int q0)) (I, J, (rX w, kX, nX, n)) := by
  intro l
  refine qc_ent2 (by decide) (Nat.le_of_ble_eq_true rfl) ?_
  intro F hn0 cx hz
  have cx : qc_X F cX4_isChannel RX4 "isChannel" 0 0 0 0 := cx
  show qc_J F 0 0 0 [some (.ref p), some (.int a)] [] (I, J, (rX w, kX, nX, n))
  unfold P_X4_isChannel at hP
  refine qj_iload_n cx dX4_isChannel_0 rfl rfl ?_
  refine qj_iconst (v := (1 : Int32)) cx dX4_isChannel_1 (by decide) ?_
  obtain ⟨v2, hv2, hP⟩ := Option.bind_eq_some_iff.mp hP
  have Kv2 : qc_J F 0 0 18 [some (.ref p), some (.int a)] [.int v2] (I, J, (rX w, kX, nX, n)) := by
    obtain ⟨c4, hP⟩ := qc_ck hP
    exact qw_zret cx hz dX4_isChannel_18 (qc_bo_n c4) (Nat.zero_le _) (Nat.zero_le _) (Option.some.inj hP) rfl rfl
  refine qj_icmp_lt (tgt := 17) cx dX4_isChannel_2 (by decide) (fun c1 => ?_) (fun c1 => ?_)
  · have hv2 := qc_ifT hv2 c1
    refine qj_iconst (v := (0 : Int32)) cx dX4_isChannel_17 (by decide) ?_
    exact qw_top (Option.some.inj hv2).symm Kv2
  · have hv2 := qc_ifF hv2 c1
    refine qj_iload_n cx dX4_isChannel_5 rfl rfl ?_
    refine qj_aload_n cx dX4_isChannel_6 rfl rfl ?_
    refine qw_getI (j := 1) cx dX4_isChannel_7 qc_cl4 hp.2.1 (qc_ltp0 hp.1) rfl ww_152 ?_
    refine qj_icmp_gt (tgt := 17) cx dX4_isChannel_10 (by decide) (fun c3 => ?_) (fun c3 => ?_)
    · have hv2 := qc_ifT hv2 c3
      refine qj_iconst (v := (0 : Int32)) cx dX4_isChannel_17 (by decide) ?_
      exact qw_top (Option.some.inj hv2).symm Kv2
    · have hv2 := qc_ifF hv2 c3
      refine qj_iconst (v := (1 : Int32)) cx dX4_isChannel_13 (by decide) ?_
      refine qj_goto (tgt := 18) cx dX4_isChannel_14 (by decide) ?_
      exact qw_top (Option.some.inj hv2).symm Kv2
def P_X4_isShut (J : Nat → Nat → Int64) (p : Nat) (a : Int32) : Option (Int32) :=
  (if lg_cmp (((J p 6) >>> (a.toInt64 &&& 63)) &&& (1 : Int64)) (0 : Int64) = 0 then
  some (0 : Int32)
  else
  some (1 : Int32)).bind fun v2 =>
  if qc_bo v2 then some v2 else none
set_option maxRecDepth 20000 in
theorem c_X4_isShut {I : Nat → Nat → Int32} {J : Nat → Nat → Int64} {w : Nat → Nat} {n : Nat} (hn : 121 ≤ n) (hn1 : n ≤ 200) {p : Nat} (hp : qc_sc n p) {a : Int32} {q0 : Int32} (hP : P_X4_isShut J p a = some q0) : ∀ l, qc_M l yX4_isShut cX4_isShut 2 (some .boolean) 0 0 0 0 [.ref p, .int a] (I, J, (rX w, kX, nX, n)) (some (.int q0)) (I, J, (rX w, kX, nX, n)) := by
  intro l
  refine qc_ent2 (by decide) (Nat.le_of_ble_eq_true rfl) ?_
  intro F hn0 cx hz
  have cx : qc_X F cX4_isShut RX4 "isShut" 0 0 0 0 := cx
  show qc_J F 0 0 0 [some (.ref p), some (.int a)] [] (I, J, (rX w, kX, nX, n))
  unfold P_X4_isShut at hP
  refine qj_aload_n cx dX4_isShut_0 rfl rfl ?_
  refine qw_getJ (j := 6) cx dX4_isShut_1 qc_cl4 hp.2.1 (qc_ltp0 hp.1) rfl ww_169 ?_
  refine qj_iload_n cx dX4_isShut_4 rfl rfl ?_
  refine qj_lshr cx dX4_isShut_5 ?_
  refine qj_lconst (v := (1 : Int64)) cx dX4_isShut_6 (by decide) ?_
  refine qj_land cx dX4_isShut_7 ?_
  refine qj_lconst (v := (0 : Int64)) cx dX4_isShut_8 (by decide) ?_
  refine qj_lcmp cx dX4_isShut_9 ?_
  obtain ⟨v2, hv2, hP⟩ := Option.bind_eq_some_iff.mp hP
  have Kv2 : qc_J F 0 0 18 [some (.ref p), some (.int a)] [.int v2] (I, J, (rX w, kX, nX, n)) := by
    obtain ⟨c3, hP⟩ := qc_ck hP
    exact qw_zret cx hz dX4_isShut_18 (qc_bo_n c3) (Nat.zero_le _) (Nat.zero_le _) (Option.some.inj hP) rfl rfl
  refine qj_if_eq (tgt := 17) cx dX4_isShut_10 (by decide) (fun c1 => ?_) (fun c1 => ?_)
  · have hv2 := qc_ifT hv2 c1
    refine qj_iconst (v := (0 : Int32)) cx dX4_isShut_17 (by decide) ?_
    exact qw_top (Option.some.inj hv2).symm Kv2
  · have hv2 := qc_ifF hv2 c1
    refine qj_iconst (v := (1 : Int32)) cx dX4_isShut_13 (by decide) ?_
    refine qj_goto (tgt := 18) cx dX4_isShut_14 (by decide) ?_
    exact qw_top (Option.some.inj hv2).symm Kv2
def P_X4_isRight (I : Nat → Nat → Int32) (J : Nat → Nat → Int64) (p : Nat) (a : Int32) : Option (Int32) :=
  if qc_in a 8 then
  qc_let (I (p + 1 + 6) a.toNatClampNeg) fun x2 =>
  if qc_in a 8 then
  (if x2 < I (p + 1 + 4) a.toNatClampNeg then
  some (0 : Int32)
  else
  if qc_in a 8 then
  if I (p + 1 + 5) a.toNatClampNeg < x2 then
  some (0 : Int32)
  else
  (P_X4_isShut J p x2).bind fun q8 =>
  if q8 = 0 then
  some (1 : Int32)
  else
  some (0 : Int32)
  else none).bind fun v5 =>
  if qc_bo v5 then some v5 else none
  else none
  else none
set_option maxRecDepth 20000 in
theorem c_X4_isRight {I : Nat → Nat → Int32} {J : Nat → Nat → Int64} {w : Nat → Nat} {n : Nat} (hn : 121 ≤ n) (hn1 : n ≤ 200) {p : Nat} (hp : qc_sc n p) {a : Int32} {q0 : Int32} (hP : P_X4_isRight I J p a = some q0) : ∀ l, qc_M l yX4_isRight cX4_isRight 3 (some .boolean) 1 21 0 0 [.ref p, .int a] (I, J, (rX w, kX, nX, n)) (some (.int q0)) (I, J, (rX w, kX, nX, n)) := by
  intro l
  refine qc_ent2 (by decide) (Nat.le_of_ble_eq_true rfl) ?_
  intro F hn0 cx hz
  have cx : qc_X F cX4_isRight RX4 "isRight" 1 0 0 21 := cx
  show qc_J F 0 0 0 [some (.ref p), some (.int a), none] [] (I, J, (rX w, kX, nX, n))
  unfold P_X4_isRight at hP
  refine qj_aload_n cx dX4_isRight_0 rfl rfl ?_
  refine qw_getR (j := 13) (t1 := (p + 1 + 6)) cx dX4_isRight_1 qc_cl4 hp.2.1 (qc_ltp0 hp.1) rfl ww_194 ((hp.2.2 6 (by decide)).2.2 _) ?_
  refine qj_iload_n cx dX4_isRight_4 rfl rfl ?_
  obtain ⟨c1, hP⟩ := qc_ck hP
  refine qw_iald (n1 := 8) cx dX4_isRight_5 (hp.2.2 6 (by decide)).1 (qc_ltp hp.1 (by decide)) (hp.2.2 6 (by decide)).2.1 c1 ?_
  obtain ⟨x2, ex2, hP⟩ := qc_letE hP
  refine qw_top ex2 ?_
  refine qj_istore_n (ls1 := [some (.ref p), some (.int a), some (.int x2)]) cx dX4_isRight_6 rfl rfl rfl rfl ?_
  refine qj_iload_n cx dX4_isRight_7 rfl rfl ?_
  refine qj_aload_n cx dX4_isRight_8 rfl rfl ?_
  refine qw_getR (j := 11) (t1 := (p + 1 + 4)) cx dX4_isRight_9 qc_cl4 hp.2.1 (qc_ltp0 hp.1) rfl ww_186 ((hp.2.2 4 (by decide)).2.2 _) ?_
  refine qj_iload_n cx dX4_isRight_12 rfl rfl ?_
  obtain ⟨c3, hP⟩ := qc_ck hP
  refine qw_iald (n1 := 8) cx dX4_isRight_13 (hp.2.2 4 (by decide)).1 (qc_ltp hp.1 (by decide)) (hp.2.2 4 (by decide)).2.1 c3 ?_
  obtain ⟨v5, hv5, hP⟩ := Option.bind_eq_some_iff.mp hP
  have Kv5 : qc_J F 0 0 40 [some (.ref p), some (.int a), some (.int x2)] [.int v5] (I, J, (rX w, kX, nX, n)) := by
    obtain ⟨c10, hP⟩ := qc_ck hP
    exact qw_zret cx hz dX4_isRight_40 (qc_bo_n c10) (Nat.zero_le _) (Nat.zero_le _) (Option.some.inj hP) rfl rfl
  refine qj_icmp_lt (tgt := 39) cx dX4_isRight_14 (by decide) (fun c4 => ?_) (fun c4 => ?_)
  · have hv5 := qc_ifT hv5 c4
    refine qj_iconst (v := (0 : Int32)) cx dX4_isRight_39 (by decide) ?_
    exact qw_top (Option.some.inj hv5).symm Kv5
  · have hv5 := qc_ifF hv5 c4
    refine qj_iload_n cx dX4_isRight_17 rfl rfl ?_
    refine qj_aload_n cx dX4_isRight_18 rfl rfl ?_
    refine qw_getR (j := 12) (t1 := (p + 1 + 5)) cx dX4_isRight_19 qc_cl4 hp.2.1 (qc_ltp0 hp.1) rfl ww_190 ((hp.2.2 5 (by decide)).2.2 _) ?_
    refine qj_iload_n cx dX4_isRight_22 rfl rfl ?_
    obtain ⟨c6, hv5⟩ := qc_ck hv5
    refine qw_iald (n1 := 8) cx dX4_isRight_23 (hp.2.2 5 (by decide)).1 (qc_ltp hp.1 (by decide)) (hp.2.2 5 (by decide)).2.1 c6 ?_
    refine qj_icmp_gt (tgt := 39) cx dX4_isRight_24 (by decide) (fun c7 => ?_) (fun c7 => ?_)
    · have hv5 := qc_ifT hv5 c7
      refine qj_iconst (v := (0 : Int32)) cx dX4_isRight_39 (by decide) ?_
      exact qw_top (Option.some.inj hv5).symm Kv5
    · have hv5 := qc_ifF hv5 c7
      refine qj_aload_n cx dX4_isRight_27 rfl rfl ?_
      refine qj_iload_n cx dX4_isRight_28 rfl rfl ?_
      obtain ⟨q8, eq8, hv5⟩ := Option.bind_eq_some_iff.mp hv5
      refine qj_callV (As := [.int x2]) (st := []) (t := p) (h' := (I, J, (rX w, kX, nX, n))) (r := some (.int q8)) cx dX4_isRight_29 (c_X4_isShut (I := I) (J := J) (w := w) hn hn1 hp eq8) gc_RX4_81 qm_X4_isShut rfl rfl qc_cl4 hp.2.1 (qc_ltp0 hp.1) (by decide) (by decide) rfl (Nat.le_of_ble_eq_true rfl) (Nat.le_trans hn1 (by decide)) hn0 rfl ?_
      refine qj_if_ne (tgt := 39) cx dX4_isRight_32 (by decide) (fun c9 => ?_) (fun c9 => ?_)
      · have hv5 := qc_ifF hv5 c9
        refine qj_iconst (v := (0 : Int32)) cx dX4_isRight_39 (by decide) ?_
        exact qw_top (Option.some.inj hv5).symm Kv5
      · have hv5 := qc_ifT hv5 c9
        refine qj_iconst (v := (1 : Int32)) cx dX4_isRight_35 (by decide) ?_
        refine qj_goto (tgt := 40) cx dX4_isRight_36 (by decide) ?_
        exact qw_top (Option.some.inj hv5).symm Kv5
def P_X4_allRight_29 (I : Nat → Nat → Int32) (J : Nat → Nat → Int64) (p : Nat) (k2 : Int32 → Option (Int32)) (a1 : Int32) : Option (Int32) :=
  qc_let (a1 + (1 : Int32)) fun x1 =>
  k2 x1
def P_X4_allRight_2 (I : Nat → Nat → Int32) (J : Nat → Nat → Int64) (p : Nat) : Nat → Int32 → Option (Int32)
  | 0, _ => none
  | f + 1, a1 =>
  if I p 0 ≤ a1 then
  some (1 : Int32)
  else
  if qc_in a1 8 then
  if I (p + 1 + 6) a1.toNatClampNeg ≤ 0 then
  P_X4_allRight_29 I J p (P_X4_allRight_2 I J p f) a1
  else
  (P_X4_isRight I J p a1).bind fun q5 =>
  if q5 = 0 then
  some (0 : Int32)
  else
  P_X4_allRight_29 I J p (P_X4_allRight_2 I J p f) a1
  else none
def P_X4_allRight (I : Nat → Nat → Int32) (J : Nat → Nat → Int64) (p : Nat) : Option (Int32) :=
  P_X4_allRight_2 I J p qc_fu (0 : Int32)
set_option maxRecDepth 20000 in
theorem c_X4_allRight {I : Nat → Nat → Int32} {J : Nat → Nat → Int64} {w : Nat → Nat} {n : Nat} (hn : 121 ≤ n) (hn1 : n ≤ 200) {p : Nat} (hp : qc_sc n p)  {q0 : Int32} (hP : P_X4_allRight I J p = some q0) : ∀ l, qc_M l yX4_allRight cX4_allRight 2 (some .boolean) 2 43 0 0 [.ref p] (I, J, (rX w, kX, nX, n)) (some (.int q0)) (I, J, (rX w, kX, nX, n)) := by
  intro l
  refine qc_ent2 (by decide) (Nat.le_of_ble_eq_true rfl) ?_
  intro F hn0 cx hz
  have cx : qc_X F cX4_allRight RX4 "allRight" 2 0 0 43 := cx
  have L29 : ∀ (k2 : Int32 → Option (Int32)) (g2 : ∀ (a1 : Int32), k2 a1 = some q0 → qc_J F 0 0 2 [some (.ref p), some (.int a1)] [] (I, J, (rX w, kX, nX, n))) (a1 : Int32), P_X4_allRight_29 I J p k2 a1 = some q0 → qc_J F 0 0 29 [some (.ref p), some (.int a1)] [] (I, J, (rX w, kX, nX, n)) := by
    intro k2 g2 a1 hP
    unfold P_X4_allRight_29 at hP
    obtain ⟨x1, ex1, hP⟩ := qc_letE hP
    refine qj_iinc (v := x1) (ls1 := [some (.ref p), some (.int x1)]) cx dX4_allRight_29 rfl (by rw [ex1]; rfl) rfl rfl ?_
    refine qj_goto (tgt := 2) cx dX4_allRight_32 (by decide) ?_
    exact g2 x1 hP
  have L2 : ∀  (f : Nat) (a1 : Int32), P_X4_allRight_2 I J p f a1 = some q0 → qc_J F 0 0 2 [some (.ref p), some (.int a1)] [] (I, J, (rX w, kX, nX, n)) := by
    intro  f
    induction f with
    | zero => intro a1 hP; cases hP
    | succ f ih =>
      intro a1 hP
      rw [P_X4_allRight_2] at hP
      refine qj_iload_n cx dX4_allRight_2 rfl rfl ?_
      refine qj_aload_n cx dX4_allRight_3 rfl rfl ?_
      refine qw_getI (j := 0) cx dX4_allRight_4 qc_cl4 hp.2.1 (qc_ltp0 hp.1) rfl ww_147 ?_
      refine qj_icmp_ge (tgt := 35) cx dX4_allRight_7 (by decide) (fun c2 => ?_) (fun c2 => ?_)
      · have hP := qc_ifT hP c2
        refine qj_iconst (v := (1 : Int32)) cx dX4_allRight_35 (by decide) ?_
        exact qw_zret cx hz dX4_allRight_36 (by decide) (Nat.zero_le _) (Nat.zero_le _) (Option.some.inj hP) rfl rfl
      · have hP := qc_ifF hP c2
        refine qj_aload_n cx dX4_allRight_10 rfl rfl ?_
        refine qw_getR (j := 13) (t1 := (p + 1 + 6)) cx dX4_allRight_11 qc_cl4 hp.2.1 (qc_ltp0 hp.1) rfl ww_194 ((hp.2.2 6 (by decide)).2.2 _) ?_
        refine qj_iload_n cx dX4_allRight_14 rfl rfl ?_
        obtain ⟨c3, hP⟩ := qc_ck hP
        refine qw_iald (n1 := 8) cx dX4_allRight_15 (hp.2.2 6 (by decide)).1 (qc_ltp hp.1 (by decide)) (hp.2.2 6 (by decide)).2.1 c3 ?_
        refine qj_if_le (tgt := 29) cx dX4_allRight_16 (by decide) (fun c4 => ?_) (fun c4 => ?_)
        · have hP := qc_ifT hP c4
          exact L29 (P_X4_allRight_2 I J p f) ih a1 hP
        · have hP := qc_ifF hP c4
          refine qj_aload_n cx dX4_allRight_19 rfl rfl ?_
          refine qj_iload_n cx dX4_allRight_20 rfl rfl ?_
          obtain ⟨q5, eq5, hP⟩ := Option.bind_eq_some_iff.mp hP
          refine qj_callV (As := [.int a1]) (st := []) (t := p) (h' := (I, J, (rX w, kX, nX, n))) (r := some (.int q5)) cx dX4_allRight_21 (c_X4_isRight (I := I) (J := J) (w := w) hn hn1 hp eq5) gc_RX4_85 qm_X4_isRight rfl rfl qc_cl4 hp.2.1 (qc_ltp0 hp.1) (by decide) (by decide) rfl (Nat.le_of_ble_eq_true rfl) (Nat.le_trans hn1 (by decide)) hn0 rfl ?_
          refine qj_if_ne (tgt := 29) cx dX4_allRight_24 (by decide) (fun c6 => ?_) (fun c6 => ?_)
          · have hP := qc_ifF hP c6
            exact L29 (P_X4_allRight_2 I J p f) ih a1 hP
          · have hP := qc_ifT hP c6
            refine qj_iconst (v := (0 : Int32)) cx dX4_allRight_27 (by decide) ?_
            exact qw_zret cx hz dX4_allRight_28 (by decide) (Nat.zero_le _) (Nat.zero_le _) (Option.some.inj hP) rfl rfl
  show qc_J F 0 0 0 [some (.ref p), none] [] (I, J, (rX w, kX, nX, n))
  unfold P_X4_allRight at hP
  refine qj_iconst (v := (0 : Int32)) cx dX4_allRight_0 (by decide) ?_
  refine qj_istore_n (ls1 := [some (.ref p), some (.int (0 : Int32))]) cx dX4_allRight_1 rfl rfl rfl rfl ?_
  exact L2 qc_fu (0 : Int32) hP
def P_X4_userOfName_2 (I : Nat → Nat → Int32) (p : Nat) : Nat → Int32 → Int32 → Option (Int32)
  | 0, _, _ => none
  | f + 1, a1, a2 =>
  if I p 0 ≤ a2 then
  some (-1 : Int32)
  else
  if qc_in a2 8 then
  if I (p + 1 + 2) a2.toNatClampNeg = a1 then
  some a2
  else
  qc_let (a2 + (1 : Int32)) fun x4 =>
  P_X4_userOfName_2 I p f a1 x4
  else none
def P_X4_userOfName (I : Nat → Nat → Int32) (p : Nat) (a : Int32) : Option (Int32) :=
  P_X4_userOfName_2 I p qc_fu a (0 : Int32)
set_option maxRecDepth 20000 in
theorem c_X4_userOfName {I : Nat → Nat → Int32} {J : Nat → Nat → Int64} {w : Nat → Nat} {n : Nat} (hn : 121 ≤ n) (hn1 : n ≤ 200) {p : Nat} (hp : qc_sc n p) {a : Int32} {q0 : Int32} (hP : P_X4_userOfName I p a = some q0) : ∀ l, qc_M l yX4_userOfName cX4_userOfName 3 (some .int) 0 0 0 0 [.ref p, .int a] (I, J, (rX w, kX, nX, n)) (some (.int q0)) (I, J, (rX w, kX, nX, n)) := by
  intro l
  refine qc_ent2 (by decide) (Nat.le_of_ble_eq_true rfl) ?_
  intro F hn0 cx hz
  have cx : qc_X F cX4_userOfName RX4 "userOfName" 0 0 0 0 := cx
  have L2 : ∀  (f : Nat) (a1 : Int32) (a2 : Int32), P_X4_userOfName_2 I p f a1 a2 = some q0 → qc_J F 0 0 2 [some (.ref p), some (.int a1), some (.int a2)] [] (I, J, (rX w, kX, nX, n)) := by
    intro  f
    induction f with
    | zero => intro a1 a2 hP; cases hP
    | succ f ih =>
      intro a1 a2 hP
      rw [P_X4_userOfName_2] at hP
      refine qj_iload_n cx dX4_userOfName_2 rfl rfl ?_
      refine qj_aload_n cx dX4_userOfName_3 rfl rfl ?_
      refine qw_getI (j := 0) cx dX4_userOfName_4 qc_cl4 hp.2.1 (qc_ltp0 hp.1) rfl ww_147 ?_
      refine qj_icmp_ge (tgt := 28) cx dX4_userOfName_7 (by decide) (fun c1 => ?_) (fun c1 => ?_)
      · have hP := qc_ifT hP c1
        refine qj_iconst (v := (-1 : Int32)) cx dX4_userOfName_28 (by decide) ?_
        exact qw_iret cx hz dX4_userOfName_29 (Nat.zero_le _) (Nat.zero_le _) (Option.some.inj hP) rfl rfl
      · have hP := qc_ifF hP c1
        refine qj_aload_n cx dX4_userOfName_10 rfl rfl ?_
        refine qw_getR (j := 9) (t1 := (p + 1 + 2)) cx dX4_userOfName_11 qc_cl4 hp.2.1 (qc_ltp0 hp.1) rfl ww_180 ((hp.2.2 2 (by decide)).2.2 _) ?_
        refine qj_iload_n cx dX4_userOfName_14 rfl rfl ?_
        obtain ⟨c2, hP⟩ := qc_ck hP
        refine qw_iald (n1 := 8) cx dX4_userOfName_15 (hp.2.2 2 (by decide)).1 (qc_ltp hp.1 (by decide)) (hp.2.2 2 (by decide)).2.1 c2 ?_
        refine qj_iload_n cx dX4_userOfName_16 rfl rfl ?_
        refine qj_icmp_ne (tgt := 22) cx dX4_userOfName_17 (by decide) (fun c3 => ?_) (fun c3 => ?_)
        · have hP := qc_ifF hP c3
          obtain ⟨x4, ex4, hP⟩ := qc_letE hP
          refine qj_iinc (v := x4) (ls1 := [some (.ref p), some (.int a1), some (.int x4)]) cx dX4_userOfName_22 rfl (by rw [ex4]; rfl) rfl rfl ?_
          refine qj_goto (tgt := 2) cx dX4_userOfName_25 (by decide) ?_
          exact ih a1 x4 hP
        · have hP := qc_ifT hP c3
          refine qj_iload_n cx dX4_userOfName_20 rfl rfl ?_
          exact qw_iret cx hz dX4_userOfName_21 (Nat.zero_le _) (Nat.zero_le _) (Option.some.inj hP) rfl rfl
  show qc_J F 0 0 0 [some (.ref p), some (.int a), none] [] (I, J, (rX w, kX, nX, n))
  unfold P_X4_userOfName at hP
  refine qj_iconst (v := (0 : Int32)) cx dX4_userOfName_0 (by decide) ?_
  refine qj_istore_n (ls1 := [some (.ref p), some (.int a), some (.int (0 : Int32))]) cx dX4_userOfName_1 rfl rfl rfl rfl ?_
  exact L2 qc_fu a (0 : Int32) hP
def P_X4_allUsers (I : Nat → Nat → Int32) (p : Nat) : Option (Int32) :=
  some (((1 : Int32) <<< ((I p 0) &&& 31)) - (1 : Int32))
set_option maxRecDepth 20000 in
theorem c_X4_allUsers {I : Nat → Nat → Int32} {J : Nat → Nat → Int64} {w : Nat → Nat} {n : Nat} (hn : 121 ≤ n) (hn1 : n ≤ 200) {p : Nat} (hp : qc_sc n p)  {q0 : Int32} (hP : P_X4_allUsers I p = some q0) : ∀ l, qc_M l yX4_allUsers cX4_allUsers 1 (some .int) 0 0 0 0 [.ref p] (I, J, (rX w, kX, nX, n)) (some (.int q0)) (I, J, (rX w, kX, nX, n)) := by
  intro l
  refine qc_ent2 (by decide) (Nat.le_of_ble_eq_true rfl) ?_
  intro F hn0 cx hz
  have cx : qc_X F cX4_allUsers RX4 "allUsers" 0 0 0 0 := cx
  show qc_J F 0 0 0 [some (.ref p)] [] (I, J, (rX w, kX, nX, n))
  unfold P_X4_allUsers at hP
  refine qj_iconst (v := (1 : Int32)) cx dX4_allUsers_0 (by decide) ?_
  refine qj_aload_n cx dX4_allUsers_1 rfl rfl ?_
  refine qw_getI (j := 0) cx dX4_allUsers_2 qc_cl4 hp.2.1 (qc_ltp0 hp.1) rfl ww_147 ?_
  refine qj_ishl cx dX4_allUsers_5 ?_
  refine qj_iconst (v := (1 : Int32)) cx dX4_allUsers_6 (by decide) ?_
  refine qj_isub cx dX4_allUsers_7 ?_
  exact qw_iret cx hz dX4_allUsers_8 (Nat.zero_le _) (Nat.zero_le _) (Option.some.inj hP) rfl rfl
def P_X4_tunedUsers_27 (I : Nat → Nat → Int32) (p : Nat) (k4 : Int32 → Int32 → Option (Int32)) (a1 : Int32) (a2 : Int32) : Option (Int32) :=
  qc_let (a2 + (1 : Int32)) fun x1 =>
  k4 a1 x1
def P_X4_tunedUsers_4 (I : Nat → Nat → Int32) (p : Nat) : Nat → Int32 → Int32 → Option (Int32)
  | 0, _, _ => none
  | f + 1, a1, a2 =>
  if I p 0 ≤ a2 then
  some a1
  else
  if qc_in a2 8 then
  if I (p + 1 + 6) a2.toNatClampNeg ≤ 0 then
  P_X4_tunedUsers_27 I p (P_X4_tunedUsers_4 I p f) a1 a2
  else
  qc_let (a1 ||| ((1 : Int32) <<< (a2 &&& 31))) fun x5 =>
  P_X4_tunedUsers_27 I p (P_X4_tunedUsers_4 I p f) x5 a2
  else none
def P_X4_tunedUsers (I : Nat → Nat → Int32) (p : Nat) : Option (Int32) :=
  P_X4_tunedUsers_4 I p qc_fu (0 : Int32) (0 : Int32)
set_option maxRecDepth 20000 in
theorem c_X4_tunedUsers {I : Nat → Nat → Int32} {J : Nat → Nat → Int64} {w : Nat → Nat} {n : Nat} (hn : 121 ≤ n) (hn1 : n ≤ 200) {p : Nat} (hp : qc_sc n p)  {q0 : Int32} (hP : P_X4_tunedUsers I p = some q0) : ∀ l, qc_M l yX4_tunedUsers cX4_tunedUsers 3 (some .int) 0 0 0 0 [.ref p] (I, J, (rX w, kX, nX, n)) (some (.int q0)) (I, J, (rX w, kX, nX, n)) := by
  intro l
  refine qc_ent2 (by decide) (Nat.le_of_ble_eq_true rfl) ?_
  intro F hn0 cx hz
  have cx : qc_X F cX4_tunedUsers RX4 "tunedUsers" 0 0 0 0 := cx
  have L27 : ∀ (k4 : Int32 → Int32 → Option (Int32)) (g4 : ∀ (a1 : Int32) (a2 : Int32), k4 a1 a2 = some q0 → qc_J F 0 0 4 [some (.ref p), some (.int a1), some (.int a2)] [] (I, J, (rX w, kX, nX, n))) (a1 : Int32) (a2 : Int32), P_X4_tunedUsers_27 I p k4 a1 a2 = some q0 → qc_J F 0 0 27 [some (.ref p), some (.int a1), some (.int a2)] [] (I, J, (rX w, kX, nX, n)) := by
    intro k4 g4 a1 a2 hP
    unfold P_X4_tunedUsers_27 at hP
    obtain ⟨x1, ex1, hP⟩ := qc_letE hP
    refine qj_iinc (v := x1) (ls1 := [some (.ref p), some (.int a1), some (.int x1)]) cx dX4_tunedUsers_27 rfl (by rw [ex1]; rfl) rfl rfl ?_
    refine qj_goto (tgt := 4) cx dX4_tunedUsers_30 (by decide) ?_
    exact g4 a1 x1 hP
  have L4 : ∀  (f : Nat) (a1 : Int32) (a2 : Int32), P_X4_tunedUsers_4 I p f a1 a2 = some q0 → qc_J F 0 0 4 [some (.ref p), some (.int a1), some (.int a2)] [] (I, J, (rX w, kX, nX, n)) := by
    intro  f
    induction f with
    | zero => intro a1 a2 hP; cases hP
    | succ f ih =>
      intro a1 a2 hP
      rw [P_X4_tunedUsers_4] at hP
      refine qj_iload_n cx dX4_tunedUsers_4 rfl rfl ?_
      refine qj_aload_n cx dX4_tunedUsers_5 rfl rfl ?_
      refine qw_getI (j := 0) cx dX4_tunedUsers_6 qc_cl4 hp.2.1 (qc_ltp0 hp.1) rfl ww_147 ?_
      refine qj_icmp_ge (tgt := 33) cx dX4_tunedUsers_9 (by decide) (fun c2 => ?_) (fun c2 => ?_)
      · have hP := qc_ifT hP c2
        refine qj_iload_n cx dX4_tunedUsers_33 rfl rfl ?_
        exact qw_iret cx hz dX4_tunedUsers_34 (Nat.zero_le _) (Nat.zero_le _) (Option.some.inj hP) rfl rfl
      · have hP := qc_ifF hP c2
        refine qj_aload_n cx dX4_tunedUsers_12 rfl rfl ?_
        refine qw_getR (j := 13) (t1 := (p + 1 + 6)) cx dX4_tunedUsers_13 qc_cl4 hp.2.1 (qc_ltp0 hp.1) rfl ww_194 ((hp.2.2 6 (by decide)).2.2 _) ?_
        refine qj_iload_n cx dX4_tunedUsers_16 rfl rfl ?_
        obtain ⟨c3, hP⟩ := qc_ck hP
        refine qw_iald (n1 := 8) cx dX4_tunedUsers_17 (hp.2.2 6 (by decide)).1 (qc_ltp hp.1 (by decide)) (hp.2.2 6 (by decide)).2.1 c3 ?_
        refine qj_if_le (tgt := 27) cx dX4_tunedUsers_18 (by decide) (fun c4 => ?_) (fun c4 => ?_)
        · have hP := qc_ifT hP c4
          exact L27 (P_X4_tunedUsers_4 I p f) ih a1 a2 hP
        · have hP := qc_ifF hP c4
          refine qj_iload_n cx dX4_tunedUsers_21 rfl rfl ?_
          refine qj_iconst (v := (1 : Int32)) cx dX4_tunedUsers_22 (by decide) ?_
          refine qj_iload_n cx dX4_tunedUsers_23 rfl rfl ?_
          refine qj_ishl cx dX4_tunedUsers_24 ?_
          refine qj_ior cx dX4_tunedUsers_25 ?_
          obtain ⟨x5, ex5, hP⟩ := qc_letE hP
          refine qw_top ex5 ?_
          refine qj_istore_n (ls1 := [some (.ref p), some (.int x5), some (.int a2)]) cx dX4_tunedUsers_26 rfl rfl rfl rfl ?_
          exact L27 (P_X4_tunedUsers_4 I p f) ih x5 a2 hP
  show qc_J F 0 0 0 [some (.ref p), none, none] [] (I, J, (rX w, kX, nX, n))
  unfold P_X4_tunedUsers at hP
  refine qj_iconst (v := (0 : Int32)) cx dX4_tunedUsers_0 (by decide) ?_
  refine qj_istore_n (ls1 := [some (.ref p), some (.int (0 : Int32)), none]) cx dX4_tunedUsers_1 rfl rfl rfl rfl ?_
  refine qj_iconst (v := (0 : Int32)) cx dX4_tunedUsers_2 (by decide) ?_
  refine qj_istore_n (ls1 := [some (.ref p), some (.int (0 : Int32)), some (.int (0 : Int32))]) cx dX4_tunedUsers_3 rfl rfl rfl rfl ?_
  exact L4 qc_fu (0 : Int32) (0 : Int32) hP
def P_X4_untunedUsers (I : Nat → Nat → Int32) (p : Nat) : Option (Int32) :=
  (P_X4_allUsers I p).bind fun q1 =>
  (P_X4_tunedUsers I p).bind fun q2 =>
  some (q1 &&& (q2 ^^^ (-1 : Int32)))
set_option maxRecDepth 20000 in
theorem c_X4_untunedUsers {I : Nat → Nat → Int32} {J : Nat → Nat → Int64} {w : Nat → Nat} {n : Nat} (hn : 121 ≤ n) (hn1 : n ≤ 200) {p : Nat} (hp : qc_sc n p)  {q0 : Int32} (hP : P_X4_untunedUsers I p = some q0) : ∀ l, qc_M l yX4_untunedUsers cX4_untunedUsers 1 (some .int) 1 22 0 0 [.ref p] (I, J, (rX w, kX, nX, n)) (some (.int q0)) (I, J, (rX w, kX, nX, n)) := by
  intro l
  refine qc_ent2 (by decide) (Nat.le_of_ble_eq_true rfl) ?_
  intro F hn0 cx hz
  have cx : qc_X F cX4_untunedUsers RX4 "untunedUsers" 1 0 0 22 := cx
  show qc_J F 0 0 0 [some (.ref p)] [] (I, J, (rX w, kX, nX, n))
  unfold P_X4_untunedUsers at hP
  refine qj_aload_n cx dX4_untunedUsers_0 rfl rfl ?_
  obtain ⟨q1, eq1, hP⟩ := Option.bind_eq_some_iff.mp hP
  refine qj_callV (As := []) (st := []) (t := p) (h' := (I, J, (rX w, kX, nX, n))) (r := some (.int q1)) cx dX4_untunedUsers_1 (c_X4_allUsers (I := I) (J := J) (w := w) hn hn1 hp eq1) gc_RX4_88 qm_X4_allUsers rfl rfl qc_cl4 hp.2.1 (qc_ltp0 hp.1) (by decide) (by decide) rfl (Nat.le_of_ble_eq_true rfl) (Nat.le_trans hn1 (by decide)) hn0 rfl ?_
  refine qj_aload_n cx dX4_untunedUsers_4 rfl rfl ?_
  obtain ⟨q2, eq2, hP⟩ := Option.bind_eq_some_iff.mp hP
  refine qj_callV (As := []) (st := [.int q1]) (t := p) (h' := (I, J, (rX w, kX, nX, n))) (r := some (.int q2)) cx dX4_untunedUsers_5 (c_X4_tunedUsers (I := I) (J := J) (w := w) hn hn1 hp eq2) gc_RX4_92 qm_X4_tunedUsers rfl rfl qc_cl4 hp.2.1 (qc_ltp0 hp.1) (by decide) (by decide) rfl (Nat.le_of_ble_eq_true rfl) (Nat.le_trans hn1 (by decide)) hn0 rfl ?_
  refine qj_iconst (v := (-1 : Int32)) cx dX4_untunedUsers_8 (by decide) ?_
  refine qj_ixor cx dX4_untunedUsers_9 ?_
  refine qj_iand cx dX4_untunedUsers_10 ?_
  exact qw_iret cx hz dX4_untunedUsers_11 (Nat.zero_le _) (Nat.zero_le _) (Option.some.inj hP) rfl rfl
def P_X4_isTunedAt (I : Nat → Nat → Int32) (p : Nat) (a : Int32) (b : Int32) : Option (Int32) :=
  if qc_in a 8 then
  (if I (p + 1 + 6) a.toNatClampNeg ≤ 0 then
  some (0 : Int32)
  else
  if qc_in a 8 then
  if I (p + 1 + 3) a.toNatClampNeg = b then
  some (1 : Int32)
  else
  some (0 : Int32)
  else none).bind fun v3 =>
  if qc_bo v3 then some v3 else none
  else none
set_option maxRecDepth 20000 in
theorem c_X4_isTunedAt {I : Nat → Nat → Int32} {J : Nat → Nat → Int64} {w : Nat → Nat} {n : Nat} (hn : 121 ≤ n) (hn1 : n ≤ 200) {p : Nat} (hp : qc_sc n p) {a : Int32} {b : Int32} {q0 : Int32} (hP : P_X4_isTunedAt I p a b = some q0) : ∀ l, qc_M l yX4_isTunedAt cX4_isTunedAt 3 (some .boolean) 0 0 0 0 [.ref p, .int a, .int b] (I, J, (rX w, kX, nX, n)) (some (.int q0)) (I, J, (rX w, kX, nX, n)) := by
  intro l
  refine qc_ent2 (by decide) (Nat.le_of_ble_eq_true rfl) ?_
  intro F hn0 cx hz
  have cx : qc_X F cX4_isTunedAt RX4 "isTunedAt" 0 0 0 0 := cx
  show qc_J F 0 0 0 [some (.ref p), some (.int a), some (.int b)] [] (I, J, (rX w, kX, nX, n))
  unfold P_X4_isTunedAt at hP
  refine qj_aload_n cx dX4_isTunedAt_0 rfl rfl ?_
  refine qw_getR (j := 13) (t1 := (p + 1 + 6)) cx dX4_isTunedAt_1 qc_cl4 hp.2.1 (qc_ltp0 hp.1) rfl ww_194 ((hp.2.2 6 (by decide)).2.2 _) ?_
  refine qj_iload_n cx dX4_isTunedAt_4 rfl rfl ?_
  obtain ⟨c1, hP⟩ := qc_ck hP
  refine qw_iald (n1 := 8) cx dX4_isTunedAt_5 (hp.2.2 6 (by decide)).1 (qc_ltp hp.1 (by decide)) (hp.2.2 6 (by decide)).2.1 c1 ?_
  obtain ⟨v3, hv3, hP⟩ := Option.bind_eq_some_iff.mp hP
  have Kv3 : qc_J F 0 0 24 [some (.ref p), some (.int a), some (.int b)] [.int v3] (I, J, (rX w, kX, nX, n)) := by
    obtain ⟨c6, hP⟩ := qc_ck hP
    exact qw_zret cx hz dX4_isTunedAt_24 (qc_bo_n c6) (Nat.zero_le _) (Nat.zero_le _) (Option.some.inj hP) rfl rfl
  refine qj_if_le (tgt := 23) cx dX4_isTunedAt_6 (by decide) (fun c2 => ?_) (fun c2 => ?_)
  · have hv3 := qc_ifT hv3 c2
    refine qj_iconst (v := (0 : Int32)) cx dX4_isTunedAt_23 (by decide) ?_
    exact qw_top (Option.some.inj hv3).symm Kv3
  · have hv3 := qc_ifF hv3 c2
    refine qj_aload_n cx dX4_isTunedAt_9 rfl rfl ?_
    refine qw_getR (j := 10) (t1 := (p + 1 + 3)) cx dX4_isTunedAt_10 qc_cl4 hp.2.1 (qc_ltp0 hp.1) rfl ww_182 ((hp.2.2 3 (by decide)).2.2 _) ?_
    refine qj_iload_n cx dX4_isTunedAt_13 rfl rfl ?_
    obtain ⟨c4, hv3⟩ := qc_ck hv3
    refine qw_iald (n1 := 8) cx dX4_isTunedAt_14 (hp.2.2 3 (by decide)).1 (qc_ltp hp.1 (by decide)) (hp.2.2 3 (by decide)).2.1 c4 ?_
    refine qj_iload_n cx dX4_isTunedAt_15 rfl rfl ?_
    refine qj_icmp_ne (tgt := 23) cx dX4_isTunedAt_16 (by decide) (fun c5 => ?_) (fun c5 => ?_)
    · have hv3 := qc_ifF hv3 c5
      refine qj_iconst (v := (0 : Int32)) cx dX4_isTunedAt_23 (by decide) ?_
      exact qw_top (Option.some.inj hv3).symm Kv3
    · have hv3 := qc_ifT hv3 c5
      refine qj_iconst (v := (1 : Int32)) cx dX4_isTunedAt_19 (by decide) ?_
      refine qj_goto (tgt := 24) cx dX4_isTunedAt_20 (by decide) ?_
      exact qw_top (Option.some.inj hv3).symm Kv3
def P_X4_crowd (I : Nat → Nat → Int32) (p : Nat) (a : Int32) (b : Int32) : Option (Int32) :=
  (if a = b then
  some (0 : Int32)
  else
  if qc_in a 8 then
  if qc_in b 8 then
  if I (p + 1 + 3) a.toNatClampNeg = I (p + 1 + 3) b.toNatClampNeg then
  (if qc_in a 8 then
  if I (p + 1 + 6) a.toNatClampNeg ≤ 0 then
  some (0 : Int32)
  else
  if qc_in b 8 then
  if I (p + 1 + 6) b.toNatClampNeg ≤ 0 then
  some (0 : Int32)
  else
  if qc_in a 8 then
  if qc_in b 8 then
  if (I (p + 1 + 8) a.toNatClampNeg) &&& (I (p + 1 + 8) b.toNatClampNeg) = 0 then
  some (0 : Int32)
  else
  if qc_in a 8 then
  if qc_in b 8 then
  if I p 3 ≤ (if 0 ≤ (I (p + 1 + 6) a.toNatClampNeg) - (I (p + 1 + 6) b.toNatClampNeg) then ((I (p + 1 + 6) a.toNatClampNeg) - (I (p + 1 + 6) b.toNatClampNeg)) else 0 - ((I (p + 1 + 6) a.toNatClampNeg) - (I (p + 1 + 6) b.toNatClampNeg))) then
  some (0 : Int32)
  else
  some (1 : Int32)
  else none
  else none
  else none
  else none
  else none
  else none)
  else
  some (0 : Int32)
  else none
  else none).bind fun v2 =>
  if qc_bo v2 then some v2 else none
set_option maxRecDepth 20000 in
theorem c_X4_crowd {I : Nat → Nat → Int32} {J : Nat → Nat → Int64} {w : Nat → Nat} {n : Nat} (hn : 121 ≤ n) (hn1 : n ≤ 200) {p : Nat} (hp : qc_sc n p) {a : Int32} {b : Int32} {q0 : Int32} (hP : P_X4_crowd I p a b = some q0) : ∀ l, qc_M l yX4_crowd cX4_crowd 3 (some .boolean) 1 21 0 0 [.ref p, .int a, .int b] (I, J, (rX w, kX, nX, n)) (some (.int q0)) (I, J, (rX w, kX, nX, n)) := by
  intro l
  refine qc_ent2 (by decide) (Nat.le_of_ble_eq_true rfl) ?_
  intro F hn0 cx hz
  have cx : qc_X F cX4_crowd RX4 "crowd" 1 0 0 21 := cx
  show qc_J F 0 0 0 [some (.ref p), some (.int a), some (.int b)] [] (I, J, (rX w, kX, nX, n))
  unfold P_X4_crowd at hP
  refine qj_iload_n cx dX4_crowd_0 rfl rfl ?_
  refine qj_iload_n cx dX4_crowd_1 rfl rfl ?_
  obtain ⟨v2, hv2, hP⟩ := Option.bind_eq_some_iff.mp hP
  have Kv2 : qc_J F 0 0 82 [some (.ref p), some (.int a), some (.int b)] [.int v2] (I, J, (rX w, kX, nX, n)) := by
    obtain ⟨c16, hP⟩ := qc_ck hP
    exact qw_zret cx hz dX4_crowd_82 (qc_bo_n c16) (Nat.zero_le _) (Nat.zero_le _) (Option.some.inj hP) rfl rfl
  refine qj_icmp_eq (tgt := 81) cx dX4_crowd_2 (by decide) (fun c1 => ?_) (fun c1 => ?_)
  · have hv2 := qc_ifT hv2 c1
    refine qj_iconst (v := (0 : Int32)) cx dX4_crowd_81 (by decide) ?_
    exact qw_top (Option.some.inj hv2).symm Kv2
  · have hv2 := qc_ifF hv2 c1
    refine qj_aload_n cx dX4_crowd_5 rfl rfl ?_
    refine qw_getR (j := 10) (t1 := (p + 1 + 3)) cx dX4_crowd_6 qc_cl4 hp.2.1 (qc_ltp0 hp.1) rfl ww_182 ((hp.2.2 3 (by decide)).2.2 _) ?_
    refine qj_iload_n cx dX4_crowd_9 rfl rfl ?_
    obtain ⟨c3, hv2⟩ := qc_ck hv2
    refine qw_iald (n1 := 8) cx dX4_crowd_10 (hp.2.2 3 (by decide)).1 (qc_ltp hp.1 (by decide)) (hp.2.2 3 (by decide)).2.1 c3 ?_
    refine qj_aload_n cx dX4_crowd_11 rfl rfl ?_
    refine qw_getR (j := 10) (t1 := (p + 1 + 3)) cx dX4_crowd_12 qc_cl4 hp.2.1 (qc_ltp0 hp.1) rfl ww_182 ((hp.2.2 3 (by decide)).2.2 _) ?_
    refine qj_iload_n cx dX4_crowd_15 rfl rfl ?_
    obtain ⟨c4, hv2⟩ := qc_ck hv2
    refine qw_iald (n1 := 8) cx dX4_crowd_16 (hp.2.2 3 (by decide)).1 (qc_ltp hp.1 (by decide)) (hp.2.2 3 (by decide)).2.1 c4 ?_
    refine qj_icmp_ne (tgt := 81) cx dX4_crowd_17 (by decide) (fun c5 => ?_) (fun c5 => ?_)
    · have hv2 := qc_ifF hv2 c5
      refine qj_iconst (v := (0 : Int32)) cx dX4_crowd_81 (by decide) ?_
      exact qw_top (Option.some.inj hv2).symm Kv2
    · have hv2 := qc_ifT hv2 c5
      refine qj_aload_n cx dX4_crowd_20 rfl rfl ?_
      refine qw_getR (j := 13) (t1 := (p + 1 + 6)) cx dX4_crowd_21 qc_cl4 hp.2.1 (qc_ltp0 hp.1) rfl ww_194 ((hp.2.2 6 (by decide)).2.2 _) ?_
      refine qj_iload_n cx dX4_crowd_24 rfl rfl ?_
      obtain ⟨c6, hv2⟩ := qc_ck hv2
      refine qw_iald (n1 := 8) cx dX4_crowd_25 (hp.2.2 6 (by decide)).1 (qc_ltp hp.1 (by decide)) (hp.2.2 6 (by decide)).2.1 c6 ?_
      refine qj_if_le (tgt := 81) cx dX4_crowd_26 (by decide) (fun c7 => ?_) (fun c7 => ?_)
      · have hv2 := qc_ifT hv2 c7
        refine qj_iconst (v := (0 : Int32)) cx dX4_crowd_81 (by decide) ?_
        exact qw_top (Option.some.inj hv2).symm Kv2
      · have hv2 := qc_ifF hv2 c7
        refine qj_aload_n cx dX4_crowd_29 rfl rfl ?_
        refine qw_getR (j := 13) (t1 := (p + 1 + 6)) cx dX4_crowd_30 qc_cl4 hp.2.1 (qc_ltp0 hp.1) rfl ww_194 ((hp.2.2 6 (by decide)).2.2 _) ?_
        refine qj_iload_n cx dX4_crowd_33 rfl rfl ?_
        obtain ⟨c8, hv2⟩ := qc_ck hv2
        refine qw_iald (n1 := 8) cx dX4_crowd_34 (hp.2.2 6 (by decide)).1 (qc_ltp hp.1 (by decide)) (hp.2.2 6 (by decide)).2.1 c8 ?_
        refine qj_if_le (tgt := 81) cx dX4_crowd_35 (by decide) (fun c9 => ?_) (fun c9 => ?_)
        · have hv2 := qc_ifT hv2 c9
          refine qj_iconst (v := (0 : Int32)) cx dX4_crowd_81 (by decide) ?_
          exact qw_top (Option.some.inj hv2).symm Kv2
        · have hv2 := qc_ifF hv2 c9
          refine qj_aload_n cx dX4_crowd_38 rfl rfl ?_
          refine qw_getR (j := 15) (t1 := (p + 1 + 8)) cx dX4_crowd_39 qc_cl4 hp.2.1 (qc_ltp0 hp.1) rfl ww_205 ((hp.2.2 8 (by decide)).2.2 _) ?_
          refine qj_iload_n cx dX4_crowd_42 rfl rfl ?_
          obtain ⟨c10, hv2⟩ := qc_ck hv2
          refine qw_iald (n1 := 8) cx dX4_crowd_43 (hp.2.2 8 (by decide)).1 (qc_ltp hp.1 (by decide)) (hp.2.2 8 (by decide)).2.1 c10 ?_
          refine qj_aload_n cx dX4_crowd_44 rfl rfl ?_
          refine qw_getR (j := 15) (t1 := (p + 1 + 8)) cx dX4_crowd_45 qc_cl4 hp.2.1 (qc_ltp0 hp.1) rfl ww_205 ((hp.2.2 8 (by decide)).2.2 _) ?_
          refine qj_iload_n cx dX4_crowd_48 rfl rfl ?_
          obtain ⟨c11, hv2⟩ := qc_ck hv2
          refine qw_iald (n1 := 8) cx dX4_crowd_49 (hp.2.2 8 (by decide)).1 (qc_ltp hp.1 (by decide)) (hp.2.2 8 (by decide)).2.1 c11 ?_
          refine qj_iand cx dX4_crowd_50 ?_
          refine qj_if_eq (tgt := 81) cx dX4_crowd_51 (by decide) (fun c12 => ?_) (fun c12 => ?_)
          · have hv2 := qc_ifT hv2 c12
            refine qj_iconst (v := (0 : Int32)) cx dX4_crowd_81 (by decide) ?_
            exact qw_top (Option.some.inj hv2).symm Kv2
          · have hv2 := qc_ifF hv2 c12
            refine qj_aload_n cx dX4_crowd_54 rfl rfl ?_
            refine qw_getR (j := 13) (t1 := (p + 1 + 6)) cx dX4_crowd_55 qc_cl4 hp.2.1 (qc_ltp0 hp.1) rfl ww_194 ((hp.2.2 6 (by decide)).2.2 _) ?_
            refine qj_iload_n cx dX4_crowd_58 rfl rfl ?_
            obtain ⟨c13, hv2⟩ := qc_ck hv2
            refine qw_iald (n1 := 8) cx dX4_crowd_59 (hp.2.2 6 (by decide)).1 (qc_ltp hp.1 (by decide)) (hp.2.2 6 (by decide)).2.1 c13 ?_
            refine qj_aload_n cx dX4_crowd_60 rfl rfl ?_
            refine qw_getR (j := 13) (t1 := (p + 1 + 6)) cx dX4_crowd_61 qc_cl4 hp.2.1 (qc_ltp0 hp.1) rfl ww_194 ((hp.2.2 6 (by decide)).2.2 _) ?_
            refine qj_iload_n cx dX4_crowd_64 rfl rfl ?_
            obtain ⟨c14, hv2⟩ := qc_ck hv2
            refine qw_iald (n1 := 8) cx dX4_crowd_65 (hp.2.2 6 (by decide)).1 (qc_ltp hp.1 (by decide)) (hp.2.2 6 (by decide)).2.1 c14 ?_
            refine qj_isub cx dX4_crowd_66 ?_
            refine qj_abs (y := 0) cx dX4_crowd_67 ww_618 ww_619 ww_125 ww_620 (by decide) (Nat.le_of_ble_eq_true rfl) (Nat.zero_le _) (Nat.zero_le _) ?_
            refine qj_aload_n cx dX4_crowd_70 rfl rfl ?_
            refine qw_getI (j := 3) cx dX4_crowd_71 qc_cl4 hp.2.1 (qc_ltp0 hp.1) rfl ww_160 ?_
            refine qj_icmp_ge (tgt := 81) cx dX4_crowd_74 (by decide) (fun c15 => ?_) (fun c15 => ?_)
            · have hv2 := qc_ifT hv2 c15
              refine qj_iconst (v := (0 : Int32)) cx dX4_crowd_81 (by decide) ?_
              exact qw_top (Option.some.inj hv2).symm Kv2
            · have hv2 := qc_ifF hv2 c15
              refine qj_iconst (v := (1 : Int32)) cx dX4_crowd_77 (by decide) ?_
              refine qj_goto (tgt := 82) cx dX4_crowd_78 (by decide) ?_
              exact qw_top (Option.some.inj hv2).symm Kv2
def P_X4_crowdedBy_27 (I : Nat → Nat → Int32) (p : Nat) (k4 : Int32 → Int32 → Int32 → Option (Int32)) (a1 : Int32) (a2 : Int32) (a3 : Int32) : Option (Int32) :=
  qc_let (a3 + (1 : Int32)) fun x1 =>
  k4 a1 a2 x1
def P_X4_crowdedBy_4 (I : Nat → Nat → Int32) (p : Nat) : Nat → Int32 → Int32 → Int32 → Option (Int32)
  | 0, _, _, _ => none
  | f + 1, a1, a2, a3 =>
  if I p 0 ≤ a3 then
  some a2
  else
  (P_X4_crowd I p a1 a3).bind fun q3 =>
  if q3 = 0 then
  P_X4_crowdedBy_27 I p (P_X4_crowdedBy_4 I p f) a1 a2 a3
  else
  qc_let (a2 ||| ((1 : Int32) <<< (a3 &&& 31))) fun x5 =>
  P_X4_crowdedBy_27 I p (P_X4_crowdedBy_4 I p f) a1 x5 a3
def P_X4_crowdedBy (I : Nat → Nat → Int32) (p : Nat) (a : Int32) : Option (Int32) :=
  P_X4_crowdedBy_4 I p qc_fu a (0 : Int32) (0 : Int32)
set_option maxRecDepth 20000 in
theorem c_X4_crowdedBy {I : Nat → Nat → Int32} {J : Nat → Nat → Int64} {w : Nat → Nat} {n : Nat} (hn : 121 ≤ n) (hn1 : n ≤ 200) {p : Nat} (hp : qc_sc n p) {a : Int32} {q0 : Int32} (hP : P_X4_crowdedBy I p a = some q0) : ∀ l, qc_M l yX4_crowdedBy cX4_crowdedBy 4 (some .int) 2 43 0 0 [.ref p, .int a] (I, J, (rX w, kX, nX, n)) (some (.int q0)) (I, J, (rX w, kX, nX, n)) := by
  intro l
  refine qc_ent2 (by decide) (Nat.le_of_ble_eq_true rfl) ?_
  intro F hn0 cx hz
  have cx : qc_X F cX4_crowdedBy RX4 "crowdedBy" 2 0 0 43 := cx
  have L27 : ∀ (k4 : Int32 → Int32 → Int32 → Option (Int32)) (g4 : ∀ (a1 : Int32) (a2 : Int32) (a3 : Int32), k4 a1 a2 a3 = some q0 → qc_J F 0 0 4 [some (.ref p), some (.int a1), some (.int a2), some (.int a3)] [] (I, J, (rX w, kX, nX, n))) (a1 : Int32) (a2 : Int32) (a3 : Int32), P_X4_crowdedBy_27 I p k4 a1 a2 a3 = some q0 → qc_J F 0 0 27 [some (.ref p), some (.int a1), some (.int a2), some (.int a3)] [] (I, J, (rX w, kX, nX, n)) := by
    intro k4 g4 a1 a2 a3 hP
    unfold P_X4_crowdedBy_27 at hP
    obtain ⟨x1, ex1, hP⟩ := qc_letE hP
    refine qj_iinc (v := x1) (ls1 := [some (.ref p), some (.int a1), some (.int a2), some (.int x1)]) cx dX4_crowdedBy_27 rfl (by rw [ex1]; rfl) rfl rfl ?_
    refine qj_goto (tgt := 4) cx dX4_crowdedBy_30 (by decide) ?_
    exact g4 a1 a2 x1 hP
  have L4 : ∀  (f : Nat) (a1 : Int32) (a2 : Int32) (a3 : Int32), P_X4_crowdedBy_4 I p f a1 a2 a3 = some q0 → qc_J F 0 0 4 [some (.ref p), some (.int a1), some (.int a2), some (.int a3)] [] (I, J, (rX w, kX, nX, n)) := by
    intro  f
    induction f with
    | zero => intro a1 a2 a3 hP; cases hP
    | succ f ih =>
      intro a1 a2 a3 hP
      rw [P_X4_crowdedBy_4] at hP
      refine qj_iload_n cx dX4_crowdedBy_4 rfl rfl ?_
      refine qj_aload_n cx dX4_crowdedBy_5 rfl rfl ?_
      refine qw_getI (j := 0) cx dX4_crowdedBy_6 qc_cl4 hp.2.1 (qc_ltp0 hp.1) rfl ww_147 ?_
      refine qj_icmp_ge (tgt := 33) cx dX4_crowdedBy_9 (by decide) (fun c2 => ?_) (fun c2 => ?_)
      · have hP := qc_ifT hP c2
        refine qj_iload_n cx dX4_crowdedBy_33 rfl rfl ?_
        exact qw_iret cx hz dX4_crowdedBy_34 (Nat.zero_le _) (Nat.zero_le _) (Option.some.inj hP) rfl rfl
      · have hP := qc_ifF hP c2
        refine qj_aload_n cx dX4_crowdedBy_12 rfl rfl ?_
        refine qj_iload_n cx dX4_crowdedBy_13 rfl rfl ?_
        refine qj_iload_n cx dX4_crowdedBy_14 rfl rfl ?_
        obtain ⟨q3, eq3, hP⟩ := Option.bind_eq_some_iff.mp hP
        refine qj_callV (As := [.int a1, .int a3]) (st := []) (t := p) (h' := (I, J, (rX w, kX, nX, n))) (r := some (.int q3)) cx dX4_crowdedBy_15 (c_X4_crowd (I := I) (J := J) (w := w) hn hn1 hp eq3) gc_RX4_99 qm_X4_crowd rfl rfl qc_cl4 hp.2.1 (qc_ltp0 hp.1) (by decide) (by decide) rfl (Nat.le_of_ble_eq_true rfl) (Nat.le_trans hn1 (by decide)) hn0 rfl ?_
        refine qj_if_eq (tgt := 27) cx dX4_crowdedBy_18 (by decide) (fun c4 => ?_) (fun c4 => ?_)
        · have hP := qc_ifT hP c4
          exact L27 (P_X4_crowdedBy_4 I p f) ih a1 a2 a3 hP
        · have hP := qc_ifF hP c4
          refine qj_iload_n cx dX4_crowdedBy_21 rfl rfl ?_
          refine qj_iconst (v := (1 : Int32)) cx dX4_crowdedBy_22 (by decide) ?_
          refine qj_iload_n cx dX4_crowdedBy_23 rfl rfl ?_
          refine qj_ishl cx dX4_crowdedBy_24 ?_
          refine qj_ior cx dX4_crowdedBy_25 ?_
          obtain ⟨x5, ex5, hP⟩ := qc_letE hP
          refine qw_top ex5 ?_
          refine qj_istore_n (ls1 := [some (.ref p), some (.int a1), some (.int x5), some (.int a3)]) cx dX4_crowdedBy_26 rfl rfl rfl rfl ?_
          exact L27 (P_X4_crowdedBy_4 I p f) ih a1 x5 a3 hP
  show qc_J F 0 0 0 [some (.ref p), some (.int a), none, none] [] (I, J, (rX w, kX, nX, n))
  unfold P_X4_crowdedBy at hP
  refine qj_iconst (v := (0 : Int32)) cx dX4_crowdedBy_0 (by decide) ?_
  refine qj_istore_n (ls1 := [some (.ref p), some (.int a), some (.int (0 : Int32)), none]) cx dX4_crowdedBy_1 rfl rfl rfl rfl ?_
  refine qj_iconst (v := (0 : Int32)) cx dX4_crowdedBy_2 (by decide) ?_
  refine qj_istore_n (ls1 := [some (.ref p), some (.int a), some (.int (0 : Int32)), some (.int (0 : Int32))]) cx dX4_crowdedBy_3 rfl rfl rfl rfl ?_
  exact L4 qc_fu a (0 : Int32) (0 : Int32) hP
def P_X4_crowdedCouples_16 (I : Nat → Nat → Int32) (p : Nat) (k4 : Int32 → Int32 → Option (Int32)) : Nat → Int32 → Int32 → Int32 → Option (Int32)
  | 0, _, _, _ => none
  | f + 1, a1, a2, a3 =>
  if I p 0 ≤ a3 then
  qc_let (a2 + (1 : Int32)) fun x2 =>
  k4 a1 x2
  else
  (P_X4_crowd I p a2 a3).bind fun q3 =>
  (if q3 = 0 then
  some (0 : Int32)
  else
  some (1 : Int32)).bind fun v5 =>
  qc_let (a1 + v5) fun x6 =>
  qc_let (a3 + (1 : Int32)) fun x7 =>
  P_X4_crowdedCouples_16 I p k4 f x6 a2 x7
def P_X4_crowdedCouples_4 (I : Nat → Nat → Int32) (p : Nat) : Nat → Int32 → Int32 → Option (Int32)
  | 0, _, _ => none
  | f + 1, a1, a2 =>
  if I p 0 ≤ a2 then
  some a1
  else
  qc_let (a2 + (1 : Int32)) fun x9 =>
  P_X4_crowdedCouples_16 I p (P_X4_crowdedCouples_4 I p f) qc_fu a1 a2 x9
def P_X4_crowdedCouples (I : Nat → Nat → Int32) (p : Nat) : Option (Int32) :=
  P_X4_crowdedCouples_4 I p qc_fu (0 : Int32) (0 : Int32)
set_option maxRecDepth 20000 in
theorem c_X4_crowdedCouples {I : Nat → Nat → Int32} {J : Nat → Nat → Int64} {w : Nat → Nat} {n : Nat} (hn : 121 ≤ n) (hn1 : n ≤ 200) {p : Nat} (hp : qc_sc n p)  {q0 : Int32} (hP : P_X4_crowdedCouples I p = some q0) : ∀ l, qc_M l yX4_crowdedCouples cX4_crowdedCouples 4 (some .int) 2 43 0 0 [.ref p] (I, J, (rX w, kX, nX, n)) (some (.int q0)) (I, J, (rX w, kX, nX, n)) := by
  intro l
  refine qc_ent2 (by decide) (Nat.le_of_ble_eq_true rfl) ?_
  intro F hn0 cx hz
  have cx : qc_X F cX4_crowdedCouples RX4 "crowdedCouples" 2 0 0 43 := cx
  have L16 : ∀ (k4 : Int32 → Int32 → Option (Int32)) (g4 : ∀ (a1 : Int32) (a2 : Int32), k4 a1 a2 = some q0 → qc_J F 0 0 4 [some (.ref p), some (.int a1), some (.int a2), none] [] (I, J, (rX w, kX, nX, n))) (f : Nat) (a1 : Int32) (a2 : Int32) (a3 : Int32), P_X4_crowdedCouples_16 I p k4 f a1 a2 a3 = some q0 → qc_J F 0 0 16 [some (.ref p), some (.int a1), some (.int a2), some (.int a3)] [] (I, J, (rX w, kX, nX, n)) := by
    intro k4 g4 f
    induction f with
    | zero => intro a1 a2 a3 hP; cases hP
    | succ f ih =>
      intro a1 a2 a3 hP
      rw [P_X4_crowdedCouples_16] at hP
      refine qj_iload_n cx dX4_crowdedCouples_16 rfl rfl ?_
      refine qj_aload_n cx dX4_crowdedCouples_17 rfl rfl ?_
      refine qw_getI (j := 0) cx dX4_crowdedCouples_18 qc_cl4 hp.2.1 (qc_ltp0 hp.1) rfl ww_147 ?_
      refine qj_icmp_ge (tgt := 47) cx dX4_crowdedCouples_21 (by decide) (fun c1 => ?_) (fun c1 => ?_)
      · have hP := qc_ifT hP c1
        obtain ⟨x2, ex2, hP⟩ := qc_letE hP
        refine qj_iinc (v := x2) (ls1 := [some (.ref p), some (.int a1), some (.int x2), some (.int a3)]) cx dX4_crowdedCouples_47 rfl (by rw [ex2]; rfl) rfl rfl ?_
        refine qj_goto (tgt := 4) cx dX4_crowdedCouples_50 (by decide) ?_
        refine qw_sub (ls1 := [some (.ref p), some (.int a1), some (.int x2), none]) rfl (qc_sb_ok ⟨rfl, rfl, rfl, trivial⟩) ?_
        exact g4 a1 x2 hP
      · have hP := qc_ifF hP c1
        refine qj_iload_n cx dX4_crowdedCouples_24 rfl rfl ?_
        refine qj_aload_n cx dX4_crowdedCouples_25 rfl rfl ?_
        refine qj_iload_n cx dX4_crowdedCouples_26 rfl rfl ?_
        refine qj_iload_n cx dX4_crowdedCouples_27 rfl rfl ?_
        obtain ⟨q3, eq3, hP⟩ := Option.bind_eq_some_iff.mp hP
        refine qj_callV (As := [.int a2, .int a3]) (st := [.int a1]) (t := p) (h' := (I, J, (rX w, kX, nX, n))) (r := some (.int q3)) cx dX4_crowdedCouples_28 (c_X4_crowd (I := I) (J := J) (w := w) hn hn1 hp eq3) gc_RX4_99 qm_X4_crowd rfl rfl qc_cl4 hp.2.1 (qc_ltp0 hp.1) (by decide) (by decide) rfl (Nat.le_of_ble_eq_true rfl) (Nat.le_trans hn1 (by decide)) hn0 rfl ?_
        obtain ⟨v5, hv5, hP⟩ := Option.bind_eq_some_iff.mp hP
        have Kv5 : qc_J F 0 0 39 [some (.ref p), some (.int a1), some (.int a2), some (.int a3)] [.int v5, .int a1] (I, J, (rX w, kX, nX, n)) := by
          refine qj_iadd cx dX4_crowdedCouples_39 ?_
          obtain ⟨x6, ex6, hP⟩ := qc_letE hP
          refine qw_top ex6 ?_
          refine qj_istore_n (ls1 := [some (.ref p), some (.int x6), some (.int a2), some (.int a3)]) cx dX4_crowdedCouples_40 rfl rfl rfl rfl ?_
          obtain ⟨x7, ex7, hP⟩ := qc_letE hP
          refine qj_iinc (v := x7) (ls1 := [some (.ref p), some (.int x6), some (.int a2), some (.int x7)]) cx dX4_crowdedCouples_41 rfl (by rw [ex7]; rfl) rfl rfl ?_
          refine qj_goto (tgt := 16) cx dX4_crowdedCouples_44 (by decide) ?_
          exact ih x6 a2 x7 hP
        refine qj_if_eq (tgt := 38) cx dX4_crowdedCouples_31 (by decide) (fun c4 => ?_) (fun c4 => ?_)
        · have hv5 := qc_ifT hv5 c4
          refine qj_iconst (v := (0 : Int32)) cx dX4_crowdedCouples_38 (by decide) ?_
          exact qw_top (Option.some.inj hv5).symm Kv5
        · have hv5 := qc_ifF hv5 c4
          refine qj_iconst (v := (1 : Int32)) cx dX4_crowdedCouples_34 (by decide) ?_
          refine qj_goto (tgt := 39) cx dX4_crowdedCouples_35 (by decide) ?_
          exact qw_top (Option.some.inj hv5).symm Kv5
  have L4 : ∀  (f : Nat) (a1 : Int32) (a2 : Int32), P_X4_crowdedCouples_4 I p f a1 a2 = some q0 → qc_J F 0 0 4 [some (.ref p), some (.int a1), some (.int a2), none] [] (I, J, (rX w, kX, nX, n)) := by
    intro  f
    induction f with
    | zero => intro a1 a2 hP; cases hP
    | succ f ih =>
      intro a1 a2 hP
      rw [P_X4_crowdedCouples_4] at hP
      refine qj_iload_n cx dX4_crowdedCouples_4 rfl rfl ?_
      refine qj_aload_n cx dX4_crowdedCouples_5 rfl rfl ?_
      refine qw_getI (j := 0) cx dX4_crowdedCouples_6 qc_cl4 hp.2.1 (qc_ltp0 hp.1) rfl ww_147 ?_
      refine qj_icmp_ge (tgt := 53) cx dX4_crowdedCouples_9 (by decide) (fun c8 => ?_) (fun c8 => ?_)
      · have hP := qc_ifT hP c8
        refine qj_iload_n cx dX4_crowdedCouples_53 rfl rfl ?_
        exact qw_iret cx hz dX4_crowdedCouples_54 (Nat.zero_le _) (Nat.zero_le _) (Option.some.inj hP) rfl rfl
      · have hP := qc_ifF hP c8
        refine qj_iload_n cx dX4_crowdedCouples_12 rfl rfl ?_
        refine qj_iconst (v := (1 : Int32)) cx dX4_crowdedCouples_13 (by decide) ?_
        refine qj_iadd cx dX4_crowdedCouples_14 ?_
        obtain ⟨x9, ex9, hP⟩ := qc_letE hP
        refine qw_top ex9 ?_
        refine qj_istore_n (ls1 := [some (.ref p), some (.int a1), some (.int a2), some (.int x9)]) cx dX4_crowdedCouples_15 rfl rfl rfl rfl ?_
        exact L16 (P_X4_crowdedCouples_4 I p f) ih qc_fu a1 a2 x9 hP
  show qc_J F 0 0 0 [some (.ref p), none, none, none] [] (I, J, (rX w, kX, nX, n))
  unfold P_X4_crowdedCouples at hP
  refine qj_iconst (v := (0 : Int32)) cx dX4_crowdedCouples_0 (by decide) ?_
  refine qj_istore_n (ls1 := [some (.ref p), some (.int (0 : Int32)), none, none]) cx dX4_crowdedCouples_1 rfl rfl rfl rfl ?_
  refine qj_iconst (v := (0 : Int32)) cx dX4_crowdedCouples_2 (by decide) ?_
  refine qj_istore_n (ls1 := [some (.ref p), some (.int (0 : Int32)), some (.int (0 : Int32)), none]) cx dX4_crowdedCouples_3 rfl rfl rfl rfl ?_
  exact L4 qc_fu (0 : Int32) (0 : Int32) hP
