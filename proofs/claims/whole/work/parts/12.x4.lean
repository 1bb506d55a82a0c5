def P_X5_seek_168 (p : Nat) (I : (Nat → Nat → Int32)) (J : (Nat → Nat → Int64)) (a4 : Int32) : Option (Int32 × (Nat → Nat → Int32) × (Nat → Nat → Int64)) :=
  (if a4 = I 33 1 then
  some (0 : Int32)
  else
  some (-2 : Int32)).bind fun v2 =>
  some (v2, I, J)
def P_X5_seek_162 (p : Nat) (k28 : (Nat → Nat → Int32) → (Nat → Nat → Int64) → Int32 → Int32 → Int32 → Option (Int32 × (Nat → Nat → Int32) × (Nat → Nat → Int64))) (I : (Nat → Nat → Int32)) (J : (Nat → Nat → Int64)) (a3 : Int32) (a4 : Int32) (a5 : Int32) : Option (Int32 × (Nat → Nat → Int32) × (Nat → Nat → Int64)) :=
  qc_let (a5 + (1 : Int32)) fun x3 =>
  k28 I J a3 a4 x3
def P_X5_seek_28 (p : Nat) : Nat → (Nat → Nat → Int32) → (Nat → Nat → Int64) → Int32 → Int32 → Int32 → Option (Int32 × (Nat → Nat → Int32) × (Nat → Nat → Int64))
  | 0, _, _, _, _, _ => none
  | f + 1, I, J, a3, a4, a5 =>
  if (1202 : Int32) ≤ a5 then
  P_X5_seek_168 p I J a4
  else
  if a4 < 0 then
  P_X5_seek_168 p I J a4
  else
  if I 33 1 ≤ a4 then
  P_X5_seek_168 p I J a4
  else
  if qc_in a4 6 then
  qc_let (I 34 a4.toNatClampNeg) fun x8 =>
  if qc_in x8 8 then
  if qc_in x8 8 then
  qc_let (if I (p + 1 + 4) x8.toNatClampNeg < (I (p + 1 + 6) x8.toNatClampNeg) + (1 : Int32) then (I (p + 1 + 6) x8.toNatClampNeg) + (1 : Int32) else I (p + 1 + 4) x8.toNatClampNeg) fun x11 =>
  if qc_in x8 8 then
  if x11 ≤ I (p + 1 + 5) x8.toNatClampNeg then
  (if I 33 2 = (600 : Int32) then
  (P_X5_untune I p a3).bind fun q22 =>
  some ((-3 : Int32), q22, J)
  else
  qc_let (qc_u2 I 33 2 ((I 33 2) + (1 : Int32))) fun I15 =>
  if qc_in x8 8 then
  qc_let (qc_u2 I15 (p + 1 + 6) x8.toNatClampNeg x11) fun I16 =>
  (P_X2_allClean I16 J p).bind fun q17 =>
  (if q17.1 = 0 then
  some (0 : Int32)
  else
  some (1 : Int32)).bind fun v19 =>
  qc_let (a4 + v19) fun x20 =>
  P_X5_seek_162 p (P_X5_seek_28 p f) q17.2.1 q17.2.2 a3 x20 a5
  else none)
  else
  if qc_in x8 8 then
  qc_let (qc_u2 I (p + 1 + 6) x8.toNatClampNeg (0 : Int32)) fun I23 =>
  qc_let (a4 + (-1 : Int32)) fun x24 =>
  P_X5_seek_162 p (P_X5_seek_28 p f) I23 J a3 x24 a5
  else none
  else none
  else none
  else none
  else none
def P_X5_seek (I : Nat → Nat → Int32) (J : Nat → Nat → Int64) (p : Nat) (a : Int32) : Option (Int32 × (Nat → Nat → Int32) × (Nat → Nat → Int64)) :=
  (P_X5_untune I p a).bind fun q26 =>
  qc_let (qc_u2 q26 33 2 (0 : Int32)) fun I27 =>
  (P_X2_allClean I27 J p).bind fun q28 =>
  if q28.1 = 0 then
  some ((-2 : Int32), q28.2.1, q28.2.2)
  else
  P_X5_seek_28 p qc_fu q28.2.1 q28.2.2 a (0 : Int32) (0 : Int32)
set_option maxRecDepth 20000 in
theorem c_X5_seek {I : Nat → Nat → Int32} {J : Nat → Nat → Int64} {w : Nat → Nat} {n : Nat} (hn : 121 ≤ n) (hn1 : n ≤ 200) {p : Nat} (hp : qc_sc n p) {a : Int32} {q0 : Int32 × (Nat → Nat → Int32) × (Nat → Nat → Int64)} (hP : P_X5_seek I J p a = some q0) : ∀ l, qc_M l yX5_seek cX5_seek 8 (some .int) 5 127 0 0 [.ref 33, .ref 22, .ref p, .int a] (I, J, (rX w, kX, nX, n)) (some (.int q0.1)) (q0.2.1, q0.2.2, (rX w, kX, nX, n)) := by
  intro l
  refine qc_ent2 (by decide) (Nat.le_of_ble_eq_true rfl) ?_
  intro F hn0 cx hz
  have cx : qc_X F cX5_seek RX5 "seek" 5 0 0 127 := cx
  have L168 : ∀  (I : (Nat → Nat → Int32)) (J : (Nat → Nat → Int64)) (a4 : Int32), P_X5_seek_168 p I J a4 = some q0 → qc_J F 0 0 168 [some (.ref 33), none, none, none, some (.int a4), none, none, none] [] (I, J, (rX w, kX, nX, n)) := by
    intro I J a4 hP
    unfold P_X5_seek_168 at hP
    refine qj_iload cx dX5_seek_168 rfl ?_
    refine qj_aload_n cx dX5_seek_170 rfl rfl ?_
    refine qw_getI (j := 1) cx dX5_seek_171 qc_cl5 rfl (Nat.lt_of_lt_of_le (by decide) hn) rfl ww_284 ?_
    obtain ⟨v2, hv2, hP⟩ := Option.bind_eq_some_iff.mp hP
    have Kv2 : qc_J F 0 0 183 [some (.ref 33), none, none, none, some (.int a4), none, none, none] [.int v2] (I, J, (rX w, kX, nX, n)) := by
      exact qw_iret cx hz dX5_seek_183 (Nat.zero_le _) (Nat.zero_le _) (congrArg (fun q => q.1) (Option.some.inj hP)) (congrArg (fun q => q.2.1) (Option.some.inj hP)) (congrArg (fun q => q.2.2) (Option.some.inj hP))
    refine qj_icmp_ne (tgt := 181) cx dX5_seek_174 (by decide) (fun c1 => ?_) (fun c1 => ?_)
    · have hv2 := qc_ifF hv2 c1
      refine qj_bipush (v := (-2 : Int32)) cx dX5_seek_181 (by decide) ?_
      exact qw_top (Option.some.inj hv2).symm Kv2
    · have hv2 := qc_ifT hv2 c1
      refine qj_iconst (v := (0 : Int32)) cx dX5_seek_177 (by decide) ?_
      refine qj_goto (tgt := 183) cx dX5_seek_178 (by decide) ?_
      exact qw_top (Option.some.inj hv2).symm Kv2
  have L162 : ∀ (k28 : (Nat → Nat → Int32) → (Nat → Nat → Int64) → Int32 → Int32 → Int32 → Option (Int32 × (Nat → Nat → Int32) × (Nat → Nat → Int64))) (g28 : ∀ (I : Nat → Nat → Int32) (J : Nat → Nat → Int64) (a3 : Int32) (a4 : Int32) (a5 : Int32), k28 I J a3 a4 a5 = some q0 → qc_J F 0 0 28 [some (.ref 33), some (.ref 22), some (.ref p), some (.int a3), some (.int a4), some (.int a5), none, none] [] (I, J, (rX w, kX, nX, n))) (I : (Nat → Nat → Int32)) (J : (Nat → Nat → Int64)) (a3 : Int32) (a4 : Int32) (a5 : Int32), P_X5_seek_162 p k28 I J a3 a4 a5 = some q0 → qc_J F 0 0 162 [some (.ref 33), some (.ref 22), some (.ref p), some (.int a3), some (.int a4), some (.int a5), none, none] [] (I, J, (rX w, kX, nX, n)) := by
    intro k28 g28 I J a3 a4 a5 hP
    unfold P_X5_seek_162 at hP
    obtain ⟨x3, ex3, hP⟩ := qc_letE hP
    refine qj_iinc (v := x3) (ls1 := [some (.ref 33), some (.ref 22), some (.ref p), some (.int a3), some (.int a4), some (.int x3), none, none]) cx dX5_seek_162 rfl (by rw [ex3]; rfl) rfl rfl ?_
    refine qj_goto (tgt := 28) cx dX5_seek_165 (by decide) ?_
    exact g28 I J a3 a4 x3 hP
  have L28 : ∀  (f : Nat) (I : (Nat → Nat → Int32)) (J : (Nat → Nat → Int64)) (a3 : Int32) (a4 : Int32) (a5 : Int32), P_X5_seek_28 p f I J a3 a4 a5 = some q0 → qc_J F 0 0 28 [some (.ref 33), some (.ref 22), some (.ref p), some (.int a3), some (.int a4), some (.int a5), none, none] [] (I, J, (rX w, kX, nX, n)) := by
    intro  f
    induction f with
    | zero => intro I J a3 a4 a5 hP; cases hP
    | succ f ih =>
      intro I J a3 a4 a5 hP
      rw [P_X5_seek_28] at hP
      refine qj_iload cx dX5_seek_28 rfl ?_
      refine qj_sipush (v := (1202 : Int32)) cx dX5_seek_30 (by decide) ?_
      refine qj_icmp_ge (tgt := 168) cx dX5_seek_33 (by decide) (fun c4 => ?_) (fun c4 => ?_)
      · have hP := qc_ifT hP c4
        refine qw_sub (ls1 := [some (.ref 33), none, none, none, some (.int a4), none, none, none]) rfl (qc_sb_ok ⟨rfl, rfl, trivial⟩) ?_
        exact L168 I J a4 hP
      · have hP := qc_ifF hP c4
        refine qj_iload cx dX5_seek_36 rfl ?_
        refine qj_if_lt (tgt := 168) cx dX5_seek_38 (by decide) (fun c5 => ?_) (fun c5 => ?_)
        · have hP := qc_ifT hP c5
          refine qw_sub (ls1 := [some (.ref 33), none, none, none, some (.int a4), none, none, none]) rfl (qc_sb_ok ⟨rfl, rfl, trivial⟩) ?_
          exact L168 I J a4 hP
        · have hP := qc_ifF hP c5
          refine qj_iload cx dX5_seek_41 rfl ?_
          refine qj_aload_n cx dX5_seek_43 rfl rfl ?_
          refine qw_getI (j := 1) cx dX5_seek_44 qc_cl5 rfl (Nat.lt_of_lt_of_le (by decide) hn) rfl ww_284 ?_
          refine qj_icmp_ge (tgt := 168) cx dX5_seek_47 (by decide) (fun c6 => ?_) (fun c6 => ?_)
          · have hP := qc_ifT hP c6
            refine qw_sub (ls1 := [some (.ref 33), none, none, none, some (.int a4), none, none, none]) rfl (qc_sb_ok ⟨rfl, rfl, trivial⟩) ?_
            exact L168 I J a4 hP
          · have hP := qc_ifF hP c6
            refine qj_aload_n cx dX5_seek_50 rfl rfl ?_
            refine qw_getR (j := 0) (t1 := 34) cx dX5_seek_51 qc_cl5 rfl (Nat.lt_of_lt_of_le (by decide) hn) rfl ww_283 rfl ?_
            refine qj_iload cx dX5_seek_54 rfl ?_
            obtain ⟨c7, hP⟩ := qc_ck hP
            refine qw_iald (n1 := 6) cx dX5_seek_56 rfl (Nat.lt_of_lt_of_le (by decide) hn) rfl c7 ?_
            obtain ⟨x8, ex8, hP⟩ := qc_letE hP
            refine qw_top ex8 ?_
            refine qj_istore (ls1 := [some (.ref 33), some (.ref 22), some (.ref p), some (.int a3), some (.int a4), some (.int a5), some (.int x8), none]) cx dX5_seek_57 rfl rfl rfl ?_
            refine qj_aload_n cx dX5_seek_59 rfl rfl ?_
            refine qw_getR (j := 11) (t1 := (p + 1 + 4)) cx dX5_seek_60 qc_cl4 hp.2.1 (qc_ltp0 hp.1) rfl ww_187 ((hp.2.2 4 (by decide)).2.2 _) ?_
            refine qj_iload cx dX5_seek_63 rfl ?_
            obtain ⟨c9, hP⟩ := qc_ck hP
            refine qw_iald (n1 := 8) cx dX5_seek_65 (hp.2.2 4 (by decide)).1 (qc_ltp hp.1 (by decide)) (hp.2.2 4 (by decide)).2.1 c9 ?_
            refine qj_aload_n cx dX5_seek_66 rfl rfl ?_
            refine qw_getR (j := 13) (t1 := (p + 1 + 6)) cx dX5_seek_67 qc_cl4 hp.2.1 (qc_ltp0 hp.1) rfl ww_196 ((hp.2.2 6 (by decide)).2.2 _) ?_
            refine qj_iload cx dX5_seek_70 rfl ?_
            obtain ⟨c10, hP⟩ := qc_ck hP
            refine qw_iald (n1 := 8) cx dX5_seek_72 (hp.2.2 6 (by decide)).1 (qc_ltp hp.1 (by decide)) (hp.2.2 6 (by decide)).2.1 c10 ?_
            refine qj_iconst (v := (1 : Int32)) cx dX5_seek_73 (by decide) ?_
            refine qj_iadd cx dX5_seek_74 ?_
            refine qj_max cx dX5_seek_75 ww_673 ww_630 ww_125 ww_631 (by decide) (Nat.le_of_ble_eq_true rfl) (Nat.zero_le _) (Nat.zero_le _) ?_
            obtain ⟨x11, ex11, hP⟩ := qc_letE hP
            refine qw_top ex11 ?_
            refine qj_istore (ls1 := [some (.ref 33), some (.ref 22), some (.ref p), some (.int a3), some (.int a4), some (.int a5), some (.int x8), some (.int x11)]) cx dX5_seek_78 rfl rfl rfl ?_
            refine qj_iload cx dX5_seek_80 rfl ?_
            refine qj_aload_n cx dX5_seek_82 rfl rfl ?_
            refine qw_getR (j := 12) (t1 := (p + 1 + 5)) cx dX5_seek_83 qc_cl4 hp.2.1 (qc_ltp0 hp.1) rfl ww_191 ((hp.2.2 5 (by decide)).2.2 _) ?_
            refine qj_iload cx dX5_seek_86 rfl ?_
            obtain ⟨c12, hP⟩ := qc_ck hP
            refine qw_iald (n1 := 8) cx dX5_seek_88 (hp.2.2 5 (by decide)).1 (qc_ltp hp.1 (by decide)) (hp.2.2 5 (by decide)).2.1 c12 ?_
            refine qj_icmp_le (tgt := 106) cx dX5_seek_89 (by decide) (fun c13 => ?_) (fun c13 => ?_)
            · have hP := qc_ifT hP c13
              refine qj_aload_n cx dX5_seek_106 rfl rfl ?_
              refine qw_getI (j := 2) cx dX5_seek_107 qc_cl5 rfl (Nat.lt_of_lt_of_le (by decide) hn) rfl ww_285 ?_
              refine qj_sipush (v := (600 : Int32)) cx dX5_seek_110 (by decide) ?_
              refine qj_icmp_ne (tgt := 125) cx dX5_seek_113 (by decide) (fun c14 => ?_) (fun c14 => ?_)
              · have hP := qc_ifF hP c14
                refine qj_aload_n cx dX5_seek_125 rfl rfl ?_
                refine qj_dup cx dX5_seek_126 rfl ?_
                refine qw_getI (j := 2) cx dX5_seek_127 qc_cl5 rfl (Nat.lt_of_lt_of_le (by decide) hn) rfl ww_285 ?_
                refine qj_iconst (v := (1 : Int32)) cx dX5_seek_130 (by decide) ?_
                refine qj_iadd cx dX5_seek_131 ?_
                obtain ⟨I15, eI15, hP⟩ := qc_letE hP
                refine qw_putI (j := 2) cx dX5_seek_132 qc_cl5 rfl (Nat.lt_of_lt_of_le (by decide) hn) rfl ww_285 rfl rfl rfl eI15 ?_
                refine qj_aload_n cx dX5_seek_135 rfl rfl ?_
                refine qw_getR (j := 13) (t1 := (p + 1 + 6)) cx dX5_seek_136 qc_cl4 hp.2.1 (qc_ltp0 hp.1) rfl ww_196 ((hp.2.2 6 (by decide)).2.2 _) ?_
                refine qj_iload cx dX5_seek_139 rfl ?_
                refine qj_iload cx dX5_seek_141 rfl ?_
                obtain ⟨c21, hP⟩ := qc_ck hP
                obtain ⟨I16, eI16, hP⟩ := qc_letE hP
                refine qw_iast (n1 := 8) cx dX5_seek_143 (hp.2.2 6 (by decide)).1 (qc_ltp hp.1 (by decide)) (hp.2.2 6 (by decide)).2.1 c21 eI16 ?_
                refine qj_iload cx dX5_seek_144 rfl ?_
                refine qj_aload_n cx dX5_seek_146 rfl rfl ?_
                refine qj_aload_n cx dX5_seek_147 rfl rfl ?_
                obtain ⟨q17, eq17, hP⟩ := Option.bind_eq_some_iff.mp hP
                refine qj_callV (As := [.ref p]) (st := [.int a4]) (t := 22) (h' := (q17.2.1, q17.2.2, (rX w, kX, nX, n))) (r := some (.int q17.1)) cx dX5_seek_148 (c_X2_allClean (I := I16) (J := J) (w := w) hn hn1 hp eq17) gc_RX5_26 qm_X2_allClean rfl rfl qc_cl2 rfl (Nat.lt_of_lt_of_le (by decide) hn) (by decide) (by decide) rfl (Nat.le_of_ble_eq_true rfl) (Nat.le_trans hn1 (by decide)) hn0 rfl ?_
                obtain ⟨v19, hv19, hP⟩ := Option.bind_eq_some_iff.mp hP
                have Kv19 : qc_J F 0 0 159 [some (.ref 33), some (.ref 22), some (.ref p), some (.int a3), some (.int a4), some (.int a5), some (.int x8), some (.int x11)] [.int v19, .int a4] (q17.2.1, q17.2.2, (rX w, kX, nX, n)) := by
                  refine qj_iadd cx dX5_seek_159 ?_
                  obtain ⟨x20, ex20, hP⟩ := qc_letE hP
                  refine qw_top ex20 ?_
                  refine qj_istore (ls1 := [some (.ref 33), some (.ref 22), some (.ref p), some (.int a3), some (.int x20), some (.int a5), some (.int x8), some (.int x11)]) cx dX5_seek_160 rfl rfl rfl ?_
                  refine qw_sub (ls1 := [some (.ref 33), some (.ref 22), some (.ref p), some (.int a3), some (.int x20), some (.int a5), none, none]) rfl (qc_sb_ok ⟨rfl, rfl, rfl, rfl, rfl, rfl, trivial⟩) ?_
                  exact L162 (P_X5_seek_28 p f) ih q17.2.1 q17.2.2 a3 x20 a5 hP
                refine qj_if_eq (tgt := 158) cx dX5_seek_151 (by decide) (fun c18 => ?_) (fun c18 => ?_)
                · have hv19 := qc_ifT hv19 c18
                  refine qj_iconst (v := (0 : Int32)) cx dX5_seek_158 (by decide) ?_
                  exact qw_top (Option.some.inj hv19).symm Kv19
                · have hv19 := qc_ifF hv19 c18
                  refine qj_iconst (v := (1 : Int32)) cx dX5_seek_154 (by decide) ?_
                  refine qj_goto (tgt := 159) cx dX5_seek_155 (by decide) ?_
                  exact qw_top (Option.some.inj hv19).symm Kv19
              · have hP := qc_ifT hP c14
                refine qj_aload_n cx dX5_seek_116 rfl rfl ?_
                refine qj_aload_n cx dX5_seek_117 rfl rfl ?_
                refine qj_iload_n cx dX5_seek_118 rfl rfl ?_
                obtain ⟨q22, eq22, hP⟩ := Option.bind_eq_some_iff.mp hP
                refine qj_callV (As := [.ref p, .int a3]) (st := []) (t := 33) (h' := (q22, J, (rX w, kX, nX, n))) (r := none) cx dX5_seek_119 (c_X5_untune (I := I) (J := J) (w := w) hn hn1 hp eq22) gc_RX5_22 qm_X5_untune rfl rfl qc_cl5 rfl (Nat.lt_of_lt_of_le (by decide) hn) (by decide) (by decide) rfl (Nat.le_of_ble_eq_true rfl) (Nat.le_trans hn1 (by decide)) hn0 rfl ?_
                refine qj_bipush (v := (-3 : Int32)) cx dX5_seek_122 (by decide) ?_
                exact qw_iret cx hz dX5_seek_124 (Nat.zero_le _) (Nat.zero_le _) (congrArg (fun q => q.1) (Option.some.inj hP)) (congrArg (fun q => q.2.1) (Option.some.inj hP)) (congrArg (fun q => q.2.2) (Option.some.inj hP))
            · have hP := qc_ifF hP c13
              refine qj_aload_n cx dX5_seek_92 rfl rfl ?_
              refine qw_getR (j := 13) (t1 := (p + 1 + 6)) cx dX5_seek_93 qc_cl4 hp.2.1 (qc_ltp0 hp.1) rfl ww_196 ((hp.2.2 6 (by decide)).2.2 _) ?_
              refine qj_iload cx dX5_seek_96 rfl ?_
              refine qj_iconst (v := (0 : Int32)) cx dX5_seek_98 (by decide) ?_
              obtain ⟨c25, hP⟩ := qc_ck hP
              obtain ⟨I23, eI23, hP⟩ := qc_letE hP
              refine qw_iast (n1 := 8) cx dX5_seek_99 (hp.2.2 6 (by decide)).1 (qc_ltp hp.1 (by decide)) (hp.2.2 6 (by decide)).2.1 c25 eI23 ?_
              obtain ⟨x24, ex24, hP⟩ := qc_letE hP
              refine qj_iinc (v := x24) (ls1 := [some (.ref 33), some (.ref 22), some (.ref p), some (.int a3), some (.int x24), some (.int a5), some (.int x8), some (.int x11)]) cx dX5_seek_100 rfl (by rw [ex24]; rfl) rfl rfl ?_
              refine qj_goto (tgt := 162) cx dX5_seek_103 (by decide) ?_
              refine qw_sub (ls1 := [some (.ref 33), some (.ref 22), some (.ref p), some (.int a3), some (.int x24), some (.int a5), none, none]) rfl (qc_sb_ok ⟨rfl, rfl, rfl, rfl, rfl, rfl, trivial⟩) ?_
              exact L162 (P_X5_seek_28 p f) ih I23 J a3 x24 a5 hP
  show qc_J F 0 0 0 [some (.ref 33), some (.ref 22), some (.ref p), some (.int a), none, none, none, none] [] (I, J, (rX w, kX, nX, n))
  unfold P_X5_seek at hP
  refine qj_aload_n cx dX5_seek_0 rfl rfl ?_
  refine qj_aload_n cx dX5_seek_1 rfl rfl ?_
  refine qj_iload_n cx dX5_seek_2 rfl rfl ?_
  obtain ⟨q26, eq26, hP⟩ := Option.bind_eq_some_iff.mp hP
  refine qj_callV (As := [.ref p, .int a]) (st := []) (t := 33) (h' := (q26, J, (rX w, kX, nX, n))) (r := none) cx dX5_seek_3 (c_X5_untune (I := I) (J := J) (w := w) hn hn1 hp eq26) gc_RX5_22 qm_X5_untune rfl rfl qc_cl5 rfl (Nat.lt_of_lt_of_le (by decide) hn) (by decide) (by decide) rfl (Nat.le_of_ble_eq_true rfl) (Nat.le_trans hn1 (by decide)) hn0 rfl ?_
  refine qj_aload_n cx dX5_seek_6 rfl rfl ?_
  refine qj_iconst (v := (0 : Int32)) cx dX5_seek_7 (by decide) ?_
  obtain ⟨I27, eI27, hP⟩ := qc_letE hP
  refine qw_putI (j := 2) cx dX5_seek_8 qc_cl5 rfl (Nat.lt_of_lt_of_le (by decide) hn) rfl ww_285 rfl rfl rfl eI27 ?_
  refine qj_aload_n cx dX5_seek_11 rfl rfl ?_
  refine qj_aload_n cx dX5_seek_12 rfl rfl ?_
  obtain ⟨q28, eq28, hP⟩ := Option.bind_eq_some_iff.mp hP
  refine qj_callV (As := [.ref p]) (st := []) (t := 22) (h' := (q28.2.1, q28.2.2, (rX w, kX, nX, n))) (r := some (.int q28.1)) cx dX5_seek_13 (c_X2_allClean (I := I27) (J := J) (w := w) hn hn1 hp eq28) gc_RX5_26 qm_X2_allClean rfl rfl qc_cl2 rfl (Nat.lt_of_lt_of_le (by decide) hn) (by decide) (by decide) rfl (Nat.le_of_ble_eq_true rfl) (Nat.le_trans hn1 (by decide)) hn0 rfl ?_
  refine qj_if_ne (tgt := 22) cx dX5_seek_16 (by decide) (fun c29 => ?_) (fun c29 => ?_)
  · have hP := qc_ifF hP c29
    refine qj_iconst (v := (0 : Int32)) cx dX5_seek_22 (by decide) ?_
    refine qj_istore (ls1 := [some (.ref 33), some (.ref 22), some (.ref p), some (.int a), some (.int (0 : Int32)), none, none, none]) cx dX5_seek_23 rfl rfl rfl ?_
    refine qj_iconst (v := (0 : Int32)) cx dX5_seek_25 (by decide) ?_
    refine qj_istore (ls1 := [some (.ref 33), some (.ref 22), some (.ref p), some (.int a), some (.int (0 : Int32)), some (.int (0 : Int32)), none, none]) cx dX5_seek_26 rfl rfl rfl ?_
    exact L28 qc_fu q28.2.1 q28.2.2 a (0 : Int32) (0 : Int32) hP
  · have hP := qc_ifT hP c29
    refine qj_bipush (v := (-2 : Int32)) cx dX5_seek_19 (by decide) ?_
    exact qw_iret cx hz dX5_seek_21 (Nat.zero_le _) (Nat.zero_le _) (congrArg (fun q => q.1) (Option.some.inj hP)) (congrArg (fun q => q.2.1) (Option.some.inj hP)) (congrArg (fun q => q.2.2) (Option.some.inj hP))
def P_X6_products (I : Nat → Nat → Int32) (J : Nat → Nat → Int64) (a : Int32) : Option (Int32 × (Nat → Nat → Int32) × (Nat → Nat → Int64)) :=
  (P_X2_fill I J 2).bind fun q1 =>
  if a = (0 : Int32) then
  some (q1.1 22 1, q1.1, q1.2)
  else if a = (1 : Int32) then
  (P_X2_sumOfSort q1.1 (-1 : Int32) (1 : Int32)).bind fun q4 =>
  some (q4, q1.1, q1.2)
  else if a = (2 : Int32) then
  some (q1.1 22 2, q1.1, q1.2)
  else if a = (3 : Int32) then
  (P_X4_crowdedCouples q1.1 2).bind fun q7 =>
  some (q7, q1.1, q1.2)
  else 
  some ((-1 : Int32), q1.1, q1.2)
set_option maxRecDepth 20000 in
theorem c_X6_products {I : Nat → Nat → Int32} {J : Nat → Nat → Int64} {w : Nat → Nat} {n : Nat} (hn : 121 ≤ n) (hn1 : n ≤ 200) {a : Int32} {q0 : Int32 × (Nat → Nat → Int32) × (Nat → Nat → Int64)} (hP : P_X6_products I J a = some q0) : ∀ l, qc_M l yX6_products cX6_products 2 (some .int) 5 127 0 0 [.ref 0, .int a] (I, J, (rX w, kX, nX, n)) (some (.int q0.1)) (q0.2.1, q0.2.2, (rX w, kX, nX, n)) := by
  intro l
  refine qc_ent2 (by decide) (Nat.le_of_ble_eq_true rfl) ?_
  intro F hn0 cx hz
  have cx : qc_X F cX6_products RX6 "products" 5 0 0 127 := cx
  show qc_J F 0 0 0 [some (.ref 0), some (.int a)] [] (I, J, (rX w, kX, nX, n))
  unfold P_X6_products at hP
  refine qj_aload_n cx dX6_products_0 rfl rfl ?_
  refine qw_getR (j := 6) (t1 := 22) cx dX6_products_1 qc_cl6 rfl (Nat.lt_of_lt_of_le (by decide) hn) rfl ww_336 rfl ?_
  refine qj_aload_n cx dX6_products_4 rfl rfl ?_
  refine qw_getR (j := 4) (t1 := 2) cx dX6_products_5 qc_cl6 rfl (Nat.lt_of_lt_of_le (by decide) hn) rfl ww_334 rfl ?_
  obtain ⟨q1, eq1, hP⟩ := Option.bind_eq_some_iff.mp hP
  refine qj_callV (As := [.ref 2]) (st := []) (t := 22) (h' := (q1.1, q1.2, (rX w, kX, nX, n))) (r := none) cx dX6_products_8 (c_X2_fill (I := I) (J := J) (w := w) hn hn1 (qc_sc2 hn) eq1) gc_RX6_202 qm_X2_fill rfl rfl qc_cl2 rfl (Nat.lt_of_lt_of_le (by decide) hn) (by decide) (by decide) rfl (Nat.le_of_ble_eq_true rfl) (Nat.le_trans hn1 (by decide)) hn0 rfl ?_
  refine qj_iload_n cx dX6_products_11 rfl rfl ?_
  by_cases c2 : a = (0 : Int32)
  · have hP := qc_ifT hP c2
    refine qj_tableIn (off := 32) (tgt := 44) cx dX6_products_12 (by rw [c2]; decide) (by rw [c2]; decide) (by rw [c2]; rfl) (by decide) ?_
    refine qj_aload_n cx dX6_products_44 rfl rfl ?_
    refine qw_getR (j := 6) (t1 := 22) cx dX6_products_45 qc_cl6 rfl (Nat.lt_of_lt_of_le (by decide) hn) rfl ww_336 rfl ?_
    refine qw_getI (j := 1) cx dX6_products_48 qc_cl2 rfl (Nat.lt_of_lt_of_le (by decide) hn) rfl ww_255 ?_
    exact qw_iret cx hz dX6_products_51 (Nat.zero_le _) (Nat.zero_le _) (congrArg (fun q => q.1) (Option.some.inj hP)) (congrArg (fun q => q.2.1) (Option.some.inj hP)) (congrArg (fun q => q.2.2) (Option.some.inj hP))
  have hP := qc_ifF hP c2
  by_cases c3 : a = (1 : Int32)
  · have hP := qc_ifT hP c3
    refine qj_tableIn (off := 40) (tgt := 52) cx dX6_products_12 (by rw [c3]; decide) (by rw [c3]; decide) (by rw [c3]; rfl) (by decide) ?_
    refine qj_aload_n cx dX6_products_52 rfl rfl ?_
    refine qw_getR (j := 6) (t1 := 22) cx dX6_products_53 qc_cl6 rfl (Nat.lt_of_lt_of_le (by decide) hn) rfl ww_336 rfl ?_
    refine qj_iconst (v := (-1 : Int32)) cx dX6_products_56 (by decide) ?_
    refine qj_iconst (v := (1 : Int32)) cx dX6_products_57 (by decide) ?_
    obtain ⟨q4, eq4, hP⟩ := Option.bind_eq_some_iff.mp hP
    refine qj_callV (As := [.int (-1 : Int32), .int (1 : Int32)]) (st := []) (t := 22) (h' := (q1.1, q1.2, (rX w, kX, nX, n))) (r := some (.int q4)) cx dX6_products_58 (c_X2_sumOfSort (I := q1.1) (J := q1.2) (w := w) hn hn1 eq4) gc_RX6_206 qm_X2_sumOfSort rfl rfl qc_cl2 rfl (Nat.lt_of_lt_of_le (by decide) hn) (by decide) (by decide) rfl (Nat.le_of_ble_eq_true rfl) (Nat.le_trans hn1 (by decide)) hn0 rfl ?_
    exact qw_iret cx hz dX6_products_61 (Nat.zero_le _) (Nat.zero_le _) (congrArg (fun q => q.1) (Option.some.inj hP)) (congrArg (fun q => q.2.1) (Option.some.inj hP)) (congrArg (fun q => q.2.2) (Option.some.inj hP))
  have hP := qc_ifF hP c3
  by_cases c5 : a = (2 : Int32)
  · have hP := qc_ifT hP c5
    refine qj_tableIn (off := 50) (tgt := 62) cx dX6_products_12 (by rw [c5]; decide) (by rw [c5]; decide) (by rw [c5]; rfl) (by decide) ?_
    refine qj_aload_n cx dX6_products_62 rfl rfl ?_
    refine qw_getR (j := 6) (t1 := 22) cx dX6_products_63 qc_cl6 rfl (Nat.lt_of_lt_of_le (by decide) hn) rfl ww_336 rfl ?_
    refine qw_getI (j := 2) cx dX6_products_66 qc_cl2 rfl (Nat.lt_of_lt_of_le (by decide) hn) rfl ww_257 ?_
    exact qw_iret cx hz dX6_products_69 (Nat.zero_le _) (Nat.zero_le _) (congrArg (fun q => q.1) (Option.some.inj hP)) (congrArg (fun q => q.2.1) (Option.some.inj hP)) (congrArg (fun q => q.2.2) (Option.some.inj hP))
  have hP := qc_ifF hP c5
  by_cases c6 : a = (3 : Int32)
  · have hP := qc_ifT hP c6
    refine qj_tableIn (off := 58) (tgt := 70) cx dX6_products_12 (by rw [c6]; decide) (by rw [c6]; decide) (by rw [c6]; rfl) (by decide) ?_
    refine qj_aload_n cx dX6_products_70 rfl rfl ?_
    refine qw_getR (j := 4) (t1 := 2) cx dX6_products_71 qc_cl6 rfl (Nat.lt_of_lt_of_le (by decide) hn) rfl ww_334 rfl ?_
    obtain ⟨q7, eq7, hP⟩ := Option.bind_eq_some_iff.mp hP
    refine qj_callV (As := []) (st := []) (t := 2) (h' := (q1.1, q1.2, (rX w, kX, nX, n))) (r := some (.int q7)) cx dX6_products_74 (c_X4_crowdedCouples (I := q1.1) (J := q1.2) (w := w) hn hn1 (qc_sc2 hn) eq7) gc_RX6_213 qm_X4_crowdedCouples rfl rfl qc_cl4 rfl (Nat.lt_of_lt_of_le (by decide) hn) (by decide) (by decide) rfl (Nat.le_of_ble_eq_true rfl) (Nat.le_trans hn1 (by decide)) hn0 rfl ?_
    exact qw_iret cx hz dX6_products_77 (Nat.zero_le _) (Nat.zero_le _) (congrArg (fun q => q.1) (Option.some.inj hP)) (congrArg (fun q => q.2.1) (Option.some.inj hP)) (congrArg (fun q => q.2.2) (Option.some.inj hP))
  have hP := qc_ifF hP c6
  refine qj_tableOut (tgt := 78) cx dX6_products_12 (by have := lv_neT (a := 0) c2 (by decide); have := lv_neT (a := 1) c3 (by decide); have := lv_neT (a := 2) c5 (by decide); have := lv_neT (a := 3) c6 (by decide); omega) (by decide) ?_
  refine qj_iconst (v := (-1 : Int32)) cx dX6_products_78 (by decide) ?_
  exact qw_iret cx hz dX6_products_79 (Nat.zero_le _) (Nat.zero_le _) (congrArg (fun q => q.1) (Option.some.inj hP)) (congrArg (fun q => q.2.1) (Option.some.inj hP)) (congrArg (fun q => q.2.2) (Option.some.inj hP))
def P_X6_product (I : Nat → Nat → Int32) (J : Nat → Nat → Int64) (a : Int32) (b : Int32) : Option (Int32 × (Nat → Nat → Int32) × (Nat → Nat → Int64)) :=
  (P_X2_fill I J 2).bind fun q1 =>
  if a < 0 then
  some ((-1000 : Int32), q1.1, q1.2)
  else
  if q1.1 22 1 ≤ a then
  some ((-1000 : Int32), q1.1, q1.2)
  else
  if b < 0 then
  some ((-1000 : Int32), q1.1, q1.2)
  else
  if b ≤ (6 : Int32) then
  (if qc_in b 8 then
  if qc_in a 700 then
  some (q1.1 (24 + b.toNatClampNeg) a.toNatClampNeg, q1.1, q1.2)
  else none
  else none)
  else
  some ((-1000 : Int32), q1.1, q1.2)
set_option maxRecDepth 20000 in
theorem c_X6_product {I : Nat → Nat → Int32} {J : Nat → Nat → Int64} {w : Nat → Nat} {n : Nat} (hn : 121 ≤ n) (hn1 : n ≤ 200) {a : Int32} {b : Int32} {q0 : Int32 × (Nat → Nat → Int32) × (Nat → Nat → Int64)} (hP : P_X6_product I J a b = some q0) : ∀ l, qc_M l yX6_product cX6_product 3 (some .int) 5 127 0 0 [.ref 0, .int a, .int b] (I, J, (rX w, kX, nX, n)) (some (.int q0.1)) (q0.2.1, q0.2.2, (rX w, kX, nX, n)) := by
  intro l
  refine qc_ent2 (by decide) (Nat.le_of_ble_eq_true rfl) ?_
  intro F hn0 cx hz
  have cx : qc_X F cX6_product RX6 "product" 5 0 0 127 := cx
  show qc_J F 0 0 0 [some (.ref 0), some (.int a), some (.int b)] [] (I, J, (rX w, kX, nX, n))
  unfold P_X6_product at hP
  refine qj_aload_n cx dX6_product_0 rfl rfl ?_
  refine qw_getR (j := 6) (t1 := 22) cx dX6_product_1 qc_cl6 rfl (Nat.lt_of_lt_of_le (by decide) hn) rfl ww_336 rfl ?_
  refine qj_aload_n cx dX6_product_4 rfl rfl ?_
  refine qw_getR (j := 4) (t1 := 2) cx dX6_product_5 qc_cl6 rfl (Nat.lt_of_lt_of_le (by decide) hn) rfl ww_334 rfl ?_
  obtain ⟨q1, eq1, hP⟩ := Option.bind_eq_some_iff.mp hP
  refine qj_callV (As := [.ref 2]) (st := []) (t := 22) (h' := (q1.1, q1.2, (rX w, kX, nX, n))) (r := none) cx dX6_product_8 (c_X2_fill (I := I) (J := J) (w := w) hn hn1 (qc_sc2 hn) eq1) gc_RX6_202 qm_X2_fill rfl rfl qc_cl2 rfl (Nat.lt_of_lt_of_le (by decide) hn) (by decide) (by decide) rfl (Nat.le_of_ble_eq_true rfl) (Nat.le_trans hn1 (by decide)) hn0 rfl ?_
  refine qj_iload_n cx dX6_product_11 rfl rfl ?_
  refine qj_if_lt (tgt := 36) cx dX6_product_12 (by decide) (fun c2 => ?_) (fun c2 => ?_)
  · have hP := qc_ifT hP c2
    refine qj_sipush (v := (-1000 : Int32)) cx dX6_product_36 (by decide) ?_
    exact qw_iret cx hz dX6_product_39 (Nat.zero_le _) (Nat.zero_le _) (congrArg (fun q => q.1) (Option.some.inj hP)) (congrArg (fun q => q.2.1) (Option.some.inj hP)) (congrArg (fun q => q.2.2) (Option.some.inj hP))
  · have hP := qc_ifF hP c2
    refine qj_iload_n cx dX6_product_15 rfl rfl ?_
    refine qj_aload_n cx dX6_product_16 rfl rfl ?_
    refine qw_getR (j := 6) (t1 := 22) cx dX6_product_17 qc_cl6 rfl (Nat.lt_of_lt_of_le (by decide) hn) rfl ww_336 rfl ?_
    refine qw_getI (j := 1) cx dX6_product_20 qc_cl2 rfl (Nat.lt_of_lt_of_le (by decide) hn) rfl ww_255 ?_
    refine qj_icmp_ge (tgt := 36) cx dX6_product_23 (by decide) (fun c3 => ?_) (fun c3 => ?_)
    · have hP := qc_ifT hP c3
      refine qj_sipush (v := (-1000 : Int32)) cx dX6_product_36 (by decide) ?_
      exact qw_iret cx hz dX6_product_39 (Nat.zero_le _) (Nat.zero_le _) (congrArg (fun q => q.1) (Option.some.inj hP)) (congrArg (fun q => q.2.1) (Option.some.inj hP)) (congrArg (fun q => q.2.2) (Option.some.inj hP))
    · have hP := qc_ifF hP c3
      refine qj_iload_n cx dX6_product_26 rfl rfl ?_
      refine qj_if_lt (tgt := 36) cx dX6_product_27 (by decide) (fun c4 => ?_) (fun c4 => ?_)
      · have hP := qc_ifT hP c4
        refine qj_sipush (v := (-1000 : Int32)) cx dX6_product_36 (by decide) ?_
        exact qw_iret cx hz dX6_product_39 (Nat.zero_le _) (Nat.zero_le _) (congrArg (fun q => q.1) (Option.some.inj hP)) (congrArg (fun q => q.2.1) (Option.some.inj hP)) (congrArg (fun q => q.2.2) (Option.some.inj hP))
      · have hP := qc_ifF hP c4
        refine qj_iload_n cx dX6_product_30 rfl rfl ?_
        refine qj_bipush (v := (6 : Int32)) cx dX6_product_31 (by decide) ?_
        refine qj_icmp_le (tgt := 40) cx dX6_product_33 (by decide) (fun c5 => ?_) (fun c5 => ?_)
        · have hP := qc_ifT hP c5
          refine qj_aload_n cx dX6_product_40 rfl rfl ?_
          refine qw_getR (j := 6) (t1 := 22) cx dX6_product_41 qc_cl6 rfl (Nat.lt_of_lt_of_le (by decide) hn) rfl ww_336 rfl ?_
          refine qw_getR (j := 0) (t1 := 23) cx dX6_product_44 qc_cl2 rfl (Nat.lt_of_lt_of_le (by decide) hn) rfl ww_253 rfl ?_
          refine qj_iload_n cx dX6_product_47 rfl rfl ?_
          obtain ⟨c6, hP⟩ := qc_ck hP
          refine qw_aald (n1 := 8) (t1 := (24 + b.toNatClampNeg)) cx dX6_product_48 rfl (Or.inr ⟨rfl, rfl⟩) (Nat.lt_of_lt_of_le (by decide) hn) rfl c6 (rX_col (w := w) _ (qc_inlt c6)) ?_
          refine qj_iload_n cx dX6_product_49 rfl rfl ?_
          obtain ⟨c7, hP⟩ := qc_ck hP
          refine qw_iald (n1 := 700) cx dX6_product_50 (kX_col _ (qc_inlt c6)) (Nat.lt_of_lt_of_le (kX_col_lt (qc_inlt c6)) hn) (nX_col _ (qc_inlt c6)) c7 ?_
          exact qw_iret cx hz dX6_product_51 (Nat.zero_le _) (Nat.zero_le _) (congrArg (fun q => q.1) (Option.some.inj hP)) (congrArg (fun q => q.2.1) (Option.some.inj hP)) (congrArg (fun q => q.2.2) (Option.some.inj hP))
        · have hP := qc_ifF hP c5
          refine qj_sipush (v := (-1000 : Int32)) cx dX6_product_36 (by decide) ?_
          exact qw_iret cx hz dX6_product_39 (Nat.zero_le _) (Nat.zero_le _) (congrArg (fun q => q.1) (Option.some.inj hP)) (congrArg (fun q => q.2.1) (Option.some.inj hP)) (congrArg (fun q => q.2.2) (Option.some.inj hP))
def P_X6_bySort (I : Nat → Nat → Int32) (J : Nat → Nat → Int64) (a : Int32) (b : Int32) : Option (Int32 × (Nat → Nat → Int32) × (Nat → Nat → Int64)) :=
  if a < 0 then
  some ((-1 : Int32), I, J)
  else
  if (6 : Int32) ≤ a then
  some ((-1 : Int32), I, J)
  else
  if b < 0 then
  some ((-1 : Int32), I, J)
  else
  if b ≤ (2 : Int32) then
  (P_X2_fill I J 2).bind fun q5 =>
  (P_X2_sumOfSort q5.1 a b).bind fun q6 =>
  some (q6, q5.1, q5.2)
  else
  some ((-1 : Int32), I, J)
set_option maxRecDepth 20000 in
theorem c_X6_bySort {I : Nat → Nat → Int32} {J : Nat → Nat → Int64} {w : Nat → Nat} {n : Nat} (hn : 121 ≤ n) (hn1 : n ≤ 200) {a : Int32} {b : Int32} {q0 : Int32 × (Nat → Nat → Int32) × (Nat → Nat → Int64)} (hP : P_X6_bySort I J a b = some q0) : ∀ l, qc_M l yX6_bySort cX6_bySort 3 (some .int) 5 127 0 0 [.ref 0, .int a, .int b] (I, J, (rX w, kX, nX, n)) (some (.int q0.1)) (q0.2.1, q0.2.2, (rX w, kX, nX, n)) := by
  intro l
  refine qc_ent2 (by decide) (Nat.le_of_ble_eq_true rfl) ?_
  intro F hn0 cx hz
  have cx : qc_X F cX6_bySort RX6 "bySort" 5 0 0 127 := cx
  show qc_J F 0 0 0 [some (.ref 0), some (.int a), some (.int b)] [] (I, J, (rX w, kX, nX, n))
  unfold P_X6_bySort at hP
  refine qj_iload_n cx dX6_bySort_0 rfl rfl ?_
  refine qj_if_lt (tgt := 19) cx dX6_bySort_1 (by decide) (fun c1 => ?_) (fun c1 => ?_)
  · have hP := qc_ifT hP c1
    refine qj_iconst (v := (-1 : Int32)) cx dX6_bySort_19 (by decide) ?_
    exact qw_iret cx hz dX6_bySort_20 (Nat.zero_le _) (Nat.zero_le _) (congrArg (fun q => q.1) (Option.some.inj hP)) (congrArg (fun q => q.2.1) (Option.some.inj hP)) (congrArg (fun q => q.2.2) (Option.some.inj hP))
  · have hP := qc_ifF hP c1
    refine qj_iload_n cx dX6_bySort_4 rfl rfl ?_
    refine qj_bipush (v := (6 : Int32)) cx dX6_bySort_5 (by decide) ?_
    refine qj_icmp_ge (tgt := 19) cx dX6_bySort_7 (by decide) (fun c2 => ?_) (fun c2 => ?_)
    · have hP := qc_ifT hP c2
      refine qj_iconst (v := (-1 : Int32)) cx dX6_bySort_19 (by decide) ?_
      exact qw_iret cx hz dX6_bySort_20 (Nat.zero_le _) (Nat.zero_le _) (congrArg (fun q => q.1) (Option.some.inj hP)) (congrArg (fun q => q.2.1) (Option.some.inj hP)) (congrArg (fun q => q.2.2) (Option.some.inj hP))
    · have hP := qc_ifF hP c2
      refine qj_iload_n cx dX6_bySort_10 rfl rfl ?_
      refine qj_if_lt (tgt := 19) cx dX6_bySort_11 (by decide) (fun c3 => ?_) (fun c3 => ?_)
      · have hP := qc_ifT hP c3
        refine qj_iconst (v := (-1 : Int32)) cx dX6_bySort_19 (by decide) ?_
        exact qw_iret cx hz dX6_bySort_20 (Nat.zero_le _) (Nat.zero_le _) (congrArg (fun q => q.1) (Option.some.inj hP)) (congrArg (fun q => q.2.1) (Option.some.inj hP)) (congrArg (fun q => q.2.2) (Option.some.inj hP))
      · have hP := qc_ifF hP c3
        refine qj_iload_n cx dX6_bySort_14 rfl rfl ?_
        refine qj_iconst (v := (2 : Int32)) cx dX6_bySort_15 (by decide) ?_
        refine qj_icmp_le (tgt := 21) cx dX6_bySort_16 (by decide) (fun c4 => ?_) (fun c4 => ?_)
        · have hP := qc_ifT hP c4
          refine qj_aload_n cx dX6_bySort_21 rfl rfl ?_
          refine qw_getR (j := 6) (t1 := 22) cx dX6_bySort_22 qc_cl6 rfl (Nat.lt_of_lt_of_le (by decide) hn) rfl ww_336 rfl ?_
          refine qj_aload_n cx dX6_bySort_25 rfl rfl ?_
          refine qw_getR (j := 4) (t1 := 2) cx dX6_bySort_26 qc_cl6 rfl (Nat.lt_of_lt_of_le (by decide) hn) rfl ww_334 rfl ?_
          obtain ⟨q5, eq5, hP⟩ := Option.bind_eq_some_iff.mp hP
          refine qj_callV (As := [.ref 2]) (st := []) (t := 22) (h' := (q5.1, q5.2, (rX w, kX, nX, n))) (r := none) cx dX6_bySort_29 (c_X2_fill (I := I) (J := J) (w := w) hn hn1 (qc_sc2 hn) eq5) gc_RX6_202 qm_X2_fill rfl rfl qc_cl2 rfl (Nat.lt_of_lt_of_le (by decide) hn) (by decide) (by decide) rfl (Nat.le_of_ble_eq_true rfl) (Nat.le_trans hn1 (by decide)) hn0 rfl ?_
          refine qj_aload_n cx dX6_bySort_32 rfl rfl ?_
          refine qw_getR (j := 6) (t1 := 22) cx dX6_bySort_33 qc_cl6 rfl (Nat.lt_of_lt_of_le (by decide) hn) rfl ww_336 rfl ?_
          refine qj_iload_n cx dX6_bySort_36 rfl rfl ?_
          refine qj_iload_n cx dX6_bySort_37 rfl rfl ?_
          obtain ⟨q6, eq6, hP⟩ := Option.bind_eq_some_iff.mp hP
          refine qj_callV (As := [.int a, .int b]) (st := []) (t := 22) (h' := (q5.1, q5.2, (rX w, kX, nX, n))) (r := some (.int q6)) cx dX6_bySort_38 (c_X2_sumOfSort (I := q5.1) (J := q5.2) (w := w) hn hn1 eq6) gc_RX6_206 qm_X2_sumOfSort rfl rfl qc_cl2 rfl (Nat.lt_of_lt_of_le (by decide) hn) (by decide) (by decide) rfl (Nat.le_of_ble_eq_true rfl) (Nat.le_trans hn1 (by decide)) hn0 rfl ?_
          exact qw_iret cx hz dX6_bySort_41 (Nat.zero_le _) (Nat.zero_le _) (congrArg (fun q => q.1) (Option.some.inj hP)) (congrArg (fun q => q.2.1) (Option.some.inj hP)) (congrArg (fun q => q.2.2) (Option.some.inj hP))
        · have hP := qc_ifF hP c4
          refine qj_iconst (v := (-1 : Int32)) cx dX6_bySort_19 (by decide) ?_
          exact qw_iret cx hz dX6_bySort_20 (Nat.zero_le _) (Nat.zero_le _) (congrArg (fun q => q.1) (Option.some.inj hP)) (congrArg (fun q => q.2.1) (Option.some.inj hP)) (congrArg (fun q => q.2.2) (Option.some.inj hP))
def P_X6_hits (I : Nat → Nat → Int32) (J : Nat → Nat → Int64) (a : Int32) : Option (Int32 × (Nat → Nat → Int32) × (Nat → Nat → Int64)) :=
  (P_X4_isUser I 2 a).bind fun q1 =>
  if q1 = 0 then
  some ((-1 : Int32), I, J)
  else
  if qc_in a 8 then
  if I 9 a.toNatClampNeg = 0 then
  some ((-2 : Int32), I, J)
  else
  (P_X2_fill I J 2).bind fun q5 =>
  (P_X2_strikesOn q5.1 a).bind fun q6 =>
  some (q6, q5.1, q5.2)
  else none
set_option maxRecDepth 20000 in
theorem c_X6_hits {I : Nat → Nat → Int32} {J : Nat → Nat → Int64} {w : Nat → Nat} {n : Nat} (hn : 121 ≤ n) (hn1 : n ≤ 200) {a : Int32} {q0 : Int32 × (Nat → Nat → Int32) × (Nat → Nat → Int64)} (hP : P_X6_hits I J a = some q0) : ∀ l, qc_M l yX6_hits cX6_hits 2 (some .int) 5 127 0 0 [.ref 0, .int a] (I, J, (rX w, kX, nX, n)) (some (.int q0.1)) (q0.2.1, q0.2.2, (rX w, kX, nX, n)) := by
  intro l
  refine qc_ent2 (by decide) (Nat.le_of_ble_eq_true rfl) ?_
  intro F hn0 cx hz
  have cx : qc_X F cX6_hits RX6 "hits" 5 0 0 127 := cx
  show qc_J F 0 0 0 [some (.ref 0), some (.int a)] [] (I, J, (rX w, kX, nX, n))
  unfold P_X6_hits at hP
  refine qj_aload_n cx dX6_hits_0 rfl rfl ?_
  refine qw_getR (j := 4) (t1 := 2) cx dX6_hits_1 qc_cl6 rfl (Nat.lt_of_lt_of_le (by decide) hn) rfl ww_334 rfl ?_
  refine qj_iload_n cx dX6_hits_4 rfl rfl ?_
  obtain ⟨q1, eq1, hP⟩ := Option.bind_eq_some_iff.mp hP
  refine qj_callV (As := [.int a]) (st := []) (t := 2) (h' := (I, J, (rX w, kX, nX, n))) (r := some (.int q1)) cx dX6_hits_5 (c_X4_isUser (I := I) (J := J) (w := w) hn hn1 (qc_sc2 hn) eq1) gc_RX6_94 qm_X4_isUser rfl rfl qc_cl4 rfl (Nat.lt_of_lt_of_le (by decide) hn) (by decide) (by decide) rfl (Nat.le_of_ble_eq_true rfl) (Nat.le_trans hn1 (by decide)) hn0 rfl ?_
  refine qj_if_ne (tgt := 13) cx dX6_hits_8 (by decide) (fun c2 => ?_) (fun c2 => ?_)
  · have hP := qc_ifF hP c2
    refine qj_aload_n cx dX6_hits_13 rfl rfl ?_
    refine qw_getR (j := 4) (t1 := 2) cx dX6_hits_14 qc_cl6 rfl (Nat.lt_of_lt_of_le (by decide) hn) rfl ww_334 rfl ?_
    refine qw_getR (j := 13) (t1 := 9) cx dX6_hits_17 qc_cl4 rfl (Nat.lt_of_lt_of_le (by decide) hn) rfl ww_198 rfl ?_
    refine qj_iload_n cx dX6_hits_20 rfl rfl ?_
    obtain ⟨c3, hP⟩ := qc_ck hP
    refine qw_iald (n1 := 8) cx dX6_hits_21 rfl (Nat.lt_of_lt_of_le (by decide) hn) rfl c3 ?_
    refine qj_if_ne (tgt := 28) cx dX6_hits_22 (by decide) (fun c4 => ?_) (fun c4 => ?_)
    · have hP := qc_ifF hP c4
      refine qj_aload_n cx dX6_hits_28 rfl rfl ?_
      refine qw_getR (j := 6) (t1 := 22) cx dX6_hits_29 qc_cl6 rfl (Nat.lt_of_lt_of_le (by decide) hn) rfl ww_336 rfl ?_
      refine qj_aload_n cx dX6_hits_32 rfl rfl ?_
      refine qw_getR (j := 4) (t1 := 2) cx dX6_hits_33 qc_cl6 rfl (Nat.lt_of_lt_of_le (by decide) hn) rfl ww_334 rfl ?_
      obtain ⟨q5, eq5, hP⟩ := Option.bind_eq_some_iff.mp hP
      refine qj_callV (As := [.ref 2]) (st := []) (t := 22) (h' := (q5.1, q5.2, (rX w, kX, nX, n))) (r := none) cx dX6_hits_36 (c_X2_fill (I := I) (J := J) (w := w) hn hn1 (qc_sc2 hn) eq5) gc_RX6_202 qm_X2_fill rfl rfl qc_cl2 rfl (Nat.lt_of_lt_of_le (by decide) hn) (by decide) (by decide) rfl (Nat.le_of_ble_eq_true rfl) (Nat.le_trans hn1 (by decide)) hn0 rfl ?_
      refine qj_aload_n cx dX6_hits_39 rfl rfl ?_
      refine qw_getR (j := 6) (t1 := 22) cx dX6_hits_40 qc_cl6 rfl (Nat.lt_of_lt_of_le (by decide) hn) rfl ww_336 rfl ?_
      refine qj_iload_n cx dX6_hits_43 rfl rfl ?_
      obtain ⟨q6, eq6, hP⟩ := Option.bind_eq_some_iff.mp hP
      refine qj_callV (As := [.int a]) (st := []) (t := 22) (h' := (q5.1, q5.2, (rX w, kX, nX, n))) (r := some (.int q6)) cx dX6_hits_44 (c_X2_strikesOn (I := q5.1) (J := q5.2) (w := w) hn hn1 eq6) gc_RX6_220 qm_X2_strikesOn rfl rfl qc_cl2 rfl (Nat.lt_of_lt_of_le (by decide) hn) (by decide) (by decide) rfl (Nat.le_of_ble_eq_true rfl) (Nat.le_trans hn1 (by decide)) hn0 rfl ?_
      exact qw_iret cx hz dX6_hits_47 (Nat.zero_le _) (Nat.zero_le _) (congrArg (fun q => q.1) (Option.some.inj hP)) (congrArg (fun q => q.2.1) (Option.some.inj hP)) (congrArg (fun q => q.2.2) (Option.some.inj hP))
    · have hP := qc_ifT hP c4
      refine qj_bipush (v := (-2 : Int32)) cx dX6_hits_25 (by decide) ?_
      exact qw_iret cx hz dX6_hits_27 (Nat.zero_le _) (Nat.zero_le _) (congrArg (fun q => q.1) (Option.some.inj hP)) (congrArg (fun q => q.2.1) (Option.some.inj hP)) (congrArg (fun q => q.2.2) (Option.some.inj hP))
  · have hP := qc_ifT hP c2
    refine qj_iconst (v := (-1 : Int32)) cx dX6_hits_11 (by decide) ?_
    exact qw_iret cx hz dX6_hits_12 (Nat.zero_le _) (Nat.zero_le _) (congrArg (fun q => q.1) (Option.some.inj hP)) (congrArg (fun q => q.2.1) (Option.some.inj hP)) (congrArg (fun q => q.2.2) (Option.some.inj hP))
def P_X6_hitBy (I : Nat → Nat → Int32) (J : Nat → Nat → Int64) (a : Int32) (b : Int32) : Option (Int32 × (Nat → Nat → Int32) × (Nat → Nat → Int64)) :=
  (P_X4_isUser I 2 a).bind fun q1 =>
  if q1 = 0 then
  some ((-1 : Int32), I, J)
  else
  if 0 ≤ b then
  (P_X2_fill I J 2).bind fun q4 =>
  (P_X2_placeOfStrikeOn q4.1 a b).bind fun q5 =>
  some (q5, q4.1, q4.2)
  else
  some ((-1 : Int32), I, J)
set_option maxRecDepth 20000 in
theorem c_X6_hitBy {I : Nat → Nat → Int32} {J : Nat → Nat → Int64} {w : Nat → Nat} {n : Nat} (hn : 121 ≤ n) (hn1 : n ≤ 200) {a : Int32} {b : Int32} {q0 : Int32 × (Nat → Nat → Int32) × (Nat → Nat → Int64)} (hP : P_X6_hitBy I J a b = some q0) : ∀ l, qc_M l yX6_hitBy cX6_hitBy 3 (some .int) 5 127 0 0 [.ref 0, .int a, .int b] (I, J, (rX w, kX, nX, n)) (some (.int q0.1)) (q0.2.1, q0.2.2, (rX w, kX, nX, n)) := by
  intro l
  refine qc_ent2 (by decide) (Nat.le_of_ble_eq_true rfl) ?_
  intro F hn0 cx hz
  have cx : qc_X F cX6_hitBy RX6 "hitBy" 5 0 0 127 := cx
  show qc_J F 0 0 0 [some (.ref 0), some (.int a), some (.int b)] [] (I, J, (rX w, kX, nX, n))
  unfold P_X6_hitBy at hP
  refine qj_aload_n cx dX6_hitBy_0 rfl rfl ?_
  refine qw_getR (j := 4) (t1 := 2) cx dX6_hitBy_1 qc_cl6 rfl (Nat.lt_of_lt_of_le (by decide) hn) rfl ww_334 rfl ?_
  refine qj_iload_n cx dX6_hitBy_4 rfl rfl ?_
  obtain ⟨q1, eq1, hP⟩ := Option.bind_eq_some_iff.mp hP
  refine qj_callV (As := [.int a]) (st := []) (t := 2) (h' := (I, J, (rX w, kX, nX, n))) (r := some (.int q1)) cx dX6_hitBy_5 (c_X4_isUser (I := I) (J := J) (w := w) hn hn1 (qc_sc2 hn) eq1) gc_RX6_94 qm_X4_isUser rfl rfl qc_cl4 rfl (Nat.lt_of_lt_of_le (by decide) hn) (by decide) (by decide) rfl (Nat.le_of_ble_eq_true rfl) (Nat.le_trans hn1 (by decide)) hn0 rfl ?_
  refine qj_if_eq (tgt := 15) cx dX6_hitBy_8 (by decide) (fun c2 => ?_) (fun c2 => ?_)
  · have hP := qc_ifT hP c2
    refine qj_iconst (v := (-1 : Int32)) cx dX6_hitBy_15 (by decide) ?_
    exact qw_iret cx hz dX6_hitBy_16 (Nat.zero_le _) (Nat.zero_le _) (congrArg (fun q => q.1) (Option.some.inj hP)) (congrArg (fun q => q.2.1) (Option.some.inj hP)) (congrArg (fun q => q.2.2) (Option.some.inj hP))
  · have hP := qc_ifF hP c2
    refine qj_iload_n cx dX6_hitBy_11 rfl rfl ?_
    refine qj_if_ge (tgt := 17) cx dX6_hitBy_12 (by decide) (fun c3 => ?_) (fun c3 => ?_)
    · have hP := qc_ifT hP c3
      refine qj_aload_n cx dX6_hitBy_17 rfl rfl ?_
      refine qw_getR (j := 6) (t1 := 22) cx dX6_hitBy_18 qc_cl6 rfl (Nat.lt_of_lt_of_le (by decide) hn) rfl ww_336 rfl ?_
      refine qj_aload_n cx dX6_hitBy_21 rfl rfl ?_
      refine qw_getR (j := 4) (t1 := 2) cx dX6_hitBy_22 qc_cl6 rfl (Nat.lt_of_lt_of_le (by decide) hn) rfl ww_334 rfl ?_
      obtain ⟨q4, eq4, hP⟩ := Option.bind_eq_some_iff.mp hP
      refine qj_callV (As := [.ref 2]) (st := []) (t := 22) (h' := (q4.1, q4.2, (rX w, kX, nX, n))) (r := none) cx dX6_hitBy_25 (c_X2_fill (I := I) (J := J) (w := w) hn hn1 (qc_sc2 hn) eq4) gc_RX6_202 qm_X2_fill rfl rfl qc_cl2 rfl (Nat.lt_of_lt_of_le (by decide) hn) (by decide) (by decide) rfl (Nat.le_of_ble_eq_true rfl) (Nat.le_trans hn1 (by decide)) hn0 rfl ?_
      refine qj_aload_n cx dX6_hitBy_28 rfl rfl ?_
      refine qw_getR (j := 6) (t1 := 22) cx dX6_hitBy_29 qc_cl6 rfl (Nat.lt_of_lt_of_le (by decide) hn) rfl ww_336 rfl ?_
      refine qj_iload_n cx dX6_hitBy_32 rfl rfl ?_
      refine qj_iload_n cx dX6_hitBy_33 rfl rfl ?_
      obtain ⟨q5, eq5, hP⟩ := Option.bind_eq_some_iff.mp hP
      refine qj_callV (As := [.int a, .int b]) (st := []) (t := 22) (h' := (q4.1, q4.2, (rX w, kX, nX, n))) (r := some (.int q5)) cx dX6_hitBy_34 (c_X2_placeOfStrikeOn (I := q4.1) (J := q4.2) (w := w) hn hn1 eq5) gc_RX6_223 qm_X2_placeOfStrikeOn rfl rfl qc_cl2 rfl (Nat.lt_of_lt_of_le (by decide) hn) (by decide) (by decide) rfl (Nat.le_of_ble_eq_true rfl) (Nat.le_trans hn1 (by decide)) hn0 rfl ?_
      exact qw_iret cx hz dX6_hitBy_37 (Nat.zero_le _) (Nat.zero_le _) (congrArg (fun q => q.1) (Option.some.inj hP)) (congrArg (fun q => q.2.1) (Option.some.inj hP)) (congrArg (fun q => q.2.2) (Option.some.inj hP))
    · have hP := qc_ifF hP c3
      refine qj_iconst (v := (-1 : Int32)) cx dX6_hitBy_15 (by decide) ?_
      exact qw_iret cx hz dX6_hitBy_16 (Nat.zero_le _) (Nat.zero_le _) (congrArg (fun q => q.1) (Option.some.inj hP)) (congrArg (fun q => q.2.1) (Option.some.inj hP)) (congrArg (fun q => q.2.2) (Option.some.inj hP))
def P_X6_loudest (I : Nat → Nat → Int32) (J : Nat → Nat → Int64) : Option (Int32 × (Nat → Nat → Int32) × (Nat → Nat → Int64)) :=
  (P_X2_fill I J 2).bind fun q1 =>
  (P_X2_placeOfLoudest q1.1).bind fun q2 =>
  some (q2, q1.1, q1.2)
set_option maxRecDepth 20000 in
theorem c_X6_loudest {I : Nat → Nat → Int32} {J : Nat → Nat → Int64} {w : Nat → Nat} {n : Nat} (hn : 121 ≤ n) (hn1 : n ≤ 200)  {q0 : Int32 × (Nat → Nat → Int32) × (Nat → Nat → Int64)} (hP : P_X6_loudest I J = some q0) : ∀ l, qc_M l yX6_loudest cX6_loudest 1 (some .int) 5 127 0 0 [.ref 0] (I, J, (rX w, kX, nX, n)) (some (.int q0.1)) (q0.2.1, q0.2.2, (rX w, kX, nX, n)) := by
  intro l
  refine qc_ent2 (by decide) (Nat.le_of_ble_eq_true rfl) ?_
  intro F hn0 cx hz
  have cx : qc_X F cX6_loudest RX6 "loudest" 5 0 0 127 := cx
  show qc_J F 0 0 0 [some (.ref 0)] [] (I, J, (rX w, kX, nX, n))
  unfold P_X6_loudest at hP
  refine qj_aload_n cx dX6_loudest_0 rfl rfl ?_
  refine qw_getR (j := 6) (t1 := 22) cx dX6_loudest_1 qc_cl6 rfl (Nat.lt_of_lt_of_le (by decide) hn) rfl ww_336 rfl ?_
  refine qj_aload_n cx dX6_loudest_4 rfl rfl ?_
  refine qw_getR (j := 4) (t1 := 2) cx dX6_loudest_5 qc_cl6 rfl (Nat.lt_of_lt_of_le (by decide) hn) rfl ww_334 rfl ?_
  obtain ⟨q1, eq1, hP⟩ := Option.bind_eq_some_iff.mp hP
  refine qj_callV (As := [.ref 2]) (st := []) (t := 22) (h' := (q1.1, q1.2, (rX w, kX, nX, n))) (r := none) cx dX6_loudest_8 (c_X2_fill (I := I) (J := J) (w := w) hn hn1 (qc_sc2 hn) eq1) gc_RX6_202 qm_X2_fill rfl rfl qc_cl2 rfl (Nat.lt_of_lt_of_le (by decide) hn) (by decide) (by decide) rfl (Nat.le_of_ble_eq_true rfl) (Nat.le_trans hn1 (by decide)) hn0 rfl ?_
  refine qj_aload_n cx dX6_loudest_11 rfl rfl ?_
  refine qw_getR (j := 6) (t1 := 22) cx dX6_loudest_12 qc_cl6 rfl (Nat.lt_of_lt_of_le (by decide) hn) rfl ww_336 rfl ?_
  obtain ⟨q2, eq2, hP⟩ := Option.bind_eq_some_iff.mp hP
  refine qj_callV (As := []) (st := []) (t := 22) (h' := (q1.1, q1.2, (rX w, kX, nX, n))) (r := some (.int q2)) cx dX6_loudest_15 (c_X2_placeOfLoudest (I := q1.1) (J := q1.2) (w := w) hn hn1 eq2) gc_RX6_226 qm_X2_placeOfLoudest rfl rfl qc_cl2 rfl (Nat.lt_of_lt_of_le (by decide) hn) (by decide) (by decide) rfl (Nat.le_of_ble_eq_true rfl) (Nat.le_trans hn1 (by decide)) hn0 rfl ?_
  exact qw_iret cx hz dX6_loudest_18 (Nat.zero_le _) (Nat.zero_le _) (congrArg (fun q => q.1) (Option.some.inj hP)) (congrArg (fun q => q.2.1) (Option.some.inj hP)) (congrArg (fun q => q.2.2) (Option.some.inj hP))
def P_X6_when (I : Nat → Nat → Int32) (J : Nat → Nat → Int64) (a : Int32) : Option (Int32 × (Nat → Nat → Int32) × (Nat → Nat → Int64)) :=
  (P_X4_isUser I 2 a).bind fun q1 =>
  if q1 = 0 then
  some ((-1 : Int32), I, J)
  else
  (P_X2_fill I J 2).bind fun q3 =>
  (P_X2_slotsOfStrikesOn q3.1 a).bind fun q4 =>
  if qc_in a 8 then
  some (q4 &&& (q3.1 11 a.toNatClampNeg), q3.1, q3.2)
  else none
set_option maxRecDepth 20000 in
theorem c_X6_when {I : Nat → Nat → Int32} {J : Nat → Nat → Int64} {w : Nat → Nat} {n : Nat} (hn : 121 ≤ n) (hn1 : n ≤ 200) {a : Int32} {q0 : Int32 × (Nat → Nat → Int32) × (Nat → Nat → Int64)} (hP : P_X6_when I J a = some q0) : ∀ l, qc_M l yX6_when cX6_when 2 (some .int) 5 127 0 0 [.ref 0, .int a] (I, J, (rX w, kX, nX, n)) (some (.int q0.1)) (q0.2.1, q0.2.2, (rX w, kX, nX, n)) := by
  intro l
  refine qc_ent2 (by decide) (Nat.le_of_ble_eq_true rfl) ?_
  intro F hn0 cx hz
  have cx : qc_X F cX6_when RX6 "when" 5 0 0 127 := cx
  show qc_J F 0 0 0 [some (.ref 0), some (.int a)] [] (I, J, (rX w, kX, nX, n))
  unfold P_X6_when at hP
  refine qj_aload_n cx dX6_when_0 rfl rfl ?_
  refine qw_getR (j := 4) (t1 := 2) cx dX6_when_1 qc_cl6 rfl (Nat.lt_of_lt_of_le (by decide) hn) rfl ww_334 rfl ?_
  refine qj_iload_n cx dX6_when_4 rfl rfl ?_
  obtain ⟨q1, eq1, hP⟩ := Option.bind_eq_some_iff.mp hP
  refine qj_callV (As := [.int a]) (st := []) (t := 2) (h' := (I, J, (rX w, kX, nX, n))) (r := some (.int q1)) cx dX6_when_5 (c_X4_isUser (I := I) (J := J) (w := w) hn hn1 (qc_sc2 hn) eq1) gc_RX6_94 qm_X4_isUser rfl rfl qc_cl4 rfl (Nat.lt_of_lt_of_le (by decide) hn) (by decide) (by decide) rfl (Nat.le_of_ble_eq_true rfl) (Nat.le_trans hn1 (by decide)) hn0 rfl ?_
  refine qj_if_ne (tgt := 13) cx dX6_when_8 (by decide) (fun c2 => ?_) (fun c2 => ?_)
  · have hP := qc_ifF hP c2
    refine qj_aload_n cx dX6_when_13 rfl rfl ?_
    refine qw_getR (j := 6) (t1 := 22) cx dX6_when_14 qc_cl6 rfl (Nat.lt_of_lt_of_le (by decide) hn) rfl ww_336 rfl ?_
    refine qj_aload_n cx dX6_when_17 rfl rfl ?_
    refine qw_getR (j := 4) (t1 := 2) cx dX6_when_18 qc_cl6 rfl (Nat.lt_of_lt_of_le (by decide) hn) rfl ww_334 rfl ?_
    obtain ⟨q3, eq3, hP⟩ := Option.bind_eq_some_iff.mp hP
    refine qj_callV (As := [.ref 2]) (st := []) (t := 22) (h' := (q3.1, q3.2, (rX w, kX, nX, n))) (r := none) cx dX6_when_21 (c_X2_fill (I := I) (J := J) (w := w) hn hn1 (qc_sc2 hn) eq3) gc_RX6_202 qm_X2_fill rfl rfl qc_cl2 rfl (Nat.lt_of_lt_of_le (by decide) hn) (by decide) (by decide) rfl (Nat.le_of_ble_eq_true rfl) (Nat.le_trans hn1 (by decide)) hn0 rfl ?_
    refine qj_aload_n cx dX6_when_24 rfl rfl ?_
    refine qw_getR (j := 6) (t1 := 22) cx dX6_when_25 qc_cl6 rfl (Nat.lt_of_lt_of_le (by decide) hn) rfl ww_336 rfl ?_
    refine qj_iload_n cx dX6_when_28 rfl rfl ?_
    obtain ⟨q4, eq4, hP⟩ := Option.bind_eq_some_iff.mp hP
    refine qj_callV (As := [.int a]) (st := []) (t := 22) (h' := (q3.1, q3.2, (rX w, kX, nX, n))) (r := some (.int q4)) cx dX6_when_29 (c_X2_slotsOfStrikesOn (I := q3.1) (J := q3.2) (w := w) hn hn1 eq4) gc_RX6_229 qm_X2_slotsOfStrikesOn rfl rfl qc_cl2 rfl (Nat.lt_of_lt_of_le (by decide) hn) (by decide) (by decide) rfl (Nat.le_of_ble_eq_true rfl) (Nat.le_trans hn1 (by decide)) hn0 rfl ?_
    refine qj_aload_n cx dX6_when_32 rfl rfl ?_
    refine qw_getR (j := 4) (t1 := 2) cx dX6_when_33 qc_cl6 rfl (Nat.lt_of_lt_of_le (by decide) hn) rfl ww_334 rfl ?_
    refine qw_getR (j := 15) (t1 := 11) cx dX6_when_36 qc_cl4 rfl (Nat.lt_of_lt_of_le (by decide) hn) rfl ww_209 rfl ?_
    refine qj_iload_n cx dX6_when_39 rfl rfl ?_
    obtain ⟨c5, hP⟩ := qc_ck hP
    refine qw_iald (n1 := 8) cx dX6_when_40 rfl (Nat.lt_of_lt_of_le (by decide) hn) rfl c5 ?_
    refine qj_iand cx dX6_when_41 ?_
    exact qw_iret cx hz dX6_when_42 (Nat.zero_le _) (Nat.zero_le _) (congrArg (fun q => q.1) (Option.some.inj hP)) (congrArg (fun q => q.2.1) (Option.some.inj hP)) (congrArg (fun q => q.2.2) (Option.some.inj hP))
  · have hP := qc_ifT hP c2
    refine qj_iconst (v := (-1 : Int32)) cx dX6_when_11 (by decide) ?_
    exact qw_iret cx hz dX6_when_12 (Nat.zero_le _) (Nat.zero_le _) (congrArg (fun q => q.1) (Option.some.inj hP)) (congrArg (fun q => q.2.1) (Option.some.inj hP)) (congrArg (fun q => q.2.2) (Option.some.inj hP))
def P_X6_clearance (I : Nat → Nat → Int32) (J : Nat → Nat → Int64) (a : Int32) : Option (Int32 × (Nat → Nat → Int32) × (Nat → Nat → Int64)) :=
  (P_X4_isUser I 2 a).bind fun q1 =>
  if q1 = 0 then
  some ((-1 : Int32), I, J)
  else
  (P_X2_fill I J 2).bind fun q3 =>
  (P_X2_nearestDistance q3.1 2 a).bind fun q4 =>
  some (q4, q3.1, q3.2)
set_option maxRecDepth 20000 in
theorem c_X6_clearance {I : Nat → Nat → Int32} {J : Nat → Nat → Int64} {w : Nat → Nat} {n : Nat} (hn : 121 ≤ n) (hn1 : n ≤ 200) {a : Int32} {q0 : Int32 × (Nat → Nat → Int32) × (Nat → Nat → Int64)} (hP : P_X6_clearance I J a = some q0) : ∀ l, qc_M l yX6_clearance cX6_clearance 2 (some .int) 5 127 0 0 [.ref 0, .int a] (I, J, (rX w, kX, nX, n)) (some (.int q0.1)) (q0.2.1, q0.2.2, (rX w, kX, nX, n)) := by
  intro l
  refine qc_ent2 (by decide) (Nat.le_of_ble_eq_true rfl) ?_
  intro F hn0 cx hz
  have cx : qc_X F cX6_clearance RX6 "clearance" 5 0 0 127 := cx
  show qc_J F 0 0 0 [some (.ref 0), some (.int a)] [] (I, J, (rX w, kX, nX, n))
  unfold P_X6_clearance at hP
  refine qj_aload_n cx dX6_clearance_0 rfl rfl ?_
  refine qw_getR (j := 4) (t1 := 2) cx dX6_clearance_1 qc_cl6 rfl (Nat.lt_of_lt_of_le (by decide) hn) rfl ww_334 rfl ?_
  refine qj_iload_n cx dX6_clearance_4 rfl rfl ?_
  obtain ⟨q1, eq1, hP⟩ := Option.bind_eq_some_iff.mp hP
  refine qj_callV (As := [.int a]) (st := []) (t := 2) (h' := (I, J, (rX w, kX, nX, n))) (r := some (.int q1)) cx dX6_clearance_5 (c_X4_isUser (I := I) (J := J) (w := w) hn hn1 (qc_sc2 hn) eq1) gc_RX6_94 qm_X4_isUser rfl rfl qc_cl4 rfl (Nat.lt_of_lt_of_le (by decide) hn) (by decide) (by decide) rfl (Nat.le_of_ble_eq_true rfl) (Nat.le_trans hn1 (by decide)) hn0 rfl ?_
  refine qj_if_ne (tgt := 13) cx dX6_clearance_8 (by decide) (fun c2 => ?_) (fun c2 => ?_)
  · have hP := qc_ifF hP c2
    refine qj_aload_n cx dX6_clearance_13 rfl rfl ?_
    refine qw_getR (j := 6) (t1 := 22) cx dX6_clearance_14 qc_cl6 rfl (Nat.lt_of_lt_of_le (by decide) hn) rfl ww_336 rfl ?_
    refine qj_aload_n cx dX6_clearance_17 rfl rfl ?_
    refine qw_getR (j := 4) (t1 := 2) cx dX6_clearance_18 qc_cl6 rfl (Nat.lt_of_lt_of_le (by decide) hn) rfl ww_334 rfl ?_
    obtain ⟨q3, eq3, hP⟩ := Option.bind_eq_some_iff.mp hP
    refine qj_callV (As := [.ref 2]) (st := []) (t := 22) (h' := (q3.1, q3.2, (rX w, kX, nX, n))) (r := none) cx dX6_clearance_21 (c_X2_fill (I := I) (J := J) (w := w) hn hn1 (qc_sc2 hn) eq3) gc_RX6_202 qm_X2_fill rfl rfl qc_cl2 rfl (Nat.lt_of_lt_of_le (by decide) hn) (by decide) (by decide) rfl (Nat.le_of_ble_eq_true rfl) (Nat.le_trans hn1 (by decide)) hn0 rfl ?_
    refine qj_aload_n cx dX6_clearance_24 rfl rfl ?_
    refine qw_getR (j := 6) (t1 := 22) cx dX6_clearance_25 qc_cl6 rfl (Nat.lt_of_lt_of_le (by decide) hn) rfl ww_336 rfl ?_
    refine qj_aload_n cx dX6_clearance_28 rfl rfl ?_
    refine qw_getR (j := 4) (t1 := 2) cx dX6_clearance_29 qc_cl6 rfl (Nat.lt_of_lt_of_le (by decide) hn) rfl ww_334 rfl ?_
    refine qj_iload_n cx dX6_clearance_32 rfl rfl ?_
    obtain ⟨q4, eq4, hP⟩ := Option.bind_eq_some_iff.mp hP
    refine qj_callV (As := [.ref 2, .int a]) (st := []) (t := 22) (h' := (q3.1, q3.2, (rX w, kX, nX, n))) (r := some (.int q4)) cx dX6_clearance_33 (c_X2_nearestDistance (I := q3.1) (J := q3.2) (w := w) hn hn1 (qc_sc2 hn) eq4) gc_RX6_232 qm_X2_nearestDistance rfl rfl qc_cl2 rfl (Nat.lt_of_lt_of_le (by decide) hn) (by decide) (by decide) rfl (Nat.le_of_ble_eq_true rfl) (Nat.le_trans hn1 (by decide)) hn0 rfl ?_
    exact qw_iret cx hz dX6_clearance_36 (Nat.zero_le _) (Nat.zero_le _) (congrArg (fun q => q.1) (Option.some.inj hP)) (congrArg (fun q => q.2.1) (Option.some.inj hP)) (congrArg (fun q => q.2.2) (Option.some.inj hP))
  · have hP := qc_ifT hP c2
    refine qj_iconst (v := (-1 : Int32)) cx dX6_clearance_11 (by decide) ?_
    exact qw_iret cx hz dX6_clearance_12 (Nat.zero_le _) (Nat.zero_le _) (congrArg (fun q => q.1) (Option.some.inj hP)) (congrArg (fun q => q.2.1) (Option.some.inj hP)) (congrArg (fun q => q.2.2) (Option.some.inj hP))
def P_X6_worst (I : Nat → Nat → Int32) (J : Nat → Nat → Int64) : Option (Int32 × (Nat → Nat → Int32) × (Nat → Nat → Int64)) :=
  (P_X2_fill I J 2).bind fun q1 =>
  (P_X2_worstMaker q1.1 (q1.1 2 0)).bind fun q2 =>
  some (q2, q1.1, q1.2)
set_option maxRecDepth 20000 in
theorem c_X6_worst {I : Nat → Nat → Int32} {J : Nat → Nat → Int64} {w : Nat → Nat} {n : Nat} (hn : 121 ≤ n) (hn1 : n ≤ 200)  {q0 : Int32 × (Nat → Nat → Int32) × (Nat → Nat → Int64)} (hP : P_X6_worst I J = some q0) : ∀ l, qc_M l yX6_worst cX6_worst 1 (some .int) 5 127 0 0 [.ref 0] (I, J, (rX w, kX, nX, n)) (some (.int q0.1)) (q0.2.1, q0.2.2, (rX w, kX, nX, n)) := by
  intro l
  refine qc_ent2 (by decide) (Nat.le_of_ble_eq_true rfl) ?_
  intro F hn0 cx hz
  have cx : qc_X F cX6_worst RX6 "worst" 5 0 0 127 := cx
  show qc_J F 0 0 0 [some (.ref 0)] [] (I, J, (rX w, kX, nX, n))
  unfold P_X6_worst at hP
  refine qj_aload_n cx dX6_worst_0 rfl rfl ?_
  refine qw_getR (j := 6) (t1 := 22) cx dX6_worst_1 qc_cl6 rfl (Nat.lt_of_lt_of_le (by decide) hn) rfl ww_336 rfl ?_
  refine qj_aload_n cx dX6_worst_4 rfl rfl ?_
  refine qw_getR (j := 4) (t1 := 2) cx dX6_worst_5 qc_cl6 rfl (Nat.lt_of_lt_of_le (by decide) hn) rfl ww_334 rfl ?_
  obtain ⟨q1, eq1, hP⟩ := Option.bind_eq_some_iff.mp hP
  refine qj_callV (As := [.ref 2]) (st := []) (t := 22) (h' := (q1.1, q1.2, (rX w, kX, nX, n))) (r := none) cx dX6_worst_8 (c_X2_fill (I := I) (J := J) (w := w) hn hn1 (qc_sc2 hn) eq1) gc_RX6_202 qm_X2_fill rfl rfl qc_cl2 rfl (Nat.lt_of_lt_of_le (by decide) hn) (by decide) (by decide) rfl (Nat.le_of_ble_eq_true rfl) (Nat.le_trans hn1 (by decide)) hn0 rfl ?_
  refine qj_aload_n cx dX6_worst_11 rfl rfl ?_
  refine qw_getR (j := 6) (t1 := 22) cx dX6_worst_12 qc_cl6 rfl (Nat.lt_of_lt_of_le (by decide) hn) rfl ww_336 rfl ?_
  refine qj_aload_n cx dX6_worst_15 rfl rfl ?_
  refine qw_getR (j := 4) (t1 := 2) cx dX6_worst_16 qc_cl6 rfl (Nat.lt_of_lt_of_le (by decide) hn) rfl ww_334 rfl ?_
  refine qw_getI (j := 0) cx dX6_worst_19 qc_cl4 rfl (Nat.lt_of_lt_of_le (by decide) hn) rfl ww_151 ?_
  obtain ⟨q2, eq2, hP⟩ := Option.bind_eq_some_iff.mp hP
  refine qj_callV (As := [.int (q1.1 2 0)]) (st := []) (t := 22) (h' := (q1.1, q1.2, (rX w, kX, nX, n))) (r := some (.int q2)) cx dX6_worst_22 (c_X2_worstMaker (I := q1.1) (J := q1.2) (w := w) hn hn1 eq2) gc_RX6_236 qm_X2_worstMaker rfl rfl qc_cl2 rfl (Nat.lt_of_lt_of_le (by decide) hn) (by decide) (by decide) rfl (Nat.le_of_ble_eq_true rfl) (Nat.le_trans hn1 (by decide)) hn0 rfl ?_
  exact qw_iret cx hz dX6_worst_25 (Nat.zero_le _) (Nat.zero_le _) (congrArg (fun q => q.1) (Option.some.inj hP)) (congrArg (fun q => q.2.1) (Option.some.inj hP)) (congrArg (fun q => q.2.2) (Option.some.inj hP))
def P_X6_rank_30  : Nat → (Nat → Nat → Int32) → (Nat → Nat → Int64) → Int32 → Int32 → Option (Int32 × (Nat → Nat → Int32) × (Nat → Nat → Int64))
  | 0, _, _, _, _ => none
  | f + 1, I, J, a1, a2 =>
  if I 2 0 ≤ a2 then
  some ((-1 : Int32), I, J)
  else
  (P_X2_makersAhead I a2 (I 2 0)).bind fun q2 =>
  if q2 = a1 then
  some (a2, I, J)
  else
  qc_let (a2 + (1 : Int32)) fun x4 =>
  P_X6_rank_30 f I J a1 x4
def P_X6_rank (I : Nat → Nat → Int32) (J : Nat → Nat → Int64) (a : Int32) : Option (Int32 × (Nat → Nat → Int32) × (Nat → Nat → Int64)) :=
  if a < 0 then
  some ((-1 : Int32), I, J)
  else
  if a < I 2 0 then
  (P_X2_fill I J 2).bind fun q7 =>
  P_X6_rank_30 qc_fu q7.1 q7.2 a (0 : Int32)
  else
  some ((-1 : Int32), I, J)
set_option maxRecDepth 20000 in
theorem c_X6_rank {I : Nat → Nat → Int32} {J : Nat → Nat → Int64} {w : Nat → Nat} {n : Nat} (hn : 121 ≤ n) (hn1 : n ≤ 200) {a : Int32} {q0 : Int32 × (Nat → Nat → Int32) × (Nat → Nat → Int64)} (hP : P_X6_rank I J a = some q0) : ∀ l, qc_M l yX6_rank cX6_rank 3 (some .int) 5 127 0 0 [.ref 0, .int a] (I, J, (rX w, kX, nX, n)) (some (.int q0.1)) (q0.2.1, q0.2.2, (rX w, kX, nX, n)) := by
  intro l
  refine qc_ent2 (by decide) (Nat.le_of_ble_eq_true rfl) ?_
  intro F hn0 cx hz
  have cx : qc_X F cX6_rank RX6 "rank" 5 0 0 127 := cx
  have L30 : ∀  (f : Nat) (I : (Nat → Nat → Int32)) (J : (Nat → Nat → Int64)) (a1 : Int32) (a2 : Int32), P_X6_rank_30 f I J a1 a2 = some q0 → qc_J F 0 0 30 [some (.ref 0), some (.int a1), some (.int a2)] [] (I, J, (rX w, kX, nX, n)) := by
    intro  f
    induction f with
    | zero => intro I J a1 a2 hP; cases hP
    | succ f ih =>
      intro I J a1 a2 hP
      rw [P_X6_rank_30] at hP
      refine qj_iload_n cx dX6_rank_30 rfl rfl ?_
      refine qj_aload_n cx dX6_rank_31 rfl rfl ?_
      refine qw_getR (j := 4) (t1 := 2) cx dX6_rank_32 qc_cl6 rfl (Nat.lt_of_lt_of_le (by decide) hn) rfl ww_334 rfl ?_
      refine qw_getI (j := 0) cx dX6_rank_35 qc_cl4 rfl (Nat.lt_of_lt_of_le (by decide) hn) rfl ww_151 ?_
      refine qj_icmp_ge (tgt := 68) cx dX6_rank_38 (by decide) (fun c1 => ?_) (fun c1 => ?_)
      · have hP := qc_ifT hP c1
        refine qj_iconst (v := (-1 : Int32)) cx dX6_rank_68 (by decide) ?_
        exact qw_iret cx hz dX6_rank_69 (Nat.zero_le _) (Nat.zero_le _) (congrArg (fun q => q.1) (Option.some.inj hP)) (congrArg (fun q => q.2.1) (Option.some.inj hP)) (congrArg (fun q => q.2.2) (Option.some.inj hP))
      · have hP := qc_ifF hP c1
        refine qj_aload_n cx dX6_rank_41 rfl rfl ?_
        refine qw_getR (j := 6) (t1 := 22) cx dX6_rank_42 qc_cl6 rfl (Nat.lt_of_lt_of_le (by decide) hn) rfl ww_336 rfl ?_
        refine qj_iload_n cx dX6_rank_45 rfl rfl ?_
        refine qj_aload_n cx dX6_rank_46 rfl rfl ?_
        refine qw_getR (j := 4) (t1 := 2) cx dX6_rank_47 qc_cl6 rfl (Nat.lt_of_lt_of_le (by decide) hn) rfl ww_334 rfl ?_
        refine qw_getI (j := 0) cx dX6_rank_50 qc_cl4 rfl (Nat.lt_of_lt_of_le (by decide) hn) rfl ww_151 ?_
        obtain ⟨q2, eq2, hP⟩ := Option.bind_eq_some_iff.mp hP
        refine qj_callV (As := [.int a2, .int (I 2 0)]) (st := []) (t := 22) (h' := (I, J, (rX w, kX, nX, n))) (r := some (.int q2)) cx dX6_rank_53 (c_X2_makersAhead (I := I) (J := J) (w := w) hn hn1 eq2) gc_RX6_239 qm_X2_makersAhead rfl rfl qc_cl2 rfl (Nat.lt_of_lt_of_le (by decide) hn) (by decide) (by decide) rfl (Nat.le_of_ble_eq_true rfl) (Nat.le_trans hn1 (by decide)) hn0 rfl ?_
        refine qj_iload_n cx dX6_rank_56 rfl rfl ?_
        refine qj_icmp_ne (tgt := 62) cx dX6_rank_57 (by decide) (fun c3 => ?_) (fun c3 => ?_)
        · have hP := qc_ifF hP c3
          obtain ⟨x4, ex4, hP⟩ := qc_letE hP
          refine qj_iinc (v := x4) (ls1 := [some (.ref 0), some (.int a1), some (.int x4)]) cx dX6_rank_62 rfl (by rw [ex4]; rfl) rfl rfl ?_
          refine qj_goto (tgt := 30) cx dX6_rank_65 (by decide) ?_
          exact ih I J a1 x4 hP
        · have hP := qc_ifT hP c3
          refine qj_iload_n cx dX6_rank_60 rfl rfl ?_
          exact qw_iret cx hz dX6_rank_61 (Nat.zero_le _) (Nat.zero_le _) (congrArg (fun q => q.1) (Option.some.inj hP)) (congrArg (fun q => q.2.1) (Option.some.inj hP)) (congrArg (fun q => q.2.2) (Option.some.inj hP))
  show qc_J F 0 0 0 [some (.ref 0), some (.int a), none] [] (I, J, (rX w, kX, nX, n))
  unfold P_X6_rank at hP
  refine qj_iload_n cx dX6_rank_0 rfl rfl ?_
  refine qj_if_lt (tgt := 15) cx dX6_rank_1 (by decide) (fun c5 => ?_) (fun c5 => ?_)
  · have hP := qc_ifT hP c5
    refine qj_iconst (v := (-1 : Int32)) cx dX6_rank_15 (by decide) ?_
    exact qw_iret cx hz dX6_rank_16 (Nat.zero_le _) (Nat.zero_le _) (congrArg (fun q => q.1) (Option.some.inj hP)) (congrArg (fun q => q.2.1) (Option.some.inj hP)) (congrArg (fun q => q.2.2) (Option.some.inj hP))
  · have hP := qc_ifF hP c5
    refine qj_iload_n cx dX6_rank_4 rfl rfl ?_
    refine qj_aload_n cx dX6_rank_5 rfl rfl ?_
    refine qw_getR (j := 4) (t1 := 2) cx dX6_rank_6 qc_cl6 rfl (Nat.lt_of_lt_of_le (by decide) hn) rfl ww_334 rfl ?_
    refine qw_getI (j := 0) cx dX6_rank_9 qc_cl4 rfl (Nat.lt_of_lt_of_le (by decide) hn) rfl ww_151 ?_
    refine qj_icmp_lt (tgt := 17) cx dX6_rank_12 (by decide) (fun c6 => ?_) (fun c6 => ?_)
    · have hP := qc_ifT hP c6
      refine qj_aload_n cx dX6_rank_17 rfl rfl ?_
      refine qw_getR (j := 6) (t1 := 22) cx dX6_rank_18 qc_cl6 rfl (Nat.lt_of_lt_of_le (by decide) hn) rfl ww_336 rfl ?_
      refine qj_aload_n cx dX6_rank_21 rfl rfl ?_
      refine qw_getR (j := 4) (t1 := 2) cx dX6_rank_22 qc_cl6 rfl (Nat.lt_of_lt_of_le (by decide) hn) rfl ww_334 rfl ?_
      obtain ⟨q7, eq7, hP⟩ := Option.bind_eq_some_iff.mp hP
      refine qj_callV (As := [.ref 2]) (st := []) (t := 22) (h' := (q7.1, q7.2, (rX w, kX, nX, n))) (r := none) cx dX6_rank_25 (c_X2_fill (I := I) (J := J) (w := w) hn hn1 (qc_sc2 hn) eq7) gc_RX6_202 qm_X2_fill rfl rfl qc_cl2 rfl (Nat.lt_of_lt_of_le (by decide) hn) (by decide) (by decide) rfl (Nat.le_of_ble_eq_true rfl) (Nat.le_trans hn1 (by decide)) hn0 rfl ?_
      refine qj_iconst (v := (0 : Int32)) cx dX6_rank_28 (by decide) ?_
      refine qj_istore_n (ls1 := [some (.ref 0), some (.int a), some (.int (0 : Int32))]) cx dX6_rank_29 rfl rfl rfl rfl ?_
      exact L30 qc_fu q7.1 q7.2 a (0 : Int32) hP
    · have hP := qc_ifF hP c6
      refine qj_iconst (v := (-1 : Int32)) cx dX6_rank_15 (by decide) ?_
      exact qw_iret cx hz dX6_rank_16 (Nat.zero_le _) (Nat.zero_le _) (congrArg (fun q => q.1) (Option.some.inj hP)) (congrArg (fun q => q.2.1) (Option.some.inj hP)) (congrArg (fun q => q.2.2) (Option.some.inj hP))
def P_X6_clean (I : Nat → Nat → Int32) (J : Nat → Nat → Int64) : Option (Int32 × (Nat → Nat → Int32) × (Nat → Nat → Int64)) :=
  (P_X2_allClean I J 2).bind fun q1 =>
  (if q1.1 = 0 then
  some (0 : Int32)
  else
  some (1 : Int32)).bind fun v3 =>
  some (v3, q1.2.1, q1.2.2)
set_option maxRecDepth 20000 in
theorem c_X6_clean {I : Nat → Nat → Int32} {J : Nat → Nat → Int64} {w : Nat → Nat} {n : Nat} (hn : 121 ≤ n) (hn1 : n ≤ 200)  {q0 : Int32 × (Nat → Nat → Int32) × (Nat → Nat → Int64)} (hP : P_X6_clean I J = some q0) : ∀ l, qc_M l yX6_clean cX6_clean 1 (some .int) 5 127 0 0 [.ref 0] (I, J, (rX w, kX, nX, n)) (some (.int q0.1)) (q0.2.1, q0.2.2, (rX w, kX, nX, n)) := by
  intro l
  refine qc_ent2 (by decide) (Nat.le_of_ble_eq_true rfl) ?_
  intro F hn0 cx hz
  have cx : qc_X F cX6_clean RX6 "clean" 5 0 0 127 := cx
  show qc_J F 0 0 0 [some (.ref 0)] [] (I, J, (rX w, kX, nX, n))
  unfold P_X6_clean at hP
  refine qj_aload_n cx dX6_clean_0 rfl rfl ?_
  refine qw_getR (j := 6) (t1 := 22) cx dX6_clean_1 qc_cl6 rfl (Nat.lt_of_lt_of_le (by decide) hn) rfl ww_336 rfl ?_
  refine qj_aload_n cx dX6_clean_4 rfl rfl ?_
  refine qw_getR (j := 4) (t1 := 2) cx dX6_clean_5 qc_cl6 rfl (Nat.lt_of_lt_of_le (by decide) hn) rfl ww_334 rfl ?_
  obtain ⟨q1, eq1, hP⟩ := Option.bind_eq_some_iff.mp hP
  refine qj_callV (As := [.ref 2]) (st := []) (t := 22) (h' := (q1.2.1, q1.2.2, (rX w, kX, nX, n))) (r := some (.int q1.1)) cx dX6_clean_8 (c_X2_allClean (I := I) (J := J) (w := w) hn hn1 (qc_sc2 hn) eq1) gc_RX6_251 qm_X2_allClean rfl rfl qc_cl2 rfl (Nat.lt_of_lt_of_le (by decide) hn) (by decide) (by decide) rfl (Nat.le_of_ble_eq_true rfl) (Nat.le_trans hn1 (by decide)) hn0 rfl ?_
  obtain ⟨v3, hv3, hP⟩ := Option.bind_eq_some_iff.mp hP
  have Kv3 : qc_J F 0 0 19 [some (.ref 0)] [.int v3] (q1.2.1, q1.2.2, (rX w, kX, nX, n)) := by
    exact qw_iret cx hz dX6_clean_19 (Nat.zero_le _) (Nat.zero_le _) (congrArg (fun q => q.1) (Option.some.inj hP)) (congrArg (fun q => q.2.1) (Option.some.inj hP)) (congrArg (fun q => q.2.2) (Option.some.inj hP))
  refine qj_if_eq (tgt := 18) cx dX6_clean_11 (by decide) (fun c2 => ?_) (fun c2 => ?_)
  · have hv3 := qc_ifT hv3 c2
    refine qj_iconst (v := (0 : Int32)) cx dX6_clean_18 (by decide) ?_
    exact qw_top (Option.some.inj hv3).symm Kv3
  · have hv3 := qc_ifF hv3 c2
    refine qj_iconst (v := (1 : Int32)) cx dX6_clean_14 (by decide) ?_
    refine qj_goto (tgt := 19) cx dX6_clean_15 (by decide) ?_
    exact qw_top (Option.some.inj hv3).symm Kv3
def P_X6_fitsOnTrial (I : Nat → Nat → Int32) (J : Nat → Nat → Int64) (a : Int32) (b : Int32) : Option (Int32 × (Nat → Nat → Int32) × (Nat → Nat → Int64)) :=
  if qc_in a 8 then
  qc_let (qc_u2 I 19 a.toNatClampNeg b) fun I1 =>
  (P_X2_allClean I1 J 12).bind fun q2 =>
  if qc_bo q2.1 then some (q2.1, q2.2.1, q2.2.2) else none
  else none
set_option maxRecDepth 20000 in
theorem c_X6_fitsOnTrial {I : Nat → Nat → Int32} {J : Nat → Nat → Int64} {w : Nat → Nat} {n : Nat} (hn : 121 ≤ n) (hn1 : n ≤ 200) {a : Int32} {b : Int32} {q0 : Int32 × (Nat → Nat → Int32) × (Nat → Nat → Int64)} (hP : P_X6_fitsOnTrial I J a b = some q0) : ∀ l, qc_M l yX6_fitsOnTrial cX6_fitsOnTrial 3 (some .boolean) 5 127 0 0 [.ref 0, .int a, .int b] (I, J, (rX w, kX, nX, n)) (some (.int q0.1)) (q0.2.1, q0.2.2, (rX w, kX, nX, n)) := by
  intro l
  refine qc_ent2 (by decide) (Nat.le_of_ble_eq_true rfl) ?_
  intro F hn0 cx hz
  have cx : qc_X F cX6_fitsOnTrial RX6 "fitsOnTrial" 5 0 0 127 := cx
  show qc_J F 0 0 0 [some (.ref 0), some (.int a), some (.int b)] [] (I, J, (rX w, kX, nX, n))
  unfold P_X6_fitsOnTrial at hP
  refine qj_aload_n cx dX6_fitsOnTrial_0 rfl rfl ?_
  refine qw_getR (j := 5) (t1 := 12) cx dX6_fitsOnTrial_1 qc_cl6 rfl (Nat.lt_of_lt_of_le (by decide) hn) rfl ww_335 rfl ?_
  refine qw_getR (j := 13) (t1 := 19) cx dX6_fitsOnTrial_4 qc_cl4 rfl (Nat.lt_of_lt_of_le (by decide) hn) rfl ww_198 rfl ?_
  refine qj_iload_n cx dX6_fitsOnTrial_7 rfl rfl ?_
  refine qj_iload_n cx dX6_fitsOnTrial_8 rfl rfl ?_
  obtain ⟨c4, hP⟩ := qc_ck hP
  obtain ⟨I1, eI1, hP⟩ := qc_letE hP
  refine qw_iast (n1 := 8) cx dX6_fitsOnTrial_9 rfl (Nat.lt_of_lt_of_le (by decide) hn) rfl c4 eI1 ?_
  refine qj_aload_n cx dX6_fitsOnTrial_10 rfl rfl ?_
  refine qw_getR (j := 6) (t1 := 22) cx dX6_fitsOnTrial_11 qc_cl6 rfl (Nat.lt_of_lt_of_le (by decide) hn) rfl ww_336 rfl ?_
  refine qj_aload_n cx dX6_fitsOnTrial_14 rfl rfl ?_
  refine qw_getR (j := 5) (t1 := 12) cx dX6_fitsOnTrial_15 qc_cl6 rfl (Nat.lt_of_lt_of_le (by decide) hn) rfl ww_335 rfl ?_
  obtain ⟨q2, eq2, hP⟩ := Option.bind_eq_some_iff.mp hP
  refine qj_callV (As := [.ref 12]) (st := []) (t := 22) (h' := (q2.2.1, q2.2.2, (rX w, kX, nX, n))) (r := some (.int q2.1)) cx dX6_fitsOnTrial_18 (c_X2_allClean (I := I1) (J := J) (w := w) hn hn1 (qc_sc12 hn) eq2) gc_RX6_251 qm_X2_allClean rfl rfl qc_cl2 rfl (Nat.lt_of_lt_of_le (by decide) hn) (by decide) (by decide) rfl (Nat.le_of_ble_eq_true rfl) (Nat.le_trans hn1 (by decide)) hn0 rfl ?_
  obtain ⟨c3, hP⟩ := qc_ck hP
  exact qw_zret cx hz dX6_fitsOnTrial_21 (qc_bo_n c3) (Nat.zero_le _) (Nat.zero_le _) (congrArg (fun q => q.1) (Option.some.inj hP)) (congrArg (fun q => q.2.1) (Option.some.inj hP)) (congrArg (fun q => q.2.2) (Option.some.inj hP))
def P_X6_free_51 (k28 : (Nat → Nat → Int32) → (Nat → Nat → Int64) → Int32 → Int32 → Int32 → Option (Int32 × (Nat → Nat → Int32) × (Nat → Nat → Int64))) (I : (Nat → Nat → Int32)) (J : (Nat → Nat → Int64)) (a1 : Int32) (a2 : Int32) (a3 : Int32) : Option (Int32 × (Nat → Nat → Int32) × (Nat → Nat → Int64)) :=
  qc_let (a3 + (1 : Int32)) fun x1 =>
  k28 I J a1 a2 x1
def P_X6_free_28  : Nat → (Nat → Nat → Int32) → (Nat → Nat → Int64) → Int32 → Int32 → Int32 → Option (Int32 × (Nat → Nat → Int32) × (Nat → Nat → Int64))
  | 0, _, _, _, _, _ => none
  | f + 1, I, J, a1, a2, a3 =>
  if I 2 1 < a3 then
  some (a2, I, J)
  else
  (P_X6_fitsOnTrial I J a1 a3).bind fun q3 =>
  if q3.1 = 0 then
  P_X6_free_51 (P_X6_free_28 f) q3.2.1 q3.2.2 a1 a2 a3
  else
  qc_let (a2 + (1 : Int32)) fun x5 =>
  P_X6_free_51 (P_X6_free_28 f) q3.2.1 q3.2.2 a1 x5 a3
def P_X6_free (I : Nat → Nat → Int32) (J : Nat → Nat → Int64) (a : Int32) : Option (Int32 × (Nat → Nat → Int32) × (Nat → Nat → Int64)) :=
  (P_X4_isUser I 2 a).bind fun q6 =>
  if q6 = 0 then
  some ((-1 : Int32), I, J)
  else
  (P_X4_copyFrom I J 12 2).bind fun q8 =>
  P_X6_free_28 qc_fu q8.1 q8.2 a (0 : Int32) (1 : Int32)
set_option maxRecDepth 20000 in
theorem c_X6_free {I : Nat → Nat → Int32} {J : Nat → Nat → Int64} {w : Nat → Nat} {n : Nat} (hn : 121 ≤ n) (hn1 : n ≤ 200) {a : Int32} {q0 : Int32 × (Nat → Nat → Int32) × (Nat → Nat → Int64)} (hP : P_X6_free I J a = some q0) : ∀ l, qc_M l yX6_free cX6_free 4 (some .int) 6 149 0 0 [.ref 0, .int a] (I, J, (rX w, kX, nX, n)) (some (.int q0.1)) (q0.2.1, q0.2.2, (rX w, kX, nX, n)) := by
  intro l
  refine qc_ent2 (by decide) (Nat.le_of_ble_eq_true rfl) ?_
  intro F hn0 cx hz
  have cx : qc_X F cX6_free RX6 "free" 6 0 0 149 := cx
  have L51 : ∀ (k28 : (Nat → Nat → Int32) → (Nat → Nat → Int64) → Int32 → Int32 → Int32 → Option (Int32 × (Nat → Nat → Int32) × (Nat → Nat → Int64))) (g28 : ∀ (I : Nat → Nat → Int32) (J : Nat → Nat → Int64) (a1 : Int32) (a2 : Int32) (a3 : Int32), k28 I J a1 a2 a3 = some q0 → qc_J F 0 0 28 [some (.ref 0), some (.int a1), some (.int a2), some (.int a3)] [] (I, J, (rX w, kX, nX, n))) (I : (Nat → Nat → Int32)) (J : (Nat → Nat → Int64)) (a1 : Int32) (a2 : Int32) (a3 : Int32), P_X6_free_51 k28 I J a1 a2 a3 = some q0 → qc_J F 0 0 51 [some (.ref 0), some (.int a1), some (.int a2), some (.int a3)] [] (I, J, (rX w, kX, nX, n)) := by
    intro k28 g28 I J a1 a2 a3 hP
    unfold P_X6_free_51 at hP
    obtain ⟨x1, ex1, hP⟩ := qc_letE hP
    refine qj_iinc (v := x1) (ls1 := [some (.ref 0), some (.int a1), some (.int a2), some (.int x1)]) cx dX6_free_51 rfl (by rw [ex1]; rfl) rfl rfl ?_
    refine qj_goto (tgt := 28) cx dX6_free_54 (by decide) ?_
    exact g28 I J a1 a2 x1 hP
  have L28 : ∀  (f : Nat) (I : (Nat → Nat → Int32)) (J : (Nat → Nat → Int64)) (a1 : Int32) (a2 : Int32) (a3 : Int32), P_X6_free_28 f I J a1 a2 a3 = some q0 → qc_J F 0 0 28 [some (.ref 0), some (.int a1), some (.int a2), some (.int a3)] [] (I, J, (rX w, kX, nX, n)) := by
    intro  f
    induction f with
    | zero => intro I J a1 a2 a3 hP; cases hP
    | succ f ih =>
      intro I J a1 a2 a3 hP
      rw [P_X6_free_28] at hP
      refine qj_iload_n cx dX6_free_28 rfl rfl ?_
      refine qj_aload_n cx dX6_free_29 rfl rfl ?_
      refine qw_getR (j := 4) (t1 := 2) cx dX6_free_30 qc_cl6 rfl (Nat.lt_of_lt_of_le (by decide) hn) rfl ww_334 rfl ?_
      refine qw_getI (j := 1) cx dX6_free_33 qc_cl4 rfl (Nat.lt_of_lt_of_le (by decide) hn) rfl ww_155 ?_
      refine qj_icmp_gt (tgt := 57) cx dX6_free_36 (by decide) (fun c2 => ?_) (fun c2 => ?_)
      · have hP := qc_ifT hP c2
        refine qj_iload_n cx dX6_free_57 rfl rfl ?_
        exact qw_iret cx hz dX6_free_58 (Nat.zero_le _) (Nat.zero_le _) (congrArg (fun q => q.1) (Option.some.inj hP)) (congrArg (fun q => q.2.1) (Option.some.inj hP)) (congrArg (fun q => q.2.2) (Option.some.inj hP))
      · have hP := qc_ifF hP c2
        refine qj_aload_n cx dX6_free_39 rfl rfl ?_
        refine qj_iload_n cx dX6_free_40 rfl rfl ?_
        refine qj_iload_n cx dX6_free_41 rfl rfl ?_
        obtain ⟨q3, eq3, hP⟩ := Option.bind_eq_some_iff.mp hP
        refine qj_callV (As := [.int a1, .int a3]) (st := []) (t := 0) (h' := (q3.2.1, q3.2.2, (rX w, kX, nX, n))) (r := some (.int q3.1)) cx dX6_free_42 (c_X6_fitsOnTrial (I := I) (J := J) (w := w) hn hn1 eq3) gc_RX6_254 qm_X6_fitsOnTrial rfl rfl qc_cl6 rfl (Nat.lt_of_lt_of_le (by decide) hn) (by decide) (by decide) rfl (Nat.le_of_ble_eq_true rfl) (Nat.le_trans hn1 (by decide)) hn0 rfl ?_
        refine qj_if_eq (tgt := 51) cx dX6_free_45 (by decide) (fun c4 => ?_) (fun c4 => ?_)
        · have hP := qc_ifT hP c4
          exact L51 (P_X6_free_28 f) ih q3.2.1 q3.2.2 a1 a2 a3 hP
        · have hP := qc_ifF hP c4
          obtain ⟨x5, ex5, hP⟩ := qc_letE hP
          refine qj_iinc (v := x5) (ls1 := [some (.ref 0), some (.int a1), some (.int x5), some (.int a3)]) cx dX6_free_48 rfl (by rw [ex5]; rfl) rfl rfl ?_
          exact L51 (P_X6_free_28 f) ih q3.2.1 q3.2.2 a1 x5 a3 hP
  show qc_J F 0 0 0 [some (.ref 0), some (.int a), none, none] [] (I, J, (rX w, kX, nX, n))
  unfold P_X6_free at hP
  refine qj_aload_n cx dX6_free_0 rfl rfl ?_
  refine qw_getR (j := 4) (t1 := 2) cx dX6_free_1 qc_cl6 rfl (Nat.lt_of_lt_of_le (by decide) hn) rfl ww_334 rfl ?_
  refine qj_iload_n cx dX6_free_4 rfl rfl ?_
  obtain ⟨q6, eq6, hP⟩ := Option.bind_eq_some_iff.mp hP
  refine qj_callV (As := [.int a]) (st := []) (t := 2) (h' := (I, J, (rX w, kX, nX, n))) (r := some (.int q6)) cx dX6_free_5 (c_X4_isUser (I := I) (J := J) (w := w) hn hn1 (qc_sc2 hn) eq6) gc_RX6_94 qm_X4_isUser rfl rfl qc_cl4 rfl (Nat.lt_of_lt_of_le (by decide) hn) (by decide) (by decide) rfl (Nat.le_of_ble_eq_true rfl) (Nat.le_trans hn1 (by decide)) hn0 rfl ?_
  refine qj_if_ne (tgt := 13) cx dX6_free_8 (by decide) (fun c7 => ?_) (fun c7 => ?_)
  · have hP := qc_ifF hP c7
    refine qj_aload_n cx dX6_free_13 rfl rfl ?_
    refine qw_getR (j := 5) (t1 := 12) cx dX6_free_14 qc_cl6 rfl (Nat.lt_of_lt_of_le (by decide) hn) rfl ww_335 rfl ?_
    refine qj_aload_n cx dX6_free_17 rfl rfl ?_
    refine qw_getR (j := 4) (t1 := 2) cx dX6_free_18 qc_cl6 rfl (Nat.lt_of_lt_of_le (by decide) hn) rfl ww_334 rfl ?_
    obtain ⟨q8, eq8, hP⟩ := Option.bind_eq_some_iff.mp hP
    refine qj_callV (As := [.ref 2]) (st := []) (t := 12) (h' := (q8.1, q8.2, (rX w, kX, nX, n))) (r := none) cx dX6_free_21 (c_X4_copyFrom (I := I) (J := J) (w := w) hn hn1 (qc_sc12 hn) (qc_sc2 hn) eq8) gc_RX6_248 qm_X4_copyFrom rfl rfl qc_cl4 rfl (Nat.lt_of_lt_of_le (by decide) hn) (by decide) (by decide) rfl (Nat.le_of_ble_eq_true rfl) (Nat.le_trans hn1 (by decide)) hn0 rfl ?_
    refine qj_iconst (v := (0 : Int32)) cx dX6_free_24 (by decide) ?_
    refine qj_istore_n (ls1 := [some (.ref 0), some (.int a), some (.int (0 : Int32)), none]) cx dX6_free_25 rfl rfl rfl rfl ?_
    refine qj_iconst (v := (1 : Int32)) cx dX6_free_26 (by decide) ?_
    refine qj_istore_n (ls1 := [some (.ref 0), some (.int a), some (.int (0 : Int32)), some (.int (1 : Int32))]) cx dX6_free_27 rfl rfl rfl rfl ?_
    exact L28 qc_fu q8.1 q8.2 a (0 : Int32) (1 : Int32) hP
  · have hP := qc_ifT hP c7
    refine qj_iconst (v := (-1 : Int32)) cx dX6_free_11 (by decide) ?_
    exact qw_iret cx hz dX6_free_12 (Nat.zero_le _) (Nat.zero_le _) (congrArg (fun q => q.1) (Option.some.inj hP)) (congrArg (fun q => q.2.1) (Option.some.inj hP)) (congrArg (fun q => q.2.2) (Option.some.inj hP))
def P_X6_freeAt_66 (k33 : (Nat → Nat → Int32) → (Nat → Nat → Int64) → Int32 → Int32 → Int32 → Int32 → Option (Int32 × (Nat → Nat → Int32) × (Nat → Nat → Int64))) (I : (Nat → Nat → Int32)) (J : (Nat → Nat → Int64)) (a1 : Int32) (a2 : Int32) (a3 : Int32) (a4 : Int32) : Option (Int32 × (Nat → Nat → Int32) × (Nat → Nat → Int64)) :=
  qc_let (a4 + (1 : Int32)) fun x1 =>
  k33 I J a1 a2 a3 x1
def P_X6_freeAt_33  : Nat → (Nat → Nat → Int32) → (Nat → Nat → Int64) → Int32 → Int32 → Int32 → Int32 → Option (Int32 × (Nat → Nat → Int32) × (Nat → Nat → Int64))
  | 0, _, _, _, _, _, _ => none
  | f + 1, I, J, a1, a2, a3, a4 =>
  if I 2 1 < a4 then
  some ((-2 : Int32), I, J)
  else
  (P_X6_fitsOnTrial I J a1 a4).bind fun q3 =>
  if q3.1 = 0 then
  P_X6_freeAt_66 (P_X6_freeAt_33 f) q3.2.1 q3.2.2 a1 a2 a3 a4
  else
  if a3 = a2 then
  some (a4, q3.2.1, q3.2.2)
  else
  qc_let (a3 + (1 : Int32)) fun x6 =>
  P_X6_freeAt_66 (P_X6_freeAt_33 f) q3.2.1 q3.2.2 a1 a2 x6 a4
def P_X6_freeAt (I : Nat → Nat → Int32) (J : Nat → Nat → Int64) (a : Int32) (b : Int32) : Option (Int32 × (Nat → Nat → Int32) × (Nat → Nat → Int64)) :=
  (P_X4_isUser I 2 a).bind fun q7 =>
  if q7 = 0 then
  some ((-1 : Int32), I, J)
  else
  if 0 ≤ b then
  (P_X4_copyFrom I J 12 2).bind fun q10 =>
  P_X6_freeAt_33 qc_fu q10.1 q10.2 a b (0 : Int32) (1 : Int32)
  else
  some ((-1 : Int32), I, J)
set_option maxRecDepth 20000 in
theorem c_X6_freeAt {I : Nat → Nat → Int32} {J : Nat → Nat → Int64} {w : Nat → Nat} {n : Nat} (hn : 121 ≤ n) (hn1 : n ≤ 200) {a : Int32} {b : Int32} {q0 : Int32 × (Nat → Nat → Int32) × (Nat → Nat → Int64)} (hP : P_X6_freeAt I J a b = some q0) : ∀ l, qc_M l yX6_freeAt cX6_freeAt 5 (some .int) 6 149 0 0 [.ref 0, .int a, .int b] (I, J, (rX w, kX, nX, n)) (some (.int q0.1)) (q0.2.1, q0.2.2, (rX w, kX, nX, n)) := by
  intro l
  refine qc_ent2 (by decide) (Nat.le_of_ble_eq_true rfl) ?_
  intro F hn0 cx hz
  have cx : qc_X F cX6_freeAt RX6 "freeAt" 6 0 0 149 := cx
  have L66 : ∀ (k33 : (Nat → Nat → Int32) → (Nat → Nat → Int64) → Int32 → Int32 → Int32 → Int32 → Option (Int32 × (Nat → Nat → Int32) × (Nat → Nat → Int64))) (g33 : ∀ (I : Nat → Nat → Int32) (J : Nat → Nat → Int64) (a1 : Int32) (a2 : Int32) (a3 : Int32) (a4 : Int32), k33 I J a1 a2 a3 a4 = some q0 → qc_J F 0 0 33 [some (.ref 0), some (.int a1), some (.int a2), some (.int a3), some (.int a4)] [] (I, J, (rX w, kX, nX, n))) (I : (Nat → Nat → Int32)) (J : (Nat → Nat → Int64)) (a1 : Int32) (a2 : Int32) (a3 : Int32) (a4 : Int32), P_X6_freeAt_66 k33 I J a1 a2 a3 a4 = some q0 → qc_J F 0 0 66 [some (.ref 0), some (.int a1), some (.int a2), some (.int a3), some (.int a4)] [] (I, J, (rX w, kX, nX, n)) := by
    intro k33 g33 I J a1 a2 a3 a4 hP
    unfold P_X6_freeAt_66 at hP
    obtain ⟨x1, ex1, hP⟩ := qc_letE hP
    refine qj_iinc (v := x1) (ls1 := [some (.ref 0), some (.int a1), some (.int a2), some (.int a3), some (.int x1)]) cx dX6_freeAt_66 rfl (by rw [ex1]; rfl) rfl rfl ?_
    refine qj_goto (tgt := 33) cx dX6_freeAt_69 (by decide) ?_
    exact g33 I J a1 a2 a3 x1 hP
  have L33 : ∀  (f : Nat) (I : (Nat → Nat → Int32)) (J : (Nat → Nat → Int64)) (a1 : Int32) (a2 : Int32) (a3 : Int32) (a4 : Int32), P_X6_freeAt_33 f I J a1 a2 a3 a4 = some q0 → qc_J F 0 0 33 [some (.ref 0), some (.int a1), some (.int a2), some (.int a3), some (.int a4)] [] (I, J, (rX w, kX, nX, n)) := by
    intro  f
    induction f with
    | zero => intro I J a1 a2 a3 a4 hP; cases hP
    | succ f ih =>
      intro I J a1 a2 a3 a4 hP
      rw [P_X6_freeAt_33] at hP
      refine qj_iload cx dX6_freeAt_33 rfl ?_
      refine qj_aload_n cx dX6_freeAt_35 rfl rfl ?_
      refine qw_getR (j := 4) (t1 := 2) cx dX6_freeAt_36 qc_cl6 rfl (Nat.lt_of_lt_of_le (by decide) hn) rfl ww_334 rfl ?_
      refine qw_getI (j := 1) cx dX6_freeAt_39 qc_cl4 rfl (Nat.lt_of_lt_of_le (by decide) hn) rfl ww_155 ?_
      refine qj_icmp_gt (tgt := 72) cx dX6_freeAt_42 (by decide) (fun c2 => ?_) (fun c2 => ?_)
      · have hP := qc_ifT hP c2
        refine qj_bipush (v := (-2 : Int32)) cx dX6_freeAt_72 (by decide) ?_
        exact qw_iret cx hz dX6_freeAt_74 (Nat.zero_le _) (Nat.zero_le _) (congrArg (fun q => q.1) (Option.some.inj hP)) (congrArg (fun q => q.2.1) (Option.some.inj hP)) (congrArg (fun q => q.2.2) (Option.some.inj hP))
      · have hP := qc_ifF hP c2
        refine qj_aload_n cx dX6_freeAt_45 rfl rfl ?_
        refine qj_iload_n cx dX6_freeAt_46 rfl rfl ?_
        refine qj_iload cx dX6_freeAt_47 rfl ?_
        obtain ⟨q3, eq3, hP⟩ := Option.bind_eq_some_iff.mp hP
        refine qj_callV (As := [.int a1, .int a4]) (st := []) (t := 0) (h' := (q3.2.1, q3.2.2, (rX w, kX, nX, n))) (r := some (.int q3.1)) cx dX6_freeAt_49 (c_X6_fitsOnTrial (I := I) (J := J) (w := w) hn hn1 eq3) gc_RX6_254 qm_X6_fitsOnTrial rfl rfl qc_cl6 rfl (Nat.lt_of_lt_of_le (by decide) hn) (by decide) (by decide) rfl (Nat.le_of_ble_eq_true rfl) (Nat.le_trans hn1 (by decide)) hn0 rfl ?_
        refine qj_if_eq (tgt := 66) cx dX6_freeAt_52 (by decide) (fun c4 => ?_) (fun c4 => ?_)
        · have hP := qc_ifT hP c4
          exact L66 (P_X6_freeAt_33 f) ih q3.2.1 q3.2.2 a1 a2 a3 a4 hP
        · have hP := qc_ifF hP c4
          refine qj_iload_n cx dX6_freeAt_55 rfl rfl ?_
          refine qj_iload_n cx dX6_freeAt_56 rfl rfl ?_
          refine qj_icmp_ne (tgt := 63) cx dX6_freeAt_57 (by decide) (fun c5 => ?_) (fun c5 => ?_)
          · have hP := qc_ifF hP c5
            obtain ⟨x6, ex6, hP⟩ := qc_letE hP
            refine qj_iinc (v := x6) (ls1 := [some (.ref 0), some (.int a1), some (.int a2), some (.int x6), some (.int a4)]) cx dX6_freeAt_63 rfl (by rw [ex6]; rfl) rfl rfl ?_
            exact L66 (P_X6_freeAt_33 f) ih q3.2.1 q3.2.2 a1 a2 x6 a4 hP
          · have hP := qc_ifT hP c5
            refine qj_iload cx dX6_freeAt_60 rfl ?_
            exact qw_iret cx hz dX6_freeAt_62 (Nat.zero_le _) (Nat.zero_le _) (congrArg (fun q => q.1) (Option.some.inj hP)) (congrArg (fun q => q.2.1) (Option.some.inj hP)) (congrArg (fun q => q.2.2) (Option.some.inj hP))
  show qc_J F 0 0 0 [some (.ref 0), some (.int a), some (.int b), none, none] [] (I, J, (rX w, kX, nX, n))
  unfold P_X6_freeAt at hP
  refine qj_aload_n cx dX6_freeAt_0 rfl rfl ?_
  refine qw_getR (j := 4) (t1 := 2) cx dX6_freeAt_1 qc_cl6 rfl (Nat.lt_of_lt_of_le (by decide) hn) rfl ww_334 rfl ?_
  refine qj_iload_n cx dX6_freeAt_4 rfl rfl ?_
  obtain ⟨q7, eq7, hP⟩ := Option.bind_eq_some_iff.mp hP
  refine qj_callV (As := [.int a]) (st := []) (t := 2) (h' := (I, J, (rX w, kX, nX, n))) (r := some (.int q7)) cx dX6_freeAt_5 (c_X4_isUser (I := I) (J := J) (w := w) hn hn1 (qc_sc2 hn) eq7) gc_RX6_94 qm_X4_isUser rfl rfl qc_cl4 rfl (Nat.lt_of_lt_of_le (by decide) hn) (by decide) (by decide) rfl (Nat.le_of_ble_eq_true rfl) (Nat.le_trans hn1 (by decide)) hn0 rfl ?_
  refine qj_if_eq (tgt := 15) cx dX6_freeAt_8 (by decide) (fun c8 => ?_) (fun c8 => ?_)
  · have hP := qc_ifT hP c8
    refine qj_iconst (v := (-1 : Int32)) cx dX6_freeAt_15 (by decide) ?_
    exact qw_iret cx hz dX6_freeAt_16 (Nat.zero_le _) (Nat.zero_le _) (congrArg (fun q => q.1) (Option.some.inj hP)) (congrArg (fun q => q.2.1) (Option.some.inj hP)) (congrArg (fun q => q.2.2) (Option.some.inj hP))
  · have hP := qc_ifF hP c8
    refine qj_iload_n cx dX6_freeAt_11 rfl rfl ?_
    refine qj_if_ge (tgt := 17) cx dX6_freeAt_12 (by decide) (fun c9 => ?_) (fun c9 => ?_)
    · have hP := qc_ifT hP c9
      refine qj_aload_n cx dX6_freeAt_17 rfl rfl ?_
      refine qw_getR (j := 5) (t1 := 12) cx dX6_freeAt_18 qc_cl6 rfl (Nat.lt_of_lt_of_le (by decide) hn) rfl ww_335 rfl ?_
      refine qj_aload_n cx dX6_freeAt_21 rfl rfl ?_
      refine qw_getR (j := 4) (t1 := 2) cx dX6_freeAt_22 qc_cl6 rfl (Nat.lt_of_lt_of_le (by decide) hn) rfl ww_334 rfl ?_
      obtain ⟨q10, eq10, hP⟩ := Option.bind_eq_some_iff.mp hP
      refine qj_callV (As := [.ref 2]) (st := []) (t := 12) (h' := (q10.1, q10.2, (rX w, kX, nX, n))) (r := none) cx dX6_freeAt_25 (c_X4_copyFrom (I := I) (J := J) (w := w) hn hn1 (qc_sc12 hn) (qc_sc2 hn) eq10) gc_RX6_248 qm_X4_copyFrom rfl rfl qc_cl4 rfl (Nat.lt_of_lt_of_le (by decide) hn) (by decide) (by decide) rfl (Nat.le_of_ble_eq_true rfl) (Nat.le_trans hn1 (by decide)) hn0 rfl ?_
      refine qj_iconst (v := (0 : Int32)) cx dX6_freeAt_28 (by decide) ?_
      refine qj_istore_n (ls1 := [some (.ref 0), some (.int a), some (.int b), some (.int (0 : Int32)), none]) cx dX6_freeAt_29 rfl rfl rfl rfl ?_
      refine qj_iconst (v := (1 : Int32)) cx dX6_freeAt_30 (by decide) ?_
      refine qj_istore (ls1 := [some (.ref 0), some (.int a), some (.int b), some (.int (0 : Int32)), some (.int (1 : Int32))]) cx dX6_freeAt_31 rfl rfl rfl ?_
      exact L33 qc_fu q10.1 q10.2 a b (0 : Int32) (1 : Int32) hP
    · have hP := qc_ifF hP c9
      refine qj_iconst (v := (-1 : Int32)) cx dX6_freeAt_15 (by decide) ?_
      exact qw_iret cx hz dX6_freeAt_16 (Nat.zero_le _) (Nat.zero_le _) (congrArg (fun q => q.1) (Option.some.inj hP)) (congrArg (fun q => q.2.1) (Option.some.inj hP)) (congrArg (fun q => q.2.2) (Option.some.inj hP))
def P_X6_spare_76 (k17 : (Nat → Nat → Int32) → (Nat → Nat → Int64) → Int32 → Int32 → Int32 → Option (Int32 × (Nat → Nat → Int32) × (Nat → Nat → Int64))) (I : (Nat → Nat → Int32)) (J : (Nat → Nat → Int64)) (a1 : Int32) (a2 : Int32) (a3 : Int32) : Option (Int32 × (Nat → Nat → Int32) × (Nat → Nat → Int64)) :=
  qc_let (a3 + (1 : Int32)) fun x1 =>
  k17 I J a1 a2 x1
def P_X6_spare_17  : Nat → (Nat → Nat → Int32) → (Nat → Nat → Int64) → Int32 → Int32 → Int32 → Option (Int32 × (Nat → Nat → Int32) × (Nat → Nat → Int64))
  | 0, _, _, _, _, _ => none
  | f + 1, I, J, a1, a2, a3 =>
  if I 2 1 < a3 then
  some (a2, I, J)
  else
  (P_X4_copyFrom I J 12 2).bind fun q3 =>
  (P_X6_fitsOnTrial q3.1 q3.2 a1 a3).bind fun q4 =>
  if q4.1 = 0 then
  P_X6_spare_76 (P_X6_spare_17 f) q4.2.1 q4.2.2 a1 a2 a3
  else
  (P_X4_untunedUsers q4.2.1 12).bind fun q6 =>
  (P_X5_seek q4.2.1 q4.2.2 12 q6).bind fun q7 =>
  if q7.1 = 0 then
  qc_let (a2 + (1 : Int32)) fun x9 =>
  P_X6_spare_76 (P_X6_spare_17 f) q7.2.1 q7.2.2 a1 x9 a3
  else
  P_X6_spare_76 (P_X6_spare_17 f) q7.2.1 q7.2.2 a1 a2 a3
def P_X6_spare (I : Nat → Nat → Int32) (J : Nat → Nat → Int64) (a : Int32) : Option (Int32 × (Nat → Nat → Int32) × (Nat → Nat → Int64)) :=
  (P_X4_isUser I 2 a).bind fun q10 =>
  if q10 = 0 then
  some ((-1 : Int32), I, J)
  else
  P_X6_spare_17 qc_fu I J a (0 : Int32) (1 : Int32)
set_option maxRecDepth 20000 in
theorem c_X6_spare {I : Nat → Nat → Int32} {J : Nat → Nat → Int64} {w : Nat → Nat} {n : Nat} (hn : 121 ≤ n) (hn1 : n ≤ 200) {a : Int32} {q0 : Int32 × (Nat → Nat → Int32) × (Nat → Nat → Int64)} (hP : P_X6_spare I J a = some q0) : ∀ l, qc_M l yX6_spare cX6_spare 4 (some .int) 6 154 0 0 [.ref 0, .int a] (I, J, (rX w, kX, nX, n)) (some (.int q0.1)) (q0.2.1, q0.2.2, (rX w, kX, nX, n)) := by
  intro l
  refine qc_ent2 (by decide) (Nat.le_of_ble_eq_true rfl) ?_
  intro F hn0 cx hz
  have cx : qc_X F cX6_spare RX6 "spare" 6 0 0 154 := cx
  have L76 : ∀ (k17 : (Nat → Nat → Int32) → (Nat → Nat → Int64) → Int32 → Int32 → Int32 → Option (Int32 × (Nat → Nat → Int32) × (Nat → Nat → Int64))) (g17 : ∀ (I : Nat → Nat → Int32) (J : Nat → Nat → Int64) (a1 : Int32) (a2 : Int32) (a3 : Int32), k17 I J a1 a2 a3 = some q0 → qc_J F 0 0 17 [some (.ref 0), some (.int a1), some (.int a2), some (.int a3)] [] (I, J, (rX w, kX, nX, n))) (I : (Nat → Nat → Int32)) (J : (Nat → Nat → Int64)) (a1 : Int32) (a2 : Int32) (a3 : Int32), P_X6_spare_76 k17 I J a1 a2 a3 = some q0 → qc_J F 0 0 76 [some (.ref 0), some (.int a1), some (.int a2), some (.int a3)] [] (I, J, (rX w, kX, nX, n)) := by
    intro k17 g17 I J a1 a2 a3 hP
    unfold P_X6_spare_76 at hP
    obtain ⟨x1, ex1, hP⟩ := qc_letE hP
    refine qj_iinc (v := x1) (ls1 := [some (.ref 0), some (.int a1), some (.int a2), some (.int x1)]) cx dX6_spare_76 rfl (by rw [ex1]; rfl) rfl rfl ?_
    refine qj_goto (tgt := 17) cx dX6_spare_79 (by decide) ?_
    exact g17 I J a1 a2 x1 hP
  have L17 : ∀  (f : Nat) (I : (Nat → Nat → Int32)) (J : (Nat → Nat → Int64)) (a1 : Int32) (a2 : Int32) (a3 : Int32), P_X6_spare_17 f I J a1 a2 a3 = some q0 → qc_J F 0 0 17 [some (.ref 0), some (.int a1), some (.int a2), some (.int a3)] [] (I, J, (rX w, kX, nX, n)) := by
    intro  f
    induction f with
    | zero => intro I J a1 a2 a3 hP; cases hP
    | succ f ih =>
      intro I J a1 a2 a3 hP
      rw [P_X6_spare_17] at hP
      refine qj_iload_n cx dX6_spare_17 rfl rfl ?_
      refine qj_aload_n cx dX6_spare_18 rfl rfl ?_
      refine qw_getR (j := 4) (t1 := 2) cx dX6_spare_19 qc_cl6 rfl (Nat.lt_of_lt_of_le (by decide) hn) rfl ww_334 rfl ?_
      refine qw_getI (j := 1) cx dX6_spare_22 qc_cl4 rfl (Nat.lt_of_lt_of_le (by decide) hn) rfl ww_155 ?_
      refine qj_icmp_gt (tgt := 82) cx dX6_spare_25 (by decide) (fun c2 => ?_) (fun c2 => ?_)
      · have hP := qc_ifT hP c2
        refine qj_iload_n cx dX6_spare_82 rfl rfl ?_
        exact qw_iret cx hz dX6_spare_83 (Nat.zero_le _) (Nat.zero_le _) (congrArg (fun q => q.1) (Option.some.inj hP)) (congrArg (fun q => q.2.1) (Option.some.inj hP)) (congrArg (fun q => q.2.2) (Option.some.inj hP))
      · have hP := qc_ifF hP c2
        refine qj_aload_n cx dX6_spare_28 rfl rfl ?_
        refine qw_getR (j := 5) (t1 := 12) cx dX6_spare_29 qc_cl6 rfl (Nat.lt_of_lt_of_le (by decide) hn) rfl ww_335 rfl ?_
        refine qj_aload_n cx dX6_spare_32 rfl rfl ?_
        refine qw_getR (j := 4) (t1 := 2) cx dX6_spare_33 qc_cl6 rfl (Nat.lt_of_lt_of_le (by decide) hn) rfl ww_334 rfl ?_
        obtain ⟨q3, eq3, hP⟩ := Option.bind_eq_some_iff.mp hP
        refine qj_callV (As := [.ref 2]) (st := []) (t := 12) (h' := (q3.1, q3.2, (rX w, kX, nX, n))) (r := none) cx dX6_spare_36 (c_X4_copyFrom (I := I) (J := J) (w := w) hn hn1 (qc_sc12 hn) (qc_sc2 hn) eq3) gc_RX6_248 qm_X4_copyFrom rfl rfl qc_cl4 rfl (Nat.lt_of_lt_of_le (by decide) hn) (by decide) (by decide) rfl (Nat.le_of_ble_eq_true rfl) (Nat.le_trans hn1 (by decide)) hn0 rfl ?_
        refine qj_aload_n cx dX6_spare_39 rfl rfl ?_
        refine qj_iload_n cx dX6_spare_40 rfl rfl ?_
        refine qj_iload_n cx dX6_spare_41 rfl rfl ?_
        obtain ⟨q4, eq4, hP⟩ := Option.bind_eq_some_iff.mp hP
        refine qj_callV (As := [.int a1, .int a3]) (st := []) (t := 0) (h' := (q4.2.1, q4.2.2, (rX w, kX, nX, n))) (r := some (.int q4.1)) cx dX6_spare_42 (c_X6_fitsOnTrial (I := q3.1) (J := q3.2) (w := w) hn hn1 eq4) gc_RX6_254 qm_X6_fitsOnTrial rfl rfl qc_cl6 rfl (Nat.lt_of_lt_of_le (by decide) hn) (by decide) (by decide) rfl (Nat.le_of_ble_eq_true rfl) (Nat.le_trans hn1 (by decide)) hn0 rfl ?_
        refine qj_if_eq (tgt := 76) cx dX6_spare_45 (by decide) (fun c5 => ?_) (fun c5 => ?_)
        · have hP := qc_ifT hP c5
          exact L76 (P_X6_spare_17 f) ih q4.2.1 q4.2.2 a1 a2 a3 hP
        · have hP := qc_ifF hP c5
          refine qj_aload_n cx dX6_spare_48 rfl rfl ?_
          refine qw_getR (j := 7) (t1 := 33) cx dX6_spare_49 qc_cl6 rfl (Nat.lt_of_lt_of_le (by decide) hn) rfl ww_337 rfl ?_
          refine qj_aload_n cx dX6_spare_52 rfl rfl ?_
          refine qw_getR (j := 6) (t1 := 22) cx dX6_spare_53 qc_cl6 rfl (Nat.lt_of_lt_of_le (by decide) hn) rfl ww_336 rfl ?_
          refine qj_aload_n cx dX6_spare_56 rfl rfl ?_
          refine qw_getR (j := 5) (t1 := 12) cx dX6_spare_57 qc_cl6 rfl (Nat.lt_of_lt_of_le (by decide) hn) rfl ww_335 rfl ?_
          refine qj_aload_n cx dX6_spare_60 rfl rfl ?_
          refine qw_getR (j := 5) (t1 := 12) cx dX6_spare_61 qc_cl6 rfl (Nat.lt_of_lt_of_le (by decide) hn) rfl ww_335 rfl ?_
          obtain ⟨q6, eq6, hP⟩ := Option.bind_eq_some_iff.mp hP
          refine qj_callV (As := []) (st := [.ref 12, .ref 22, .ref 33]) (t := 12) (h' := (q4.2.1, q4.2.2, (rX w, kX, nX, n))) (r := some (.int q6)) cx dX6_spare_64 (c_X4_untunedUsers (I := q4.2.1) (J := q4.2.2) (w := w) hn hn1 (qc_sc12 hn) eq6) gc_RX6_258 qm_X4_untunedUsers rfl rfl qc_cl4 rfl (Nat.lt_of_lt_of_le (by decide) hn) (by decide) (by decide) rfl (Nat.le_of_ble_eq_true rfl) (Nat.le_trans hn1 (by decide)) hn0 rfl ?_
          obtain ⟨q7, eq7, hP⟩ := Option.bind_eq_some_iff.mp hP
          refine qj_callV (As := [.ref 22, .ref 12, .int q6]) (st := []) (t := 33) (h' := (q7.2.1, q7.2.2, (rX w, kX, nX, n))) (r := some (.int q7.1)) cx dX6_spare_67 (c_X5_seek (I := q4.2.1) (J := q4.2.2) (w := w) hn hn1 (qc_sc12 hn) eq7) gc_RX6_261 qm_X5_seek rfl rfl qc_cl5 rfl (Nat.lt_of_lt_of_le (by decide) hn) (by decide) (by decide) rfl (Nat.le_of_ble_eq_true rfl) (Nat.le_trans hn1 (by decide)) hn0 rfl ?_
          refine qj_if_ne (tgt := 76) cx dX6_spare_70 (by decide) (fun c8 => ?_) (fun c8 => ?_)
          · have hP := qc_ifF hP c8
            exact L76 (P_X6_spare_17 f) ih q7.2.1 q7.2.2 a1 a2 a3 hP
          · have hP := qc_ifT hP c8
            obtain ⟨x9, ex9, hP⟩ := qc_letE hP
            refine qj_iinc (v := x9) (ls1 := [some (.ref 0), some (.int a1), some (.int x9), some (.int a3)]) cx dX6_spare_73 rfl (by rw [ex9]; rfl) rfl rfl ?_
            exact L76 (P_X6_spare_17 f) ih q7.2.1 q7.2.2 a1 x9 a3 hP
  show qc_J F 0 0 0 [some (.ref 0), some (.int a), none, none] [] (I, J, (rX w, kX, nX, n))
  unfold P_X6_spare at hP
  refine qj_aload_n cx dX6_spare_0 rfl rfl ?_
  refine qw_getR (j := 4) (t1 := 2) cx dX6_spare_1 qc_cl6 rfl (Nat.lt_of_lt_of_le (by decide) hn) rfl ww_334 rfl ?_
  refine qj_iload_n cx dX6_spare_4 rfl rfl ?_
  obtain ⟨q10, eq10, hP⟩ := Option.bind_eq_some_iff.mp hP
  refine qj_callV (As := [.int a]) (st := []) (t := 2) (h' := (I, J, (rX w, kX, nX, n))) (r := some (.int q10)) cx dX6_spare_5 (c_X4_isUser (I := I) (J := J) (w := w) hn hn1 (qc_sc2 hn) eq10) gc_RX6_94 qm_X4_isUser rfl rfl qc_cl4 rfl (Nat.lt_of_lt_of_le (by decide) hn) (by decide) (by decide) rfl (Nat.le_of_ble_eq_true rfl) (Nat.le_trans hn1 (by decide)) hn0 rfl ?_
  refine qj_if_ne (tgt := 13) cx dX6_spare_8 (by decide) (fun c11 => ?_) (fun c11 => ?_)
  · have hP := qc_ifF hP c11
    refine qj_iconst (v := (0 : Int32)) cx dX6_spare_13 (by decide) ?_
    refine qj_istore_n (ls1 := [some (.ref 0), some (.int a), some (.int (0 : Int32)), none]) cx dX6_spare_14 rfl rfl rfl rfl ?_
    refine qj_iconst (v := (1 : Int32)) cx dX6_spare_15 (by decide) ?_
    refine qj_istore_n (ls1 := [some (.ref 0), some (.int a), some (.int (0 : Int32)), some (.int (1 : Int32))]) cx dX6_spare_16 rfl rfl rfl rfl ?_
    exact L17 qc_fu I J a (0 : Int32) (1 : Int32) hP
  · have hP := qc_ifT hP c11
    refine qj_iconst (v := (-1 : Int32)) cx dX6_spare_11 (by decide) ?_
    exact qw_iret cx hz dX6_spare_12 (Nat.zero_le _) (Nat.zero_le _) (congrArg (fun q => q.1) (Option.some.inj hP)) (congrArg (fun q => q.2.1) (Option.some.inj hP)) (congrArg (fun q => q.2.2) (Option.some.inj hP))
def P_X6_trouble (I : Nat → Nat → Int32) (J : Nat → Nat → Int64) (p : Nat) : Option (Int32 × (Nat → Nat → Int32) × (Nat → Nat → Int64)) :=
  (P_X2_fill I J p).bind fun q1 =>
  (P_X4_crowdedCouples q1.1 p).bind fun q2 =>
  some ((q1.1 22 2) + q2, q1.1, q1.2)
set_option maxRecDepth 20000 in
theorem c_X6_trouble {I : Nat → Nat → Int32} {J : Nat → Nat → Int64} {w : Nat → Nat} {n : Nat} (hn : 121 ≤ n) (hn1 : n ≤ 200) {p : Nat} (hp : qc_sc n p)  {q0 : Int32 × (Nat → Nat → Int32) × (Nat → Nat → Int64)} (hP : P_X6_trouble I J p = some q0) : ∀ l, qc_M l yX6_trouble cX6_trouble 2 (some .int) 5 127 0 0 [.ref 0, .ref p] (I, J, (rX w, kX, nX, n)) (some (.int q0.1)) (q0.2.1, q0.2.2, (rX w, kX, nX, n)) := by
  intro l
  refine qc_ent2 (by decide) (Nat.le_of_ble_eq_true rfl) ?_
  intro F hn0 cx hz
  have cx : qc_X F cX6_trouble RX6 "trouble" 5 0 0 127 := cx
  show qc_J F 0 0 0 [some (.ref 0), some (.ref p)] [] (I, J, (rX w, kX, nX, n))
  unfold P_X6_trouble at hP
  refine qj_aload_n cx dX6_trouble_0 rfl rfl ?_
  refine qw_getR (j := 6) (t1 := 22) cx dX6_trouble_1 qc_cl6 rfl (Nat.lt_of_lt_of_le (by decide) hn) rfl ww_336 rfl ?_
  refine qj_aload_n cx dX6_trouble_4 rfl rfl ?_
  obtain ⟨q1, eq1, hP⟩ := Option.bind_eq_some_iff.mp hP
  refine qj_callV (As := [.ref p]) (st := []) (t := 22) (h' := (q1.1, q1.2, (rX w, kX, nX, n))) (r := none) cx dX6_trouble_5 (c_X2_fill (I := I) (J := J) (w := w) hn hn1 hp eq1) gc_RX6_202 qm_X2_fill rfl rfl qc_cl2 rfl (Nat.lt_of_lt_of_le (by decide) hn) (by decide) (by decide) rfl (Nat.le_of_ble_eq_true rfl) (Nat.le_trans hn1 (by decide)) hn0 rfl ?_
  refine qj_aload_n cx dX6_trouble_8 rfl rfl ?_
  refine qw_getR (j := 6) (t1 := 22) cx dX6_trouble_9 qc_cl6 rfl (Nat.lt_of_lt_of_le (by decide) hn) rfl ww_336 rfl ?_
  refine qw_getI (j := 2) cx dX6_trouble_12 qc_cl2 rfl (Nat.lt_of_lt_of_le (by decide) hn) rfl ww_257 ?_
  refine qj_aload_n cx dX6_trouble_15 rfl rfl ?_
  obtain ⟨q2, eq2, hP⟩ := Option.bind_eq_some_iff.mp hP
  refine qj_callV (As := []) (st := [.int (q1.1 22 2)]) (t := p) (h' := (q1.1, q1.2, (rX w, kX, nX, n))) (r := some (.int q2)) cx dX6_trouble_16 (c_X4_crowdedCouples (I := q1.1) (J := q1.2) (w := w) hn hn1 hp eq2) gc_RX6_213 qm_X4_crowdedCouples rfl rfl qc_cl4 hp.2.1 (qc_ltp0 hp.1) (by decide) (by decide) rfl (Nat.le_of_ble_eq_true rfl) (Nat.le_trans hn1 (by decide)) hn0 rfl ?_
  refine qj_iadd cx dX6_trouble_19 ?_
  exact qw_iret cx hz dX6_trouble_20 (Nat.zero_le _) (Nat.zero_le _) (congrArg (fun q => q.1) (Option.some.inj hP)) (congrArg (fun q => q.2.1) (Option.some.inj hP)) (congrArg (fun q => q.2.2) (Option.some.inj hP))
def P_X6_ifTuned_28  (I : (Nat → Nat → Int32)) (J : (Nat → Nat → Int64)) (a1 : Int32) (a2 : Int32) : Option (Int32 × (Nat → Nat → Int32) × (Nat → Nat → Int64)) :=
  (P_X4_copyFrom I J 12 2).bind fun q1 =>
  if qc_in a1 8 then
  qc_let (qc_u2 q1.1 19 a1.toNatClampNeg a2) fun I2 =>
  (P_X6_trouble I2 q1.2 12).bind fun q3 =>
  some (q3.1, q3.2.1, q3.2.2)
  else none
def P_X6_ifTuned (I : Nat → Nat → Int32) (J : Nat → Nat → Int64) (a : Int32) (b : Int32) : Option (Int32 × (Nat → Nat → Int32) × (Nat → Nat → Int64)) :=
  (P_X4_isUser I 2 a).bind fun q5 =>
  if q5 = 0 then
  some ((-1 : Int32), I, J)
  else
  if b = 0 then
  P_X6_ifTuned_28 I J a b
  else
  (P_X4_isChannel I 2 b).bind fun q8 =>
  if q8 = 0 then
  some ((-1 : Int32), I, J)
  else
  P_X6_ifTuned_28 I J a b
set_option maxRecDepth 20000 in
theorem c_X6_ifTuned {I : Nat → Nat → Int32} {J : Nat → Nat → Int64} {w : Nat → Nat} {n : Nat} (hn : 121 ≤ n) (hn1 : n ≤ 200) {a : Int32} {b : Int32} {q0 : Int32 × (Nat → Nat → Int32) × (Nat → Nat → Int64)} (hP : P_X6_ifTuned I J a b = some q0) : ∀ l, qc_M l yX6_ifTuned cX6_ifTuned 3 (some .int) 6 148 0 0 [.ref 0, .int a, .int b] (I, J, (rX w, kX, nX, n)) (some (.int q0.1)) (q0.2.1, q0.2.2, (rX w, kX, nX, n)) := by
  intro l
  refine qc_ent2 (by decide) (Nat.le_of_ble_eq_true rfl) ?_
  intro F hn0 cx hz
  have cx : qc_X F cX6_ifTuned RX6 "ifTuned" 6 0 0 148 := cx
  have L28 : ∀  (I : (Nat → Nat → Int32)) (J : (Nat → Nat → Int64)) (a1 : Int32) (a2 : Int32), P_X6_ifTuned_28 I J a1 a2 = some q0 → qc_J F 0 0 28 [some (.ref 0), some (.int a1), some (.int a2)] [] (I, J, (rX w, kX, nX, n)) := by
    intro I J a1 a2 hP
    unfold P_X6_ifTuned_28 at hP
    refine qj_aload_n cx dX6_ifTuned_28 rfl rfl ?_
    refine qw_getR (j := 5) (t1 := 12) cx dX6_ifTuned_29 qc_cl6 rfl (Nat.lt_of_lt_of_le (by decide) hn) rfl ww_335 rfl ?_
    refine qj_aload_n cx dX6_ifTuned_32 rfl rfl ?_
    refine qw_getR (j := 4) (t1 := 2) cx dX6_ifTuned_33 qc_cl6 rfl (Nat.lt_of_lt_of_le (by decide) hn) rfl ww_334 rfl ?_
    obtain ⟨q1, eq1, hP⟩ := Option.bind_eq_some_iff.mp hP
    refine qj_callV (As := [.ref 2]) (st := []) (t := 12) (h' := (q1.1, q1.2, (rX w, kX, nX, n))) (r := none) cx dX6_ifTuned_36 (c_X4_copyFrom (I := I) (J := J) (w := w) hn hn1 (qc_sc12 hn) (qc_sc2 hn) eq1) gc_RX6_248 qm_X4_copyFrom rfl rfl qc_cl4 rfl (Nat.lt_of_lt_of_le (by decide) hn) (by decide) (by decide) rfl (Nat.le_of_ble_eq_true rfl) (Nat.le_trans hn1 (by decide)) hn0 rfl ?_
    refine qj_aload_n cx dX6_ifTuned_39 rfl rfl ?_
    refine qw_getR (j := 5) (t1 := 12) cx dX6_ifTuned_40 qc_cl6 rfl (Nat.lt_of_lt_of_le (by decide) hn) rfl ww_335 rfl ?_
    refine qw_getR (j := 13) (t1 := 19) cx dX6_ifTuned_43 qc_cl4 rfl (Nat.lt_of_lt_of_le (by decide) hn) rfl ww_198 rfl ?_
    refine qj_iload_n cx dX6_ifTuned_46 rfl rfl ?_
    refine qj_iload_n cx dX6_ifTuned_47 rfl rfl ?_
    obtain ⟨c4, hP⟩ := qc_ck hP
    obtain ⟨I2, eI2, hP⟩ := qc_letE hP
    refine qw_iast (n1 := 8) cx dX6_ifTuned_48 rfl (Nat.lt_of_lt_of_le (by decide) hn) rfl c4 eI2 ?_
    refine qj_aload_n cx dX6_ifTuned_49 rfl rfl ?_
    refine qj_aload_n cx dX6_ifTuned_50 rfl rfl ?_
    refine qw_getR (j := 5) (t1 := 12) cx dX6_ifTuned_51 qc_cl6 rfl (Nat.lt_of_lt_of_le (by decide) hn) rfl ww_335 rfl ?_
    obtain ⟨q3, eq3, hP⟩ := Option.bind_eq_some_iff.mp hP
    refine qj_callV (As := [.ref 12]) (st := []) (t := 0) (h' := (q3.2.1, q3.2.2, (rX w, kX, nX, n))) (r := some (.int q3.1)) cx dX6_ifTuned_54 (c_X6_trouble (I := I2) (J := q1.2) (w := w) hn hn1 (qc_sc12 hn) eq3) gc_RX6_265 qm_X6_trouble rfl rfl qc_cl6 rfl (Nat.lt_of_lt_of_le (by decide) hn) (by decide) (by decide) rfl (Nat.le_of_ble_eq_true rfl) (Nat.le_trans hn1 (by decide)) hn0 rfl ?_
    exact qw_iret cx hz dX6_ifTuned_57 (Nat.zero_le _) (Nat.zero_le _) (congrArg (fun q => q.1) (Option.some.inj hP)) (congrArg (fun q => q.2.1) (Option.some.inj hP)) (congrArg (fun q => q.2.2) (Option.some.inj hP))
  show qc_J F 0 0 0 [some (.ref 0), some (.int a), some (.int b)] [] (I, J, (rX w, kX, nX, n))
  unfold P_X6_ifTuned at hP
  refine qj_aload_n cx dX6_ifTuned_0 rfl rfl ?_
  refine qw_getR (j := 4) (t1 := 2) cx dX6_ifTuned_1 qc_cl6 rfl (Nat.lt_of_lt_of_le (by decide) hn) rfl ww_334 rfl ?_
  refine qj_iload_n cx dX6_ifTuned_4 rfl rfl ?_
  obtain ⟨q5, eq5, hP⟩ := Option.bind_eq_some_iff.mp hP
  refine qj_callV (As := [.int a]) (st := []) (t := 2) (h' := (I, J, (rX w, kX, nX, n))) (r := some (.int q5)) cx dX6_ifTuned_5 (c_X4_isUser (I := I) (J := J) (w := w) hn hn1 (qc_sc2 hn) eq5) gc_RX6_94 qm_X4_isUser rfl rfl qc_cl4 rfl (Nat.lt_of_lt_of_le (by decide) hn) (by decide) (by decide) rfl (Nat.le_of_ble_eq_true rfl) (Nat.le_trans hn1 (by decide)) hn0 rfl ?_
  refine qj_if_eq (tgt := 26) cx dX6_ifTuned_8 (by decide) (fun c6 => ?_) (fun c6 => ?_)
  · have hP := qc_ifT hP c6
    refine qj_iconst (v := (-1 : Int32)) cx dX6_ifTuned_26 (by decide) ?_
    exact qw_iret cx hz dX6_ifTuned_27 (Nat.zero_le _) (Nat.zero_le _) (congrArg (fun q => q.1) (Option.some.inj hP)) (congrArg (fun q => q.2.1) (Option.some.inj hP)) (congrArg (fun q => q.2.2) (Option.some.inj hP))
  · have hP := qc_ifF hP c6
    refine qj_iload_n cx dX6_ifTuned_11 rfl rfl ?_
    refine qj_if_eq (tgt := 28) cx dX6_ifTuned_12 (by decide) (fun c7 => ?_) (fun c7 => ?_)
    · have hP := qc_ifT hP c7
      exact L28 I J a b hP
    · have hP := qc_ifF hP c7
      refine qj_aload_n cx dX6_ifTuned_15 rfl rfl ?_
      refine qw_getR (j := 4) (t1 := 2) cx dX6_ifTuned_16 qc_cl6 rfl (Nat.lt_of_lt_of_le (by decide) hn) rfl ww_334 rfl ?_
      refine qj_iload_n cx dX6_ifTuned_19 rfl rfl ?_
      obtain ⟨q8, eq8, hP⟩ := Option.bind_eq_some_iff.mp hP
      refine qj_callV (As := [.int b]) (st := []) (t := 2) (h' := (I, J, (rX w, kX, nX, n))) (r := some (.int q8)) cx dX6_ifTuned_20 (c_X4_isChannel (I := I) (J := J) (w := w) hn hn1 (qc_sc2 hn) eq8) gc_RX6_98 qm_X4_isChannel rfl rfl qc_cl4 rfl (Nat.lt_of_lt_of_le (by decide) hn) (by decide) (by decide) rfl (Nat.le_of_ble_eq_true rfl) (Nat.le_trans hn1 (by decide)) hn0 rfl ?_
      refine qj_if_ne (tgt := 28) cx dX6_ifTuned_23 (by decide) (fun c9 => ?_) (fun c9 => ?_)
      · have hP := qc_ifF hP c9
        exact L28 I J a b hP
      · have hP := qc_ifT hP c9
        refine qj_iconst (v := (-1 : Int32)) cx dX6_ifTuned_26 (by decide) ?_
        exact qw_iret cx hz dX6_ifTuned_27 (Nat.zero_le _) (Nat.zero_le _) (congrArg (fun q => q.1) (Option.some.inj hP)) (congrArg (fun q => q.2.1) (Option.some.inj hP)) (congrArg (fun q => q.2.2) (Option.some.inj hP))
def P_X6_quietest_105 (k40 : (Nat → Nat → Int32) → (Nat → Nat → Int64) → Int32 → Int32 → Int32 → Int32 → Option (Int32 × (Nat → Nat → Int32) × (Nat → Nat → Int64))) (I : (Nat → Nat → Int32)) (J : (Nat → Nat → Int64)) (a1 : Int32) (a2 : Int32) (a3 : Int32) (a4 : Int32) : Option (Int32 × (Nat → Nat → Int32) × (Nat → Nat → Int64)) :=
  qc_let (a4 + (1 : Int32)) fun x1 =>
  k40 I J a1 a2 a3 x1
def P_X6_quietest_99 (k40 : (Nat → Nat → Int32) → (Nat → Nat → Int64) → Int32 → Int32 → Int32 → Int32 → Option (Int32 × (Nat → Nat → Int32) × (Nat → Nat → Int64))) (I : (Nat → Nat → Int32)) (J : (Nat → Nat → Int64)) (a1 : Int32) (a4 : Int32) (a5 : Int32) : Option (Int32 × (Nat → Nat → Int32) × (Nat → Nat → Int64)) :=
  P_X6_quietest_105 k40 I J a1 a4 a5 a4
def P_X6_quietest_40  : Nat → (Nat → Nat → Int32) → (Nat → Nat → Int64) → Int32 → Int32 → Int32 → Int32 → Option (Int32 × (Nat → Nat → Int32) × (Nat → Nat → Int64))
  | 0, _, _, _, _, _, _ => none
  | f + 1, I, J, a1, a2, a3, a4 =>
  if qc_in a1 8 then
  if I 8 a1.toNatClampNeg < a4 then
  some (a2, I, J)
  else
  (P_X4_isShut J 2 a4).bind fun q4 =>
  if q4 = 0 then
  (if qc_in a1 8 then
  qc_let (qc_u2 I 19 a1.toNatClampNeg a4) fun I6 =>
  (P_X6_trouble I6 J 12).bind fun q7 =>
  if a2 = (-2 : Int32) then
  P_X6_quietest_99 (P_X6_quietest_40 f) q7.2.1 q7.2.2 a1 a4 q7.1
  else
  if a3 ≤ q7.1 then
  P_X6_quietest_105 (P_X6_quietest_40 f) q7.2.1 q7.2.2 a1 a2 a3 a4
  else
  P_X6_quietest_99 (P_X6_quietest_40 f) q7.2.1 q7.2.2 a1 a4 q7.1
  else none)
  else
  P_X6_quietest_105 (P_X6_quietest_40 f) I J a1 a2 a3 a4
  else none
def P_X6_quietest (I : Nat → Nat → Int32) (J : Nat → Nat → Int64) (a : Int32) : Option (Int32 × (Nat → Nat → Int32) × (Nat → Nat → Int64)) :=
  (P_X4_isUser I 2 a).bind fun q11 =>
  if q11 = 0 then
  some ((-1 : Int32), I, J)
  else
  (P_X4_copyFrom I J 12 2).bind fun q13 =>
  if qc_in a 8 then
  qc_let (q13.1 7 a.toNatClampNeg) fun x15 =>
  P_X6_quietest_40 qc_fu q13.1 q13.2 a (-2 : Int32) (0 : Int32) x15
  else none
set_option maxRecDepth 20000 in
theorem c_X6_quietest {I : Nat → Nat → Int32} {J : Nat → Nat → Int64} {w : Nat → Nat} {n : Nat} (hn : 121 ≤ n) (hn1 : n ≤ 200) {a : Int32} {q0 : Int32 × (Nat → Nat → Int32) × (Nat → Nat → Int64)} (hP : P_X6_quietest I J a = some q0) : ∀ l, qc_M l yX6_quietest cX6_quietest 6 (some .int) 6 148 0 0 [.ref 0, .int a] (I, J, (rX w, kX, nX, n)) (some (.int q0.1)) (q0.2.1, q0.2.2, (rX w, kX, nX, n)) := by
  intro l
  refine qc_ent2 (by decide) (Nat.le_of_ble_eq_true rfl) ?_
  intro F hn0 cx hz
  have cx : qc_X F cX6_quietest RX6 "quietest" 6 0 0 148 := cx
  have L105 : ∀ (k40 : (Nat → Nat → Int32) → (Nat → Nat → Int64) → Int32 → Int32 → Int32 → Int32 → Option (Int32 × (Nat → Nat → Int32) × (Nat → Nat → Int64))) (g40 : ∀ (I : Nat → Nat → Int32) (J : Nat → Nat → Int64) (a1 : Int32) (a2 : Int32) (a3 : Int32) (a4 : Int32), k40 I J a1 a2 a3 a4 = some q0 → qc_J F 0 0 40 [some (.ref 0), some (.int a1), some (.int a2), some (.int a3), some (.int a4), none] [] (I, J, (rX w, kX, nX, n))) (I : (Nat → Nat → Int32)) (J : (Nat → Nat → Int64)) (a1 : Int32) (a2 : Int32) (a3 : Int32) (a4 : Int32), P_X6_quietest_105 k40 I J a1 a2 a3 a4 = some q0 → qc_J F 0 0 105 [some (.ref 0), some (.int a1), some (.int a2), some (.int a3), some (.int a4), none] [] (I, J, (rX w, kX, nX, n)) := by
    intro k40 g40 I J a1 a2 a3 a4 hP
    unfold P_X6_quietest_105 at hP
    obtain ⟨x1, ex1, hP⟩ := qc_letE hP
    refine qj_iinc (v := x1) (ls1 := [some (.ref 0), some (.int a1), some (.int a2), some (.int a3), some (.int x1), none]) cx dX6_quietest_105 rfl (by rw [ex1]; rfl) rfl rfl ?_
    refine qj_goto (tgt := 40) cx dX6_quietest_108 (by decide) ?_
    exact g40 I J a1 a2 a3 x1 hP
  have L99 : ∀ (k40 : (Nat → Nat → Int32) → (Nat → Nat → Int64) → Int32 → Int32 → Int32 → Int32 → Option (Int32 × (Nat → Nat → Int32) × (Nat → Nat → Int64))) (g40 : ∀ (I : Nat → Nat → Int32) (J : Nat → Nat → Int64) (a1 : Int32) (a2 : Int32) (a3 : Int32) (a4 : Int32), k40 I J a1 a2 a3 a4 = some q0 → qc_J F 0 0 40 [some (.ref 0), some (.int a1), some (.int a2), some (.int a3), some (.int a4), none] [] (I, J, (rX w, kX, nX, n))) (I : (Nat → Nat → Int32)) (J : (Nat → Nat → Int64)) (a1 : Int32) (a4 : Int32) (a5 : Int32), P_X6_quietest_99 k40 I J a1 a4 a5 = some q0 → qc_J F 0 0 99 [some (.ref 0), some (.int a1), none, none, some (.int a4), some (.int a5)] [] (I, J, (rX w, kX, nX, n)) := by
    intro k40 g40 I J a1 a4 a5 hP
    unfold P_X6_quietest_99 at hP
    refine qj_iload cx dX6_quietest_99 rfl ?_
    refine qj_istore_n (ls1 := [some (.ref 0), some (.int a1), some (.int a4), none, some (.int a4), some (.int a5)]) cx dX6_quietest_101 rfl rfl rfl rfl ?_
    refine qj_iload cx dX6_quietest_102 rfl ?_
    refine qj_istore_n (ls1 := [some (.ref 0), some (.int a1), some (.int a4), some (.int a5), some (.int a4), some (.int a5)]) cx dX6_quietest_104 rfl rfl rfl rfl ?_
    refine qw_sub (ls1 := [some (.ref 0), some (.int a1), some (.int a4), some (.int a5), some (.int a4), none]) rfl (qc_sb_ok ⟨rfl, rfl, rfl, rfl, rfl, trivial⟩) ?_
    exact L105 k40 g40 I J a1 a4 a5 a4 hP
  have L40 : ∀  (f : Nat) (I : (Nat → Nat → Int32)) (J : (Nat → Nat → Int64)) (a1 : Int32) (a2 : Int32) (a3 : Int32) (a4 : Int32), P_X6_quietest_40 f I J a1 a2 a3 a4 = some q0 → qc_J F 0 0 40 [some (.ref 0), some (.int a1), some (.int a2), some (.int a3), some (.int a4), none] [] (I, J, (rX w, kX, nX, n)) := by
    intro  f
    induction f with
    | zero => intro I J a1 a2 a3 a4 hP; cases hP
    | succ f ih =>
      intro I J a1 a2 a3 a4 hP
      rw [P_X6_quietest_40] at hP
      refine qj_iload cx dX6_quietest_40 rfl ?_
      refine qj_aload_n cx dX6_quietest_42 rfl rfl ?_
      refine qw_getR (j := 4) (t1 := 2) cx dX6_quietest_43 qc_cl6 rfl (Nat.lt_of_lt_of_le (by decide) hn) rfl ww_334 rfl ?_
      refine qw_getR (j := 12) (t1 := 8) cx dX6_quietest_46 qc_cl4 rfl (Nat.lt_of_lt_of_le (by decide) hn) rfl ww_193 rfl ?_
      refine qj_iload_n cx dX6_quietest_49 rfl rfl ?_
      obtain ⟨c2, hP⟩ := qc_ck hP
      refine qw_iald (n1 := 8) cx dX6_quietest_50 rfl (Nat.lt_of_lt_of_le (by decide) hn) rfl c2 ?_
      refine qj_icmp_gt (tgt := 111) cx dX6_quietest_51 (by decide) (fun c3 => ?_) (fun c3 => ?_)
      · have hP := qc_ifT hP c3
        refine qj_iload_n cx dX6_quietest_111 rfl rfl ?_
        exact qw_iret cx hz dX6_quietest_112 (Nat.zero_le _) (Nat.zero_le _) (congrArg (fun q => q.1) (Option.some.inj hP)) (congrArg (fun q => q.2.1) (Option.some.inj hP)) (congrArg (fun q => q.2.2) (Option.some.inj hP))
      · have hP := qc_ifF hP c3
        refine qj_aload_n cx dX6_quietest_54 rfl rfl ?_
        refine qw_getR (j := 4) (t1 := 2) cx dX6_quietest_55 qc_cl6 rfl (Nat.lt_of_lt_of_le (by decide) hn) rfl ww_334 rfl ?_
        refine qj_iload cx dX6_quietest_58 rfl ?_
        obtain ⟨q4, eq4, hP⟩ := Option.bind_eq_some_iff.mp hP
        refine qj_callV (As := [.int a4]) (st := []) (t := 2) (h' := (I, J, (rX w, kX, nX, n))) (r := some (.int q4)) cx dX6_quietest_60 (c_X4_isShut (I := I) (J := J) (w := w) hn hn1 (qc_sc2 hn) eq4) gc_RX6_112 qm_X4_isShut rfl rfl qc_cl4 rfl (Nat.lt_of_lt_of_le (by decide) hn) (by decide) (by decide) rfl (Nat.le_of_ble_eq_true rfl) (Nat.le_trans hn1 (by decide)) hn0 rfl ?_
        refine qj_if_ne (tgt := 105) cx dX6_quietest_63 (by decide) (fun c5 => ?_) (fun c5 => ?_)
        · have hP := qc_ifF hP c5
          exact L105 (P_X6_quietest_40 f) ih I J a1 a2 a3 a4 hP
        · have hP := qc_ifT hP c5
          refine qj_aload_n cx dX6_quietest_66 rfl rfl ?_
          refine qw_getR (j := 5) (t1 := 12) cx dX6_quietest_67 qc_cl6 rfl (Nat.lt_of_lt_of_le (by decide) hn) rfl ww_335 rfl ?_
          refine qw_getR (j := 13) (t1 := 19) cx dX6_quietest_70 qc_cl4 rfl (Nat.lt_of_lt_of_le (by decide) hn) rfl ww_198 rfl ?_
          refine qj_iload_n cx dX6_quietest_73 rfl rfl ?_
          refine qj_iload cx dX6_quietest_74 rfl ?_
          obtain ⟨c10, hP⟩ := qc_ck hP
          obtain ⟨I6, eI6, hP⟩ := qc_letE hP
          refine qw_iast (n1 := 8) cx dX6_quietest_76 rfl (Nat.lt_of_lt_of_le (by decide) hn) rfl c10 eI6 ?_
          refine qj_aload_n cx dX6_quietest_77 rfl rfl ?_
          refine qj_aload_n cx dX6_quietest_78 rfl rfl ?_
          refine qw_getR (j := 5) (t1 := 12) cx dX6_quietest_79 qc_cl6 rfl (Nat.lt_of_lt_of_le (by decide) hn) rfl ww_335 rfl ?_
          obtain ⟨q7, eq7, hP⟩ := Option.bind_eq_some_iff.mp hP
          refine qj_callV (As := [.ref 12]) (st := []) (t := 0) (h' := (q7.2.1, q7.2.2, (rX w, kX, nX, n))) (r := some (.int q7.1)) cx dX6_quietest_82 (c_X6_trouble (I := I6) (J := J) (w := w) hn hn1 (qc_sc12 hn) eq7) gc_RX6_265 qm_X6_trouble rfl rfl qc_cl6 rfl (Nat.lt_of_lt_of_le (by decide) hn) (by decide) (by decide) rfl (Nat.le_of_ble_eq_true rfl) (Nat.le_trans hn1 (by decide)) hn0 rfl ?_
          refine qj_istore (ls1 := [some (.ref 0), some (.int a1), some (.int a2), some (.int a3), some (.int a4), some (.int q7.1)]) cx dX6_quietest_85 rfl rfl rfl ?_
          refine qj_iload_n cx dX6_quietest_87 rfl rfl ?_
          refine qj_bipush (v := (-2 : Int32)) cx dX6_quietest_88 (by decide) ?_
          refine qj_icmp_eq (tgt := 99) cx dX6_quietest_90 (by decide) (fun c8 => ?_) (fun c8 => ?_)
          · have hP := qc_ifT hP c8
            refine qw_sub (ls1 := [some (.ref 0), some (.int a1), none, none, some (.int a4), some (.int q7.1)]) rfl (qc_sb_ok ⟨rfl, rfl, rfl, rfl, trivial⟩) ?_
            exact L99 (P_X6_quietest_40 f) ih q7.2.1 q7.2.2 a1 a4 q7.1 hP
          · have hP := qc_ifF hP c8
            refine qj_iload cx dX6_quietest_93 rfl ?_
            refine qj_iload_n cx dX6_quietest_95 rfl rfl ?_
            refine qj_icmp_ge (tgt := 105) cx dX6_quietest_96 (by decide) (fun c9 => ?_) (fun c9 => ?_)
            · have hP := qc_ifT hP c9
              refine qw_sub (ls1 := [some (.ref 0), some (.int a1), some (.int a2), some (.int a3), some (.int a4), none]) rfl (qc_sb_ok ⟨rfl, rfl, rfl, rfl, rfl, trivial⟩) ?_
              exact L105 (P_X6_quietest_40 f) ih q7.2.1 q7.2.2 a1 a2 a3 a4 hP
            · have hP := qc_ifF hP c9
              refine qw_sub (ls1 := [some (.ref 0), some (.int a1), none, none, some (.int a4), some (.int q7.1)]) rfl (qc_sb_ok ⟨rfl, rfl, rfl, rfl, trivial⟩) ?_
              exact L99 (P_X6_quietest_40 f) ih q7.2.1 q7.2.2 a1 a4 q7.1 hP
  show qc_J F 0 0 0 [some (.ref 0), some (.int a), none, none, none, none] [] (I, J, (rX w, kX, nX, n))
  unfold P_X6_quietest at hP
  refine qj_aload_n cx dX6_quietest_0 rfl rfl ?_
  refine qw_getR (j := 4) (t1 := 2) cx dX6_quietest_1 qc_cl6 rfl (Nat.lt_of_lt_of_le (by decide) hn) rfl ww_334 rfl ?_
  refine qj_iload_n cx dX6_quietest_4 rfl rfl ?_
  obtain ⟨q11, eq11, hP⟩ := Option.bind_eq_some_iff.mp hP
  refine qj_callV (As := [.int a]) (st := []) (t := 2) (h' := (I, J, (rX w, kX, nX, n))) (r := some (.int q11)) cx dX6_quietest_5 (c_X4_isUser (I := I) (J := J) (w := w) hn hn1 (qc_sc2 hn) eq11) gc_RX6_94 qm_X4_isUser rfl rfl qc_cl4 rfl (Nat.lt_of_lt_of_le (by decide) hn) (by decide) (by decide) rfl (Nat.le_of_ble_eq_true rfl) (Nat.le_trans hn1 (by decide)) hn0 rfl ?_
  refine qj_if_ne (tgt := 13) cx dX6_quietest_8 (by decide) (fun c12 => ?_) (fun c12 => ?_)
  · have hP := qc_ifF hP c12
    refine qj_aload_n cx dX6_quietest_13 rfl rfl ?_
    refine qw_getR (j := 5) (t1 := 12) cx dX6_quietest_14 qc_cl6 rfl (Nat.lt_of_lt_of_le (by decide) hn) rfl ww_335 rfl ?_
    refine qj_aload_n cx dX6_quietest_17 rfl rfl ?_
    refine qw_getR (j := 4) (t1 := 2) cx dX6_quietest_18 qc_cl6 rfl (Nat.lt_of_lt_of_le (by decide) hn) rfl ww_334 rfl ?_
    obtain ⟨q13, eq13, hP⟩ := Option.bind_eq_some_iff.mp hP
    refine qj_callV (As := [.ref 2]) (st := []) (t := 12) (h' := (q13.1, q13.2, (rX w, kX, nX, n))) (r := none) cx dX6_quietest_21 (c_X4_copyFrom (I := I) (J := J) (w := w) hn hn1 (qc_sc12 hn) (qc_sc2 hn) eq13) gc_RX6_248 qm_X4_copyFrom rfl rfl qc_cl4 rfl (Nat.lt_of_lt_of_le (by decide) hn) (by decide) (by decide) rfl (Nat.le_of_ble_eq_true rfl) (Nat.le_trans hn1 (by decide)) hn0 rfl ?_
    refine qj_bipush (v := (-2 : Int32)) cx dX6_quietest_24 (by decide) ?_
    refine qj_istore_n (ls1 := [some (.ref 0), some (.int a), some (.int (-2 : Int32)), none, none, none]) cx dX6_quietest_26 rfl rfl rfl rfl ?_
    refine qj_iconst (v := (0 : Int32)) cx dX6_quietest_27 (by decide) ?_
    refine qj_istore_n (ls1 := [some (.ref 0), some (.int a), some (.int (-2 : Int32)), some (.int (0 : Int32)), none, none]) cx dX6_quietest_28 rfl rfl rfl rfl ?_
    refine qj_aload_n cx dX6_quietest_29 rfl rfl ?_
    refine qw_getR (j := 4) (t1 := 2) cx dX6_quietest_30 qc_cl6 rfl (Nat.lt_of_lt_of_le (by decide) hn) rfl ww_334 rfl ?_
    refine qw_getR (j := 11) (t1 := 7) cx dX6_quietest_33 qc_cl4 rfl (Nat.lt_of_lt_of_le (by decide) hn) rfl ww_189 rfl ?_
    refine qj_iload_n cx dX6_quietest_36 rfl rfl ?_
    obtain ⟨c14, hP⟩ := qc_ck hP
    refine qw_iald (n1 := 8) cx dX6_quietest_37 rfl (Nat.lt_of_lt_of_le (by decide) hn) rfl c14 ?_
    obtain ⟨x15, ex15, hP⟩ := qc_letE hP
    refine qw_top ex15 ?_
    refine qj_istore (ls1 := [some (.ref 0), some (.int a), some (.int (-2 : Int32)), some (.int (0 : Int32)), some (.int x15), none]) cx dX6_quietest_38 rfl rfl rfl ?_
    exact L40 qc_fu q13.1 q13.2 a (-2 : Int32) (0 : Int32) x15 hP
  · have hP := qc_ifT hP c12
    refine qj_iconst (v := (-1 : Int32)) cx dX6_quietest_11 (by decide) ?_
    exact qw_iret cx hz dX6_quietest_12 (Nat.zero_le _) (Nat.zero_le _) (congrArg (fun q => q.1) (Option.some.inj hP)) (congrArg (fun q => q.2.1) (Option.some.inj hP)) (congrArg (fun q => q.2.2) (Option.some.inj hP))
def P_X6_troubleOfSwap (I : Nat → Nat → Int32) (J : Nat → Nat → Int64) (a : Int32) (b : Int32) : Option (Int32 × (Nat → Nat → Int32) × (Nat → Nat → Int64)) :=
  (P_X4_copyFrom I J 12 2).bind fun q1 =>
  if qc_in b 8 then
  if qc_in a 8 then
  qc_let (qc_u2 q1.1 19 a.toNatClampNeg (q1.1 9 b.toNatClampNeg)) fun I3 =>
  if qc_in a 8 then
  if qc_in b 8 then
  qc_let (qc_u2 I3 19 b.toNatClampNeg (I3 9 a.toNatClampNeg)) fun I5 =>
  (P_X6_trouble I5 q1.2 12).bind fun q6 =>
  some (q6.1, q6.2.1, q6.2.2)
  else none
  else none
  else none
  else none
set_option maxRecDepth 20000 in
theorem c_X6_troubleOfSwap {I : Nat → Nat → Int32} {J : Nat → Nat → Int64} {w : Nat → Nat} {n : Nat} (hn : 121 ≤ n) (hn1 : n ≤ 200) {a : Int32} {b : Int32} {q0 : Int32 × (Nat → Nat → Int32) × (Nat → Nat → Int64)} (hP : P_X6_troubleOfSwap I J a b = some q0) : ∀ l, qc_M l yX6_troubleOfSwap cX6_troubleOfSwap 3 (some .int) 6 148 0 0 [.ref 0, .int a, .int b] (I, J, (rX w, kX, nX, n)) (some (.int q0.1)) (q0.2.1, q0.2.2, (rX w, kX, nX, n)) := by
  intro l
  refine qc_ent2 (by decide) (Nat.le_of_ble_eq_true rfl) ?_
  intro F hn0 cx hz
  have cx : qc_X F cX6_troubleOfSwap RX6 "troubleOfSwap" 6 0 0 148 := cx
  show qc_J F 0 0 0 [some (.ref 0), some (.int a), some (.int b)] [] (I, J, (rX w, kX, nX, n))
  unfold P_X6_troubleOfSwap at hP
  refine qj_aload_n cx dX6_troubleOfSwap_0 rfl rfl ?_
  refine qw_getR (j := 5) (t1 := 12) cx dX6_troubleOfSwap_1 qc_cl6 rfl (Nat.lt_of_lt_of_le (by decide) hn) rfl ww_335 rfl ?_
  refine qj_aload_n cx dX6_troubleOfSwap_4 rfl rfl ?_
  refine qw_getR (j := 4) (t1 := 2) cx dX6_troubleOfSwap_5 qc_cl6 rfl (Nat.lt_of_lt_of_le (by decide) hn) rfl ww_334 rfl ?_
  obtain ⟨q1, eq1, hP⟩ := Option.bind_eq_some_iff.mp hP
  refine qj_callV (As := [.ref 2]) (st := []) (t := 12) (h' := (q1.1, q1.2, (rX w, kX, nX, n))) (r := none) cx dX6_troubleOfSwap_8 (c_X4_copyFrom (I := I) (J := J) (w := w) hn hn1 (qc_sc12 hn) (qc_sc2 hn) eq1) gc_RX6_248 qm_X4_copyFrom rfl rfl qc_cl4 rfl (Nat.lt_of_lt_of_le (by decide) hn) (by decide) (by decide) rfl (Nat.le_of_ble_eq_true rfl) (Nat.le_trans hn1 (by decide)) hn0 rfl ?_
  refine qj_aload_n cx dX6_troubleOfSwap_11 rfl rfl ?_
  refine qw_getR (j := 5) (t1 := 12) cx dX6_troubleOfSwap_12 qc_cl6 rfl (Nat.lt_of_lt_of_le (by decide) hn) rfl ww_335 rfl ?_
  refine qw_getR (j := 13) (t1 := 19) cx dX6_troubleOfSwap_15 qc_cl4 rfl (Nat.lt_of_lt_of_le (by decide) hn) rfl ww_198 rfl ?_
  refine qj_iload_n cx dX6_troubleOfSwap_18 rfl rfl ?_
  refine qj_aload_n cx dX6_troubleOfSwap_19 rfl rfl ?_
  refine qw_getR (j := 4) (t1 := 2) cx dX6_troubleOfSwap_20 qc_cl6 rfl (Nat.lt_of_lt_of_le (by decide) hn) rfl ww_334 rfl ?_
  refine qw_getR (j := 13) (t1 := 9) cx dX6_troubleOfSwap_23 qc_cl4 rfl (Nat.lt_of_lt_of_le (by decide) hn) rfl ww_198 rfl ?_
  refine qj_iload_n cx dX6_troubleOfSwap_26 rfl rfl ?_
  obtain ⟨c2, hP⟩ := qc_ck hP
  refine qw_iald (n1 := 8) cx dX6_troubleOfSwap_27 rfl (Nat.lt_of_lt_of_le (by decide) hn) rfl c2 ?_
  obtain ⟨c8, hP⟩ := qc_ck hP
  obtain ⟨I3, eI3, hP⟩ := qc_letE hP
  refine qw_iast (n1 := 8) cx dX6_troubleOfSwap_28 rfl (Nat.lt_of_lt_of_le (by decide) hn) rfl c8 eI3 ?_
  refine qj_aload_n cx dX6_troubleOfSwap_29 rfl rfl ?_
  refine qw_getR (j := 5) (t1 := 12) cx dX6_troubleOfSwap_30 qc_cl6 rfl (Nat.lt_of_lt_of_le (by decide) hn) rfl ww_335 rfl ?_
  refine qw_getR (j := 13) (t1 := 19) cx dX6_troubleOfSwap_33 qc_cl4 rfl (Nat.lt_of_lt_of_le (by decide) hn) rfl ww_198 rfl ?_
  refine qj_iload_n cx dX6_troubleOfSwap_36 rfl rfl ?_
  refine qj_aload_n cx dX6_troubleOfSwap_37 rfl rfl ?_
  refine qw_getR (j := 4) (t1 := 2) cx dX6_troubleOfSwap_38 qc_cl6 rfl (Nat.lt_of_lt_of_le (by decide) hn) rfl ww_334 rfl ?_
  refine qw_getR (j := 13) (t1 := 9) cx dX6_troubleOfSwap_41 qc_cl4 rfl (Nat.lt_of_lt_of_le (by decide) hn) rfl ww_198 rfl ?_
  refine qj_iload_n cx dX6_troubleOfSwap_44 rfl rfl ?_
  obtain ⟨c4, hP⟩ := qc_ck hP
  refine qw_iald (n1 := 8) cx dX6_troubleOfSwap_45 rfl (Nat.lt_of_lt_of_le (by decide) hn) rfl c4 ?_
  obtain ⟨c7, hP⟩ := qc_ck hP
  obtain ⟨I5, eI5, hP⟩ := qc_letE hP
  refine qw_iast (n1 := 8) cx dX6_troubleOfSwap_46 rfl (Nat.lt_of_lt_of_le (by decide) hn) rfl c7 eI5 ?_
  refine qj_aload_n cx dX6_troubleOfSwap_47 rfl rfl ?_
  refine qj_aload_n cx dX6_troubleOfSwap_48 rfl rfl ?_
  refine qw_getR (j := 5) (t1 := 12) cx dX6_troubleOfSwap_49 qc_cl6 rfl (Nat.lt_of_lt_of_le (by decide) hn) rfl ww_335 rfl ?_
  obtain ⟨q6, eq6, hP⟩ := Option.bind_eq_some_iff.mp hP
  refine qj_callV (As := [.ref 12]) (st := []) (t := 0) (h' := (q6.2.1, q6.2.2, (rX w, kX, nX, n))) (r := some (.int q6.1)) cx dX6_troubleOfSwap_52 (c_X6_trouble (I := I5) (J := q1.2) (w := w) hn hn1 (qc_sc12 hn) eq6) gc_RX6_265 qm_X6_trouble rfl rfl qc_cl6 rfl (Nat.lt_of_lt_of_le (by decide) hn) (by decide) (by decide) rfl (Nat.le_of_ble_eq_true rfl) (Nat.le_trans hn1 (by decide)) hn0 rfl ?_
  exact qw_iret cx hz dX6_troubleOfSwap_55 (Nat.zero_le _) (Nat.zero_le _) (congrArg (fun q => q.1) (Option.some.inj hP)) (congrArg (fun q => q.2.1) (Option.some.inj hP)) (congrArg (fun q => q.2.2) (Option.some.inj hP))
def P_X6_mostPower_27  : Nat → (Nat → Nat → Int32) → (Nat → Nat → Int64) → Int32 → Int32 → Option (Int32 × (Nat → Nat → Int32) × (Nat → Nat → Int64))
  | 0, _, _, _, _ => none
  | f + 1, I, J, a1, a2 =>
  if a2 < 0 then
  some ((-2 : Int32), I, J)
  else
  if qc_in a1 8 then
  qc_let (qc_u2 I 20 a1.toNatClampNeg a2) fun I2 =>
  (P_X2_anyStrike I2 J 12).bind fun q3 =>
  if q3.1 = 0 then
  some (a2, q3.2.1, q3.2.2)
  else
  qc_let (a2 + (-1 : Int32)) fun x5 =>
  P_X6_mostPower_27 f q3.2.1 q3.2.2 a1 x5
  else none
def P_X6_mostPower (I : Nat → Nat → Int32) (J : Nat → Nat → Int64) (a : Int32) : Option (Int32 × (Nat → Nat → Int32) × (Nat → Nat → Int64)) :=
  (P_X4_isUser I 2 a).bind fun q7 =>
  if q7 = 0 then
  some ((-1 : Int32), I, J)
  else
  (P_X4_copyFrom I J 12 2).bind fun q9 =>
  P_X6_mostPower_27 qc_fu q9.1 q9.2 a (30 : Int32)
set_option maxRecDepth 20000 in
theorem c_X6_mostPower {I : Nat → Nat → Int32} {J : Nat → Nat → Int64} {w : Nat → Nat} {n : Nat} (hn : 121 ≤ n) (hn1 : n ≤ 200) {a : Int32} {q0 : Int32 × (Nat → Nat → Int32) × (Nat → Nat → Int64)} (hP : P_X6_mostPower I J a = some q0) : ∀ l, qc_M l yX6_mostPower cX6_mostPower 3 (some .int) 5 127 0 0 [.ref 0, .int a] (I, J, (rX w, kX, nX, n)) (some (.int q0.1)) (q0.2.1, q0.2.2, (rX w, kX, nX, n)) := by
  intro l
  refine qc_ent2 (by decide) (Nat.le_of_ble_eq_true rfl) ?_
  intro F hn0 cx hz
  have cx : qc_X F cX6_mostPower RX6 "mostPower" 5 0 0 127 := cx
  have L27 : ∀  (f : Nat) (I : (Nat → Nat → Int32)) (J : (Nat → Nat → Int64)) (a1 : Int32) (a2 : Int32), P_X6_mostPower_27 f I J a1 a2 = some q0 → qc_J F 0 0 27 [some (.ref 0), some (.int a1), some (.int a2)] [] (I, J, (rX w, kX, nX, n)) := by
    intro  f
    induction f with
    | zero => intro I J a1 a2 hP; cases hP
    | succ f ih =>
      intro I J a1 a2 hP
      rw [P_X6_mostPower_27] at hP
      refine qj_iload_n cx dX6_mostPower_27 rfl rfl ?_
      refine qj_if_lt (tgt := 63) cx dX6_mostPower_28 (by decide) (fun c1 => ?_) (fun c1 => ?_)
      · have hP := qc_ifT hP c1
        refine qj_bipush (v := (-2 : Int32)) cx dX6_mostPower_63 (by decide) ?_
        exact qw_iret cx hz dX6_mostPower_65 (Nat.zero_le _) (Nat.zero_le _) (congrArg (fun q => q.1) (Option.some.inj hP)) (congrArg (fun q => q.2.1) (Option.some.inj hP)) (congrArg (fun q => q.2.2) (Option.some.inj hP))
      · have hP := qc_ifF hP c1
        refine qj_aload_n cx dX6_mostPower_31 rfl rfl ?_
        refine qw_getR (j := 5) (t1 := 12) cx dX6_mostPower_32 qc_cl6 rfl (Nat.lt_of_lt_of_le (by decide) hn) rfl ww_335 rfl ?_
        refine qw_getR (j := 14) (t1 := 20) cx dX6_mostPower_35 qc_cl4 rfl (Nat.lt_of_lt_of_le (by decide) hn) rfl ww_204 rfl ?_
        refine qj_iload_n cx dX6_mostPower_38 rfl rfl ?_
        refine qj_iload_n cx dX6_mostPower_39 rfl rfl ?_
        obtain ⟨c6, hP⟩ := qc_ck hP
        obtain ⟨I2, eI2, hP⟩ := qc_letE hP
        refine qw_iast (n1 := 8) cx dX6_mostPower_40 rfl (Nat.lt_of_lt_of_le (by decide) hn) rfl c6 eI2 ?_
        refine qj_aload_n cx dX6_mostPower_41 rfl rfl ?_
        refine qw_getR (j := 6) (t1 := 22) cx dX6_mostPower_42 qc_cl6 rfl (Nat.lt_of_lt_of_le (by decide) hn) rfl ww_336 rfl ?_
        refine qj_aload_n cx dX6_mostPower_45 rfl rfl ?_
        refine qw_getR (j := 5) (t1 := 12) cx dX6_mostPower_46 qc_cl6 rfl (Nat.lt_of_lt_of_le (by decide) hn) rfl ww_335 rfl ?_
        obtain ⟨q3, eq3, hP⟩ := Option.bind_eq_some_iff.mp hP
        refine qj_callV (As := [.ref 12]) (st := []) (t := 22) (h' := (q3.2.1, q3.2.2, (rX w, kX, nX, n))) (r := some (.int q3.1)) cx dX6_mostPower_49 (c_X2_anyStrike (I := I2) (J := J) (w := w) hn hn1 (qc_sc12 hn) eq3) gc_RX6_272 qm_X2_anyStrike rfl rfl qc_cl2 rfl (Nat.lt_of_lt_of_le (by decide) hn) (by decide) (by decide) rfl (Nat.le_of_ble_eq_true rfl) (Nat.le_trans hn1 (by decide)) hn0 rfl ?_
        refine qj_if_ne (tgt := 57) cx dX6_mostPower_52 (by decide) (fun c4 => ?_) (fun c4 => ?_)
        · have hP := qc_ifF hP c4
          obtain ⟨x5, ex5, hP⟩ := qc_letE hP
          refine qj_iinc (v := x5) (ls1 := [some (.ref 0), some (.int a1), some (.int x5)]) cx dX6_mostPower_57 rfl (by rw [ex5]; rfl) rfl rfl ?_
          refine qj_goto (tgt := 27) cx dX6_mostPower_60 (by decide) ?_
          exact ih q3.2.1 q3.2.2 a1 x5 hP
        · have hP := qc_ifT hP c4
          refine qj_iload_n cx dX6_mostPower_55 rfl rfl ?_
          exact qw_iret cx hz dX6_mostPower_56 (Nat.zero_le _) (Nat.zero_le _) (congrArg (fun q => q.1) (Option.some.inj hP)) (congrArg (fun q => q.2.1) (Option.some.inj hP)) (congrArg (fun q => q.2.2) (Option.some.inj hP))
  show qc_J F 0 0 0 [some (.ref 0), some (.int a), none] [] (I, J, (rX w, kX, nX, n))
  unfold P_X6_mostPower at hP
  refine qj_aload_n cx dX6_mostPower_0 rfl rfl ?_
  refine qw_getR (j := 4) (t1 := 2) cx dX6_mostPower_1 qc_cl6 rfl (Nat.lt_of_lt_of_le (by decide) hn) rfl ww_334 rfl ?_
  refine qj_iload_n cx dX6_mostPower_4 rfl rfl ?_
  obtain ⟨q7, eq7, hP⟩ := Option.bind_eq_some_iff.mp hP
  refine qj_callV (As := [.int a]) (st := []) (t := 2) (h' := (I, J, (rX w, kX, nX, n))) (r := some (.int q7)) cx dX6_mostPower_5 (c_X4_isUser (I := I) (J := J) (w := w) hn hn1 (qc_sc2 hn) eq7) gc_RX6_94 qm_X4_isUser rfl rfl qc_cl4 rfl (Nat.lt_of_lt_of_le (by decide) hn) (by decide) (by decide) rfl (Nat.le_of_ble_eq_true rfl) (Nat.le_trans hn1 (by decide)) hn0 rfl ?_
  refine qj_if_ne (tgt := 13) cx dX6_mostPower_8 (by decide) (fun c8 => ?_) (fun c8 => ?_)
  · have hP := qc_ifF hP c8
    refine qj_aload_n cx dX6_mostPower_13 rfl rfl ?_
    refine qw_getR (j := 5) (t1 := 12) cx dX6_mostPower_14 qc_cl6 rfl (Nat.lt_of_lt_of_le (by decide) hn) rfl ww_335 rfl ?_
    refine qj_aload_n cx dX6_mostPower_17 rfl rfl ?_
    refine qw_getR (j := 4) (t1 := 2) cx dX6_mostPower_18 qc_cl6 rfl (Nat.lt_of_lt_of_le (by decide) hn) rfl ww_334 rfl ?_
    obtain ⟨q9, eq9, hP⟩ := Option.bind_eq_some_iff.mp hP
    refine qj_callV (As := [.ref 2]) (st := []) (t := 12) (h' := (q9.1, q9.2, (rX w, kX, nX, n))) (r := none) cx dX6_mostPower_21 (c_X4_copyFrom (I := I) (J := J) (w := w) hn hn1 (qc_sc12 hn) (qc_sc2 hn) eq9) gc_RX6_248 qm_X4_copyFrom rfl rfl qc_cl4 rfl (Nat.lt_of_lt_of_le (by decide) hn) (by decide) (by decide) rfl (Nat.le_of_ble_eq_true rfl) (Nat.le_trans hn1 (by decide)) hn0 rfl ?_
    refine qj_bipush (v := (30 : Int32)) cx dX6_mostPower_24 (by decide) ?_
    refine qj_istore_n (ls1 := [some (.ref 0), some (.int a), some (.int (30 : Int32))]) cx dX6_mostPower_26 rfl rfl rfl rfl ?_
    exact L27 qc_fu q9.1 q9.2 a (30 : Int32) hP
  · have hP := qc_ifT hP c8
    refine qj_iconst (v := (-1 : Int32)) cx dX6_mostPower_11 (by decide) ?_
    exact qw_iret cx hz dX6_mostPower_12 (Nat.zero_le _) (Nat.zero_le _) (congrArg (fun q => q.1) (Option.some.inj hP)) (congrArg (fun q => q.2.1) (Option.some.inj hP)) (congrArg (fun q => q.2.2) (Option.some.inj hP))
def P_X6_mostGuard_13  : Nat → (Nat → Nat → Int32) → (Nat → Nat → Int64) → Int32 → Option (Int32 × (Nat → Nat → Int32) × (Nat → Nat → Int64))
  | 0, _, _, _ => none
  | f + 1, I, J, a1 =>
  if a1 < 0 then
  some ((-2 : Int32), I, J)
  else
  qc_let (qc_u2 I 12 2 a1) fun I2 =>
  (P_X2_anyStrike I2 J 12).bind fun q3 =>
  if q3.1 = 0 then
  some (a1, q3.2.1, q3.2.2)
  else
  qc_let (a1 + (-1 : Int32)) fun x5 =>
  P_X6_mostGuard_13 f q3.2.1 q3.2.2 x5
def P_X6_mostGuard (I : Nat → Nat → Int32) (J : Nat → Nat → Int64) : Option (Int32 × (Nat → Nat → Int32) × (Nat → Nat → Int64)) :=
  (P_X4_copyFrom I J 12 2).bind fun q6 =>
  P_X6_mostGuard_13 qc_fu q6.1 q6.2 (5 : Int32)
set_option maxRecDepth 20000 in
theorem c_X6_mostGuard {I : Nat → Nat → Int32} {J : Nat → Nat → Int64} {w : Nat → Nat} {n : Nat} (hn : 121 ≤ n) (hn1 : n ≤ 200)  {q0 : Int32 × (Nat → Nat → Int32) × (Nat → Nat → Int64)} (hP : P_X6_mostGuard I J = some q0) : ∀ l, qc_M l yX6_mostGuard cX6_mostGuard 2 (some .int) 5 127 0 0 [.ref 0] (I, J, (rX w, kX, nX, n)) (some (.int q0.1)) (q0.2.1, q0.2.2, (rX w, kX, nX, n)) := by
  intro l
  refine qc_ent2 (by decide) (Nat.le_of_ble_eq_true rfl) ?_
  intro F hn0 cx hz
  have cx : qc_X F cX6_mostGuard RX6 "mostGuard" 5 0 0 127 := cx
  have L13 : ∀  (f : Nat) (I : (Nat → Nat → Int32)) (J : (Nat → Nat → Int64)) (a1 : Int32), P_X6_mostGuard_13 f I J a1 = some q0 → qc_J F 0 0 13 [some (.ref 0), some (.int a1)] [] (I, J, (rX w, kX, nX, n)) := by
    intro  f
    induction f with
    | zero => intro I J a1 hP; cases hP
    | succ f ih =>
      intro I J a1 hP
      rw [P_X6_mostGuard_13] at hP
      refine qj_iload_n cx dX6_mostGuard_13 rfl rfl ?_
      refine qj_if_lt (tgt := 47) cx dX6_mostGuard_14 (by decide) (fun c1 => ?_) (fun c1 => ?_)
      · have hP := qc_ifT hP c1
        refine qj_bipush (v := (-2 : Int32)) cx dX6_mostGuard_47 (by decide) ?_
        exact qw_iret cx hz dX6_mostGuard_49 (Nat.zero_le _) (Nat.zero_le _) (congrArg (fun q => q.1) (Option.some.inj hP)) (congrArg (fun q => q.2.1) (Option.some.inj hP)) (congrArg (fun q => q.2.2) (Option.some.inj hP))
      · have hP := qc_ifF hP c1
        refine qj_aload_n cx dX6_mostGuard_17 rfl rfl ?_
        refine qw_getR (j := 5) (t1 := 12) cx dX6_mostGuard_18 qc_cl6 rfl (Nat.lt_of_lt_of_le (by decide) hn) rfl ww_335 rfl ?_
        refine qj_iload_n cx dX6_mostGuard_21 rfl rfl ?_
        obtain ⟨I2, eI2, hP⟩ := qc_letE hP
        refine qw_putI (j := 2) cx dX6_mostGuard_22 qc_cl4 rfl (Nat.lt_of_lt_of_le (by decide) hn) rfl ww_159 rfl rfl rfl eI2 ?_
        refine qj_aload_n cx dX6_mostGuard_25 rfl rfl ?_
        refine qw_getR (j := 6) (t1 := 22) cx dX6_mostGuard_26 qc_cl6 rfl (Nat.lt_of_lt_of_le (by decide) hn) rfl ww_336 rfl ?_
        refine qj_aload_n cx dX6_mostGuard_29 rfl rfl ?_
        refine qw_getR (j := 5) (t1 := 12) cx dX6_mostGuard_30 qc_cl6 rfl (Nat.lt_of_lt_of_le (by decide) hn) rfl ww_335 rfl ?_
        obtain ⟨q3, eq3, hP⟩ := Option.bind_eq_some_iff.mp hP
        refine qj_callV (As := [.ref 12]) (st := []) (t := 22) (h' := (q3.2.1, q3.2.2, (rX w, kX, nX, n))) (r := some (.int q3.1)) cx dX6_mostGuard_33 (c_X2_anyStrike (I := I2) (J := J) (w := w) hn hn1 (qc_sc12 hn) eq3) gc_RX6_272 qm_X2_anyStrike rfl rfl qc_cl2 rfl (Nat.lt_of_lt_of_le (by decide) hn) (by decide) (by decide) rfl (Nat.le_of_ble_eq_true rfl) (Nat.le_trans hn1 (by decide)) hn0 rfl ?_
        refine qj_if_ne (tgt := 41) cx dX6_mostGuard_36 (by decide) (fun c4 => ?_) (fun c4 => ?_)
        · have hP := qc_ifF hP c4
          obtain ⟨x5, ex5, hP⟩ := qc_letE hP
          refine qj_iinc (v := x5) (ls1 := [some (.ref 0), some (.int x5)]) cx dX6_mostGuard_41 rfl (by rw [ex5]; rfl) rfl rfl ?_
          refine qj_goto (tgt := 13) cx dX6_mostGuard_44 (by decide) ?_
          exact ih q3.2.1 q3.2.2 x5 hP
        · have hP := qc_ifT hP c4
          refine qj_iload_n cx dX6_mostGuard_39 rfl rfl ?_
          exact qw_iret cx hz dX6_mostGuard_40 (Nat.zero_le _) (Nat.zero_le _) (congrArg (fun q => q.1) (Option.some.inj hP)) (congrArg (fun q => q.2.1) (Option.some.inj hP)) (congrArg (fun q => q.2.2) (Option.some.inj hP))
  show qc_J F 0 0 0 [some (.ref 0), none] [] (I, J, (rX w, kX, nX, n))
  unfold P_X6_mostGuard at hP
  refine qj_aload_n cx dX6_mostGuard_0 rfl rfl ?_
  refine qw_getR (j := 5) (t1 := 12) cx dX6_mostGuard_1 qc_cl6 rfl (Nat.lt_of_lt_of_le (by decide) hn) rfl ww_335 rfl ?_
  refine qj_aload_n cx dX6_mostGuard_4 rfl rfl ?_
  refine qw_getR (j := 4) (t1 := 2) cx dX6_mostGuard_5 qc_cl6 rfl (Nat.lt_of_lt_of_le (by decide) hn) rfl ww_334 rfl ?_
  obtain ⟨q6, eq6, hP⟩ := Option.bind_eq_some_iff.mp hP
  refine qj_callV (As := [.ref 2]) (st := []) (t := 12) (h' := (q6.1, q6.2, (rX w, kX, nX, n))) (r := none) cx dX6_mostGuard_8 (c_X4_copyFrom (I := I) (J := J) (w := w) hn hn1 (qc_sc12 hn) (qc_sc2 hn) eq6) gc_RX6_248 qm_X4_copyFrom rfl rfl qc_cl4 rfl (Nat.lt_of_lt_of_le (by decide) hn) (by decide) (by decide) rfl (Nat.le_of_ble_eq_true rfl) (Nat.le_trans hn1 (by decide)) hn0 rfl ?_
  refine qj_iconst (v := (5 : Int32)) cx dX6_mostGuard_11 (by decide) ?_
  refine qj_istore_n (ls1 := [some (.ref 0), some (.int (5 : Int32))]) cx dX6_mostGuard_12 rfl rfl rfl rfl ?_
  exact L13 qc_fu q6.1 q6.2 (5 : Int32) hP
def P_X6_turnDown_39  : Nat → (Nat → Nat → Int32) → (Nat → Nat → Int64) → Int32 → Int32 → Option (Int32 × (Nat → Nat → Int32) × (Nat → Nat → Int64))
  | 0, _, _, _, _ => none
  | f + 1, I, J, a1, a2 =>
  if (180 : Int32) ≤ a1 then
  some (a1, I, J)
  else
  if a2 < 0 then
  some (a1, I, J)
  else
  if qc_in a2 8 then
  if I 20 a2.toNatClampNeg ≤ 0 then
  some (a1, I, J)
  else
  if qc_in a2 8 then
  if qc_in a2 8 then
  qc_let (qc_u2 I 20 a2.toNatClampNeg ((I 20 a2.toNatClampNeg) - (1 : Int32))) fun I6 =>
  qc_let (a1 + (1 : Int32)) fun x7 =>
  (P_X2_fill I6 J 12).bind fun q8 =>
  (P_X2_worstMaker q8.1 (q8.1 12 0)).bind fun q9 =>
  P_X6_turnDown_39 f q8.1 q8.2 x7 q9
  else none
  else none
  else none
def P_X6_turnDown (I : Nat → Nat → Int32) (J : Nat → Nat → Int64) : Option (Int32 × (Nat → Nat → Int32) × (Nat → Nat → Int64)) :=
  (P_X4_copyFrom I J 12 2).bind fun q11 =>
  (P_X2_fill q11.1 q11.2 12).bind fun q12 =>
  (P_X2_worstMaker q12.1 (q12.1 12 0)).bind fun q13 =>
  P_X6_turnDown_39 qc_fu q12.1 q12.2 (0 : Int32) q13
set_option maxRecDepth 20000 in
theorem c_X6_turnDown {I : Nat → Nat → Int32} {J : Nat → Nat → Int64} {w : Nat → Nat} {n : Nat} (hn : 121 ≤ n) (hn1 : n ≤ 200)  {q0 : Int32 × (Nat → Nat → Int32) × (Nat → Nat → Int64)} (hP : P_X6_turnDown I J = some q0) : ∀ l, qc_M l yX6_turnDown cX6_turnDown 3 (some .int) 5 127 0 0 [.ref 0] (I, J, (rX w, kX, nX, n)) (some (.int q0.1)) (q0.2.1, q0.2.2, (rX w, kX, nX, n)) := by
  intro l
  refine qc_ent2 (by decide) (Nat.le_of_ble_eq_true rfl) ?_
  intro F hn0 cx hz
  have cx : qc_X F cX6_turnDown RX6 "turnDown" 5 0 0 127 := cx
  have L39 : ∀  (f : Nat) (I : (Nat → Nat → Int32)) (J : (Nat → Nat → Int64)) (a1 : Int32) (a2 : Int32), P_X6_turnDown_39 f I J a1 a2 = some q0 → qc_J F 0 0 39 [some (.ref 0), some (.int a1), some (.int a2)] [] (I, J, (rX w, kX, nX, n)) := by
    intro  f
    induction f with
    | zero => intro I J a1 a2 hP; cases hP
    | succ f ih =>
      intro I J a1 a2 hP
      rw [P_X6_turnDown_39] at hP
      refine qj_iload_n cx dX6_turnDown_39 rfl rfl ?_
      refine qj_sipush (v := (180 : Int32)) cx dX6_turnDown_40 (by decide) ?_
      refine qj_icmp_ge (tgt := 107) cx dX6_turnDown_43 (by decide) (fun c1 => ?_) (fun c1 => ?_)
      · have hP := qc_ifT hP c1
        refine qj_iload_n cx dX6_turnDown_107 rfl rfl ?_
        exact qw_iret cx hz dX6_turnDown_108 (Nat.zero_le _) (Nat.zero_le _) (congrArg (fun q => q.1) (Option.some.inj hP)) (congrArg (fun q => q.2.1) (Option.some.inj hP)) (congrArg (fun q => q.2.2) (Option.some.inj hP))
      · have hP := qc_ifF hP c1
        refine qj_iload_n cx dX6_turnDown_46 rfl rfl ?_
        refine qj_if_lt (tgt := 107) cx dX6_turnDown_47 (by decide) (fun c2 => ?_) (fun c2 => ?_)
        · have hP := qc_ifT hP c2
          refine qj_iload_n cx dX6_turnDown_107 rfl rfl ?_
          exact qw_iret cx hz dX6_turnDown_108 (Nat.zero_le _) (Nat.zero_le _) (congrArg (fun q => q.1) (Option.some.inj hP)) (congrArg (fun q => q.2.1) (Option.some.inj hP)) (congrArg (fun q => q.2.2) (Option.some.inj hP))
        · have hP := qc_ifF hP c2
          refine qj_aload_n cx dX6_turnDown_50 rfl rfl ?_
          refine qw_getR (j := 5) (t1 := 12) cx dX6_turnDown_51 qc_cl6 rfl (Nat.lt_of_lt_of_le (by decide) hn) rfl ww_335 rfl ?_
          refine qw_getR (j := 14) (t1 := 20) cx dX6_turnDown_54 qc_cl4 rfl (Nat.lt_of_lt_of_le (by decide) hn) rfl ww_204 rfl ?_
          refine qj_iload_n cx dX6_turnDown_57 rfl rfl ?_
          obtain ⟨c3, hP⟩ := qc_ck hP
          refine qw_iald (n1 := 8) cx dX6_turnDown_58 rfl (Nat.lt_of_lt_of_le (by decide) hn) rfl c3 ?_
          refine qj_if_le (tgt := 107) cx dX6_turnDown_59 (by decide) (fun c4 => ?_) (fun c4 => ?_)
          · have hP := qc_ifT hP c4
            refine qj_iload_n cx dX6_turnDown_107 rfl rfl ?_
            exact qw_iret cx hz dX6_turnDown_108 (Nat.zero_le _) (Nat.zero_le _) (congrArg (fun q => q.1) (Option.some.inj hP)) (congrArg (fun q => q.2.1) (Option.some.inj hP)) (congrArg (fun q => q.2.2) (Option.some.inj hP))
          · have hP := qc_ifF hP c4
            refine qj_aload_n cx dX6_turnDown_62 rfl rfl ?_
            refine qw_getR (j := 5) (t1 := 12) cx dX6_turnDown_63 qc_cl6 rfl (Nat.lt_of_lt_of_le (by decide) hn) rfl ww_335 rfl ?_
            refine qw_getR (j := 14) (t1 := 20) cx dX6_turnDown_66 qc_cl4 rfl (Nat.lt_of_lt_of_le (by decide) hn) rfl ww_204 rfl ?_
            refine qj_iload_n cx dX6_turnDown_69 rfl rfl ?_
            refine qj_dup2 cx dX6_turnDown_70 rfl rfl ?_
            obtain ⟨c5, hP⟩ := qc_ck hP
            refine qw_iald (n1 := 8) cx dX6_turnDown_71 rfl (Nat.lt_of_lt_of_le (by decide) hn) rfl c5 ?_
            refine qj_iconst (v := (1 : Int32)) cx dX6_turnDown_72 (by decide) ?_
            refine qj_isub cx dX6_turnDown_73 ?_
            obtain ⟨c10, hP⟩ := qc_ck hP
            obtain ⟨I6, eI6, hP⟩ := qc_letE hP
            refine qw_iast (n1 := 8) cx dX6_turnDown_74 rfl (Nat.lt_of_lt_of_le (by decide) hn) rfl c10 eI6 ?_
            obtain ⟨x7, ex7, hP⟩ := qc_letE hP
            refine qj_iinc (v := x7) (ls1 := [some (.ref 0), some (.int x7), some (.int a2)]) cx dX6_turnDown_75 rfl (by rw [ex7]; rfl) rfl rfl ?_
            refine qj_aload_n cx dX6_turnDown_78 rfl rfl ?_
            refine qw_getR (j := 6) (t1 := 22) cx dX6_turnDown_79 qc_cl6 rfl (Nat.lt_of_lt_of_le (by decide) hn) rfl ww_336 rfl ?_
            refine qj_aload_n cx dX6_turnDown_82 rfl rfl ?_
            refine qw_getR (j := 5) (t1 := 12) cx dX6_turnDown_83 qc_cl6 rfl (Nat.lt_of_lt_of_le (by decide) hn) rfl ww_335 rfl ?_
            obtain ⟨q8, eq8, hP⟩ := Option.bind_eq_some_iff.mp hP
            refine qj_callV (As := [.ref 12]) (st := []) (t := 22) (h' := (q8.1, q8.2, (rX w, kX, nX, n))) (r := none) cx dX6_turnDown_86 (c_X2_fill (I := I6) (J := J) (w := w) hn hn1 (qc_sc12 hn) eq8) gc_RX6_202 qm_X2_fill rfl rfl qc_cl2 rfl (Nat.lt_of_lt_of_le (by decide) hn) (by decide) (by decide) rfl (Nat.le_of_ble_eq_true rfl) (Nat.le_trans hn1 (by decide)) hn0 rfl ?_
            refine qj_aload_n cx dX6_turnDown_89 rfl rfl ?_
            refine qw_getR (j := 6) (t1 := 22) cx dX6_turnDown_90 qc_cl6 rfl (Nat.lt_of_lt_of_le (by decide) hn) rfl ww_336 rfl ?_
            refine qj_aload_n cx dX6_turnDown_93 rfl rfl ?_
            refine qw_getR (j := 5) (t1 := 12) cx dX6_turnDown_94 qc_cl6 rfl (Nat.lt_of_lt_of_le (by decide) hn) rfl ww_335 rfl ?_
            refine qw_getI (j := 0) cx dX6_turnDown_97 qc_cl4 rfl (Nat.lt_of_lt_of_le (by decide) hn) rfl ww_151 ?_
            obtain ⟨q9, eq9, hP⟩ := Option.bind_eq_some_iff.mp hP
            refine qj_callV (As := [.int (q8.1 12 0)]) (st := []) (t := 22) (h' := (q8.1, q8.2, (rX w, kX, nX, n))) (r := some (.int q9)) cx dX6_turnDown_100 (c_X2_worstMaker (I := q8.1) (J := q8.2) (w := w) hn hn1 eq9) gc_RX6_236 qm_X2_worstMaker rfl rfl qc_cl2 rfl (Nat.lt_of_lt_of_le (by decide) hn) (by decide) (by decide) rfl (Nat.le_of_ble_eq_true rfl) (Nat.le_trans hn1 (by decide)) hn0 rfl ?_
            refine qj_istore_n (ls1 := [some (.ref 0), some (.int x7), some (.int q9)]) cx dX6_turnDown_103 rfl rfl rfl rfl ?_
            refine qj_goto (tgt := 39) cx dX6_turnDown_104 (by decide) ?_
            exact ih q8.1 q8.2 x7 q9 hP
  show qc_J F 0 0 0 [some (.ref 0), none, none] [] (I, J, (rX w, kX, nX, n))
  unfold P_X6_turnDown at hP
  refine qj_aload_n cx dX6_turnDown_0 rfl rfl ?_
  refine qw_getR (j := 5) (t1 := 12) cx dX6_turnDown_1 qc_cl6 rfl (Nat.lt_of_lt_of_le (by decide) hn) rfl ww_335 rfl ?_
  refine qj_aload_n cx dX6_turnDown_4 rfl rfl ?_
  refine qw_getR (j := 4) (t1 := 2) cx dX6_turnDown_5 qc_cl6 rfl (Nat.lt_of_lt_of_le (by decide) hn) rfl ww_334 rfl ?_
  obtain ⟨q11, eq11, hP⟩ := Option.bind_eq_some_iff.mp hP
  refine qj_callV (As := [.ref 2]) (st := []) (t := 12) (h' := (q11.1, q11.2, (rX w, kX, nX, n))) (r := none) cx dX6_turnDown_8 (c_X4_copyFrom (I := I) (J := J) (w := w) hn hn1 (qc_sc12 hn) (qc_sc2 hn) eq11) gc_RX6_248 qm_X4_copyFrom rfl rfl qc_cl4 rfl (Nat.lt_of_lt_of_le (by decide) hn) (by decide) (by decide) rfl (Nat.le_of_ble_eq_true rfl) (Nat.le_trans hn1 (by decide)) hn0 rfl ?_
  refine qj_aload_n cx dX6_turnDown_11 rfl rfl ?_
  refine qw_getR (j := 6) (t1 := 22) cx dX6_turnDown_12 qc_cl6 rfl (Nat.lt_of_lt_of_le (by decide) hn) rfl ww_336 rfl ?_
  refine qj_aload_n cx dX6_turnDown_15 rfl rfl ?_
  refine qw_getR (j := 5) (t1 := 12) cx dX6_turnDown_16 qc_cl6 rfl (Nat.lt_of_lt_of_le (by decide) hn) rfl ww_335 rfl ?_
  obtain ⟨q12, eq12, hP⟩ := Option.bind_eq_some_iff.mp hP
  refine qj_callV (As := [.ref 12]) (st := []) (t := 22) (h' := (q12.1, q12.2, (rX w, kX, nX, n))) (r := none) cx dX6_turnDown_19 (c_X2_fill (I := q11.1) (J := q11.2) (w := w) hn hn1 (qc_sc12 hn) eq12) gc_RX6_202 qm_X2_fill rfl rfl qc_cl2 rfl (Nat.lt_of_lt_of_le (by decide) hn) (by decide) (by decide) rfl (Nat.le_of_ble_eq_true rfl) (Nat.le_trans hn1 (by decide)) hn0 rfl ?_
  refine qj_iconst (v := (0 : Int32)) cx dX6_turnDown_22 (by decide) ?_
  refine qj_istore_n (ls1 := [some (.ref 0), some (.int (0 : Int32)), none]) cx dX6_turnDown_23 rfl rfl rfl rfl ?_
  refine qj_aload_n cx dX6_turnDown_24 rfl rfl ?_
  refine qw_getR (j := 6) (t1 := 22) cx dX6_turnDown_25 qc_cl6 rfl (Nat.lt_of_lt_of_le (by decide) hn) rfl ww_336 rfl ?_
  refine qj_aload_n cx dX6_turnDown_28 rfl rfl ?_
  refine qw_getR (j := 5) (t1 := 12) cx dX6_turnDown_29 qc_cl6 rfl (Nat.lt_of_lt_of_le (by decide) hn) rfl ww_335 rfl ?_
  refine qw_getI (j := 0) cx dX6_turnDown_32 qc_cl4 rfl (Nat.lt_of_lt_of_le (by decide) hn) rfl ww_151 ?_
  obtain ⟨q13, eq13, hP⟩ := Option.bind_eq_some_iff.mp hP
  refine qj_callV (As := [.int (q12.1 12 0)]) (st := []) (t := 22) (h' := (q12.1, q12.2, (rX w, kX, nX, n))) (r := some (.int q13)) cx dX6_turnDown_35 (c_X2_worstMaker (I := q12.1) (J := q12.2) (w := w) hn hn1 eq13) gc_RX6_236 qm_X2_worstMaker rfl rfl qc_cl2 rfl (Nat.lt_of_lt_of_le (by decide) hn) (by decide) (by decide) rfl (Nat.le_of_ble_eq_true rfl) (Nat.le_trans hn1 (by decide)) hn0 rfl ?_
  refine qj_istore_n (ls1 := [some (.ref 0), some (.int (0 : Int32)), some (.int q13)]) cx dX6_turnDown_38 rfl rfl rfl rfl ?_
  exact L39 qc_fu q12.1 q12.2 (0 : Int32) q13 hP
def P_X6_planAll (I : Nat → Nat → Int32) (J : Nat → Nat → Int64) : Option (Int32 × (Nat → Nat → Int32) × (Nat → Nat → Int64)) :=
  (P_X4_copyFrom I J 12 2).bind fun q1 =>
  (P_X4_untunedUsers q1.1 12).bind fun q2 =>
  (P_X5_seek q1.1 q1.2 12 q2).bind fun q3 =>
  some (q3.1, q3.2.1, q3.2.2)
set_option maxRecDepth 20000 in
theorem c_X6_planAll {I : Nat → Nat → Int32} {J : Nat → Nat → Int64} {w : Nat → Nat} {n : Nat} (hn : 121 ≤ n) (hn1 : n ≤ 200)  {q0 : Int32 × (Nat → Nat → Int32) × (Nat → Nat → Int64)} (hP : P_X6_planAll I J = some q0) : ∀ l, qc_M l yX6_planAll cX6_planAll 1 (some .int) 6 154 0 0 [.ref 0] (I, J, (rX w, kX, nX, n)) (some (.int q0.1)) (q0.2.1, q0.2.2, (rX w, kX, nX, n)) := by
  intro l
  refine qc_ent2 (by decide) (Nat.le_of_ble_eq_true rfl) ?_
  intro F hn0 cx hz
  have cx : qc_X F cX6_planAll RX6 "planAll" 6 0 0 154 := cx
  show qc_J F 0 0 0 [some (.ref 0)] [] (I, J, (rX w, kX, nX, n))
  unfold P_X6_planAll at hP
  refine qj_aload_n cx dX6_planAll_0 rfl rfl ?_
  refine qw_getR (j := 5) (t1 := 12) cx dX6_planAll_1 qc_cl6 rfl (Nat.lt_of_lt_of_le (by decide) hn) rfl ww_335 rfl ?_
  refine qj_aload_n cx dX6_planAll_4 rfl rfl ?_
  refine qw_getR (j := 4) (t1 := 2) cx dX6_planAll_5 qc_cl6 rfl (Nat.lt_of_lt_of_le (by decide) hn) rfl ww_334 rfl ?_
  obtain ⟨q1, eq1, hP⟩ := Option.bind_eq_some_iff.mp hP
  refine qj_callV (As := [.ref 2]) (st := []) (t := 12) (h' := (q1.1, q1.2, (rX w, kX, nX, n))) (r := none) cx dX6_planAll_8 (c_X4_copyFrom (I := I) (J := J) (w := w) hn hn1 (qc_sc12 hn) (qc_sc2 hn) eq1) gc_RX6_248 qm_X4_copyFrom rfl rfl qc_cl4 rfl (Nat.lt_of_lt_of_le (by decide) hn) (by decide) (by decide) rfl (Nat.le_of_ble_eq_true rfl) (Nat.le_trans hn1 (by decide)) hn0 rfl ?_
  refine qj_aload_n cx dX6_planAll_11 rfl rfl ?_
  refine qw_getR (j := 7) (t1 := 33) cx dX6_planAll_12 qc_cl6 rfl (Nat.lt_of_lt_of_le (by decide) hn) rfl ww_337 rfl ?_
  refine qj_aload_n cx dX6_planAll_15 rfl rfl ?_
  refine qw_getR (j := 6) (t1 := 22) cx dX6_planAll_16 qc_cl6 rfl (Nat.lt_of_lt_of_le (by decide) hn) rfl ww_336 rfl ?_
  refine qj_aload_n cx dX6_planAll_19 rfl rfl ?_
  refine qw_getR (j := 5) (t1 := 12) cx dX6_planAll_20 qc_cl6 rfl (Nat.lt_of_lt_of_le (by decide) hn) rfl ww_335 rfl ?_
  refine qj_aload_n cx dX6_planAll_23 rfl rfl ?_
  refine qw_getR (j := 5) (t1 := 12) cx dX6_planAll_24 qc_cl6 rfl (Nat.lt_of_lt_of_le (by decide) hn) rfl ww_335 rfl ?_
  obtain ⟨q2, eq2, hP⟩ := Option.bind_eq_some_iff.mp hP
  refine qj_callV (As := []) (st := [.ref 12, .ref 22, .ref 33]) (t := 12) (h' := (q1.1, q1.2, (rX w, kX, nX, n))) (r := some (.int q2)) cx dX6_planAll_27 (c_X4_untunedUsers (I := q1.1) (J := q1.2) (w := w) hn hn1 (qc_sc12 hn) eq2) gc_RX6_258 qm_X4_untunedUsers rfl rfl qc_cl4 rfl (Nat.lt_of_lt_of_le (by decide) hn) (by decide) (by decide) rfl (Nat.le_of_ble_eq_true rfl) (Nat.le_trans hn1 (by decide)) hn0 rfl ?_
  obtain ⟨q3, eq3, hP⟩ := Option.bind_eq_some_iff.mp hP
  refine qj_callV (As := [.ref 22, .ref 12, .int q2]) (st := []) (t := 33) (h' := (q3.2.1, q3.2.2, (rX w, kX, nX, n))) (r := some (.int q3.1)) cx dX6_planAll_30 (c_X5_seek (I := q1.1) (J := q1.2) (w := w) hn hn1 (qc_sc12 hn) eq3) gc_RX6_261 qm_X5_seek rfl rfl qc_cl5 rfl (Nat.lt_of_lt_of_le (by decide) hn) (by decide) (by decide) rfl (Nat.le_of_ble_eq_true rfl) (Nat.le_trans hn1 (by decide)) hn0 rfl ?_
  exact qw_iret cx hz dX6_planAll_33 (Nat.zero_le _) (Nat.zero_le _) (congrArg (fun q => q.1) (Option.some.inj hP)) (congrArg (fun q => q.2.1) (Option.some.inj hP)) (congrArg (fun q => q.2.2) (Option.some.inj hP))
def P_X6_planned (I : Nat → Nat → Int32) (J : Nat → Nat → Int64) (a : Int32) : Option (Int32 × (Nat → Nat → Int32) × (Nat → Nat → Int64)) :=
  (P_X4_isUser I 2 a).bind fun q1 =>
  if q1 = 0 then
  some ((-1 : Int32), I, J)
  else
  if qc_in a 8 then
  if I 9 a.toNatClampNeg ≤ 0 then
  (P_X6_planAll I J).bind fun q5 =>
  (if q5.1 = 0 then
  if qc_in a 8 then
  some (q5.2.1 19 a.toNatClampNeg)
  else none
  else
  some q5.1).bind fun v7 =>
  some (v7, q5.2.1, q5.2.2)
  else
  some ((-2 : Int32), I, J)
  else none
set_option maxRecDepth 20000 in
theorem c_X6_planned {I : Nat → Nat → Int32} {J : Nat → Nat → Int64} {w : Nat → Nat} {n : Nat} (hn : 121 ≤ n) (hn1 : n ≤ 200) {a : Int32} {q0 : Int32 × (Nat → Nat → Int32) × (Nat → Nat → Int64)} (hP : P_X6_planned I J a = some q0) : ∀ l, qc_M l yX6_planned cX6_planned 3 (some .int) 7 174 0 0 [.ref 0, .int a] (I, J, (rX w, kX, nX, n)) (some (.int q0.1)) (q0.2.1, q0.2.2, (rX w, kX, nX, n)) := by
  intro l
  refine qc_ent2 (by decide) (Nat.le_of_ble_eq_true rfl) ?_
  intro F hn0 cx hz
  have cx : qc_X F cX6_planned RX6 "planned" 7 0 0 174 := cx
  show qc_J F 0 0 0 [some (.ref 0), some (.int a), none] [] (I, J, (rX w, kX, nX, n))
  unfold P_X6_planned at hP
  refine qj_aload_n cx dX6_planned_0 rfl rfl ?_
  refine qw_getR (j := 4) (t1 := 2) cx dX6_planned_1 qc_cl6 rfl (Nat.lt_of_lt_of_le (by decide) hn) rfl ww_334 rfl ?_
  refine qj_iload_n cx dX6_planned_4 rfl rfl ?_
  obtain ⟨q1, eq1, hP⟩ := Option.bind_eq_some_iff.mp hP
  refine qj_callV (As := [.int a]) (st := []) (t := 2) (h' := (I, J, (rX w, kX, nX, n))) (r := some (.int q1)) cx dX6_planned_5 (c_X4_isUser (I := I) (J := J) (w := w) hn hn1 (qc_sc2 hn) eq1) gc_RX6_94 qm_X4_isUser rfl rfl qc_cl4 rfl (Nat.lt_of_lt_of_le (by decide) hn) (by decide) (by decide) rfl (Nat.le_of_ble_eq_true rfl) (Nat.le_trans hn1 (by decide)) hn0 rfl ?_
  refine qj_if_ne (tgt := 13) cx dX6_planned_8 (by decide) (fun c2 => ?_) (fun c2 => ?_)
  · have hP := qc_ifF hP c2
    refine qj_aload_n cx dX6_planned_13 rfl rfl ?_
    refine qw_getR (j := 4) (t1 := 2) cx dX6_planned_14 qc_cl6 rfl (Nat.lt_of_lt_of_le (by decide) hn) rfl ww_334 rfl ?_
    refine qw_getR (j := 13) (t1 := 9) cx dX6_planned_17 qc_cl4 rfl (Nat.lt_of_lt_of_le (by decide) hn) rfl ww_198 rfl ?_
    refine qj_iload_n cx dX6_planned_20 rfl rfl ?_
    obtain ⟨c3, hP⟩ := qc_ck hP
    refine qw_iald (n1 := 8) cx dX6_planned_21 rfl (Nat.lt_of_lt_of_le (by decide) hn) rfl c3 ?_
    refine qj_if_le (tgt := 28) cx dX6_planned_22 (by decide) (fun c4 => ?_) (fun c4 => ?_)
    · have hP := qc_ifT hP c4
      refine qj_aload_n cx dX6_planned_28 rfl rfl ?_
      obtain ⟨q5, eq5, hP⟩ := Option.bind_eq_some_iff.mp hP
      refine qj_callV (As := []) (st := []) (t := 0) (h' := (q5.2.1, q5.2.2, (rX w, kX, nX, n))) (r := some (.int q5.1)) cx dX6_planned_29 (c_X6_planAll (I := I) (J := J) (w := w) hn hn1 eq5) gc_RX6_121 qm_X6_planAll rfl rfl qc_cl6 rfl (Nat.lt_of_lt_of_le (by decide) hn) (by decide) (by decide) rfl (Nat.le_of_ble_eq_true rfl) (Nat.le_trans hn1 (by decide)) hn0 rfl ?_
      refine qj_istore_n (ls1 := [some (.ref 0), some (.int a), some (.int q5.1)]) cx dX6_planned_32 rfl rfl rfl rfl ?_
      refine qj_iload_n cx dX6_planned_33 rfl rfl ?_
      obtain ⟨v7, hv7, hP⟩ := Option.bind_eq_some_iff.mp hP
      have Kv7 : qc_J F 0 0 50 [some (.ref 0), some (.int a), some (.int q5.1)] [.int v7] (q5.2.1, q5.2.2, (rX w, kX, nX, n)) := by
        exact qw_iret cx hz dX6_planned_50 (Nat.zero_le _) (Nat.zero_le _) (congrArg (fun q => q.1) (Option.some.inj hP)) (congrArg (fun q => q.2.1) (Option.some.inj hP)) (congrArg (fun q => q.2.2) (Option.some.inj hP))
      refine qj_if_ne (tgt := 49) cx dX6_planned_34 (by decide) (fun c6 => ?_) (fun c6 => ?_)
      · have hv7 := qc_ifF hv7 c6
        refine qj_iload_n cx dX6_planned_49 rfl rfl ?_
        exact qw_top (Option.some.inj hv7).symm Kv7
      · have hv7 := qc_ifT hv7 c6
        refine qj_aload_n cx dX6_planned_37 rfl rfl ?_
        refine qw_getR (j := 5) (t1 := 12) cx dX6_planned_38 qc_cl6 rfl (Nat.lt_of_lt_of_le (by decide) hn) rfl ww_335 rfl ?_
        refine qw_getR (j := 13) (t1 := 19) cx dX6_planned_41 qc_cl4 rfl (Nat.lt_of_lt_of_le (by decide) hn) rfl ww_198 rfl ?_
        refine qj_iload_n cx dX6_planned_44 rfl rfl ?_
        obtain ⟨c8, hv7⟩ := qc_ck hv7
        refine qw_iald (n1 := 8) cx dX6_planned_45 rfl (Nat.lt_of_lt_of_le (by decide) hn) rfl c8 ?_
        refine qj_goto (tgt := 50) cx dX6_planned_46 (by decide) ?_
        exact qw_top (Option.some.inj hv7).symm Kv7
    · have hP := qc_ifF hP c4
      refine qj_bipush (v := (-2 : Int32)) cx dX6_planned_25 (by decide) ?_
      exact qw_iret cx hz dX6_planned_27 (Nat.zero_le _) (Nat.zero_le _) (congrArg (fun q => q.1) (Option.some.inj hP)) (congrArg (fun q => q.2.1) (Option.some.inj hP)) (congrArg (fun q => q.2.2) (Option.some.inj hP))
  · have hP := qc_ifT hP c2
    refine qj_iconst (v := (-1 : Int32)) cx dX6_planned_11 (by decide) ?_
    exact qw_iret cx hz dX6_planned_12 (Nat.zero_le _) (Nat.zero_le _) (congrArg (fun q => q.1) (Option.some.inj hP)) (congrArg (fun q => q.2.1) (Option.some.inj hP)) (congrArg (fun q => q.2.2) (Option.some.inj hP))
def P_X6_findMend_92 (k26 : (Nat → Nat → Int32) → (Nat → Nat → Int64) → Int32 → Int32 → Option (Int32 × (Nat → Nat → Int32) × (Nat → Nat → Int64))) (k39 : (Nat → Nat → Int32) → (Nat → Nat → Int64) → Int32 → Int32 → Int32 → Option (Int32 × (Nat → Nat → Int32) × (Nat → Nat → Int64))) (I : (Nat → Nat → Int32)) (J : (Nat → Nat → Int64)) (a1 : Int32) (a2 : Int32) (a3 : Int32) : Option (Int32 × (Nat → Nat → Int32) × (Nat → Nat → Int64)) :=
  qc_let (a3 + (1 : Int32)) fun x1 =>
  k39 I J a1 a2 x1
def P_X6_findMend_39 (k26 : (Nat → Nat → Int32) → (Nat → Nat → Int64) → Int32 → Int32 → Option (Int32 × (Nat → Nat → Int32) × (Nat → Nat → Int64))) : Nat → (Nat → Nat → Int32) → (Nat → Nat → Int64) → Int32 → Int32 → Int32 → Option (Int32 × (Nat → Nat → Int32) × (Nat → Nat → Int64))
  | 0, _, _, _, _, _ => none
  | f + 1, I, J, a1, a2, a3 =>
  if a1 < a3 then
  qc_let (a2 + (1 : Int32)) fun x3 =>
  k26 I J a1 x3
  else
  (P_J6_bitCount_0f7a4 a3).bind fun q4 =>
  if q4 = a2 then
  (if a3 &&& (a1 ^^^ (-1 : Int32)) = 0 then
  (P_X4_copyFrom I J 12 2).bind fun q7 =>
  (P_X5_seek q7.1 q7.2 12 a3).bind fun q8 =>
  if q8.1 = 0 then
  some (a3, q8.2.1, q8.2.2)
  else
  P_X6_findMend_92 k26 (P_X6_findMend_39 k26 f) q8.2.1 q8.2.2 a1 a2 a3
  else
  P_X6_findMend_92 k26 (P_X6_findMend_39 k26 f) I J a1 a2 a3)
  else
  P_X6_findMend_92 k26 (P_X6_findMend_39 k26 f) I J a1 a2 a3
def P_X6_findMend_26  : Nat → (Nat → Nat → Int32) → (Nat → Nat → Int64) → Int32 → Int32 → Option (Int32 × (Nat → Nat → Int32) × (Nat → Nat → Int64))
  | 0, _, _, _, _ => none
  | f + 1, I, J, a1, a2 =>
  if I 2 0 < a2 then
  some ((-2 : Int32), I, J)
  else
  P_X6_findMend_39 (P_X6_findMend_26 f) qc_fu I J a1 a2 (1 : Int32)
def P_X6_findMend (I : Nat → Nat → Int32) (J : Nat → Nat → Int64) : Option (Int32 × (Nat → Nat → Int32) × (Nat → Nat → Int64)) :=
  (P_X2_allClean I J 2).bind fun q11 =>
  if q11.1 = 0 then
  (P_X4_tunedUsers q11.2.1 2).bind fun q13 =>
  P_X6_findMend_26 qc_fu q11.2.1 q11.2.2 q13 (1 : Int32)
  else
  some ((0 : Int32), q11.2.1, q11.2.2)
set_option maxRecDepth 20000 in
theorem c_X6_findMend {I : Nat → Nat → Int32} {J : Nat → Nat → Int64} {w : Nat → Nat} {n : Nat} (hn : 121 ≤ n) (hn1 : n ≤ 200)  {q0 : Int32 × (Nat → Nat → Int32) × (Nat → Nat → Int64)} (hP : P_X6_findMend I J = some q0) : ∀ l, qc_M l yX6_findMend cX6_findMend 4 (some .int) 6 154 0 0 [.ref 0] (I, J, (rX w, kX, nX, n)) (some (.int q0.1)) (q0.2.1, q0.2.2, (rX w, kX, nX, n)) := by
  intro l
  refine qc_ent2 (by decide) (Nat.le_of_ble_eq_true rfl) ?_
  intro F hn0 cx hz
  have cx : qc_X F cX6_findMend RX6 "findMend" 6 0 0 154 := cx
  have L92 : ∀ (k26 : (Nat → Nat → Int32) → (Nat → Nat → Int64) → Int32 → Int32 → Option (Int32 × (Nat → Nat → Int32) × (Nat → Nat → Int64))) (g26 : ∀ (I : Nat → Nat → Int32) (J : Nat → Nat → Int64) (a1 : Int32) (a2 : Int32), k26 I J a1 a2 = some q0 → qc_J F 0 0 26 [some (.ref 0), some (.int a1), some (.int a2), none] [] (I, J, (rX w, kX, nX, n))) (k39 : (Nat → Nat → Int32) → (Nat → Nat → Int64) → Int32 → Int32 → Int32 → Option (Int32 × (Nat → Nat → Int32) × (Nat → Nat → Int64))) (g39 : ∀ (I : Nat → Nat → Int32) (J : Nat → Nat → Int64) (a1 : Int32) (a2 : Int32) (a3 : Int32), k39 I J a1 a2 a3 = some q0 → qc_J F 0 0 39 [some (.ref 0), some (.int a1), some (.int a2), some (.int a3)] [] (I, J, (rX w, kX, nX, n))) (I : (Nat → Nat → Int32)) (J : (Nat → Nat → Int64)) (a1 : Int32) (a2 : Int32) (a3 : Int32), P_X6_findMend_92 k26 k39 I J a1 a2 a3 = some q0 → qc_J F 0 0 92 [some (.ref 0), some (.int a1), some (.int a2), some (.int a3)] [] (I, J, (rX w, kX, nX, n)) := by
    intro k26 g26 k39 g39 I J a1 a2 a3 hP
    unfold P_X6_findMend_92 at hP
    obtain ⟨x1, ex1, hP⟩ := qc_letE hP
    refine qj_iinc (v := x1) (ls1 := [some (.ref 0), some (.int a1), some (.int a2), some (.int x1)]) cx dX6_findMend_92 rfl (by rw [ex1]; rfl) rfl rfl ?_
    refine qj_goto (tgt := 39) cx dX6_findMend_95 (by decide) ?_
    exact g39 I J a1 a2 x1 hP
  have L39 : ∀ (k26 : (Nat → Nat → Int32) → (Nat → Nat → Int64) → Int32 → Int32 → Option (Int32 × (Nat → Nat → Int32) × (Nat → Nat → Int64))) (g26 : ∀ (I : Nat → Nat → Int32) (J : Nat → Nat → Int64) (a1 : Int32) (a2 : Int32), k26 I J a1 a2 = some q0 → qc_J F 0 0 26 [some (.ref 0), some (.int a1), some (.int a2), none] [] (I, J, (rX w, kX, nX, n))) (f : Nat) (I : (Nat → Nat → Int32)) (J : (Nat → Nat → Int64)) (a1 : Int32) (a2 : Int32) (a3 : Int32), P_X6_findMend_39 k26 f I J a1 a2 a3 = some q0 → qc_J F 0 0 39 [some (.ref 0), some (.int a1), some (.int a2), some (.int a3)] [] (I, J, (rX w, kX, nX, n)) := by
    intro k26 g26 f
    induction f with
    | zero => intro I J a1 a2 a3 hP; cases hP
    | succ f ih =>
      intro I J a1 a2 a3 hP
      rw [P_X6_findMend_39] at hP
      refine qj_iload_n cx dX6_findMend_39 rfl rfl ?_
      refine qj_iload_n cx dX6_findMend_40 rfl rfl ?_
      refine qj_icmp_gt (tgt := 98) cx dX6_findMend_41 (by decide) (fun c2 => ?_) (fun c2 => ?_)
      · have hP := qc_ifT hP c2
        obtain ⟨x3, ex3, hP⟩ := qc_letE hP
        refine qj_iinc (v := x3) (ls1 := [some (.ref 0), some (.int a1), some (.int x3), some (.int a3)]) cx dX6_findMend_98 rfl (by rw [ex3]; rfl) rfl rfl ?_
        refine qj_goto (tgt := 26) cx dX6_findMend_101 (by decide) ?_
        refine qw_sub (ls1 := [some (.ref 0), some (.int a1), some (.int x3), none]) rfl (qc_sb_ok ⟨rfl, rfl, rfl, trivial⟩) ?_
        exact g26 I J a1 x3 hP
      · have hP := qc_ifF hP c2
        refine qj_iload_n cx dX6_findMend_44 rfl rfl ?_
        obtain ⟨q4, eq4, hP⟩ := Option.bind_eq_some_iff.mp hP
        refine qj_callS (As := [.int a3]) (st := []) (h' := (I, J, (rX w, kX, nX, n))) (r := some (.int q4)) cx dX6_findMend_45 (c_J6_bitCount_0f7a4 (S := (rX w, kX, nX, n)) (I := I) (J := J) eq4) gc_RX6_147 qm_J6_bitCount_0f7a4 rfl (by decide) (by decide) rfl (Nat.le_of_ble_eq_true rfl) (Nat.le_trans hn1 (by decide)) hn0 rfl ?_
        refine qj_iload_n cx dX6_findMend_48 rfl rfl ?_
        refine qj_icmp_ne (tgt := 92) cx dX6_findMend_49 (by decide) (fun c5 => ?_) (fun c5 => ?_)
        · have hP := qc_ifF hP c5
          exact L92 k26 g26 (P_X6_findMend_39 k26 f) ih I J a1 a2 a3 hP
        · have hP := qc_ifT hP c5
          refine qj_iload_n cx dX6_findMend_52 rfl rfl ?_
          refine qj_iload_n cx dX6_findMend_53 rfl rfl ?_
          refine qj_iconst (v := (-1 : Int32)) cx dX6_findMend_54 (by decide) ?_
          refine qj_ixor cx dX6_findMend_55 ?_
          refine qj_iand cx dX6_findMend_56 ?_
          refine qj_if_ne (tgt := 92) cx dX6_findMend_57 (by decide) (fun c6 => ?_) (fun c6 => ?_)
          · have hP := qc_ifF hP c6
            exact L92 k26 g26 (P_X6_findMend_39 k26 f) ih I J a1 a2 a3 hP
          · have hP := qc_ifT hP c6
            refine qj_aload_n cx dX6_findMend_60 rfl rfl ?_
            refine qw_getR (j := 5) (t1 := 12) cx dX6_findMend_61 qc_cl6 rfl (Nat.lt_of_lt_of_le (by decide) hn) rfl ww_335 rfl ?_
            refine qj_aload_n cx dX6_findMend_64 rfl rfl ?_
            refine qw_getR (j := 4) (t1 := 2) cx dX6_findMend_65 qc_cl6 rfl (Nat.lt_of_lt_of_le (by decide) hn) rfl ww_334 rfl ?_
            obtain ⟨q7, eq7, hP⟩ := Option.bind_eq_some_iff.mp hP
            refine qj_callV (As := [.ref 2]) (st := []) (t := 12) (h' := (q7.1, q7.2, (rX w, kX, nX, n))) (r := none) cx dX6_findMend_68 (c_X4_copyFrom (I := I) (J := J) (w := w) hn hn1 (qc_sc12 hn) (qc_sc2 hn) eq7) gc_RX6_248 qm_X4_copyFrom rfl rfl qc_cl4 rfl (Nat.lt_of_lt_of_le (by decide) hn) (by decide) (by decide) rfl (Nat.le_of_ble_eq_true rfl) (Nat.le_trans hn1 (by decide)) hn0 rfl ?_
            refine qj_aload_n cx dX6_findMend_71 rfl rfl ?_
            refine qw_getR (j := 7) (t1 := 33) cx dX6_findMend_72 qc_cl6 rfl (Nat.lt_of_lt_of_le (by decide) hn) rfl ww_337 rfl ?_
            refine qj_aload_n cx dX6_findMend_75 rfl rfl ?_
            refine qw_getR (j := 6) (t1 := 22) cx dX6_findMend_76 qc_cl6 rfl (Nat.lt_of_lt_of_le (by decide) hn) rfl ww_336 rfl ?_
            refine qj_aload_n cx dX6_findMend_79 rfl rfl ?_
            refine qw_getR (j := 5) (t1 := 12) cx dX6_findMend_80 qc_cl6 rfl (Nat.lt_of_lt_of_le (by decide) hn) rfl ww_335 rfl ?_
            refine qj_iload_n cx dX6_findMend_83 rfl rfl ?_
            obtain ⟨q8, eq8, hP⟩ := Option.bind_eq_some_iff.mp hP
            refine qj_callV (As := [.ref 22, .ref 12, .int a3]) (st := []) (t := 33) (h' := (q8.2.1, q8.2.2, (rX w, kX, nX, n))) (r := some (.int q8.1)) cx dX6_findMend_84 (c_X5_seek (I := q7.1) (J := q7.2) (w := w) hn hn1 (qc_sc12 hn) eq8) gc_RX6_261 qm_X5_seek rfl rfl qc_cl5 rfl (Nat.lt_of_lt_of_le (by decide) hn) (by decide) (by decide) rfl (Nat.le_of_ble_eq_true rfl) (Nat.le_trans hn1 (by decide)) hn0 rfl ?_
            refine qj_if_ne (tgt := 92) cx dX6_findMend_87 (by decide) (fun c9 => ?_) (fun c9 => ?_)
            · have hP := qc_ifF hP c9
              exact L92 k26 g26 (P_X6_findMend_39 k26 f) ih q8.2.1 q8.2.2 a1 a2 a3 hP
            · have hP := qc_ifT hP c9
              refine qj_iload_n cx dX6_findMend_90 rfl rfl ?_
              exact qw_iret cx hz dX6_findMend_91 (Nat.zero_le _) (Nat.zero_le _) (congrArg (fun q => q.1) (Option.some.inj hP)) (congrArg (fun q => q.2.1) (Option.some.inj hP)) (congrArg (fun q => q.2.2) (Option.some.inj hP))
  have L26 : ∀  (f : Nat) (I : (Nat → Nat → Int32)) (J : (Nat → Nat → Int64)) (a1 : Int32) (a2 : Int32), P_X6_findMend_26 f I J a1 a2 = some q0 → qc_J F 0 0 26 [some (.ref 0), some (.int a1), some (.int a2), none] [] (I, J, (rX w, kX, nX, n)) := by
    intro  f
    induction f with
    | zero => intro I J a1 a2 hP; cases hP
    | succ f ih =>
      intro I J a1 a2 hP
      rw [P_X6_findMend_26] at hP
      refine qj_iload_n cx dX6_findMend_26 rfl rfl ?_
      refine qj_aload_n cx dX6_findMend_27 rfl rfl ?_
      refine qw_getR (j := 4) (t1 := 2) cx dX6_findMend_28 qc_cl6 rfl (Nat.lt_of_lt_of_le (by decide) hn) rfl ww_334 rfl ?_
      refine qw_getI (j := 0) cx dX6_findMend_31 qc_cl4 rfl (Nat.lt_of_lt_of_le (by decide) hn) rfl ww_151 ?_
      refine qj_icmp_gt (tgt := 104) cx dX6_findMend_34 (by decide) (fun c10 => ?_) (fun c10 => ?_)
      · have hP := qc_ifT hP c10
        refine qj_bipush (v := (-2 : Int32)) cx dX6_findMend_104 (by decide) ?_
        exact qw_iret cx hz dX6_findMend_106 (Nat.zero_le _) (Nat.zero_le _) (congrArg (fun q => q.1) (Option.some.inj hP)) (congrArg (fun q => q.2.1) (Option.some.inj hP)) (congrArg (fun q => q.2.2) (Option.some.inj hP))
      · have hP := qc_ifF hP c10
        refine qj_iconst (v := (1 : Int32)) cx dX6_findMend_37 (by decide) ?_
        refine qj_istore_n (ls1 := [some (.ref 0), some (.int a1), some (.int a2), some (.int (1 : Int32))]) cx dX6_findMend_38 rfl rfl rfl rfl ?_
        exact L39 (P_X6_findMend_26 f) ih qc_fu I J a1 a2 (1 : Int32) hP
  show qc_J F 0 0 0 [some (.ref 0), none, none, none] [] (I, J, (rX w, kX, nX, n))
  unfold P_X6_findMend at hP
  refine qj_aload_n cx dX6_findMend_0 rfl rfl ?_
  refine qw_getR (j := 6) (t1 := 22) cx dX6_findMend_1 qc_cl6 rfl (Nat.lt_of_lt_of_le (by decide) hn) rfl ww_336 rfl ?_
  refine qj_aload_n cx dX6_findMend_4 rfl rfl ?_
  refine qw_getR (j := 4) (t1 := 2) cx dX6_findMend_5 qc_cl6 rfl (Nat.lt_of_lt_of_le (by decide) hn) rfl ww_334 rfl ?_
  obtain ⟨q11, eq11, hP⟩ := Option.bind_eq_some_iff.mp hP
  refine qj_callV (As := [.ref 2]) (st := []) (t := 22) (h' := (q11.2.1, q11.2.2, (rX w, kX, nX, n))) (r := some (.int q11.1)) cx dX6_findMend_8 (c_X2_allClean (I := I) (J := J) (w := w) hn hn1 (qc_sc2 hn) eq11) gc_RX6_251 qm_X2_allClean rfl rfl qc_cl2 rfl (Nat.lt_of_lt_of_le (by decide) hn) (by decide) (by decide) rfl (Nat.le_of_ble_eq_true rfl) (Nat.le_trans hn1 (by decide)) hn0 rfl ?_
  refine qj_if_eq (tgt := 16) cx dX6_findMend_11 (by decide) (fun c12 => ?_) (fun c12 => ?_)
  · have hP := qc_ifT hP c12
    refine qj_aload_n cx dX6_findMend_16 rfl rfl ?_
    refine qw_getR (j := 4) (t1 := 2) cx dX6_findMend_17 qc_cl6 rfl (Nat.lt_of_lt_of_le (by decide) hn) rfl ww_334 rfl ?_
    obtain ⟨q13, eq13, hP⟩ := Option.bind_eq_some_iff.mp hP
    refine qj_callV (As := []) (st := []) (t := 2) (h' := (q11.2.1, q11.2.2, (rX w, kX, nX, n))) (r := some (.int q13)) cx dX6_findMend_20 (c_X4_tunedUsers (I := q11.2.1) (J := q11.2.2) (w := w) hn hn1 (qc_sc2 hn) eq13) gc_RX6_144 qm_X4_tunedUsers rfl rfl qc_cl4 rfl (Nat.lt_of_lt_of_le (by decide) hn) (by decide) (by decide) rfl (Nat.le_of_ble_eq_true rfl) (Nat.le_trans hn1 (by decide)) hn0 rfl ?_
    refine qj_istore_n (ls1 := [some (.ref 0), some (.int q13), none, none]) cx dX6_findMend_23 rfl rfl rfl rfl ?_
    refine qj_iconst (v := (1 : Int32)) cx dX6_findMend_24 (by decide) ?_
    refine qj_istore_n (ls1 := [some (.ref 0), some (.int q13), some (.int (1 : Int32)), none]) cx dX6_findMend_25 rfl rfl rfl rfl ?_
    exact L26 qc_fu q11.2.1 q11.2.2 q13 (1 : Int32) hP
  · have hP := qc_ifF hP c12
    refine qj_iconst (v := (0 : Int32)) cx dX6_findMend_14 (by decide) ?_
    exact qw_iret cx hz dX6_findMend_15 (Nat.zero_le _) (Nat.zero_le _) (congrArg (fun q => q.1) (Option.some.inj hP)) (congrArg (fun q => q.2.1) (Option.some.inj hP)) (congrArg (fun q => q.2.2) (Option.some.inj hP))
def P_X6_leastBand_12  : Nat → (Nat → Nat → Int32) → (Nat → Nat → Int64) → Int32 → Option (Int32 × (Nat → Nat → Int32) × (Nat → Nat → Int64))
  | 0, _, _, _ => none
  | f + 1, I, J, a1 =>
  if (60 : Int32) < a1 then
  some ((-2 : Int32), I, J)
  else
  (P_X4_copyFrom I J 12 2).bind fun q2 =>
  (P_X4_narrowTo q2.1 q2.2 12 a1).bind fun q3 =>
  (P_X4_allUsers q3.1 12).bind fun q4 =>
  (P_X5_seek q3.1 q3.2 12 q4).bind fun q5 =>
  if q5.1 = 0 then
  some (a1, q5.2.1, q5.2.2)
  else
  qc_let (a1 + (1 : Int32)) fun x7 =>
  P_X6_leastBand_12 f q5.2.1 q5.2.2 x7
def P_X6_leastBand (I : Nat → Nat → Int32) (J : Nat → Nat → Int64) : Option (Int32 × (Nat → Nat → Int32) × (Nat → Nat → Int64)) :=
  (P_X4_greatestLow I 2).bind fun q8 =>
  qc_let (if (4 : Int32) < q8 then q8 else (4 : Int32)) fun x9 =>
  P_X6_leastBand_12 qc_fu I J x9
set_option maxRecDepth 20000 in
theorem c_X6_leastBand {I : Nat → Nat → Int32} {J : Nat → Nat → Int64} {w : Nat → Nat} {n : Nat} (hn : 121 ≤ n) (hn1 : n ≤ 200)  {q0 : Int32 × (Nat → Nat → Int32) × (Nat → Nat → Int64)} (hP : P_X6_leastBand I J = some q0) : ∀ l, qc_M l yX6_leastBand cX6_leastBand 2 (some .int) 6 154 0 0 [.ref 0] (I, J, (rX w, kX, nX, n)) (some (.int q0.1)) (q0.2.1, q0.2.2, (rX w, kX, nX, n)) := by
  intro l
  refine qc_ent2 (by decide) (Nat.le_of_ble_eq_true rfl) ?_
  intro F hn0 cx hz
  have cx : qc_X F cX6_leastBand RX6 "leastBand" 6 0 0 154 := cx
  have L12 : ∀  (f : Nat) (I : (Nat → Nat → Int32)) (J : (Nat → Nat → Int64)) (a1 : Int32), P_X6_leastBand_12 f I J a1 = some q0 → qc_J F 0 0 12 [some (.ref 0), some (.int a1)] [] (I, J, (rX w, kX, nX, n)) := by
    intro  f
    induction f with
    | zero => intro I J a1 hP; cases hP
    | succ f ih =>
      intro I J a1 hP
      rw [P_X6_leastBand_12] at hP
      refine qj_iload_n cx dX6_leastBand_12 rfl rfl ?_
      refine qj_bipush (v := (60 : Int32)) cx dX6_leastBand_13 (by decide) ?_
      refine qj_icmp_gt (tgt := 70) cx dX6_leastBand_15 (by decide) (fun c1 => ?_) (fun c1 => ?_)
      · have hP := qc_ifT hP c1
        refine qj_bipush (v := (-2 : Int32)) cx dX6_leastBand_70 (by decide) ?_
        exact qw_iret cx hz dX6_leastBand_72 (Nat.zero_le _) (Nat.zero_le _) (congrArg (fun q => q.1) (Option.some.inj hP)) (congrArg (fun q => q.2.1) (Option.some.inj hP)) (congrArg (fun q => q.2.2) (Option.some.inj hP))
      · have hP := qc_ifF hP c1
        refine qj_aload_n cx dX6_leastBand_18 rfl rfl ?_
        refine qw_getR (j := 5) (t1 := 12) cx dX6_leastBand_19 qc_cl6 rfl (Nat.lt_of_lt_of_le (by decide) hn) rfl ww_335 rfl ?_
        refine qj_aload_n cx dX6_leastBand_22 rfl rfl ?_
        refine qw_getR (j := 4) (t1 := 2) cx dX6_leastBand_23 qc_cl6 rfl (Nat.lt_of_lt_of_le (by decide) hn) rfl ww_334 rfl ?_
        obtain ⟨q2, eq2, hP⟩ := Option.bind_eq_some_iff.mp hP
        refine qj_callV (As := [.ref 2]) (st := []) (t := 12) (h' := (q2.1, q2.2, (rX w, kX, nX, n))) (r := none) cx dX6_leastBand_26 (c_X4_copyFrom (I := I) (J := J) (w := w) hn hn1 (qc_sc12 hn) (qc_sc2 hn) eq2) gc_RX6_248 qm_X4_copyFrom rfl rfl qc_cl4 rfl (Nat.lt_of_lt_of_le (by decide) hn) (by decide) (by decide) rfl (Nat.le_of_ble_eq_true rfl) (Nat.le_trans hn1 (by decide)) hn0 rfl ?_
        refine qj_aload_n cx dX6_leastBand_29 rfl rfl ?_
        refine qw_getR (j := 5) (t1 := 12) cx dX6_leastBand_30 qc_cl6 rfl (Nat.lt_of_lt_of_le (by decide) hn) rfl ww_335 rfl ?_
        refine qj_iload_n cx dX6_leastBand_33 rfl rfl ?_
        obtain ⟨q3, eq3, hP⟩ := Option.bind_eq_some_iff.mp hP
        refine qj_callV (As := [.int a1]) (st := []) (t := 12) (h' := (q3.1, q3.2, (rX w, kX, nX, n))) (r := none) cx dX6_leastBand_34 (c_X4_narrowTo (I := q2.1) (J := q2.2) (w := w) hn hn1 (qc_sc12 hn) eq3) gc_RX6_286 qm_X4_narrowTo rfl rfl qc_cl4 rfl (Nat.lt_of_lt_of_le (by decide) hn) (by decide) (by decide) rfl (Nat.le_of_ble_eq_true rfl) (Nat.le_trans hn1 (by decide)) hn0 rfl ?_
        refine qj_aload_n cx dX6_leastBand_37 rfl rfl ?_
        refine qw_getR (j := 7) (t1 := 33) cx dX6_leastBand_38 qc_cl6 rfl (Nat.lt_of_lt_of_le (by decide) hn) rfl ww_337 rfl ?_
        refine qj_aload_n cx dX6_leastBand_41 rfl rfl ?_
        refine qw_getR (j := 6) (t1 := 22) cx dX6_leastBand_42 qc_cl6 rfl (Nat.lt_of_lt_of_le (by decide) hn) rfl ww_336 rfl ?_
        refine qj_aload_n cx dX6_leastBand_45 rfl rfl ?_
        refine qw_getR (j := 5) (t1 := 12) cx dX6_leastBand_46 qc_cl6 rfl (Nat.lt_of_lt_of_le (by decide) hn) rfl ww_335 rfl ?_
        refine qj_aload_n cx dX6_leastBand_49 rfl rfl ?_
        refine qw_getR (j := 5) (t1 := 12) cx dX6_leastBand_50 qc_cl6 rfl (Nat.lt_of_lt_of_le (by decide) hn) rfl ww_335 rfl ?_
        obtain ⟨q4, eq4, hP⟩ := Option.bind_eq_some_iff.mp hP
        refine qj_callV (As := []) (st := [.ref 12, .ref 22, .ref 33]) (t := 12) (h' := (q3.1, q3.2, (rX w, kX, nX, n))) (r := some (.int q4)) cx dX6_leastBand_53 (c_X4_allUsers (I := q3.1) (J := q3.2) (w := w) hn hn1 (qc_sc12 hn) eq4) gc_RX6_289 qm_X4_allUsers rfl rfl qc_cl4 rfl (Nat.lt_of_lt_of_le (by decide) hn) (by decide) (by decide) rfl (Nat.le_of_ble_eq_true rfl) (Nat.le_trans hn1 (by decide)) hn0 rfl ?_
        obtain ⟨q5, eq5, hP⟩ := Option.bind_eq_some_iff.mp hP
        refine qj_callV (As := [.ref 22, .ref 12, .int q4]) (st := []) (t := 33) (h' := (q5.2.1, q5.2.2, (rX w, kX, nX, n))) (r := some (.int q5.1)) cx dX6_leastBand_56 (c_X5_seek (I := q3.1) (J := q3.2) (w := w) hn hn1 (qc_sc12 hn) eq5) gc_RX6_261 qm_X5_seek rfl rfl qc_cl5 rfl (Nat.lt_of_lt_of_le (by decide) hn) (by decide) (by decide) rfl (Nat.le_of_ble_eq_true rfl) (Nat.le_trans hn1 (by decide)) hn0 rfl ?_
        refine qj_if_ne (tgt := 64) cx dX6_leastBand_59 (by decide) (fun c6 => ?_) (fun c6 => ?_)
        · have hP := qc_ifF hP c6
          obtain ⟨x7, ex7, hP⟩ := qc_letE hP
          refine qj_iinc (v := x7) (ls1 := [some (.ref 0), some (.int x7)]) cx dX6_leastBand_64 rfl (by rw [ex7]; rfl) rfl rfl ?_
          refine qj_goto (tgt := 12) cx dX6_leastBand_67 (by decide) ?_
          exact ih q5.2.1 q5.2.2 x7 hP
        · have hP := qc_ifT hP c6
          refine qj_iload_n cx dX6_leastBand_62 rfl rfl ?_
          exact qw_iret cx hz dX6_leastBand_63 (Nat.zero_le _) (Nat.zero_le _) (congrArg (fun q => q.1) (Option.some.inj hP)) (congrArg (fun q => q.2.1) (Option.some.inj hP)) (congrArg (fun q => q.2.2) (Option.some.inj hP))
  show qc_J F 0 0 0 [some (.ref 0), none] [] (I, J, (rX w, kX, nX, n))
  unfold P_X6_leastBand at hP
  refine qj_iconst (v := (4 : Int32)) cx dX6_leastBand_0 (by decide) ?_
  refine qj_aload_n cx dX6_leastBand_1 rfl rfl ?_
  refine qw_getR (j := 4) (t1 := 2) cx dX6_leastBand_2 qc_cl6 rfl (Nat.lt_of_lt_of_le (by decide) hn) rfl ww_334 rfl ?_
  obtain ⟨q8, eq8, hP⟩ := Option.bind_eq_some_iff.mp hP
  refine qj_callV (As := []) (st := [.int (4 : Int32)]) (t := 2) (h' := (I, J, (rX w, kX, nX, n))) (r := some (.int q8)) cx dX6_leastBand_5 (c_X4_greatestLow (I := I) (J := J) (w := w) hn hn1 (qc_sc2 hn) eq8) gc_RX6_278 qm_X4_greatestLow rfl rfl qc_cl4 rfl (Nat.lt_of_lt_of_le (by decide) hn) (by decide) (by decide) rfl (Nat.le_of_ble_eq_true rfl) (Nat.le_trans hn1 (by decide)) hn0 rfl ?_
  refine qj_max cx dX6_leastBand_8 ww_937 ww_630 ww_125 ww_631 (by decide) (Nat.le_of_ble_eq_true rfl) (Nat.zero_le _) (Nat.zero_le _) ?_
  obtain ⟨x9, ex9, hP⟩ := qc_letE hP
  refine qw_top ex9 ?_
  refine qj_istore_n (ls1 := [some (.ref 0), some (.int x9)]) cx dX6_leastBand_11 rfl rfl rfl rfl ?_
  exact L12 qc_fu I J x9 hP
def P_X6_growTrial_14  : Nat → (Nat → Nat → Int32) → (Nat → Nat → Int64) → Int32 → Int32 → Option (Int32 × (Nat → Nat → Int32) × (Nat → Nat → Int64))
  | 0, _, _, _, _ => none
  | f + 1, I, J, a1, a3 =>
  if (60 : Int32) < a3 then
  some ((-2 : Int32), I, J)
  else
  (P_X6_fitsOnTrial I J a1 a3).bind fun q2 =>
  if q2.1 = 0 then
  qc_let (a3 + (1 : Int32)) fun x4 =>
  P_X6_growTrial_14 f q2.2.1 q2.2.2 a1 x4
  else
  some (a3, q2.2.1, q2.2.2)
def P_X6_growTrial (I : Nat → Nat → Int32) (J : Nat → Nat → Int64) (a : Int32) (b : Int32) : Option (Int32 × (Nat → Nat → Int32) × (Nat → Nat → Int64)) :=
  qc_let (qc_u2 I 12 0 (a + (1 : Int32))) fun I5 =>
  qc_let (b + (1 : Int32)) fun x6 =>
  P_X6_growTrial_14 qc_fu I5 J a x6
set_option maxRecDepth 20000 in
theorem c_X6_growTrial {I : Nat → Nat → Int32} {J : Nat → Nat → Int64} {w : Nat → Nat} {n : Nat} (hn : 121 ≤ n) (hn1 : n ≤ 200) {a : Int32} {b : Int32} {q0 : Int32 × (Nat → Nat → Int32) × (Nat → Nat → Int64)} (hP : P_X6_growTrial I J a b = some q0) : ∀ l, qc_M l yX6_growTrial cX6_growTrial 4 (some .int) 6 149 0 0 [.ref 0, .int a, .int b] (I, J, (rX w, kX, nX, n)) (some (.int q0.1)) (q0.2.1, q0.2.2, (rX w, kX, nX, n)) := by
  intro l
  refine qc_ent2 (by decide) (Nat.le_of_ble_eq_true rfl) ?_
  intro F hn0 cx hz
  have cx : qc_X F cX6_growTrial RX6 "growTrial" 6 0 0 149 := cx
  have L14 : ∀  (f : Nat) (I : (Nat → Nat → Int32)) (J : (Nat → Nat → Int64)) (a1 : Int32) (a3 : Int32), P_X6_growTrial_14 f I J a1 a3 = some q0 → qc_J F 0 0 14 [some (.ref 0), some (.int a1), none, some (.int a3)] [] (I, J, (rX w, kX, nX, n)) := by
    intro  f
    induction f with
    | zero => intro I J a1 a3 hP; cases hP
    | succ f ih =>
      intro I J a1 a3 hP
      rw [P_X6_growTrial_14] at hP
      refine qj_iload_n cx dX6_growTrial_14 rfl rfl ?_
      refine qj_bipush (v := (60 : Int32)) cx dX6_growTrial_15 (by decide) ?_
      refine qj_icmp_gt (tgt := 37) cx dX6_growTrial_17 (by decide) (fun c1 => ?_) (fun c1 => ?_)
      · have hP := qc_ifT hP c1
        refine qj_bipush (v := (-2 : Int32)) cx dX6_growTrial_37 (by decide) ?_
        exact qw_iret cx hz dX6_growTrial_39 (Nat.zero_le _) (Nat.zero_le _) (congrArg (fun q => q.1) (Option.some.inj hP)) (congrArg (fun q => q.2.1) (Option.some.inj hP)) (congrArg (fun q => q.2.2) (Option.some.inj hP))
      · have hP := qc_ifF hP c1
        refine qj_aload_n cx dX6_growTrial_20 rfl rfl ?_
        refine qj_iload_n cx dX6_growTrial_21 rfl rfl ?_
        refine qj_iload_n cx dX6_growTrial_22 rfl rfl ?_
        obtain ⟨q2, eq2, hP⟩ := Option.bind_eq_some_iff.mp hP
        refine qj_callV (As := [.int a1, .int a3]) (st := []) (t := 0) (h' := (q2.2.1, q2.2.2, (rX w, kX, nX, n))) (r := some (.int q2.1)) cx dX6_growTrial_23 (c_X6_fitsOnTrial (I := I) (J := J) (w := w) hn hn1 eq2) gc_RX6_254 qm_X6_fitsOnTrial rfl rfl qc_cl6 rfl (Nat.lt_of_lt_of_le (by decide) hn) (by decide) (by decide) rfl (Nat.le_of_ble_eq_true rfl) (Nat.le_trans hn1 (by decide)) hn0 rfl ?_
        refine qj_if_eq (tgt := 31) cx dX6_growTrial_26 (by decide) (fun c3 => ?_) (fun c3 => ?_)
        · have hP := qc_ifT hP c3
          obtain ⟨x4, ex4, hP⟩ := qc_letE hP
          refine qj_iinc (v := x4) (ls1 := [some (.ref 0), some (.int a1), none, some (.int x4)]) cx dX6_growTrial_31 rfl (by rw [ex4]; rfl) rfl rfl ?_
          refine qj_goto (tgt := 14) cx dX6_growTrial_34 (by decide) ?_
          exact ih q2.2.1 q2.2.2 a1 x4 hP
        · have hP := qc_ifF hP c3
          refine qj_iload_n cx dX6_growTrial_29 rfl rfl ?_
          exact qw_iret cx hz dX6_growTrial_30 (Nat.zero_le _) (Nat.zero_le _) (congrArg (fun q => q.1) (Option.some.inj hP)) (congrArg (fun q => q.2.1) (Option.some.inj hP)) (congrArg (fun q => q.2.2) (Option.some.inj hP))
  show qc_J F 0 0 0 [some (.ref 0), some (.int a), some (.int b), none] [] (I, J, (rX w, kX, nX, n))
  unfold P_X6_growTrial at hP
  refine qj_aload_n cx dX6_growTrial_0 rfl rfl ?_
  refine qw_getR (j := 5) (t1 := 12) cx dX6_growTrial_1 qc_cl6 rfl (Nat.lt_of_lt_of_le (by decide) hn) rfl ww_335 rfl ?_
  refine qj_iload_n cx dX6_growTrial_4 rfl rfl ?_
  refine qj_iconst (v := (1 : Int32)) cx dX6_growTrial_5 (by decide) ?_
  refine qj_iadd cx dX6_growTrial_6 ?_
  obtain ⟨I5, eI5, hP⟩ := qc_letE hP
  refine qw_putI (j := 0) cx dX6_growTrial_7 qc_cl4 rfl (Nat.lt_of_lt_of_le (by decide) hn) rfl ww_151 rfl rfl rfl eI5 ?_
  refine qj_iload_n cx dX6_growTrial_10 rfl rfl ?_
  refine qj_iconst (v := (1 : Int32)) cx dX6_growTrial_11 (by decide) ?_
  refine qj_iadd cx dX6_growTrial_12 ?_
  obtain ⟨x6, ex6, hP⟩ := qc_letE hP
  refine qw_top ex6 ?_
  refine qj_istore_n (ls1 := [some (.ref 0), some (.int a), some (.int b), some (.int x6)]) cx dX6_growTrial_13 rfl rfl rfl rfl ?_
  refine qw_sub (ls1 := [some (.ref 0), some (.int a), none, some (.int x6)]) rfl (qc_sb_ok ⟨rfl, rfl, rfl, trivial⟩) ?_
  exact L14 qc_fu I5 J a x6 hP
def P_X6_loseOnTrial_65 (k19 : (Nat → Nat → Int32) → (Nat → Nat → Int64) → Int32 → Int32 → Int32 → Option (Int32 × (Nat → Nat → Int32) × (Nat → Nat → Int64))) (I : (Nat → Nat → Int32)) (J : (Nat → Nat → Int64)) (a1 : Int32) (a2 : Int32) (a3 : Int32) : Option (Int32 × (Nat → Nat → Int32) × (Nat → Nat → Int64)) :=
  qc_let (a3 + (1 : Int32)) fun x1 =>
  k19 I J a1 a2 x1
def P_X6_loseOnTrial_19  : Nat → (Nat → Nat → Int32) → (Nat → Nat → Int64) → Int32 → Int32 → Int32 → Option (Int32 × (Nat → Nat → Int32) × (Nat → Nat → Int64))
  | 0, _, _, _, _, _ => none
  | f + 1, I, J, a1, a2, a3 =>
  if I 12 0 ≤ a3 then
  some (a2, I, J)
  else
  if qc_in a3 8 then
  if I 19 a3.toNatClampNeg = a1 then
  qc_let (a2 + (1 : Int32)) fun x5 =>
  (P_X5_seek I J 12 ((1 : Int32) <<< (a3 &&& 31))).bind fun q6 =>
  P_X6_loseOnTrial_65 (P_X6_loseOnTrial_19 f) q6.2.1 q6.2.2 a1 x5 a3
  else
  P_X6_loseOnTrial_65 (P_X6_loseOnTrial_19 f) I J a1 a2 a3
  else none
def P_X6_loseOnTrial (I : Nat → Nat → Int32) (J : Nat → Nat → Int64) (a : Int32) : Option (Int32 × (Nat → Nat → Int32) × (Nat → Nat → Int64)) :=
  qc_let (qc_u2 J 12 6 ((J 12 6) ||| ((1 : Int64) <<< (a.toInt64 &&& 63)))) fun J7 =>
  P_X6_loseOnTrial_19 qc_fu I J7 a (0 : Int32) (0 : Int32)
set_option maxRecDepth 20000 in
theorem c_X6_loseOnTrial {I : Nat → Nat → Int32} {J : Nat → Nat → Int64} {w : Nat → Nat} {n : Nat} (hn : 121 ≤ n) (hn1 : n ≤ 200) {a : Int32} {q0 : Int32 × (Nat → Nat → Int32) × (Nat → Nat → Int64)} (hP : P_X6_loseOnTrial I J a = some q0) : ∀ l, qc_M l yX6_loseOnTrial cX6_loseOnTrial 4 (some .int) 6 154 0 0 [.ref 0, .int a] (I, J, (rX w, kX, nX, n)) (some (.int q0.1)) (q0.2.1, q0.2.2, (rX w, kX, nX, n)) := by
  intro l
  refine qc_ent2 (by decide) (Nat.le_of_ble_eq_true rfl) ?_
  intro F hn0 cx hz
  have cx : qc_X F cX6_loseOnTrial RX6 "loseOnTrial" 6 0 0 154 := cx
  have L65 : ∀ (k19 : (Nat → Nat → Int32) → (Nat → Nat → Int64) → Int32 → Int32 → Int32 → Option (Int32 × (Nat → Nat → Int32) × (Nat → Nat → Int64))) (g19 : ∀ (I : Nat → Nat → Int32) (J : Nat → Nat → Int64) (a1 : Int32) (a2 : Int32) (a3 : Int32), k19 I J a1 a2 a3 = some q0 → qc_J F 0 0 19 [some (.ref 0), some (.int a1), some (.int a2), some (.int a3)] [] (I, J, (rX w, kX, nX, n))) (I : (Nat → Nat → Int32)) (J : (Nat → Nat → Int64)) (a1 : Int32) (a2 : Int32) (a3 : Int32), P_X6_loseOnTrial_65 k19 I J a1 a2 a3 = some q0 → qc_J F 0 0 65 [some (.ref 0), some (.int a1), some (.int a2), some (.int a3)] [] (I, J, (rX w, kX, nX, n)) := by
    intro k19 g19 I J a1 a2 a3 hP
    unfold P_X6_loseOnTrial_65 at hP
    obtain ⟨x1, ex1, hP⟩ := qc_letE hP
    refine qj_iinc (v := x1) (ls1 := [some (.ref 0), some (.int a1), some (.int a2), some (.int x1)]) cx dX6_loseOnTrial_65 rfl (by rw [ex1]; rfl) rfl rfl ?_
    refine qj_goto (tgt := 19) cx dX6_loseOnTrial_68 (by decide) ?_
    exact g19 I J a1 a2 x1 hP
  have L19 : ∀  (f : Nat) (I : (Nat → Nat → Int32)) (J : (Nat → Nat → Int64)) (a1 : Int32) (a2 : Int32) (a3 : Int32), P_X6_loseOnTrial_19 f I J a1 a2 a3 = some q0 → qc_J F 0 0 19 [some (.ref 0), some (.int a1), some (.int a2), some (.int a3)] [] (I, J, (rX w, kX, nX, n)) := by
    intro  f
    induction f with
    | zero => intro I J a1 a2 a3 hP; cases hP
    | succ f ih =>
      intro I J a1 a2 a3 hP
      rw [P_X6_loseOnTrial_19] at hP
      refine qj_iload_n cx dX6_loseOnTrial_19 rfl rfl ?_
      refine qj_aload_n cx dX6_loseOnTrial_20 rfl rfl ?_
      refine qw_getR (j := 5) (t1 := 12) cx dX6_loseOnTrial_21 qc_cl6 rfl (Nat.lt_of_lt_of_le (by decide) hn) rfl ww_335 rfl ?_
      refine qw_getI (j := 0) cx dX6_loseOnTrial_24 qc_cl4 rfl (Nat.lt_of_lt_of_le (by decide) hn) rfl ww_151 ?_
      refine qj_icmp_ge (tgt := 71) cx dX6_loseOnTrial_27 (by decide) (fun c2 => ?_) (fun c2 => ?_)
      · have hP := qc_ifT hP c2
        refine qj_iload_n cx dX6_loseOnTrial_71 rfl rfl ?_
        exact qw_iret cx hz dX6_loseOnTrial_72 (Nat.zero_le _) (Nat.zero_le _) (congrArg (fun q => q.1) (Option.some.inj hP)) (congrArg (fun q => q.2.1) (Option.some.inj hP)) (congrArg (fun q => q.2.2) (Option.some.inj hP))
      · have hP := qc_ifF hP c2
        refine qj_aload_n cx dX6_loseOnTrial_30 rfl rfl ?_
        refine qw_getR (j := 5) (t1 := 12) cx dX6_loseOnTrial_31 qc_cl6 rfl (Nat.lt_of_lt_of_le (by decide) hn) rfl ww_335 rfl ?_
        refine qw_getR (j := 13) (t1 := 19) cx dX6_loseOnTrial_34 qc_cl4 rfl (Nat.lt_of_lt_of_le (by decide) hn) rfl ww_198 rfl ?_
        refine qj_iload_n cx dX6_loseOnTrial_37 rfl rfl ?_
        obtain ⟨c3, hP⟩ := qc_ck hP
        refine qw_iald (n1 := 8) cx dX6_loseOnTrial_38 rfl (Nat.lt_of_lt_of_le (by decide) hn) rfl c3 ?_
        refine qj_iload_n cx dX6_loseOnTrial_39 rfl rfl ?_
        refine qj_icmp_ne (tgt := 65) cx dX6_loseOnTrial_40 (by decide) (fun c4 => ?_) (fun c4 => ?_)
        · have hP := qc_ifF hP c4
          exact L65 (P_X6_loseOnTrial_19 f) ih I J a1 a2 a3 hP
        · have hP := qc_ifT hP c4
          obtain ⟨x5, ex5, hP⟩ := qc_letE hP
          refine qj_iinc (v := x5) (ls1 := [some (.ref 0), some (.int a1), some (.int x5), some (.int a3)]) cx dX6_loseOnTrial_43 rfl (by rw [ex5]; rfl) rfl rfl ?_
          refine qj_aload_n cx dX6_loseOnTrial_46 rfl rfl ?_
          refine qw_getR (j := 7) (t1 := 33) cx dX6_loseOnTrial_47 qc_cl6 rfl (Nat.lt_of_lt_of_le (by decide) hn) rfl ww_337 rfl ?_
          refine qj_aload_n cx dX6_loseOnTrial_50 rfl rfl ?_
          refine qw_getR (j := 6) (t1 := 22) cx dX6_loseOnTrial_51 qc_cl6 rfl (Nat.lt_of_lt_of_le (by decide) hn) rfl ww_336 rfl ?_
          refine qj_aload_n cx dX6_loseOnTrial_54 rfl rfl ?_
          refine qw_getR (j := 5) (t1 := 12) cx dX6_loseOnTrial_55 qc_cl6 rfl (Nat.lt_of_lt_of_le (by decide) hn) rfl ww_335 rfl ?_
          refine qj_iconst (v := (1 : Int32)) cx dX6_loseOnTrial_58 (by decide) ?_
          refine qj_iload_n cx dX6_loseOnTrial_59 rfl rfl ?_
          refine qj_ishl cx dX6_loseOnTrial_60 ?_
          obtain ⟨q6, eq6, hP⟩ := Option.bind_eq_some_iff.mp hP
          refine qj_callV (As := [.ref 22, .ref 12, .int ((1 : Int32) <<< (a3 &&& 31))]) (st := []) (t := 33) (h' := (q6.2.1, q6.2.2, (rX w, kX, nX, n))) (r := some (.int q6.1)) cx dX6_loseOnTrial_61 (c_X5_seek (I := I) (J := J) (w := w) hn hn1 (qc_sc12 hn) eq6) gc_RX6_261 qm_X5_seek rfl rfl qc_cl5 rfl (Nat.lt_of_lt_of_le (by decide) hn) (by decide) (by decide) rfl (Nat.le_of_ble_eq_true rfl) (Nat.le_trans hn1 (by decide)) hn0 rfl ?_
          refine qj_pop cx dX6_loseOnTrial_64 rfl ?_
          exact L65 (P_X6_loseOnTrial_19 f) ih q6.2.1 q6.2.2 a1 x5 a3 hP
  show qc_J F 0 0 0 [some (.ref 0), some (.int a), none, none] [] (I, J, (rX w, kX, nX, n))
  unfold P_X6_loseOnTrial at hP
  refine qj_aload_n cx dX6_loseOnTrial_0 rfl rfl ?_
  refine qw_getR (j := 5) (t1 := 12) cx dX6_loseOnTrial_1 qc_cl6 rfl (Nat.lt_of_lt_of_le (by decide) hn) rfl ww_335 rfl ?_
  refine qj_dup cx dX6_loseOnTrial_4 rfl ?_
  refine qw_getJ (j := 6) cx dX6_loseOnTrial_5 qc_cl4 rfl (Nat.lt_of_lt_of_le (by decide) hn) rfl ww_171 ?_
  refine qj_lconst (v := (1 : Int64)) cx dX6_loseOnTrial_8 (by decide) ?_
  refine qj_iload_n cx dX6_loseOnTrial_9 rfl rfl ?_
  refine qj_lshl cx dX6_loseOnTrial_10 ?_
  refine qj_lor cx dX6_loseOnTrial_11 ?_
  obtain ⟨J7, eJ7, hP⟩ := qc_letE hP
  refine qw_putJ (j := 6) cx dX6_loseOnTrial_12 qc_cl4 rfl (Nat.lt_of_lt_of_le (by decide) hn) rfl ww_171 rfl rfl rfl eJ7 ?_
  refine qj_iconst (v := (0 : Int32)) cx dX6_loseOnTrial_15 (by decide) ?_
  refine qj_istore_n (ls1 := [some (.ref 0), some (.int a), some (.int (0 : Int32)), none]) cx dX6_loseOnTrial_16 rfl rfl rfl rfl ?_
  refine qj_iconst (v := (0 : Int32)) cx dX6_loseOnTrial_17 (by decide) ?_
  refine qj_istore_n (ls1 := [some (.ref 0), some (.int a), some (.int (0 : Int32)), some (.int (0 : Int32))]) cx dX6_loseOnTrial_18 rfl rfl rfl rfl ?_
  exact L19 qc_fu I J7 a (0 : Int32) (0 : Int32) hP
def P_X3_readAll_4  : Nat → (Nat → Nat → Int32) → (Nat → Nat → Int64) → Option ((Nat → Nat → Int32) × (Nat → Nat → Int64))
  | 0, _, _ => none
  | f + 1, I, J =>
  if I 121 4 = 0 then
  some (I, J)
  else
  if I 121 7 = 0 then
  (if (700 : Int32) < I 121 9 then
  some (I, J)
  else
  (P_X3_readLine I J).bind fun q4 =>
  (P_X3_endLine q4.1).bind fun q5 =>
  P_X3_readAll_4 f q5 q4.2)
  else
  some (I, J)
def P_X3_readAll (I : Nat → Nat → Int32) (J : Nat → Nat → Int64) : Option ((Nat → Nat → Int32) × (Nat → Nat → Int64)) :=
  (P_X3_next I).bind fun q6 =>
  P_X3_readAll_4 qc_fu q6 J
set_option maxRecDepth 20000 in
theorem c_X3_readAll {I : Nat → Nat → Int32} {J : Nat → Nat → Int64} {w : Nat → Nat} {n : Nat} (hn : 121 ≤ n) (hn1 : n ≤ 200) (hn2 : 132 ≤ n)  {q0 : (Nat → Nat → Int32) × (Nat → Nat → Int64)} (hP : P_X3_readAll I J = some q0) : ∀ l, qc_M l yX3_readAll cX3_readAll 1 none 6 125 0 0 [.ref 121] (I, J, (rX w, kX, nX, n)) none (q0.1, q0.2, (rX w, kX, nX, n)) := by
  intro l
  refine qc_ent2 (by decide) (Nat.le_of_ble_eq_true rfl) ?_
  intro F hn0 cx hz
  have cx : qc_X F cX3_readAll RX3 "readAll" 6 0 0 125 := cx
  have L4 : ∀  (f : Nat) (I : (Nat → Nat → Int32)) (J : (Nat → Nat → Int64)), P_X3_readAll_4 f I J = some q0 → qc_J F 0 0 4 [some (.ref 121)] [] (I, J, (rX w, kX, nX, n)) := by
    intro  f
    induction f with
    | zero => intro I J hP; cases hP
    | succ f ih =>
      intro I J hP
      rw [P_X3_readAll_4] at hP
      refine qj_aload_n cx dX3_readAll_4 rfl rfl ?_
      refine qw_getI (j := 4) cx dX3_readAll_5 qc_cl3 rfl (Nat.lt_of_lt_of_le (by decide) hn2) rfl ww_389 ?_
      refine qj_if_eq (tgt := 39) cx dX3_readAll_8 (by decide) (fun c1 => ?_) (fun c1 => ?_)
      · have hP := qc_ifT hP c1
        exact qw_vret cx hz dX3_readAll_39 (Nat.zero_le _) (Nat.zero_le _) (congrArg (fun q => q.1) (Option.some.inj hP)) (congrArg (fun q => q.2) (Option.some.inj hP))
      · have hP := qc_ifF hP c1
        refine qj_aload_n cx dX3_readAll_11 rfl rfl ?_
        refine qw_getI (j := 7) cx dX3_readAll_12 qc_cl3 rfl (Nat.lt_of_lt_of_le (by decide) hn2) rfl ww_392 ?_
        refine qj_if_ne (tgt := 39) cx dX3_readAll_15 (by decide) (fun c2 => ?_) (fun c2 => ?_)
        · have hP := qc_ifF hP c2
          exact qw_vret cx hz dX3_readAll_39 (Nat.zero_le _) (Nat.zero_le _) (congrArg (fun q => q.1) (Option.some.inj hP)) (congrArg (fun q => q.2) (Option.some.inj hP))
        · have hP := qc_ifT hP c2
          refine qj_aload_n cx dX3_readAll_18 rfl rfl ?_
          refine qw_getI (j := 9) cx dX3_readAll_19 qc_cl3 rfl (Nat.lt_of_lt_of_le (by decide) hn2) rfl ww_396 ?_
          refine qj_sipush (v := (700 : Int32)) cx dX3_readAll_22 (by decide) ?_
          refine qj_icmp_gt (tgt := 39) cx dX3_readAll_25 (by decide) (fun c3 => ?_) (fun c3 => ?_)
          · have hP := qc_ifT hP c3
            exact qw_vret cx hz dX3_readAll_39 (Nat.zero_le _) (Nat.zero_le _) (congrArg (fun q => q.1) (Option.some.inj hP)) (congrArg (fun q => q.2) (Option.some.inj hP))
          · have hP := qc_ifF hP c3
            refine qj_aload_n cx dX3_readAll_28 rfl rfl ?_
            obtain ⟨q4, eq4, hP⟩ := Option.bind_eq_some_iff.mp hP
            refine qj_callV (As := []) (st := []) (t := 121) (h' := (q4.1, q4.2, (rX w, kX, nX, n))) (r := none) cx dX3_readAll_29 (c_X3_readLine (I := I) (J := J) (w := w) hn hn1 hn2 eq4) gc_RX3_62 qm_X3_readLine rfl rfl qc_cl3 rfl (Nat.lt_of_lt_of_le (by decide) hn2) (by decide) (by decide) rfl (Nat.le_of_ble_eq_true rfl) (Nat.le_trans hn1 (by decide)) hn0 rfl ?_
            refine qj_aload_n cx dX3_readAll_32 rfl rfl ?_
            obtain ⟨q5, eq5, hP⟩ := Option.bind_eq_some_iff.mp hP
            refine qj_callV (As := []) (st := []) (t := 121) (h' := (q5, q4.2, (rX w, kX, nX, n))) (r := none) cx dX3_readAll_33 (c_X3_endLine (I := q4.1) (J := q4.2) (w := w) hn hn1 hn2 eq5) gc_RX3_65 qm_X3_endLine rfl rfl qc_cl3 rfl (Nat.lt_of_lt_of_le (by decide) hn2) (by decide) (by decide) rfl (Nat.le_of_ble_eq_true rfl) (Nat.le_trans hn1 (by decide)) hn0 rfl ?_
            refine qj_goto (tgt := 4) cx dX3_readAll_36 (by decide) ?_
            exact ih q5 q4.2 hP
  show qc_J F 0 0 0 [some (.ref 121)] [] (I, J, (rX w, kX, nX, n))
  unfold P_X3_readAll at hP
  refine qj_aload_n cx dX3_readAll_0 rfl rfl ?_
  obtain ⟨q6, eq6, hP⟩ := Option.bind_eq_some_iff.mp hP
  refine qj_callV (As := []) (st := []) (t := 121) (h' := (q6, J, (rX w, kX, nX, n))) (r := none) cx dX3_readAll_1 (c_X3_next (I := I) (J := J) (w := w) hn hn1 hn2 eq6) gc_RX3_59 qm_X3_next rfl rfl qc_cl3 rfl (Nat.lt_of_lt_of_le (by decide) hn2) (by decide) (by decide) rfl (Nat.le_of_ble_eq_true rfl) (Nat.le_trans hn1 (by decide)) hn0 rfl ?_
  exact L4 qc_fu q6 J hP
