def P_X6_chance_62  : Nat → (Nat → Nat → Int32) → (Nat → Nat → Int64) → Int32 → Int32 → Int32 → Int32 → Int32 → Option (Int32 × (Nat → Nat → Int32) × (Nat → Nat → Int64))
  | 0, _, _, _, _, _, _, _ => none
  | f + 1, I, J, a2, a3, a4, a5, a6 =>
  if a2 ≤ a6 then
  (if a3 = 0 then
  (P_X4_tunedUsers I 12).bind fun q7 =>
  (P_J6_bitCount_0f7a4 q7).bind fun q8 =>
  some (q8, I, J)
  else
  if a3 = (1 : Int32) then
  some (a5, I, J)
  else
  (P_X2_allClean I J 12).bind fun q4 =>
  (if q4.1 = 0 then
  some (0 : Int32)
  else
  some (1 : Int32)).bind fun v6 =>
  some (v6, q4.2.1, q4.2.2))
  else
  qc_let (((a4 * (1103515245 : Int32)) + (12345 : Int32)) &&& (2147483647 : Int32)) fun x9 =>
  if (if (1 : Int32) < I 12 1 then I 12 1 else (1 : Int32)) = 0 then none else
  (P_X6_loseOnTrial I J (((x9 >>> ((16 : Int32) &&& 31)) - (x9 >>> ((16 : Int32) &&& 31)) / (if (1 : Int32) < I 12 1 then I 12 1 else (1 : Int32)) * (if (1 : Int32) < I 12 1 then I 12 1 else (1 : Int32))) + (1 : Int32))).bind fun q11 =>
  qc_let (a5 + q11.1) fun x12 =>
  qc_let (a6 + (1 : Int32)) fun x13 =>
  P_X6_chance_62 f q11.2.1 q11.2.2 a2 a3 x9 x12 x13
def P_X6_chance (I : Nat → Nat → Int32) (J : Nat → Nat → Int64) (a : Int32) (b : Int32) (c : Int32) : Option (Int32 × (Nat → Nat → Int32) × (Nat → Nat → Int64)) :=
  if a < (-1 : Int32) then
  some ((-1 : Int32), I, J)
  else
  if b < (1 : Int32) then
  some ((-1 : Int32), I, J)
  else
  if (20 : Int32) < b then
  some ((-1 : Int32), I, J)
  else
  if c < 0 then
  some ((-1 : Int32), I, J)
  else
  if c ≤ (2 : Int32) then
  (P_X4_copyFrom I J 12 2).bind fun q19 =>
  (if a = (-1 : Int32) then
  some (q19.1 2 5)
  else
  some a).bind fun v21 =>
  P_X6_chance_62 qc_fu q19.1 q19.2 b c v21 (0 : Int32) (0 : Int32)
  else
  some ((-1 : Int32), I, J)
set_option maxRecDepth 20000 in
theorem c_X6_chance {I : Nat → Nat → Int32} {J : Nat → Nat → Int64} {w : Nat → Nat} {n : Nat} (hn : 121 ≤ n) (hn1 : n ≤ 200) {a : Int32} {b : Int32} {c : Int32} {q0 : Int32 × (Nat → Nat → Int32) × (Nat → Nat → Int64)} (hP : P_X6_chance I J a b c = some q0) : ∀ l, qc_M l yX6_chance cX6_chance 7 (some .int) 7 177 0 0 [.ref 0, .int a, .int b, .int c] (I, J, (rX w, kX, nX, n)) (some (.int q0.1)) (q0.2.1, q0.2.2, (rX w, kX, nX, n)) := by
  intro l
  refine qc_ent2 (by decide) (Nat.le_of_ble_eq_true rfl) ?_
  intro F hn0 cx hz
  have cx : qc_X F cX6_chance RX6 "chance" 7 0 0 177 := cx
  have L62 : ∀  (f : Nat) (I : (Nat → Nat → Int32)) (J : (Nat → Nat → Int64)) (a2 : Int32) (a3 : Int32) (a4 : Int32) (a5 : Int32) (a6 : Int32), P_X6_chance_62 f I J a2 a3 a4 a5 a6 = some q0 → qc_J F 0 0 62 [some (.ref 0), none, some (.int a2), some (.int a3), some (.int a4), some (.int a5), some (.int a6)] [] (I, J, (rX w, kX, nX, n)) := by
    intro  f
    induction f with
    | zero => intro I J a2 a3 a4 a5 a6 hP; cases hP
    | succ f ih =>
      intro I J a2 a3 a4 a5 a6 hP
      rw [P_X6_chance_62] at hP
      refine qj_iload cx dX6_chance_62 rfl ?_
      refine qj_iload_n cx dX6_chance_64 rfl rfl ?_
      refine qj_icmp_ge (tgt := 118) cx dX6_chance_65 (by decide) (fun c1 => ?_) (fun c1 => ?_)
      · have hP := qc_ifT hP c1
        refine qj_iload_n cx dX6_chance_118 rfl rfl ?_
        refine qj_if_ne (tgt := 133) cx dX6_chance_119 (by decide) (fun c2 => ?_) (fun c2 => ?_)
        · have hP := qc_ifF hP c2
          refine qj_iload_n cx dX6_chance_133 rfl rfl ?_
          refine qj_iconst (v := (1 : Int32)) cx dX6_chance_134 (by decide) ?_
          refine qj_icmp_ne (tgt := 141) cx dX6_chance_135 (by decide) (fun c3 => ?_) (fun c3 => ?_)
          · have hP := qc_ifF hP c3
            refine qj_aload_n cx dX6_chance_141 rfl rfl ?_
            refine qw_getR (j := 6) (t1 := 22) cx dX6_chance_142 qc_cl6 rfl (Nat.lt_of_lt_of_le (by decide) hn) rfl ww_336 rfl ?_
            refine qj_aload_n cx dX6_chance_145 rfl rfl ?_
            refine qw_getR (j := 5) (t1 := 12) cx dX6_chance_146 qc_cl6 rfl (Nat.lt_of_lt_of_le (by decide) hn) rfl ww_335 rfl ?_
            obtain ⟨q4, eq4, hP⟩ := Option.bind_eq_some_iff.mp hP
            refine qj_callV (As := [.ref 12]) (st := []) (t := 22) (h' := (q4.2.1, q4.2.2, (rX w, kX, nX, n))) (r := some (.int q4.1)) cx dX6_chance_149 (c_X2_allClean (I := I) (J := J) hn hn1 (qc_sc12 hn) eq4) gc_RX6_251 qm_X2_allClean rfl rfl qc_cl2 rfl (Nat.lt_of_lt_of_le (by decide) hn) (by decide) (by decide) rfl (Nat.le_of_ble_eq_true rfl) (Nat.le_trans hn1 (by decide)) hn0 rfl ?_
            obtain ⟨v6, hv6, hP⟩ := Option.bind_eq_some_iff.mp hP
            have Kv6 : qc_J F 0 0 160 [some (.ref 0), none, some (.int a2), some (.int a3), some (.int a4), some (.int a5), some (.int a6)] [.int v6] (q4.2.1, q4.2.2, (rX w, kX, nX, n)) := by
              exact qw_iret cx hz dX6_chance_160 (Nat.zero_le _) (Nat.zero_le _) (congrArg (fun q => q.1) (Option.some.inj hP)) (congrArg (fun q => q.2.1) (Option.some.inj hP)) (congrArg (fun q => q.2.2) (Option.some.inj hP))
            refine qj_if_eq (tgt := 159) cx dX6_chance_152 (by decide) (fun c5 => ?_) (fun c5 => ?_)
            · have hv6 := qc_ifT hv6 c5
              refine qj_iconst (v := (0 : Int32)) cx dX6_chance_159 (by decide) ?_
              exact qw_top (Option.some.inj hv6).symm Kv6
            · have hv6 := qc_ifF hv6 c5
              refine qj_iconst (v := (1 : Int32)) cx dX6_chance_155 (by decide) ?_
              refine qj_goto (tgt := 160) cx dX6_chance_156 (by decide) ?_
              exact qw_top (Option.some.inj hv6).symm Kv6
          · have hP := qc_ifT hP c3
            refine qj_iload cx dX6_chance_138 rfl ?_
            exact qw_iret cx hz dX6_chance_140 (Nat.zero_le _) (Nat.zero_le _) (congrArg (fun q => q.1) (Option.some.inj hP)) (congrArg (fun q => q.2.1) (Option.some.inj hP)) (congrArg (fun q => q.2.2) (Option.some.inj hP))
        · have hP := qc_ifT hP c2
          refine qj_aload_n cx dX6_chance_122 rfl rfl ?_
          refine qw_getR (j := 5) (t1 := 12) cx dX6_chance_123 qc_cl6 rfl (Nat.lt_of_lt_of_le (by decide) hn) rfl ww_335 rfl ?_
          obtain ⟨q7, eq7, hP⟩ := Option.bind_eq_some_iff.mp hP
          refine qj_callV (As := []) (st := []) (t := 12) (h' := (I, J, (rX w, kX, nX, n))) (r := some (.int q7)) cx dX6_chance_126 (c_X4_tunedUsers (I := I) (J := J) hn hn1 (qc_sc12 hn) eq7) gc_RX6_144 qm_X4_tunedUsers rfl rfl qc_cl4 rfl (Nat.lt_of_lt_of_le (by decide) hn) (by decide) (by decide) rfl (Nat.le_of_ble_eq_true rfl) (Nat.le_trans hn1 (by decide)) hn0 rfl ?_
          obtain ⟨q8, eq8, hP⟩ := Option.bind_eq_some_iff.mp hP
          refine qj_callS (As := [.int q7]) (st := []) (h' := (I, J, (rX w, kX, nX, n))) (r := some (.int q8)) cx dX6_chance_129 (c_J6_bitCount_0f7a4 (S := (rX w, kX, nX, n)) (I := I) (J := J) eq8) gc_RX6_147 qm_J6_bitCount_0f7a4 rfl (by decide) (by decide) rfl (Nat.le_of_ble_eq_true rfl) (Nat.le_trans hn1 (by decide)) hn0 rfl ?_
          exact qw_iret cx hz dX6_chance_132 (Nat.zero_le _) (Nat.zero_le _) (congrArg (fun q => q.1) (Option.some.inj hP)) (congrArg (fun q => q.2.1) (Option.some.inj hP)) (congrArg (fun q => q.2.2) (Option.some.inj hP))
      · have hP := qc_ifF hP c1
        refine qj_iload cx dX6_chance_68 rfl ?_
        refine qj_ldcw cx dX6_chance_70 ww_959 ?_
        refine qj_imul cx dX6_chance_73 ?_
        refine qj_sipush (v := (12345 : Int32)) cx dX6_chance_74 (by decide) ?_
        refine qj_iadd cx dX6_chance_77 ?_
        refine qj_ldcw cx dX6_chance_78 ww_960 ?_
        refine qj_iand cx dX6_chance_81 ?_
        obtain ⟨x9, ex9, hP⟩ := qc_letE hP
        refine qw_top ex9 ?_
        refine qj_istore (ls1 := [some (.ref 0), none, some (.int a2), some (.int a3), some (.int x9), some (.int a5), some (.int a6)]) cx dX6_chance_82 rfl rfl rfl ?_
        refine qj_iload cx dX6_chance_84 rfl ?_
        refine qj_aload_n cx dX6_chance_86 rfl rfl ?_
        refine qj_iload cx dX6_chance_87 rfl ?_
        refine qj_bipush (v := (16 : Int32)) cx dX6_chance_89 (by decide) ?_
        refine qj_ishr cx dX6_chance_91 ?_
        refine qj_iconst (v := (1 : Int32)) cx dX6_chance_92 (by decide) ?_
        refine qj_aload_n cx dX6_chance_93 rfl rfl ?_
        refine qw_getR (j := 5) (t1 := 12) cx dX6_chance_94 qc_cl6 rfl (Nat.lt_of_lt_of_le (by decide) hn) rfl ww_335 rfl ?_
        refine qw_getI (j := 1) cx dX6_chance_97 qc_cl4 rfl (Nat.lt_of_lt_of_le (by decide) hn) rfl ww_155 ?_
        refine qj_max cx dX6_chance_100 ww_937 ww_630 ww_125 ww_631 (by decide) (Nat.le_of_ble_eq_true rfl) (Nat.zero_le _) (Nat.zero_le _) ?_
        by_cases c10 : (if (1 : Int32) < I 12 1 then I 12 1 else (1 : Int32)) = 0
        · have hP := qc_ifT hP c10; cases hP
        have hP := qc_ifF hP c10
        refine qj_irem cx dX6_chance_103 c10 ?_
        refine qj_iconst (v := (1 : Int32)) cx dX6_chance_104 (by decide) ?_
        refine qj_iadd cx dX6_chance_105 ?_
        obtain ⟨q11, eq11, hP⟩ := Option.bind_eq_some_iff.mp hP
        refine qj_callV (As := [.int (((x9 >>> ((16 : Int32) &&& 31)) - (x9 >>> ((16 : Int32) &&& 31)) / (if (1 : Int32) < I 12 1 then I 12 1 else (1 : Int32)) * (if (1 : Int32) < I 12 1 then I 12 1 else (1 : Int32))) + (1 : Int32))]) (st := [.int a5]) (t := 0) (h' := (q11.2.1, q11.2.2, (rX w, kX, nX, n))) (r := some (.int q11.1)) cx dX6_chance_106 (c_X6_loseOnTrial (I := I) (J := J) hn hn1 eq11) gc_RX6_304 qm_X6_loseOnTrial rfl rfl qc_cl6 rfl (Nat.lt_of_lt_of_le (by decide) hn) (by decide) (by decide) rfl (Nat.le_of_ble_eq_true rfl) (Nat.le_trans hn1 (by decide)) hn0 rfl ?_
        refine qj_iadd cx dX6_chance_109 ?_
        obtain ⟨x12, ex12, hP⟩ := qc_letE hP
        refine qw_top ex12 ?_
        refine qj_istore (ls1 := [some (.ref 0), none, some (.int a2), some (.int a3), some (.int x9), some (.int x12), some (.int a6)]) cx dX6_chance_110 rfl rfl rfl ?_
        obtain ⟨x13, ex13, hP⟩ := qc_letE hP
        refine qj_iinc (v := x13) (ls1 := [some (.ref 0), none, some (.int a2), some (.int a3), some (.int x9), some (.int x12), some (.int x13)]) cx dX6_chance_112 rfl (by rw [ex13]; rfl) rfl rfl ?_
        refine qj_goto (tgt := 62) cx dX6_chance_115 (by decide) ?_
        exact ih q11.2.1 q11.2.2 a2 a3 x9 x12 x13 hP
  show qc_J F 0 0 0 [some (.ref 0), some (.int a), some (.int b), some (.int c), none, none, none] [] (I, J, (rX w, kX, nX, n))
  unfold P_X6_chance at hP
  refine qj_iload_n cx dX6_chance_0 rfl rfl ?_
  refine qj_iconst (v := (-1 : Int32)) cx dX6_chance_1 (by decide) ?_
  refine qj_icmp_lt (tgt := 25) cx dX6_chance_2 (by decide) (fun c14 => ?_) (fun c14 => ?_)
  · have hP := qc_ifT hP c14
    refine qj_iconst (v := (-1 : Int32)) cx dX6_chance_25 (by decide) ?_
    exact qw_iret cx hz dX6_chance_26 (Nat.zero_le _) (Nat.zero_le _) (congrArg (fun q => q.1) (Option.some.inj hP)) (congrArg (fun q => q.2.1) (Option.some.inj hP)) (congrArg (fun q => q.2.2) (Option.some.inj hP))
  · have hP := qc_ifF hP c14
    refine qj_iload_n cx dX6_chance_5 rfl rfl ?_
    refine qj_iconst (v := (1 : Int32)) cx dX6_chance_6 (by decide) ?_
    refine qj_icmp_lt (tgt := 25) cx dX6_chance_7 (by decide) (fun c15 => ?_) (fun c15 => ?_)
    · have hP := qc_ifT hP c15
      refine qj_iconst (v := (-1 : Int32)) cx dX6_chance_25 (by decide) ?_
      exact qw_iret cx hz dX6_chance_26 (Nat.zero_le _) (Nat.zero_le _) (congrArg (fun q => q.1) (Option.some.inj hP)) (congrArg (fun q => q.2.1) (Option.some.inj hP)) (congrArg (fun q => q.2.2) (Option.some.inj hP))
    · have hP := qc_ifF hP c15
      refine qj_iload_n cx dX6_chance_10 rfl rfl ?_
      refine qj_bipush (v := (20 : Int32)) cx dX6_chance_11 (by decide) ?_
      refine qj_icmp_gt (tgt := 25) cx dX6_chance_13 (by decide) (fun c16 => ?_) (fun c16 => ?_)
      · have hP := qc_ifT hP c16
        refine qj_iconst (v := (-1 : Int32)) cx dX6_chance_25 (by decide) ?_
        exact qw_iret cx hz dX6_chance_26 (Nat.zero_le _) (Nat.zero_le _) (congrArg (fun q => q.1) (Option.some.inj hP)) (congrArg (fun q => q.2.1) (Option.some.inj hP)) (congrArg (fun q => q.2.2) (Option.some.inj hP))
      · have hP := qc_ifF hP c16
        refine qj_iload_n cx dX6_chance_16 rfl rfl ?_
        refine qj_if_lt (tgt := 25) cx dX6_chance_17 (by decide) (fun c17 => ?_) (fun c17 => ?_)
        · have hP := qc_ifT hP c17
          refine qj_iconst (v := (-1 : Int32)) cx dX6_chance_25 (by decide) ?_
          exact qw_iret cx hz dX6_chance_26 (Nat.zero_le _) (Nat.zero_le _) (congrArg (fun q => q.1) (Option.some.inj hP)) (congrArg (fun q => q.2.1) (Option.some.inj hP)) (congrArg (fun q => q.2.2) (Option.some.inj hP))
        · have hP := qc_ifF hP c17
          refine qj_iload_n cx dX6_chance_20 rfl rfl ?_
          refine qj_iconst (v := (2 : Int32)) cx dX6_chance_21 (by decide) ?_
          refine qj_icmp_le (tgt := 27) cx dX6_chance_22 (by decide) (fun c18 => ?_) (fun c18 => ?_)
          · have hP := qc_ifT hP c18
            refine qj_aload_n cx dX6_chance_27 rfl rfl ?_
            refine qw_getR (j := 5) (t1 := 12) cx dX6_chance_28 qc_cl6 rfl (Nat.lt_of_lt_of_le (by decide) hn) rfl ww_335 rfl ?_
            refine qj_aload_n cx dX6_chance_31 rfl rfl ?_
            refine qw_getR (j := 4) (t1 := 2) cx dX6_chance_32 qc_cl6 rfl (Nat.lt_of_lt_of_le (by decide) hn) rfl ww_334 rfl ?_
            obtain ⟨q19, eq19, hP⟩ := Option.bind_eq_some_iff.mp hP
            refine qj_callV (As := [.ref 2]) (st := []) (t := 12) (h' := (q19.1, q19.2, (rX w, kX, nX, n))) (r := none) cx dX6_chance_35 (c_X4_copyFrom (I := I) (J := J) hn hn1 (qc_sc12 hn) (qc_sc2 hn) eq19) gc_RX6_248 qm_X4_copyFrom rfl rfl qc_cl4 rfl (Nat.lt_of_lt_of_le (by decide) hn) (by decide) (by decide) rfl (Nat.le_of_ble_eq_true rfl) (Nat.le_trans hn1 (by decide)) hn0 rfl ?_
            refine qj_iload_n cx dX6_chance_38 rfl rfl ?_
            refine qj_iconst (v := (-1 : Int32)) cx dX6_chance_39 (by decide) ?_
            obtain ⟨v21, hv21, hP⟩ := Option.bind_eq_some_iff.mp hP
            have Kv21 : qc_J F 0 0 54 [some (.ref 0), some (.int a), some (.int b), some (.int c), none, none, none] [.int v21] (q19.1, q19.2, (rX w, kX, nX, n)) := by
              refine qj_istore (ls1 := [some (.ref 0), some (.int a), some (.int b), some (.int c), some (.int v21), none, none]) cx dX6_chance_54 rfl rfl rfl ?_
              refine qj_iconst (v := (0 : Int32)) cx dX6_chance_56 (by decide) ?_
              refine qj_istore (ls1 := [some (.ref 0), some (.int a), some (.int b), some (.int c), some (.int v21), some (.int (0 : Int32)), none]) cx dX6_chance_57 rfl rfl rfl ?_
              refine qj_iconst (v := (0 : Int32)) cx dX6_chance_59 (by decide) ?_
              refine qj_istore (ls1 := [some (.ref 0), some (.int a), some (.int b), some (.int c), some (.int v21), some (.int (0 : Int32)), some (.int (0 : Int32))]) cx dX6_chance_60 rfl rfl rfl ?_
              refine qw_sub (ls1 := [some (.ref 0), none, some (.int b), some (.int c), some (.int v21), some (.int (0 : Int32)), some (.int (0 : Int32))]) rfl (qc_sb_ok ⟨rfl, rfl, rfl, rfl, rfl, rfl, trivial⟩) ?_
              exact L62 qc_fu q19.1 q19.2 b c v21 (0 : Int32) (0 : Int32) hP
            refine qj_icmp_ne (tgt := 53) cx dX6_chance_40 (by decide) (fun c20 => ?_) (fun c20 => ?_)
            · have hv21 := qc_ifF hv21 c20
              refine qj_iload_n cx dX6_chance_53 rfl rfl ?_
              exact qw_top (Option.some.inj hv21).symm Kv21
            · have hv21 := qc_ifT hv21 c20
              refine qj_aload_n cx dX6_chance_43 rfl rfl ?_
              refine qw_getR (j := 4) (t1 := 2) cx dX6_chance_44 qc_cl6 rfl (Nat.lt_of_lt_of_le (by decide) hn) rfl ww_334 rfl ?_
              refine qw_getI (j := 5) cx dX6_chance_47 qc_cl4 rfl (Nat.lt_of_lt_of_le (by decide) hn) rfl ww_168 ?_
              refine qj_goto (tgt := 54) cx dX6_chance_50 (by decide) ?_
              exact qw_top (Option.some.inj hv21).symm Kv21
          · have hP := qc_ifF hP c18
            refine qj_iconst (v := (-1 : Int32)) cx dX6_chance_25 (by decide) ?_
            exact qw_iret cx hz dX6_chance_26 (Nat.zero_le _) (Nat.zero_le _) (congrArg (fun q => q.1) (Option.some.inj hP)) (congrArg (fun q => q.2.1) (Option.some.inj hP)) (congrArg (fun q => q.2.2) (Option.some.inj hP))
