theorem gc_RX6_171 : qc_cV RX6 171 RX4 yX4_isRight := ⟨ww_1041, ww_606, ww_607, ww_113⟩
def P_X6_user (I : Nat → Nat → Int32) (J : Nat → Nat → Int64) (a : Int32) (b : Int32) : Option (Int32) :=
  (P_X4_isUser I 2 a).bind fun q1 =>
  if q1 = 0 then
  none
  else
  if b = (0 : Int32) then
  (if qc_in a 8 then
  some (I 6 a.toNatClampNeg)
  else none)
  else if b = (1 : Int32) then
  (if qc_in a 8 then
  some (I 10 a.toNatClampNeg)
  else none)
  else if b = (2 : Int32) then
  (if qc_in a 8 then
  some (I 7 a.toNatClampNeg)
  else none)
  else if b = (3 : Int32) then
  (if qc_in a 8 then
  some (I 8 a.toNatClampNeg)
  else none)
  else if b = (4 : Int32) then
  (if qc_in a 8 then
  some (I 9 a.toNatClampNeg)
  else none)
  else if b = (5 : Int32) then
  (P_X4_isRight I J 2 a).bind fun q14 =>
  (if q14 = 0 then
  some (0 : Int32)
  else
  some (1 : Int32)).bind fun v16 =>
  some v16
  else if b = (6 : Int32) then
  (if qc_in a 8 then
  some (I 11 a.toNatClampNeg)
  else none)
  else 
  none
set_option maxRecDepth 20000 in
theorem c_X6_user {I : Nat → Nat → Int32} {J : Nat → Nat → Int64} {w : Nat → Nat} {n : Nat} (hn : 121 ≤ n) (hn1 : n ≤ 200) {a : Int32} {b : Int32} {q0 : Int32} (hP : P_X6_user I J a b = some q0) : ∀ l, qc_M l yX6_user cX6_user 3 (some .int) 2 43 0 0 [.ref 0, .int a, .int b] (I, J, (rX w, kX, nX, n)) (some (.int q0)) (I, J, (rX w, kX, nX, n)) := by
  intro l
  refine qc_ent2 (by decide) (Nat.le_of_ble_eq_true rfl) ?_
  intro F hn0 cx hz
  have cx : qc_X F cX6_user RX6 "user" 2 0 0 43 := cx
  show qc_J F 0 0 0 [some (.ref 0), some (.int a), some (.int b)] [] (I, J, (rX w, kX, nX, n))
  unfold P_X6_user at hP
  refine qj_aload_n cx dX6_user_0 rfl rfl ?_
  refine qw_getR (j := 4) (t1 := 2) cx dX6_user_1 qc_cl6 rfl (Nat.lt_of_lt_of_le (by decide) hn) rfl ww_334 rfl ?_
  refine qj_iload_n cx dX6_user_4 rfl rfl ?_
  obtain ⟨q1, eq1, hP⟩ := Option.bind_eq_some_iff.mp hP
  refine qj_callV (As := [.int a]) (st := []) (t := 2) (h' := (I, J, (rX w, kX, nX, n))) (r := some (.int q1)) cx dX6_user_5 (c_X4_isUser (I := I) (J := J) (w := w) hn hn1 (qc_sc2 hn) eq1) gc_RX6_94 qm_X4_isUser rfl rfl qc_cl4 rfl (Nat.lt_of_lt_of_le (by decide) hn) (by decide) (by decide) rfl (Nat.le_of_ble_eq_true rfl) (Nat.le_trans hn1 (by decide)) hn0 rfl ?_
  refine qj_if_ne (tgt := 21) cx dX6_user_8 (by decide) (fun c2 => ?_) (fun c2 => ?_)
  · have hP := qc_ifF hP c2
    refine qj_iload_n cx dX6_user_21 rfl rfl ?_
    by_cases c3 : b = (0 : Int32)
    · have hP := qc_ifT hP c3
      refine qj_tableIn (off := 42) (tgt := 64) cx dX6_user_22 (by rw [c3]; decide) (by rw [c3]; decide) (by rw [c3]; rfl) (by decide) ?_
      refine qj_aload_n cx dX6_user_64 rfl rfl ?_
      refine qw_getR (j := 4) (t1 := 2) cx dX6_user_65 qc_cl6 rfl (Nat.lt_of_lt_of_le (by decide) hn) rfl ww_334 rfl ?_
      refine qw_getR (j := 10) (t1 := 6) cx dX6_user_68 qc_cl4 rfl (Nat.lt_of_lt_of_le (by decide) hn) rfl ww_185 rfl ?_
      refine qj_iload_n cx dX6_user_71 rfl rfl ?_
      obtain ⟨c4, hP⟩ := qc_ck hP
      refine qw_iald (n1 := 8) cx dX6_user_72 rfl (Nat.lt_of_lt_of_le (by decide) hn) rfl c4 ?_
      exact qw_iret cx hz dX6_user_73 (Nat.zero_le _) (Nat.zero_le _) (Option.some.inj hP) rfl rfl
    have hP := qc_ifF hP c3
    by_cases c5 : b = (1 : Int32)
    · have hP := qc_ifT hP c5
      refine qj_tableIn (off := 52) (tgt := 74) cx dX6_user_22 (by rw [c5]; decide) (by rw [c5]; decide) (by rw [c5]; rfl) (by decide) ?_
      refine qj_aload_n cx dX6_user_74 rfl rfl ?_
      refine qw_getR (j := 4) (t1 := 2) cx dX6_user_75 qc_cl6 rfl (Nat.lt_of_lt_of_le (by decide) hn) rfl ww_334 rfl ?_
      refine qw_getR (j := 14) (t1 := 10) cx dX6_user_78 qc_cl4 rfl (Nat.lt_of_lt_of_le (by decide) hn) rfl ww_204 rfl ?_
      refine qj_iload_n cx dX6_user_81 rfl rfl ?_
      obtain ⟨c6, hP⟩ := qc_ck hP
      refine qw_iald (n1 := 8) cx dX6_user_82 rfl (Nat.lt_of_lt_of_le (by decide) hn) rfl c6 ?_
      exact qw_iret cx hz dX6_user_83 (Nat.zero_le _) (Nat.zero_le _) (Option.some.inj hP) rfl rfl
    have hP := qc_ifF hP c5
    by_cases c7 : b = (2 : Int32)
    · have hP := qc_ifT hP c7
      refine qj_tableIn (off := 62) (tgt := 84) cx dX6_user_22 (by rw [c7]; decide) (by rw [c7]; decide) (by rw [c7]; rfl) (by decide) ?_
      refine qj_aload_n cx dX6_user_84 rfl rfl ?_
      refine qw_getR (j := 4) (t1 := 2) cx dX6_user_85 qc_cl6 rfl (Nat.lt_of_lt_of_le (by decide) hn) rfl ww_334 rfl ?_
      refine qw_getR (j := 11) (t1 := 7) cx dX6_user_88 qc_cl4 rfl (Nat.lt_of_lt_of_le (by decide) hn) rfl ww_189 rfl ?_
      refine qj_iload_n cx dX6_user_91 rfl rfl ?_
      obtain ⟨c8, hP⟩ := qc_ck hP
      refine qw_iald (n1 := 8) cx dX6_user_92 rfl (Nat.lt_of_lt_of_le (by decide) hn) rfl c8 ?_
      exact qw_iret cx hz dX6_user_93 (Nat.zero_le _) (Nat.zero_le _) (Option.some.inj hP) rfl rfl
    have hP := qc_ifF hP c7
    by_cases c9 : b = (3 : Int32)
    · have hP := qc_ifT hP c9
      refine qj_tableIn (off := 72) (tgt := 94) cx dX6_user_22 (by rw [c9]; decide) (by rw [c9]; decide) (by rw [c9]; rfl) (by decide) ?_
      refine qj_aload_n cx dX6_user_94 rfl rfl ?_
      refine qw_getR (j := 4) (t1 := 2) cx dX6_user_95 qc_cl6 rfl (Nat.lt_of_lt_of_le (by decide) hn) rfl ww_334 rfl ?_
      refine qw_getR (j := 12) (t1 := 8) cx dX6_user_98 qc_cl4 rfl (Nat.lt_of_lt_of_le (by decide) hn) rfl ww_193 rfl ?_
      refine qj_iload_n cx dX6_user_101 rfl rfl ?_
      obtain ⟨c10, hP⟩ := qc_ck hP
      refine qw_iald (n1 := 8) cx dX6_user_102 rfl (Nat.lt_of_lt_of_le (by decide) hn) rfl c10 ?_
      exact qw_iret cx hz dX6_user_103 (Nat.zero_le _) (Nat.zero_le _) (Option.some.inj hP) rfl rfl
    have hP := qc_ifF hP c9
    by_cases c11 : b = (4 : Int32)
    · have hP := qc_ifT hP c11
      refine qj_tableIn (off := 82) (tgt := 104) cx dX6_user_22 (by rw [c11]; decide) (by rw [c11]; decide) (by rw [c11]; rfl) (by decide) ?_
      refine qj_aload_n cx dX6_user_104 rfl rfl ?_
      refine qw_getR (j := 4) (t1 := 2) cx dX6_user_105 qc_cl6 rfl (Nat.lt_of_lt_of_le (by decide) hn) rfl ww_334 rfl ?_
      refine qw_getR (j := 13) (t1 := 9) cx dX6_user_108 qc_cl4 rfl (Nat.lt_of_lt_of_le (by decide) hn) rfl ww_198 rfl ?_
      refine qj_iload_n cx dX6_user_111 rfl rfl ?_
      obtain ⟨c12, hP⟩ := qc_ck hP
      refine qw_iald (n1 := 8) cx dX6_user_112 rfl (Nat.lt_of_lt_of_le (by decide) hn) rfl c12 ?_
      exact qw_iret cx hz dX6_user_113 (Nat.zero_le _) (Nat.zero_le _) (Option.some.inj hP) rfl rfl
    have hP := qc_ifF hP c11
    by_cases c13 : b = (5 : Int32)
    · have hP := qc_ifT hP c13
      refine qj_tableIn (off := 92) (tgt := 114) cx dX6_user_22 (by rw [c13]; decide) (by rw [c13]; decide) (by rw [c13]; rfl) (by decide) ?_
      refine qj_aload_n cx dX6_user_114 rfl rfl ?_
      refine qw_getR (j := 4) (t1 := 2) cx dX6_user_115 qc_cl6 rfl (Nat.lt_of_lt_of_le (by decide) hn) rfl ww_334 rfl ?_
      refine qj_iload_n cx dX6_user_118 rfl rfl ?_
      obtain ⟨q14, eq14, hP⟩ := Option.bind_eq_some_iff.mp hP
      refine qj_callV (As := [.int a]) (st := []) (t := 2) (h' := (I, J, (rX w, kX, nX, n))) (r := some (.int q14)) cx dX6_user_119 (c_X4_isRight (I := I) (J := J) (w := w) hn hn1 (qc_sc2 hn) eq14) gc_RX6_171 qm_X4_isRight rfl rfl qc_cl4 rfl (Nat.lt_of_lt_of_le (by decide) hn) (by decide) (by decide) rfl (Nat.le_of_ble_eq_true rfl) (Nat.le_trans hn1 (by decide)) hn0 rfl ?_
      obtain ⟨v16, hv16, hP⟩ := Option.bind_eq_some_iff.mp hP
      have Kv16 : qc_J F 0 0 130 [some (.ref 0), some (.int a), some (.int b)] [.int v16] (I, J, (rX w, kX, nX, n)) := by
        exact qw_iret cx hz dX6_user_130 (Nat.zero_le _) (Nat.zero_le _) (Option.some.inj hP) rfl rfl
      refine qj_if_eq (tgt := 129) cx dX6_user_122 (by decide) (fun c15 => ?_) (fun c15 => ?_)
      · have hv16 := qc_ifT hv16 c15
        refine qj_iconst (v := (0 : Int32)) cx dX6_user_129 (by decide) ?_
        exact qw_top (Option.some.inj hv16).symm Kv16
      · have hv16 := qc_ifF hv16 c15
        refine qj_iconst (v := (1 : Int32)) cx dX6_user_125 (by decide) ?_
        refine qj_goto (tgt := 130) cx dX6_user_126 (by decide) ?_
        exact qw_top (Option.some.inj hv16).symm Kv16
    have hP := qc_ifF hP c13
    by_cases c17 : b = (6 : Int32)
    · have hP := qc_ifT hP c17
      refine qj_tableIn (off := 109) (tgt := 131) cx dX6_user_22 (by rw [c17]; decide) (by rw [c17]; decide) (by rw [c17]; rfl) (by decide) ?_
      refine qj_aload_n cx dX6_user_131 rfl rfl ?_
      refine qw_getR (j := 4) (t1 := 2) cx dX6_user_132 qc_cl6 rfl (Nat.lt_of_lt_of_le (by decide) hn) rfl ww_334 rfl ?_
      refine qw_getR (j := 15) (t1 := 11) cx dX6_user_135 qc_cl4 rfl (Nat.lt_of_lt_of_le (by decide) hn) rfl ww_209 rfl ?_
      refine qj_iload_n cx dX6_user_138 rfl rfl ?_
      obtain ⟨c18, hP⟩ := qc_ck hP
      refine qw_iald (n1 := 8) cx dX6_user_139 rfl (Nat.lt_of_lt_of_le (by decide) hn) rfl c18 ?_
      exact qw_iret cx hz dX6_user_140 (Nat.zero_le _) (Nat.zero_le _) (Option.some.inj hP) rfl rfl
    have hP := qc_ifF hP c17
    refine qj_tableOut (tgt := 141) cx dX6_user_22 (by have := lv_neT (a := 0) c3 (by decide); have := lv_neT (a := 1) c5 (by decide); have := lv_neT (a := 2) c7 (by decide); have := lv_neT (a := 3) c9 (by decide); have := lv_neT (a := 4) c11 (by decide); have := lv_neT (a := 5) c13 (by decide); have := lv_neT (a := 6) c17 (by decide); omega) (by decide) ?_
    cases hP
  · have hP := qc_ifT hP c2
    cases hP
