def P_X4_nearestOfSite_82 (I : Nat → Nat → Int32) (p : Nat) (k8 : Int32 → Int32 → Int32 → Int32 → Option (Int32)) (a1 : Int32) (a2 : Int32) (a3 : Int32) (a4 : Int32) : Option (Int32) :=
  qc_let (a4 + (1 : Int32)) fun x1 =>
  k8 a1 a2 a3 x1
def P_X4_nearestOfSite_76 (I : Nat → Nat → Int32) (p : Nat) (k8 : Int32 → Int32 → Int32 → Int32 → Option (Int32)) (a1 : Int32) (a4 : Int32) (a5 : Int32) : Option (Int32) :=
  P_X4_nearestOfSite_82 I p k8 a1 a4 a5 a4
def P_X4_nearestOfSite_8 (I : Nat → Nat → Int32) (p : Nat) : Nat → Int32 → Int32 → Int32 → Int32 → Option (Int32)
  | 0, _, _, _, _ => none
  | f + 1, a1, a2, a3, a4 =>
  if I p 0 ≤ a4 then
  some a2
  else
  if qc_in a1 8 then
  if I (p + 1 + 6) a1.toNatClampNeg ≤ 0 then
  some a2
  else
  if a4 = a1 then
  P_X4_nearestOfSite_82 I p (P_X4_nearestOfSite_8 I p f) a1 a2 a3 a4
  else
  if qc_in a1 8 then
  (P_X4_isTunedAt I p a4 (I (p + 1 + 3) a1.toNatClampNeg)).bind fun q7 =>
  if q7 = 0 then
  P_X4_nearestOfSite_82 I p (P_X4_nearestOfSite_8 I p f) a1 a2 a3 a4
  else
  if qc_in a1 8 then
  if qc_in a4 8 then
  qc_let (if 0 ≤ (I (p + 1 + 6) a1.toNatClampNeg) - (I (p + 1 + 6) a4.toNatClampNeg) then ((I (p + 1 + 6) a1.toNatClampNeg) - (I (p + 1 + 6) a4.toNatClampNeg)) else 0 - ((I (p + 1 + 6) a1.toNatClampNeg) - (I (p + 1 + 6) a4.toNatClampNeg))) fun x11 =>
  if a2 < 0 then
  P_X4_nearestOfSite_76 I p (P_X4_nearestOfSite_8 I p f) a1 a4 x11
  else
  if a3 ≤ x11 then
  P_X4_nearestOfSite_82 I p (P_X4_nearestOfSite_8 I p f) a1 a2 a3 a4
  else
  P_X4_nearestOfSite_76 I p (P_X4_nearestOfSite_8 I p f) a1 a4 x11
  else none
  else none
  else none
  else none
def P_X4_nearestOfSite (I : Nat → Nat → Int32) (p : Nat) (a : Int32) : Option (Int32) :=
  P_X4_nearestOfSite_8 I p qc_fu a (-2 : Int32) (0 : Int32) (0 : Int32)
set_option maxRecDepth 20000 in
theorem c_X4_nearestOfSite {I : Nat → Nat → Int32} {J : Nat → Nat → Int64} {w : Nat → Nat} {n : Nat} (hn : 121 ≤ n) (hn1 : n ≤ 200) {p : Nat} (hp : qc_sc n p) {a : Int32} {q0 : Int32} (hP : P_X4_nearestOfSite I p a = some q0) : ∀ l, qc_M l yX4_nearestOfSite cX4_nearestOfSite 6 (some .int) 1 22 0 0 [.ref p, .int a] (I, J, (rX w, kX, nX, n)) (some (.int q0)) (I, J, (rX w, kX, nX, n)) := by
  intro l
  refine qc_ent2 (by decide) (Nat.le_of_ble_eq_true rfl) ?_
  intro F hn0 cx hz
  have cx : qc_X F cX4_nearestOfSite RX4 "nearestOfSite" 1 0 0 22 := cx
  have L82 : ∀ (k8 : Int32 → Int32 → Int32 → Int32 → Option (Int32)) (g8 : ∀ (a1 : Int32) (a2 : Int32) (a3 : Int32) (a4 : Int32), k8 a1 a2 a3 a4 = some q0 → qc_J F 0 0 8 [some (.ref p), some (.int a1), some (.int a2), some (.int a3), some (.int a4), none] [] (I, J, (rX w, kX, nX, n))) (a1 : Int32) (a2 : Int32) (a3 : Int32) (a4 : Int32), P_X4_nearestOfSite_82 I p k8 a1 a2 a3 a4 = some q0 → qc_J F 0 0 82 [some (.ref p), some (.int a1), some (.int a2), some (.int a3), some (.int a4), none] [] (I, J, (rX w, kX, nX, n)) := by
    intro k8 g8 a1 a2 a3 a4 hP
    unfold P_X4_nearestOfSite_82 at hP
    obtain ⟨x1, ex1, hP⟩ := qc_letE hP
    refine qj_iinc (v := x1) (ls1 := [some (.ref p), some (.int a1), some (.int a2), some (.int a3), some (.int x1), none]) cx dX4_nearestOfSite_82 rfl (by rw [ex1]; rfl) rfl rfl ?_
    refine qj_goto (tgt := 8) cx dX4_nearestOfSite_85 (by decide) ?_
    exact g8 a1 a2 a3 x1 hP
  have L76 : ∀ (k8 : Int32 → Int32 → Int32 → Int32 → Option (Int32)) (g8 : ∀ (a1 : Int32) (a2 : Int32) (a3 : Int32) (a4 : Int32), k8 a1 a2 a3 a4 = some q0 → qc_J F 0 0 8 [some (.ref p), some (.int a1), some (.int a2), some (.int a3), some (.int a4), none] [] (I, J, (rX w, kX, nX, n))) (a1 : Int32) (a4 : Int32) (a5 : Int32), P_X4_nearestOfSite_76 I p k8 a1 a4 a5 = some q0 → qc_J F 0 0 76 [some (.ref p), some (.int a1), none, none, some (.int a4), some (.int a5)] [] (I, J, (rX w, kX, nX, n)) := by
    intro k8 g8 a1 a4 a5 hP
    unfold P_X4_nearestOfSite_76 at hP
    refine qj_iload cx dX4_nearestOfSite_76 rfl ?_
    refine qj_istore_n (ls1 := [some (.ref p), some (.int a1), some (.int a4), none, some (.int a4), some (.int a5)]) cx dX4_nearestOfSite_78 rfl rfl rfl rfl ?_
    refine qj_iload cx dX4_nearestOfSite_79 rfl ?_
    refine qj_istore_n (ls1 := [some (.ref p), some (.int a1), some (.int a4), some (.int a5), some (.int a4), some (.int a5)]) cx dX4_nearestOfSite_81 rfl rfl rfl rfl ?_
    refine qw_sub (ls1 := [some (.ref p), some (.int a1), some (.int a4), some (.int a5), some (.int a4), none]) rfl (qc_sb_ok ⟨rfl, rfl, rfl, rfl, rfl, trivial⟩) ?_
    exact L82 k8 g8 a1 a4 a5 a4 hP
  have L8 : ∀  (f : Nat) (a1 : Int32) (a2 : Int32) (a3 : Int32) (a4 : Int32), P_X4_nearestOfSite_8 I p f a1 a2 a3 a4 = some q0 → qc_J F 0 0 8 [some (.ref p), some (.int a1), some (.int a2), some (.int a3), some (.int a4), none] [] (I, J, (rX w, kX, nX, n)) := by
    intro  f
    induction f with
    | zero => intro a1 a2 a3 a4 hP; cases hP
    | succ f ih =>
      intro a1 a2 a3 a4 hP
      rw [P_X4_nearestOfSite_8] at hP
      refine qj_iload cx dX4_nearestOfSite_8 rfl ?_
      refine qj_aload_n cx dX4_nearestOfSite_10 rfl rfl ?_
      refine qw_getI (j := 0) cx dX4_nearestOfSite_11 qc_cl4 hp.2.1 (qc_ltp0 hp.1) rfl ww_147 ?_
      refine qj_icmp_ge (tgt := 88) cx dX4_nearestOfSite_14 (by decide) (fun c2 => ?_) (fun c2 => ?_)
      · have hP := qc_ifT hP c2
        refine qj_iload_n cx dX4_nearestOfSite_88 rfl rfl ?_
        exact qw_iret cx hz dX4_nearestOfSite_89 (Nat.zero_le _) (Nat.zero_le _) (Option.some.inj hP) rfl rfl
      · have hP := qc_ifF hP c2
        refine qj_aload_n cx dX4_nearestOfSite_17 rfl rfl ?_
        refine qw_getR (j := 13) (t1 := (p + 1 + 6)) cx dX4_nearestOfSite_18 qc_cl4 hp.2.1 (qc_ltp0 hp.1) rfl ww_194 ((hp.2.2 6 (by decide)).2.2 _) ?_
        refine qj_iload_n cx dX4_nearestOfSite_21 rfl rfl ?_
        obtain ⟨c3, hP⟩ := qc_ck hP
        refine qw_iald (n1 := 8) cx dX4_nearestOfSite_22 (hp.2.2 6 (by decide)).1 (qc_ltp hp.1 (by decide)) (hp.2.2 6 (by decide)).2.1 c3 ?_
        refine qj_if_le (tgt := 88) cx dX4_nearestOfSite_23 (by decide) (fun c4 => ?_) (fun c4 => ?_)
        · have hP := qc_ifT hP c4
          refine qj_iload_n cx dX4_nearestOfSite_88 rfl rfl ?_
          exact qw_iret cx hz dX4_nearestOfSite_89 (Nat.zero_le _) (Nat.zero_le _) (Option.some.inj hP) rfl rfl
        · have hP := qc_ifF hP c4
          refine qj_iload cx dX4_nearestOfSite_26 rfl ?_
          refine qj_iload_n cx dX4_nearestOfSite_28 rfl rfl ?_
          refine qj_icmp_eq (tgt := 82) cx dX4_nearestOfSite_29 (by decide) (fun c5 => ?_) (fun c5 => ?_)
          · have hP := qc_ifT hP c5
            exact L82 (P_X4_nearestOfSite_8 I p f) ih a1 a2 a3 a4 hP
          · have hP := qc_ifF hP c5
            refine qj_aload_n cx dX4_nearestOfSite_32 rfl rfl ?_
            refine qj_iload cx dX4_nearestOfSite_33 rfl ?_
            refine qj_aload_n cx dX4_nearestOfSite_35 rfl rfl ?_
            refine qw_getR (j := 10) (t1 := (p + 1 + 3)) cx dX4_nearestOfSite_36 qc_cl4 hp.2.1 (qc_ltp0 hp.1) rfl ww_182 ((hp.2.2 3 (by decide)).2.2 _) ?_
            refine qj_iload_n cx dX4_nearestOfSite_39 rfl rfl ?_
            obtain ⟨c6, hP⟩ := qc_ck hP
            refine qw_iald (n1 := 8) cx dX4_nearestOfSite_40 (hp.2.2 3 (by decide)).1 (qc_ltp hp.1 (by decide)) (hp.2.2 3 (by decide)).2.1 c6 ?_
            obtain ⟨q7, eq7, hP⟩ := Option.bind_eq_some_iff.mp hP
            refine qj_callV (As := [.int a4, .int (I (p + 1 + 3) a1.toNatClampNeg)]) (st := []) (t := p) (h' := (I, J, (rX w, kX, nX, n))) (r := some (.int q7)) cx dX4_nearestOfSite_41 (c_X4_isTunedAt (I := I) (J := J) (w := w) hn hn1 hp eq7) gc_RX4_103 qm_X4_isTunedAt rfl rfl qc_cl4 hp.2.1 (qc_ltp0 hp.1) (by decide) (by decide) rfl (Nat.le_of_ble_eq_true rfl) (Nat.le_trans hn1 (by decide)) hn0 rfl ?_
            refine qj_if_eq (tgt := 82) cx dX4_nearestOfSite_44 (by decide) (fun c8 => ?_) (fun c8 => ?_)
            · have hP := qc_ifT hP c8
              exact L82 (P_X4_nearestOfSite_8 I p f) ih a1 a2 a3 a4 hP
            · have hP := qc_ifF hP c8
              refine qj_aload_n cx dX4_nearestOfSite_47 rfl rfl ?_
              refine qw_getR (j := 13) (t1 := (p + 1 + 6)) cx dX4_nearestOfSite_48 qc_cl4 hp.2.1 (qc_ltp0 hp.1) rfl ww_194 ((hp.2.2 6 (by decide)).2.2 _) ?_
              refine qj_iload_n cx dX4_nearestOfSite_51 rfl rfl ?_
              obtain ⟨c9, hP⟩ := qc_ck hP
              refine qw_iald (n1 := 8) cx dX4_nearestOfSite_52 (hp.2.2 6 (by decide)).1 (qc_ltp hp.1 (by decide)) (hp.2.2 6 (by decide)).2.1 c9 ?_
              refine qj_aload_n cx dX4_nearestOfSite_53 rfl rfl ?_
              refine qw_getR (j := 13) (t1 := (p + 1 + 6)) cx dX4_nearestOfSite_54 qc_cl4 hp.2.1 (qc_ltp0 hp.1) rfl ww_194 ((hp.2.2 6 (by decide)).2.2 _) ?_
              refine qj_iload cx dX4_nearestOfSite_57 rfl ?_
              obtain ⟨c10, hP⟩ := qc_ck hP
              refine qw_iald (n1 := 8) cx dX4_nearestOfSite_59 (hp.2.2 6 (by decide)).1 (qc_ltp hp.1 (by decide)) (hp.2.2 6 (by decide)).2.1 c10 ?_
              refine qj_isub cx dX4_nearestOfSite_60 ?_
              refine qj_abs (y := 0) cx dX4_nearestOfSite_61 ww_618 ww_619 ww_125 ww_620 (by decide) (Nat.le_of_ble_eq_true rfl) (Nat.zero_le _) (Nat.zero_le _) ?_
              obtain ⟨x11, ex11, hP⟩ := qc_letE hP
              refine qw_top ex11 ?_
              refine qj_istore (ls1 := [some (.ref p), some (.int a1), some (.int a2), some (.int a3), some (.int a4), some (.int x11)]) cx dX4_nearestOfSite_64 rfl rfl rfl ?_
              refine qj_iload_n cx dX4_nearestOfSite_66 rfl rfl ?_
              refine qj_if_lt (tgt := 76) cx dX4_nearestOfSite_67 (by decide) (fun c12 => ?_) (fun c12 => ?_)
              · have hP := qc_ifT hP c12
                refine qw_sub (ls1 := [some (.ref p), some (.int a1), none, none, some (.int a4), some (.int x11)]) rfl (qc_sb_ok ⟨rfl, rfl, rfl, rfl, trivial⟩) ?_
                exact L76 (P_X4_nearestOfSite_8 I p f) ih a1 a4 x11 hP
              · have hP := qc_ifF hP c12
                refine qj_iload cx dX4_nearestOfSite_70 rfl ?_
                refine qj_iload_n cx dX4_nearestOfSite_72 rfl rfl ?_
                refine qj_icmp_ge (tgt := 82) cx dX4_nearestOfSite_73 (by decide) (fun c13 => ?_) (fun c13 => ?_)
                · have hP := qc_ifT hP c13
                  refine qw_sub (ls1 := [some (.ref p), some (.int a1), some (.int a2), some (.int a3), some (.int a4), none]) rfl (qc_sb_ok ⟨rfl, rfl, rfl, rfl, rfl, trivial⟩) ?_
                  exact L82 (P_X4_nearestOfSite_8 I p f) ih a1 a2 a3 a4 hP
                · have hP := qc_ifF hP c13
                  refine qw_sub (ls1 := [some (.ref p), some (.int a1), none, none, some (.int a4), some (.int x11)]) rfl (qc_sb_ok ⟨rfl, rfl, rfl, rfl, trivial⟩) ?_
                  exact L76 (P_X4_nearestOfSite_8 I p f) ih a1 a4 x11 hP
  show qc_J F 0 0 0 [some (.ref p), some (.int a), none, none, none, none] [] (I, J, (rX w, kX, nX, n))
  unfold P_X4_nearestOfSite at hP
  refine qj_bipush (v := (-2 : Int32)) cx dX4_nearestOfSite_0 (by decide) ?_
  refine qj_istore_n (ls1 := [some (.ref p), some (.int a), some (.int (-2 : Int32)), none, none, none]) cx dX4_nearestOfSite_2 rfl rfl rfl rfl ?_
  refine qj_iconst (v := (0 : Int32)) cx dX4_nearestOfSite_3 (by decide) ?_
  refine qj_istore_n (ls1 := [some (.ref p), some (.int a), some (.int (-2 : Int32)), some (.int (0 : Int32)), none, none]) cx dX4_nearestOfSite_4 rfl rfl rfl rfl ?_
  refine qj_iconst (v := (0 : Int32)) cx dX4_nearestOfSite_5 (by decide) ?_
  refine qj_istore (ls1 := [some (.ref p), some (.int a), some (.int (-2 : Int32)), some (.int (0 : Int32)), some (.int (0 : Int32)), none]) cx dX4_nearestOfSite_6 rfl rfl rfl ?_
  exact L8 qc_fu a (-2 : Int32) (0 : Int32) (0 : Int32) hP
def P_X4_wantsSort (I : Nat → Nat → Int32) (p : Nat) (a : Int32) : Option (Int32) :=
  if qc_in a 6 then
  (if ((I p 4) >>> (((qc_sv 5).getD a.toNatClampNeg 0) &&& 31)) &&& (1 : Int32) = 0 then
  some (0 : Int32)
  else
  some (1 : Int32)).bind fun v3 =>
  if qc_bo v3 then some v3 else none
  else none
set_option maxRecDepth 20000 in
theorem c_X4_wantsSort {I : Nat → Nat → Int32} {J : Nat → Nat → Int64} {w : Nat → Nat} {n : Nat} (hn : 121 ≤ n) (hn1 : n ≤ 200) {p : Nat} (hp : qc_sc n p) {a : Int32} {q0 : Int32} (hP : P_X4_wantsSort I p a = some q0) : ∀ l, qc_M l yX4_wantsSort cX4_wantsSort 2 (some .boolean) 0 0 0 0 [.ref p, .int a] (I, J, (rX w, kX, nX, n)) (some (.int q0)) (I, J, (rX w, kX, nX, n)) := by
  intro l
  refine qc_ent2 (by decide) (Nat.le_of_ble_eq_true rfl) ?_
  intro F hn0 cx hz
  have cx : qc_X F cX4_wantsSort RX4 "wantsSort" 0 0 0 0 := cx
  show qc_J F 0 0 0 [some (.ref p), some (.int a)] [] (I, J, (rX w, kX, nX, n))
  unfold P_X4_wantsSort at hP
  refine qj_aload_n cx dX4_wantsSort_0 rfl rfl ?_
  refine qw_getI (j := 4) cx dX4_wantsSort_1 qc_cl4 hp.2.1 (qc_ltp0 hp.1) rfl ww_163 ?_
  refine qj_gets (i := 5) (ref := "") (host := "QuietChannels") cx dX4_wantsSort_4 (by decide) (List.mem_of_getElem? (i := 0) rfl) (Nat.le_trans hn1 (by decide)) ?_
  refine qj_iload_n cx dX4_wantsSort_7 rfl rfl ?_
  obtain ⟨c1, hP⟩ := qc_ck hP
  refine qw_tald (i := 5) cx dX4_wantsSort_8 (by decide) (Nat.le_trans hn1 (by decide)) c1 ?_
  refine qj_ishr cx dX4_wantsSort_9 ?_
  refine qj_iconst (v := (1 : Int32)) cx dX4_wantsSort_10 (by decide) ?_
  refine qj_iand cx dX4_wantsSort_11 ?_
  obtain ⟨v3, hv3, hP⟩ := Option.bind_eq_some_iff.mp hP
  have Kv3 : qc_J F 0 0 20 [some (.ref p), some (.int a)] [.int v3] (I, J, (rX w, kX, nX, n)) := by
    obtain ⟨c4, hP⟩ := qc_ck hP
    exact qw_zret cx hz dX4_wantsSort_20 (qc_bo_n c4) (Nat.zero_le _) (Nat.zero_le _) (Option.some.inj hP) rfl rfl
  refine qj_if_eq (tgt := 19) cx dX4_wantsSort_12 (by decide) (fun c2 => ?_) (fun c2 => ?_)
  · have hv3 := qc_ifT hv3 c2
    refine qj_iconst (v := (0 : Int32)) cx dX4_wantsSort_19 (by decide) ?_
    exact qw_top (Option.some.inj hv3).symm Kv3
  · have hv3 := qc_ifF hv3 c2
    refine qj_iconst (v := (1 : Int32)) cx dX4_wantsSort_15 (by decide) ?_
    refine qj_goto (tgt := 20) cx dX4_wantsSort_16 (by decide) ?_
    exact qw_top (Option.some.inj hv3).symm Kv3
def P_X4_guardedChannels_64 (I : Nat → Nat → Int32) (p : Nat) (k4 : Int64 → Int32 → Option (Int64)) : Nat → Int64 → Int32 → Int32 → Int32 → Option (Int64)
  | 0, _, _, _, _ => none
  | f + 1, a1, a3, a5, a6 =>
  if a5 < a6 then
  qc_let (a3 + (1 : Int32)) fun x2 =>
  k4 a1 x2
  else
  qc_let (a1 ||| ((1 : Int64) <<< (a6.toInt64 &&& 63))) fun x3 =>
  qc_let (a6 + (1 : Int32)) fun x4 =>
  P_X4_guardedChannels_64 I p k4 f x3 a3 a5 x4
def P_X4_guardedChannels_4 (I : Nat → Nat → Int32) (p : Nat) : Nat → Int64 → Int32 → Option (Int64)
  | 0, _, _ => none
  | f + 1, a1, a3 =>
  if I p 0 ≤ a3 then
  some a1
  else
  if qc_in a3 8 then
  qc_let (if (1 : Int32) < (I (p + 1 + 6) a3.toNatClampNeg) - (I p 2) then (I (p + 1 + 6) a3.toNatClampNeg) - (I p 2) else (1 : Int32)) fun x7 =>
  if qc_in a3 8 then
  (if I (p + 1 + 6) a3.toNatClampNeg = 0 then
  some (0 : Int32)
  else
  if qc_in a3 8 then
  some (if (I (p + 1 + 6) a3.toNatClampNeg) + (I p 2) < (60 : Int32) then (I (p + 1 + 6) a3.toNatClampNeg) + (I p 2) else (60 : Int32))
  else none).bind fun v10 =>
  P_X4_guardedChannels_64 I p (P_X4_guardedChannels_4 I p f) qc_fu a1 a3 v10 x7
  else none
  else none
def P_X4_guardedChannels (I : Nat → Nat → Int32) (p : Nat) : Option (Int64) :=
  P_X4_guardedChannels_4 I p qc_fu (0 : Int64) (0 : Int32)
set_option maxRecDepth 20000 in
theorem c_X4_guardedChannels {I : Nat → Nat → Int32} {J : Nat → Nat → Int64} {w : Nat → Nat} {n : Nat} (hn : 121 ≤ n) (hn1 : n ≤ 200) {p : Nat} (hp : qc_sc n p)  {q0 : Int64} (hP : P_X4_guardedChannels I p = some q0) : ∀ l, qc_M l yX4_guardedChannels cX4_guardedChannels 7 (some .long) 1 21 0 0 [.ref p] (I, J, (rX w, kX, nX, n)) (some (.long q0)) (I, J, (rX w, kX, nX, n)) := by
  intro l
  refine qc_ent2 (by decide) (Nat.le_of_ble_eq_true rfl) ?_
  intro F hn0 cx hz
  have cx : qc_X F cX4_guardedChannels RX4 "guardedChannels" 1 0 0 21 := cx
  have L64 : ∀ (k4 : Int64 → Int32 → Option (Int64)) (g4 : ∀ (a1 : Int64) (a3 : Int32), k4 a1 a3 = some q0 → qc_J F 0 0 4 [some (.ref p), some (.long a1), none, some (.int a3), none, none, none] [] (I, J, (rX w, kX, nX, n))) (f : Nat) (a1 : Int64) (a3 : Int32) (a5 : Int32) (a6 : Int32), P_X4_guardedChannels_64 I p k4 f a1 a3 a5 a6 = some q0 → qc_J F 0 0 64 [some (.ref p), some (.long a1), none, some (.int a3), none, some (.int a5), some (.int a6)] [] (I, J, (rX w, kX, nX, n)) := by
    intro k4 g4 f
    induction f with
    | zero => intro a1 a3 a5 a6 hP; cases hP
    | succ f ih =>
      intro a1 a3 a5 a6 hP
      rw [P_X4_guardedChannels_64] at hP
      refine qj_iload cx dX4_guardedChannels_64 rfl ?_
      refine qj_iload cx dX4_guardedChannels_66 rfl ?_
      refine qj_icmp_gt (tgt := 84) cx dX4_guardedChannels_68 (by decide) (fun c1 => ?_) (fun c1 => ?_)
      · have hP := qc_ifT hP c1
        obtain ⟨x2, ex2, hP⟩ := qc_letE hP
        refine qj_iinc (v := x2) (ls1 := [some (.ref p), some (.long a1), none, some (.int x2), none, some (.int a5), some (.int a6)]) cx dX4_guardedChannels_84 rfl (by rw [ex2]; rfl) rfl rfl ?_
        refine qj_goto (tgt := 4) cx dX4_guardedChannels_87 (by decide) ?_
        refine qw_sub (ls1 := [some (.ref p), some (.long a1), none, some (.int x2), none, none, none]) rfl (qc_sb_ok ⟨rfl, rfl, rfl, trivial⟩) ?_
        exact g4 a1 x2 hP
      · have hP := qc_ifF hP c1
        refine qj_lload_n cx dX4_guardedChannels_71 rfl rfl ?_
        refine qj_lconst (v := (1 : Int64)) cx dX4_guardedChannels_72 (by decide) ?_
        refine qj_iload cx dX4_guardedChannels_73 rfl ?_
        refine qj_lshl cx dX4_guardedChannels_75 ?_
        refine qj_lor cx dX4_guardedChannels_76 ?_
        obtain ⟨x3, ex3, hP⟩ := qc_letE hP
        refine qw_topl ex3 ?_
        refine qj_lstore_n (ls1 := [some (.ref p), some (.long x3), none, some (.int a3), none, some (.int a5), some (.int a6)]) cx dX4_guardedChannels_77 rfl rfl rfl rfl ?_
        obtain ⟨x4, ex4, hP⟩ := qc_letE hP
        refine qj_iinc (v := x4) (ls1 := [some (.ref p), some (.long x3), none, some (.int a3), none, some (.int a5), some (.int x4)]) cx dX4_guardedChannels_78 rfl (by rw [ex4]; rfl) rfl rfl ?_
        refine qj_goto (tgt := 64) cx dX4_guardedChannels_81 (by decide) ?_
        exact ih x3 a3 a5 x4 hP
  have L4 : ∀  (f : Nat) (a1 : Int64) (a3 : Int32), P_X4_guardedChannels_4 I p f a1 a3 = some q0 → qc_J F 0 0 4 [some (.ref p), some (.long a1), none, some (.int a3), none, none, none] [] (I, J, (rX w, kX, nX, n)) := by
    intro  f
    induction f with
    | zero => intro a1 a3 hP; cases hP
    | succ f ih =>
      intro a1 a3 hP
      rw [P_X4_guardedChannels_4] at hP
      refine qj_iload_n cx dX4_guardedChannels_4 rfl rfl ?_
      refine qj_aload_n cx dX4_guardedChannels_5 rfl rfl ?_
      refine qw_getI (j := 0) cx dX4_guardedChannels_6 qc_cl4 hp.2.1 (qc_ltp0 hp.1) rfl ww_147 ?_
      refine qj_icmp_ge (tgt := 90) cx dX4_guardedChannels_9 (by decide) (fun c5 => ?_) (fun c5 => ?_)
      · have hP := qc_ifT hP c5
        refine qj_lload_n cx dX4_guardedChannels_90 rfl rfl ?_
        exact qw_lret cx hz dX4_guardedChannels_91 (Nat.zero_le _) (Nat.zero_le _) (Option.some.inj hP) rfl rfl
      · have hP := qc_ifF hP c5
        refine qj_iconst (v := (1 : Int32)) cx dX4_guardedChannels_12 (by decide) ?_
        refine qj_aload_n cx dX4_guardedChannels_13 rfl rfl ?_
        refine qw_getR (j := 13) (t1 := (p + 1 + 6)) cx dX4_guardedChannels_14 qc_cl4 hp.2.1 (qc_ltp0 hp.1) rfl ww_194 ((hp.2.2 6 (by decide)).2.2 _) ?_
        refine qj_iload_n cx dX4_guardedChannels_17 rfl rfl ?_
        obtain ⟨c6, hP⟩ := qc_ck hP
        refine qw_iald (n1 := 8) cx dX4_guardedChannels_18 (hp.2.2 6 (by decide)).1 (qc_ltp hp.1 (by decide)) (hp.2.2 6 (by decide)).2.1 c6 ?_
        refine qj_aload_n cx dX4_guardedChannels_19 rfl rfl ?_
        refine qw_getI (j := 2) cx dX4_guardedChannels_20 qc_cl4 hp.2.1 (qc_ltp0 hp.1) rfl ww_156 ?_
        refine qj_isub cx dX4_guardedChannels_23 ?_
        refine qj_max cx dX4_guardedChannels_24 ww_629 ww_630 ww_125 ww_631 (by decide) (Nat.le_of_ble_eq_true rfl) (Nat.zero_le _) (Nat.zero_le _) ?_
        obtain ⟨x7, ex7, hP⟩ := qc_letE hP
        refine qw_top ex7 ?_
        refine qj_istore (ls1 := [some (.ref p), some (.long a1), none, some (.int a3), some (.int x7), none, none]) cx dX4_guardedChannels_27 rfl rfl rfl ?_
        refine qj_aload_n cx dX4_guardedChannels_29 rfl rfl ?_
        refine qw_getR (j := 13) (t1 := (p + 1 + 6)) cx dX4_guardedChannels_30 qc_cl4 hp.2.1 (qc_ltp0 hp.1) rfl ww_194 ((hp.2.2 6 (by decide)).2.2 _) ?_
        refine qj_iload_n cx dX4_guardedChannels_33 rfl rfl ?_
        obtain ⟨c8, hP⟩ := qc_ck hP
        refine qw_iald (n1 := 8) cx dX4_guardedChannels_34 (hp.2.2 6 (by decide)).1 (qc_ltp hp.1 (by decide)) (hp.2.2 6 (by decide)).2.1 c8 ?_
        obtain ⟨v10, hv10, hP⟩ := Option.bind_eq_some_iff.mp hP
        have Kv10 : qc_J F 0 0 58 [some (.ref p), some (.long a1), none, some (.int a3), some (.int x7), none, none] [.int v10] (I, J, (rX w, kX, nX, n)) := by
          refine qj_istore (ls1 := [some (.ref p), some (.long a1), none, some (.int a3), some (.int x7), some (.int v10), none]) cx dX4_guardedChannels_58 rfl rfl rfl ?_
          refine qj_iload cx dX4_guardedChannels_60 rfl ?_
          refine qj_istore (ls1 := [some (.ref p), some (.long a1), none, some (.int a3), some (.int x7), some (.int v10), some (.int x7)]) cx dX4_guardedChannels_62 rfl rfl rfl ?_
          refine qw_sub (ls1 := [some (.ref p), some (.long a1), none, some (.int a3), none, some (.int v10), some (.int x7)]) rfl (qc_sb_ok ⟨rfl, rfl, rfl, rfl, rfl, trivial⟩) ?_
          exact L64 (P_X4_guardedChannels_4 I p f) ih qc_fu a1 a3 v10 x7 hP
        refine qj_if_ne (tgt := 42) cx dX4_guardedChannels_35 (by decide) (fun c9 => ?_) (fun c9 => ?_)
        · have hv10 := qc_ifF hv10 c9
          refine qj_bipush (v := (60 : Int32)) cx dX4_guardedChannels_42 (by decide) ?_
          refine qj_aload_n cx dX4_guardedChannels_44 rfl rfl ?_
          refine qw_getR (j := 13) (t1 := (p + 1 + 6)) cx dX4_guardedChannels_45 qc_cl4 hp.2.1 (qc_ltp0 hp.1) rfl ww_194 ((hp.2.2 6 (by decide)).2.2 _) ?_
          refine qj_iload_n cx dX4_guardedChannels_48 rfl rfl ?_
          obtain ⟨c11, hv10⟩ := qc_ck hv10
          refine qw_iald (n1 := 8) cx dX4_guardedChannels_49 (hp.2.2 6 (by decide)).1 (qc_ltp hp.1 (by decide)) (hp.2.2 6 (by decide)).2.1 c11 ?_
          refine qj_aload_n cx dX4_guardedChannels_50 rfl rfl ?_
          refine qw_getI (j := 2) cx dX4_guardedChannels_51 qc_cl4 hp.2.1 (qc_ltp0 hp.1) rfl ww_156 ?_
          refine qj_iadd cx dX4_guardedChannels_54 ?_
          refine qj_min cx dX4_guardedChannels_55 ww_632 ww_633 ww_125 ww_634 (by decide) (Nat.le_of_ble_eq_true rfl) (Nat.zero_le _) (Nat.zero_le _) ?_
          exact qw_top (Option.some.inj hv10).symm Kv10
        · have hv10 := qc_ifT hv10 c9
          refine qj_iconst (v := (0 : Int32)) cx dX4_guardedChannels_38 (by decide) ?_
          refine qj_goto (tgt := 58) cx dX4_guardedChannels_39 (by decide) ?_
          exact qw_top (Option.some.inj hv10).symm Kv10
  show qc_J F 0 0 0 [some (.ref p), none, none, none, none, none, none] [] (I, J, (rX w, kX, nX, n))
  unfold P_X4_guardedChannels at hP
  refine qj_lconst (v := (0 : Int64)) cx dX4_guardedChannels_0 (by decide) ?_
  refine qj_lstore_n (ls1 := [some (.ref p), some (.long (0 : Int64)), none, none, none, none, none]) cx dX4_guardedChannels_1 rfl rfl rfl rfl ?_
  refine qj_iconst (v := (0 : Int32)) cx dX4_guardedChannels_2 (by decide) ?_
  refine qj_istore_n (ls1 := [some (.ref p), some (.long (0 : Int64)), none, some (.int (0 : Int32)), none, none, none]) cx dX4_guardedChannels_3 rfl rfl rfl rfl ?_
  exact L4 qc_fu (0 : Int64) (0 : Int32) hP
def P_X5_untune_59 (p : Nat) (k7 : (Nat → Nat → Int32) → Int32 → Int32 → Option ((Nat → Nat → Int32))) (I : (Nat → Nat → Int32)) (a2 : Int32) (a3 : Int32) : Option ((Nat → Nat → Int32)) :=
  qc_let (a3 + (1 : Int32)) fun x1 =>
  k7 I a2 x1
def P_X5_untune_7 (p : Nat) : Nat → (Nat → Nat → Int32) → Int32 → Int32 → Option ((Nat → Nat → Int32))
  | 0, _, _, _ => none
  | f + 1, I, a2, a3 =>
  if I p 0 ≤ a3 then
  some I
  else
  if (6 : Int32) ≤ I 33 1 then
  some I
  else
  if (a2 >>> (a3 &&& 31)) &&& (1 : Int32) = 0 then
  P_X5_untune_59 p (P_X5_untune_7 p f) I a2 a3
  else
  if qc_in a3 8 then
  qc_let (qc_u2 I (p + 1 + 6) a3.toNatClampNeg (0 : Int32)) fun I5 =>
  if qc_in (I5 33 1) 6 then
  qc_let (qc_u2 I5 34 (I5 33 1).toNatClampNeg a3) fun I6 =>
  qc_let (qc_u2 I6 33 1 ((I6 33 1) + (1 : Int32))) fun I7 =>
  P_X5_untune_59 p (P_X5_untune_7 p f) I7 a2 a3
  else none
  else none
def P_X5_untune (I : Nat → Nat → Int32) (p : Nat) (a : Int32) : Option ((Nat → Nat → Int32)) :=
  qc_let (qc_u2 I 33 1 (0 : Int32)) fun I10 =>
  P_X5_untune_7 p qc_fu I10 a (0 : Int32)
set_option maxRecDepth 20000 in
theorem c_X5_untune {I : Nat → Nat → Int32} {J : Nat → Nat → Int64} {w : Nat → Nat} {n : Nat} (hn : 121 ≤ n) (hn1 : n ≤ 200) {p : Nat} (hp : qc_sc n p) {a : Int32} {q0 : (Nat → Nat → Int32)} (hP : P_X5_untune I p a = some q0) : ∀ l, qc_M l yX5_untune cX5_untune 4 none 0 0 0 0 [.ref 33, .ref p, .int a] (I, J, (rX w, kX, nX, n)) none (q0, J, (rX w, kX, nX, n)) := by
  intro l
  refine qc_ent2 (by decide) (Nat.le_of_ble_eq_true rfl) ?_
  intro F hn0 cx hz
  have cx : qc_X F cX5_untune RX5 "untune" 0 0 0 0 := cx
  have L59 : ∀ (k7 : (Nat → Nat → Int32) → Int32 → Int32 → Option ((Nat → Nat → Int32))) (g7 : ∀ (I : Nat → Nat → Int32) (a2 : Int32) (a3 : Int32), k7 I a2 a3 = some q0 → qc_J F 0 0 7 [some (.ref 33), some (.ref p), some (.int a2), some (.int a3)] [] (I, J, (rX w, kX, nX, n))) (I : (Nat → Nat → Int32)) (a2 : Int32) (a3 : Int32), P_X5_untune_59 p k7 I a2 a3 = some q0 → qc_J F 0 0 59 [some (.ref 33), some (.ref p), some (.int a2), some (.int a3)] [] (I, J, (rX w, kX, nX, n)) := by
    intro k7 g7 I a2 a3 hP
    unfold P_X5_untune_59 at hP
    obtain ⟨x1, ex1, hP⟩ := qc_letE hP
    refine qj_iinc (v := x1) (ls1 := [some (.ref 33), some (.ref p), some (.int a2), some (.int x1)]) cx dX5_untune_59 rfl (by rw [ex1]; rfl) rfl rfl ?_
    refine qj_goto (tgt := 7) cx dX5_untune_62 (by decide) ?_
    exact g7 I a2 x1 hP
  have L7 : ∀  (f : Nat) (I : (Nat → Nat → Int32)) (a2 : Int32) (a3 : Int32), P_X5_untune_7 p f I a2 a3 = some q0 → qc_J F 0 0 7 [some (.ref 33), some (.ref p), some (.int a2), some (.int a3)] [] (I, J, (rX w, kX, nX, n)) := by
    intro  f
    induction f with
    | zero => intro I a2 a3 hP; cases hP
    | succ f ih =>
      intro I a2 a3 hP
      rw [P_X5_untune_7] at hP
      refine qj_iload_n cx dX5_untune_7 rfl rfl ?_
      refine qj_aload_n cx dX5_untune_8 rfl rfl ?_
      refine qw_getI (j := 0) cx dX5_untune_9 qc_cl4 hp.2.1 (qc_ltp0 hp.1) rfl ww_148 ?_
      refine qj_icmp_ge (tgt := 65) cx dX5_untune_12 (by decide) (fun c2 => ?_) (fun c2 => ?_)
      · have hP := qc_ifT hP c2
        exact qw_vret cx hz dX5_untune_65 (Nat.zero_le _) (Nat.zero_le _) (Option.some.inj hP) rfl
      · have hP := qc_ifF hP c2
        refine qj_aload_n cx dX5_untune_15 rfl rfl ?_
        refine qw_getI (j := 1) cx dX5_untune_16 qc_cl5 rfl (Nat.lt_of_lt_of_le (by decide) hn) rfl ww_284 ?_
        refine qj_bipush (v := (6 : Int32)) cx dX5_untune_19 (by decide) ?_
        refine qj_icmp_ge (tgt := 65) cx dX5_untune_21 (by decide) (fun c3 => ?_) (fun c3 => ?_)
        · have hP := qc_ifT hP c3
          exact qw_vret cx hz dX5_untune_65 (Nat.zero_le _) (Nat.zero_le _) (Option.some.inj hP) rfl
        · have hP := qc_ifF hP c3
          refine qj_iload_n cx dX5_untune_24 rfl rfl ?_
          refine qj_iload_n cx dX5_untune_25 rfl rfl ?_
          refine qj_ishr cx dX5_untune_26 ?_
          refine qj_iconst (v := (1 : Int32)) cx dX5_untune_27 (by decide) ?_
          refine qj_iand cx dX5_untune_28 ?_
          refine qj_if_eq (tgt := 59) cx dX5_untune_29 (by decide) (fun c4 => ?_) (fun c4 => ?_)
          · have hP := qc_ifT hP c4
            exact L59 (P_X5_untune_7 p f) ih I a2 a3 hP
          · have hP := qc_ifF hP c4
            refine qj_aload_n cx dX5_untune_32 rfl rfl ?_
            refine qw_getR (j := 13) (t1 := (p + 1 + 6)) cx dX5_untune_33 qc_cl4 hp.2.1 (qc_ltp0 hp.1) rfl ww_196 ((hp.2.2 6 (by decide)).2.2 _) ?_
            refine qj_iload_n cx dX5_untune_36 rfl rfl ?_
            refine qj_iconst (v := (0 : Int32)) cx dX5_untune_37 (by decide) ?_
            obtain ⟨c9, hP⟩ := qc_ck hP
            obtain ⟨I5, eI5, hP⟩ := qc_letE hP
            refine qw_iast (n1 := 8) cx dX5_untune_38 (hp.2.2 6 (by decide)).1 (qc_ltp hp.1 (by decide)) (hp.2.2 6 (by decide)).2.1 c9 eI5 ?_
            refine qj_aload_n cx dX5_untune_39 rfl rfl ?_
            refine qw_getR (j := 0) (t1 := 34) cx dX5_untune_40 qc_cl5 rfl (Nat.lt_of_lt_of_le (by decide) hn) rfl ww_283 rfl ?_
            refine qj_aload_n cx dX5_untune_43 rfl rfl ?_
            refine qw_getI (j := 1) cx dX5_untune_44 qc_cl5 rfl (Nat.lt_of_lt_of_le (by decide) hn) rfl ww_284 ?_
            refine qj_iload_n cx dX5_untune_47 rfl rfl ?_
            obtain ⟨c8, hP⟩ := qc_ck hP
            obtain ⟨I6, eI6, hP⟩ := qc_letE hP
            refine qw_iast (n1 := 6) cx dX5_untune_48 rfl (Nat.lt_of_lt_of_le (by decide) hn) rfl c8 eI6 ?_
            refine qj_aload_n cx dX5_untune_49 rfl rfl ?_
            refine qj_dup cx dX5_untune_50 rfl ?_
            refine qw_getI (j := 1) cx dX5_untune_51 qc_cl5 rfl (Nat.lt_of_lt_of_le (by decide) hn) rfl ww_284 ?_
            refine qj_iconst (v := (1 : Int32)) cx dX5_untune_54 (by decide) ?_
            refine qj_iadd cx dX5_untune_55 ?_
            obtain ⟨I7, eI7, hP⟩ := qc_letE hP
            refine qw_putI (j := 1) cx dX5_untune_56 qc_cl5 rfl (Nat.lt_of_lt_of_le (by decide) hn) rfl ww_284 rfl rfl rfl eI7 ?_
            exact L59 (P_X5_untune_7 p f) ih I7 a2 a3 hP
  show qc_J F 0 0 0 [some (.ref 33), some (.ref p), some (.int a), none] [] (I, J, (rX w, kX, nX, n))
  unfold P_X5_untune at hP
  refine qj_aload_n cx dX5_untune_0 rfl rfl ?_
  refine qj_iconst (v := (0 : Int32)) cx dX5_untune_1 (by decide) ?_
  obtain ⟨I10, eI10, hP⟩ := qc_letE hP
  refine qw_putI (j := 1) cx dX5_untune_2 qc_cl5 rfl (Nat.lt_of_lt_of_le (by decide) hn) rfl ww_284 rfl rfl rfl eI10 ?_
  refine qj_iconst (v := (0 : Int32)) cx dX5_untune_5 (by decide) ?_
  refine qj_istore_n (ls1 := [some (.ref 33), some (.ref p), some (.int a), some (.int (0 : Int32))]) cx dX5_untune_6 rfl rfl rfl rfl ?_
  exact L7 qc_fu I10 a (0 : Int32) hP
def P_X6_putBytes_3  : Nat → (Nat → Nat → Int32) → Int32 → Int32 → Option ((Nat → Nat → Int32))
  | 0, _, _, _ => none
  | f + 1, I, a1, a2 =>
  if a2 < 0 then
  some I
  else
  if (700 : Int32) ≤ I 0 1 then
  some I
  else
  if qc_in (I 0 1) 700 then
  qc_let (qc_u2 I 1 (I 0 1).toNatClampNeg ((a1 >>> (a2 &&& 31)) &&& (255 : Int32))) fun I3 =>
  qc_let (qc_u2 I3 0 1 ((I3 0 1) + (1 : Int32))) fun I4 =>
  qc_let (a2 + (-8 : Int32)) fun x5 =>
  P_X6_putBytes_3 f I4 a1 x5
  else none
def P_X6_putBytes (I : Nat → Nat → Int32) (a : Int32) : Option ((Nat → Nat → Int32)) :=
  P_X6_putBytes_3 qc_fu I a (24 : Int32)
set_option maxRecDepth 20000 in
theorem c_X6_putBytes {I : Nat → Nat → Int32} {J : Nat → Nat → Int64} {w : Nat → Nat} {n : Nat} (hn : 121 ≤ n) (hn1 : n ≤ 200) {a : Int32} {q0 : (Nat → Nat → Int32)} (hP : P_X6_putBytes I a = some q0) : ∀ l, qc_M l yX6_putBytes cX6_putBytes 3 none 0 0 0 0 [.ref 0, .int a] (I, J, (rX w, kX, nX, n)) none (q0, J, (rX w, kX, nX, n)) := by
  intro l
  refine qc_ent2 (by decide) (Nat.le_of_ble_eq_true rfl) ?_
  intro F hn0 cx hz
  have cx : qc_X F cX6_putBytes RX6 "putBytes" 0 0 0 0 := cx
  have L3 : ∀  (f : Nat) (I : (Nat → Nat → Int32)) (a1 : Int32) (a2 : Int32), P_X6_putBytes_3 f I a1 a2 = some q0 → qc_J F 0 0 3 [some (.ref 0), some (.int a1), some (.int a2)] [] (I, J, (rX w, kX, nX, n)) := by
    intro  f
    induction f with
    | zero => intro I a1 a2 hP; cases hP
    | succ f ih =>
      intro I a1 a2 hP
      rw [P_X6_putBytes_3] at hP
      refine qj_iload_n cx dX6_putBytes_3 rfl rfl ?_
      refine qj_if_lt (tgt := 49) cx dX6_putBytes_4 (by decide) (fun c1 => ?_) (fun c1 => ?_)
      · have hP := qc_ifT hP c1
        exact qw_vret cx hz dX6_putBytes_49 (Nat.zero_le _) (Nat.zero_le _) (Option.some.inj hP) rfl
      · have hP := qc_ifF hP c1
        refine qj_aload_n cx dX6_putBytes_7 rfl rfl ?_
        refine qw_getI (j := 1) cx dX6_putBytes_8 qc_cl6 rfl (Nat.lt_of_lt_of_le (by decide) hn) rfl ww_331 ?_
        refine qj_sipush (v := (700 : Int32)) cx dX6_putBytes_11 (by decide) ?_
        refine qj_icmp_ge (tgt := 49) cx dX6_putBytes_14 (by decide) (fun c2 => ?_) (fun c2 => ?_)
        · have hP := qc_ifT hP c2
          exact qw_vret cx hz dX6_putBytes_49 (Nat.zero_le _) (Nat.zero_le _) (Option.some.inj hP) rfl
        · have hP := qc_ifF hP c2
          refine qj_aload_n cx dX6_putBytes_17 rfl rfl ?_
          refine qw_getR (j := 0) (t1 := 1) cx dX6_putBytes_18 qc_cl6 rfl (Nat.lt_of_lt_of_le (by decide) hn) rfl ww_330 rfl ?_
          refine qj_aload_n cx dX6_putBytes_21 rfl rfl ?_
          refine qw_getI (j := 1) cx dX6_putBytes_22 qc_cl6 rfl (Nat.lt_of_lt_of_le (by decide) hn) rfl ww_331 ?_
          refine qj_iload_n cx dX6_putBytes_25 rfl rfl ?_
          refine qj_iload_n cx dX6_putBytes_26 rfl rfl ?_
          refine qj_ishr cx dX6_putBytes_27 ?_
          refine qj_sipush (v := (255 : Int32)) cx dX6_putBytes_28 (by decide) ?_
          refine qj_iand cx dX6_putBytes_31 ?_
          obtain ⟨c6, hP⟩ := qc_ck hP
          obtain ⟨I3, eI3, hP⟩ := qc_letE hP
          refine qw_iast (n1 := 700) cx dX6_putBytes_32 rfl (Nat.lt_of_lt_of_le (by decide) hn) rfl c6 eI3 ?_
          refine qj_aload_n cx dX6_putBytes_33 rfl rfl ?_
          refine qj_dup cx dX6_putBytes_34 rfl ?_
          refine qw_getI (j := 1) cx dX6_putBytes_35 qc_cl6 rfl (Nat.lt_of_lt_of_le (by decide) hn) rfl ww_331 ?_
          refine qj_iconst (v := (1 : Int32)) cx dX6_putBytes_38 (by decide) ?_
          refine qj_iadd cx dX6_putBytes_39 ?_
          obtain ⟨I4, eI4, hP⟩ := qc_letE hP
          refine qw_putI (j := 1) cx dX6_putBytes_40 qc_cl6 rfl (Nat.lt_of_lt_of_le (by decide) hn) rfl ww_331 rfl rfl rfl eI4 ?_
          obtain ⟨x5, ex5, hP⟩ := qc_letE hP
          refine qj_iinc (v := x5) (ls1 := [some (.ref 0), some (.int a1), some (.int x5)]) cx dX6_putBytes_43 rfl (by rw [ex5]; rfl) rfl rfl ?_
          refine qj_goto (tgt := 3) cx dX6_putBytes_46 (by decide) ?_
          exact ih I4 a1 x5 hP
  show qc_J F 0 0 0 [some (.ref 0), some (.int a), none] [] (I, J, (rX w, kX, nX, n))
  unfold P_X6_putBytes at hP
  refine qj_bipush (v := (24 : Int32)) cx dX6_putBytes_0 (by decide) ?_
  refine qj_istore_n (ls1 := [some (.ref 0), some (.int a), some (.int (24 : Int32))]) cx dX6_putBytes_2 rfl rfl rfl rfl ?_
  exact L3 qc_fu I a (24 : Int32) hP
def P_X6_fault (I : Nat → Nat → Int32) (a : Int32) : Option (Int32) :=
  if a = 0 then
  some (I 0 2)
  else
  (if a = (1 : Int32) then
  some (I 0 3)
  else
  some (-1 : Int32)).bind fun v3 =>
  some v3
set_option maxRecDepth 20000 in
theorem c_X6_fault {I : Nat → Nat → Int32} {J : Nat → Nat → Int64} {w : Nat → Nat} {n : Nat} (hn : 121 ≤ n) (hn1 : n ≤ 200) {a : Int32} {q0 : Int32} (hP : P_X6_fault I a = some q0) : ∀ l, qc_M l yX6_fault cX6_fault 2 (some .int) 0 0 0 0 [.ref 0, .int a] (I, J, (rX w, kX, nX, n)) (some (.int q0)) (I, J, (rX w, kX, nX, n)) := by
  intro l
  refine qc_ent2 (by decide) (Nat.le_of_ble_eq_true rfl) ?_
  intro F hn0 cx hz
  have cx : qc_X F cX6_fault RX6 "fault" 0 0 0 0 := cx
  show qc_J F 0 0 0 [some (.ref 0), some (.int a)] [] (I, J, (rX w, kX, nX, n))
  unfold P_X6_fault at hP
  refine qj_iload_n cx dX6_fault_0 rfl rfl ?_
  refine qj_if_ne (tgt := 9) cx dX6_fault_1 (by decide) (fun c1 => ?_) (fun c1 => ?_)
  · have hP := qc_ifF hP c1
    refine qj_iload_n cx dX6_fault_9 rfl rfl ?_
    refine qj_iconst (v := (1 : Int32)) cx dX6_fault_10 (by decide) ?_
    obtain ⟨v3, hv3, hP⟩ := Option.bind_eq_some_iff.mp hP
    have Kv3 : qc_J F 0 0 22 [some (.ref 0), some (.int a)] [.int v3] (I, J, (rX w, kX, nX, n)) := by
      exact qw_iret cx hz dX6_fault_22 (Nat.zero_le _) (Nat.zero_le _) (Option.some.inj hP) rfl rfl
    refine qj_icmp_ne (tgt := 21) cx dX6_fault_11 (by decide) (fun c2 => ?_) (fun c2 => ?_)
    · have hv3 := qc_ifF hv3 c2
      refine qj_iconst (v := (-1 : Int32)) cx dX6_fault_21 (by decide) ?_
      exact qw_top (Option.some.inj hv3).symm Kv3
    · have hv3 := qc_ifT hv3 c2
      refine qj_aload_n cx dX6_fault_14 rfl rfl ?_
      refine qw_getI (j := 3) cx dX6_fault_15 qc_cl6 rfl (Nat.lt_of_lt_of_le (by decide) hn) rfl ww_333 ?_
      refine qj_goto (tgt := 22) cx dX6_fault_18 (by decide) ?_
      exact qw_top (Option.some.inj hv3).symm Kv3
  · have hP := qc_ifT hP c1
    refine qj_aload_n cx dX6_fault_4 rfl rfl ?_
    refine qw_getI (j := 2) cx dX6_fault_5 qc_cl6 rfl (Nat.lt_of_lt_of_le (by decide) hn) rfl ww_332 ?_
    exact qw_iret cx hz dX6_fault_8 (Nat.zero_le _) (Nat.zero_le _) (Option.some.inj hP) rfl rfl
def P_X6_named (I : Nat → Nat → Int32) (a : Int32) : Option (Int32) :=
  (P_X4_userOfName I 2 a).bind fun q1 =>
  some q1
set_option maxRecDepth 20000 in
theorem c_X6_named {I : Nat → Nat → Int32} {J : Nat → Nat → Int64} {w : Nat → Nat} {n : Nat} (hn : 121 ≤ n) (hn1 : n ≤ 200) {a : Int32} {q0 : Int32} (hP : P_X6_named I a = some q0) : ∀ l, qc_M l yX6_named cX6_named 2 (some .int) 1 22 0 0 [.ref 0, .int a] (I, J, (rX w, kX, nX, n)) (some (.int q0)) (I, J, (rX w, kX, nX, n)) := by
  intro l
  refine qc_ent2 (by decide) (Nat.le_of_ble_eq_true rfl) ?_
  intro F hn0 cx hz
  have cx : qc_X F cX6_named RX6 "named" 1 0 0 22 := cx
  show qc_J F 0 0 0 [some (.ref 0), some (.int a)] [] (I, J, (rX w, kX, nX, n))
  unfold P_X6_named at hP
  refine qj_aload_n cx dX6_named_0 rfl rfl ?_
  refine qw_getR (j := 4) (t1 := 2) cx dX6_named_1 qc_cl6 rfl (Nat.lt_of_lt_of_le (by decide) hn) rfl ww_334 rfl ?_
  refine qj_iload_n cx dX6_named_4 rfl rfl ?_
  obtain ⟨q1, eq1, hP⟩ := Option.bind_eq_some_iff.mp hP
  refine qj_callV (As := [.int a]) (st := []) (t := 2) (h' := (I, J, (rX w, kX, nX, n))) (r := some (.int q1)) cx dX6_named_5 (c_X4_userOfName (I := I) (J := J) (w := w) hn hn1 (qc_sc2 hn) eq1) gc_RX6_90 qm_X4_userOfName rfl rfl qc_cl4 rfl (Nat.lt_of_lt_of_le (by decide) hn) (by decide) (by decide) rfl (Nat.le_of_ble_eq_true rfl) (Nat.le_trans hn1 (by decide)) hn0 rfl ?_
  exact qw_iret cx hz dX6_named_8 (Nat.zero_le _) (Nat.zero_le _) (Option.some.inj hP) rfl rfl
def P_X6_blocked (I : Nat → Nat → Int32) (J : Nat → Nat → Int64) (a : Int32) : Option (Int32) :=
  (P_X4_isChannel I 2 a).bind fun q1 =>
  if q1 = 0 then
  some (-1 : Int32)
  else
  (P_X4_isShut J 2 a).bind fun q3 =>
  (if q3 = 0 then
  some (0 : Int32)
  else
  some (1 : Int32)).bind fun v5 =>
  some v5
set_option maxRecDepth 20000 in
theorem c_X6_blocked {I : Nat → Nat → Int32} {J : Nat → Nat → Int64} {w : Nat → Nat} {n : Nat} (hn : 121 ≤ n) (hn1 : n ≤ 200) {a : Int32} {q0 : Int32} (hP : P_X6_blocked I J a = some q0) : ∀ l, qc_M l yX6_blocked cX6_blocked 2 (some .int) 1 21 0 0 [.ref 0, .int a] (I, J, (rX w, kX, nX, n)) (some (.int q0)) (I, J, (rX w, kX, nX, n)) := by
  intro l
  refine qc_ent2 (by decide) (Nat.le_of_ble_eq_true rfl) ?_
  intro F hn0 cx hz
  have cx : qc_X F cX6_blocked RX6 "blocked" 1 0 0 21 := cx
  show qc_J F 0 0 0 [some (.ref 0), some (.int a)] [] (I, J, (rX w, kX, nX, n))
  unfold P_X6_blocked at hP
  refine qj_aload_n cx dX6_blocked_0 rfl rfl ?_
  refine qw_getR (j := 4) (t1 := 2) cx dX6_blocked_1 qc_cl6 rfl (Nat.lt_of_lt_of_le (by decide) hn) rfl ww_334 rfl ?_
  refine qj_iload_n cx dX6_blocked_4 rfl rfl ?_
  obtain ⟨q1, eq1, hP⟩ := Option.bind_eq_some_iff.mp hP
  refine qj_callV (As := [.int a]) (st := []) (t := 2) (h' := (I, J, (rX w, kX, nX, n))) (r := some (.int q1)) cx dX6_blocked_5 (c_X4_isChannel (I := I) (J := J) (w := w) hn hn1 (qc_sc2 hn) eq1) gc_RX6_98 qm_X4_isChannel rfl rfl qc_cl4 rfl (Nat.lt_of_lt_of_le (by decide) hn) (by decide) (by decide) rfl (Nat.le_of_ble_eq_true rfl) (Nat.le_trans hn1 (by decide)) hn0 rfl ?_
  refine qj_if_ne (tgt := 13) cx dX6_blocked_8 (by decide) (fun c2 => ?_) (fun c2 => ?_)
  · have hP := qc_ifF hP c2
    refine qj_aload_n cx dX6_blocked_13 rfl rfl ?_
    refine qw_getR (j := 4) (t1 := 2) cx dX6_blocked_14 qc_cl6 rfl (Nat.lt_of_lt_of_le (by decide) hn) rfl ww_334 rfl ?_
    refine qj_iload_n cx dX6_blocked_17 rfl rfl ?_
    obtain ⟨q3, eq3, hP⟩ := Option.bind_eq_some_iff.mp hP
    refine qj_callV (As := [.int a]) (st := []) (t := 2) (h' := (I, J, (rX w, kX, nX, n))) (r := some (.int q3)) cx dX6_blocked_18 (c_X4_isShut (I := I) (J := J) (w := w) hn hn1 (qc_sc2 hn) eq3) gc_RX6_112 qm_X4_isShut rfl rfl qc_cl4 rfl (Nat.lt_of_lt_of_le (by decide) hn) (by decide) (by decide) rfl (Nat.le_of_ble_eq_true rfl) (Nat.le_trans hn1 (by decide)) hn0 rfl ?_
    obtain ⟨v5, hv5, hP⟩ := Option.bind_eq_some_iff.mp hP
    have Kv5 : qc_J F 0 0 29 [some (.ref 0), some (.int a)] [.int v5] (I, J, (rX w, kX, nX, n)) := by
      exact qw_iret cx hz dX6_blocked_29 (Nat.zero_le _) (Nat.zero_le _) (Option.some.inj hP) rfl rfl
    refine qj_if_eq (tgt := 28) cx dX6_blocked_21 (by decide) (fun c4 => ?_) (fun c4 => ?_)
    · have hv5 := qc_ifT hv5 c4
      refine qj_iconst (v := (0 : Int32)) cx dX6_blocked_28 (by decide) ?_
      exact qw_top (Option.some.inj hv5).symm Kv5
    · have hv5 := qc_ifF hv5 c4
      refine qj_iconst (v := (1 : Int32)) cx dX6_blocked_24 (by decide) ?_
      refine qj_goto (tgt := 29) cx dX6_blocked_25 (by decide) ?_
      exact qw_top (Option.some.inj hv5).symm Kv5
  · have hP := qc_ifT hP c2
    refine qj_iconst (v := (-1 : Int32)) cx dX6_blocked_11 (by decide) ?_
    exact qw_iret cx hz dX6_blocked_12 (Nat.zero_le _) (Nat.zero_le _) (Option.some.inj hP) rfl rfl
def P_X6_linked (I : Nat → Nat → Int32) (a : Int32) (b : Int32) : Option (Int32) :=
  if a < 0 then
  some (-1 : Int32)
  else
  if (3 : Int32) ≤ a then
  some (-1 : Int32)
  else
  if b < 0 then
  some (-1 : Int32)
  else
  if (3 : Int32) ≤ b then
  some (-1 : Int32)
  else
  if a = b then
  some (-1 : Int32)
  else
  if qc_in ((a * (3 : Int32)) + b) 9 then
  qc_let (I 4 ((a * (3 : Int32)) + b).toNatClampNeg) fun x7 =>
  (if x7 = (1000 : Int32) then
  some (-2 : Int32)
  else
  some x7).bind fun v9 =>
  some v9
  else none
set_option maxRecDepth 20000 in
theorem c_X6_linked {I : Nat → Nat → Int32} {J : Nat → Nat → Int64} {w : Nat → Nat} {n : Nat} (hn : 121 ≤ n) (hn1 : n ≤ 200) {a : Int32} {b : Int32} {q0 : Int32} (hP : P_X6_linked I a b = some q0) : ∀ l, qc_M l yX6_linked cX6_linked 4 (some .int) 0 0 0 0 [.ref 0, .int a, .int b] (I, J, (rX w, kX, nX, n)) (some (.int q0)) (I, J, (rX w, kX, nX, n)) := by
  intro l
  refine qc_ent2 (by decide) (Nat.le_of_ble_eq_true rfl) ?_
  intro F hn0 cx hz
  have cx : qc_X F cX6_linked RX6 "linked" 0 0 0 0 := cx
  show qc_J F 0 0 0 [some (.ref 0), some (.int a), some (.int b), none] [] (I, J, (rX w, kX, nX, n))
  unfold P_X6_linked at hP
  refine qj_iload_n cx dX6_linked_0 rfl rfl ?_
  refine qj_if_lt (tgt := 23) cx dX6_linked_1 (by decide) (fun c1 => ?_) (fun c1 => ?_)
  · have hP := qc_ifT hP c1
    refine qj_iconst (v := (-1 : Int32)) cx dX6_linked_23 (by decide) ?_
    exact qw_iret cx hz dX6_linked_24 (Nat.zero_le _) (Nat.zero_le _) (Option.some.inj hP) rfl rfl
  · have hP := qc_ifF hP c1
    refine qj_iload_n cx dX6_linked_4 rfl rfl ?_
    refine qj_iconst (v := (3 : Int32)) cx dX6_linked_5 (by decide) ?_
    refine qj_icmp_ge (tgt := 23) cx dX6_linked_6 (by decide) (fun c2 => ?_) (fun c2 => ?_)
    · have hP := qc_ifT hP c2
      refine qj_iconst (v := (-1 : Int32)) cx dX6_linked_23 (by decide) ?_
      exact qw_iret cx hz dX6_linked_24 (Nat.zero_le _) (Nat.zero_le _) (Option.some.inj hP) rfl rfl
    · have hP := qc_ifF hP c2
      refine qj_iload_n cx dX6_linked_9 rfl rfl ?_
      refine qj_if_lt (tgt := 23) cx dX6_linked_10 (by decide) (fun c3 => ?_) (fun c3 => ?_)
      · have hP := qc_ifT hP c3
        refine qj_iconst (v := (-1 : Int32)) cx dX6_linked_23 (by decide) ?_
        exact qw_iret cx hz dX6_linked_24 (Nat.zero_le _) (Nat.zero_le _) (Option.some.inj hP) rfl rfl
      · have hP := qc_ifF hP c3
        refine qj_iload_n cx dX6_linked_13 rfl rfl ?_
        refine qj_iconst (v := (3 : Int32)) cx dX6_linked_14 (by decide) ?_
        refine qj_icmp_ge (tgt := 23) cx dX6_linked_15 (by decide) (fun c4 => ?_) (fun c4 => ?_)
        · have hP := qc_ifT hP c4
          refine qj_iconst (v := (-1 : Int32)) cx dX6_linked_23 (by decide) ?_
          exact qw_iret cx hz dX6_linked_24 (Nat.zero_le _) (Nat.zero_le _) (Option.some.inj hP) rfl rfl
        · have hP := qc_ifF hP c4
          refine qj_iload_n cx dX6_linked_18 rfl rfl ?_
          refine qj_iload_n cx dX6_linked_19 rfl rfl ?_
          refine qj_icmp_ne (tgt := 25) cx dX6_linked_20 (by decide) (fun c5 => ?_) (fun c5 => ?_)
          · have hP := qc_ifF hP c5
            refine qj_aload_n cx dX6_linked_25 rfl rfl ?_
            refine qw_getR (j := 4) (t1 := 2) cx dX6_linked_26 qc_cl6 rfl (Nat.lt_of_lt_of_le (by decide) hn) rfl ww_334 rfl ?_
            refine qw_getR (j := 8) (t1 := 4) cx dX6_linked_29 qc_cl4 rfl (Nat.lt_of_lt_of_le (by decide) hn) rfl ww_179 rfl ?_
            refine qj_iload_n cx dX6_linked_32 rfl rfl ?_
            refine qj_iconst (v := (3 : Int32)) cx dX6_linked_33 (by decide) ?_
            refine qj_imul cx dX6_linked_34 ?_
            refine qj_iload_n cx dX6_linked_35 rfl rfl ?_
            refine qj_iadd cx dX6_linked_36 ?_
            obtain ⟨c6, hP⟩ := qc_ck hP
            refine qw_iald (n1 := 9) cx dX6_linked_37 rfl (Nat.lt_of_lt_of_le (by decide) hn) rfl c6 ?_
            obtain ⟨x7, ex7, hP⟩ := qc_letE hP
            refine qw_top ex7 ?_
            refine qj_istore_n (ls1 := [some (.ref 0), some (.int a), some (.int b), some (.int x7)]) cx dX6_linked_38 rfl rfl rfl rfl ?_
            refine qj_iload_n cx dX6_linked_39 rfl rfl ?_
            refine qj_sipush (v := (1000 : Int32)) cx dX6_linked_40 (by decide) ?_
            obtain ⟨v9, hv9, hP⟩ := Option.bind_eq_some_iff.mp hP
            have Kv9 : qc_J F 0 0 52 [some (.ref 0), some (.int a), some (.int b), some (.int x7)] [.int v9] (I, J, (rX w, kX, nX, n)) := by
              exact qw_iret cx hz dX6_linked_52 (Nat.zero_le _) (Nat.zero_le _) (Option.some.inj hP) rfl rfl
            refine qj_icmp_ne (tgt := 51) cx dX6_linked_43 (by decide) (fun c8 => ?_) (fun c8 => ?_)
            · have hv9 := qc_ifF hv9 c8
              refine qj_iload_n cx dX6_linked_51 rfl rfl ?_
              exact qw_top (Option.some.inj hv9).symm Kv9
            · have hv9 := qc_ifT hv9 c8
              refine qj_bipush (v := (-2 : Int32)) cx dX6_linked_46 (by decide) ?_
              refine qj_goto (tgt := 52) cx dX6_linked_48 (by decide) ?_
              exact qw_top (Option.some.inj hv9).symm Kv9
          · have hP := qc_ifT hP c5
            refine qj_iconst (v := (-1 : Int32)) cx dX6_linked_23 (by decide) ?_
            exact qw_iret cx hz dX6_linked_24 (Nat.zero_le _) (Nat.zero_le _) (Option.some.inj hP) rfl rfl
def P_X6_crowds (I : Nat → Nat → Int32) (a : Int32) : Option (Int32) :=
  (P_X4_isUser I 2 a).bind fun q1 =>
  (if q1 = 0 then
  some (-1 : Int32)
  else
  (P_X4_crowdedBy I 2 a).bind fun q4 =>
  some q4).bind fun v3 =>
  some v3
set_option maxRecDepth 20000 in
theorem c_X6_crowds {I : Nat → Nat → Int32} {J : Nat → Nat → Int64} {w : Nat → Nat} {n : Nat} (hn : 121 ≤ n) (hn1 : n ≤ 200) {a : Int32} {q0 : Int32} (hP : P_X6_crowds I a = some q0) : ∀ l, qc_M l yX6_crowds cX6_crowds 2 (some .int) 3 66 0 0 [.ref 0, .int a] (I, J, (rX w, kX, nX, n)) (some (.int q0)) (I, J, (rX w, kX, nX, n)) := by
  intro l
  refine qc_ent2 (by decide) (Nat.le_of_ble_eq_true rfl) ?_
  intro F hn0 cx hz
  have cx : qc_X F cX6_crowds RX6 "crowds" 3 0 0 66 := cx
  show qc_J F 0 0 0 [some (.ref 0), some (.int a)] [] (I, J, (rX w, kX, nX, n))
  unfold P_X6_crowds at hP
  refine qj_aload_n cx dX6_crowds_0 rfl rfl ?_
  refine qw_getR (j := 4) (t1 := 2) cx dX6_crowds_1 qc_cl6 rfl (Nat.lt_of_lt_of_le (by decide) hn) rfl ww_334 rfl ?_
  refine qj_iload_n cx dX6_crowds_4 rfl rfl ?_
  obtain ⟨q1, eq1, hP⟩ := Option.bind_eq_some_iff.mp hP
  refine qj_callV (As := [.int a]) (st := []) (t := 2) (h' := (I, J, (rX w, kX, nX, n))) (r := some (.int q1)) cx dX6_crowds_5 (c_X4_isUser (I := I) (J := J) (w := w) hn hn1 (qc_sc2 hn) eq1) gc_RX6_94 qm_X4_isUser rfl rfl qc_cl4 rfl (Nat.lt_of_lt_of_le (by decide) hn) (by decide) (by decide) rfl (Nat.le_of_ble_eq_true rfl) (Nat.le_trans hn1 (by decide)) hn0 rfl ?_
  obtain ⟨v3, hv3, hP⟩ := Option.bind_eq_some_iff.mp hP
  have Kv3 : qc_J F 0 0 23 [some (.ref 0), some (.int a)] [.int v3] (I, J, (rX w, kX, nX, n)) := by
    exact qw_iret cx hz dX6_crowds_23 (Nat.zero_le _) (Nat.zero_le _) (Option.some.inj hP) rfl rfl
  refine qj_if_eq (tgt := 22) cx dX6_crowds_8 (by decide) (fun c2 => ?_) (fun c2 => ?_)
  · have hv3 := qc_ifT hv3 c2
    refine qj_iconst (v := (-1 : Int32)) cx dX6_crowds_22 (by decide) ?_
    exact qw_top (Option.some.inj hv3).symm Kv3
  · have hv3 := qc_ifF hv3 c2
    refine qj_aload_n cx dX6_crowds_11 rfl rfl ?_
    refine qw_getR (j := 4) (t1 := 2) cx dX6_crowds_12 qc_cl6 rfl (Nat.lt_of_lt_of_le (by decide) hn) rfl ww_334 rfl ?_
    refine qj_iload_n cx dX6_crowds_15 rfl rfl ?_
    obtain ⟨q4, eq4, hv3⟩ := Option.bind_eq_some_iff.mp hv3
    refine qj_callV (As := [.int a]) (st := []) (t := 2) (h' := (I, J, (rX w, kX, nX, n))) (r := some (.int q4)) cx dX6_crowds_16 (c_X4_crowdedBy (I := I) (J := J) (w := w) hn hn1 (qc_sc2 hn) eq4) gc_RX6_242 qm_X4_crowdedBy rfl rfl qc_cl4 rfl (Nat.lt_of_lt_of_le (by decide) hn) (by decide) (by decide) rfl (Nat.le_of_ble_eq_true rfl) (Nat.le_trans hn1 (by decide)) hn0 rfl ?_
    refine qj_goto (tgt := 23) cx dX6_crowds_19 (by decide) ?_
    exact qw_top (Option.some.inj hv3).symm Kv3
def P_X6_nearest (I : Nat → Nat → Int32) (a : Int32) : Option (Int32) :=
  (P_X4_isUser I 2 a).bind fun q1 =>
  (if q1 = 0 then
  some (-1 : Int32)
  else
  (P_X4_nearestOfSite I 2 a).bind fun q4 =>
  some q4).bind fun v3 =>
  some v3
set_option maxRecDepth 20000 in
theorem c_X6_nearest {I : Nat → Nat → Int32} {J : Nat → Nat → Int64} {w : Nat → Nat} {n : Nat} (hn : 121 ≤ n) (hn1 : n ≤ 200) {a : Int32} {q0 : Int32} (hP : P_X6_nearest I a = some q0) : ∀ l, qc_M l yX6_nearest cX6_nearest 2 (some .int) 2 47 0 0 [.ref 0, .int a] (I, J, (rX w, kX, nX, n)) (some (.int q0)) (I, J, (rX w, kX, nX, n)) := by
  intro l
  refine qc_ent2 (by decide) (Nat.le_of_ble_eq_true rfl) ?_
  intro F hn0 cx hz
  have cx : qc_X F cX6_nearest RX6 "nearest" 2 0 0 47 := cx
  show qc_J F 0 0 0 [some (.ref 0), some (.int a)] [] (I, J, (rX w, kX, nX, n))
  unfold P_X6_nearest at hP
  refine qj_aload_n cx dX6_nearest_0 rfl rfl ?_
  refine qw_getR (j := 4) (t1 := 2) cx dX6_nearest_1 qc_cl6 rfl (Nat.lt_of_lt_of_le (by decide) hn) rfl ww_334 rfl ?_
  refine qj_iload_n cx dX6_nearest_4 rfl rfl ?_
  obtain ⟨q1, eq1, hP⟩ := Option.bind_eq_some_iff.mp hP
  refine qj_callV (As := [.int a]) (st := []) (t := 2) (h' := (I, J, (rX w, kX, nX, n))) (r := some (.int q1)) cx dX6_nearest_5 (c_X4_isUser (I := I) (J := J) (w := w) hn hn1 (qc_sc2 hn) eq1) gc_RX6_94 qm_X4_isUser rfl rfl qc_cl4 rfl (Nat.lt_of_lt_of_le (by decide) hn) (by decide) (by decide) rfl (Nat.le_of_ble_eq_true rfl) (Nat.le_trans hn1 (by decide)) hn0 rfl ?_
  obtain ⟨v3, hv3, hP⟩ := Option.bind_eq_some_iff.mp hP
  have Kv3 : qc_J F 0 0 23 [some (.ref 0), some (.int a)] [.int v3] (I, J, (rX w, kX, nX, n)) := by
    exact qw_iret cx hz dX6_nearest_23 (Nat.zero_le _) (Nat.zero_le _) (Option.some.inj hP) rfl rfl
  refine qj_if_eq (tgt := 22) cx dX6_nearest_8 (by decide) (fun c2 => ?_) (fun c2 => ?_)
  · have hv3 := qc_ifT hv3 c2
    refine qj_iconst (v := (-1 : Int32)) cx dX6_nearest_22 (by decide) ?_
    exact qw_top (Option.some.inj hv3).symm Kv3
  · have hv3 := qc_ifF hv3 c2
    refine qj_aload_n cx dX6_nearest_11 rfl rfl ?_
    refine qw_getR (j := 4) (t1 := 2) cx dX6_nearest_12 qc_cl6 rfl (Nat.lt_of_lt_of_le (by decide) hn) rfl ww_334 rfl ?_
    refine qj_iload_n cx dX6_nearest_15 rfl rfl ?_
    obtain ⟨q4, eq4, hv3⟩ := Option.bind_eq_some_iff.mp hv3
    refine qj_callV (As := [.int a]) (st := []) (t := 2) (h' := (I, J, (rX w, kX, nX, n))) (r := some (.int q4)) cx dX6_nearest_16 (c_X4_nearestOfSite (I := I) (J := J) (w := w) hn hn1 (qc_sc2 hn) eq4) gc_RX6_245 qm_X4_nearestOfSite rfl rfl qc_cl4 rfl (Nat.lt_of_lt_of_le (by decide) hn) (by decide) (by decide) rfl (Nat.le_of_ble_eq_true rfl) (Nat.le_trans hn1 (by decide)) hn0 rfl ?_
    refine qj_goto (tgt := 23) cx dX6_nearest_19 (by decide) ?_
    exact qw_top (Option.some.inj hv3).symm Kv3
def P_J6_bitCount_0f7a4 (a : Int32) : Option (Int32) :=
  qc_let (a - (((a.toUInt32 >>> ((1 : Int32).toUInt32 &&& Int32.toUInt32 31)).toInt32) &&& (1431655765 : Int32))) fun x1 =>
  qc_let ((x1 &&& (858993459 : Int32)) + (((x1.toUInt32 >>> ((2 : Int32).toUInt32 &&& Int32.toUInt32 31)).toInt32) &&& (858993459 : Int32))) fun x2 =>
  qc_let ((x2 + ((x2.toUInt32 >>> ((4 : Int32).toUInt32 &&& Int32.toUInt32 31)).toInt32)) &&& (252645135 : Int32)) fun x3 =>
  qc_let (x3 + ((x3.toUInt32 >>> ((8 : Int32).toUInt32 &&& Int32.toUInt32 31)).toInt32)) fun x4 =>
  qc_let (x4 + ((x4.toUInt32 >>> ((16 : Int32).toUInt32 &&& Int32.toUInt32 31)).toInt32)) fun x5 =>
  some (x5 &&& (63 : Int32))
set_option maxRecDepth 20000 in
theorem c_J6_bitCount_0f7a4 {I : Nat → Nat → Int32} {J : Nat → Nat → Int64} {S : qc_Sh} {a : Int32} {q0 : Int32} (hP : P_J6_bitCount_0f7a4 a = some q0) : ∀ l, qc_M l yJ6_bitCount_0f7a4 cJ6_bitCount_0f7a4 1 (some .int) 0 0 0 0 [.int a] (I, J, S) (some (.int q0)) (I, J, S) := by
  intro l
  refine qc_ent2 (by decide) (Nat.le_of_ble_eq_true rfl) ?_
  intro F hn0 cx hz
  have cx : qc_X F cJ6_bitCount_0f7a4 RJ6 "bitCount" 0 0 0 0 := cx
  show qc_J F 0 0 0 [some (.int a)] [] (I, J, S)
  unfold P_J6_bitCount_0f7a4 at hP
  refine qj_iload_n cx dJ6_bitCount_0f7a4_0 rfl rfl ?_
  refine qj_iload_n cx dJ6_bitCount_0f7a4_1 rfl rfl ?_
  refine qj_iconst (v := (1 : Int32)) cx dJ6_bitCount_0f7a4_2 (by decide) ?_
  refine qj_iushr cx dJ6_bitCount_0f7a4_3 ?_
  refine qj_ldcw cx dJ6_bitCount_0f7a4_4 ww_692 ?_
  refine qj_iand cx dJ6_bitCount_0f7a4_7 ?_
  refine qj_isub cx dJ6_bitCount_0f7a4_8 ?_
  obtain ⟨x1, ex1, hP⟩ := qc_letE hP
  refine qw_top ex1 ?_
  refine qj_istore_n (ls1 := [some (.int x1)]) cx dJ6_bitCount_0f7a4_9 rfl rfl rfl rfl ?_
  refine qj_iload_n cx dJ6_bitCount_0f7a4_10 rfl rfl ?_
  refine qj_ldcw cx dJ6_bitCount_0f7a4_11 ww_693 ?_
  refine qj_iand cx dJ6_bitCount_0f7a4_14 ?_
  refine qj_iload_n cx dJ6_bitCount_0f7a4_15 rfl rfl ?_
  refine qj_iconst (v := (2 : Int32)) cx dJ6_bitCount_0f7a4_16 (by decide) ?_
  refine qj_iushr cx dJ6_bitCount_0f7a4_17 ?_
  refine qj_ldcw cx dJ6_bitCount_0f7a4_18 ww_693 ?_
  refine qj_iand cx dJ6_bitCount_0f7a4_21 ?_
  refine qj_iadd cx dJ6_bitCount_0f7a4_22 ?_
  obtain ⟨x2, ex2, hP⟩ := qc_letE hP
  refine qw_top ex2 ?_
  refine qj_istore_n (ls1 := [some (.int x2)]) cx dJ6_bitCount_0f7a4_23 rfl rfl rfl rfl ?_
  refine qj_iload_n cx dJ6_bitCount_0f7a4_24 rfl rfl ?_
  refine qj_iload_n cx dJ6_bitCount_0f7a4_25 rfl rfl ?_
  refine qj_iconst (v := (4 : Int32)) cx dJ6_bitCount_0f7a4_26 (by decide) ?_
  refine qj_iushr cx dJ6_bitCount_0f7a4_27 ?_
  refine qj_iadd cx dJ6_bitCount_0f7a4_28 ?_
  refine qj_ldcw cx dJ6_bitCount_0f7a4_29 ww_694 ?_
  refine qj_iand cx dJ6_bitCount_0f7a4_32 ?_
  obtain ⟨x3, ex3, hP⟩ := qc_letE hP
  refine qw_top ex3 ?_
  refine qj_istore_n (ls1 := [some (.int x3)]) cx dJ6_bitCount_0f7a4_33 rfl rfl rfl rfl ?_
  refine qj_iload_n cx dJ6_bitCount_0f7a4_34 rfl rfl ?_
  refine qj_iload_n cx dJ6_bitCount_0f7a4_35 rfl rfl ?_
  refine qj_bipush (v := (8 : Int32)) cx dJ6_bitCount_0f7a4_36 (by decide) ?_
  refine qj_iushr cx dJ6_bitCount_0f7a4_38 ?_
  refine qj_iadd cx dJ6_bitCount_0f7a4_39 ?_
  obtain ⟨x4, ex4, hP⟩ := qc_letE hP
  refine qw_top ex4 ?_
  refine qj_istore_n (ls1 := [some (.int x4)]) cx dJ6_bitCount_0f7a4_40 rfl rfl rfl rfl ?_
  refine qj_iload_n cx dJ6_bitCount_0f7a4_41 rfl rfl ?_
  refine qj_iload_n cx dJ6_bitCount_0f7a4_42 rfl rfl ?_
  refine qj_bipush (v := (16 : Int32)) cx dJ6_bitCount_0f7a4_43 (by decide) ?_
  refine qj_iushr cx dJ6_bitCount_0f7a4_45 ?_
  refine qj_iadd cx dJ6_bitCount_0f7a4_46 ?_
  obtain ⟨x5, ex5, hP⟩ := qc_letE hP
  refine qw_top ex5 ?_
  refine qj_istore_n (ls1 := [some (.int x5)]) cx dJ6_bitCount_0f7a4_47 rfl rfl rfl rfl ?_
  refine qj_iload_n cx dJ6_bitCount_0f7a4_48 rfl rfl ?_
  refine qj_bipush (v := (63 : Int32)) cx dJ6_bitCount_0f7a4_49 (by decide) ?_
  refine qj_iand cx dJ6_bitCount_0f7a4_51 ?_
  exact qw_iret cx hz dJ6_bitCount_0f7a4_52 (Nat.zero_le _) (Nat.zero_le _) (Option.some.inj hP) rfl rfl
def P_J13_bitCount_95d88 (a : Int64) : Option (Int32) :=
  qc_let (a - (((a.toUInt64 >>> ((1 : Int32).toInt64.toUInt64 &&& Int64.toUInt64 63)).toInt64) &&& (6148914691236517205 : Int64))) fun x1 =>
  qc_let ((x1 &&& (3689348814741910323 : Int64)) + (((x1.toUInt64 >>> ((2 : Int32).toInt64.toUInt64 &&& Int64.toUInt64 63)).toInt64) &&& (3689348814741910323 : Int64))) fun x2 =>
  qc_let ((x2 + ((x2.toUInt64 >>> ((4 : Int32).toInt64.toUInt64 &&& Int64.toUInt64 63)).toInt64)) &&& (1085102592571150095 : Int64)) fun x3 =>
  qc_let (x3 + ((x3.toUInt64 >>> ((8 : Int32).toInt64.toUInt64 &&& Int64.toUInt64 63)).toInt64)) fun x4 =>
  qc_let (x4 + ((x4.toUInt64 >>> ((16 : Int32).toInt64.toUInt64 &&& Int64.toUInt64 63)).toInt64)) fun x5 =>
  qc_let (x5 + ((x5.toUInt64 >>> ((32 : Int32).toInt64.toUInt64 &&& Int64.toUInt64 63)).toInt64)) fun x6 =>
  some (x6.toInt32 &&& (127 : Int32))
set_option maxRecDepth 20000 in
theorem c_J13_bitCount_95d88 {I : Nat → Nat → Int32} {J : Nat → Nat → Int64} {S : qc_Sh} {a : Int64} {q0 : Int32} (hP : P_J13_bitCount_95d88 a = some q0) : ∀ l, qc_M l yJ13_bitCount_95d88 cJ13_bitCount_95d88 2 (some .int) 0 0 0 0 [.long a] (I, J, S) (some (.int q0)) (I, J, S) := by
  intro l
  refine qc_ent2 (by decide) (Nat.le_of_ble_eq_true rfl) ?_
  intro F hn0 cx hz
  have cx : qc_X F cJ13_bitCount_95d88 RJ13 "bitCount" 0 0 0 0 := cx
  show qc_J F 0 0 0 [some (.long a), none] [] (I, J, S)
  unfold P_J13_bitCount_95d88 at hP
  refine qj_lload_n cx dJ13_bitCount_95d88_0 rfl rfl ?_
  refine qj_lload_n cx dJ13_bitCount_95d88_1 rfl rfl ?_
  refine qj_iconst (v := (1 : Int32)) cx dJ13_bitCount_95d88_2 (by decide) ?_
  refine qj_lushr cx dJ13_bitCount_95d88_3 ?_
  refine qj_ldc2 cx dJ13_bitCount_95d88_4 ww_732 ?_
  refine qj_land cx dJ13_bitCount_95d88_7 ?_
  refine qj_lsub cx dJ13_bitCount_95d88_8 ?_
  obtain ⟨x1, ex1, hP⟩ := qc_letE hP
  refine qw_topl ex1 ?_
  refine qj_lstore_n (ls1 := [some (.long x1), none]) cx dJ13_bitCount_95d88_9 rfl rfl rfl rfl ?_
  refine qj_lload_n cx dJ13_bitCount_95d88_10 rfl rfl ?_
  refine qj_ldc2 cx dJ13_bitCount_95d88_11 ww_733 ?_
  refine qj_land cx dJ13_bitCount_95d88_14 ?_
  refine qj_lload_n cx dJ13_bitCount_95d88_15 rfl rfl ?_
  refine qj_iconst (v := (2 : Int32)) cx dJ13_bitCount_95d88_16 (by decide) ?_
  refine qj_lushr cx dJ13_bitCount_95d88_17 ?_
  refine qj_ldc2 cx dJ13_bitCount_95d88_18 ww_733 ?_
  refine qj_land cx dJ13_bitCount_95d88_21 ?_
  refine qj_ladd cx dJ13_bitCount_95d88_22 ?_
  obtain ⟨x2, ex2, hP⟩ := qc_letE hP
  refine qw_topl ex2 ?_
  refine qj_lstore_n (ls1 := [some (.long x2), none]) cx dJ13_bitCount_95d88_23 rfl rfl rfl rfl ?_
  refine qj_lload_n cx dJ13_bitCount_95d88_24 rfl rfl ?_
  refine qj_lload_n cx dJ13_bitCount_95d88_25 rfl rfl ?_
  refine qj_iconst (v := (4 : Int32)) cx dJ13_bitCount_95d88_26 (by decide) ?_
  refine qj_lushr cx dJ13_bitCount_95d88_27 ?_
  refine qj_ladd cx dJ13_bitCount_95d88_28 ?_
  refine qj_ldc2 cx dJ13_bitCount_95d88_29 ww_734 ?_
  refine qj_land cx dJ13_bitCount_95d88_32 ?_
  obtain ⟨x3, ex3, hP⟩ := qc_letE hP
  refine qw_topl ex3 ?_
  refine qj_lstore_n (ls1 := [some (.long x3), none]) cx dJ13_bitCount_95d88_33 rfl rfl rfl rfl ?_
  refine qj_lload_n cx dJ13_bitCount_95d88_34 rfl rfl ?_
  refine qj_lload_n cx dJ13_bitCount_95d88_35 rfl rfl ?_
  refine qj_bipush (v := (8 : Int32)) cx dJ13_bitCount_95d88_36 (by decide) ?_
  refine qj_lushr cx dJ13_bitCount_95d88_38 ?_
  refine qj_ladd cx dJ13_bitCount_95d88_39 ?_
  obtain ⟨x4, ex4, hP⟩ := qc_letE hP
  refine qw_topl ex4 ?_
  refine qj_lstore_n (ls1 := [some (.long x4), none]) cx dJ13_bitCount_95d88_40 rfl rfl rfl rfl ?_
  refine qj_lload_n cx dJ13_bitCount_95d88_41 rfl rfl ?_
  refine qj_lload_n cx dJ13_bitCount_95d88_42 rfl rfl ?_
  refine qj_bipush (v := (16 : Int32)) cx dJ13_bitCount_95d88_43 (by decide) ?_
  refine qj_lushr cx dJ13_bitCount_95d88_45 ?_
  refine qj_ladd cx dJ13_bitCount_95d88_46 ?_
  obtain ⟨x5, ex5, hP⟩ := qc_letE hP
  refine qw_topl ex5 ?_
  refine qj_lstore_n (ls1 := [some (.long x5), none]) cx dJ13_bitCount_95d88_47 rfl rfl rfl rfl ?_
  refine qj_lload_n cx dJ13_bitCount_95d88_48 rfl rfl ?_
  refine qj_lload_n cx dJ13_bitCount_95d88_49 rfl rfl ?_
  refine qj_bipush (v := (32 : Int32)) cx dJ13_bitCount_95d88_50 (by decide) ?_
  refine qj_lushr cx dJ13_bitCount_95d88_52 ?_
  refine qj_ladd cx dJ13_bitCount_95d88_53 ?_
  obtain ⟨x6, ex6, hP⟩ := qc_letE hP
  refine qw_topl ex6 ?_
  refine qj_lstore_n (ls1 := [some (.long x6), none]) cx dJ13_bitCount_95d88_54 rfl rfl rfl rfl ?_
  refine qj_lload_n cx dJ13_bitCount_95d88_55 rfl rfl ?_
  refine qj_l2i cx dJ13_bitCount_95d88_56 ?_
  refine qj_bipush (v := (127 : Int32)) cx dJ13_bitCount_95d88_57 (by decide) ?_
  refine qj_iand cx dJ13_bitCount_95d88_59 ?_
  exact qw_iret cx hz dJ13_bitCount_95d88_60 (Nat.zero_le _) (Nat.zero_le _) (Option.some.inj hP) rfl rfl
def P_X0_push_13 (p : Nat) (I : (Nat → Nat → Int32)) (J : (Nat → Nat → Int64)) (w : (Nat → Nat)) : Option ((Nat → Nat → Int32) × (Nat → Nat → Int64) × (Nat → Nat)) :=
  if qc_in (I 35 1) 20 then
  if qc_ti (w (I 35 1).toNatClampNeg) then
  (P_X1_take I J (w (I 35 1).toNatClampNeg) p).bind fun q3 =>
  qc_let (qc_u2 q3.1 35 1 ((q3.1 35 1) + (1 : Int32))) fun I4 =>
  some (I4, q3.2, w)
  else none
  else none
def P_X0_push (I : Nat → Nat → Int32) (J : Nat → Nat → Int64) (w : Nat → Nat) (p : Nat) : Option ((Nat → Nat → Int32) × (Nat → Nat → Int64) × (Nat → Nat)) :=
  if I 35 1 < (20 : Int32) then
  P_X0_push_13 p I J w
  else
  (P_X0_dropOldest I w).bind fun q7 =>
  P_X0_push_13 p q7.1 J q7.2
set_option maxRecDepth 20000 in
theorem c_X0_push {I : Nat → Nat → Int32} {J : Nat → Nat → Int64} {w : Nat → Nat} {n : Nat} (hn : 121 ≤ n) (hn1 : n ≤ 200) {p : Nat} (hp : qc_sc n p)  {q0 : (Nat → Nat → Int32) × (Nat → Nat → Int64) × (Nat → Nat)} (hP : P_X0_push I J w p = some q0) : ∀ l, qc_M l yX0_push cX0_push 2 none 2 47 0 0 [.ref 35, .ref p] (I, J, (rX w, kX, nX, n)) none (q0.1, q0.2.1, (rX q0.2.2, kX, nX, n)) := by
  intro l
  refine qc_ent2 (by decide) (Nat.le_of_ble_eq_true rfl) ?_
  intro F hn0 cx hz
  have cx : qc_X F cX0_push RX0 "push" 2 0 0 47 := cx
  have L13 : ∀  (I : (Nat → Nat → Int32)) (J : (Nat → Nat → Int64)) (w : (Nat → Nat)), P_X0_push_13 p I J w = some q0 → qc_J F 0 0 13 [some (.ref 35), some (.ref p)] [] (I, J, (rX w, kX, nX, n)) := by
    intro I J w hP
    unfold P_X0_push_13 at hP
    refine qj_aload_n cx dX0_push_13 rfl rfl ?_
    refine qw_getR (j := 0) (t1 := 36) cx dX0_push_14 qc_cl0 rfl (Nat.lt_of_lt_of_le (by decide) hn) rfl ww_320 rfl ?_
    refine qj_aload_n cx dX0_push_17 rfl rfl ?_
    refine qw_getI (j := 1) cx dX0_push_18 qc_cl0 rfl (Nat.lt_of_lt_of_le (by decide) hn) rfl ww_321 ?_
    obtain ⟨c1, hP⟩ := qc_ck hP
    obtain ⟨c2, hP⟩ := qc_ck hP
    refine qw_aald (n1 := 20) (t1 := (w (I 35 1).toNatClampNeg)) cx dX0_push_21 rfl (Or.inl ⟨rfl, rfl⟩) (Nat.lt_of_lt_of_le (by decide) hn) rfl c1 rfl ?_
    refine qj_aload_n cx dX0_push_22 rfl rfl ?_
    obtain ⟨q3, eq3, hP⟩ := Option.bind_eq_some_iff.mp hP
    refine qj_callV (As := [.ref p]) (st := []) (t := (w (I 35 1).toNatClampNeg)) (h' := (q3.1, q3.2, (rX w, kX, nX, n))) (r := none) cx dX0_push_23 (c_X1_take (I := I) (J := J) (w := w) hn hn1 (qc_imt hn c2) hp eq3) gc_RX0_25 qm_X1_take rfl rfl qc_cl1 (qc_imt hn c2).2.1 (qc_ltp0 (qc_imt hn c2).1) (by decide) (by decide) rfl (Nat.le_of_ble_eq_true rfl) (Nat.le_trans hn1 (by decide)) hn0 rfl ?_
    refine qj_aload_n cx dX0_push_26 rfl rfl ?_
    refine qj_dup cx dX0_push_27 rfl ?_
    refine qw_getI (j := 1) cx dX0_push_28 qc_cl0 rfl (Nat.lt_of_lt_of_le (by decide) hn) rfl ww_321 ?_
    refine qj_iconst (v := (1 : Int32)) cx dX0_push_31 (by decide) ?_
    refine qj_iadd cx dX0_push_32 ?_
    obtain ⟨I4, eI4, hP⟩ := qc_letE hP
    refine qw_putI (j := 1) cx dX0_push_33 qc_cl0 rfl (Nat.lt_of_lt_of_le (by decide) hn) rfl ww_321 rfl rfl rfl eI4 ?_
    have hz := qc_Zw (congrArg (fun q => q.2.2) (Option.some.inj hP)) hz
    exact qw_vret cx hz dX0_push_36 (Nat.zero_le _) (Nat.zero_le _) (congrArg (fun q => q.1) (Option.some.inj hP)) (congrArg (fun q => q.2.1) (Option.some.inj hP))
  show qc_J F 0 0 0 [some (.ref 35), some (.ref p)] [] (I, J, (rX w, kX, nX, n))
  unfold P_X0_push at hP
  refine qj_aload_n cx dX0_push_0 rfl rfl ?_
  refine qw_getI (j := 1) cx dX0_push_1 qc_cl0 rfl (Nat.lt_of_lt_of_le (by decide) hn) rfl ww_321 ?_
  refine qj_bipush (v := (20 : Int32)) cx dX0_push_4 (by decide) ?_
  refine qj_icmp_lt (tgt := 13) cx dX0_push_6 (by decide) (fun c6 => ?_) (fun c6 => ?_)
  · have hP := qc_ifT hP c6
    exact L13 I J w hP
  · have hP := qc_ifF hP c6
    refine qj_aload_n cx dX0_push_9 rfl rfl ?_
    obtain ⟨q7, eq7, hP⟩ := Option.bind_eq_some_iff.mp hP
    refine qj_callV (As := []) (st := []) (t := 35) (h' := (q7.1, J, (rX q7.2, kX, nX, n))) (r := none) cx dX0_push_10 (c_X0_dropOldest (I := I) (J := J) (w := w) hn hn1 eq7) gc_RX0_22 qm_X0_dropOldest rfl rfl qc_cl0 rfl (Nat.lt_of_lt_of_le (by decide) hn) (by decide) (by decide) rfl (Nat.le_of_ble_eq_true rfl) (Nat.le_trans hn1 (by decide)) hn0 rfl ?_
    exact L13 q7.1 J q7.2 hP
def P_X0_pop (I : Nat → Nat → Int32) (J : Nat → Nat → Int64) (w : Nat → Nat) (p : Nat) : Option (Int32 × (Nat → Nat → Int32) × (Nat → Nat → Int64)) :=
  if 0 < I 35 1 then
  qc_let (qc_u2 I 35 1 ((I 35 1) - (1 : Int32))) fun I2 =>
  if qc_in (I2 35 1) 20 then
  if qc_ti (w (I2 35 1).toNatClampNeg) then
  (P_X1_giveTo I2 J (w (I2 35 1).toNatClampNeg) p).bind fun q5 =>
  some ((1 : Int32), q5.1, q5.2)
  else none
  else none
  else
  some ((0 : Int32), I, J)
set_option maxRecDepth 20000 in
theorem c_X0_pop {I : Nat → Nat → Int32} {J : Nat → Nat → Int64} {w : Nat → Nat} {n : Nat} (hn : 121 ≤ n) (hn1 : n ≤ 200) {p : Nat} (hp : qc_sc n p)  {q0 : Int32 × (Nat → Nat → Int32) × (Nat → Nat → Int64)} (hP : P_X0_pop I J w p = some q0) : ∀ l, qc_M l yX0_pop cX0_pop 2 (some .boolean) 2 47 0 0 [.ref 35, .ref p] (I, J, (rX w, kX, nX, n)) (some (.int q0.1)) (q0.2.1, q0.2.2, (rX w, kX, nX, n)) := by
  intro l
  refine qc_ent2 (by decide) (Nat.le_of_ble_eq_true rfl) ?_
  intro F hn0 cx hz
  have cx : qc_X F cX0_pop RX0 "pop" 2 0 0 47 := cx
  show qc_J F 0 0 0 [some (.ref 35), some (.ref p)] [] (I, J, (rX w, kX, nX, n))
  unfold P_X0_pop at hP
  refine qj_aload_n cx dX0_pop_0 rfl rfl ?_
  refine qw_getI (j := 1) cx dX0_pop_1 qc_cl0 rfl (Nat.lt_of_lt_of_le (by decide) hn) rfl ww_321 ?_
  refine qj_if_gt (tgt := 9) cx dX0_pop_4 (by decide) (fun c1 => ?_) (fun c1 => ?_)
  · have hP := qc_ifT hP c1
    refine qj_aload_n cx dX0_pop_9 rfl rfl ?_
    refine qj_dup cx dX0_pop_10 rfl ?_
    refine qw_getI (j := 1) cx dX0_pop_11 qc_cl0 rfl (Nat.lt_of_lt_of_le (by decide) hn) rfl ww_321 ?_
    refine qj_iconst (v := (1 : Int32)) cx dX0_pop_14 (by decide) ?_
    refine qj_isub cx dX0_pop_15 ?_
    obtain ⟨I2, eI2, hP⟩ := qc_letE hP
    refine qw_putI (j := 1) cx dX0_pop_16 qc_cl0 rfl (Nat.lt_of_lt_of_le (by decide) hn) rfl ww_321 rfl rfl rfl eI2 ?_
    refine qj_aload_n cx dX0_pop_19 rfl rfl ?_
    refine qw_getR (j := 0) (t1 := 36) cx dX0_pop_20 qc_cl0 rfl (Nat.lt_of_lt_of_le (by decide) hn) rfl ww_320 rfl ?_
    refine qj_aload_n cx dX0_pop_23 rfl rfl ?_
    refine qw_getI (j := 1) cx dX0_pop_24 qc_cl0 rfl (Nat.lt_of_lt_of_le (by decide) hn) rfl ww_321 ?_
    obtain ⟨c3, hP⟩ := qc_ck hP
    obtain ⟨c4, hP⟩ := qc_ck hP
    refine qw_aald (n1 := 20) (t1 := (w (I2 35 1).toNatClampNeg)) cx dX0_pop_27 rfl (Or.inl ⟨rfl, rfl⟩) (Nat.lt_of_lt_of_le (by decide) hn) rfl c3 rfl ?_
    refine qj_aload_n cx dX0_pop_28 rfl rfl ?_
    obtain ⟨q5, eq5, hP⟩ := Option.bind_eq_some_iff.mp hP
    refine qj_callV (As := [.ref p]) (st := []) (t := (w (I2 35 1).toNatClampNeg)) (h' := (q5.1, q5.2, (rX w, kX, nX, n))) (r := none) cx dX0_pop_29 (c_X1_giveTo (I := I2) (J := J) (w := w) hn hn1 (qc_imt hn c4) hp eq5) gc_RX0_29 qm_X1_giveTo rfl rfl qc_cl1 (qc_imt hn c4).2.1 (qc_ltp0 (qc_imt hn c4).1) (by decide) (by decide) rfl (Nat.le_of_ble_eq_true rfl) (Nat.le_trans hn1 (by decide)) hn0 rfl ?_
    refine qj_iconst (v := (1 : Int32)) cx dX0_pop_32 (by decide) ?_
    exact qw_zret cx hz dX0_pop_33 (by decide) (Nat.zero_le _) (Nat.zero_le _) (congrArg (fun q => q.1) (Option.some.inj hP)) (congrArg (fun q => q.2.1) (Option.some.inj hP)) (congrArg (fun q => q.2.2) (Option.some.inj hP))
  · have hP := qc_ifF hP c1
    refine qj_iconst (v := (0 : Int32)) cx dX0_pop_7 (by decide) ?_
    exact qw_zret cx hz dX0_pop_8 (by decide) (Nat.zero_le _) (Nat.zero_le _) (congrArg (fun q => q.1) (Option.some.inj hP)) (congrArg (fun q => q.2.1) (Option.some.inj hP)) (congrArg (fun q => q.2.2) (Option.some.inj hP))
def P_X2_add_343 (J : Nat → Nat → Int64) (p : Nat) (k266 : (Nat → Nat → Int32) → Int32 → Int32 → Int32 → Option ((Nat → Nat → Int32))) (I : (Nat → Nat → Int32)) (a6 : Int32) (a7 : Int32) (a9 : Int32) : Option ((Nat → Nat → Int32)) :=
  qc_let (a9 + (1 : Int32)) fun x1 =>
  k266 I a6 a7 x1
def P_X2_add_266 (J : Nat → Nat → Int64) (p : Nat) : Nat → (Nat → Nat → Int32) → Int32 → Int32 → Int32 → Option ((Nat → Nat → Int32))
  | 0, _, _, _, _ => none
  | f + 1, I, a6, a7, a9 =>
  if I p 0 ≤ a9 then
  qc_let (qc_u2 I 22 1 ((I 22 1) + (1 : Int32))) fun I3 =>
  some I3
  else
  if a7 = 0 then
  qc_let (qc_u2 I 22 1 ((I 22 1) + (1 : Int32))) fun I5 =>
  some I5
  else
  if qc_in a9 8 then
  if I p 2 < (if 0 ≤ (I (p + 1 + 6) a9.toNatClampNeg) - a6 then ((I (p + 1 + 6) a9.toNatClampNeg) - a6) else 0 - ((I (p + 1 + 6) a9.toNatClampNeg) - a6)) then
  P_X2_add_343 J p (P_X2_add_266 J p f) I a6 a7 a9
  else
  (P_X2_mayStrike I p (I 22 1) a9).bind fun q8 =>
  if q8 = 0 then
  P_X2_add_343 J p (P_X2_add_266 J p f) I a6 a7 a9
  else
  if qc_in (I 22 1) 700 then
  if qc_in (I 22 1) 700 then
  qc_let (qc_u2 I 30 (I 22 1).toNatClampNeg ((I 30 (I 22 1).toNatClampNeg) ||| ((1 : Int32) <<< (a9 &&& 31)))) fun I11 =>
  qc_let (qc_u2 I11 22 2 ((I11 22 2) + (1 : Int32))) fun I12 =>
  P_X2_add_343 J p (P_X2_add_266 J p f) I12 a6 a7 a9
  else none
  else none
  else none
def P_X2_add_151 (J : Nat → Nat → Int64) (p : Nat) (I : (Nat → Nat → Int32)) (a2 : Int32) (a3 : Int32) (a4 : Int32) (a5 : Int32) (a6 : Int32) (a7 : Int32) (a8 : Int32) : Option ((Nat → Nat → Int32)) :=
  if qc_in (I 22 1) 700 then
  qc_let (qc_u2 I 24 (I 22 1).toNatClampNeg a2) fun I14 =>
  if qc_in (I14 22 1) 700 then
  qc_let (qc_u2 I14 25 (I14 22 1).toNatClampNeg a3) fun I15 =>
  if qc_in (I15 22 1) 700 then
  qc_let (qc_u2 I15 26 (I15 22 1).toNatClampNeg a4) fun I16 =>
  if qc_in (I16 22 1) 700 then
  qc_let (qc_u2 I16 27 (I16 22 1).toNatClampNeg a5) fun I17 =>
  if qc_in (I17 22 1) 700 then
  qc_let (qc_u2 I17 28 (I17 22 1).toNatClampNeg a6) fun I18 =>
  (P_X2_levelOf I18 p a2 a3 a4 a5).bind fun q19 =>
  if qc_in (I18 22 1) 700 then
  qc_let (qc_u2 I18 29 (I18 22 1).toNatClampNeg q19) fun I20 =>
  if qc_in (I20 22 1) 700 then
  qc_let (qc_u2 I20 31 (I20 22 1).toNatClampNeg a8) fun I21 =>
  if qc_in (I21 22 1) 700 then
  qc_let (qc_u2 I21 30 (I21 22 1).toNatClampNeg (0 : Int32)) fun I22 =>
  P_X2_add_266 J p qc_fu I22 a6 a7 (0 : Int32)
  else none
  else none
  else none
  else none
  else none
  else none
  else none
  else none
def P_X2_add (I : Nat → Nat → Int32) (J : Nat → Nat → Int64) (p : Nat) (a : Int32) (b : Int32) (c : Int32) (d : Int32) : Option ((Nat → Nat → Int32)) :=
  if qc_in a 6 then
  if qc_in b 8 then
  if qc_in a 6 then
  if qc_in c 8 then
  (if 0 ≤ d then
  if qc_in a 6 then
  if qc_in d 8 then
  some (((qc_sv 2).getD a.toNatClampNeg 0) * (I (p + 1 + 6) d.toNatClampNeg))
  else none
  else none
  else
  some (0 : Int32)).bind fun v36 =>
  qc_let (((((qc_sv 0).getD a.toNatClampNeg 0) * (I (p + 1 + 6) b.toNatClampNeg)) + (((qc_sv 1).getD a.toNatClampNeg 0) * (I (p + 1 + 6) c.toNatClampNeg))) + v36) fun x39 =>
  if x39 < (1 : Int32) then
  some I
  else
  if I p 1 < x39 then
  some I
  else
  if I 22 1 < (700 : Int32) then
  (if lg_cmp (((J 22 5) >>> (x39.toInt64 &&& 63)) &&& (1 : Int64)) (0 : Int64) = 0 then
  some (0 : Int32)
  else
  some (1 : Int32)).bind fun v44 =>
  if qc_in b 8 then
  if qc_in c 8 then
  (if 0 ≤ d then
  if qc_in d 8 then
  some (I (p + 1 + 8) d.toNatClampNeg)
  else none
  else
  some (255 : Int32)).bind fun v48 =>
  qc_let (((I (p + 1 + 8) b.toNatClampNeg) &&& (I (p + 1 + 8) c.toNatClampNeg)) &&& v48) fun x50 =>
  if x50 = 0 then
  some I
  else
  if I 22 6 = 0 then
  P_X2_add_151 J p I a b c d x39 v44 x50
  else
  if v44 = 0 then
  some I
  else
  P_X2_add_151 J p I a b c d x39 v44 x50
  else none
  else none
  else
  some I
  else none
  else none
  else none
  else none
set_option maxRecDepth 20000 in
theorem c_X2_add {I : Nat → Nat → Int32} {J : Nat → Nat → Int64} {w : Nat → Nat} {n : Nat} (hn : 121 ≤ n) (hn1 : n ≤ 200) {p : Nat} (hp : qc_sc n p) {a : Int32} {b : Int32} {c : Int32} {d : Int32} {q0 : (Nat → Nat → Int32)} (hP : P_X2_add I J p a b c d = some q0) : ∀ l, qc_M l yX2_add cX2_add 10 none 1 26 0 0 [.ref 22, .ref p, .int a, .int b, .int c, .int d] (I, J, (rX w, kX, nX, n)) none (q0, J, (rX w, kX, nX, n)) := by
  intro l
  refine qc_ent2 (by decide) (Nat.le_of_ble_eq_true rfl) ?_
  intro F hn0 cx hz
  have cx : qc_X F cX2_add RX2 "add" 1 0 0 26 := cx
  have L343 : ∀ (k266 : (Nat → Nat → Int32) → Int32 → Int32 → Int32 → Option ((Nat → Nat → Int32))) (g266 : ∀ (I : Nat → Nat → Int32) (a6 : Int32) (a7 : Int32) (a9 : Int32), k266 I a6 a7 a9 = some q0 → qc_J F 0 0 266 [some (.ref 22), some (.ref p), none, none, none, none, some (.int a6), some (.int a7), none, some (.int a9)] [] (I, J, (rX w, kX, nX, n))) (I : (Nat → Nat → Int32)) (a6 : Int32) (a7 : Int32) (a9 : Int32), P_X2_add_343 J p k266 I a6 a7 a9 = some q0 → qc_J F 0 0 343 [some (.ref 22), some (.ref p), none, none, none, none, some (.int a6), some (.int a7), none, some (.int a9)] [] (I, J, (rX w, kX, nX, n)) := by
    intro k266 g266 I a6 a7 a9 hP
    unfold P_X2_add_343 at hP
    obtain ⟨x1, ex1, hP⟩ := qc_letE hP
    refine qj_iinc (v := x1) (ls1 := [some (.ref 22), some (.ref p), none, none, none, none, some (.int a6), some (.int a7), none, some (.int x1)]) cx dX2_add_343 rfl (by rw [ex1]; rfl) rfl rfl ?_
    refine qj_goto (tgt := 266) cx dX2_add_346 (by decide) ?_
    exact g266 I a6 a7 x1 hP
  have L266 : ∀  (f : Nat) (I : (Nat → Nat → Int32)) (a6 : Int32) (a7 : Int32) (a9 : Int32), P_X2_add_266 J p f I a6 a7 a9 = some q0 → qc_J F 0 0 266 [some (.ref 22), some (.ref p), none, none, none, none, some (.int a6), some (.int a7), none, some (.int a9)] [] (I, J, (rX w, kX, nX, n)) := by
    intro  f
    induction f with
    | zero => intro I a6 a7 a9 hP; cases hP
    | succ f ih =>
      intro I a6 a7 a9 hP
      rw [P_X2_add_266] at hP
      refine qj_iload cx dX2_add_266 rfl ?_
      refine qj_aload_n cx dX2_add_268 rfl rfl ?_
      refine qw_getI (j := 0) cx dX2_add_269 qc_cl4 hp.2.1 (qc_ltp0 hp.1) rfl ww_149 ?_
      refine qj_icmp_ge (tgt := 349) cx dX2_add_272 (by decide) (fun c2 => ?_) (fun c2 => ?_)
      · have hP := qc_ifT hP c2
        refine qj_aload_n cx dX2_add_349 rfl rfl ?_
        refine qj_dup cx dX2_add_350 rfl ?_
        refine qw_getI (j := 1) cx dX2_add_351 qc_cl2 rfl (Nat.lt_of_lt_of_le (by decide) hn) rfl ww_254 ?_
        refine qj_iconst (v := (1 : Int32)) cx dX2_add_354 (by decide) ?_
        refine qj_iadd cx dX2_add_355 ?_
        obtain ⟨I3, eI3, hP⟩ := qc_letE hP
        refine qw_putI (j := 1) cx dX2_add_356 qc_cl2 rfl (Nat.lt_of_lt_of_le (by decide) hn) rfl ww_254 rfl rfl rfl eI3 ?_
        exact qw_vret cx hz dX2_add_359 (Nat.zero_le _) (Nat.zero_le _) (Option.some.inj hP) rfl
      · have hP := qc_ifF hP c2
        refine qj_iload cx dX2_add_275 rfl ?_
        refine qj_if_eq (tgt := 349) cx dX2_add_277 (by decide) (fun c4 => ?_) (fun c4 => ?_)
        · have hP := qc_ifT hP c4
          refine qj_aload_n cx dX2_add_349 rfl rfl ?_
          refine qj_dup cx dX2_add_350 rfl ?_
          refine qw_getI (j := 1) cx dX2_add_351 qc_cl2 rfl (Nat.lt_of_lt_of_le (by decide) hn) rfl ww_254 ?_
          refine qj_iconst (v := (1 : Int32)) cx dX2_add_354 (by decide) ?_
          refine qj_iadd cx dX2_add_355 ?_
          obtain ⟨I5, eI5, hP⟩ := qc_letE hP
          refine qw_putI (j := 1) cx dX2_add_356 qc_cl2 rfl (Nat.lt_of_lt_of_le (by decide) hn) rfl ww_254 rfl rfl rfl eI5 ?_
          exact qw_vret cx hz dX2_add_359 (Nat.zero_le _) (Nat.zero_le _) (Option.some.inj hP) rfl
        · have hP := qc_ifF hP c4
          refine qj_aload_n cx dX2_add_280 rfl rfl ?_
          refine qw_getR (j := 13) (t1 := (p + 1 + 6)) cx dX2_add_281 qc_cl4 hp.2.1 (qc_ltp0 hp.1) rfl ww_197 ((hp.2.2 6 (by decide)).2.2 _) ?_
          refine qj_iload cx dX2_add_284 rfl ?_
          obtain ⟨c6, hP⟩ := qc_ck hP
          refine qw_iald (n1 := 8) cx dX2_add_286 (hp.2.2 6 (by decide)).1 (qc_ltp hp.1 (by decide)) (hp.2.2 6 (by decide)).2.1 c6 ?_
          refine qj_iload cx dX2_add_287 rfl ?_
          refine qj_isub cx dX2_add_289 ?_
          refine qj_abs (y := 0) cx dX2_add_290 ww_668 ww_619 ww_125 ww_620 (by decide) (Nat.le_of_ble_eq_true rfl) (Nat.zero_le _) (Nat.zero_le _) ?_
          refine qj_aload_n cx dX2_add_293 rfl rfl ?_
          refine qw_getI (j := 2) cx dX2_add_294 qc_cl4 hp.2.1 (qc_ltp0 hp.1) rfl ww_158 ?_
          refine qj_icmp_gt (tgt := 343) cx dX2_add_297 (by decide) (fun c7 => ?_) (fun c7 => ?_)
          · have hP := qc_ifT hP c7
            exact L343 (P_X2_add_266 J p f) ih I a6 a7 a9 hP
          · have hP := qc_ifF hP c7
            refine qj_aload_n cx dX2_add_300 rfl rfl ?_
            refine qj_aload_n cx dX2_add_301 rfl rfl ?_
            refine qj_aload_n cx dX2_add_302 rfl rfl ?_
            refine qw_getI (j := 1) cx dX2_add_303 qc_cl2 rfl (Nat.lt_of_lt_of_le (by decide) hn) rfl ww_254 ?_
            refine qj_iload cx dX2_add_306 rfl ?_
            obtain ⟨q8, eq8, hP⟩ := Option.bind_eq_some_iff.mp hP
            refine qj_callV (As := [.ref p, .int (I 22 1), .int a9]) (st := []) (t := 22) (h' := (I, J, (rX w, kX, nX, n))) (r := some (.int q8)) cx dX2_add_308 (c_X2_mayStrike (I := I) (J := J) (w := w) hn hn1 hp eq8) gc_RX2_108 qm_X2_mayStrike rfl rfl qc_cl2 rfl (Nat.lt_of_lt_of_le (by decide) hn) (by decide) (by decide) rfl (Nat.le_of_ble_eq_true rfl) (Nat.le_trans hn1 (by decide)) hn0 rfl ?_
            refine qj_if_eq (tgt := 343) cx dX2_add_311 (by decide) (fun c9 => ?_) (fun c9 => ?_)
            · have hP := qc_ifT hP c9
              exact L343 (P_X2_add_266 J p f) ih I a6 a7 a9 hP
            · have hP := qc_ifF hP c9
              refine qj_aload_n cx dX2_add_314 rfl rfl ?_
              refine qw_getR (j := 0) (t1 := 23) cx dX2_add_315 qc_cl2 rfl (Nat.lt_of_lt_of_le (by decide) hn) rfl ww_252 rfl ?_
              refine qj_bipush (v := (6 : Int32)) cx dX2_add_318 (by decide) ?_
              refine qw_aald (n1 := 8) (t1 := 30) cx dX2_add_320 rfl (Or.inr ⟨rfl, rfl⟩) (Nat.lt_of_lt_of_le (by decide) hn) rfl (by decide) rfl ?_
              refine qj_aload_n cx dX2_add_321 rfl rfl ?_
              refine qw_getI (j := 1) cx dX2_add_322 qc_cl2 rfl (Nat.lt_of_lt_of_le (by decide) hn) rfl ww_254 ?_
              refine qj_dup2 cx dX2_add_325 rfl rfl ?_
              obtain ⟨c10, hP⟩ := qc_ck hP
              refine qw_iald (n1 := 700) cx dX2_add_326 rfl (Nat.lt_of_lt_of_le (by decide) hn) rfl c10 ?_
              refine qj_iconst (v := (1 : Int32)) cx dX2_add_327 (by decide) ?_
              refine qj_iload cx dX2_add_328 rfl ?_
              refine qj_ishl cx dX2_add_330 ?_
              refine qj_ior cx dX2_add_331 ?_
              obtain ⟨c13, hP⟩ := qc_ck hP
              obtain ⟨I11, eI11, hP⟩ := qc_letE hP
              refine qw_iast (n1 := 700) cx dX2_add_332 rfl (Nat.lt_of_lt_of_le (by decide) hn) rfl c13 eI11 ?_
              refine qj_aload_n cx dX2_add_333 rfl rfl ?_
              refine qj_dup cx dX2_add_334 rfl ?_
              refine qw_getI (j := 2) cx dX2_add_335 qc_cl2 rfl (Nat.lt_of_lt_of_le (by decide) hn) rfl ww_256 ?_
              refine qj_iconst (v := (1 : Int32)) cx dX2_add_338 (by decide) ?_
              refine qj_iadd cx dX2_add_339 ?_
              obtain ⟨I12, eI12, hP⟩ := qc_letE hP
              refine qw_putI (j := 2) cx dX2_add_340 qc_cl2 rfl (Nat.lt_of_lt_of_le (by decide) hn) rfl ww_256 rfl rfl rfl eI12 ?_
              exact L343 (P_X2_add_266 J p f) ih I12 a6 a7 a9 hP
  have L151 : ∀  (I : (Nat → Nat → Int32)) (a2 : Int32) (a3 : Int32) (a4 : Int32) (a5 : Int32) (a6 : Int32) (a7 : Int32) (a8 : Int32), P_X2_add_151 J p I a2 a3 a4 a5 a6 a7 a8 = some q0 → qc_J F 0 0 151 [some (.ref 22), some (.ref p), some (.int a2), some (.int a3), some (.int a4), some (.int a5), some (.int a6), some (.int a7), some (.int a8), none] [] (I, J, (rX w, kX, nX, n)) := by
    intro I a2 a3 a4 a5 a6 a7 a8 hP
    unfold P_X2_add_151 at hP
    refine qj_aload_n cx dX2_add_151 rfl rfl ?_
    refine qw_getR (j := 0) (t1 := 23) cx dX2_add_152 qc_cl2 rfl (Nat.lt_of_lt_of_le (by decide) hn) rfl ww_252 rfl ?_
    refine qj_iconst (v := (0 : Int32)) cx dX2_add_155 (by decide) ?_
    refine qw_aald (n1 := 8) (t1 := 24) cx dX2_add_156 rfl (Or.inr ⟨rfl, rfl⟩) (Nat.lt_of_lt_of_le (by decide) hn) rfl (by decide) rfl ?_
    refine qj_aload_n cx dX2_add_157 rfl rfl ?_
    refine qw_getI (j := 1) cx dX2_add_158 qc_cl2 rfl (Nat.lt_of_lt_of_le (by decide) hn) rfl ww_254 ?_
    refine qj_iload_n cx dX2_add_161 rfl rfl ?_
    obtain ⟨c30, hP⟩ := qc_ck hP
    obtain ⟨I14, eI14, hP⟩ := qc_letE hP
    refine qw_iast (n1 := 700) cx dX2_add_162 rfl (Nat.lt_of_lt_of_le (by decide) hn) rfl c30 eI14 ?_
    refine qj_aload_n cx dX2_add_163 rfl rfl ?_
    refine qw_getR (j := 0) (t1 := 23) cx dX2_add_164 qc_cl2 rfl (Nat.lt_of_lt_of_le (by decide) hn) rfl ww_252 rfl ?_
    refine qj_iconst (v := (1 : Int32)) cx dX2_add_167 (by decide) ?_
    refine qw_aald (n1 := 8) (t1 := 25) cx dX2_add_168 rfl (Or.inr ⟨rfl, rfl⟩) (Nat.lt_of_lt_of_le (by decide) hn) rfl (by decide) rfl ?_
    refine qj_aload_n cx dX2_add_169 rfl rfl ?_
    refine qw_getI (j := 1) cx dX2_add_170 qc_cl2 rfl (Nat.lt_of_lt_of_le (by decide) hn) rfl ww_254 ?_
    refine qj_iload_n cx dX2_add_173 rfl rfl ?_
    obtain ⟨c29, hP⟩ := qc_ck hP
    obtain ⟨I15, eI15, hP⟩ := qc_letE hP
    refine qw_iast (n1 := 700) cx dX2_add_174 rfl (Nat.lt_of_lt_of_le (by decide) hn) rfl c29 eI15 ?_
    refine qj_aload_n cx dX2_add_175 rfl rfl ?_
    refine qw_getR (j := 0) (t1 := 23) cx dX2_add_176 qc_cl2 rfl (Nat.lt_of_lt_of_le (by decide) hn) rfl ww_252 rfl ?_
    refine qj_iconst (v := (2 : Int32)) cx dX2_add_179 (by decide) ?_
    refine qw_aald (n1 := 8) (t1 := 26) cx dX2_add_180 rfl (Or.inr ⟨rfl, rfl⟩) (Nat.lt_of_lt_of_le (by decide) hn) rfl (by decide) rfl ?_
    refine qj_aload_n cx dX2_add_181 rfl rfl ?_
    refine qw_getI (j := 1) cx dX2_add_182 qc_cl2 rfl (Nat.lt_of_lt_of_le (by decide) hn) rfl ww_254 ?_
    refine qj_iload cx dX2_add_185 rfl ?_
    obtain ⟨c28, hP⟩ := qc_ck hP
    obtain ⟨I16, eI16, hP⟩ := qc_letE hP
    refine qw_iast (n1 := 700) cx dX2_add_187 rfl (Nat.lt_of_lt_of_le (by decide) hn) rfl c28 eI16 ?_
    refine qj_aload_n cx dX2_add_188 rfl rfl ?_
    refine qw_getR (j := 0) (t1 := 23) cx dX2_add_189 qc_cl2 rfl (Nat.lt_of_lt_of_le (by decide) hn) rfl ww_252 rfl ?_
    refine qj_iconst (v := (3 : Int32)) cx dX2_add_192 (by decide) ?_
    refine qw_aald (n1 := 8) (t1 := 27) cx dX2_add_193 rfl (Or.inr ⟨rfl, rfl⟩) (Nat.lt_of_lt_of_le (by decide) hn) rfl (by decide) rfl ?_
    refine qj_aload_n cx dX2_add_194 rfl rfl ?_
    refine qw_getI (j := 1) cx dX2_add_195 qc_cl2 rfl (Nat.lt_of_lt_of_le (by decide) hn) rfl ww_254 ?_
    refine qj_iload cx dX2_add_198 rfl ?_
    obtain ⟨c27, hP⟩ := qc_ck hP
    obtain ⟨I17, eI17, hP⟩ := qc_letE hP
    refine qw_iast (n1 := 700) cx dX2_add_200 rfl (Nat.lt_of_lt_of_le (by decide) hn) rfl c27 eI17 ?_
    refine qj_aload_n cx dX2_add_201 rfl rfl ?_
    refine qw_getR (j := 0) (t1 := 23) cx dX2_add_202 qc_cl2 rfl (Nat.lt_of_lt_of_le (by decide) hn) rfl ww_252 rfl ?_
    refine qj_iconst (v := (4 : Int32)) cx dX2_add_205 (by decide) ?_
    refine qw_aald (n1 := 8) (t1 := 28) cx dX2_add_206 rfl (Or.inr ⟨rfl, rfl⟩) (Nat.lt_of_lt_of_le (by decide) hn) rfl (by decide) rfl ?_
    refine qj_aload_n cx dX2_add_207 rfl rfl ?_
    refine qw_getI (j := 1) cx dX2_add_208 qc_cl2 rfl (Nat.lt_of_lt_of_le (by decide) hn) rfl ww_254 ?_
    refine qj_iload cx dX2_add_211 rfl ?_
    obtain ⟨c26, hP⟩ := qc_ck hP
    obtain ⟨I18, eI18, hP⟩ := qc_letE hP
    refine qw_iast (n1 := 700) cx dX2_add_213 rfl (Nat.lt_of_lt_of_le (by decide) hn) rfl c26 eI18 ?_
    refine qj_aload_n cx dX2_add_214 rfl rfl ?_
    refine qw_getR (j := 0) (t1 := 23) cx dX2_add_215 qc_cl2 rfl (Nat.lt_of_lt_of_le (by decide) hn) rfl ww_252 rfl ?_
    refine qj_iconst (v := (5 : Int32)) cx dX2_add_218 (by decide) ?_
    refine qw_aald (n1 := 8) (t1 := 29) cx dX2_add_219 rfl (Or.inr ⟨rfl, rfl⟩) (Nat.lt_of_lt_of_le (by decide) hn) rfl (by decide) rfl ?_
    refine qj_aload_n cx dX2_add_220 rfl rfl ?_
    refine qw_getI (j := 1) cx dX2_add_221 qc_cl2 rfl (Nat.lt_of_lt_of_le (by decide) hn) rfl ww_254 ?_
    refine qj_aload_n cx dX2_add_224 rfl rfl ?_
    refine qj_aload_n cx dX2_add_225 rfl rfl ?_
    refine qj_iload_n cx dX2_add_226 rfl rfl ?_
    refine qj_iload_n cx dX2_add_227 rfl rfl ?_
    refine qj_iload cx dX2_add_228 rfl ?_
    refine qj_iload cx dX2_add_230 rfl ?_
    obtain ⟨q19, eq19, hP⟩ := Option.bind_eq_some_iff.mp hP
    refine qj_callV (As := [.ref p, .int a2, .int a3, .int a4, .int a5]) (st := [.int (I18 22 1), .ref 29]) (t := 22) (h' := (I18, J, (rX w, kX, nX, n))) (r := some (.int q19)) cx dX2_add_232 (c_X2_levelOf (I := I18) (J := J) (w := w) hn hn1 hp eq19) gc_RX2_95 qm_X2_levelOf rfl rfl qc_cl2 rfl (Nat.lt_of_lt_of_le (by decide) hn) (by decide) (by decide) rfl (Nat.le_of_ble_eq_true rfl) (Nat.le_trans hn1 (by decide)) hn0 rfl ?_
    obtain ⟨c25, hP⟩ := qc_ck hP
    obtain ⟨I20, eI20, hP⟩ := qc_letE hP
    refine qw_iast (n1 := 700) cx dX2_add_235 rfl (Nat.lt_of_lt_of_le (by decide) hn) rfl c25 eI20 ?_
    refine qj_aload_n cx dX2_add_236 rfl rfl ?_
    refine qw_getR (j := 0) (t1 := 23) cx dX2_add_237 qc_cl2 rfl (Nat.lt_of_lt_of_le (by decide) hn) rfl ww_252 rfl ?_
    refine qj_bipush (v := (7 : Int32)) cx dX2_add_240 (by decide) ?_
    refine qw_aald (n1 := 8) (t1 := 31) cx dX2_add_242 rfl (Or.inr ⟨rfl, rfl⟩) (Nat.lt_of_lt_of_le (by decide) hn) rfl (by decide) rfl ?_
    refine qj_aload_n cx dX2_add_243 rfl rfl ?_
    refine qw_getI (j := 1) cx dX2_add_244 qc_cl2 rfl (Nat.lt_of_lt_of_le (by decide) hn) rfl ww_254 ?_
    refine qj_iload cx dX2_add_247 rfl ?_
    obtain ⟨c24, hP⟩ := qc_ck hP
    obtain ⟨I21, eI21, hP⟩ := qc_letE hP
    refine qw_iast (n1 := 700) cx dX2_add_249 rfl (Nat.lt_of_lt_of_le (by decide) hn) rfl c24 eI21 ?_
    refine qj_aload_n cx dX2_add_250 rfl rfl ?_
    refine qw_getR (j := 0) (t1 := 23) cx dX2_add_251 qc_cl2 rfl (Nat.lt_of_lt_of_le (by decide) hn) rfl ww_252 rfl ?_
    refine qj_bipush (v := (6 : Int32)) cx dX2_add_254 (by decide) ?_
    refine qw_aald (n1 := 8) (t1 := 30) cx dX2_add_256 rfl (Or.inr ⟨rfl, rfl⟩) (Nat.lt_of_lt_of_le (by decide) hn) rfl (by decide) rfl ?_
    refine qj_aload_n cx dX2_add_257 rfl rfl ?_
    refine qw_getI (j := 1) cx dX2_add_258 qc_cl2 rfl (Nat.lt_of_lt_of_le (by decide) hn) rfl ww_254 ?_
    refine qj_iconst (v := (0 : Int32)) cx dX2_add_261 (by decide) ?_
    obtain ⟨c23, hP⟩ := qc_ck hP
    obtain ⟨I22, eI22, hP⟩ := qc_letE hP
    refine qw_iast (n1 := 700) cx dX2_add_262 rfl (Nat.lt_of_lt_of_le (by decide) hn) rfl c23 eI22 ?_
    refine qj_iconst (v := (0 : Int32)) cx dX2_add_263 (by decide) ?_
    refine qj_istore (ls1 := [some (.ref 22), some (.ref p), some (.int a2), some (.int a3), some (.int a4), some (.int a5), some (.int a6), some (.int a7), some (.int a8), some (.int (0 : Int32))]) cx dX2_add_264 rfl rfl rfl ?_
    refine qw_sub (ls1 := [some (.ref 22), some (.ref p), none, none, none, none, some (.int a6), some (.int a7), none, some (.int (0 : Int32))]) rfl (qc_sb_ok ⟨rfl, rfl, rfl, rfl, rfl, trivial⟩) ?_
    exact L266 qc_fu I22 a6 a7 (0 : Int32) hP
  show qc_J F 0 0 0 [some (.ref 22), some (.ref p), some (.int a), some (.int b), some (.int c), some (.int d), none, none, none, none] [] (I, J, (rX w, kX, nX, n))
  unfold P_X2_add at hP
  refine qj_gets (i := 0) (ref := "") (host := "QuietChannels") cx dX2_add_0 (by decide) (List.mem_of_getElem? (i := 1) rfl) (Nat.le_trans hn1 (by decide)) ?_
  refine qj_iload_n cx dX2_add_3 rfl rfl ?_
  obtain ⟨c31, hP⟩ := qc_ck hP
  refine qw_tald (i := 0) cx dX2_add_4 (by decide) (Nat.le_trans hn1 (by decide)) c31 ?_
  refine qj_aload_n cx dX2_add_5 rfl rfl ?_
  refine qw_getR (j := 13) (t1 := (p + 1 + 6)) cx dX2_add_6 qc_cl4 hp.2.1 (qc_ltp0 hp.1) rfl ww_197 ((hp.2.2 6 (by decide)).2.2 _) ?_
  refine qj_iload_n cx dX2_add_9 rfl rfl ?_
  obtain ⟨c32, hP⟩ := qc_ck hP
  refine qw_iald (n1 := 8) cx dX2_add_10 (hp.2.2 6 (by decide)).1 (qc_ltp hp.1 (by decide)) (hp.2.2 6 (by decide)).2.1 c32 ?_
  refine qj_imul cx dX2_add_11 ?_
  refine qj_gets (i := 1) (ref := "") (host := "QuietChannels") cx dX2_add_12 (by decide) (List.mem_of_getElem? (i := 2) rfl) (Nat.le_trans hn1 (by decide)) ?_
  refine qj_iload_n cx dX2_add_15 rfl rfl ?_
  obtain ⟨c33, hP⟩ := qc_ck hP
  refine qw_tald (i := 1) cx dX2_add_16 (by decide) (Nat.le_trans hn1 (by decide)) c33 ?_
  refine qj_aload_n cx dX2_add_17 rfl rfl ?_
  refine qw_getR (j := 13) (t1 := (p + 1 + 6)) cx dX2_add_18 qc_cl4 hp.2.1 (qc_ltp0 hp.1) rfl ww_197 ((hp.2.2 6 (by decide)).2.2 _) ?_
  refine qj_iload cx dX2_add_21 rfl ?_
  obtain ⟨c34, hP⟩ := qc_ck hP
  refine qw_iald (n1 := 8) cx dX2_add_23 (hp.2.2 6 (by decide)).1 (qc_ltp hp.1 (by decide)) (hp.2.2 6 (by decide)).2.1 c34 ?_
  refine qj_imul cx dX2_add_24 ?_
  refine qj_iadd cx dX2_add_25 ?_
  refine qj_iload cx dX2_add_26 rfl ?_
  obtain ⟨v36, hv36, hP⟩ := Option.bind_eq_some_iff.mp hP
  have Kv36 : qc_J F 0 0 48 [some (.ref 22), some (.ref p), some (.int a), some (.int b), some (.int c), some (.int d), none, none, none, none] [.int v36, .int ((((qc_sv 0).getD a.toNatClampNeg 0) * (I (p + 1 + 6) b.toNatClampNeg)) + (((qc_sv 1).getD a.toNatClampNeg 0) * (I (p + 1 + 6) c.toNatClampNeg)))] (I, J, (rX w, kX, nX, n)) := by
    refine qj_iadd cx dX2_add_48 ?_
    obtain ⟨x39, ex39, hP⟩ := qc_letE hP
    refine qw_top ex39 ?_
    refine qj_istore (ls1 := [some (.ref 22), some (.ref p), some (.int a), some (.int b), some (.int c), some (.int d), some (.int x39), none, none, none]) cx dX2_add_49 rfl rfl rfl ?_
    refine qj_iload cx dX2_add_51 rfl ?_
    refine qj_iconst (v := (1 : Int32)) cx dX2_add_53 (by decide) ?_
    refine qj_icmp_lt (tgt := 76) cx dX2_add_54 (by decide) (fun c40 => ?_) (fun c40 => ?_)
    · have hP := qc_ifT hP c40
      exact qw_vret cx hz dX2_add_76 (Nat.zero_le _) (Nat.zero_le _) (Option.some.inj hP) rfl
    · have hP := qc_ifF hP c40
      refine qj_iload cx dX2_add_57 rfl ?_
      refine qj_aload_n cx dX2_add_59 rfl rfl ?_
      refine qw_getI (j := 1) cx dX2_add_60 qc_cl4 hp.2.1 (qc_ltp0 hp.1) rfl ww_154 ?_
      refine qj_icmp_gt (tgt := 76) cx dX2_add_63 (by decide) (fun c41 => ?_) (fun c41 => ?_)
      · have hP := qc_ifT hP c41
        exact qw_vret cx hz dX2_add_76 (Nat.zero_le _) (Nat.zero_le _) (Option.some.inj hP) rfl
      · have hP := qc_ifF hP c41
        refine qj_aload_n cx dX2_add_66 rfl rfl ?_
        refine qw_getI (j := 1) cx dX2_add_67 qc_cl2 rfl (Nat.lt_of_lt_of_le (by decide) hn) rfl ww_254 ?_
        refine qj_sipush (v := (700 : Int32)) cx dX2_add_70 (by decide) ?_
        refine qj_icmp_lt (tgt := 77) cx dX2_add_73 (by decide) (fun c42 => ?_) (fun c42 => ?_)
        · have hP := qc_ifT hP c42
          refine qj_aload_n cx dX2_add_77 rfl rfl ?_
          refine qw_getJ (j := 5) cx dX2_add_78 qc_cl2 rfl (Nat.lt_of_lt_of_le (by decide) hn) rfl ww_260 ?_
          refine qj_iload cx dX2_add_81 rfl ?_
          refine qj_lshr cx dX2_add_83 ?_
          refine qj_lconst (v := (1 : Int64)) cx dX2_add_84 (by decide) ?_
          refine qj_land cx dX2_add_85 ?_
          refine qj_lconst (v := (0 : Int64)) cx dX2_add_86 (by decide) ?_
          refine qj_lcmp cx dX2_add_87 ?_
          obtain ⟨v44, hv44, hP⟩ := Option.bind_eq_some_iff.mp hP
          have Kv44 : qc_J F 0 0 96 [some (.ref 22), some (.ref p), some (.int a), some (.int b), some (.int c), some (.int d), some (.int x39), none, none, none] [.int v44] (I, J, (rX w, kX, nX, n)) := by
            refine qj_istore (ls1 := [some (.ref 22), some (.ref p), some (.int a), some (.int b), some (.int c), some (.int d), some (.int x39), some (.int v44), none, none]) cx dX2_add_96 rfl rfl rfl ?_
            refine qj_aload_n cx dX2_add_98 rfl rfl ?_
            refine qw_getR (j := 15) (t1 := (p + 1 + 8)) cx dX2_add_99 qc_cl4 hp.2.1 (qc_ltp0 hp.1) rfl ww_207 ((hp.2.2 8 (by decide)).2.2 _) ?_
            refine qj_iload_n cx dX2_add_102 rfl rfl ?_
            obtain ⟨c45, hP⟩ := qc_ck hP
            refine qw_iald (n1 := 8) cx dX2_add_103 (hp.2.2 8 (by decide)).1 (qc_ltp hp.1 (by decide)) (hp.2.2 8 (by decide)).2.1 c45 ?_
            refine qj_aload_n cx dX2_add_104 rfl rfl ?_
            refine qw_getR (j := 15) (t1 := (p + 1 + 8)) cx dX2_add_105 qc_cl4 hp.2.1 (qc_ltp0 hp.1) rfl ww_207 ((hp.2.2 8 (by decide)).2.2 _) ?_
            refine qj_iload cx dX2_add_108 rfl ?_
            obtain ⟨c46, hP⟩ := qc_ck hP
            refine qw_iald (n1 := 8) cx dX2_add_110 (hp.2.2 8 (by decide)).1 (qc_ltp hp.1 (by decide)) (hp.2.2 8 (by decide)).2.1 c46 ?_
            refine qj_iand cx dX2_add_111 ?_
            refine qj_iload cx dX2_add_112 rfl ?_
            obtain ⟨v48, hv48, hP⟩ := Option.bind_eq_some_iff.mp hP
            have Kv48 : qc_J F 0 0 130 [some (.ref 22), some (.ref p), some (.int a), some (.int b), some (.int c), some (.int d), some (.int x39), some (.int v44), none, none] [.int v48, .int ((I (p + 1 + 8) b.toNatClampNeg) &&& (I (p + 1 + 8) c.toNatClampNeg))] (I, J, (rX w, kX, nX, n)) := by
              refine qj_iand cx dX2_add_130 ?_
              obtain ⟨x50, ex50, hP⟩ := qc_letE hP
              refine qw_top ex50 ?_
              refine qj_istore (ls1 := [some (.ref 22), some (.ref p), some (.int a), some (.int b), some (.int c), some (.int d), some (.int x39), some (.int v44), some (.int x50), none]) cx dX2_add_131 rfl rfl rfl ?_
              refine qj_iload cx dX2_add_133 rfl ?_
              refine qj_if_eq (tgt := 150) cx dX2_add_135 (by decide) (fun c51 => ?_) (fun c51 => ?_)
              · have hP := qc_ifT hP c51
                exact qw_vret cx hz dX2_add_150 (Nat.zero_le _) (Nat.zero_le _) (Option.some.inj hP) rfl
              · have hP := qc_ifF hP c51
                refine qj_aload_n cx dX2_add_138 rfl rfl ?_
                refine qw_getI (j := 6) cx dX2_add_139 qc_cl2 rfl (Nat.lt_of_lt_of_le (by decide) hn) rfl ww_261 ?_
                refine qj_if_eq (tgt := 151) cx dX2_add_142 (by decide) (fun c52 => ?_) (fun c52 => ?_)
                · have hP := qc_ifT hP c52
                  exact L151 I a b c d x39 v44 x50 hP
                · have hP := qc_ifF hP c52
                  refine qj_iload cx dX2_add_145 rfl ?_
                  refine qj_if_ne (tgt := 151) cx dX2_add_147 (by decide) (fun c53 => ?_) (fun c53 => ?_)
                  · have hP := qc_ifF hP c53
                    exact L151 I a b c d x39 v44 x50 hP
                  · have hP := qc_ifT hP c53
                    exact qw_vret cx hz dX2_add_150 (Nat.zero_le _) (Nat.zero_le _) (Option.some.inj hP) rfl
            refine qj_if_ge (tgt := 123) cx dX2_add_114 (by decide) (fun c47 => ?_) (fun c47 => ?_)
            · have hv48 := qc_ifT hv48 c47
              refine qj_aload_n cx dX2_add_123 rfl rfl ?_
              refine qw_getR (j := 15) (t1 := (p + 1 + 8)) cx dX2_add_124 qc_cl4 hp.2.1 (qc_ltp0 hp.1) rfl ww_207 ((hp.2.2 8 (by decide)).2.2 _) ?_
              refine qj_iload cx dX2_add_127 rfl ?_
              obtain ⟨c49, hv48⟩ := qc_ck hv48
              refine qw_iald (n1 := 8) cx dX2_add_129 (hp.2.2 8 (by decide)).1 (qc_ltp hp.1 (by decide)) (hp.2.2 8 (by decide)).2.1 c49 ?_
              exact qw_top (Option.some.inj hv48).symm Kv48
            · have hv48 := qc_ifF hv48 c47
              refine qj_sipush (v := (255 : Int32)) cx dX2_add_117 (by decide) ?_
              refine qj_goto (tgt := 130) cx dX2_add_120 (by decide) ?_
              exact qw_top (Option.some.inj hv48).symm Kv48
          refine qj_if_eq (tgt := 95) cx dX2_add_88 (by decide) (fun c43 => ?_) (fun c43 => ?_)
          · have hv44 := qc_ifT hv44 c43
            refine qj_iconst (v := (0 : Int32)) cx dX2_add_95 (by decide) ?_
            exact qw_top (Option.some.inj hv44).symm Kv44
          · have hv44 := qc_ifF hv44 c43
            refine qj_iconst (v := (1 : Int32)) cx dX2_add_91 (by decide) ?_
            refine qj_goto (tgt := 96) cx dX2_add_92 (by decide) ?_
            exact qw_top (Option.some.inj hv44).symm Kv44
        · have hP := qc_ifF hP c42
          exact qw_vret cx hz dX2_add_76 (Nat.zero_le _) (Nat.zero_le _) (Option.some.inj hP) rfl
  refine qj_if_ge (tgt := 35) cx dX2_add_28 (by decide) (fun c35 => ?_) (fun c35 => ?_)
  · have hv36 := qc_ifT hv36 c35
    refine qj_gets (i := 2) (ref := "") (host := "QuietChannels") cx dX2_add_35 (by decide) (List.mem_of_getElem? (i := 3) rfl) (Nat.le_trans hn1 (by decide)) ?_
    refine qj_iload_n cx dX2_add_38 rfl rfl ?_
    obtain ⟨c37, hv36⟩ := qc_ck hv36
    refine qw_tald (i := 2) cx dX2_add_39 (by decide) (Nat.le_trans hn1 (by decide)) c37 ?_
    refine qj_aload_n cx dX2_add_40 rfl rfl ?_
    refine qw_getR (j := 13) (t1 := (p + 1 + 6)) cx dX2_add_41 qc_cl4 hp.2.1 (qc_ltp0 hp.1) rfl ww_197 ((hp.2.2 6 (by decide)).2.2 _) ?_
    refine qj_iload cx dX2_add_44 rfl ?_
    obtain ⟨c38, hv36⟩ := qc_ck hv36
    refine qw_iald (n1 := 8) cx dX2_add_46 (hp.2.2 6 (by decide)).1 (qc_ltp hp.1 (by decide)) (hp.2.2 6 (by decide)).2.1 c38 ?_
    refine qj_imul cx dX2_add_47 ?_
    exact qw_top (Option.some.inj hv36).symm Kv36
  · have hv36 := qc_ifF hv36 c35
    refine qj_iconst (v := (0 : Int32)) cx dX2_add_31 (by decide) ?_
    refine qj_goto (tgt := 48) cx dX2_add_32 (by decide) ?_
    exact qw_top (Option.some.inj hv36).symm Kv36
def P_X2_share (I : Nat → Nat → Int32) (a : Int32) (b : Int32) : Option (Int32) :=
  if b = 0 then
  some (1 : Int32)
  else
  if b = (1 : Int32) then
  (if qc_in a 700 then
  (if I 29 a.toNatClampNeg < 0 then
  some (0 : Int32)
  else
  some (1 : Int32)).bind fun v7 =>
  some v7
  else none)
  else
  if qc_in a 700 then
  (P_J6_bitCount_0f7a4 (I 30 a.toNatClampNeg)).bind fun q4 =>
  some q4
  else none
set_option maxRecDepth 20000 in
theorem c_X2_share {I : Nat → Nat → Int32} {J : Nat → Nat → Int64} {w : Nat → Nat} {n : Nat} (hn : 121 ≤ n) (hn1 : n ≤ 200) {a : Int32} {b : Int32} {q0 : Int32} (hP : P_X2_share I a b = some q0) : ∀ l, qc_M l yX2_share cX2_share 3 (some .int) 1 20 0 0 [.ref 22, .int a, .int b] (I, J, (rX w, kX, nX, n)) (some (.int q0)) (I, J, (rX w, kX, nX, n)) := by
  intro l
  refine qc_ent2 (by decide) (Nat.le_of_ble_eq_true rfl) ?_
  intro F hn0 cx hz
  have cx : qc_X F cX2_share RX2 "share" 1 0 0 20 := cx
  show qc_J F 0 0 0 [some (.ref 22), some (.int a), some (.int b)] [] (I, J, (rX w, kX, nX, n))
  unfold P_X2_share at hP
  refine qj_iload_n cx dX2_share_0 rfl rfl ?_
  refine qj_if_ne (tgt := 6) cx dX2_share_1 (by decide) (fun c1 => ?_) (fun c1 => ?_)
  · have hP := qc_ifF hP c1
    refine qj_iload_n cx dX2_share_6 rfl rfl ?_
    refine qj_iconst (v := (1 : Int32)) cx dX2_share_7 (by decide) ?_
    refine qj_icmp_ne (tgt := 28) cx dX2_share_8 (by decide) (fun c2 => ?_) (fun c2 => ?_)
    · have hP := qc_ifF hP c2
      refine qj_aload_n cx dX2_share_28 rfl rfl ?_
      refine qw_getR (j := 0) (t1 := 23) cx dX2_share_29 qc_cl2 rfl (Nat.lt_of_lt_of_le (by decide) hn) rfl ww_252 rfl ?_
      refine qj_bipush (v := (6 : Int32)) cx dX2_share_32 (by decide) ?_
      refine qw_aald (n1 := 8) (t1 := 30) cx dX2_share_34 rfl (Or.inr ⟨rfl, rfl⟩) (Nat.lt_of_lt_of_le (by decide) hn) rfl (by decide) rfl ?_
      refine qj_iload_n cx dX2_share_35 rfl rfl ?_
      obtain ⟨c3, hP⟩ := qc_ck hP
      refine qw_iald (n1 := 700) cx dX2_share_36 rfl (Nat.lt_of_lt_of_le (by decide) hn) rfl c3 ?_
      obtain ⟨q4, eq4, hP⟩ := Option.bind_eq_some_iff.mp hP
      refine qj_callS (As := [.int (I 30 a.toNatClampNeg)]) (st := []) (h' := (I, J, (rX w, kX, nX, n))) (r := some (.int q4)) cx dX2_share_37 (c_J6_bitCount_0f7a4 (S := (rX w, kX, nX, n)) (I := I) (J := J) eq4) gc_RX2_134 qm_J6_bitCount_0f7a4 rfl (by decide) (by decide) rfl (Nat.le_of_ble_eq_true rfl) (Nat.le_trans hn1 (by decide)) hn0 rfl ?_
      exact qw_iret cx hz dX2_share_40 (Nat.zero_le _) (Nat.zero_le _) (Option.some.inj hP) rfl rfl
    · have hP := qc_ifT hP c2
      refine qj_aload_n cx dX2_share_11 rfl rfl ?_
      refine qw_getR (j := 0) (t1 := 23) cx dX2_share_12 qc_cl2 rfl (Nat.lt_of_lt_of_le (by decide) hn) rfl ww_252 rfl ?_
      refine qj_iconst (v := (5 : Int32)) cx dX2_share_15 (by decide) ?_
      refine qw_aald (n1 := 8) (t1 := 29) cx dX2_share_16 rfl (Or.inr ⟨rfl, rfl⟩) (Nat.lt_of_lt_of_le (by decide) hn) rfl (by decide) rfl ?_
      refine qj_iload_n cx dX2_share_17 rfl rfl ?_
      obtain ⟨c5, hP⟩ := qc_ck hP
      refine qw_iald (n1 := 700) cx dX2_share_18 rfl (Nat.lt_of_lt_of_le (by decide) hn) rfl c5 ?_
      obtain ⟨v7, hv7, hP⟩ := Option.bind_eq_some_iff.mp hP
      have Kv7 : qc_J F 0 0 27 [some (.ref 22), some (.int a), some (.int b)] [.int v7] (I, J, (rX w, kX, nX, n)) := by
        exact qw_iret cx hz dX2_share_27 (Nat.zero_le _) (Nat.zero_le _) (Option.some.inj hP) rfl rfl
      refine qj_if_lt (tgt := 26) cx dX2_share_19 (by decide) (fun c6 => ?_) (fun c6 => ?_)
      · have hv7 := qc_ifT hv7 c6
        refine qj_iconst (v := (0 : Int32)) cx dX2_share_26 (by decide) ?_
        exact qw_top (Option.some.inj hv7).symm Kv7
      · have hv7 := qc_ifF hv7 c6
        refine qj_iconst (v := (1 : Int32)) cx dX2_share_22 (by decide) ?_
        refine qj_goto (tgt := 27) cx dX2_share_23 (by decide) ?_
        exact qw_top (Option.some.inj hv7).symm Kv7
  · have hP := qc_ifT hP c1
    refine qj_iconst (v := (1 : Int32)) cx dX2_share_4 (by decide) ?_
    exact qw_iret cx hz dX2_share_5 (Nat.zero_le _) (Nat.zero_le _) (Option.some.inj hP) rfl rfl
def P_X2_strikesMadeBy_36 (I : Nat → Nat → Int32) (k4 : Int32 → Int32 → Int32 → Option (Int32)) (a1 : Int32) (a2 : Int32) (a3 : Int32) : Option (Int32) :=
  qc_let (a3 + (1 : Int32)) fun x1 =>
  k4 a1 a2 x1
def P_X2_strikesMadeBy_4 (I : Nat → Nat → Int32) : Nat → Int32 → Int32 → Int32 → Option (Int32)
  | 0, _, _, _ => none
  | f + 1, a1, a2, a3 =>
  if I 22 1 ≤ a3 then
  some a2
  else
  (P_X2_isIn I a3 a1).bind fun q3 =>
  if q3 = 0 then
  P_X2_strikesMadeBy_36 I (P_X2_strikesMadeBy_4 I f) a1 a2 a3
  else
  if qc_in a3 700 then
  (P_J6_bitCount_0f7a4 (I 30 a3.toNatClampNeg)).bind fun q6 =>
  qc_let (a2 + q6) fun x7 =>
  P_X2_strikesMadeBy_36 I (P_X2_strikesMadeBy_4 I f) a1 x7 a3
  else none
def P_X2_strikesMadeBy (I : Nat → Nat → Int32) (a : Int32) : Option (Int32) :=
  P_X2_strikesMadeBy_4 I qc_fu a (0 : Int32) (0 : Int32)
set_option maxRecDepth 20000 in
theorem c_X2_strikesMadeBy {I : Nat → Nat → Int32} {J : Nat → Nat → Int64} {w : Nat → Nat} {n : Nat} (hn : 121 ≤ n) (hn1 : n ≤ 200) {a : Int32} {q0 : Int32} (hP : P_X2_strikesMadeBy I a = some q0) : ∀ l, qc_M l yX2_strikesMadeBy cX2_strikesMadeBy 4 (some .int) 1 22 0 0 [.ref 22, .int a] (I, J, (rX w, kX, nX, n)) (some (.int q0)) (I, J, (rX w, kX, nX, n)) := by
  intro l
  refine qc_ent2 (by decide) (Nat.le_of_ble_eq_true rfl) ?_
  intro F hn0 cx hz
  have cx : qc_X F cX2_strikesMadeBy RX2 "strikesMadeBy" 1 0 0 22 := cx
  have L36 : ∀ (k4 : Int32 → Int32 → Int32 → Option (Int32)) (g4 : ∀ (a1 : Int32) (a2 : Int32) (a3 : Int32), k4 a1 a2 a3 = some q0 → qc_J F 0 0 4 [some (.ref 22), some (.int a1), some (.int a2), some (.int a3)] [] (I, J, (rX w, kX, nX, n))) (a1 : Int32) (a2 : Int32) (a3 : Int32), P_X2_strikesMadeBy_36 I k4 a1 a2 a3 = some q0 → qc_J F 0 0 36 [some (.ref 22), some (.int a1), some (.int a2), some (.int a3)] [] (I, J, (rX w, kX, nX, n)) := by
    intro k4 g4 a1 a2 a3 hP
    unfold P_X2_strikesMadeBy_36 at hP
    obtain ⟨x1, ex1, hP⟩ := qc_letE hP
    refine qj_iinc (v := x1) (ls1 := [some (.ref 22), some (.int a1), some (.int a2), some (.int x1)]) cx dX2_strikesMadeBy_36 rfl (by rw [ex1]; rfl) rfl rfl ?_
    refine qj_goto (tgt := 4) cx dX2_strikesMadeBy_39 (by decide) ?_
    exact g4 a1 a2 x1 hP
  have L4 : ∀  (f : Nat) (a1 : Int32) (a2 : Int32) (a3 : Int32), P_X2_strikesMadeBy_4 I f a1 a2 a3 = some q0 → qc_J F 0 0 4 [some (.ref 22), some (.int a1), some (.int a2), some (.int a3)] [] (I, J, (rX w, kX, nX, n)) := by
    intro  f
    induction f with
    | zero => intro a1 a2 a3 hP; cases hP
    | succ f ih =>
      intro a1 a2 a3 hP
      rw [P_X2_strikesMadeBy_4] at hP
      refine qj_iload_n cx dX2_strikesMadeBy_4 rfl rfl ?_
      refine qj_aload_n cx dX2_strikesMadeBy_5 rfl rfl ?_
      refine qw_getI (j := 1) cx dX2_strikesMadeBy_6 qc_cl2 rfl (Nat.lt_of_lt_of_le (by decide) hn) rfl ww_254 ?_
      refine qj_icmp_ge (tgt := 42) cx dX2_strikesMadeBy_9 (by decide) (fun c2 => ?_) (fun c2 => ?_)
      · have hP := qc_ifT hP c2
        refine qj_iload_n cx dX2_strikesMadeBy_42 rfl rfl ?_
        exact qw_iret cx hz dX2_strikesMadeBy_43 (Nat.zero_le _) (Nat.zero_le _) (Option.some.inj hP) rfl rfl
      · have hP := qc_ifF hP c2
        refine qj_aload_n cx dX2_strikesMadeBy_12 rfl rfl ?_
        refine qj_iload_n cx dX2_strikesMadeBy_13 rfl rfl ?_
        refine qj_iload_n cx dX2_strikesMadeBy_14 rfl rfl ?_
        obtain ⟨q3, eq3, hP⟩ := Option.bind_eq_some_iff.mp hP
        refine qj_callV (As := [.int a3, .int a1]) (st := []) (t := 22) (h' := (I, J, (rX w, kX, nX, n))) (r := some (.int q3)) cx dX2_strikesMadeBy_15 (c_X2_isIn (I := I) (J := J) (w := w) hn hn1 eq3) gc_RX2_143 qm_X2_isIn rfl rfl qc_cl2 rfl (Nat.lt_of_lt_of_le (by decide) hn) (by decide) (by decide) rfl (Nat.le_of_ble_eq_true rfl) (Nat.le_trans hn1 (by decide)) hn0 rfl ?_
        refine qj_if_eq (tgt := 36) cx dX2_strikesMadeBy_18 (by decide) (fun c4 => ?_) (fun c4 => ?_)
        · have hP := qc_ifT hP c4
          exact L36 (P_X2_strikesMadeBy_4 I f) ih a1 a2 a3 hP
        · have hP := qc_ifF hP c4
          refine qj_iload_n cx dX2_strikesMadeBy_21 rfl rfl ?_
          refine qj_aload_n cx dX2_strikesMadeBy_22 rfl rfl ?_
          refine qw_getR (j := 0) (t1 := 23) cx dX2_strikesMadeBy_23 qc_cl2 rfl (Nat.lt_of_lt_of_le (by decide) hn) rfl ww_252 rfl ?_
          refine qj_bipush (v := (6 : Int32)) cx dX2_strikesMadeBy_26 (by decide) ?_
          refine qw_aald (n1 := 8) (t1 := 30) cx dX2_strikesMadeBy_28 rfl (Or.inr ⟨rfl, rfl⟩) (Nat.lt_of_lt_of_le (by decide) hn) rfl (by decide) rfl ?_
          refine qj_iload_n cx dX2_strikesMadeBy_29 rfl rfl ?_
          obtain ⟨c5, hP⟩ := qc_ck hP
          refine qw_iald (n1 := 700) cx dX2_strikesMadeBy_30 rfl (Nat.lt_of_lt_of_le (by decide) hn) rfl c5 ?_
          obtain ⟨q6, eq6, hP⟩ := Option.bind_eq_some_iff.mp hP
          refine qj_callS (As := [.int (I 30 a3.toNatClampNeg)]) (st := [.int a2]) (h' := (I, J, (rX w, kX, nX, n))) (r := some (.int q6)) cx dX2_strikesMadeBy_31 (c_J6_bitCount_0f7a4 (S := (rX w, kX, nX, n)) (I := I) (J := J) eq6) gc_RX2_134 qm_J6_bitCount_0f7a4 rfl (by decide) (by decide) rfl (Nat.le_of_ble_eq_true rfl) (Nat.le_trans hn1 (by decide)) hn0 rfl ?_
          refine qj_iadd cx dX2_strikesMadeBy_34 ?_
          obtain ⟨x7, ex7, hP⟩ := qc_letE hP
          refine qw_top ex7 ?_
          refine qj_istore_n (ls1 := [some (.ref 22), some (.int a1), some (.int x7), some (.int a3)]) cx dX2_strikesMadeBy_35 rfl rfl rfl rfl ?_
          exact L36 (P_X2_strikesMadeBy_4 I f) ih a1 x7 a3 hP
  show qc_J F 0 0 0 [some (.ref 22), some (.int a), none, none] [] (I, J, (rX w, kX, nX, n))
  unfold P_X2_strikesMadeBy at hP
  refine qj_iconst (v := (0 : Int32)) cx dX2_strikesMadeBy_0 (by decide) ?_
  refine qj_istore_n (ls1 := [some (.ref 22), some (.int a), some (.int (0 : Int32)), none]) cx dX2_strikesMadeBy_1 rfl rfl rfl rfl ?_
  refine qj_iconst (v := (0 : Int32)) cx dX2_strikesMadeBy_2 (by decide) ?_
  refine qj_istore_n (ls1 := [some (.ref 22), some (.int a), some (.int (0 : Int32)), some (.int (0 : Int32))]) cx dX2_strikesMadeBy_3 rfl rfl rfl rfl ?_
  exact L4 qc_fu a (0 : Int32) (0 : Int32) hP
def P_X2_worstMaker_34 (I : Nat → Nat → Int32) (k8 : Int32 → Int32 → Int32 → Int32 → Option (Int32)) (a1 : Int32) (a2 : Int32) (a3 : Int32) (a4 : Int32) : Option (Int32) :=
  qc_let (a4 + (1 : Int32)) fun x1 =>
  k8 a1 a2 a3 x1
def P_X2_worstMaker_8 (I : Nat → Nat → Int32) : Nat → Int32 → Int32 → Int32 → Int32 → Option (Int32)
  | 0, _, _, _, _ => none
  | f + 1, a1, a2, a3, a4 =>
  if a1 ≤ a4 then
  some a2
  else
  (P_X2_strikesMadeBy I a4).bind fun q3 =>
  if q3 ≤ a3 then
  P_X2_worstMaker_34 I (P_X2_worstMaker_8 I f) a1 a2 a3 a4
  else
  P_X2_worstMaker_34 I (P_X2_worstMaker_8 I f) a1 a4 q3 a4
def P_X2_worstMaker (I : Nat → Nat → Int32) (a : Int32) : Option (Int32) :=
  P_X2_worstMaker_8 I qc_fu a (-2 : Int32) (0 : Int32) (0 : Int32)
set_option maxRecDepth 20000 in
theorem c_X2_worstMaker {I : Nat → Nat → Int32} {J : Nat → Nat → Int64} {w : Nat → Nat} {n : Nat} (hn : 121 ≤ n) (hn1 : n ≤ 200) {a : Int32} {q0 : Int32} (hP : P_X2_worstMaker I a = some q0) : ∀ l, qc_M l yX2_worstMaker cX2_worstMaker 6 (some .int) 2 45 0 0 [.ref 22, .int a] (I, J, (rX w, kX, nX, n)) (some (.int q0)) (I, J, (rX w, kX, nX, n)) := by
  intro l
  refine qc_ent2 (by decide) (Nat.le_of_ble_eq_true rfl) ?_
  intro F hn0 cx hz
  have cx : qc_X F cX2_worstMaker RX2 "worstMaker" 2 0 0 45 := cx
  have L34 : ∀ (k8 : Int32 → Int32 → Int32 → Int32 → Option (Int32)) (g8 : ∀ (a1 : Int32) (a2 : Int32) (a3 : Int32) (a4 : Int32), k8 a1 a2 a3 a4 = some q0 → qc_J F 0 0 8 [some (.ref 22), some (.int a1), some (.int a2), some (.int a3), some (.int a4), none] [] (I, J, (rX w, kX, nX, n))) (a1 : Int32) (a2 : Int32) (a3 : Int32) (a4 : Int32), P_X2_worstMaker_34 I k8 a1 a2 a3 a4 = some q0 → qc_J F 0 0 34 [some (.ref 22), some (.int a1), some (.int a2), some (.int a3), some (.int a4), none] [] (I, J, (rX w, kX, nX, n)) := by
    intro k8 g8 a1 a2 a3 a4 hP
    unfold P_X2_worstMaker_34 at hP
    obtain ⟨x1, ex1, hP⟩ := qc_letE hP
    refine qj_iinc (v := x1) (ls1 := [some (.ref 22), some (.int a1), some (.int a2), some (.int a3), some (.int x1), none]) cx dX2_worstMaker_34 rfl (by rw [ex1]; rfl) rfl rfl ?_
    refine qj_goto (tgt := 8) cx dX2_worstMaker_37 (by decide) ?_
    exact g8 a1 a2 a3 x1 hP
  have L8 : ∀  (f : Nat) (a1 : Int32) (a2 : Int32) (a3 : Int32) (a4 : Int32), P_X2_worstMaker_8 I f a1 a2 a3 a4 = some q0 → qc_J F 0 0 8 [some (.ref 22), some (.int a1), some (.int a2), some (.int a3), some (.int a4), none] [] (I, J, (rX w, kX, nX, n)) := by
    intro  f
    induction f with
    | zero => intro a1 a2 a3 a4 hP; cases hP
    | succ f ih =>
      intro a1 a2 a3 a4 hP
      rw [P_X2_worstMaker_8] at hP
      refine qj_iload cx dX2_worstMaker_8 rfl ?_
      refine qj_iload_n cx dX2_worstMaker_10 rfl rfl ?_
      refine qj_icmp_ge (tgt := 40) cx dX2_worstMaker_11 (by decide) (fun c2 => ?_) (fun c2 => ?_)
      · have hP := qc_ifT hP c2
        refine qj_iload_n cx dX2_worstMaker_40 rfl rfl ?_
        exact qw_iret cx hz dX2_worstMaker_41 (Nat.zero_le _) (Nat.zero_le _) (Option.some.inj hP) rfl rfl
      · have hP := qc_ifF hP c2
        refine qj_aload_n cx dX2_worstMaker_14 rfl rfl ?_
        refine qj_iload cx dX2_worstMaker_15 rfl ?_
        obtain ⟨q3, eq3, hP⟩ := Option.bind_eq_some_iff.mp hP
        refine qj_callV (As := [.int a4]) (st := []) (t := 22) (h' := (I, J, (rX w, kX, nX, n))) (r := some (.int q3)) cx dX2_worstMaker_17 (c_X2_strikesMadeBy (I := I) (J := J) (w := w) hn hn1 eq3) gc_RX2_146 qm_X2_strikesMadeBy rfl rfl qc_cl2 rfl (Nat.lt_of_lt_of_le (by decide) hn) (by decide) (by decide) rfl (Nat.le_of_ble_eq_true rfl) (Nat.le_trans hn1 (by decide)) hn0 rfl ?_
        refine qj_istore (ls1 := [some (.ref 22), some (.int a1), some (.int a2), some (.int a3), some (.int a4), some (.int q3)]) cx dX2_worstMaker_20 rfl rfl rfl ?_
        refine qj_iload cx dX2_worstMaker_22 rfl ?_
        refine qj_iload_n cx dX2_worstMaker_24 rfl rfl ?_
        refine qj_icmp_le (tgt := 34) cx dX2_worstMaker_25 (by decide) (fun c4 => ?_) (fun c4 => ?_)
        · have hP := qc_ifT hP c4
          refine qw_sub (ls1 := [some (.ref 22), some (.int a1), some (.int a2), some (.int a3), some (.int a4), none]) rfl (qc_sb_ok ⟨rfl, rfl, rfl, rfl, rfl, trivial⟩) ?_
          exact L34 (P_X2_worstMaker_8 I f) ih a1 a2 a3 a4 hP
        · have hP := qc_ifF hP c4
          refine qj_iload cx dX2_worstMaker_28 rfl ?_
          refine qj_istore_n (ls1 := [some (.ref 22), some (.int a1), some (.int a4), some (.int a3), some (.int a4), some (.int q3)]) cx dX2_worstMaker_30 rfl rfl rfl rfl ?_
          refine qj_iload cx dX2_worstMaker_31 rfl ?_
          refine qj_istore_n (ls1 := [some (.ref 22), some (.int a1), some (.int a4), some (.int q3), some (.int a4), some (.int q3)]) cx dX2_worstMaker_33 rfl rfl rfl rfl ?_
          refine qw_sub (ls1 := [some (.ref 22), some (.int a1), some (.int a4), some (.int q3), some (.int a4), none]) rfl (qc_sb_ok ⟨rfl, rfl, rfl, rfl, rfl, trivial⟩) ?_
          exact L34 (P_X2_worstMaker_8 I f) ih a1 a4 q3 a4 hP
  show qc_J F 0 0 0 [some (.ref 22), some (.int a), none, none, none, none] [] (I, J, (rX w, kX, nX, n))
  unfold P_X2_worstMaker at hP
  refine qj_bipush (v := (-2 : Int32)) cx dX2_worstMaker_0 (by decide) ?_
  refine qj_istore_n (ls1 := [some (.ref 22), some (.int a), some (.int (-2 : Int32)), none, none, none]) cx dX2_worstMaker_2 rfl rfl rfl rfl ?_
  refine qj_iconst (v := (0 : Int32)) cx dX2_worstMaker_3 (by decide) ?_
  refine qj_istore_n (ls1 := [some (.ref 22), some (.int a), some (.int (-2 : Int32)), some (.int (0 : Int32)), none, none]) cx dX2_worstMaker_4 rfl rfl rfl rfl ?_
  refine qj_iconst (v := (0 : Int32)) cx dX2_worstMaker_5 (by decide) ?_
  refine qj_istore (ls1 := [some (.ref 22), some (.int a), some (.int (-2 : Int32)), some (.int (0 : Int32)), some (.int (0 : Int32)), none]) cx dX2_worstMaker_6 rfl rfl rfl ?_
  exact L8 qc_fu a (-2 : Int32) (0 : Int32) (0 : Int32) hP
def P_X2_makersAhead_47 (I : Nat → Nat → Int32) (k12 : Int32 → Int32 → Int32 → Int32 → Int32 → Option (Int32)) (a1 : Int32) (a2 : Int32) (a3 : Int32) (a4 : Int32) (a5 : Int32) : Option (Int32) :=
  qc_let (a5 + (1 : Int32)) fun x1 =>
  k12 a1 a2 a3 a4 x1
def P_X2_makersAhead_44 (I : Nat → Nat → Int32) (k12 : Int32 → Int32 → Int32 → Int32 → Int32 → Option (Int32)) (a1 : Int32) (a2 : Int32) (a3 : Int32) (a4 : Int32) (a5 : Int32) : Option (Int32) :=
  qc_let (a4 + (1 : Int32)) fun x2 =>
  P_X2_makersAhead_47 I k12 a1 a2 a3 x2 a5
def P_X2_makersAhead_12 (I : Nat → Nat → Int32) : Nat → Int32 → Int32 → Int32 → Int32 → Int32 → Option (Int32)
  | 0, _, _, _, _, _ => none
  | f + 1, a1, a2, a3, a4, a5 =>
  if a2 ≤ a5 then
  some a4
  else
  (P_X2_strikesMadeBy I a5).bind fun q4 =>
  if a3 < q4 then
  P_X2_makersAhead_44 I (P_X2_makersAhead_12 I f) a1 a2 a3 a4 a5
  else
  if q4 = a3 then
  (if a1 ≤ a5 then
  P_X2_makersAhead_47 I (P_X2_makersAhead_12 I f) a1 a2 a3 a4 a5
  else
  P_X2_makersAhead_44 I (P_X2_makersAhead_12 I f) a1 a2 a3 a4 a5)
  else
  P_X2_makersAhead_47 I (P_X2_makersAhead_12 I f) a1 a2 a3 a4 a5
def P_X2_makersAhead (I : Nat → Nat → Int32) (a : Int32) (b : Int32) : Option (Int32) :=
  (P_X2_strikesMadeBy I a).bind fun q8 =>
  P_X2_makersAhead_12 I qc_fu a b q8 (0 : Int32) (0 : Int32)
set_option maxRecDepth 20000 in
theorem c_X2_makersAhead {I : Nat → Nat → Int32} {J : Nat → Nat → Int64} {w : Nat → Nat} {n : Nat} (hn : 121 ≤ n) (hn1 : n ≤ 200) {a : Int32} {b : Int32} {q0 : Int32} (hP : P_X2_makersAhead I a b = some q0) : ∀ l, qc_M l yX2_makersAhead cX2_makersAhead 7 (some .int) 2 45 0 0 [.ref 22, .int a, .int b] (I, J, (rX w, kX, nX, n)) (some (.int q0)) (I, J, (rX w, kX, nX, n)) := by
  intro l
  refine qc_ent2 (by decide) (Nat.le_of_ble_eq_true rfl) ?_
  intro F hn0 cx hz
  have cx : qc_X F cX2_makersAhead RX2 "makersAhead" 2 0 0 45 := cx
  have L47 : ∀ (k12 : Int32 → Int32 → Int32 → Int32 → Int32 → Option (Int32)) (g12 : ∀ (a1 : Int32) (a2 : Int32) (a3 : Int32) (a4 : Int32) (a5 : Int32), k12 a1 a2 a3 a4 a5 = some q0 → qc_J F 0 0 12 [some (.ref 22), some (.int a1), some (.int a2), some (.int a3), some (.int a4), some (.int a5), none] [] (I, J, (rX w, kX, nX, n))) (a1 : Int32) (a2 : Int32) (a3 : Int32) (a4 : Int32) (a5 : Int32), P_X2_makersAhead_47 I k12 a1 a2 a3 a4 a5 = some q0 → qc_J F 0 0 47 [some (.ref 22), some (.int a1), some (.int a2), some (.int a3), some (.int a4), some (.int a5), none] [] (I, J, (rX w, kX, nX, n)) := by
    intro k12 g12 a1 a2 a3 a4 a5 hP
    unfold P_X2_makersAhead_47 at hP
    obtain ⟨x1, ex1, hP⟩ := qc_letE hP
    refine qj_iinc (v := x1) (ls1 := [some (.ref 22), some (.int a1), some (.int a2), some (.int a3), some (.int a4), some (.int x1), none]) cx dX2_makersAhead_47 rfl (by rw [ex1]; rfl) rfl rfl ?_
    refine qj_goto (tgt := 12) cx dX2_makersAhead_50 (by decide) ?_
    exact g12 a1 a2 a3 a4 x1 hP
  have L44 : ∀ (k12 : Int32 → Int32 → Int32 → Int32 → Int32 → Option (Int32)) (g12 : ∀ (a1 : Int32) (a2 : Int32) (a3 : Int32) (a4 : Int32) (a5 : Int32), k12 a1 a2 a3 a4 a5 = some q0 → qc_J F 0 0 12 [some (.ref 22), some (.int a1), some (.int a2), some (.int a3), some (.int a4), some (.int a5), none] [] (I, J, (rX w, kX, nX, n))) (a1 : Int32) (a2 : Int32) (a3 : Int32) (a4 : Int32) (a5 : Int32), P_X2_makersAhead_44 I k12 a1 a2 a3 a4 a5 = some q0 → qc_J F 0 0 44 [some (.ref 22), some (.int a1), some (.int a2), some (.int a3), some (.int a4), some (.int a5), none] [] (I, J, (rX w, kX, nX, n)) := by
    intro k12 g12 a1 a2 a3 a4 a5 hP
    unfold P_X2_makersAhead_44 at hP
    obtain ⟨x2, ex2, hP⟩ := qc_letE hP
    refine qj_iinc (v := x2) (ls1 := [some (.ref 22), some (.int a1), some (.int a2), some (.int a3), some (.int x2), some (.int a5), none]) cx dX2_makersAhead_44 rfl (by rw [ex2]; rfl) rfl rfl ?_
    exact L47 k12 g12 a1 a2 a3 x2 a5 hP
  have L12 : ∀  (f : Nat) (a1 : Int32) (a2 : Int32) (a3 : Int32) (a4 : Int32) (a5 : Int32), P_X2_makersAhead_12 I f a1 a2 a3 a4 a5 = some q0 → qc_J F 0 0 12 [some (.ref 22), some (.int a1), some (.int a2), some (.int a3), some (.int a4), some (.int a5), none] [] (I, J, (rX w, kX, nX, n)) := by
    intro  f
    induction f with
    | zero => intro a1 a2 a3 a4 a5 hP; cases hP
    | succ f ih =>
      intro a1 a2 a3 a4 a5 hP
      rw [P_X2_makersAhead_12] at hP
      refine qj_iload cx dX2_makersAhead_12 rfl ?_
      refine qj_iload_n cx dX2_makersAhead_14 rfl rfl ?_
      refine qj_icmp_ge (tgt := 53) cx dX2_makersAhead_15 (by decide) (fun c3 => ?_) (fun c3 => ?_)
      · have hP := qc_ifT hP c3
        refine qj_iload cx dX2_makersAhead_53 rfl ?_
        exact qw_iret cx hz dX2_makersAhead_55 (Nat.zero_le _) (Nat.zero_le _) (Option.some.inj hP) rfl rfl
      · have hP := qc_ifF hP c3
        refine qj_aload_n cx dX2_makersAhead_18 rfl rfl ?_
        refine qj_iload cx dX2_makersAhead_19 rfl ?_
        obtain ⟨q4, eq4, hP⟩ := Option.bind_eq_some_iff.mp hP
        refine qj_callV (As := [.int a5]) (st := []) (t := 22) (h' := (I, J, (rX w, kX, nX, n))) (r := some (.int q4)) cx dX2_makersAhead_21 (c_X2_strikesMadeBy (I := I) (J := J) (w := w) hn hn1 eq4) gc_RX2_146 qm_X2_strikesMadeBy rfl rfl qc_cl2 rfl (Nat.lt_of_lt_of_le (by decide) hn) (by decide) (by decide) rfl (Nat.le_of_ble_eq_true rfl) (Nat.le_trans hn1 (by decide)) hn0 rfl ?_
        refine qj_istore (ls1 := [some (.ref 22), some (.int a1), some (.int a2), some (.int a3), some (.int a4), some (.int a5), some (.int q4)]) cx dX2_makersAhead_24 rfl rfl rfl ?_
        refine qj_iload cx dX2_makersAhead_26 rfl ?_
        refine qj_iload_n cx dX2_makersAhead_28 rfl rfl ?_
        refine qj_icmp_gt (tgt := 44) cx dX2_makersAhead_29 (by decide) (fun c5 => ?_) (fun c5 => ?_)
        · have hP := qc_ifT hP c5
          refine qw_sub (ls1 := [some (.ref 22), some (.int a1), some (.int a2), some (.int a3), some (.int a4), some (.int a5), none]) rfl (qc_sb_ok ⟨rfl, rfl, rfl, rfl, rfl, rfl, trivial⟩) ?_
          exact L44 (P_X2_makersAhead_12 I f) ih a1 a2 a3 a4 a5 hP
        · have hP := qc_ifF hP c5
          refine qj_iload cx dX2_makersAhead_32 rfl ?_
          refine qj_iload_n cx dX2_makersAhead_34 rfl rfl ?_
          refine qj_icmp_ne (tgt := 47) cx dX2_makersAhead_35 (by decide) (fun c6 => ?_) (fun c6 => ?_)
          · have hP := qc_ifF hP c6
            refine qw_sub (ls1 := [some (.ref 22), some (.int a1), some (.int a2), some (.int a3), some (.int a4), some (.int a5), none]) rfl (qc_sb_ok ⟨rfl, rfl, rfl, rfl, rfl, rfl, trivial⟩) ?_
            exact L47 (P_X2_makersAhead_12 I f) ih a1 a2 a3 a4 a5 hP
          · have hP := qc_ifT hP c6
            refine qj_iload cx dX2_makersAhead_38 rfl ?_
            refine qj_iload_n cx dX2_makersAhead_40 rfl rfl ?_
            refine qj_icmp_ge (tgt := 47) cx dX2_makersAhead_41 (by decide) (fun c7 => ?_) (fun c7 => ?_)
            · have hP := qc_ifT hP c7
              refine qw_sub (ls1 := [some (.ref 22), some (.int a1), some (.int a2), some (.int a3), some (.int a4), some (.int a5), none]) rfl (qc_sb_ok ⟨rfl, rfl, rfl, rfl, rfl, rfl, trivial⟩) ?_
              exact L47 (P_X2_makersAhead_12 I f) ih a1 a2 a3 a4 a5 hP
            · have hP := qc_ifF hP c7
              refine qw_sub (ls1 := [some (.ref 22), some (.int a1), some (.int a2), some (.int a3), some (.int a4), some (.int a5), none]) rfl (qc_sb_ok ⟨rfl, rfl, rfl, rfl, rfl, rfl, trivial⟩) ?_
              exact L44 (P_X2_makersAhead_12 I f) ih a1 a2 a3 a4 a5 hP
  show qc_J F 0 0 0 [some (.ref 22), some (.int a), some (.int b), none, none, none, none] [] (I, J, (rX w, kX, nX, n))
  unfold P_X2_makersAhead at hP
  refine qj_aload_n cx dX2_makersAhead_0 rfl rfl ?_
  refine qj_iload_n cx dX2_makersAhead_1 rfl rfl ?_
  obtain ⟨q8, eq8, hP⟩ := Option.bind_eq_some_iff.mp hP
  refine qj_callV (As := [.int a]) (st := []) (t := 22) (h' := (I, J, (rX w, kX, nX, n))) (r := some (.int q8)) cx dX2_makersAhead_2 (c_X2_strikesMadeBy (I := I) (J := J) (w := w) hn hn1 eq8) gc_RX2_146 qm_X2_strikesMadeBy rfl rfl qc_cl2 rfl (Nat.lt_of_lt_of_le (by decide) hn) (by decide) (by decide) rfl (Nat.le_of_ble_eq_true rfl) (Nat.le_trans hn1 (by decide)) hn0 rfl ?_
  refine qj_istore_n (ls1 := [some (.ref 22), some (.int a), some (.int b), some (.int q8), none, none, none]) cx dX2_makersAhead_5 rfl rfl rfl rfl ?_
  refine qj_iconst (v := (0 : Int32)) cx dX2_makersAhead_6 (by decide) ?_
  refine qj_istore (ls1 := [some (.ref 22), some (.int a), some (.int b), some (.int q8), some (.int (0 : Int32)), none, none]) cx dX2_makersAhead_7 rfl rfl rfl ?_
  refine qj_iconst (v := (0 : Int32)) cx dX2_makersAhead_9 (by decide) ?_
  refine qj_istore (ls1 := [some (.ref 22), some (.int a), some (.int b), some (.int q8), some (.int (0 : Int32)), some (.int (0 : Int32)), none]) cx dX2_makersAhead_10 rfl rfl rfl ?_
  exact L12 qc_fu a b q8 (0 : Int32) (0 : Int32) hP
def P_X3_next_147  (I : (Nat → Nat → Int32)) (a1 : Int32) : Option ((Nat → Nat → Int32)) :=
  (if a1 = (59 : Int32) then
  some (3 : Int32)
  else
  some (4 : Int32)).bind fun v2 =>
  qc_let (qc_u2 I 121 4 v2) fun I3 =>
  qc_let (qc_u2 I3 121 3 ((I3 121 3) + (1 : Int32))) fun I4 =>
  some I4
def P_X3_next_128  (I : (Nat → Nat → Int32)) (a1 : Int32) : Option ((Nat → Nat → Int32)) :=
  if a1 < (48 : Int32) then
  P_X3_next_147 I a1
  else
  if (57 : Int32) < a1 then
  P_X3_next_147 I a1
  else
  (P_X3_readDigits I).bind fun q7 =>
  some q7
def P_X3_next_52  (I : (Nat → Nat → Int32)) : Option ((Nat → Nat → Int32)) :=
  qc_let (qc_u2 I 121 5 (I 121 3)) fun I8 =>
  qc_let (qc_u2 I8 121 6 (0 : Int32)) fun I9 =>
  (if I9 121 1 ≤ I9 121 3 then
  some (0 : Int32)
  else
  if qc_in (I9 121 3) 700 then
  some (I9 1 (I9 121 3).toNatClampNeg)
  else none).bind fun v11 =>
  if I9 121 3 < I9 121 1 then
  (if v11 < (97 : Int32) then
  P_X3_next_128 I9 v11
  else
  if (122 : Int32) < v11 then
  P_X3_next_128 I9 v11
  else
  (P_X3_readLetters I9).bind fun q16 =>
  some q16)
  else
  qc_let (qc_u2 I9 121 4 (0 : Int32)) fun I17 =>
  some I17
def P_X3_next_39 (k0 : (Nat → Nat → Int32) → Option ((Nat → Nat → Int32))) (I : (Nat → Nat → Int32)) : Option ((Nat → Nat → Int32)) :=
  qc_let (qc_u2 I 121 3 ((I 121 3) + (1 : Int32))) fun I18 =>
  k0 I18
def P_X3_next_0  : Nat → (Nat → Nat → Int32) → Option ((Nat → Nat → Int32))
  | 0, _ => none
  | f + 1, I =>
  if I 121 1 ≤ I 121 3 then
  P_X3_next_52 I
  else
  if qc_in (I 121 3) 700 then
  if I 1 (I 121 3).toNatClampNeg = (10 : Int32) then
  P_X3_next_39 (P_X3_next_0 f) I
  else
  if qc_in (I 121 3) 700 then
  if I 1 (I 121 3).toNatClampNeg = (32 : Int32) then
  P_X3_next_39 (P_X3_next_0 f) I
  else
  P_X3_next_52 I
  else none
  else none
def P_X3_next (I : Nat → Nat → Int32) : Option ((Nat → Nat → Int32)) :=
  P_X3_next_0 qc_fu I
set_option maxRecDepth 20000 in
theorem c_X3_next {I : Nat → Nat → Int32} {J : Nat → Nat → Int64} {w : Nat → Nat} {n : Nat} (hn : 121 ≤ n) (hn1 : n ≤ 200) (hn2 : 132 ≤ n)  {q0 : (Nat → Nat → Int32)} (hP : P_X3_next I = some q0) : ∀ l, qc_M l yX3_next cX3_next 2 none 1 21 0 0 [.ref 121] (I, J, (rX w, kX, nX, n)) none (q0, J, (rX w, kX, nX, n)) := by
  intro l
  refine qc_ent2 (by decide) (Nat.le_of_ble_eq_true rfl) ?_
  intro F hn0 cx hz
  have cx : qc_X F cX3_next RX3 "next" 1 0 0 21 := cx
  have L147 : ∀  (I : (Nat → Nat → Int32)) (a1 : Int32), P_X3_next_147 I a1 = some q0 → qc_J F 0 0 147 [some (.ref 121), some (.int a1)] [] (I, J, (rX w, kX, nX, n)) := by
    intro I a1 hP
    unfold P_X3_next_147 at hP
    refine qj_aload_n cx dX3_next_147 rfl rfl ?_
    refine qj_iload_n cx dX3_next_148 rfl rfl ?_
    refine qj_bipush (v := (59 : Int32)) cx dX3_next_149 (by decide) ?_
    obtain ⟨v2, hv2, hP⟩ := Option.bind_eq_some_iff.mp hP
    have Kv2 : qc_J F 0 0 159 [some (.ref 121), some (.int a1)] [.int v2, .ref 121] (I, J, (rX w, kX, nX, n)) := by
      obtain ⟨I3, eI3, hP⟩ := qc_letE hP
      refine qw_putI (j := 4) cx dX3_next_159 qc_cl3 rfl (Nat.lt_of_lt_of_le (by decide) hn2) rfl ww_389 rfl rfl rfl eI3 ?_
      refine qj_aload_n cx dX3_next_162 rfl rfl ?_
      refine qj_dup cx dX3_next_163 rfl ?_
      refine qw_getI (j := 3) cx dX3_next_164 qc_cl3 rfl (Nat.lt_of_lt_of_le (by decide) hn2) rfl ww_388 ?_
      refine qj_iconst (v := (1 : Int32)) cx dX3_next_167 (by decide) ?_
      refine qj_iadd cx dX3_next_168 ?_
      obtain ⟨I4, eI4, hP⟩ := qc_letE hP
      refine qw_putI (j := 3) cx dX3_next_169 qc_cl3 rfl (Nat.lt_of_lt_of_le (by decide) hn2) rfl ww_388 rfl rfl rfl eI4 ?_
      exact qw_vret cx hz dX3_next_172 (Nat.zero_le _) (Nat.zero_le _) (Option.some.inj hP) rfl
    refine qj_icmp_ne (tgt := 158) cx dX3_next_151 (by decide) (fun c1 => ?_) (fun c1 => ?_)
    · have hv2 := qc_ifF hv2 c1
      refine qj_iconst (v := (4 : Int32)) cx dX3_next_158 (by decide) ?_
      exact qw_top (Option.some.inj hv2).symm Kv2
    · have hv2 := qc_ifT hv2 c1
      refine qj_iconst (v := (3 : Int32)) cx dX3_next_154 (by decide) ?_
      refine qj_goto (tgt := 159) cx dX3_next_155 (by decide) ?_
      exact qw_top (Option.some.inj hv2).symm Kv2
  have L128 : ∀  (I : (Nat → Nat → Int32)) (a1 : Int32), P_X3_next_128 I a1 = some q0 → qc_J F 0 0 128 [some (.ref 121), some (.int a1)] [] (I, J, (rX w, kX, nX, n)) := by
    intro I a1 hP
    unfold P_X3_next_128 at hP
    refine qj_iload_n cx dX3_next_128 rfl rfl ?_
    refine qj_bipush (v := (48 : Int32)) cx dX3_next_129 (by decide) ?_
    refine qj_icmp_lt (tgt := 147) cx dX3_next_131 (by decide) (fun c5 => ?_) (fun c5 => ?_)
    · have hP := qc_ifT hP c5
      exact L147 I a1 hP
    · have hP := qc_ifF hP c5
      refine qj_iload_n cx dX3_next_134 rfl rfl ?_
      refine qj_bipush (v := (57 : Int32)) cx dX3_next_135 (by decide) ?_
      refine qj_icmp_gt (tgt := 147) cx dX3_next_137 (by decide) (fun c6 => ?_) (fun c6 => ?_)
      · have hP := qc_ifT hP c6
        exact L147 I a1 hP
      · have hP := qc_ifF hP c6
        refine qj_aload_n cx dX3_next_140 rfl rfl ?_
        obtain ⟨q7, eq7, hP⟩ := Option.bind_eq_some_iff.mp hP
        refine qj_callV (As := []) (st := []) (t := 121) (h' := (q7, J, (rX w, kX, nX, n))) (r := none) cx dX3_next_141 (c_X3_readDigits (I := I) (J := J) (w := w) hn hn1 hn2 eq7) gc_RX3_165 qm_X3_readDigits rfl rfl qc_cl3 rfl (Nat.lt_of_lt_of_le (by decide) hn2) (by decide) (by decide) rfl (Nat.le_of_ble_eq_true rfl) (Nat.le_trans hn1 (by decide)) hn0 rfl ?_
        refine qj_goto (tgt := 172) cx dX3_next_144 (by decide) ?_
        exact qw_vret cx hz dX3_next_172 (Nat.zero_le _) (Nat.zero_le _) (Option.some.inj hP) rfl
  have L52 : ∀  (I : (Nat → Nat → Int32)), P_X3_next_52 I = some q0 → qc_J F 0 0 52 [some (.ref 121), none] [] (I, J, (rX w, kX, nX, n)) := by
    intro I hP
    unfold P_X3_next_52 at hP
    refine qj_aload_n cx dX3_next_52 rfl rfl ?_
    refine qj_aload_n cx dX3_next_53 rfl rfl ?_
    refine qw_getI (j := 3) cx dX3_next_54 qc_cl3 rfl (Nat.lt_of_lt_of_le (by decide) hn2) rfl ww_388 ?_
    obtain ⟨I8, eI8, hP⟩ := qc_letE hP
    refine qw_putI (j := 5) cx dX3_next_57 qc_cl3 rfl (Nat.lt_of_lt_of_le (by decide) hn2) rfl ww_390 rfl rfl rfl eI8 ?_
    refine qj_aload_n cx dX3_next_60 rfl rfl ?_
    refine qj_iconst (v := (0 : Int32)) cx dX3_next_61 (by decide) ?_
    obtain ⟨I9, eI9, hP⟩ := qc_letE hP
    refine qw_putI (j := 6) cx dX3_next_62 qc_cl3 rfl (Nat.lt_of_lt_of_le (by decide) hn2) rfl ww_391 rfl rfl rfl eI9 ?_
    refine qj_aload_n cx dX3_next_65 rfl rfl ?_
    refine qw_getI (j := 3) cx dX3_next_66 qc_cl3 rfl (Nat.lt_of_lt_of_le (by decide) hn2) rfl ww_388 ?_
    refine qj_aload_n cx dX3_next_69 rfl rfl ?_
    refine qw_getI (j := 1) cx dX3_next_70 qc_cl3 rfl (Nat.lt_of_lt_of_le (by decide) hn2) rfl ww_385 ?_
    obtain ⟨v11, hv11, hP⟩ := Option.bind_eq_some_iff.mp hP
    have Kv11 : qc_J F 0 0 89 [some (.ref 121), none] [.int v11] (I9, J, (rX w, kX, nX, n)) := by
      refine qj_istore_n (ls1 := [some (.ref 121), some (.int v11)]) cx dX3_next_89 rfl rfl rfl rfl ?_
      refine qj_aload_n cx dX3_next_90 rfl rfl ?_
      refine qw_getI (j := 3) cx dX3_next_91 qc_cl3 rfl (Nat.lt_of_lt_of_le (by decide) hn2) rfl ww_388 ?_
      refine qj_aload_n cx dX3_next_94 rfl rfl ?_
      refine qw_getI (j := 1) cx dX3_next_95 qc_cl3 rfl (Nat.lt_of_lt_of_le (by decide) hn2) rfl ww_385 ?_
      refine qj_icmp_lt (tgt := 109) cx dX3_next_98 (by decide) (fun c13 => ?_) (fun c13 => ?_)
      · have hP := qc_ifT hP c13
        refine qj_iload_n cx dX3_next_109 rfl rfl ?_
        refine qj_bipush (v := (97 : Int32)) cx dX3_next_110 (by decide) ?_
        refine qj_icmp_lt (tgt := 128) cx dX3_next_112 (by decide) (fun c14 => ?_) (fun c14 => ?_)
        · have hP := qc_ifT hP c14
          exact L128 I9 v11 hP
        · have hP := qc_ifF hP c14
          refine qj_iload_n cx dX3_next_115 rfl rfl ?_
          refine qj_bipush (v := (122 : Int32)) cx dX3_next_116 (by decide) ?_
          refine qj_icmp_gt (tgt := 128) cx dX3_next_118 (by decide) (fun c15 => ?_) (fun c15 => ?_)
          · have hP := qc_ifT hP c15
            exact L128 I9 v11 hP
          · have hP := qc_ifF hP c15
            refine qj_aload_n cx dX3_next_121 rfl rfl ?_
            obtain ⟨q16, eq16, hP⟩ := Option.bind_eq_some_iff.mp hP
            refine qj_callV (As := []) (st := []) (t := 121) (h' := (q16, J, (rX w, kX, nX, n))) (r := none) cx dX3_next_122 (c_X3_readLetters (I := I9) (J := J) (w := w) hn hn1 hn2 eq16) gc_RX3_162 qm_X3_readLetters rfl rfl qc_cl3 rfl (Nat.lt_of_lt_of_le (by decide) hn2) (by decide) (by decide) rfl (Nat.le_of_ble_eq_true rfl) (Nat.le_trans hn1 (by decide)) hn0 rfl ?_
            refine qj_goto (tgt := 172) cx dX3_next_125 (by decide) ?_
            exact qw_vret cx hz dX3_next_172 (Nat.zero_le _) (Nat.zero_le _) (Option.some.inj hP) rfl
      · have hP := qc_ifF hP c13
        refine qj_aload_n cx dX3_next_101 rfl rfl ?_
        refine qj_iconst (v := (0 : Int32)) cx dX3_next_102 (by decide) ?_
        obtain ⟨I17, eI17, hP⟩ := qc_letE hP
        refine qw_putI (j := 4) cx dX3_next_103 qc_cl3 rfl (Nat.lt_of_lt_of_le (by decide) hn2) rfl ww_389 rfl rfl rfl eI17 ?_
        refine qj_goto (tgt := 172) cx dX3_next_106 (by decide) ?_
        exact qw_vret cx hz dX3_next_172 (Nat.zero_le _) (Nat.zero_le _) (Option.some.inj hP) rfl
    refine qj_icmp_ge (tgt := 88) cx dX3_next_73 (by decide) (fun c10 => ?_) (fun c10 => ?_)
    · have hv11 := qc_ifT hv11 c10
      refine qj_iconst (v := (0 : Int32)) cx dX3_next_88 (by decide) ?_
      exact qw_top (Option.some.inj hv11).symm Kv11
    · have hv11 := qc_ifF hv11 c10
      refine qj_aload_n cx dX3_next_76 rfl rfl ?_
      refine qw_getR (j := 0) (t1 := 1) cx dX3_next_77 qc_cl3 rfl (Nat.lt_of_lt_of_le (by decide) hn2) rfl ww_384 rfl ?_
      refine qj_aload_n cx dX3_next_80 rfl rfl ?_
      refine qw_getI (j := 3) cx dX3_next_81 qc_cl3 rfl (Nat.lt_of_lt_of_le (by decide) hn2) rfl ww_388 ?_
      obtain ⟨c12, hv11⟩ := qc_ck hv11
      refine qw_iald (n1 := 700) cx dX3_next_84 rfl (Nat.lt_of_lt_of_le (by decide) hn) rfl c12 ?_
      refine qj_goto (tgt := 89) cx dX3_next_85 (by decide) ?_
      exact qw_top (Option.some.inj hv11).symm Kv11
  have L39 : ∀ (k0 : (Nat → Nat → Int32) → Option ((Nat → Nat → Int32))) (g0 : ∀ (I : Nat → Nat → Int32), k0 I = some q0 → qc_J F 0 0 0 [some (.ref 121), none] [] (I, J, (rX w, kX, nX, n))) (I : (Nat → Nat → Int32)), P_X3_next_39 k0 I = some q0 → qc_J F 0 0 39 [some (.ref 121), none] [] (I, J, (rX w, kX, nX, n)) := by
    intro k0 g0 I hP
    unfold P_X3_next_39 at hP
    refine qj_aload_n cx dX3_next_39 rfl rfl ?_
    refine qj_dup cx dX3_next_40 rfl ?_
    refine qw_getI (j := 3) cx dX3_next_41 qc_cl3 rfl (Nat.lt_of_lt_of_le (by decide) hn2) rfl ww_388 ?_
    refine qj_iconst (v := (1 : Int32)) cx dX3_next_44 (by decide) ?_
    refine qj_iadd cx dX3_next_45 ?_
    obtain ⟨I18, eI18, hP⟩ := qc_letE hP
    refine qw_putI (j := 3) cx dX3_next_46 qc_cl3 rfl (Nat.lt_of_lt_of_le (by decide) hn2) rfl ww_388 rfl rfl rfl eI18 ?_
    refine qj_goto (tgt := 0) cx dX3_next_49 (by decide) ?_
    exact g0 I18 hP
  have L0 : ∀  (f : Nat) (I : (Nat → Nat → Int32)), P_X3_next_0 f I = some q0 → qc_J F 0 0 0 [some (.ref 121), none] [] (I, J, (rX w, kX, nX, n)) := by
    intro  f
    induction f with
    | zero => intro I hP; cases hP
    | succ f ih =>
      intro I hP
      rw [P_X3_next_0] at hP
      refine qj_aload_n cx dX3_next_0 rfl rfl ?_
      refine qw_getI (j := 3) cx dX3_next_1 qc_cl3 rfl (Nat.lt_of_lt_of_le (by decide) hn2) rfl ww_388 ?_
      refine qj_aload_n cx dX3_next_4 rfl rfl ?_
      refine qw_getI (j := 1) cx dX3_next_5 qc_cl3 rfl (Nat.lt_of_lt_of_le (by decide) hn2) rfl ww_385 ?_
      refine qj_icmp_ge (tgt := 52) cx dX3_next_8 (by decide) (fun c19 => ?_) (fun c19 => ?_)
      · have hP := qc_ifT hP c19
        exact L52 I hP
      · have hP := qc_ifF hP c19
        refine qj_aload_n cx dX3_next_11 rfl rfl ?_
        refine qw_getR (j := 0) (t1 := 1) cx dX3_next_12 qc_cl3 rfl (Nat.lt_of_lt_of_le (by decide) hn2) rfl ww_384 rfl ?_
        refine qj_aload_n cx dX3_next_15 rfl rfl ?_
        refine qw_getI (j := 3) cx dX3_next_16 qc_cl3 rfl (Nat.lt_of_lt_of_le (by decide) hn2) rfl ww_388 ?_
        obtain ⟨c20, hP⟩ := qc_ck hP
        refine qw_iald (n1 := 700) cx dX3_next_19 rfl (Nat.lt_of_lt_of_le (by decide) hn) rfl c20 ?_
        refine qj_bipush (v := (10 : Int32)) cx dX3_next_20 (by decide) ?_
        refine qj_icmp_eq (tgt := 39) cx dX3_next_22 (by decide) (fun c21 => ?_) (fun c21 => ?_)
        · have hP := qc_ifT hP c21
          exact L39 (P_X3_next_0 f) ih I hP
        · have hP := qc_ifF hP c21
          refine qj_aload_n cx dX3_next_25 rfl rfl ?_
          refine qw_getR (j := 0) (t1 := 1) cx dX3_next_26 qc_cl3 rfl (Nat.lt_of_lt_of_le (by decide) hn2) rfl ww_384 rfl ?_
          refine qj_aload_n cx dX3_next_29 rfl rfl ?_
          refine qw_getI (j := 3) cx dX3_next_30 qc_cl3 rfl (Nat.lt_of_lt_of_le (by decide) hn2) rfl ww_388 ?_
          obtain ⟨c22, hP⟩ := qc_ck hP
          refine qw_iald (n1 := 700) cx dX3_next_33 rfl (Nat.lt_of_lt_of_le (by decide) hn) rfl c22 ?_
          refine qj_bipush (v := (32 : Int32)) cx dX3_next_34 (by decide) ?_
          refine qj_icmp_ne (tgt := 52) cx dX3_next_36 (by decide) (fun c23 => ?_) (fun c23 => ?_)
          · have hP := qc_ifF hP c23
            exact L52 I hP
          · have hP := qc_ifT hP c23
            exact L39 (P_X3_next_0 f) ih I hP
  show qc_J F 0 0 0 [some (.ref 121), none] [] (I, J, (rX w, kX, nX, n))
  unfold P_X3_next at hP
  exact L0 qc_fu I hP
def P_X4_copyFrom (I : Nat → Nat → Int32) (J : Nat → Nat → Int64) (p : Nat) (r : Nat) : Option ((Nat → Nat → Int32) × (Nat → Nat → Int64)) :=
  qc_let (qc_u2 I p 0 (I r 0)) fun I1 =>
  qc_let (qc_u2 I1 p 1 (I1 r 1)) fun I2 =>
  qc_let (qc_u2 I2 p 2 (I2 r 2)) fun I3 =>
  qc_let (qc_u2 I3 p 3 (I3 r 3)) fun I4 =>
  qc_let (qc_u2 I4 p 4 (I4 r 4)) fun I5 =>
  qc_let (qc_u2 I5 p 5 (I5 r 5)) fun I6 =>
  qc_let (qc_u2 J p 6 (J r 6)) fun J7 =>
  qc_let (qc_u I6 (p + 1 + 0) (va_cpy (I6 (r + 1 + 0)) (I6 (p + 1 + 0)) 0 0 3)) fun I8 =>
  qc_let (qc_u I8 (p + 1 + 1) (va_cpy (I8 (r + 1 + 1)) (I8 (p + 1 + 1)) 0 0 9)) fun I9 =>
  qc_let (qc_u I9 (p + 1 + 2) (va_cpy (I9 (r + 1 + 2)) (I9 (p + 1 + 2)) 0 0 8)) fun I10 =>
  qc_let (qc_u I10 (p + 1 + 3) (va_cpy (I10 (r + 1 + 3)) (I10 (p + 1 + 3)) 0 0 8)) fun I11 =>
  qc_let (qc_u I11 (p + 1 + 4) (va_cpy (I11 (r + 1 + 4)) (I11 (p + 1 + 4)) 0 0 8)) fun I12 =>
  qc_let (qc_u I12 (p + 1 + 5) (va_cpy (I12 (r + 1 + 5)) (I12 (p + 1 + 5)) 0 0 8)) fun I13 =>
  qc_let (qc_u I13 (p + 1 + 7) (va_cpy (I13 (r + 1 + 7)) (I13 (p + 1 + 7)) 0 0 8)) fun I14 =>
  qc_let (qc_u I14 (p + 1 + 8) (va_cpy (I14 (r + 1 + 8)) (I14 (p + 1 + 8)) 0 0 8)) fun I15 =>
  (P_X4_copyChannels I15 p r).bind fun q16 =>
  some (q16, J7)
set_option maxRecDepth 20000 in
theorem c_X4_copyFrom {I : Nat → Nat → Int32} {J : Nat → Nat → Int64} {w : Nat → Nat} {n : Nat} (hn : 121 ≤ n) (hn1 : n ≤ 200) {p : Nat} (hp : qc_sc n p) {r : Nat} (hr : qc_sc n r)  {q0 : (Nat → Nat → Int32) × (Nat → Nat → Int64)} (hP : P_X4_copyFrom I J p r = some q0) : ∀ l, qc_M l yX4_copyFrom cX4_copyFrom 2 none 2 47 0 0 [.ref p, .ref r] (I, J, (rX w, kX, nX, n)) none (q0.1, q0.2, (rX w, kX, nX, n)) := by
  intro l
  refine qc_ent2 (by decide) (Nat.le_of_ble_eq_true rfl) ?_
  intro F hn0 cx hz
  have cx : qc_X F cX4_copyFrom RX4 "copyFrom" 2 0 0 47 := cx
  show qc_J F 0 0 0 [some (.ref p), some (.ref r)] [] (I, J, (rX w, kX, nX, n))
  unfold P_X4_copyFrom at hP
  refine qj_aload_n cx dX4_copyFrom_0 rfl rfl ?_
  refine qj_aload_n cx dX4_copyFrom_1 rfl rfl ?_
  refine qw_getI (j := 0) cx dX4_copyFrom_2 qc_cl4 hr.2.1 (qc_ltp0 hr.1) rfl ww_147 ?_
  obtain ⟨I1, eI1, hP⟩ := qc_letE hP
  refine qw_putI (j := 0) cx dX4_copyFrom_5 qc_cl4 hp.2.1 (qc_ltp0 hp.1) rfl ww_147 rfl rfl rfl eI1 ?_
  refine qj_aload_n cx dX4_copyFrom_8 rfl rfl ?_
  refine qj_aload_n cx dX4_copyFrom_9 rfl rfl ?_
  refine qw_getI (j := 1) cx dX4_copyFrom_10 qc_cl4 hr.2.1 (qc_ltp0 hr.1) rfl ww_152 ?_
  obtain ⟨I2, eI2, hP⟩ := qc_letE hP
  refine qw_putI (j := 1) cx dX4_copyFrom_13 qc_cl4 hp.2.1 (qc_ltp0 hp.1) rfl ww_152 rfl rfl rfl eI2 ?_
  refine qj_aload_n cx dX4_copyFrom_16 rfl rfl ?_
  refine qj_aload_n cx dX4_copyFrom_17 rfl rfl ?_
  refine qw_getI (j := 2) cx dX4_copyFrom_18 qc_cl4 hr.2.1 (qc_ltp0 hr.1) rfl ww_156 ?_
  obtain ⟨I3, eI3, hP⟩ := qc_letE hP
  refine qw_putI (j := 2) cx dX4_copyFrom_21 qc_cl4 hp.2.1 (qc_ltp0 hp.1) rfl ww_156 rfl rfl rfl eI3 ?_
  refine qj_aload_n cx dX4_copyFrom_24 rfl rfl ?_
  refine qj_aload_n cx dX4_copyFrom_25 rfl rfl ?_
  refine qw_getI (j := 3) cx dX4_copyFrom_26 qc_cl4 hr.2.1 (qc_ltp0 hr.1) rfl ww_160 ?_
  obtain ⟨I4, eI4, hP⟩ := qc_letE hP
  refine qw_putI (j := 3) cx dX4_copyFrom_29 qc_cl4 hp.2.1 (qc_ltp0 hp.1) rfl ww_160 rfl rfl rfl eI4 ?_
  refine qj_aload_n cx dX4_copyFrom_32 rfl rfl ?_
  refine qj_aload_n cx dX4_copyFrom_33 rfl rfl ?_
  refine qw_getI (j := 4) cx dX4_copyFrom_34 qc_cl4 hr.2.1 (qc_ltp0 hr.1) rfl ww_163 ?_
  obtain ⟨I5, eI5, hP⟩ := qc_letE hP
  refine qw_putI (j := 4) cx dX4_copyFrom_37 qc_cl4 hp.2.1 (qc_ltp0 hp.1) rfl ww_163 rfl rfl rfl eI5 ?_
  refine qj_aload_n cx dX4_copyFrom_40 rfl rfl ?_
  refine qj_aload_n cx dX4_copyFrom_41 rfl rfl ?_
  refine qw_getI (j := 5) cx dX4_copyFrom_42 qc_cl4 hr.2.1 (qc_ltp0 hr.1) rfl ww_166 ?_
  obtain ⟨I6, eI6, hP⟩ := qc_letE hP
  refine qw_putI (j := 5) cx dX4_copyFrom_45 qc_cl4 hp.2.1 (qc_ltp0 hp.1) rfl ww_166 rfl rfl rfl eI6 ?_
  refine qj_aload_n cx dX4_copyFrom_48 rfl rfl ?_
  refine qj_aload_n cx dX4_copyFrom_49 rfl rfl ?_
  refine qw_getJ (j := 6) cx dX4_copyFrom_50 qc_cl4 hr.2.1 (qc_ltp0 hr.1) rfl ww_169 ?_
  obtain ⟨J7, eJ7, hP⟩ := qc_letE hP
  refine qw_putJ (j := 6) cx dX4_copyFrom_53 qc_cl4 hp.2.1 (qc_ltp0 hp.1) rfl ww_169 rfl rfl rfl eJ7 ?_
  refine qj_aload_n cx dX4_copyFrom_56 rfl rfl ?_
  refine qw_getR (j := 7) (t1 := (r + 1 + 0)) cx dX4_copyFrom_57 qc_cl4 hr.2.1 (qc_ltp0 hr.1) rfl ww_173 ((hr.2.2 0 (by decide)).2.2 _) ?_
  refine qj_iconst (v := (0 : Int32)) cx dX4_copyFrom_60 (by decide) ?_
  refine qj_aload_n cx dX4_copyFrom_61 rfl rfl ?_
  refine qw_getR (j := 7) (t1 := (p + 1 + 0)) cx dX4_copyFrom_62 qc_cl4 hp.2.1 (qc_ltp0 hp.1) rfl ww_173 ((hp.2.2 0 (by decide)).2.2 _) ?_
  refine qj_iconst (v := (0 : Int32)) cx dX4_copyFrom_65 (by decide) ?_
  refine qj_iconst (v := (3 : Int32)) cx dX4_copyFrom_66 (by decide) ?_
  obtain ⟨I8, eI8, hP⟩ := qc_letE hP
  refine qw_copy (sp1 := 0) (dp1 := 0) (m1 := 3) cx dX4_copyFrom_67 ww_572 ww_543 ww_542 ww_124 (hr.2.2 0 (by decide)).1 (qc_ltp hr.1 (by decide)) (hr.2.2 0 (by decide)).2.1 (hp.2.2 0 (by decide)).1 (qc_ltp hp.1 (by decide)) (hp.2.2 0 (by decide)).2.1 ⟨by decide, rfl⟩ ⟨by decide, rfl⟩ ⟨by decide, rfl⟩ (by decide) (by decide) (Nat.le_of_ble_eq_true rfl) eI8 ?_
  refine qj_aload_n cx dX4_copyFrom_70 rfl rfl ?_
  refine qw_getR (j := 8) (t1 := (r + 1 + 1)) cx dX4_copyFrom_71 qc_cl4 hr.2.1 (qc_ltp0 hr.1) rfl ww_176 ((hr.2.2 1 (by decide)).2.2 _) ?_
  refine qj_iconst (v := (0 : Int32)) cx dX4_copyFrom_74 (by decide) ?_
  refine qj_aload_n cx dX4_copyFrom_75 rfl rfl ?_
  refine qw_getR (j := 8) (t1 := (p + 1 + 1)) cx dX4_copyFrom_76 qc_cl4 hp.2.1 (qc_ltp0 hp.1) rfl ww_176 ((hp.2.2 1 (by decide)).2.2 _) ?_
  refine qj_iconst (v := (0 : Int32)) cx dX4_copyFrom_79 (by decide) ?_
  refine qj_bipush (v := (9 : Int32)) cx dX4_copyFrom_80 (by decide) ?_
  obtain ⟨I9, eI9, hP⟩ := qc_letE hP
  refine qw_copy (sp1 := 0) (dp1 := 0) (m1 := 9) cx dX4_copyFrom_82 ww_572 ww_543 ww_542 ww_124 (hr.2.2 1 (by decide)).1 (qc_ltp hr.1 (by decide)) (hr.2.2 1 (by decide)).2.1 (hp.2.2 1 (by decide)).1 (qc_ltp hp.1 (by decide)) (hp.2.2 1 (by decide)).2.1 ⟨by decide, rfl⟩ ⟨by decide, rfl⟩ ⟨by decide, rfl⟩ (by decide) (by decide) (Nat.le_of_ble_eq_true rfl) eI9 ?_
  refine qj_aload_n cx dX4_copyFrom_85 rfl rfl ?_
  refine qw_getR (j := 9) (t1 := (r + 1 + 2)) cx dX4_copyFrom_86 qc_cl4 hr.2.1 (qc_ltp0 hr.1) rfl ww_180 ((hr.2.2 2 (by decide)).2.2 _) ?_
  refine qj_iconst (v := (0 : Int32)) cx dX4_copyFrom_89 (by decide) ?_
  refine qj_aload_n cx dX4_copyFrom_90 rfl rfl ?_
  refine qw_getR (j := 9) (t1 := (p + 1 + 2)) cx dX4_copyFrom_91 qc_cl4 hp.2.1 (qc_ltp0 hp.1) rfl ww_180 ((hp.2.2 2 (by decide)).2.2 _) ?_
  refine qj_iconst (v := (0 : Int32)) cx dX4_copyFrom_94 (by decide) ?_
  refine qj_bipush (v := (8 : Int32)) cx dX4_copyFrom_95 (by decide) ?_
  obtain ⟨I10, eI10, hP⟩ := qc_letE hP
  refine qw_copy (sp1 := 0) (dp1 := 0) (m1 := 8) cx dX4_copyFrom_97 ww_572 ww_543 ww_542 ww_124 (hr.2.2 2 (by decide)).1 (qc_ltp hr.1 (by decide)) (hr.2.2 2 (by decide)).2.1 (hp.2.2 2 (by decide)).1 (qc_ltp hp.1 (by decide)) (hp.2.2 2 (by decide)).2.1 ⟨by decide, rfl⟩ ⟨by decide, rfl⟩ ⟨by decide, rfl⟩ (by decide) (by decide) (Nat.le_of_ble_eq_true rfl) eI10 ?_
  refine qj_aload_n cx dX4_copyFrom_100 rfl rfl ?_
  refine qw_getR (j := 10) (t1 := (r + 1 + 3)) cx dX4_copyFrom_101 qc_cl4 hr.2.1 (qc_ltp0 hr.1) rfl ww_182 ((hr.2.2 3 (by decide)).2.2 _) ?_
  refine qj_iconst (v := (0 : Int32)) cx dX4_copyFrom_104 (by decide) ?_
  refine qj_aload_n cx dX4_copyFrom_105 rfl rfl ?_
  refine qw_getR (j := 10) (t1 := (p + 1 + 3)) cx dX4_copyFrom_106 qc_cl4 hp.2.1 (qc_ltp0 hp.1) rfl ww_182 ((hp.2.2 3 (by decide)).2.2 _) ?_
  refine qj_iconst (v := (0 : Int32)) cx dX4_copyFrom_109 (by decide) ?_
  refine qj_bipush (v := (8 : Int32)) cx dX4_copyFrom_110 (by decide) ?_
  obtain ⟨I11, eI11, hP⟩ := qc_letE hP
  refine qw_copy (sp1 := 0) (dp1 := 0) (m1 := 8) cx dX4_copyFrom_112 ww_572 ww_543 ww_542 ww_124 (hr.2.2 3 (by decide)).1 (qc_ltp hr.1 (by decide)) (hr.2.2 3 (by decide)).2.1 (hp.2.2 3 (by decide)).1 (qc_ltp hp.1 (by decide)) (hp.2.2 3 (by decide)).2.1 ⟨by decide, rfl⟩ ⟨by decide, rfl⟩ ⟨by decide, rfl⟩ (by decide) (by decide) (Nat.le_of_ble_eq_true rfl) eI11 ?_
  refine qj_aload_n cx dX4_copyFrom_115 rfl rfl ?_
  refine qw_getR (j := 11) (t1 := (r + 1 + 4)) cx dX4_copyFrom_116 qc_cl4 hr.2.1 (qc_ltp0 hr.1) rfl ww_186 ((hr.2.2 4 (by decide)).2.2 _) ?_
  refine qj_iconst (v := (0 : Int32)) cx dX4_copyFrom_119 (by decide) ?_
  refine qj_aload_n cx dX4_copyFrom_120 rfl rfl ?_
  refine qw_getR (j := 11) (t1 := (p + 1 + 4)) cx dX4_copyFrom_121 qc_cl4 hp.2.1 (qc_ltp0 hp.1) rfl ww_186 ((hp.2.2 4 (by decide)).2.2 _) ?_
  refine qj_iconst (v := (0 : Int32)) cx dX4_copyFrom_124 (by decide) ?_
  refine qj_bipush (v := (8 : Int32)) cx dX4_copyFrom_125 (by decide) ?_
  obtain ⟨I12, eI12, hP⟩ := qc_letE hP
  refine qw_copy (sp1 := 0) (dp1 := 0) (m1 := 8) cx dX4_copyFrom_127 ww_572 ww_543 ww_542 ww_124 (hr.2.2 4 (by decide)).1 (qc_ltp hr.1 (by decide)) (hr.2.2 4 (by decide)).2.1 (hp.2.2 4 (by decide)).1 (qc_ltp hp.1 (by decide)) (hp.2.2 4 (by decide)).2.1 ⟨by decide, rfl⟩ ⟨by decide, rfl⟩ ⟨by decide, rfl⟩ (by decide) (by decide) (Nat.le_of_ble_eq_true rfl) eI12 ?_
  refine qj_aload_n cx dX4_copyFrom_130 rfl rfl ?_
  refine qw_getR (j := 12) (t1 := (r + 1 + 5)) cx dX4_copyFrom_131 qc_cl4 hr.2.1 (qc_ltp0 hr.1) rfl ww_190 ((hr.2.2 5 (by decide)).2.2 _) ?_
  refine qj_iconst (v := (0 : Int32)) cx dX4_copyFrom_134 (by decide) ?_
  refine qj_aload_n cx dX4_copyFrom_135 rfl rfl ?_
  refine qw_getR (j := 12) (t1 := (p + 1 + 5)) cx dX4_copyFrom_136 qc_cl4 hp.2.1 (qc_ltp0 hp.1) rfl ww_190 ((hp.2.2 5 (by decide)).2.2 _) ?_
  refine qj_iconst (v := (0 : Int32)) cx dX4_copyFrom_139 (by decide) ?_
  refine qj_bipush (v := (8 : Int32)) cx dX4_copyFrom_140 (by decide) ?_
  obtain ⟨I13, eI13, hP⟩ := qc_letE hP
  refine qw_copy (sp1 := 0) (dp1 := 0) (m1 := 8) cx dX4_copyFrom_142 ww_572 ww_543 ww_542 ww_124 (hr.2.2 5 (by decide)).1 (qc_ltp hr.1 (by decide)) (hr.2.2 5 (by decide)).2.1 (hp.2.2 5 (by decide)).1 (qc_ltp hp.1 (by decide)) (hp.2.2 5 (by decide)).2.1 ⟨by decide, rfl⟩ ⟨by decide, rfl⟩ ⟨by decide, rfl⟩ (by decide) (by decide) (Nat.le_of_ble_eq_true rfl) eI13 ?_
  refine qj_aload_n cx dX4_copyFrom_145 rfl rfl ?_
  refine qw_getR (j := 14) (t1 := (r + 1 + 7)) cx dX4_copyFrom_146 qc_cl4 hr.2.1 (qc_ltp0 hr.1) rfl ww_200 ((hr.2.2 7 (by decide)).2.2 _) ?_
  refine qj_iconst (v := (0 : Int32)) cx dX4_copyFrom_149 (by decide) ?_
  refine qj_aload_n cx dX4_copyFrom_150 rfl rfl ?_
  refine qw_getR (j := 14) (t1 := (p + 1 + 7)) cx dX4_copyFrom_151 qc_cl4 hp.2.1 (qc_ltp0 hp.1) rfl ww_200 ((hp.2.2 7 (by decide)).2.2 _) ?_
  refine qj_iconst (v := (0 : Int32)) cx dX4_copyFrom_154 (by decide) ?_
  refine qj_bipush (v := (8 : Int32)) cx dX4_copyFrom_155 (by decide) ?_
  obtain ⟨I14, eI14, hP⟩ := qc_letE hP
  refine qw_copy (sp1 := 0) (dp1 := 0) (m1 := 8) cx dX4_copyFrom_157 ww_572 ww_543 ww_542 ww_124 (hr.2.2 7 (by decide)).1 (qc_ltp hr.1 (by decide)) (hr.2.2 7 (by decide)).2.1 (hp.2.2 7 (by decide)).1 (qc_ltp hp.1 (by decide)) (hp.2.2 7 (by decide)).2.1 ⟨by decide, rfl⟩ ⟨by decide, rfl⟩ ⟨by decide, rfl⟩ (by decide) (by decide) (Nat.le_of_ble_eq_true rfl) eI14 ?_
  refine qj_aload_n cx dX4_copyFrom_160 rfl rfl ?_
  refine qw_getR (j := 15) (t1 := (r + 1 + 8)) cx dX4_copyFrom_161 qc_cl4 hr.2.1 (qc_ltp0 hr.1) rfl ww_205 ((hr.2.2 8 (by decide)).2.2 _) ?_
  refine qj_iconst (v := (0 : Int32)) cx dX4_copyFrom_164 (by decide) ?_
  refine qj_aload_n cx dX4_copyFrom_165 rfl rfl ?_
  refine qw_getR (j := 15) (t1 := (p + 1 + 8)) cx dX4_copyFrom_166 qc_cl4 hp.2.1 (qc_ltp0 hp.1) rfl ww_205 ((hp.2.2 8 (by decide)).2.2 _) ?_
  refine qj_iconst (v := (0 : Int32)) cx dX4_copyFrom_169 (by decide) ?_
  refine qj_bipush (v := (8 : Int32)) cx dX4_copyFrom_170 (by decide) ?_
  obtain ⟨I15, eI15, hP⟩ := qc_letE hP
  refine qw_copy (sp1 := 0) (dp1 := 0) (m1 := 8) cx dX4_copyFrom_172 ww_572 ww_543 ww_542 ww_124 (hr.2.2 8 (by decide)).1 (qc_ltp hr.1 (by decide)) (hr.2.2 8 (by decide)).2.1 (hp.2.2 8 (by decide)).1 (qc_ltp hp.1 (by decide)) (hp.2.2 8 (by decide)).2.1 ⟨by decide, rfl⟩ ⟨by decide, rfl⟩ ⟨by decide, rfl⟩ (by decide) (by decide) (Nat.le_of_ble_eq_true rfl) eI15 ?_
  refine qj_aload_n cx dX4_copyFrom_175 rfl rfl ?_
  refine qj_aload_n cx dX4_copyFrom_176 rfl rfl ?_
  obtain ⟨q16, eq16, hP⟩ := Option.bind_eq_some_iff.mp hP
  refine qj_callV (As := [.ref r]) (st := []) (t := p) (h' := (q16, J7, (rX w, kX, nX, n))) (r := none) cx dX4_copyFrom_177 (c_X4_copyChannels (I := I15) (J := J7) (w := w) hn hn1 hp hr eq16) gc_RX4_68 qm_X4_copyChannels rfl rfl qc_cl4 hp.2.1 (qc_ltp0 hp.1) (by decide) (by decide) rfl (Nat.le_of_ble_eq_true rfl) (Nat.le_trans hn1 (by decide)) hn0 rfl ?_
  exact qw_vret cx hz dX4_copyFrom_180 (Nat.zero_le _) (Nat.zero_le _) (congrArg (fun q => q.1) (Option.some.inj hP)) (congrArg (fun q => q.2) (Option.some.inj hP))
def P_X6_feed (I : Nat → Nat → Int32) (a : Int32) (b : Int32) (c : Int32) (d : Int32) (e : Int32) : Option (Int32 × (Nat → Nat → Int32)) :=
  if (I 0 1) + (20 : Int32) ≤ (700 : Int32) then
  (P_X6_putBytes I a).bind fun q2 =>
  (P_X6_putBytes q2 b).bind fun q3 =>
  (P_X6_putBytes q3 c).bind fun q4 =>
  (P_X6_putBytes q4 d).bind fun q5 =>
  (P_X6_putBytes q5 e).bind fun q6 =>
  some (q6 0 1, q6)
  else
  some ((-1 : Int32), I)
set_option maxRecDepth 20000 in
theorem c_X6_feed {I : Nat → Nat → Int32} {J : Nat → Nat → Int64} {w : Nat → Nat} {n : Nat} (hn : 121 ≤ n) (hn1 : n ≤ 200) {a : Int32} {b : Int32} {c : Int32} {d : Int32} {e : Int32} {q0 : Int32 × (Nat → Nat → Int32)} (hP : P_X6_feed I a b c d e = some q0) : ∀ l, qc_M l yX6_feed cX6_feed 6 (some .int) 1 22 0 0 [.ref 0, .int a, .int b, .int c, .int d, .int e] (I, J, (rX w, kX, nX, n)) (some (.int q0.1)) (q0.2, J, (rX w, kX, nX, n)) := by
  intro l
  refine qc_ent2 (by decide) (Nat.le_of_ble_eq_true rfl) ?_
  intro F hn0 cx hz
  have cx : qc_X F cX6_feed RX6 "feed" 1 0 0 22 := cx
  show qc_J F 0 0 0 [some (.ref 0), some (.int a), some (.int b), some (.int c), some (.int d), some (.int e)] [] (I, J, (rX w, kX, nX, n))
  unfold P_X6_feed at hP
  refine qj_aload_n cx dX6_feed_0 rfl rfl ?_
  refine qw_getI (j := 1) cx dX6_feed_1 qc_cl6 rfl (Nat.lt_of_lt_of_le (by decide) hn) rfl ww_331 ?_
  refine qj_bipush (v := (20 : Int32)) cx dX6_feed_4 (by decide) ?_
  refine qj_iadd cx dX6_feed_6 ?_
  refine qj_sipush (v := (700 : Int32)) cx dX6_feed_7 (by decide) ?_
  refine qj_icmp_le (tgt := 15) cx dX6_feed_10 (by decide) (fun c1 => ?_) (fun c1 => ?_)
  · have hP := qc_ifT hP c1
    refine qj_aload_n cx dX6_feed_15 rfl rfl ?_
    refine qj_iload_n cx dX6_feed_16 rfl rfl ?_
    obtain ⟨q2, eq2, hP⟩ := Option.bind_eq_some_iff.mp hP
    refine qj_callV (As := [.int a]) (st := []) (t := 0) (h' := (q2, J, (rX w, kX, nX, n))) (r := none) cx dX6_feed_17 (c_X6_putBytes (I := I) (J := J) (w := w) hn hn1 eq2) gc_RX6_65 qm_X6_putBytes rfl rfl qc_cl6 rfl (Nat.lt_of_lt_of_le (by decide) hn) (by decide) (by decide) rfl (Nat.le_of_ble_eq_true rfl) (Nat.le_trans hn1 (by decide)) hn0 rfl ?_
    refine qj_aload_n cx dX6_feed_20 rfl rfl ?_
    refine qj_iload_n cx dX6_feed_21 rfl rfl ?_
    obtain ⟨q3, eq3, hP⟩ := Option.bind_eq_some_iff.mp hP
    refine qj_callV (As := [.int b]) (st := []) (t := 0) (h' := (q3, J, (rX w, kX, nX, n))) (r := none) cx dX6_feed_22 (c_X6_putBytes (I := q2) (J := J) (w := w) hn hn1 eq3) gc_RX6_65 qm_X6_putBytes rfl rfl qc_cl6 rfl (Nat.lt_of_lt_of_le (by decide) hn) (by decide) (by decide) rfl (Nat.le_of_ble_eq_true rfl) (Nat.le_trans hn1 (by decide)) hn0 rfl ?_
    refine qj_aload_n cx dX6_feed_25 rfl rfl ?_
    refine qj_iload_n cx dX6_feed_26 rfl rfl ?_
    obtain ⟨q4, eq4, hP⟩ := Option.bind_eq_some_iff.mp hP
    refine qj_callV (As := [.int c]) (st := []) (t := 0) (h' := (q4, J, (rX w, kX, nX, n))) (r := none) cx dX6_feed_27 (c_X6_putBytes (I := q3) (J := J) (w := w) hn hn1 eq4) gc_RX6_65 qm_X6_putBytes rfl rfl qc_cl6 rfl (Nat.lt_of_lt_of_le (by decide) hn) (by decide) (by decide) rfl (Nat.le_of_ble_eq_true rfl) (Nat.le_trans hn1 (by decide)) hn0 rfl ?_
    refine qj_aload_n cx dX6_feed_30 rfl rfl ?_
    refine qj_iload cx dX6_feed_31 rfl ?_
    obtain ⟨q5, eq5, hP⟩ := Option.bind_eq_some_iff.mp hP
    refine qj_callV (As := [.int d]) (st := []) (t := 0) (h' := (q5, J, (rX w, kX, nX, n))) (r := none) cx dX6_feed_33 (c_X6_putBytes (I := q4) (J := J) (w := w) hn hn1 eq5) gc_RX6_65 qm_X6_putBytes rfl rfl qc_cl6 rfl (Nat.lt_of_lt_of_le (by decide) hn) (by decide) (by decide) rfl (Nat.le_of_ble_eq_true rfl) (Nat.le_trans hn1 (by decide)) hn0 rfl ?_
    refine qj_aload_n cx dX6_feed_36 rfl rfl ?_
    refine qj_iload cx dX6_feed_37 rfl ?_
    obtain ⟨q6, eq6, hP⟩ := Option.bind_eq_some_iff.mp hP
    refine qj_callV (As := [.int e]) (st := []) (t := 0) (h' := (q6, J, (rX w, kX, nX, n))) (r := none) cx dX6_feed_39 (c_X6_putBytes (I := q5) (J := J) (w := w) hn hn1 eq6) gc_RX6_65 qm_X6_putBytes rfl rfl qc_cl6 rfl (Nat.lt_of_lt_of_le (by decide) hn) (by decide) (by decide) rfl (Nat.le_of_ble_eq_true rfl) (Nat.le_trans hn1 (by decide)) hn0 rfl ?_
    refine qj_aload_n cx dX6_feed_42 rfl rfl ?_
    refine qw_getI (j := 1) cx dX6_feed_43 qc_cl6 rfl (Nat.lt_of_lt_of_le (by decide) hn) rfl ww_331 ?_
    exact qw_iret cx hz dX6_feed_46 (Nat.zero_le _) (Nat.zero_le _) (congrArg (fun q => q.1) (Option.some.inj hP)) (congrArg (fun q => q.2) (Option.some.inj hP)) rfl
  · have hP := qc_ifF hP c1
    refine qj_iconst (v := (-1 : Int32)) cx dX6_feed_13 (by decide) ?_
    exact qw_iret cx hz dX6_feed_14 (Nat.zero_le _) (Nat.zero_le _) (congrArg (fun q => q.1) (Option.some.inj hP)) (congrArg (fun q => q.2) (Option.some.inj hP)) rfl
